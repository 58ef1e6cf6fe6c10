section
-- 03.w18
def w_X11_sum (x1 : Int32) (x2 : Int32) (x3 : Int32) (h : HI) (g : HL) (Q : Int32 → HI → HL → Prop) : Prop :=
  (∃ P_3 : Int32 → HI → HL → Prop, w_X11_is (2 : Int32) x1 h g P_3 ∧ ∀ (r_3 : Int32) (h_3 : HI) (g_3 : HL), zb r_3 → P_3 r_3 h_3 g_3 → ((r_3 = 0 → Q (-2100000000 : Int32) h_3 g_3) ∧ (¬ r_3 = 0 → (∃ P_10 : Int32 → HI → HL → Prop, w_X11_isYear x2 h_3 g_3 P_10 ∧ ∀ (r_10 : Int32) (h_10 : HI) (g_10 : HL), zb r_10 → P_10 r_10 h_10 g_10 → ((r_10 = 0 → Q (-2100000000 : Int32) h_10 g_10) ∧ (¬ r_10 = 0 → (∃ P_22 : Int32 → HI → HL → Prop, w_X11_in ((x3).toInt64) (0 : Int64) (2 : Int64) h_10 g_10 P_22 ∧ ∀ (r_22 : Int32) (h_22 : HI) (g_22 : HL), zb r_22 → P_22 r_22 h_22 g_22 → ((¬ r_22 = 0 → ((¬ x3 = (2 : Int32) → (∃ P_60 : Int32 → HI → HL → Prop, w_X11_sums x1 x2 (-1 : Int32) (-2 : Int32) h_22 g_22 P_60 ∧ ∀ (r_60 : Int32) (h_60 : HI) (g_60 : HL), zb r_60 → P_60 r_60 h_60 g_60 → ((¬ r_60 = 0 → ((¬ x3 = 0 → Q (h_60 135 19) h_60 g_60) ∧ (x3 = 0 → Q (h_60 135 18) h_60 g_60))) ∧ (r_60 = 0 → Q (-2000000000 : Int32) h_60 g_60)))) ∧ (x3 = (2 : Int32) → (∃ P_42 : Int32 → HI → HL → Prop, w_X11_holds0 x1 x2 (-1 : Int32) (-2 : Int32) h_22 g_22 P_42 ∧ ∀ (r_42 : Int32) (h_42 : HI) (g_42 : HL), zb r_42 → P_42 r_42 h_42 g_42 → ((r_42 = 0 → Q (0 : Int32) h_42 g_42) ∧ (¬ r_42 = 0 → Q (1 : Int32) h_42 g_42)))))) ∧ (r_22 = 0 → Q (-2100000000 : Int32) h_22 g_22)))))))))
set_option maxHeartbeats 8000000 in
set_option maxRecDepth 100000 in
theorem m_X11_sum (l : Launch) (D : va_G) (cy : Nat → ClassId) (ad : Nat → Nat) (h : HI) (g : HL) (sz : Nat) (x1 : Int32) (x2 : Int32) (x3 : Int32) (Q : Int32 → HI → HL → Prop) (HW : w_X11_sum x1 x2 x3 h g Q) : Met l yX11_sum (wa yX11_sum cX11_sum 4 (some .int)) ({ frames := 10, cells := 0, slots := 0, locals := 242 }) (va_Pc [.ref (ad 135), .int x1, .int x2, .int x3] (gI D cy ad h g sz)) (va_Qi (fun (r : Int32) (u : HI × HL) => Q r u.1 u.2) (gB D cy ad sz) (gA ad sz)) 0 0 (gA ad sz) := by
  refine Met.ofW (cc := cX11_sum) (maxL := 4) (ret := (some .int)) (by decide) rfl ?_
  intro p e s m args below meth c s₁ B hml hv
  obtain ⟨hav, hsz, hP, hK, hD0, hNw⟩ := hv
  have hx := B.exec
  have hb := B.bytes
  have hr := B.returns
  have hts := atoms_spec (ws := (wa yX11_sum cX11_sum 4 (some .int))) B.pre
  have hw := wa_hw hts
  have hown : s.vm.findClass RX11 = some m.cls := findClass_of_methodNamed B.named
  have hlocks := B.notSynchronized
  subst hsz
  have hG : gG D cy ad (gA ad s.heap.size) s.heap h g s.heap [] := ⟨hP, gA_self hD0, va_S.rf⟩
  clear hP hD0
  have cn221 := hw (.constant RX11 221 (-2100000000)) (wm6 41 rfl rfl)
  have cn185 := hw (.constantLong RX11 185 (2)) (wm5 221 rfl rfl)
  have lk214 := hw (.fieldLink RX11 214 "OldWorksModel" "sumHigh" "I") (wm5 46 rfl rfl)
  have lk211 := hw (.fieldLink RX11 211 "OldWorksModel" "sumLow" "I") (wm5 45 rfl rfl)
  have cn225 := hw (.constant RX11 225 (-2000000000)) (wm6 50 rfl rfl)
  rw [show (headSpec (wa yX11_sum cX11_sum 4 (some .int)) ({ frames := 10, cells := 0, slots := 0, locals := 242 } : Room)).room = ({ frames := 10, cells := 0, slots := 0, locals := 242 } : Room) from rfl]
  have hl := lv_entry ([.ref (ad 135), .int x1, .int x2, .int x3]) (n := 4) (Nat.le_of_ble_eq_true rfl)
  rw [show entryFrame m args 4 = entryFrame m ([.ref (ad 135), .int x1, .int x2, .int x3] : List Value).toArray 4 from by rw [hav], lg_entry_eq]
  generalize (lg_sl ([.ref (ad 135), .int x1, .int x2, .int x3]) ++ List.replicate (4 - (lg_sl ([.ref (ad 135), .int x1, .int x2, .int x3])).length) Slot.unset).toArray = ls at hl ⊢
  have hl : lv_has ls 4 [(0, .ref (ad 135)), (1, .int x1), (2, .int x2), (3, .int x3)] := hl
  have E0 : ∀ (H : Heap) (locs : List Loc) (ls : Array Slot), gG D cy ad (gA ad s.heap.size) s.heap h g H locs → lv_has ls 4 [(0, .ref (ad 135)), (1, .int x1), (2, .int x2), (3, .int x3)] → W p l e ({ frames := 10, cells := 0, slots := 0, locals := 242 } : Room) s m args below meth c H locs 0 0 (MQ below (va_Qi (fun (r : Int32) (u : HI × HL) => Q r u.1 u.2) (gB D cy ad s.heap.size) (gA ad s.heap.size)) args s 0 0 (gA ad s.heap.size)) (F0 m 0 ls []) := by
    intro H locs ls hG hl
    unfold w_X11_sum at HW
    refine lv_aload_n hx hb dX11_sum_0 rfl (lv_at hl 0 rfl) ?_
    refine lv_iconst (v := 2) hx hb dX11_sum_1 (by decide) ?_
    refine lv_iload_n hx hb dX11_sum_2 rfl (lv_at hl 1 rfl) ?_
    obtain ⟨P_3, HC_3, HW⟩ := HW
    refine g_callz (g_runV (As := [.int (2 : Int32), .int x1]) (rest := []) ⟨hx, hb, hml, hown, hts⟩ (m_X11_is l D cy ad h g H.size (2 : Int32) x1 P_3 HC_3) (cwV 2 hts (gd_V (wm5 184 rfl rfl) (wm5 186 rfl rfl) (wmp3 (q := (yX11_is, 26)) 14 rfl) (wm1 13 rfl rfl) (wm5 187 rfl rfl)) rfl rfl rfl (by decide +kernel) ⟨Nat.le_of_ble_eq_true rfl, Nat.le_of_ble_eq_true rfl⟩) hK hNw hG gl_135 rfl gk_135 (by decide) rfl rfl hl.1 rfl (lv_room (Nat.le_of_ble_eq_true rfl)) dX11_sum_3 ⟨Nat.zero_le _, Nat.zero_le _⟩) hG (fun r_3 h_3 g_3 H locs hz hq hG => ?_)
    replace HW := HW r_3 h_3 g_3 hz hq
    refine lv_if_eq (tgt := 28) hx hb dX11_sum_6 (by decide) (fun c_6 => ?_) (fun c_6 => ?_)
    · replace HW := HW.1 c_6
      refine lv_ldc (v := (-2100000000)) hx hb hown cn221 dX11_sum_28 ?_
      exact W.iret (v := (-2100000000 : Int32)) hx hb hr (fun t ht hW => ⟨⟨(-2100000000 : Int32), (h_3, g_3), rfl, HW, g_B ht hG⟩, hG.2.2.F ht⟩) hG.2.2.2.2 dX11_sum_30
    · replace HW := HW.2 c_6
      refine lv_iload_n hx hb dX11_sum_9 rfl (lv_at hl 2 rfl) ?_
      obtain ⟨P_10, HC_10, HW⟩ := HW
      refine g_callz (g_runS (As := [.int x2]) (rest := []) ⟨hx, hb, hml, hown, hts⟩ (m_X11_isYear l D cy ad h_3 g_3 H.size x2 P_10 HC_10) (va_cwS 1 hts (gd_S (wm5 114 rfl rfl) (wm5 115 rfl rfl) (wm1 13 rfl rfl) (wm5 116 rfl rfl)) rfl rfl rfl (by decide +kernel) ⟨Nat.le_of_ble_eq_true rfl, Nat.le_of_ble_eq_true rfl⟩) hK hNw hG rfl rfl hl.1 rfl (lv_room (Nat.le_of_ble_eq_true rfl)) dX11_sum_10 ⟨Nat.zero_le _, Nat.zero_le _⟩) hG (fun r_10 h_10 g_10 H locs hz hq hG => ?_)
      replace HW := HW r_10 h_10 g_10 hz hq
      refine lv_if_eq (tgt := 28) hx hb dX11_sum_13 (by decide) (fun c_13 => ?_) (fun c_13 => ?_)
      · replace HW := HW.1 c_13
        refine lv_ldc (v := (-2100000000)) hx hb hown cn221 dX11_sum_28 ?_
        exact W.iret (v := (-2100000000 : Int32)) hx hb hr (fun t ht hW => ⟨⟨(-2100000000 : Int32), (h_10, g_10), rfl, HW, g_B ht hG⟩, hG.2.2.F ht⟩) hG.2.2.2.2 dX11_sum_30
      · replace HW := HW.2 c_13
        refine lv_iload_n hx hb dX11_sum_16 rfl (lv_at hl 3 rfl) ?_
        refine lv_i2l hx hb dX11_sum_17 rfl ?_
        refine lv_lconst (v := 0) hx hb dX11_sum_18 (by decide) ?_
        refine lv_ldc2 (v := 2) hx hb hown cn185 dX11_sum_19 ?_
        obtain ⟨P_22, HC_22, HW⟩ := HW
        refine g_callz (g_runS (As := [.long ((x3).toInt64), .long (0 : Int64), .long (2 : Int64)]) (rest := []) ⟨hx, hb, hml, hown, hts⟩ (m_X11_in l D cy ad h_10 g_10 H.size ((x3).toInt64) (0 : Int64) (2 : Int64) P_22 HC_22) (va_cwS 3 hts (gd_S (wm5 111 rfl rfl) (wm5 112 rfl rfl) (wm1 13 rfl rfl) (wm5 113 rfl rfl)) rfl rfl rfl (by decide +kernel) ⟨Nat.le_of_ble_eq_true rfl, Nat.le_of_ble_eq_true rfl⟩) hK hNw hG rfl rfl hl.1 rfl (lv_room (Nat.le_of_ble_eq_true rfl)) dX11_sum_22 ⟨Nat.zero_le _, Nat.zero_le _⟩) hG (fun r_22 h_22 g_22 H locs hz hq hG => ?_)
        replace HW := HW r_22 h_22 g_22 hz hq
        refine lv_if_ne (tgt := 31) hx hb dX11_sum_25 (by decide) (fun c_25 => ?_) (fun c_25 => ?_)
        · replace HW := HW.1 c_25
          refine lv_iload_n hx hb dX11_sum_31 rfl (lv_at hl 3 rfl) ?_
          refine lv_iconst (v := 2) hx hb dX11_sum_32 (by decide) ?_
          refine lv_icmp_ne (tgt := 54) hx hb dX11_sum_33 (by decide) (fun c_33 => ?_) (fun c_33 => ?_)
          · replace HW := HW.1 c_33
            refine lv_aload_n hx hb dX11_sum_54 rfl (lv_at hl 0 rfl) ?_
            refine lv_iload_n hx hb dX11_sum_55 rfl (lv_at hl 1 rfl) ?_
            refine lv_iload_n hx hb dX11_sum_56 rfl (lv_at hl 2 rfl) ?_
            refine lv_iconst (v := (-1)) hx hb dX11_sum_57 (by decide) ?_
            refine lv_bipush (v := (-2)) hx hb dX11_sum_58 (by decide) ?_
            obtain ⟨P_60, HC_60, HW⟩ := HW
            refine g_callz (g_runV (As := [.int x1, .int x2, .int (-1 : Int32), .int (-2 : Int32)]) (rest := []) ⟨hx, hb, hml, hown, hts⟩ (m_X11_sums l D cy ad h_22 g_22 H.size x1 x2 (-1 : Int32) (-2 : Int32) P_60 HC_60) (cwV 4 hts (gd_V (wm6 46 rfl rfl) (wm6 48 rfl rfl) (wmp4 (q := (yX11_sums, 26)) 14 rfl) (wm1 13 rfl rfl) (wm6 49 rfl rfl)) rfl rfl rfl (by decide +kernel) ⟨Nat.le_of_ble_eq_true rfl, Nat.le_of_ble_eq_true rfl⟩) hK hNw hG gl_135 rfl gk_135 (by decide) rfl rfl hl.1 rfl (lv_room (Nat.le_of_ble_eq_true rfl)) dX11_sum_60 ⟨Nat.zero_le _, Nat.zero_le _⟩) hG (fun r_60 h_60 g_60 H locs hz hq hG => ?_)
            replace HW := HW r_60 h_60 g_60 hz hq
            refine lv_if_ne (tgt := 71) hx hb dX11_sum_63 (by decide) (fun c_63 => ?_) (fun c_63 => ?_)
            · replace HW := HW.1 c_63
              refine lv_iload_n hx hb dX11_sum_71 rfl (lv_at hl 3 rfl) ?_
              refine lv_if_ne (tgt := 82) hx hb dX11_sum_72 (by decide) (fun c_72 => ?_) (fun c_72 => ?_)
              · replace HW := HW.1 c_72
                refine lv_aload_n hx hb dX11_sum_82 rfl (lv_at hl 0 rfl) ?_
                refine g_geti hx hb hw inG11 hown hK hG gl_135 rfl gk_135 (by decide) 19 (by decide) (by rw [gm_135]; decide) gr_135_19 lk214 dX11_sum_83 ?_
                exact W.iret (v := (h_60 135 19)) hx hb hr (fun t ht hW => ⟨⟨(h_60 135 19), (h_60, g_60), rfl, HW, g_B ht hG⟩, hG.2.2.F ht⟩) hG.2.2.2.2 dX11_sum_86
              · replace HW := HW.2 c_72
                refine lv_aload_n hx hb dX11_sum_75 rfl (lv_at hl 0 rfl) ?_
                refine g_geti hx hb hw inG11 hown hK hG gl_135 rfl gk_135 (by decide) 18 (by decide) (by rw [gm_135]; decide) gr_135_18 lk211 dX11_sum_76 ?_
                refine lv_goto (tgt := 86) hx hb dX11_sum_79 (by decide) ?_
                exact W.iret (v := (h_60 135 18)) hx hb hr (fun t ht hW => ⟨⟨(h_60 135 18), (h_60, g_60), rfl, HW, g_B ht hG⟩, hG.2.2.F ht⟩) hG.2.2.2.2 dX11_sum_86
            · replace HW := HW.2 c_63
              refine lv_ldc (v := (-2000000000)) hx hb hown cn225 dX11_sum_66 ?_
              refine lv_goto (tgt := 86) hx hb dX11_sum_68 (by decide) ?_
              exact W.iret (v := (-2000000000 : Int32)) hx hb hr (fun t ht hW => ⟨⟨(-2000000000 : Int32), (h_60, g_60), rfl, HW, g_B ht hG⟩, hG.2.2.F ht⟩) hG.2.2.2.2 dX11_sum_86
          · replace HW := HW.2 c_33
            refine lv_aload_n hx hb dX11_sum_36 rfl (lv_at hl 0 rfl) ?_
            refine lv_iload_n hx hb dX11_sum_37 rfl (lv_at hl 1 rfl) ?_
            refine lv_iload_n hx hb dX11_sum_38 rfl (lv_at hl 2 rfl) ?_
            refine lv_iconst (v := (-1)) hx hb dX11_sum_39 (by decide) ?_
            refine lv_bipush (v := (-2)) hx hb dX11_sum_40 (by decide) ?_
            obtain ⟨P_42, HC_42, HW⟩ := HW
            refine g_callz (g_runV (As := [.int x1, .int x2, .int (-1 : Int32), .int (-2 : Int32)]) (rest := []) ⟨hx, hb, hml, hown, hts⟩ (m_X11_holds0 l D cy ad h_22 g_22 H.size x1 x2 (-1 : Int32) (-2 : Int32) P_42 HC_42) (cwV 4 hts (gd_V (wm6 42 rfl rfl) (wm6 44 rfl rfl) (wmp4 (q := (yX11_holds0, 26)) 13 rfl) (wm1 13 rfl rfl) (wm6 45 rfl rfl)) rfl rfl rfl (by decide +kernel) ⟨Nat.le_of_ble_eq_true rfl, Nat.le_of_ble_eq_true rfl⟩) hK hNw hG gl_135 rfl gk_135 (by decide) rfl rfl hl.1 rfl (lv_room (Nat.le_of_ble_eq_true rfl)) dX11_sum_42 ⟨Nat.zero_le _, Nat.zero_le _⟩) hG (fun r_42 h_42 g_42 H locs hz hq hG => ?_)
            replace HW := HW r_42 h_42 g_42 hz hq
            refine lv_if_eq (tgt := 52) hx hb dX11_sum_45 (by decide) (fun c_45 => ?_) (fun c_45 => ?_)
            · replace HW := HW.1 c_45
              refine lv_iconst (v := 0) hx hb dX11_sum_52 (by decide) ?_
              exact W.iret (v := (0 : Int32)) hx hb hr (fun t ht hW => ⟨⟨(0 : Int32), (h_42, g_42), rfl, HW, g_B ht hG⟩, hG.2.2.F ht⟩) hG.2.2.2.2 dX11_sum_53
            · replace HW := HW.2 c_45
              refine lv_iconst (v := 1) hx hb dX11_sum_48 (by decide) ?_
              refine lv_goto (tgt := 53) hx hb dX11_sum_49 (by decide) ?_
              exact W.iret (v := (1 : Int32)) hx hb hr (fun t ht hW => ⟨⟨(1 : Int32), (h_42, g_42), rfl, HW, g_B ht hG⟩, hG.2.2.F ht⟩) hG.2.2.2.2 dX11_sum_53
        · replace HW := HW.2 c_25
          refine lv_ldc (v := (-2100000000)) hx hb hown cn221 dX11_sum_28 ?_
          exact W.iret (v := (-2100000000 : Int32)) hx hb hr (fun t ht hW => ⟨⟨(-2100000000 : Int32), (h_22, g_22), rfl, HW, g_B ht hG⟩, hG.2.2.F ht⟩) hG.2.2.2.2 dX11_sum_30
  exact E0 _ _ _ hG hl

def j_X11_stands_81 (Q : Int32 → HI → HL → Prop) (K36 : Int32 → Int32 → Int32 → Int32 → HI → HL → Prop) (x1 : Int32) (x2 : Int32) (x3 : Int32) (x4 : Int32) (h : HI) (g : HL) : Prop :=
  (∀ x4_81 : Int32, x4_81 = (x4 + 1) → K36 x1 x2 x3 x4_81 h g)
def b_X11_stands_36 (Q : Int32 → HI → HL → Prop) (K36 : Int32 → Int32 → Int32 → Int32 → HI → HL → Prop) (x1 : Int32) (x2 : Int32) (x3 : Int32) (x4 : Int32) (h : HI) (g : HL) : Prop :=
  (vp_in (2 : Int32) 887 ∧ (((h 136 (2 : Int32).toNatClampNeg) ≤ x4 → Q (1 : Int32) h g) ∧ (¬ (h 136 (2 : Int32).toNatClampNeg) ≤ x4 → (∃ P_51 : Int32 → HI → HL → Prop, w_X11_has x4 x2 h g P_51 ∧ ∀ (r_51 : Int32) (h_51 : HI) (g_51 : HL), zb r_51 → P_51 r_51 h_51 g_51 → ((r_51 = 0 → j_X11_stands_81 Q K36 x1 x2 x3 x4 h_51 g_51) ∧ (¬ r_51 = 0 → (∃ P_61 : Int32 → HI → HL → Prop, w_X11_has x4 x1 h_51 g_51 P_61 ∧ ∀ (r_61 : Int32) (h_61 : HI) (g_61 : HL), zb r_61 → P_61 r_61 h_61 g_61 → ((¬ r_61 = 0 → Q (0 : Int32) h_61 g_61) ∧ (r_61 = 0 → (∃ P_73 : Int32 → HI → HL → Prop, w_X11_holds0 x4 x3 x1 x2 h_61 g_61 P_73 ∧ ∀ (r_73 : Int32) (h_73 : HI) (g_73 : HL), zb r_73 → P_73 r_73 h_73 g_73 → ((¬ r_73 = 0 → j_X11_stands_81 Q K36 x1 x2 x3 x4 h_73 g_73) ∧ (r_73 = 0 → Q (0 : Int32) h_73 g_73))))))))))))
def F_X11_stands_36 (Q : Int32 → HI → HL → Prop) (K : Int32 × Int32 × Int32 × Int32 × HI × HL → Prop) (q : Int32 × Int32 × Int32 × Int32 × HI × HL) : Prop := b_X11_stands_36 Q (fun x1 x2 x3 x4 h g => K (x1, x2, x3, x4, h, g)) q.1 q.2.1 q.2.2.1 q.2.2.2.1 q.2.2.2.2.1 q.2.2.2.2.2
def w_X11_stands (x1 : Int32) (x2 : Int32) (x3 : Int32) (h : HI) (g : HL) (Q : Int32 → HI → HL → Prop) : Prop :=
  (∃ P_3 : Int32 → HI → HL → Prop, w_X11_is (0 : Int32) x1 h g P_3 ∧ ∀ (r_3 : Int32) (h_3 : HI) (g_3 : HL), zb r_3 → P_3 r_3 h_3 g_3 → ((r_3 = 0 → Q (-2 : Int32) h_3 g_3) ∧ (¬ r_3 = 0 → (∃ P_12 : Int32 → HI → HL → Prop, w_X11_is (0 : Int32) x2 h_3 g_3 P_12 ∧ ∀ (r_12 : Int32) (h_12 : HI) (g_12 : HL), zb r_12 → P_12 r_12 h_12 g_12 → ((r_12 = 0 → Q (-2 : Int32) h_12 g_12) ∧ (¬ r_12 = 0 → ((x1 = x2 → Q (-2 : Int32) h_12 g_12) ∧ (¬ x1 = x2 → (∃ P_24 : Int32 → HI → HL → Prop, w_X11_isYear x3 h_12 g_12 P_24 ∧ ∀ (r_24 : Int32) (h_24 : HI) (g_24 : HL), zb r_24 → P_24 r_24 h_24 g_24 → ((¬ r_24 = 0 → lpE (F_X11_stands_36 Q) (x1, x2, x3, (0 : Int32), h_24, g_24)) ∧ (r_24 = 0 → Q (-2 : Int32) h_24 g_24)))))))))))
set_option maxHeartbeats 8000000 in
set_option maxRecDepth 100000 in
theorem m_X11_stands (l : Launch) (D : va_G) (cy : Nat → ClassId) (ad : Nat → Nat) (h : HI) (g : HL) (sz : Nat) (x1 : Int32) (x2 : Int32) (x3 : Int32) (Q : Int32 → HI → HL → Prop) (HW : w_X11_stands x1 x2 x3 h g Q) : Met l yX11_stands (wa yX11_stands cX11_stands 5 (some .int)) ({ frames := 10, cells := 0, slots := 0, locals := 242 }) (va_Pc [.ref (ad 135), .int x1, .int x2, .int x3] (gI D cy ad h g sz)) (va_Qi (fun (r : Int32) (u : HI × HL) => Q r u.1 u.2) (gB D cy ad sz) (gA ad sz)) 0 0 (gA ad sz) := by
  refine Met.ofW (cc := cX11_stands) (maxL := 5) (ret := (some .int)) (by decide) rfl ?_
  intro p e s m args below meth c s₁ B hml hv
  obtain ⟨hav, hsz, hP, hK, hD0, hNw⟩ := hv
  have hx := B.exec
  have hb := B.bytes
  have hr := B.returns
  have hts := atoms_spec (ws := (wa yX11_stands cX11_stands 5 (some .int))) B.pre
  have hw := wa_hw hts
  have hown : s.vm.findClass RX11 = some m.cls := findClass_of_methodNamed B.named
  have hlocks := B.notSynchronized
  subst hsz
  have hG : gG D cy ad (gA ad s.heap.size) s.heap h g s.heap [] := ⟨hP, gA_self hD0, va_S.rf⟩
  clear hP hD0
  have lk7 := hw (.fieldLink RX11 7 "OldWorksModel" "st" "[I") (wm5 27 rfl rfl)
  rw [show (headSpec (wa yX11_stands cX11_stands 5 (some .int)) ({ frames := 10, cells := 0, slots := 0, locals := 242 } : Room)).room = ({ frames := 10, cells := 0, slots := 0, locals := 242 } : Room) from rfl]
  have hl := lv_entry ([.ref (ad 135), .int x1, .int x2, .int x3]) (n := 5) (Nat.le_of_ble_eq_true rfl)
  rw [show entryFrame m args 5 = entryFrame m ([.ref (ad 135), .int x1, .int x2, .int x3] : List Value).toArray 5 from by rw [hav], lg_entry_eq]
  generalize (lg_sl ([.ref (ad 135), .int x1, .int x2, .int x3]) ++ List.replicate (5 - (lg_sl ([.ref (ad 135), .int x1, .int x2, .int x3])).length) Slot.unset).toArray = ls at hl ⊢
  have hl : lv_has ls 5 [(0, .ref (ad 135)), (1, .int x1), (2, .int x2), (3, .int x3)] := hl
  have B81 : ∀ (K36 : Int32 → Int32 → Int32 → Int32 → HI → HL → Prop) (hK36 : ∀ (x1 : Int32) (x2 : Int32) (x3 : Int32) (x4 : Int32) (h : HI) (g : HL) (H : Heap) (locs : List Loc) (ls : Array Slot), K36 x1 x2 x3 x4 h g → gG D cy ad (gA ad s.heap.size) s.heap h g H locs → lv_has ls 5 [(0, .ref (ad 135)), (1, .int x1), (2, .int x2), (3, .int x3), (4, .int x4)] → W p l e ({ frames := 10, cells := 0, slots := 0, locals := 242 } : Room) s m args below meth c H locs 0 0 (MQ below (va_Qi (fun (r : Int32) (u : HI × HL) => Q r u.1 u.2) (gB D cy ad s.heap.size) (gA ad s.heap.size)) args s 0 0 (gA ad s.heap.size)) (F0 m 36 ls [])) (x1 : Int32) (x2 : Int32) (x3 : Int32) (x4 : Int32) (h : HI) (g : HL) (H : Heap) (locs : List Loc) (ls : Array Slot), j_X11_stands_81 Q K36 x1 x2 x3 x4 h g → gG D cy ad (gA ad s.heap.size) s.heap h g H locs → lv_has ls 5 [(0, .ref (ad 135)), (1, .int x1), (2, .int x2), (3, .int x3), (4, .int x4)] → W p l e ({ frames := 10, cells := 0, slots := 0, locals := 242 } : Room) s m args below meth c H locs 0 0 (MQ below (va_Qi (fun (r : Int32) (u : HI × HL) => Q r u.1 u.2) (gB D cy ad s.heap.size) (gA ad s.heap.size)) args s 0 0 (gA ad s.heap.size)) (F0 m 81 ls []) := by
    intro K36 hK36 x1 x2 x3 x4 h g H locs ls HW hG hl
    unfold j_X11_stands_81 at HW
    obtain ⟨x4_81, ex4_81⟩ : ∃ y : Int32, y = (x4 + 1) := ⟨_, rfl⟩
    replace HW := HW x4_81 ex4_81
    refine lv_iinc (v := x4_81) (lv' := [(4, .int x4_81), (0, .ref (ad 135)), (1, .int x1), (2, .int x2), (3, .int x3)]) hx hb dX11_stands_81 hl (k := 4) rfl (by rw [ex4_81]; rfl) (by decide) rfl (fun ls hl => ?_)
    refine lv_goto (tgt := 36) hx hb dX11_stands_84 (by decide) ?_
    exact hK36 x1 x2 x3 x4_81 h g _ _ _ HW hG (lv_sub hl [1, 2, 3, 4, 0] rfl)
  have L36 : ∀ (n : Nat) (x1 : Int32) (x2 : Int32) (x3 : Int32) (x4 : Int32) (h : HI) (g : HL) (H : Heap) (locs : List Loc) (ls : Array Slot), lpN (F_X11_stands_36 Q) n (x1, x2, x3, x4, h, g) → gG D cy ad (gA ad s.heap.size) s.heap h g H locs → lv_has ls 5 [(0, .ref (ad 135)), (1, .int x1), (2, .int x2), (3, .int x3), (4, .int x4)] → W p l e ({ frames := 10, cells := 0, slots := 0, locals := 242 } : Room) s m args below meth c H locs 0 0 (MQ below (va_Qi (fun (r : Int32) (u : HI × HL) => Q r u.1 u.2) (gB D cy ad s.heap.size) (gA ad s.heap.size)) args s 0 0 (gA ad s.heap.size)) (F0 m 36 ls []) := by
    intro n
    induction n with
    | zero => intro x1 x2 x3 x4 h g H locs ls HW; exact HW.elim
    | succ n ih =>
      intro x1 x2 x3 x4 h g H locs ls HW hG hl
      have HW : b_X11_stands_36 Q (fun x1 x2 x3 x4 h g => lpN (F_X11_stands_36 Q) n (x1, x2, x3, x4, h, g)) x1 x2 x3 x4 h g := HW
      generalize hKe : (fun (x1 : Int32) (x2 : Int32) (x3 : Int32) (x4 : Int32) (h : HI) (g : HL) => lpN (F_X11_stands_36 Q) n (x1, x2, x3, x4, h, g)) = K36 at HW
      have hK36 : ∀ (x1 : Int32) (x2 : Int32) (x3 : Int32) (x4 : Int32) (h : HI) (g : HL) (H : Heap) (locs : List Loc) (ls : Array Slot), K36 x1 x2 x3 x4 h g → gG D cy ad (gA ad s.heap.size) s.heap h g H locs → lv_has ls 5 [(0, .ref (ad 135)), (1, .int x1), (2, .int x2), (3, .int x3), (4, .int x4)] → W p l e ({ frames := 10, cells := 0, slots := 0, locals := 242 } : Room) s m args below meth c H locs 0 0 (MQ below (va_Qi (fun (r : Int32) (u : HI × HL) => Q r u.1 u.2) (gB D cy ad s.heap.size) (gA ad s.heap.size)) args s 0 0 (gA ad s.heap.size)) (F0 m 36 ls []) := by subst hKe; exact ih
      clear ih
      clear hKe
      unfold b_X11_stands_36 at HW
      refine lv_iload hx hb dX11_stands_36 (lv_at hl 4 rfl) ?_
      refine lv_aload_n hx hb dX11_stands_38 rfl (lv_at hl 0 rfl) ?_
      refine g_getr hx hb hw inG11 hown hK hG gl_135 rfl gk_135 (by decide) 0 (by decide) (by rw [gm_135]; decide) (r := 136) gr_135_0 lk7 dX11_stands_39 ?_
      refine lv_iconst (v := 2) hx hb dX11_stands_42 (by decide) ?_
      refine g_iald hx hb hK hG gl_136 gk_136 gn_136 HW.1 dX11_stands_43 ?_
      replace HW := HW.2
      refine lv_icmp_ge (tgt := 87) hx hb dX11_stands_44 (by decide) (fun c_44 => ?_) (fun c_44 => ?_)
      · replace HW := HW.1 c_44
        refine lv_iconst (v := 1) hx hb dX11_stands_87 (by decide) ?_
        exact W.iret (v := (1 : Int32)) hx hb hr (fun t ht hW => ⟨⟨(1 : Int32), (h, g), rfl, HW, g_B ht hG⟩, hG.2.2.F ht⟩) hG.2.2.2.2 dX11_stands_88
      · replace HW := HW.2 c_44
        refine lv_aload_n hx hb dX11_stands_47 rfl (lv_at hl 0 rfl) ?_
        refine lv_iload hx hb dX11_stands_48 (lv_at hl 4 rfl) ?_
        refine lv_iload_n hx hb dX11_stands_50 rfl (lv_at hl 2 rfl) ?_
        obtain ⟨P_51, HC_51, HW⟩ := HW
        refine g_callz (g_runV (As := [.int x4, .int x2]) (rest := []) ⟨hx, hb, hml, hown, hts⟩ (m_X11_has l D cy ad h g H.size x4 x2 P_51 HC_51) (cwV 2 hts (gd_V (wm6 29 rfl rfl) (wm6 31 rfl rfl) (wmp4 (q := (yX11_has, 26)) 11 rfl) (wm1 13 rfl rfl) (wm6 32 rfl rfl)) rfl rfl rfl (by decide +kernel) ⟨Nat.le_of_ble_eq_true rfl, Nat.le_of_ble_eq_true rfl⟩) hK hNw hG gl_135 rfl gk_135 (by decide) rfl rfl hl.1 rfl (lv_room (Nat.le_of_ble_eq_true rfl)) dX11_stands_51 ⟨Nat.zero_le _, Nat.zero_le _⟩) hG (fun r_51 h_51 g_51 H locs hz hq hG => ?_)
        replace HW := HW r_51 h_51 g_51 hz hq
        refine lv_if_eq (tgt := 81) hx hb dX11_stands_54 (by decide) (fun c_54 => ?_) (fun c_54 => ?_)
        · replace HW := HW.1 c_54
          exact B81 K36 hK36 x1 x2 x3 x4 h_51 g_51 _ _ _ HW hG (lv_sub hl [0, 1, 2, 3, 4] rfl)
        · replace HW := HW.2 c_54
          refine lv_aload_n hx hb dX11_stands_57 rfl (lv_at hl 0 rfl) ?_
          refine lv_iload hx hb dX11_stands_58 (lv_at hl 4 rfl) ?_
          refine lv_iload_n hx hb dX11_stands_60 rfl (lv_at hl 1 rfl) ?_
          obtain ⟨P_61, HC_61, HW⟩ := HW
          refine g_callz (g_runV (As := [.int x4, .int x1]) (rest := []) ⟨hx, hb, hml, hown, hts⟩ (m_X11_has l D cy ad h_51 g_51 H.size x4 x1 P_61 HC_61) (cwV 2 hts (gd_V (wm6 29 rfl rfl) (wm6 31 rfl rfl) (wmp4 (q := (yX11_has, 26)) 11 rfl) (wm1 13 rfl rfl) (wm6 32 rfl rfl)) rfl rfl rfl (by decide +kernel) ⟨Nat.le_of_ble_eq_true rfl, Nat.le_of_ble_eq_true rfl⟩) hK hNw hG gl_135 rfl gk_135 (by decide) rfl rfl hl.1 rfl (lv_room (Nat.le_of_ble_eq_true rfl)) dX11_stands_61 ⟨Nat.zero_le _, Nat.zero_le _⟩) hG (fun r_61 h_61 g_61 H locs hz hq hG => ?_)
          replace HW := HW r_61 h_61 g_61 hz hq
          refine lv_if_ne (tgt := 79) hx hb dX11_stands_64 (by decide) (fun c_64 => ?_) (fun c_64 => ?_)
          · replace HW := HW.1 c_64
            refine lv_iconst (v := 0) hx hb dX11_stands_79 (by decide) ?_
            exact W.iret (v := (0 : Int32)) hx hb hr (fun t ht hW => ⟨⟨(0 : Int32), (h_61, g_61), rfl, HW, g_B ht hG⟩, hG.2.2.F ht⟩) hG.2.2.2.2 dX11_stands_80
          · replace HW := HW.2 c_64
            refine lv_aload_n hx hb dX11_stands_67 rfl (lv_at hl 0 rfl) ?_
            refine lv_iload hx hb dX11_stands_68 (lv_at hl 4 rfl) ?_
            refine lv_iload_n hx hb dX11_stands_70 rfl (lv_at hl 3 rfl) ?_
            refine lv_iload_n hx hb dX11_stands_71 rfl (lv_at hl 1 rfl) ?_
            refine lv_iload_n hx hb dX11_stands_72 rfl (lv_at hl 2 rfl) ?_
            obtain ⟨P_73, HC_73, HW⟩ := HW
            refine g_callz (g_runV (As := [.int x4, .int x3, .int x1, .int x2]) (rest := []) ⟨hx, hb, hml, hown, hts⟩ (m_X11_holds0 l D cy ad h_61 g_61 H.size x4 x3 x1 x2 P_73 HC_73) (cwV 4 hts (gd_V (wm6 42 rfl rfl) (wm6 44 rfl rfl) (wmp4 (q := (yX11_holds0, 26)) 13 rfl) (wm1 13 rfl rfl) (wm6 45 rfl rfl)) rfl rfl rfl (by decide +kernel) ⟨Nat.le_of_ble_eq_true rfl, Nat.le_of_ble_eq_true rfl⟩) hK hNw hG gl_135 rfl gk_135 (by decide) rfl rfl hl.1 rfl (lv_room (Nat.le_of_ble_eq_true rfl)) dX11_stands_73 ⟨Nat.zero_le _, Nat.zero_le _⟩) hG (fun r_73 h_73 g_73 H locs hz hq hG => ?_)
            replace HW := HW r_73 h_73 g_73 hz hq
            refine lv_if_ne (tgt := 81) hx hb dX11_stands_76 (by decide) (fun c_76 => ?_) (fun c_76 => ?_)
            · replace HW := HW.1 c_76
              exact B81 K36 hK36 x1 x2 x3 x4 h_73 g_73 _ _ _ HW hG (lv_sub hl [0, 1, 2, 3, 4] rfl)
            · replace HW := HW.2 c_76
              refine lv_iconst (v := 0) hx hb dX11_stands_79 (by decide) ?_
              exact W.iret (v := (0 : Int32)) hx hb hr (fun t ht hW => ⟨⟨(0 : Int32), (h_73, g_73), rfl, HW, g_B ht hG⟩, hG.2.2.F ht⟩) hG.2.2.2.2 dX11_stands_80
  have E0 : ∀ (H : Heap) (locs : List Loc) (ls : Array Slot), gG D cy ad (gA ad s.heap.size) s.heap h g H locs → lv_has ls 5 [(0, .ref (ad 135)), (1, .int x1), (2, .int x2), (3, .int x3)] → W p l e ({ frames := 10, cells := 0, slots := 0, locals := 242 } : Room) s m args below meth c H locs 0 0 (MQ below (va_Qi (fun (r : Int32) (u : HI × HL) => Q r u.1 u.2) (gB D cy ad s.heap.size) (gA ad s.heap.size)) args s 0 0 (gA ad s.heap.size)) (F0 m 0 ls []) := by
    intro H locs ls hG hl
    unfold w_X11_stands at HW
    refine lv_aload_n hx hb dX11_stands_0 rfl (lv_at hl 0 rfl) ?_
    refine lv_iconst (v := 0) hx hb dX11_stands_1 (by decide) ?_
    refine lv_iload_n hx hb dX11_stands_2 rfl (lv_at hl 1 rfl) ?_
    obtain ⟨P_3, HC_3, HW⟩ := HW
    refine g_callz (g_runV (As := [.int (0 : Int32), .int x1]) (rest := []) ⟨hx, hb, hml, hown, hts⟩ (m_X11_is l D cy ad h g H.size (0 : Int32) x1 P_3 HC_3) (cwV 2 hts (gd_V (wm5 184 rfl rfl) (wm5 186 rfl rfl) (wmp3 (q := (yX11_is, 26)) 14 rfl) (wm1 13 rfl rfl) (wm5 187 rfl rfl)) rfl rfl rfl (by decide +kernel) ⟨Nat.le_of_ble_eq_true rfl, Nat.le_of_ble_eq_true rfl⟩) hK hNw hG gl_135 rfl gk_135 (by decide) rfl rfl hl.1 rfl (lv_room (Nat.le_of_ble_eq_true rfl)) dX11_stands_3 ⟨Nat.zero_le _, Nat.zero_le _⟩) hG (fun r_3 h_3 g_3 H locs hz hq hG => ?_)
    replace HW := HW r_3 h_3 g_3 hz hq
    refine lv_if_eq (tgt := 30) hx hb dX11_stands_6 (by decide) (fun c_6 => ?_) (fun c_6 => ?_)
    · replace HW := HW.1 c_6
      refine lv_bipush (v := (-2)) hx hb dX11_stands_30 (by decide) ?_
      exact W.iret (v := (-2 : Int32)) hx hb hr (fun t ht hW => ⟨⟨(-2 : Int32), (h_3, g_3), rfl, HW, g_B ht hG⟩, hG.2.2.F ht⟩) hG.2.2.2.2 dX11_stands_32
    · replace HW := HW.2 c_6
      refine lv_aload_n hx hb dX11_stands_9 rfl (lv_at hl 0 rfl) ?_
      refine lv_iconst (v := 0) hx hb dX11_stands_10 (by decide) ?_
      refine lv_iload_n hx hb dX11_stands_11 rfl (lv_at hl 2 rfl) ?_
      obtain ⟨P_12, HC_12, HW⟩ := HW
      refine g_callz (g_runV (As := [.int (0 : Int32), .int x2]) (rest := []) ⟨hx, hb, hml, hown, hts⟩ (m_X11_is l D cy ad h_3 g_3 H.size (0 : Int32) x2 P_12 HC_12) (cwV 2 hts (gd_V (wm5 184 rfl rfl) (wm5 186 rfl rfl) (wmp3 (q := (yX11_is, 26)) 14 rfl) (wm1 13 rfl rfl) (wm5 187 rfl rfl)) rfl rfl rfl (by decide +kernel) ⟨Nat.le_of_ble_eq_true rfl, Nat.le_of_ble_eq_true rfl⟩) hK hNw hG gl_135 rfl gk_135 (by decide) rfl rfl hl.1 rfl (lv_room (Nat.le_of_ble_eq_true rfl)) dX11_stands_12 ⟨Nat.zero_le _, Nat.zero_le _⟩) hG (fun r_12 h_12 g_12 H locs hz hq hG => ?_)
      replace HW := HW r_12 h_12 g_12 hz hq
      refine lv_if_eq (tgt := 30) hx hb dX11_stands_15 (by decide) (fun c_15 => ?_) (fun c_15 => ?_)
      · replace HW := HW.1 c_15
        refine lv_bipush (v := (-2)) hx hb dX11_stands_30 (by decide) ?_
        exact W.iret (v := (-2 : Int32)) hx hb hr (fun t ht hW => ⟨⟨(-2 : Int32), (h_12, g_12), rfl, HW, g_B ht hG⟩, hG.2.2.F ht⟩) hG.2.2.2.2 dX11_stands_32
      · replace HW := HW.2 c_15
        refine lv_iload_n hx hb dX11_stands_18 rfl (lv_at hl 1 rfl) ?_
        refine lv_iload_n hx hb dX11_stands_19 rfl (lv_at hl 2 rfl) ?_
        refine lv_icmp_eq (tgt := 30) hx hb dX11_stands_20 (by decide) (fun c_20 => ?_) (fun c_20 => ?_)
        · replace HW := HW.1 c_20
          refine lv_bipush (v := (-2)) hx hb dX11_stands_30 (by decide) ?_
          exact W.iret (v := (-2 : Int32)) hx hb hr (fun t ht hW => ⟨⟨(-2 : Int32), (h_12, g_12), rfl, HW, g_B ht hG⟩, hG.2.2.F ht⟩) hG.2.2.2.2 dX11_stands_32
        · replace HW := HW.2 c_20
          refine lv_iload_n hx hb dX11_stands_23 rfl (lv_at hl 3 rfl) ?_
          obtain ⟨P_24, HC_24, HW⟩ := HW
          refine g_callz (g_runS (As := [.int x3]) (rest := []) ⟨hx, hb, hml, hown, hts⟩ (m_X11_isYear l D cy ad h_12 g_12 H.size x3 P_24 HC_24) (va_cwS 1 hts (gd_S (wm5 114 rfl rfl) (wm5 115 rfl rfl) (wm1 13 rfl rfl) (wm5 116 rfl rfl)) rfl rfl rfl (by decide +kernel) ⟨Nat.le_of_ble_eq_true rfl, Nat.le_of_ble_eq_true rfl⟩) hK hNw hG rfl rfl hl.1 rfl (lv_room (Nat.le_of_ble_eq_true rfl)) dX11_stands_24 ⟨Nat.zero_le _, Nat.zero_le _⟩) hG (fun r_24 h_24 g_24 H locs hz hq hG => ?_)
          replace HW := HW r_24 h_24 g_24 hz hq
          refine lv_if_ne (tgt := 33) hx hb dX11_stands_27 (by decide) (fun c_27 => ?_) (fun c_27 => ?_)
          · replace HW := HW.1 c_27
            refine lv_iconst (v := 0) hx hb dX11_stands_33 (by decide) ?_
            refine lv_istore (lv' := [(4, .int (0 : Int32)), (0, .ref (ad 135)), (1, .int x1), (2, .int x2), (3, .int x3)]) hx hb dX11_stands_34 hl (by decide) rfl (fun ls hl => ?_)
            obtain ⟨n_36, HW⟩ := HW
            exact L36 n_36 x1 x2 x3 (0 : Int32) h_24 g_24 _ _ _ HW hG (lv_sub hl [1, 2, 3, 4, 0] rfl)
          · replace HW := HW.2 c_27
            refine lv_bipush (v := (-2)) hx hb dX11_stands_30 (by decide) ?_
            exact W.iret (v := (-2 : Int32)) hx hb hr (fun t ht hW => ⟨⟨(-2 : Int32), (h_24, g_24), rfl, HW, g_B ht hG⟩, hG.2.2.F ht⟩) hG.2.2.2.2 dX11_stands_32
  exact E0 _ _ _ hG hl

def b_X11_life_21 (Q : Int32 → HI → HL → Prop) (K21 : Int32 → Int32 → Int32 → HI → HL → Prop) (x1 : Int32) (x2 : Int32) (x3 : Int32) (h : HI) (g : HL) : Prop :=
  (((100 : Int32) ≤ (x2 + x3) → Q x3 h g) ∧ (¬ (100 : Int32) ≤ (x2 + x3) → (∃ P_37 : Int32 → HI → HL → Prop, w_X11_holds0 x1 (x2 + x3) (-1 : Int32) (-2 : Int32) h g P_37 ∧ ∀ (r_37 : Int32) (h_37 : HI) (g_37 : HL), zb r_37 → P_37 r_37 h_37 g_37 → ((r_37 = 0 → Q x3 h_37 g_37) ∧ (¬ r_37 = 0 → (∀ x3_43 : Int32, x3_43 = (x3 + 1) → K21 x1 x2 x3_43 h_37 g_37))))))
def F_X11_life_21 (Q : Int32 → HI → HL → Prop) (K : Int32 × Int32 × Int32 × HI × HL → Prop) (q : Int32 × Int32 × Int32 × HI × HL) : Prop := b_X11_life_21 Q (fun x1 x2 x3 h g => K (x1, x2, x3, h, g)) q.1 q.2.1 q.2.2.1 q.2.2.2.1 q.2.2.2.2
def w_X11_life (x1 : Int32) (x2 : Int32) (h : HI) (g : HL) (Q : Int32 → HI → HL → Prop) : Prop :=
  (∃ P_3 : Int32 → HI → HL → Prop, w_X11_is (2 : Int32) x1 h g P_3 ∧ ∀ (r_3 : Int32) (h_3 : HI) (g_3 : HL), zb r_3 → P_3 r_3 h_3 g_3 → ((r_3 = 0 → Q (-2 : Int32) h_3 g_3) ∧ (¬ r_3 = 0 → (∃ P_10 : Int32 → HI → HL → Prop, w_X11_isYear x2 h_3 g_3 P_10 ∧ ∀ (r_10 : Int32) (h_10 : HI) (g_10 : HL), zb r_10 → P_10 r_10 h_10 g_10 → ((¬ r_10 = 0 → lpE (F_X11_life_21 Q) (x1, x2, (0 : Int32), h_10, g_10)) ∧ (r_10 = 0 → Q (-2 : Int32) h_10 g_10))))))
set_option maxHeartbeats 8000000 in
set_option maxRecDepth 100000 in
theorem m_X11_life (l : Launch) (D : va_G) (cy : Nat → ClassId) (ad : Nat → Nat) (h : HI) (g : HL) (sz : Nat) (x1 : Int32) (x2 : Int32) (Q : Int32 → HI → HL → Prop) (HW : w_X11_life x1 x2 h g Q) : Met l yX11_life (wa yX11_life cX11_life 4 (some .int)) ({ frames := 10, cells := 0, slots := 0, locals := 242 }) (va_Pc [.ref (ad 135), .int x1, .int x2] (gI D cy ad h g sz)) (va_Qi (fun (r : Int32) (u : HI × HL) => Q r u.1 u.2) (gB D cy ad sz) (gA ad sz)) 0 0 (gA ad sz) := by
  refine Met.ofW (cc := cX11_life) (maxL := 4) (ret := (some .int)) (by decide) rfl ?_
  intro p e s m args below meth c s₁ B hml hv
  obtain ⟨hav, hsz, hP, hK, hD0, hNw⟩ := hv
  have hx := B.exec
  have hb := B.bytes
  have hr := B.returns
  have hts := atoms_spec (ws := (wa yX11_life cX11_life 4 (some .int))) B.pre
  have hw := wa_hw hts
  have hown : s.vm.findClass RX11 = some m.cls := findClass_of_methodNamed B.named
  have hlocks := B.notSynchronized
  subst hsz
  have hG : gG D cy ad (gA ad s.heap.size) s.heap h g s.heap [] := ⟨hP, gA_self hD0, va_S.rf⟩
  clear hP hD0
  rw [show (headSpec (wa yX11_life cX11_life 4 (some .int)) ({ frames := 10, cells := 0, slots := 0, locals := 242 } : Room)).room = ({ frames := 10, cells := 0, slots := 0, locals := 242 } : Room) from rfl]
  have hl := lv_entry ([.ref (ad 135), .int x1, .int x2]) (n := 4) (Nat.le_of_ble_eq_true rfl)
  rw [show entryFrame m args 4 = entryFrame m ([.ref (ad 135), .int x1, .int x2] : List Value).toArray 4 from by rw [hav], lg_entry_eq]
  generalize (lg_sl ([.ref (ad 135), .int x1, .int x2]) ++ List.replicate (4 - (lg_sl ([.ref (ad 135), .int x1, .int x2])).length) Slot.unset).toArray = ls at hl ⊢
  have hl : lv_has ls 4 [(0, .ref (ad 135)), (1, .int x1), (2, .int x2)] := hl
  have L21 : ∀ (n : Nat) (x1 : Int32) (x2 : Int32) (x3 : Int32) (h : HI) (g : HL) (H : Heap) (locs : List Loc) (ls : Array Slot), lpN (F_X11_life_21 Q) n (x1, x2, x3, h, g) → gG D cy ad (gA ad s.heap.size) s.heap h g H locs → lv_has ls 4 [(0, .ref (ad 135)), (1, .int x1), (2, .int x2), (3, .int x3)] → W p l e ({ frames := 10, cells := 0, slots := 0, locals := 242 } : Room) s m args below meth c H locs 0 0 (MQ below (va_Qi (fun (r : Int32) (u : HI × HL) => Q r u.1 u.2) (gB D cy ad s.heap.size) (gA ad s.heap.size)) args s 0 0 (gA ad s.heap.size)) (F0 m 21 ls []) := by
    intro n
    induction n with
    | zero => intro x1 x2 x3 h g H locs ls HW; exact HW.elim
    | succ n ih =>
      intro x1 x2 x3 h g H locs ls HW hG hl
      have HW : b_X11_life_21 Q (fun x1 x2 x3 h g => lpN (F_X11_life_21 Q) n (x1, x2, x3, h, g)) x1 x2 x3 h g := HW
      generalize hKe : (fun (x1 : Int32) (x2 : Int32) (x3 : Int32) (h : HI) (g : HL) => lpN (F_X11_life_21 Q) n (x1, x2, x3, h, g)) = K21 at HW
      have hK21 : ∀ (x1 : Int32) (x2 : Int32) (x3 : Int32) (h : HI) (g : HL) (H : Heap) (locs : List Loc) (ls : Array Slot), K21 x1 x2 x3 h g → gG D cy ad (gA ad s.heap.size) s.heap h g H locs → lv_has ls 4 [(0, .ref (ad 135)), (1, .int x1), (2, .int x2), (3, .int x3)] → W p l e ({ frames := 10, cells := 0, slots := 0, locals := 242 } : Room) s m args below meth c H locs 0 0 (MQ below (va_Qi (fun (r : Int32) (u : HI × HL) => Q r u.1 u.2) (gB D cy ad s.heap.size) (gA ad s.heap.size)) args s 0 0 (gA ad s.heap.size)) (F0 m 21 ls []) := by subst hKe; exact ih
      clear ih
      clear hKe
      unfold b_X11_life_21 at HW
      refine lv_iload_n hx hb dX11_life_21 rfl (lv_at hl 2 rfl) ?_
      refine lv_iload_n hx hb dX11_life_22 rfl (lv_at hl 3 rfl) ?_
      refine lv_iadd hx hb dX11_life_23 ?_
      refine lv_bipush (v := 100) hx hb dX11_life_24 (by decide) ?_
      refine lv_icmp_ge (tgt := 49) hx hb dX11_life_26 (by decide) (fun c_26 => ?_) (fun c_26 => ?_)
      · replace HW := HW.1 c_26
        refine lv_iload_n hx hb dX11_life_49 rfl (lv_at hl 3 rfl) ?_
        exact W.iret (v := x3) hx hb hr (fun t ht hW => ⟨⟨x3, (h, g), rfl, HW, g_B ht hG⟩, hG.2.2.F ht⟩) hG.2.2.2.2 dX11_life_50
      · replace HW := HW.2 c_26
        refine lv_aload_n hx hb dX11_life_29 rfl (lv_at hl 0 rfl) ?_
        refine lv_iload_n hx hb dX11_life_30 rfl (lv_at hl 1 rfl) ?_
        refine lv_iload_n hx hb dX11_life_31 rfl (lv_at hl 2 rfl) ?_
        refine lv_iload_n hx hb dX11_life_32 rfl (lv_at hl 3 rfl) ?_
        refine lv_iadd hx hb dX11_life_33 ?_
        refine lv_iconst (v := (-1)) hx hb dX11_life_34 (by decide) ?_
        refine lv_bipush (v := (-2)) hx hb dX11_life_35 (by decide) ?_
        obtain ⟨P_37, HC_37, HW⟩ := HW
        refine g_callz (g_runV (As := [.int x1, .int (x2 + x3), .int (-1 : Int32), .int (-2 : Int32)]) (rest := []) ⟨hx, hb, hml, hown, hts⟩ (m_X11_holds0 l D cy ad h g H.size x1 (x2 + x3) (-1 : Int32) (-2 : Int32) P_37 HC_37) (cwV 4 hts (gd_V (wm6 42 rfl rfl) (wm6 44 rfl rfl) (wmp4 (q := (yX11_holds0, 26)) 13 rfl) (wm1 13 rfl rfl) (wm6 45 rfl rfl)) rfl rfl rfl (by decide +kernel) ⟨Nat.le_of_ble_eq_true rfl, Nat.le_of_ble_eq_true rfl⟩) hK hNw hG gl_135 rfl gk_135 (by decide) rfl rfl hl.1 rfl (lv_room (Nat.le_of_ble_eq_true rfl)) dX11_life_37 ⟨Nat.zero_le _, Nat.zero_le _⟩) hG (fun r_37 h_37 g_37 H locs hz hq hG => ?_)
        replace HW := HW r_37 h_37 g_37 hz hq
        refine lv_if_eq (tgt := 49) hx hb dX11_life_40 (by decide) (fun c_40 => ?_) (fun c_40 => ?_)
        · replace HW := HW.1 c_40
          refine lv_iload_n hx hb dX11_life_49 rfl (lv_at hl 3 rfl) ?_
          exact W.iret (v := x3) hx hb hr (fun t ht hW => ⟨⟨x3, (h_37, g_37), rfl, HW, g_B ht hG⟩, hG.2.2.F ht⟩) hG.2.2.2.2 dX11_life_50
        · replace HW := HW.2 c_40
          obtain ⟨x3_43, ex3_43⟩ : ∃ y : Int32, y = (x3 + 1) := ⟨_, rfl⟩
          replace HW := HW x3_43 ex3_43
          refine lv_iinc (v := x3_43) (lv' := [(3, .int x3_43), (0, .ref (ad 135)), (1, .int x1), (2, .int x2)]) hx hb dX11_life_43 hl (k := 3) rfl (by rw [ex3_43]; rfl) (by decide) rfl (fun ls hl => ?_)
          refine lv_goto (tgt := 21) hx hb dX11_life_46 (by decide) ?_
          exact hK21 x1 x2 x3_43 h_37 g_37 _ _ _ HW hG (lv_sub hl [1, 2, 3, 0] rfl)
  have E0 : ∀ (H : Heap) (locs : List Loc) (ls : Array Slot), gG D cy ad (gA ad s.heap.size) s.heap h g H locs → lv_has ls 4 [(0, .ref (ad 135)), (1, .int x1), (2, .int x2)] → W p l e ({ frames := 10, cells := 0, slots := 0, locals := 242 } : Room) s m args below meth c H locs 0 0 (MQ below (va_Qi (fun (r : Int32) (u : HI × HL) => Q r u.1 u.2) (gB D cy ad s.heap.size) (gA ad s.heap.size)) args s 0 0 (gA ad s.heap.size)) (F0 m 0 ls []) := by
    intro H locs ls hG hl
    unfold w_X11_life at HW
    refine lv_aload_n hx hb dX11_life_0 rfl (lv_at hl 0 rfl) ?_
    refine lv_iconst (v := 2) hx hb dX11_life_1 (by decide) ?_
    refine lv_iload_n hx hb dX11_life_2 rfl (lv_at hl 1 rfl) ?_
    obtain ⟨P_3, HC_3, HW⟩ := HW
    refine g_callz (g_runV (As := [.int (2 : Int32), .int x1]) (rest := []) ⟨hx, hb, hml, hown, hts⟩ (m_X11_is l D cy ad h g H.size (2 : Int32) x1 P_3 HC_3) (cwV 2 hts (gd_V (wm5 184 rfl rfl) (wm5 186 rfl rfl) (wmp3 (q := (yX11_is, 26)) 14 rfl) (wm1 13 rfl rfl) (wm5 187 rfl rfl)) rfl rfl rfl (by decide +kernel) ⟨Nat.le_of_ble_eq_true rfl, Nat.le_of_ble_eq_true rfl⟩) hK hNw hG gl_135 rfl gk_135 (by decide) rfl rfl hl.1 rfl (lv_room (Nat.le_of_ble_eq_true rfl)) dX11_life_3 ⟨Nat.zero_le _, Nat.zero_le _⟩) hG (fun r_3 h_3 g_3 H locs hz hq hG => ?_)
    replace HW := HW r_3 h_3 g_3 hz hq
    refine lv_if_eq (tgt := 16) hx hb dX11_life_6 (by decide) (fun c_6 => ?_) (fun c_6 => ?_)
    · replace HW := HW.1 c_6
      refine lv_bipush (v := (-2)) hx hb dX11_life_16 (by decide) ?_
      exact W.iret (v := (-2 : Int32)) hx hb hr (fun t ht hW => ⟨⟨(-2 : Int32), (h_3, g_3), rfl, HW, g_B ht hG⟩, hG.2.2.F ht⟩) hG.2.2.2.2 dX11_life_18
    · replace HW := HW.2 c_6
      refine lv_iload_n hx hb dX11_life_9 rfl (lv_at hl 2 rfl) ?_
      obtain ⟨P_10, HC_10, HW⟩ := HW
      refine g_callz (g_runS (As := [.int x2]) (rest := []) ⟨hx, hb, hml, hown, hts⟩ (m_X11_isYear l D cy ad h_3 g_3 H.size x2 P_10 HC_10) (va_cwS 1 hts (gd_S (wm5 114 rfl rfl) (wm5 115 rfl rfl) (wm1 13 rfl rfl) (wm5 116 rfl rfl)) rfl rfl rfl (by decide +kernel) ⟨Nat.le_of_ble_eq_true rfl, Nat.le_of_ble_eq_true rfl⟩) hK hNw hG rfl rfl hl.1 rfl (lv_room (Nat.le_of_ble_eq_true rfl)) dX11_life_10 ⟨Nat.zero_le _, Nat.zero_le _⟩) hG (fun r_10 h_10 g_10 H locs hz hq hG => ?_)
      replace HW := HW r_10 h_10 g_10 hz hq
      refine lv_if_ne (tgt := 19) hx hb dX11_life_13 (by decide) (fun c_13 => ?_) (fun c_13 => ?_)
      · replace HW := HW.1 c_13
        refine lv_iconst (v := 0) hx hb dX11_life_19 (by decide) ?_
        refine lv_istore_n (lv' := [(3, .int (0 : Int32)), (0, .ref (ad 135)), (1, .int x1), (2, .int x2)]) hx hb dX11_life_20 rfl hl (by decide) rfl (fun ls hl => ?_)
        obtain ⟨n_21, HW⟩ := HW
        exact L21 n_21 x1 x2 (0 : Int32) h_10 g_10 _ _ _ HW hG (lv_sub hl [1, 2, 3, 0] rfl)
      · replace HW := HW.2 c_13
        refine lv_bipush (v := (-2)) hx hb dX11_life_16 (by decide) ?_
        exact W.iret (v := (-2 : Int32)) hx hb hr (fun t ht hW => ⟨⟨(-2 : Int32), (h_10, g_10), rfl, HW, g_B ht hG⟩, hG.2.2.F ht⟩) hG.2.2.2.2 dX11_life_18
  exact E0 _ _ _ hG hl

def w_X11_work (x1 : Int32) (x2 : Int32) (x3 : Int32) (x4 : Int32) (h : HI) (g : HL) (Q : Int32 → HI → HL → Prop) : Prop :=
  (∃ P_8 : Int32 → HI → HL → Prop, w_X11_in ((x1).toInt64) (-500 : Int64) (500 : Int64) h g P_8 ∧ ∀ (r_8 : Int32) (h_8 : HI) (g_8 : HL), zb r_8 → P_8 r_8 h_8 g_8 → ((r_8 = 0 → Q (-2 : Int32) h_8 g_8) ∧ (¬ r_8 = 0 → ((x1 = 0 → Q (-2 : Int32) h_8 g_8) ∧ (¬ x1 = 0 → (∃ P_24 : Int32 → HI → HL → Prop, w_X11_in ((x2).toInt64) (1 : Int64) (1000 : Int64) h_8 g_8 P_24 ∧ ∀ (r_24 : Int32) (h_24 : HI) (g_24 : HL), zb r_24 → P_24 r_24 h_24 g_24 → ((r_24 = 0 → Q (-2 : Int32) h_24 g_24) ∧ (¬ r_24 = 0 → (∃ P_36 : Int32 → HI → HL → Prop, w_X11_in ((x3).toInt64) (1 : Int64) ((x4).toInt64) h_24 g_24 P_36 ∧ ∀ (r_36 : Int32) (h_36 : HI) (g_36 : HL), zb r_36 → P_36 r_36 h_36 g_36 → ((r_36 = 0 → Q (-2 : Int32) h_36 g_36) ∧ (¬ r_36 = 0 → (∃ P_50 : Int32 → HI → HL → Prop, w_X11_in ((x4).toInt64) ((x3).toInt64) (3000 : Int64) h_36 g_36 P_50 ∧ ∀ (r_50 : Int32) (h_50 : HI) (g_50 : HL), zb r_50 → P_50 r_50 h_50 g_50 → ((¬ r_50 = 0 → (vp_in (3 : Int32) 887 ∧ ((¬ (h_50 136 (3 : Int32).toNatClampNeg) = (8 : Int32) → (vp_in (3 : Int32) 887 ∧ (∀ x5_85 : Int32, x5_85 = ((672 : Int32) + ((4 : Int32) * (h_50 136 (3 : Int32).toNatClampNeg))) → (vp_in x5_85 887 ∧ ∀ h_94 : HI, h_94 = hu h_50 136 x5_85.toNatClampNeg x1 → (vp_in (x5_85 + (1 : Int32)) 887 ∧ ∀ h_104 : HI, h_104 = hu h_94 136 (x5_85 + (1 : Int32)).toNatClampNeg x2 → (vp_in (x5_85 + (2 : Int32)) 887 ∧ ∀ h_114 : HI, h_114 = hu h_104 136 (x5_85 + (2 : Int32)).toNatClampNeg x3 → (vp_in (x5_85 + (3 : Int32)) 887 ∧ ∀ h_125 : HI, h_125 = hu h_114 136 (x5_85 + (3 : Int32)).toNatClampNeg x4 → (∃ P_128 : Int32 → HI → HL → Prop, w_X11_one (3 : Int32) h_125 g_50 P_128 ∧ ∀ (r_128 : Int32) (h_128 : HI) (g_128 : HL), P_128 r_128 h_128 g_128 → Q r_128 h_128 g_128)))))))) ∧ ((h_50 136 (3 : Int32).toNatClampNeg) = (8 : Int32) → Q (-4 : Int32) h_50 g_50)))) ∧ (r_50 = 0 → Q (-2 : Int32) h_50 g_50))))))))))))))
set_option maxHeartbeats 8000000 in
set_option maxRecDepth 100000 in
theorem m_X11_work (l : Launch) (D : va_G) (cy : Nat → ClassId) (ad : Nat → Nat) (h : HI) (g : HL) (sz : Nat) (x1 : Int32) (x2 : Int32) (x3 : Int32) (x4 : Int32) (Q : Int32 → HI → HL → Prop) (HW : w_X11_work x1 x2 x3 x4 h g Q) : Met l yX11_work (wa yX11_work cX11_work 6 (some .int)) ({ frames := 1, cells := 0, slots := 0, locals := 25 }) (va_Pc [.ref (ad 135), .int x1, .int x2, .int x3, .int x4] (gI D cy ad h g sz)) (va_Qi (fun (r : Int32) (u : HI × HL) => Q r u.1 u.2) (gB D cy ad sz) (gA ad sz)) 0 0 (gA ad sz) := by
  refine Met.ofW (cc := cX11_work) (maxL := 6) (ret := (some .int)) (by decide) rfl ?_
  intro p e s m args below meth c s₁ B hml hv
  obtain ⟨hav, hsz, hP, hK, hD0, hNw⟩ := hv
  have hx := B.exec
  have hb := B.bytes
  have hr := B.returns
  have hts := atoms_spec (ws := (wa yX11_work cX11_work 6 (some .int))) B.pre
  have hw := wa_hw hts
  have hown : s.vm.findClass RX11 = some m.cls := findClass_of_methodNamed B.named
  have hlocks := B.notSynchronized
  subst hsz
  have hG : gG D cy ad (gA ad s.heap.size) s.heap h g s.heap [] := ⟨hP, gA_self hD0, va_S.rf⟩
  clear hP hD0
  have cn226 := hw (.constantLong RX11 226 (-500)) (wm6 63 rfl rfl)
  have cn228 := hw (.constantLong RX11 228 (500)) (wm6 64 rfl rfl)
  have cn230 := hw (.constantLong RX11 230 (1000)) (wm6 65 rfl rfl)
  have cn232 := hw (.constantLong RX11 232 (3000)) (wm6 66 rfl rfl)
  have lk7 := hw (.fieldLink RX11 7 "OldWorksModel" "st" "[I") (wm5 27 rfl rfl)
  rw [show (headSpec (wa yX11_work cX11_work 6 (some .int)) ({ frames := 1, cells := 0, slots := 0, locals := 25 } : Room)).room = ({ frames := 1, cells := 0, slots := 0, locals := 25 } : Room) from rfl]
  have hl := lv_entry ([.ref (ad 135), .int x1, .int x2, .int x3, .int x4]) (n := 6) (Nat.le_of_ble_eq_true rfl)
  rw [show entryFrame m args 6 = entryFrame m ([.ref (ad 135), .int x1, .int x2, .int x3, .int x4] : List Value).toArray 6 from by rw [hav], lg_entry_eq]
  generalize (lg_sl ([.ref (ad 135), .int x1, .int x2, .int x3, .int x4]) ++ List.replicate (6 - (lg_sl ([.ref (ad 135), .int x1, .int x2, .int x3, .int x4])).length) Slot.unset).toArray = ls at hl ⊢
  have hl : lv_has ls 6 [(0, .ref (ad 135)), (1, .int x1), (2, .int x2), (3, .int x3), (4, .int x4)] := hl
  have E0 : ∀ (H : Heap) (locs : List Loc) (ls : Array Slot), gG D cy ad (gA ad s.heap.size) s.heap h g H locs → lv_has ls 6 [(0, .ref (ad 135)), (1, .int x1), (2, .int x2), (3, .int x3), (4, .int x4)] → W p l e ({ frames := 1, cells := 0, slots := 0, locals := 25 } : Room) s m args below meth c H locs 0 0 (MQ below (va_Qi (fun (r : Int32) (u : HI × HL) => Q r u.1 u.2) (gB D cy ad s.heap.size) (gA ad s.heap.size)) args s 0 0 (gA ad s.heap.size)) (F0 m 0 ls []) := by
    intro H locs ls hG hl
    unfold w_X11_work at HW
    refine lv_iload_n hx hb dX11_work_0 rfl (lv_at hl 1 rfl) ?_
    refine lv_i2l hx hb dX11_work_1 rfl ?_
    refine lv_ldc2 (v := (-500)) hx hb hown cn226 dX11_work_2 ?_
    refine lv_ldc2 (v := 500) hx hb hown cn228 dX11_work_5 ?_
    obtain ⟨P_8, HC_8, HW⟩ := HW
    refine g_callz (g_runS (As := [.long ((x1).toInt64), .long (-500 : Int64), .long (500 : Int64)]) (rest := []) ⟨hx, hb, hml, hown, hts⟩ (m_X11_in l D cy ad h g H.size ((x1).toInt64) (-500 : Int64) (500 : Int64) P_8 HC_8) (va_cwS 3 hts (gd_S (wm5 111 rfl rfl) (wm5 112 rfl rfl) (wm1 13 rfl rfl) (wm5 113 rfl rfl)) rfl rfl rfl (by decide +kernel) ⟨Nat.le_of_ble_eq_true rfl, Nat.le_of_ble_eq_true rfl⟩) hK hNw hG rfl rfl hl.1 rfl (lv_room (Nat.le_of_ble_eq_true rfl)) dX11_work_8 ⟨Nat.zero_le _, Nat.zero_le _⟩) hG (fun r_8 h_8 g_8 H locs hz hq hG => ?_)
    replace HW := HW r_8 h_8 g_8 hz hq
    refine lv_if_eq (tgt := 56) hx hb dX11_work_11 (by decide) (fun c_11 => ?_) (fun c_11 => ?_)
    · replace HW := HW.1 c_11
      refine lv_bipush (v := (-2)) hx hb dX11_work_56 (by decide) ?_
      exact W.iret (v := (-2 : Int32)) hx hb hr (fun t ht hW => ⟨⟨(-2 : Int32), (h_8, g_8), rfl, HW, g_B ht hG⟩, hG.2.2.F ht⟩) hG.2.2.2.2 dX11_work_58
    · replace HW := HW.2 c_11
      refine lv_iload_n hx hb dX11_work_14 rfl (lv_at hl 1 rfl) ?_
      refine lv_if_eq (tgt := 56) hx hb dX11_work_15 (by decide) (fun c_15 => ?_) (fun c_15 => ?_)
      · replace HW := HW.1 c_15
        refine lv_bipush (v := (-2)) hx hb dX11_work_56 (by decide) ?_
        exact W.iret (v := (-2 : Int32)) hx hb hr (fun t ht hW => ⟨⟨(-2 : Int32), (h_8, g_8), rfl, HW, g_B ht hG⟩, hG.2.2.F ht⟩) hG.2.2.2.2 dX11_work_58
      · replace HW := HW.2 c_15
        refine lv_iload_n hx hb dX11_work_18 rfl (lv_at hl 2 rfl) ?_
        refine lv_i2l hx hb dX11_work_19 rfl ?_
        refine lv_lconst (v := 1) hx hb dX11_work_20 (by decide) ?_
        refine lv_ldc2 (v := 1000) hx hb hown cn230 dX11_work_21 ?_
        obtain ⟨P_24, HC_24, HW⟩ := HW
        refine g_callz (g_runS (As := [.long ((x2).toInt64), .long (1 : Int64), .long (1000 : Int64)]) (rest := []) ⟨hx, hb, hml, hown, hts⟩ (m_X11_in l D cy ad h_8 g_8 H.size ((x2).toInt64) (1 : Int64) (1000 : Int64) P_24 HC_24) (va_cwS 3 hts (gd_S (wm5 111 rfl rfl) (wm5 112 rfl rfl) (wm1 13 rfl rfl) (wm5 113 rfl rfl)) rfl rfl rfl (by decide +kernel) ⟨Nat.le_of_ble_eq_true rfl, Nat.le_of_ble_eq_true rfl⟩) hK hNw hG rfl rfl hl.1 rfl (lv_room (Nat.le_of_ble_eq_true rfl)) dX11_work_24 ⟨Nat.zero_le _, Nat.zero_le _⟩) hG (fun r_24 h_24 g_24 H locs hz hq hG => ?_)
        replace HW := HW r_24 h_24 g_24 hz hq
        refine lv_if_eq (tgt := 56) hx hb dX11_work_27 (by decide) (fun c_27 => ?_) (fun c_27 => ?_)
        · replace HW := HW.1 c_27
          refine lv_bipush (v := (-2)) hx hb dX11_work_56 (by decide) ?_
          exact W.iret (v := (-2 : Int32)) hx hb hr (fun t ht hW => ⟨⟨(-2 : Int32), (h_24, g_24), rfl, HW, g_B ht hG⟩, hG.2.2.F ht⟩) hG.2.2.2.2 dX11_work_58
        · replace HW := HW.2 c_27
          refine lv_iload_n hx hb dX11_work_30 rfl (lv_at hl 3 rfl) ?_
          refine lv_i2l hx hb dX11_work_31 rfl ?_
          refine lv_lconst (v := 1) hx hb dX11_work_32 (by decide) ?_
          refine lv_iload hx hb dX11_work_33 (lv_at hl 4 rfl) ?_
          refine lv_i2l hx hb dX11_work_35 rfl ?_
          obtain ⟨P_36, HC_36, HW⟩ := HW
          refine g_callz (g_runS (As := [.long ((x3).toInt64), .long (1 : Int64), .long ((x4).toInt64)]) (rest := []) ⟨hx, hb, hml, hown, hts⟩ (m_X11_in l D cy ad h_24 g_24 H.size ((x3).toInt64) (1 : Int64) ((x4).toInt64) P_36 HC_36) (va_cwS 3 hts (gd_S (wm5 111 rfl rfl) (wm5 112 rfl rfl) (wm1 13 rfl rfl) (wm5 113 rfl rfl)) rfl rfl rfl (by decide +kernel) ⟨Nat.le_of_ble_eq_true rfl, Nat.le_of_ble_eq_true rfl⟩) hK hNw hG rfl rfl hl.1 rfl (lv_room (Nat.le_of_ble_eq_true rfl)) dX11_work_36 ⟨Nat.zero_le _, Nat.zero_le _⟩) hG (fun r_36 h_36 g_36 H locs hz hq hG => ?_)
          replace HW := HW r_36 h_36 g_36 hz hq
          refine lv_if_eq (tgt := 56) hx hb dX11_work_39 (by decide) (fun c_39 => ?_) (fun c_39 => ?_)
          · replace HW := HW.1 c_39
            refine lv_bipush (v := (-2)) hx hb dX11_work_56 (by decide) ?_
            exact W.iret (v := (-2 : Int32)) hx hb hr (fun t ht hW => ⟨⟨(-2 : Int32), (h_36, g_36), rfl, HW, g_B ht hG⟩, hG.2.2.F ht⟩) hG.2.2.2.2 dX11_work_58
          · replace HW := HW.2 c_39
            refine lv_iload hx hb dX11_work_42 (lv_at hl 4 rfl) ?_
            refine lv_i2l hx hb dX11_work_44 rfl ?_
            refine lv_iload_n hx hb dX11_work_45 rfl (lv_at hl 3 rfl) ?_
            refine lv_i2l hx hb dX11_work_46 rfl ?_
            refine lv_ldc2 (v := 3000) hx hb hown cn232 dX11_work_47 ?_
            obtain ⟨P_50, HC_50, HW⟩ := HW
            refine g_callz (g_runS (As := [.long ((x4).toInt64), .long ((x3).toInt64), .long (3000 : Int64)]) (rest := []) ⟨hx, hb, hml, hown, hts⟩ (m_X11_in l D cy ad h_36 g_36 H.size ((x4).toInt64) ((x3).toInt64) (3000 : Int64) P_50 HC_50) (va_cwS 3 hts (gd_S (wm5 111 rfl rfl) (wm5 112 rfl rfl) (wm1 13 rfl rfl) (wm5 113 rfl rfl)) rfl rfl rfl (by decide +kernel) ⟨Nat.le_of_ble_eq_true rfl, Nat.le_of_ble_eq_true rfl⟩) hK hNw hG rfl rfl hl.1 rfl (lv_room (Nat.le_of_ble_eq_true rfl)) dX11_work_50 ⟨Nat.zero_le _, Nat.zero_le _⟩) hG (fun r_50 h_50 g_50 H locs hz hq hG => ?_)
            replace HW := HW r_50 h_50 g_50 hz hq
            refine lv_if_ne (tgt := 59) hx hb dX11_work_53 (by decide) (fun c_53 => ?_) (fun c_53 => ?_)
            · replace HW := HW.1 c_53
              refine lv_aload_n hx hb dX11_work_59 rfl (lv_at hl 0 rfl) ?_
              refine g_getr hx hb hw inG11 hown hK hG gl_135 rfl gk_135 (by decide) 0 (by decide) (by rw [gm_135]; decide) (r := 136) gr_135_0 lk7 dX11_work_60 ?_
              refine lv_iconst (v := 3) hx hb dX11_work_63 (by decide) ?_
              refine g_iald hx hb hK hG gl_136 gk_136 gn_136 HW.1 dX11_work_64 ?_
              replace HW := HW.2
              refine lv_bipush (v := 8) hx hb dX11_work_65 (by decide) ?_
              refine lv_icmp_ne (tgt := 73) hx hb dX11_work_67 (by decide) (fun c_67 => ?_) (fun c_67 => ?_)
              · replace HW := HW.1 c_67
                refine lv_sipush (v := 672) hx hb dX11_work_73 (by decide) ?_
                refine lv_iconst (v := 4) hx hb dX11_work_76 (by decide) ?_
                refine lv_aload_n hx hb dX11_work_77 rfl (lv_at hl 0 rfl) ?_
                refine g_getr hx hb hw inG11 hown hK hG gl_135 rfl gk_135 (by decide) 0 (by decide) (by rw [gm_135]; decide) (r := 136) gr_135_0 lk7 dX11_work_78 ?_
                refine lv_iconst (v := 3) hx hb dX11_work_81 (by decide) ?_
                refine g_iald hx hb hK hG gl_136 gk_136 gn_136 HW.1 dX11_work_82 ?_
                replace HW := HW.2
                refine lv_imul hx hb dX11_work_83 ?_
                refine lv_iadd hx hb dX11_work_84 ?_
                refine lv_topi (fun x5_85 ex5_85 => ?_)
                replace HW := HW x5_85 ex5_85
                refine lv_istore (lv' := [(5, .int x5_85), (0, .ref (ad 135)), (1, .int x1), (2, .int x2), (3, .int x3), (4, .int x4)]) hx hb dX11_work_85 hl (by decide) rfl (fun ls hl => ?_)
                refine lv_aload_n hx hb dX11_work_87 rfl (lv_at hl 1 rfl) ?_
                refine g_getr hx hb hw inG11 hown hK hG gl_135 rfl gk_135 (by decide) 0 (by decide) (by rw [gm_135]; decide) (r := 136) gr_135_0 lk7 dX11_work_88 ?_
                refine lv_iload hx hb dX11_work_91 (lv_at hl 0 rfl) ?_
                refine lv_iload_n hx hb dX11_work_93 rfl (lv_at hl 2 rfl) ?_
                refine g_iast hx hb hK hG gl_136 gk_136 gn_136 HW.1 dX11_work_94 (fun H locs hG => ?_)
                replace HW := HW.2
                obtain ⟨h_94, eh_94⟩ : ∃ y : HI, y = hu h_50 136 x5_85.toNatClampNeg x1 := ⟨_, rfl⟩
                rw [← eh_94] at hG
                replace HW := HW h_94 eh_94
                refine lv_aload_n hx hb dX11_work_95 rfl (lv_at hl 1 rfl) ?_
                refine g_getr hx hb hw inG11 hown hK hG gl_135 rfl gk_135 (by decide) 0 (by decide) (by rw [gm_135]; decide) (r := 136) gr_135_0 lk7 dX11_work_96 ?_
                refine lv_iload hx hb dX11_work_99 (lv_at hl 0 rfl) ?_
                refine lv_iconst (v := 1) hx hb dX11_work_101 (by decide) ?_
                refine lv_iadd hx hb dX11_work_102 ?_
                refine lv_iload_n hx hb dX11_work_103 rfl (lv_at hl 3 rfl) ?_
                refine g_iast hx hb hK hG gl_136 gk_136 gn_136 HW.1 dX11_work_104 (fun H locs hG => ?_)
                replace HW := HW.2
                obtain ⟨h_104, eh_104⟩ : ∃ y : HI, y = hu h_94 136 (x5_85 + (1 : Int32)).toNatClampNeg x2 := ⟨_, rfl⟩
                rw [← eh_104] at hG
                replace HW := HW h_104 eh_104
                refine lv_aload_n hx hb dX11_work_105 rfl (lv_at hl 1 rfl) ?_
                refine g_getr hx hb hw inG11 hown hK hG gl_135 rfl gk_135 (by decide) 0 (by decide) (by rw [gm_135]; decide) (r := 136) gr_135_0 lk7 dX11_work_106 ?_
                refine lv_iload hx hb dX11_work_109 (lv_at hl 0 rfl) ?_
                refine lv_iconst (v := 2) hx hb dX11_work_111 (by decide) ?_
                refine lv_iadd hx hb dX11_work_112 ?_
                refine lv_iload_n hx hb dX11_work_113 rfl (lv_at hl 4 rfl) ?_
                refine g_iast hx hb hK hG gl_136 gk_136 gn_136 HW.1 dX11_work_114 (fun H locs hG => ?_)
                replace HW := HW.2
                obtain ⟨h_114, eh_114⟩ : ∃ y : HI, y = hu h_104 136 (x5_85 + (2 : Int32)).toNatClampNeg x3 := ⟨_, rfl⟩
                rw [← eh_114] at hG
                replace HW := HW h_114 eh_114
                refine lv_aload_n hx hb dX11_work_115 rfl (lv_at hl 1 rfl) ?_
                refine g_getr hx hb hw inG11 hown hK hG gl_135 rfl gk_135 (by decide) 0 (by decide) (by rw [gm_135]; decide) (r := 136) gr_135_0 lk7 dX11_work_116 ?_
                refine lv_iload hx hb dX11_work_119 (lv_at hl 0 rfl) ?_
                refine lv_iconst (v := 3) hx hb dX11_work_121 (by decide) ?_
                refine lv_iadd hx hb dX11_work_122 ?_
                refine lv_iload hx hb dX11_work_123 (lv_at hl 5 rfl) ?_
                refine g_iast hx hb hK hG gl_136 gk_136 gn_136 HW.1 dX11_work_125 (fun H locs hG => ?_)
                replace HW := HW.2
                obtain ⟨h_125, eh_125⟩ : ∃ y : HI, y = hu h_114 136 (x5_85 + (3 : Int32)).toNatClampNeg x4 := ⟨_, rfl⟩
                rw [← eh_125] at hG
                replace HW := HW h_125 eh_125
                refine lv_aload_n hx hb dX11_work_126 rfl (lv_at hl 1 rfl) ?_
                refine lv_iconst (v := 3) hx hb dX11_work_127 (by decide) ?_
                obtain ⟨P_128, HC_128, HW⟩ := HW
                refine g_calli (g_runV (As := [.int (3 : Int32)]) (rest := []) ⟨hx, hb, hml, hown, hts⟩ (m_X11_one l D cy ad h_125 g_50 H.size (3 : Int32) P_128 HC_128) (cwV 1 hts (gd_V (wm5 120 rfl rfl) (wm5 122 rfl rfl) (wmp3 (q := (yX11_one, 26)) 7 rfl) (wm1 13 rfl rfl) (wm5 123 rfl rfl)) rfl rfl rfl (by decide +kernel) ⟨Nat.le_of_ble_eq_true rfl, Nat.le_of_ble_eq_true rfl⟩) hK hNw hG gl_135 rfl gk_135 (by decide) rfl rfl hl.1 rfl (lv_room (Nat.le_of_ble_eq_true rfl)) dX11_work_128 ⟨Nat.zero_le _, Nat.zero_le _⟩) hG (fun r_128 h_128 g_128 H locs hq hG => ?_)
                replace HW := HW r_128 h_128 g_128 hq
                exact W.iret (v := r_128) hx hb hr (fun t ht hW => ⟨⟨r_128, (h_128, g_128), rfl, HW, g_B ht hG⟩, hG.2.2.F ht⟩) hG.2.2.2.2 dX11_work_131
              · replace HW := HW.2 c_67
                refine lv_bipush (v := (-4)) hx hb dX11_work_70 (by decide) ?_
                exact W.iret (v := (-4 : Int32)) hx hb hr (fun t ht hW => ⟨⟨(-4 : Int32), (h_50, g_50), rfl, HW, g_B ht hG⟩, hG.2.2.F ht⟩) hG.2.2.2.2 dX11_work_72
            · replace HW := HW.2 c_53
              refine lv_bipush (v := (-2)) hx hb dX11_work_56 (by decide) ?_
              exact W.iret (v := (-2 : Int32)) hx hb hr (fun t ht hW => ⟨⟨(-2 : Int32), (h_50, g_50), rfl, HW, g_B ht hG⟩, hG.2.2.F ht⟩) hG.2.2.2.2 dX11_work_58
  exact E0 _ _ _ hG hl

def w_X11_by (x1 : Int32) (x2 : Int32) (x3 : Int32) (h : HI) (g : HL) (Q : Int32 → HI → HL → Prop) : Prop :=
  (∀ x4_7 : Int32, x4_7 = ((672 : Int32) + ((4 : Int32) * x1)) → (vp_in x4_7 887 ∧ (∀ x5_18 : Int32, x5_18 = (x2 + (h 136 x4_7.toNatClampNeg)) → (vp_in (x4_7 + (2 : Int32)) 887 ∧ (vp_in (x4_7 + (3 : Int32)) 887 ∧ (∃ P_42 : Int32 → HI → HL → Prop, w_X11_in ((x2).toInt64) (((h 136 (x4_7 + (2 : Int32)).toNatClampNeg)).toInt64) (((h 136 (x4_7 + (3 : Int32)).toNatClampNeg)).toInt64) h g P_42 ∧ ∀ (r_42 : Int32) (h_42 : HI) (g_42 : HL), zb r_42 → P_42 r_42 h_42 g_42 → ((r_42 = 0 → Q (1000000 : Int32) h_42 g_42) ∧ (¬ r_42 = 0 → (∃ P_55 : Int32 → HI → HL → Prop, w_X11_in ((x5_18).toInt64) (1 : Int64) (3000 : Int64) h_42 g_42 P_55 ∧ ∀ (r_55 : Int32) (h_55 : HI) (g_55 : HL), zb r_55 → P_55 r_55 h_55 g_55 → ((¬ r_55 = 0 → (vp_in (x4_7 + (1 : Int32)) 887 ∧ (vp_in (((3001 : Int32) * x3) + x5_18) 18006 ∧ Q ((h_55 136 (x4_7 + (1 : Int32)).toNatClampNeg) + (h_55 143 (((3001 : Int32) * x3) + x5_18).toNatClampNeg)) h_55 g_55))) ∧ (r_55 = 0 → Q (1000000 : Int32) h_55 g_55)))))))))))
set_option maxHeartbeats 8000000 in
set_option maxRecDepth 100000 in
theorem m_X11_by (l : Launch) (D : va_G) (cy : Nat → ClassId) (ad : Nat → Nat) (h : HI) (g : HL) (sz : Nat) (x1 : Int32) (x2 : Int32) (x3 : Int32) (Q : Int32 → HI → HL → Prop) (HW : w_X11_by x1 x2 x3 h g Q) : Met l yX11_by (wa yX11_by cX11_by 6 (some .int)) ({ frames := 1, cells := 0, slots := 0, locals := 25 }) (va_Pc [.ref (ad 135), .int x1, .int x2, .int x3] (gI D cy ad h g sz)) (va_Qi (fun (r : Int32) (u : HI × HL) => Q r u.1 u.2) (gB D cy ad sz) (gA ad sz)) 0 0 (gA ad sz) := by
  refine Met.ofW (cc := cX11_by) (maxL := 6) (ret := (some .int)) (by decide) rfl ?_
  intro p e s m args below meth c s₁ B hml hv
  obtain ⟨hav, hsz, hP, hK, hD0, hNw⟩ := hv
  have hx := B.exec
  have hb := B.bytes
  have hr := B.returns
  have hts := atoms_spec (ws := (wa yX11_by cX11_by 6 (some .int))) B.pre
  have hw := wa_hw hts
  have hown : s.vm.findClass RX11 = some m.cls := findClass_of_methodNamed B.named
  have hlocks := B.notSynchronized
  subst hsz
  have hG : gG D cy ad (gA ad s.heap.size) s.heap h g s.heap [] := ⟨hP, gA_self hD0, va_S.rf⟩
  clear hP hD0
  have lk7 := hw (.fieldLink RX11 7 "OldWorksModel" "st" "[I") (wm5 27 rfl rfl)
  have cn234 := hw (.constant RX11 234 (1000000)) (wm6 75 rfl rfl)
  have cn232 := hw (.constantLong RX11 232 (3000)) (wm6 66 rfl rfl)
  have lk33 := hw (.fieldLink RX11 33 "OldWorksModel" "price" "[I") (wm5 47 rfl rfl)
  rw [show (headSpec (wa yX11_by cX11_by 6 (some .int)) ({ frames := 1, cells := 0, slots := 0, locals := 25 } : Room)).room = ({ frames := 1, cells := 0, slots := 0, locals := 25 } : Room) from rfl]
  have hl := lv_entry ([.ref (ad 135), .int x1, .int x2, .int x3]) (n := 6) (Nat.le_of_ble_eq_true rfl)
  rw [show entryFrame m args 6 = entryFrame m ([.ref (ad 135), .int x1, .int x2, .int x3] : List Value).toArray 6 from by rw [hav], lg_entry_eq]
  generalize (lg_sl ([.ref (ad 135), .int x1, .int x2, .int x3]) ++ List.replicate (6 - (lg_sl ([.ref (ad 135), .int x1, .int x2, .int x3])).length) Slot.unset).toArray = ls at hl ⊢
  have hl : lv_has ls 6 [(0, .ref (ad 135)), (1, .int x1), (2, .int x2), (3, .int x3)] := hl
  have E0 : ∀ (H : Heap) (locs : List Loc) (ls : Array Slot), gG D cy ad (gA ad s.heap.size) s.heap h g H locs → lv_has ls 6 [(0, .ref (ad 135)), (1, .int x1), (2, .int x2), (3, .int x3)] → W p l e ({ frames := 1, cells := 0, slots := 0, locals := 25 } : Room) s m args below meth c H locs 0 0 (MQ below (va_Qi (fun (r : Int32) (u : HI × HL) => Q r u.1 u.2) (gB D cy ad s.heap.size) (gA ad s.heap.size)) args s 0 0 (gA ad s.heap.size)) (F0 m 0 ls []) := by
    intro H locs ls hG hl
    unfold w_X11_by at HW
    refine lv_sipush (v := 672) hx hb dX11_by_0 (by decide) ?_
    refine lv_iconst (v := 4) hx hb dX11_by_3 (by decide) ?_
    refine lv_iload_n hx hb dX11_by_4 rfl (lv_at hl 1 rfl) ?_
    refine lv_imul hx hb dX11_by_5 ?_
    refine lv_iadd hx hb dX11_by_6 ?_
    refine lv_topi (fun x4_7 ex4_7 => ?_)
    replace HW := HW x4_7 ex4_7
    refine lv_istore (lv' := [(4, .int x4_7), (0, .ref (ad 135)), (1, .int x1), (2, .int x2), (3, .int x3)]) hx hb dX11_by_7 hl (by decide) rfl (fun ls hl => ?_)
    refine lv_iload_n hx hb dX11_by_9 rfl (lv_at hl 3 rfl) ?_
    refine lv_aload_n hx hb dX11_by_10 rfl (lv_at hl 1 rfl) ?_
    refine g_getr hx hb hw inG11 hown hK hG gl_135 rfl gk_135 (by decide) 0 (by decide) (by rw [gm_135]; decide) (r := 136) gr_135_0 lk7 dX11_by_11 ?_
    refine lv_iload hx hb dX11_by_14 (lv_at hl 0 rfl) ?_
    refine g_iald hx hb hK hG gl_136 gk_136 gn_136 HW.1 dX11_by_16 ?_
    replace HW := HW.2
    refine lv_iadd hx hb dX11_by_17 ?_
    refine lv_topi (fun x5_18 ex5_18 => ?_)
    replace HW := HW x5_18 ex5_18
    refine lv_istore (lv' := [(5, .int x5_18), (4, .int x4_7), (0, .ref (ad 135)), (1, .int x1), (2, .int x2), (3, .int x3)]) hx hb dX11_by_18 hl (by decide) rfl (fun ls hl => ?_)
    refine lv_iload_n hx hb dX11_by_20 rfl (lv_at hl 4 rfl) ?_
    refine lv_i2l hx hb dX11_by_21 rfl ?_
    refine lv_aload_n hx hb dX11_by_22 rfl (lv_at hl 2 rfl) ?_
    refine g_getr hx hb hw inG11 hown hK hG gl_135 rfl gk_135 (by decide) 0 (by decide) (by rw [gm_135]; decide) (r := 136) gr_135_0 lk7 dX11_by_23 ?_
    refine lv_iload hx hb dX11_by_26 (lv_at hl 1 rfl) ?_
    refine lv_iconst (v := 2) hx hb dX11_by_28 (by decide) ?_
    refine lv_iadd hx hb dX11_by_29 ?_
    refine g_iald hx hb hK hG gl_136 gk_136 gn_136 HW.1 dX11_by_30 ?_
    replace HW := HW.2
    refine lv_i2l hx hb dX11_by_31 rfl ?_
    refine lv_aload_n hx hb dX11_by_32 rfl (lv_at hl 2 rfl) ?_
    refine g_getr hx hb hw inG11 hown hK hG gl_135 rfl gk_135 (by decide) 0 (by decide) (by rw [gm_135]; decide) (r := 136) gr_135_0 lk7 dX11_by_33 ?_
    refine lv_iload hx hb dX11_by_36 (lv_at hl 1 rfl) ?_
    refine lv_iconst (v := 3) hx hb dX11_by_38 (by decide) ?_
    refine lv_iadd hx hb dX11_by_39 ?_
    refine g_iald hx hb hK hG gl_136 gk_136 gn_136 HW.1 dX11_by_40 ?_
    replace HW := HW.2
    refine lv_i2l hx hb dX11_by_41 rfl ?_
    obtain ⟨P_42, HC_42, HW⟩ := HW
    refine g_callz (g_runS (As := [.long ((x2).toInt64), .long (((h 136 (x4_7 + (2 : Int32)).toNatClampNeg)).toInt64), .long (((h 136 (x4_7 + (3 : Int32)).toNatClampNeg)).toInt64)]) (rest := []) ⟨hx, hb, hml, hown, hts⟩ (m_X11_in l D cy ad h g H.size ((x2).toInt64) (((h 136 (x4_7 + (2 : Int32)).toNatClampNeg)).toInt64) (((h 136 (x4_7 + (3 : Int32)).toNatClampNeg)).toInt64) P_42 HC_42) (va_cwS 3 hts (gd_S (wm5 111 rfl rfl) (wm5 112 rfl rfl) (wm1 13 rfl rfl) (wm5 113 rfl rfl)) rfl rfl rfl (by decide +kernel) ⟨Nat.le_of_ble_eq_true rfl, Nat.le_of_ble_eq_true rfl⟩) hK hNw hG rfl rfl hl.1 rfl (lv_room (Nat.le_of_ble_eq_true rfl)) dX11_by_42 ⟨Nat.zero_le _, Nat.zero_le _⟩) hG (fun r_42 h_42 g_42 H locs hz hq hG => ?_)
    replace HW := HW r_42 h_42 g_42 hz hq
    refine lv_if_eq (tgt := 61) hx hb dX11_by_45 (by decide) (fun c_45 => ?_) (fun c_45 => ?_)
    · replace HW := HW.1 c_45
      refine lv_ldc (v := 1000000) hx hb hown cn234 dX11_by_61 ?_
      exact W.iret (v := (1000000 : Int32)) hx hb hr (fun t ht hW => ⟨⟨(1000000 : Int32), (h_42, g_42), rfl, HW, g_B ht hG⟩, hG.2.2.F ht⟩) hG.2.2.2.2 dX11_by_63
    · replace HW := HW.2 c_45
      refine lv_iload hx hb dX11_by_48 (lv_at hl 0 rfl) ?_
      refine lv_i2l hx hb dX11_by_50 rfl ?_
      refine lv_lconst (v := 1) hx hb dX11_by_51 (by decide) ?_
      refine lv_ldc2 (v := 3000) hx hb hown cn232 dX11_by_52 ?_
      obtain ⟨P_55, HC_55, HW⟩ := HW
      refine g_callz (g_runS (As := [.long ((x5_18).toInt64), .long (1 : Int64), .long (3000 : Int64)]) (rest := []) ⟨hx, hb, hml, hown, hts⟩ (m_X11_in l D cy ad h_42 g_42 H.size ((x5_18).toInt64) (1 : Int64) (3000 : Int64) P_55 HC_55) (va_cwS 3 hts (gd_S (wm5 111 rfl rfl) (wm5 112 rfl rfl) (wm1 13 rfl rfl) (wm5 113 rfl rfl)) rfl rfl rfl (by decide +kernel) ⟨Nat.le_of_ble_eq_true rfl, Nat.le_of_ble_eq_true rfl⟩) hK hNw hG rfl rfl hl.1 rfl (lv_room (Nat.le_of_ble_eq_true rfl)) dX11_by_55 ⟨Nat.zero_le _, Nat.zero_le _⟩) hG (fun r_55 h_55 g_55 H locs hz hq hG => ?_)
      replace HW := HW r_55 h_55 g_55 hz hq
      refine lv_if_ne (tgt := 64) hx hb dX11_by_58 (by decide) (fun c_58 => ?_) (fun c_58 => ?_)
      · replace HW := HW.1 c_58
        refine lv_aload_n hx hb dX11_by_64 rfl (lv_at hl 2 rfl) ?_
        refine g_getr hx hb hw inG11 hown hK hG gl_135 rfl gk_135 (by decide) 0 (by decide) (by rw [gm_135]; decide) (r := 136) gr_135_0 lk7 dX11_by_65 ?_
        refine lv_iload hx hb dX11_by_68 (lv_at hl 1 rfl) ?_
        refine lv_iconst (v := 1) hx hb dX11_by_70 (by decide) ?_
        refine lv_iadd hx hb dX11_by_71 ?_
        refine g_iald hx hb hK hG gl_136 gk_136 gn_136 HW.1 dX11_by_72 ?_
        replace HW := HW.2
        refine lv_aload_n hx hb dX11_by_73 rfl (lv_at hl 2 rfl) ?_
        refine g_getr hx hb hw inG11 hown hK hG gl_135 rfl gk_135 (by decide) 20 (by decide) (by rw [gm_135]; decide) (r := 143) gr_135_20 lk33 dX11_by_74 ?_
        refine lv_sipush (v := 3001) hx hb dX11_by_77 (by decide) ?_
        refine lv_iload_n hx hb dX11_by_80 rfl (lv_at hl 5 rfl) ?_
        refine lv_imul hx hb dX11_by_81 ?_
        refine lv_iload hx hb dX11_by_82 (lv_at hl 0 rfl) ?_
        refine lv_iadd hx hb dX11_by_84 ?_
        refine g_iald hx hb hK hG gl_143 gk_143 gn_143 HW.1 dX11_by_85 ?_
        replace HW := HW.2
        refine lv_iadd hx hb dX11_by_86 ?_
        exact W.iret (v := ((h_55 136 (x4_7 + (1 : Int32)).toNatClampNeg) + (h_55 143 (((3001 : Int32) * x3) + x5_18).toNatClampNeg))) hx hb hr (fun t ht hW => ⟨⟨((h_55 136 (x4_7 + (1 : Int32)).toNatClampNeg) + (h_55 143 (((3001 : Int32) * x3) + x5_18).toNatClampNeg)), (h_55, g_55), rfl, HW, g_B ht hG⟩, hG.2.2.F ht⟩) hG.2.2.2.2 dX11_by_87
      · replace HW := HW.2 c_58
        refine lv_ldc (v := 1000000) hx hb hown cn234 dX11_by_61 ?_
        exact W.iret (v := (1000000 : Int32)) hx hb hr (fun t ht hW => ⟨⟨(1000000 : Int32), (h_55, g_55), rfl, HW, g_B ht hG⟩, hG.2.2.F ht⟩) hG.2.2.2.2 dX11_by_63
  exact E0 _ _ _ hG hl

def j_X11_findPrices_96 (Q : HI → HL → Prop) (K2 : Int32 → Int32 → Int32 → HI → HL → Prop) (K10 : Int32 → Int32 → Int32 → Int32 → HI → HL → Prop) (x1 : Int32) (x2 : Int32) (x3 : Int32) (x4 : Int32) (x5 : Int32) (h : HI) (g : HL) : Prop :=
  (vp_in (((3001 : Int32) * x3) + x4) 18006 ∧ ∀ h_110 : HI, h_110 = hu h 143 (((3001 : Int32) * x3) + x4).toNatClampNeg x5 → (∀ x4_111 : Int32, x4_111 = (x4 + 1) → K10 x1 x2 x3 x4_111 h_110 g))
def j_X11_findPrices_88 (Q : HI → HL → Prop) (K2 : Int32 → Int32 → Int32 → HI → HL → Prop) (K10 : Int32 → Int32 → Int32 → Int32 → HI → HL → Prop) (K46 : Int32 → Int32 → Int32 → Int32 → Int32 → Int32 → HI → HL → Prop) (x1 : Int32) (x2 : Int32) (x3 : Int32) (x4 : Int32) (x6 : Int32) (s0 : Int32) (h : HI) (g : HL) : Prop :=
  (∀ x6_90 : Int32, x6_90 = (x6 + 1) → K46 x1 x2 x3 x4 s0 x6_90 h g)
def b_X11_findPrices_46 (Q : HI → HL → Prop) (K2 : Int32 → Int32 → Int32 → HI → HL → Prop) (K10 : Int32 → Int32 → Int32 → Int32 → HI → HL → Prop) (K46 : Int32 → Int32 → Int32 → Int32 → Int32 → Int32 → HI → HL → Prop) (x1 : Int32) (x2 : Int32) (x3 : Int32) (x4 : Int32) (x5 : Int32) (x6 : Int32) (h : HI) (g : HL) : Prop :=
  (vp_in (3 : Int32) 887 ∧ (((h 136 (3 : Int32).toNatClampNeg) ≤ x6 → j_X11_findPrices_96 Q K2 K10 x1 x2 x3 x4 x5 h g) ∧ (¬ (h 136 (3 : Int32).toNatClampNeg) ≤ x6 → ((x3 ≤ 0 → j_X11_findPrices_96 Q K2 K10 x1 x2 x3 x4 x5 h g) ∧ (¬ x3 ≤ 0 → (∃ P_69 : Int32 → HI → HL → Prop, w_X11_by x6 x4 (x3 - (1 : Int32)) h g P_69 ∧ ∀ (r_69 : Int32) (h_69 : HI) (g_69 : HL), P_69 r_69 h_69 g_69 → ((x5 ≤ r_69 → j_X11_findPrices_88 Q K2 K10 K46 x1 x2 x3 x4 x6 x5 h_69 g_69) ∧ (¬ x5 ≤ r_69 → j_X11_findPrices_88 Q K2 K10 K46 x1 x2 x3 x4 x6 r_69 h_69 g_69))))))))
def F_X11_findPrices_46 (Q : HI → HL → Prop) (K2 : Int32 → Int32 → Int32 → HI → HL → Prop) (K10 : Int32 → Int32 → Int32 → Int32 → HI → HL → Prop) (K : Int32 × Int32 × Int32 × Int32 × Int32 × Int32 × HI × HL → Prop) (q : Int32 × Int32 × Int32 × Int32 × Int32 × Int32 × HI × HL) : Prop := b_X11_findPrices_46 Q K2 K10 (fun x1 x2 x3 x4 x5 x6 h g => K (x1, x2, x3, x4, x5, x6, h, g)) q.1 q.2.1 q.2.2.1 q.2.2.2.1 q.2.2.2.2.1 q.2.2.2.2.2.1 q.2.2.2.2.2.2.1 q.2.2.2.2.2.2.2
def j_X11_findPrices_41 (Q : HI → HL → Prop) (K2 : Int32 → Int32 → Int32 → HI → HL → Prop) (K10 : Int32 → Int32 → Int32 → Int32 → HI → HL → Prop) (x1 : Int32) (x2 : Int32) (x3 : Int32) (x4 : Int32) (s0 : Int32) (h : HI) (g : HL) : Prop :=
  lpE (F_X11_findPrices_46 Q K2 K10) (x1, x2, x3, x4, s0, (0 : Int32), h, g)
def j_X11_findPrices_39 (Q : HI → HL → Prop) (K2 : Int32 → Int32 → Int32 → HI → HL → Prop) (K10 : Int32 → Int32 → Int32 → Int32 → HI → HL → Prop) (x1 : Int32) (x2 : Int32) (x3 : Int32) (x4 : Int32) (h : HI) (g : HL) : Prop :=
  j_X11_findPrices_41 Q K2 K10 x1 x2 x3 x4 (1000000 : Int32) h g
def b_X11_findPrices_10 (Q : HI → HL → Prop) (K2 : Int32 → Int32 → Int32 → HI → HL → Prop) (K10 : Int32 → Int32 → Int32 → Int32 → HI → HL → Prop) (x1 : Int32) (x2 : Int32) (x3 : Int32) (x4 : Int32) (h : HI) (g : HL) : Prop :=
  (((3000 : Int32) < x4 → (∀ x3_117 : Int32, x3_117 = (x3 + 1) → K2 x1 x2 x3_117 h g)) ∧ (¬ (3000 : Int32) < x4 → ((¬ x3 = 0 → j_X11_findPrices_39 Q K2 K10 x1 x2 x3 x4 h g) ∧ (x3 = 0 → (∃ P_29 : Int32 → HI → HL → Prop, w_X11_in ((x4).toInt64) ((x1).toInt64) ((x2).toInt64) h g P_29 ∧ ∀ (r_29 : Int32) (h_29 : HI) (g_29 : HL), zb r_29 → P_29 r_29 h_29 g_29 → ((r_29 = 0 → j_X11_findPrices_39 Q K2 K10 x1 x2 x3 x4 h_29 g_29) ∧ (¬ r_29 = 0 → j_X11_findPrices_41 Q K2 K10 x1 x2 x3 x4 (0 : Int32) h_29 g_29)))))))
def F_X11_findPrices_10 (Q : HI → HL → Prop) (K2 : Int32 → Int32 → Int32 → HI → HL → Prop) (K : Int32 × Int32 × Int32 × Int32 × HI × HL → Prop) (q : Int32 × Int32 × Int32 × Int32 × HI × HL) : Prop := b_X11_findPrices_10 Q K2 (fun x1 x2 x3 x4 h g => K (x1, x2, x3, x4, h, g)) q.1 q.2.1 q.2.2.1 q.2.2.2.1 q.2.2.2.2.1 q.2.2.2.2.2
def b_X11_findPrices_2 (Q : HI → HL → Prop) (K2 : Int32 → Int32 → Int32 → HI → HL → Prop) (x1 : Int32) (x2 : Int32) (x3 : Int32) (h : HI) (g : HL) : Prop :=
  (((5 : Int32) < x3 → Q h g) ∧ (¬ (5 : Int32) < x3 → lpE (F_X11_findPrices_10 Q K2) (x1, x2, x3, (1 : Int32), h, g)))
def F_X11_findPrices_2 (Q : HI → HL → Prop) (K : Int32 × Int32 × Int32 × HI × HL → Prop) (q : Int32 × Int32 × Int32 × HI × HL) : Prop := b_X11_findPrices_2 Q (fun x1 x2 x3 h g => K (x1, x2, x3, h, g)) q.1 q.2.1 q.2.2.1 q.2.2.2.1 q.2.2.2.2
def w_X11_findPrices (x1 : Int32) (x2 : Int32) (h : HI) (g : HL) (Q : HI → HL → Prop) : Prop :=
  lpE (F_X11_findPrices_2 Q) (x1, x2, (0 : Int32), h, g)
set_option maxHeartbeats 8000000 in
set_option maxRecDepth 100000 in
theorem m_X11_findPrices (l : Launch) (D : va_G) (cy : Nat → ClassId) (ad : Nat → Nat) (h : HI) (g : HL) (sz : Nat) (x1 : Int32) (x2 : Int32) (Q : HI → HL → Prop) (HW : w_X11_findPrices x1 x2 h g Q) : Met l yX11_findPrices (wa yX11_findPrices cX11_findPrices 8 none) ({ frames := 2, cells := 0, slots := 0, locals := 50 }) (va_Pc [.ref (ad 135), .int x1, .int x2] (gI D cy ad h g sz)) (va_Qv (fun (u : HI × HL) => Q u.1 u.2) (gB D cy ad sz) (gA ad sz)) 0 0 (gA ad sz) := by
  refine Met.ofW (cc := cX11_findPrices) (maxL := 8) (ret := none) (by decide) rfl ?_
  intro p e s m args below meth c s₁ B hml hv
  obtain ⟨hav, hsz, hP, hK, hD0, hNw⟩ := hv
  have hx := B.exec
  have hb := B.bytes
  have hr := B.returns
  have hts := atoms_spec (ws := (wa yX11_findPrices cX11_findPrices 8 none)) B.pre
  have hw := wa_hw hts
  have hown : s.vm.findClass RX11 = some m.cls := findClass_of_methodNamed B.named
  have hlocks := B.notSynchronized
  subst hsz
  have hG : gG D cy ad (gA ad s.heap.size) s.heap h g s.heap [] := ⟨hP, gA_self hD0, va_S.rf⟩
  clear hP hD0
  have lk7 := hw (.fieldLink RX11 7 "OldWorksModel" "st" "[I") (wm5 27 rfl rfl)
  have lk33 := hw (.fieldLink RX11 33 "OldWorksModel" "price" "[I") (wm5 47 rfl rfl)
  have cn234 := hw (.constant RX11 234 (1000000)) (wm6 75 rfl rfl)
  rw [show (headSpec (wa yX11_findPrices cX11_findPrices 8 none) ({ frames := 2, cells := 0, slots := 0, locals := 50 } : Room)).room = ({ frames := 2, cells := 0, slots := 0, locals := 50 } : Room) from rfl]
  have hl := lv_entry ([.ref (ad 135), .int x1, .int x2]) (n := 8) (Nat.le_of_ble_eq_true rfl)
  rw [show entryFrame m args 8 = entryFrame m ([.ref (ad 135), .int x1, .int x2] : List Value).toArray 8 from by rw [hav], lg_entry_eq]
  generalize (lg_sl ([.ref (ad 135), .int x1, .int x2]) ++ List.replicate (8 - (lg_sl ([.ref (ad 135), .int x1, .int x2])).length) Slot.unset).toArray = ls at hl ⊢
  have hl : lv_has ls 8 [(0, .ref (ad 135)), (1, .int x1), (2, .int x2)] := hl
  have B96 : ∀ (K2 : Int32 → Int32 → Int32 → HI → HL → Prop) (hK2 : ∀ (x1 : Int32) (x2 : Int32) (x3 : Int32) (h : HI) (g : HL) (H : Heap) (locs : List Loc) (ls : Array Slot), K2 x1 x2 x3 h g → gG D cy ad (gA ad s.heap.size) s.heap h g H locs → lv_has ls 8 [(0, .ref (ad 135)), (1, .int x1), (2, .int x2), (3, .int x3)] → W p l e ({ frames := 2, cells := 0, slots := 0, locals := 50 } : Room) s m args below meth c H locs 0 0 (MQ below (va_Qv (fun (u : HI × HL) => Q u.1 u.2) (gB D cy ad s.heap.size) (gA ad s.heap.size)) args s 0 0 (gA ad s.heap.size)) (F0 m 2 ls [])) (K10 : Int32 → Int32 → Int32 → Int32 → HI → HL → Prop) (hK10 : ∀ (x1 : Int32) (x2 : Int32) (x3 : Int32) (x4 : Int32) (h : HI) (g : HL) (H : Heap) (locs : List Loc) (ls : Array Slot), K10 x1 x2 x3 x4 h g → gG D cy ad (gA ad s.heap.size) s.heap h g H locs → lv_has ls 8 [(0, .ref (ad 135)), (1, .int x1), (2, .int x2), (3, .int x3), (4, .int x4)] → W p l e ({ frames := 2, cells := 0, slots := 0, locals := 50 } : Room) s m args below meth c H locs 0 0 (MQ below (va_Qv (fun (u : HI × HL) => Q u.1 u.2) (gB D cy ad s.heap.size) (gA ad s.heap.size)) args s 0 0 (gA ad s.heap.size)) (F0 m 10 ls [])) (x1 : Int32) (x2 : Int32) (x3 : Int32) (x4 : Int32) (x5 : Int32) (h : HI) (g : HL) (H : Heap) (locs : List Loc) (ls : Array Slot), j_X11_findPrices_96 Q K2 K10 x1 x2 x3 x4 x5 h g → gG D cy ad (gA ad s.heap.size) s.heap h g H locs → lv_has ls 8 [(0, .ref (ad 135)), (1, .int x1), (2, .int x2), (3, .int x3), (4, .int x4), (5, .int x5)] → W p l e ({ frames := 2, cells := 0, slots := 0, locals := 50 } : Room) s m args below meth c H locs 0 0 (MQ below (va_Qv (fun (u : HI × HL) => Q u.1 u.2) (gB D cy ad s.heap.size) (gA ad s.heap.size)) args s 0 0 (gA ad s.heap.size)) (F0 m 96 ls []) := by
    intro K2 hK2 K10 hK10 x1 x2 x3 x4 x5 h g H locs ls HW hG hl
    unfold j_X11_findPrices_96 at HW
    refine lv_aload_n hx hb dX11_findPrices_96 rfl (lv_at hl 0 rfl) ?_
    refine g_getr hx hb hw inG11 hown hK hG gl_135 rfl gk_135 (by decide) 20 (by decide) (by rw [gm_135]; decide) (r := 143) gr_135_20 lk33 dX11_findPrices_97 ?_
    refine lv_sipush (v := 3001) hx hb dX11_findPrices_100 (by decide) ?_
    refine lv_iload_n hx hb dX11_findPrices_103 rfl (lv_at hl 3 rfl) ?_
    refine lv_imul hx hb dX11_findPrices_104 ?_
    refine lv_iload hx hb dX11_findPrices_105 (lv_at hl 4 rfl) ?_
    refine lv_iadd hx hb dX11_findPrices_107 ?_
    refine lv_iload hx hb dX11_findPrices_108 (lv_at hl 5 rfl) ?_
    refine g_iast hx hb hK hG gl_143 gk_143 gn_143 HW.1 dX11_findPrices_110 (fun H locs hG => ?_)
    replace HW := HW.2
    obtain ⟨h_110, eh_110⟩ : ∃ y : HI, y = hu h 143 (((3001 : Int32) * x3) + x4).toNatClampNeg x5 := ⟨_, rfl⟩
    rw [← eh_110] at hG
    replace HW := HW h_110 eh_110
    obtain ⟨x4_111, ex4_111⟩ : ∃ y : Int32, y = (x4 + 1) := ⟨_, rfl⟩
    replace HW := HW x4_111 ex4_111
    refine lv_iinc (v := x4_111) (lv' := [(4, .int x4_111), (0, .ref (ad 135)), (1, .int x1), (2, .int x2), (3, .int x3), (5, .int x5)]) hx hb dX11_findPrices_111 hl (k := 4) rfl (by rw [ex4_111]; rfl) (by decide) rfl (fun ls hl => ?_)
    refine lv_goto (tgt := 10) hx hb dX11_findPrices_114 (by decide) ?_
    exact hK10 x1 x2 x3 x4_111 h_110 g _ _ _ HW hG (lv_sub hl [1, 2, 3, 4, 0] rfl)
  have B88 : ∀ (K2 : Int32 → Int32 → Int32 → HI → HL → Prop) (hK2 : ∀ (x1 : Int32) (x2 : Int32) (x3 : Int32) (h : HI) (g : HL) (H : Heap) (locs : List Loc) (ls : Array Slot), K2 x1 x2 x3 h g → gG D cy ad (gA ad s.heap.size) s.heap h g H locs → lv_has ls 8 [(0, .ref (ad 135)), (1, .int x1), (2, .int x2), (3, .int x3)] → W p l e ({ frames := 2, cells := 0, slots := 0, locals := 50 } : Room) s m args below meth c H locs 0 0 (MQ below (va_Qv (fun (u : HI × HL) => Q u.1 u.2) (gB D cy ad s.heap.size) (gA ad s.heap.size)) args s 0 0 (gA ad s.heap.size)) (F0 m 2 ls [])) (K10 : Int32 → Int32 → Int32 → Int32 → HI → HL → Prop) (hK10 : ∀ (x1 : Int32) (x2 : Int32) (x3 : Int32) (x4 : Int32) (h : HI) (g : HL) (H : Heap) (locs : List Loc) (ls : Array Slot), K10 x1 x2 x3 x4 h g → gG D cy ad (gA ad s.heap.size) s.heap h g H locs → lv_has ls 8 [(0, .ref (ad 135)), (1, .int x1), (2, .int x2), (3, .int x3), (4, .int x4)] → W p l e ({ frames := 2, cells := 0, slots := 0, locals := 50 } : Room) s m args below meth c H locs 0 0 (MQ below (va_Qv (fun (u : HI × HL) => Q u.1 u.2) (gB D cy ad s.heap.size) (gA ad s.heap.size)) args s 0 0 (gA ad s.heap.size)) (F0 m 10 ls [])) (K46 : Int32 → Int32 → Int32 → Int32 → Int32 → Int32 → HI → HL → Prop) (hK46 : ∀ (x1 : Int32) (x2 : Int32) (x3 : Int32) (x4 : Int32) (x5 : Int32) (x6 : Int32) (h : HI) (g : HL) (H : Heap) (locs : List Loc) (ls : Array Slot), K46 x1 x2 x3 x4 x5 x6 h g → gG D cy ad (gA ad s.heap.size) s.heap h g H locs → lv_has ls 8 [(0, .ref (ad 135)), (1, .int x1), (2, .int x2), (3, .int x3), (4, .int x4), (5, .int x5), (6, .int x6)] → W p l e ({ frames := 2, cells := 0, slots := 0, locals := 50 } : Room) s m args below meth c H locs 0 0 (MQ below (va_Qv (fun (u : HI × HL) => Q u.1 u.2) (gB D cy ad s.heap.size) (gA ad s.heap.size)) args s 0 0 (gA ad s.heap.size)) (F0 m 46 ls [])) (x1 : Int32) (x2 : Int32) (x3 : Int32) (x4 : Int32) (x6 : Int32) (s0 : Int32) (h : HI) (g : HL) (H : Heap) (locs : List Loc) (ls : Array Slot), j_X11_findPrices_88 Q K2 K10 K46 x1 x2 x3 x4 x6 s0 h g → gG D cy ad (gA ad s.heap.size) s.heap h g H locs → lv_has ls 8 [(0, .ref (ad 135)), (1, .int x1), (2, .int x2), (3, .int x3), (4, .int x4), (6, .int x6)] → W p l e ({ frames := 2, cells := 0, slots := 0, locals := 50 } : Room) s m args below meth c H locs 0 0 (MQ below (va_Qv (fun (u : HI × HL) => Q u.1 u.2) (gB D cy ad s.heap.size) (gA ad s.heap.size)) args s 0 0 (gA ad s.heap.size)) (F0 m 88 ls [.int s0]) := by
    intro K2 hK2 K10 hK10 K46 hK46 x1 x2 x3 x4 x6 s0 h g H locs ls HW hG hl
    unfold j_X11_findPrices_88 at HW
    refine lv_istore (lv' := [(5, .int s0), (0, .ref (ad 135)), (1, .int x1), (2, .int x2), (3, .int x3), (4, .int x4), (6, .int x6)]) hx hb dX11_findPrices_88 hl (by decide) rfl (fun ls hl => ?_)
    obtain ⟨x6_90, ex6_90⟩ : ∃ y : Int32, y = (x6 + 1) := ⟨_, rfl⟩
    replace HW := HW x6_90 ex6_90
    refine lv_iinc (v := x6_90) (lv' := [(6, .int x6_90), (5, .int s0), (0, .ref (ad 135)), (1, .int x1), (2, .int x2), (3, .int x3), (4, .int x4)]) hx hb dX11_findPrices_90 hl (k := 6) rfl (by rw [ex6_90]; rfl) (by decide) rfl (fun ls hl => ?_)
    refine lv_goto (tgt := 46) hx hb dX11_findPrices_93 (by decide) ?_
    exact hK46 x1 x2 x3 x4 s0 x6_90 h g _ _ _ HW hG (lv_sub hl [2, 3, 4, 5, 6, 1, 0] rfl)
  have L46 : ∀ (K2 : Int32 → Int32 → Int32 → HI → HL → Prop) (hK2 : ∀ (x1 : Int32) (x2 : Int32) (x3 : Int32) (h : HI) (g : HL) (H : Heap) (locs : List Loc) (ls : Array Slot), K2 x1 x2 x3 h g → gG D cy ad (gA ad s.heap.size) s.heap h g H locs → lv_has ls 8 [(0, .ref (ad 135)), (1, .int x1), (2, .int x2), (3, .int x3)] → W p l e ({ frames := 2, cells := 0, slots := 0, locals := 50 } : Room) s m args below meth c H locs 0 0 (MQ below (va_Qv (fun (u : HI × HL) => Q u.1 u.2) (gB D cy ad s.heap.size) (gA ad s.heap.size)) args s 0 0 (gA ad s.heap.size)) (F0 m 2 ls [])) (K10 : Int32 → Int32 → Int32 → Int32 → HI → HL → Prop) (hK10 : ∀ (x1 : Int32) (x2 : Int32) (x3 : Int32) (x4 : Int32) (h : HI) (g : HL) (H : Heap) (locs : List Loc) (ls : Array Slot), K10 x1 x2 x3 x4 h g → gG D cy ad (gA ad s.heap.size) s.heap h g H locs → lv_has ls 8 [(0, .ref (ad 135)), (1, .int x1), (2, .int x2), (3, .int x3), (4, .int x4)] → W p l e ({ frames := 2, cells := 0, slots := 0, locals := 50 } : Room) s m args below meth c H locs 0 0 (MQ below (va_Qv (fun (u : HI × HL) => Q u.1 u.2) (gB D cy ad s.heap.size) (gA ad s.heap.size)) args s 0 0 (gA ad s.heap.size)) (F0 m 10 ls [])) (n : Nat) (x1 : Int32) (x2 : Int32) (x3 : Int32) (x4 : Int32) (x5 : Int32) (x6 : Int32) (h : HI) (g : HL) (H : Heap) (locs : List Loc) (ls : Array Slot), lpN (F_X11_findPrices_46 Q K2 K10) n (x1, x2, x3, x4, x5, x6, h, g) → gG D cy ad (gA ad s.heap.size) s.heap h g H locs → lv_has ls 8 [(0, .ref (ad 135)), (1, .int x1), (2, .int x2), (3, .int x3), (4, .int x4), (5, .int x5), (6, .int x6)] → W p l e ({ frames := 2, cells := 0, slots := 0, locals := 50 } : Room) s m args below meth c H locs 0 0 (MQ below (va_Qv (fun (u : HI × HL) => Q u.1 u.2) (gB D cy ad s.heap.size) (gA ad s.heap.size)) args s 0 0 (gA ad s.heap.size)) (F0 m 46 ls []) := by
    intro K2 hK2 K10 hK10 n
    induction n with
    | zero => intro x1 x2 x3 x4 x5 x6 h g H locs ls HW; exact HW.elim
    | succ n ih =>
      intro x1 x2 x3 x4 x5 x6 h g H locs ls HW hG hl
      have HW : b_X11_findPrices_46 Q K2 K10 (fun x1 x2 x3 x4 x5 x6 h g => lpN (F_X11_findPrices_46 Q K2 K10) n (x1, x2, x3, x4, x5, x6, h, g)) x1 x2 x3 x4 x5 x6 h g := HW
      generalize hKe : (fun (x1 : Int32) (x2 : Int32) (x3 : Int32) (x4 : Int32) (x5 : Int32) (x6 : Int32) (h : HI) (g : HL) => lpN (F_X11_findPrices_46 Q K2 K10) n (x1, x2, x3, x4, x5, x6, h, g)) = K46 at HW
      have hK46 : ∀ (x1 : Int32) (x2 : Int32) (x3 : Int32) (x4 : Int32) (x5 : Int32) (x6 : Int32) (h : HI) (g : HL) (H : Heap) (locs : List Loc) (ls : Array Slot), K46 x1 x2 x3 x4 x5 x6 h g → gG D cy ad (gA ad s.heap.size) s.heap h g H locs → lv_has ls 8 [(0, .ref (ad 135)), (1, .int x1), (2, .int x2), (3, .int x3), (4, .int x4), (5, .int x5), (6, .int x6)] → W p l e ({ frames := 2, cells := 0, slots := 0, locals := 50 } : Room) s m args below meth c H locs 0 0 (MQ below (va_Qv (fun (u : HI × HL) => Q u.1 u.2) (gB D cy ad s.heap.size) (gA ad s.heap.size)) args s 0 0 (gA ad s.heap.size)) (F0 m 46 ls []) := by subst hKe; exact ih
      clear ih
      clear hKe
      unfold b_X11_findPrices_46 at HW
      refine lv_iload hx hb dX11_findPrices_46 (lv_at hl 6 rfl) ?_
      refine lv_aload_n hx hb dX11_findPrices_48 rfl (lv_at hl 0 rfl) ?_
      refine g_getr hx hb hw inG11 hown hK hG gl_135 rfl gk_135 (by decide) 0 (by decide) (by rw [gm_135]; decide) (r := 136) gr_135_0 lk7 dX11_findPrices_49 ?_
      refine lv_iconst (v := 3) hx hb dX11_findPrices_52 (by decide) ?_
      refine g_iald hx hb hK hG gl_136 gk_136 gn_136 HW.1 dX11_findPrices_53 ?_
      replace HW := HW.2
      refine lv_icmp_ge (tgt := 96) hx hb dX11_findPrices_54 (by decide) (fun c_54 => ?_) (fun c_54 => ?_)
      · replace HW := HW.1 c_54
        exact B96 K2 hK2 K10 hK10 x1 x2 x3 x4 x5 h g _ _ _ HW hG (lv_sub hl [0, 1, 2, 3, 4, 5] rfl)
      · replace HW := HW.2 c_54
        refine lv_iload_n hx hb dX11_findPrices_57 rfl (lv_at hl 3 rfl) ?_
        refine lv_if_le (tgt := 96) hx hb dX11_findPrices_58 (by decide) (fun c_58 => ?_) (fun c_58 => ?_)
        · replace HW := HW.1 c_58
          exact B96 K2 hK2 K10 hK10 x1 x2 x3 x4 x5 h g _ _ _ HW hG (lv_sub hl [0, 1, 2, 3, 4, 5] rfl)
        · replace HW := HW.2 c_58
          refine lv_aload_n hx hb dX11_findPrices_61 rfl (lv_at hl 0 rfl) ?_
          refine lv_iload hx hb dX11_findPrices_62 (lv_at hl 6 rfl) ?_
          refine lv_iload hx hb dX11_findPrices_64 (lv_at hl 4 rfl) ?_
          refine lv_iload_n hx hb dX11_findPrices_66 rfl (lv_at hl 3 rfl) ?_
          refine lv_iconst (v := 1) hx hb dX11_findPrices_67 (by decide) ?_
          refine lv_isub hx hb dX11_findPrices_68 ?_
          obtain ⟨P_69, HC_69, HW⟩ := HW
          refine g_calli (g_runV (As := [.int x6, .int x4, .int (x3 - (1 : Int32))]) (rest := []) ⟨hx, hb, hml, hown, hts⟩ (m_X11_by l D cy ad h g H.size x6 x4 (x3 - (1 : Int32)) P_69 HC_69) (cwV 3 hts (gd_V (wm6 76 rfl rfl) (wm6 78 rfl rfl) (wmp5 (q := (yX11_by, 26)) 0 rfl) (wm1 13 rfl rfl) (wm6 79 rfl rfl)) rfl rfl rfl (by decide +kernel) ⟨Nat.le_of_ble_eq_true rfl, Nat.le_of_ble_eq_true rfl⟩) hK hNw hG gl_135 rfl gk_135 (by decide) rfl rfl hl.1 rfl (lv_room (Nat.le_of_ble_eq_true rfl)) dX11_findPrices_69 ⟨Nat.zero_le _, Nat.zero_le _⟩) hG (fun r_69 h_69 g_69 H locs hq hG => ?_)
          replace HW := HW r_69 h_69 g_69 hq
          refine lv_istore (lv' := [(7, .int r_69), (0, .ref (ad 135)), (1, .int x1), (2, .int x2), (3, .int x3), (4, .int x4), (5, .int x5), (6, .int x6)]) hx hb dX11_findPrices_72 hl (by decide) rfl (fun ls hl => ?_)
          refine lv_iload hx hb dX11_findPrices_74 (lv_at hl 0 rfl) ?_
          refine lv_iload hx hb dX11_findPrices_76 (lv_at hl 6 rfl) ?_
          refine lv_icmp_ge (tgt := 86) hx hb dX11_findPrices_78 (by decide) (fun c_78 => ?_) (fun c_78 => ?_)
          · replace HW := HW.1 c_78
            refine lv_iload hx hb dX11_findPrices_86 (lv_at hl 6 rfl) ?_
            exact B88 K2 hK2 K10 hK10 K46 hK46 x1 x2 x3 x4 x6 x5 h_69 g_69 _ _ _ HW hG (lv_sub hl [1, 2, 3, 4, 5, 7] rfl)
          · replace HW := HW.2 c_78
            refine lv_iload hx hb dX11_findPrices_81 (lv_at hl 0 rfl) ?_
            refine lv_goto (tgt := 88) hx hb dX11_findPrices_83 (by decide) ?_
            exact B88 K2 hK2 K10 hK10 K46 hK46 x1 x2 x3 x4 x6 r_69 h_69 g_69 _ _ _ HW hG (lv_sub hl [1, 2, 3, 4, 5, 7] rfl)
  have B41 : ∀ (K2 : Int32 → Int32 → Int32 → HI → HL → Prop) (hK2 : ∀ (x1 : Int32) (x2 : Int32) (x3 : Int32) (h : HI) (g : HL) (H : Heap) (locs : List Loc) (ls : Array Slot), K2 x1 x2 x3 h g → gG D cy ad (gA ad s.heap.size) s.heap h g H locs → lv_has ls 8 [(0, .ref (ad 135)), (1, .int x1), (2, .int x2), (3, .int x3)] → W p l e ({ frames := 2, cells := 0, slots := 0, locals := 50 } : Room) s m args below meth c H locs 0 0 (MQ below (va_Qv (fun (u : HI × HL) => Q u.1 u.2) (gB D cy ad s.heap.size) (gA ad s.heap.size)) args s 0 0 (gA ad s.heap.size)) (F0 m 2 ls [])) (K10 : Int32 → Int32 → Int32 → Int32 → HI → HL → Prop) (hK10 : ∀ (x1 : Int32) (x2 : Int32) (x3 : Int32) (x4 : Int32) (h : HI) (g : HL) (H : Heap) (locs : List Loc) (ls : Array Slot), K10 x1 x2 x3 x4 h g → gG D cy ad (gA ad s.heap.size) s.heap h g H locs → lv_has ls 8 [(0, .ref (ad 135)), (1, .int x1), (2, .int x2), (3, .int x3), (4, .int x4)] → W p l e ({ frames := 2, cells := 0, slots := 0, locals := 50 } : Room) s m args below meth c H locs 0 0 (MQ below (va_Qv (fun (u : HI × HL) => Q u.1 u.2) (gB D cy ad s.heap.size) (gA ad s.heap.size)) args s 0 0 (gA ad s.heap.size)) (F0 m 10 ls [])) (x1 : Int32) (x2 : Int32) (x3 : Int32) (x4 : Int32) (s0 : Int32) (h : HI) (g : HL) (H : Heap) (locs : List Loc) (ls : Array Slot), j_X11_findPrices_41 Q K2 K10 x1 x2 x3 x4 s0 h g → gG D cy ad (gA ad s.heap.size) s.heap h g H locs → lv_has ls 8 [(0, .ref (ad 135)), (1, .int x1), (2, .int x2), (3, .int x3), (4, .int x4)] → W p l e ({ frames := 2, cells := 0, slots := 0, locals := 50 } : Room) s m args below meth c H locs 0 0 (MQ below (va_Qv (fun (u : HI × HL) => Q u.1 u.2) (gB D cy ad s.heap.size) (gA ad s.heap.size)) args s 0 0 (gA ad s.heap.size)) (F0 m 41 ls [.int s0]) := by
    intro K2 hK2 K10 hK10 x1 x2 x3 x4 s0 h g H locs ls HW hG hl
    unfold j_X11_findPrices_41 at HW
    refine lv_istore (lv' := [(5, .int s0), (0, .ref (ad 135)), (1, .int x1), (2, .int x2), (3, .int x3), (4, .int x4)]) hx hb dX11_findPrices_41 hl (by decide) rfl (fun ls hl => ?_)
    refine lv_iconst (v := 0) hx hb dX11_findPrices_43 (by decide) ?_
    refine lv_istore (lv' := [(6, .int (0 : Int32)), (5, .int s0), (0, .ref (ad 135)), (1, .int x1), (2, .int x2), (3, .int x3), (4, .int x4)]) hx hb dX11_findPrices_44 hl (by decide) rfl (fun ls hl => ?_)
    obtain ⟨n_46, HW⟩ := HW
    exact L46 K2 hK2 K10 hK10 n_46 x1 x2 x3 x4 s0 (0 : Int32) h g _ _ _ HW hG (lv_sub hl [2, 3, 4, 5, 6, 1, 0] rfl)
  have B39 : ∀ (K2 : Int32 → Int32 → Int32 → HI → HL → Prop) (hK2 : ∀ (x1 : Int32) (x2 : Int32) (x3 : Int32) (h : HI) (g : HL) (H : Heap) (locs : List Loc) (ls : Array Slot), K2 x1 x2 x3 h g → gG D cy ad (gA ad s.heap.size) s.heap h g H locs → lv_has ls 8 [(0, .ref (ad 135)), (1, .int x1), (2, .int x2), (3, .int x3)] → W p l e ({ frames := 2, cells := 0, slots := 0, locals := 50 } : Room) s m args below meth c H locs 0 0 (MQ below (va_Qv (fun (u : HI × HL) => Q u.1 u.2) (gB D cy ad s.heap.size) (gA ad s.heap.size)) args s 0 0 (gA ad s.heap.size)) (F0 m 2 ls [])) (K10 : Int32 → Int32 → Int32 → Int32 → HI → HL → Prop) (hK10 : ∀ (x1 : Int32) (x2 : Int32) (x3 : Int32) (x4 : Int32) (h : HI) (g : HL) (H : Heap) (locs : List Loc) (ls : Array Slot), K10 x1 x2 x3 x4 h g → gG D cy ad (gA ad s.heap.size) s.heap h g H locs → lv_has ls 8 [(0, .ref (ad 135)), (1, .int x1), (2, .int x2), (3, .int x3), (4, .int x4)] → W p l e ({ frames := 2, cells := 0, slots := 0, locals := 50 } : Room) s m args below meth c H locs 0 0 (MQ below (va_Qv (fun (u : HI × HL) => Q u.1 u.2) (gB D cy ad s.heap.size) (gA ad s.heap.size)) args s 0 0 (gA ad s.heap.size)) (F0 m 10 ls [])) (x1 : Int32) (x2 : Int32) (x3 : Int32) (x4 : Int32) (h : HI) (g : HL) (H : Heap) (locs : List Loc) (ls : Array Slot), j_X11_findPrices_39 Q K2 K10 x1 x2 x3 x4 h g → gG D cy ad (gA ad s.heap.size) s.heap h g H locs → lv_has ls 8 [(0, .ref (ad 135)), (1, .int x1), (2, .int x2), (3, .int x3), (4, .int x4)] → W p l e ({ frames := 2, cells := 0, slots := 0, locals := 50 } : Room) s m args below meth c H locs 0 0 (MQ below (va_Qv (fun (u : HI × HL) => Q u.1 u.2) (gB D cy ad s.heap.size) (gA ad s.heap.size)) args s 0 0 (gA ad s.heap.size)) (F0 m 39 ls []) := by
    intro K2 hK2 K10 hK10 x1 x2 x3 x4 h g H locs ls HW hG hl
    unfold j_X11_findPrices_39 at HW
    refine lv_ldc (v := 1000000) hx hb hown cn234 dX11_findPrices_39 ?_
    exact B41 K2 hK2 K10 hK10 x1 x2 x3 x4 (1000000 : Int32) h g _ _ _ HW hG (lv_sub hl [0, 1, 2, 3, 4] rfl)
  have L10 : ∀ (K2 : Int32 → Int32 → Int32 → HI → HL → Prop) (hK2 : ∀ (x1 : Int32) (x2 : Int32) (x3 : Int32) (h : HI) (g : HL) (H : Heap) (locs : List Loc) (ls : Array Slot), K2 x1 x2 x3 h g → gG D cy ad (gA ad s.heap.size) s.heap h g H locs → lv_has ls 8 [(0, .ref (ad 135)), (1, .int x1), (2, .int x2), (3, .int x3)] → W p l e ({ frames := 2, cells := 0, slots := 0, locals := 50 } : Room) s m args below meth c H locs 0 0 (MQ below (va_Qv (fun (u : HI × HL) => Q u.1 u.2) (gB D cy ad s.heap.size) (gA ad s.heap.size)) args s 0 0 (gA ad s.heap.size)) (F0 m 2 ls [])) (n : Nat) (x1 : Int32) (x2 : Int32) (x3 : Int32) (x4 : Int32) (h : HI) (g : HL) (H : Heap) (locs : List Loc) (ls : Array Slot), lpN (F_X11_findPrices_10 Q K2) n (x1, x2, x3, x4, h, g) → gG D cy ad (gA ad s.heap.size) s.heap h g H locs → lv_has ls 8 [(0, .ref (ad 135)), (1, .int x1), (2, .int x2), (3, .int x3), (4, .int x4)] → W p l e ({ frames := 2, cells := 0, slots := 0, locals := 50 } : Room) s m args below meth c H locs 0 0 (MQ below (va_Qv (fun (u : HI × HL) => Q u.1 u.2) (gB D cy ad s.heap.size) (gA ad s.heap.size)) args s 0 0 (gA ad s.heap.size)) (F0 m 10 ls []) := by
    intro K2 hK2 n
    induction n with
    | zero => intro x1 x2 x3 x4 h g H locs ls HW; exact HW.elim
    | succ n ih =>
      intro x1 x2 x3 x4 h g H locs ls HW hG hl
      have HW : b_X11_findPrices_10 Q K2 (fun x1 x2 x3 x4 h g => lpN (F_X11_findPrices_10 Q K2) n (x1, x2, x3, x4, h, g)) x1 x2 x3 x4 h g := HW
      generalize hKe : (fun (x1 : Int32) (x2 : Int32) (x3 : Int32) (x4 : Int32) (h : HI) (g : HL) => lpN (F_X11_findPrices_10 Q K2) n (x1, x2, x3, x4, h, g)) = K10 at HW
      have hK10 : ∀ (x1 : Int32) (x2 : Int32) (x3 : Int32) (x4 : Int32) (h : HI) (g : HL) (H : Heap) (locs : List Loc) (ls : Array Slot), K10 x1 x2 x3 x4 h g → gG D cy ad (gA ad s.heap.size) s.heap h g H locs → lv_has ls 8 [(0, .ref (ad 135)), (1, .int x1), (2, .int x2), (3, .int x3), (4, .int x4)] → W p l e ({ frames := 2, cells := 0, slots := 0, locals := 50 } : Room) s m args below meth c H locs 0 0 (MQ below (va_Qv (fun (u : HI × HL) => Q u.1 u.2) (gB D cy ad s.heap.size) (gA ad s.heap.size)) args s 0 0 (gA ad s.heap.size)) (F0 m 10 ls []) := by subst hKe; exact ih
      clear ih
      clear hKe
      unfold b_X11_findPrices_10 at HW
      refine lv_iload hx hb dX11_findPrices_10 (lv_at hl 4 rfl) ?_
      refine lv_sipush (v := 3000) hx hb dX11_findPrices_12 (by decide) ?_
      refine lv_icmp_gt (tgt := 117) hx hb dX11_findPrices_15 (by decide) (fun c_15 => ?_) (fun c_15 => ?_)
      · replace HW := HW.1 c_15
        obtain ⟨x3_117, ex3_117⟩ : ∃ y : Int32, y = (x3 + 1) := ⟨_, rfl⟩
        replace HW := HW x3_117 ex3_117
        refine lv_iinc (v := x3_117) (lv' := [(3, .int x3_117), (0, .ref (ad 135)), (1, .int x1), (2, .int x2), (4, .int x4)]) hx hb dX11_findPrices_117 hl (k := 3) rfl (by rw [ex3_117]; rfl) (by decide) rfl (fun ls hl => ?_)
        refine lv_goto (tgt := 2) hx hb dX11_findPrices_120 (by decide) ?_
        exact hK2 x1 x2 x3_117 h g _ _ _ HW hG (lv_sub hl [1, 2, 3, 0] rfl)
      · replace HW := HW.2 c_15
        refine lv_iload_n hx hb dX11_findPrices_18 rfl (lv_at hl 3 rfl) ?_
        refine lv_if_ne (tgt := 39) hx hb dX11_findPrices_19 (by decide) (fun c_19 => ?_) (fun c_19 => ?_)
        · replace HW := HW.1 c_19
          exact B39 K2 hK2 K10 hK10 x1 x2 x3 x4 h g _ _ _ HW hG (lv_sub hl [0, 1, 2, 3, 4] rfl)
        · replace HW := HW.2 c_19
          refine lv_iload hx hb dX11_findPrices_22 (lv_at hl 4 rfl) ?_
          refine lv_i2l hx hb dX11_findPrices_24 rfl ?_
          refine lv_iload_n hx hb dX11_findPrices_25 rfl (lv_at hl 1 rfl) ?_
          refine lv_i2l hx hb dX11_findPrices_26 rfl ?_
          refine lv_iload_n hx hb dX11_findPrices_27 rfl (lv_at hl 2 rfl) ?_
          refine lv_i2l hx hb dX11_findPrices_28 rfl ?_
          obtain ⟨P_29, HC_29, HW⟩ := HW
          refine g_callz (g_runS (As := [.long ((x4).toInt64), .long ((x1).toInt64), .long ((x2).toInt64)]) (rest := []) ⟨hx, hb, hml, hown, hts⟩ (m_X11_in l D cy ad h g H.size ((x4).toInt64) ((x1).toInt64) ((x2).toInt64) P_29 HC_29) (va_cwS 3 hts (gd_S (wm5 111 rfl rfl) (wm5 112 rfl rfl) (wm1 13 rfl rfl) (wm5 113 rfl rfl)) rfl rfl rfl (by decide +kernel) ⟨Nat.le_of_ble_eq_true rfl, Nat.le_of_ble_eq_true rfl⟩) hK hNw hG rfl rfl hl.1 rfl (lv_room (Nat.le_of_ble_eq_true rfl)) dX11_findPrices_29 ⟨Nat.zero_le _, Nat.zero_le _⟩) hG (fun r_29 h_29 g_29 H locs hz hq hG => ?_)
          replace HW := HW r_29 h_29 g_29 hz hq
          refine lv_if_eq (tgt := 39) hx hb dX11_findPrices_32 (by decide) (fun c_32 => ?_) (fun c_32 => ?_)
          · replace HW := HW.1 c_32
            exact B39 K2 hK2 K10 hK10 x1 x2 x3 x4 h_29 g_29 _ _ _ HW hG (lv_sub hl [0, 1, 2, 3, 4] rfl)
          · replace HW := HW.2 c_32
            refine lv_iconst (v := 0) hx hb dX11_findPrices_35 (by decide) ?_
            refine lv_goto (tgt := 41) hx hb dX11_findPrices_36 (by decide) ?_
            exact B41 K2 hK2 K10 hK10 x1 x2 x3 x4 (0 : Int32) h_29 g_29 _ _ _ HW hG (lv_sub hl [0, 1, 2, 3, 4] rfl)
  have L2 : ∀ (n : Nat) (x1 : Int32) (x2 : Int32) (x3 : Int32) (h : HI) (g : HL) (H : Heap) (locs : List Loc) (ls : Array Slot), lpN (F_X11_findPrices_2 Q) n (x1, x2, x3, h, g) → gG D cy ad (gA ad s.heap.size) s.heap h g H locs → lv_has ls 8 [(0, .ref (ad 135)), (1, .int x1), (2, .int x2), (3, .int x3)] → W p l e ({ frames := 2, cells := 0, slots := 0, locals := 50 } : Room) s m args below meth c H locs 0 0 (MQ below (va_Qv (fun (u : HI × HL) => Q u.1 u.2) (gB D cy ad s.heap.size) (gA ad s.heap.size)) args s 0 0 (gA ad s.heap.size)) (F0 m 2 ls []) := by
    intro n
    induction n with
    | zero => intro x1 x2 x3 h g H locs ls HW; exact HW.elim
    | succ n ih =>
      intro x1 x2 x3 h g H locs ls HW hG hl
      have HW : b_X11_findPrices_2 Q (fun x1 x2 x3 h g => lpN (F_X11_findPrices_2 Q) n (x1, x2, x3, h, g)) x1 x2 x3 h g := HW
      generalize hKe : (fun (x1 : Int32) (x2 : Int32) (x3 : Int32) (h : HI) (g : HL) => lpN (F_X11_findPrices_2 Q) n (x1, x2, x3, h, g)) = K2 at HW
      have hK2 : ∀ (x1 : Int32) (x2 : Int32) (x3 : Int32) (h : HI) (g : HL) (H : Heap) (locs : List Loc) (ls : Array Slot), K2 x1 x2 x3 h g → gG D cy ad (gA ad s.heap.size) s.heap h g H locs → lv_has ls 8 [(0, .ref (ad 135)), (1, .int x1), (2, .int x2), (3, .int x3)] → W p l e ({ frames := 2, cells := 0, slots := 0, locals := 50 } : Room) s m args below meth c H locs 0 0 (MQ below (va_Qv (fun (u : HI × HL) => Q u.1 u.2) (gB D cy ad s.heap.size) (gA ad s.heap.size)) args s 0 0 (gA ad s.heap.size)) (F0 m 2 ls []) := by subst hKe; exact ih
      clear ih
      clear hKe
      unfold b_X11_findPrices_2 at HW
      refine lv_iload_n hx hb dX11_findPrices_2 rfl (lv_at hl 3 rfl) ?_
      refine lv_iconst (v := 5) hx hb dX11_findPrices_3 (by decide) ?_
      refine lv_icmp_gt (tgt := 123) hx hb dX11_findPrices_4 (by decide) (fun c_4 => ?_) (fun c_4 => ?_)
      · replace HW := HW.1 c_4
        exact W.vret hx hb hr (fun t ht hW => ⟨⟨(h, g), rfl, HW, g_B ht hG⟩, hG.2.2.F ht⟩) hG.2.2.2.2 dX11_findPrices_123
      · replace HW := HW.2 c_4
        refine lv_iconst (v := 1) hx hb dX11_findPrices_7 (by decide) ?_
        refine lv_istore (lv' := [(4, .int (1 : Int32)), (0, .ref (ad 135)), (1, .int x1), (2, .int x2), (3, .int x3)]) hx hb dX11_findPrices_8 hl (by decide) rfl (fun ls hl => ?_)
        obtain ⟨n_10, HW⟩ := HW
        exact L10 K2 hK2 n_10 x1 x2 x3 (1 : Int32) h g _ _ _ HW hG (lv_sub hl [1, 2, 3, 4, 0] rfl)
  have E0 : ∀ (H : Heap) (locs : List Loc) (ls : Array Slot), gG D cy ad (gA ad s.heap.size) s.heap h g H locs → lv_has ls 8 [(0, .ref (ad 135)), (1, .int x1), (2, .int x2)] → W p l e ({ frames := 2, cells := 0, slots := 0, locals := 50 } : Room) s m args below meth c H locs 0 0 (MQ below (va_Qv (fun (u : HI × HL) => Q u.1 u.2) (gB D cy ad s.heap.size) (gA ad s.heap.size)) args s 0 0 (gA ad s.heap.size)) (F0 m 0 ls []) := by
    intro H locs ls hG hl
    unfold w_X11_findPrices at HW
    refine lv_iconst (v := 0) hx hb dX11_findPrices_0 (by decide) ?_
    refine lv_istore_n (lv' := [(3, .int (0 : Int32)), (0, .ref (ad 135)), (1, .int x1), (2, .int x2)]) hx hb dX11_findPrices_1 rfl hl (by decide) rfl (fun ls hl => ?_)
    obtain ⟨n_2, HW⟩ := HW
    exact L2 n_2 x1 x2 (0 : Int32) h g _ _ _ HW hG (lv_sub hl [1, 2, 3, 0] rfl)
  exact E0 _ _ _ hG hl

def b_X11_way_180 (Q : Int32 → HI → HL → Prop) (K170 : Int32 → Int32 → Int32 → Int32 → Int32 → HI → HL → Prop) (K180 : Int32 → Int32 → Int32 → Int32 → Int32 → HI → HL → Prop) (x4 : Int32) (x5 : Int32) (x7 : Int32) (x8 : Int32) (x9 : Int32) (h : HI) (g : HL) : Prop :=
  (∃ P_192 : Int32 → HI → HL → Prop, w_X11_by x8 x7 ((x5 - x9) - (1 : Int32)) h g P_192 ∧ ∀ (r_192 : Int32) (h_192 : HI) (g_192 : HL), P_192 r_192 h_192 g_192 → (vp_in (((3001 : Int32) * (x5 - x9)) + x7) 18006 ∧ ((r_192 = (h_192 143 (((3001 : Int32) * (x5 - x9)) + x7).toNatClampNeg) → (vp_in ((672 : Int32) + ((4 : Int32) * x8)) 887 ∧ (∀ x7_237 : Int32, x7_237 = (x7 + (h_192 136 ((672 : Int32) + ((4 : Int32) * x8)).toNatClampNeg)) → (∀ x9_239 : Int32, x9_239 = (x9 + 1) → K170 x4 x5 x7_237 x8 x9_239 h_192 g_192)))) ∧ (¬ r_192 = (h_192 143 (((3001 : Int32) * (x5 - x9)) + x7).toNatClampNeg) → (∀ x8_215 : Int32, x8_215 = (x8 + 1) → K180 x4 x5 x7 x8_215 x9 h_192 g_192)))))
def F_X11_way_180 (Q : Int32 → HI → HL → Prop) (K170 : Int32 → Int32 → Int32 → Int32 → Int32 → HI → HL → Prop) (K : Int32 × Int32 × Int32 × Int32 × Int32 × HI × HL → Prop) (q : Int32 × Int32 × Int32 × Int32 × Int32 × HI × HL) : Prop := b_X11_way_180 Q K170 (fun x4 x5 x7 x8 x9 h g => K (x4, x5, x7, x8, x9, h, g)) q.1 q.2.1 q.2.2.1 q.2.2.2.1 q.2.2.2.2.1 q.2.2.2.2.2.1 q.2.2.2.2.2.2
def b_X11_way_170 (Q : Int32 → HI → HL → Prop) (K170 : Int32 → Int32 → Int32 → Int32 → Int32 → HI → HL → Prop) (x4 : Int32) (x5 : Int32) (x7 : Int32) (x8 : Int32) (x9 : Int32) (h : HI) (g : HL) : Prop :=
  ((x4 < x9 → Q x8 h g) ∧ (¬ x4 < x9 → lpE (F_X11_way_180 Q K170) (x4, x5, x7, (0 : Int32), x9, h, g)))
def F_X11_way_170 (Q : Int32 → HI → HL → Prop) (K : Int32 × Int32 × Int32 × Int32 × Int32 × HI × HL → Prop) (q : Int32 × Int32 × Int32 × Int32 × Int32 × HI × HL) : Prop := b_X11_way_170 Q (fun x4 x5 x7 x8 x9 h g => K (x4, x5, x7, x8, x9, h, g)) q.1 q.2.1 q.2.2.1 q.2.2.2.1 q.2.2.2.2.1 q.2.2.2.2.2.1 q.2.2.2.2.2.2
def j_X11_way_100 (Q : Int32 → HI → HL → Prop) (K58 : Int32 → Int32 → Int32 → Int32 → HI → HL → Prop) (x1 : Int32) (x4 : Int32) (x6 : Int32) (s0 : Int32) (h : HI) (g : HL) : Prop :=
  (∀ x6_102 : Int32, x6_102 = (x6 + 1) → K58 x1 x4 s0 x6_102 h g)
def b_X11_way_58 (Q : Int32 → HI → HL → Prop) (K58 : Int32 → Int32 → Int32 → Int32 → HI → HL → Prop) (x1 : Int32) (x4 : Int32) (x5 : Int32) (x6 : Int32) (h : HI) (g : HL) : Prop :=
  (((5 : Int32) < x6 → (vp_in (((3001 : Int32) * x5) + x1) 18006 ∧ (∀ x6_121 : Int32, x6_121 = (h 143 (((3001 : Int32) * x5) + x1).toNatClampNeg) → ((x6_121 < (1000000 : Int32) → ((0 ≤ x4 → ((x4 < x5 → lpE (F_X11_way_170 Q) (x4, x5, x1, (0 : Int32), (0 : Int32), h, g)) ∧ (¬ x4 < x5 → Q (-1 : Int32) h g))) ∧ (¬ 0 ≤ x4 → ((¬ x4 = (-1 : Int32) → Q x5 h g) ∧ (x4 = (-1 : Int32) → Q x6_121 h g))))) ∧ (¬ x6_121 < (1000000 : Int32) → Q (-5 : Int32) h g))))) ∧ (¬ (5 : Int32) < x6 → (vp_in (((3001 : Int32) * x6) + x1) 18006 ∧ (vp_in (((3001 : Int32) * x5) + x1) 18006 ∧ (((h 143 (((3001 : Int32) * x5) + x1).toNatClampNeg) ≤ (h 143 (((3001 : Int32) * x6) + x1).toNatClampNeg) → j_X11_way_100 Q K58 x1 x4 x6 x5 h g) ∧ (¬ (h 143 (((3001 : Int32) * x5) + x1).toNatClampNeg) ≤ (h 143 (((3001 : Int32) * x6) + x1).toNatClampNeg) → j_X11_way_100 Q K58 x1 x4 x6 x6 h g))))))
def F_X11_way_58 (Q : Int32 → HI → HL → Prop) (K : Int32 × Int32 × Int32 × Int32 × HI × HL → Prop) (q : Int32 × Int32 × Int32 × Int32 × HI × HL) : Prop := b_X11_way_58 Q (fun x1 x4 x5 x6 h g => K (x1, x4, x5, x6, h, g)) q.1 q.2.1 q.2.2.1 q.2.2.2.1 q.2.2.2.2.1 q.2.2.2.2.2
def w_X11_way (x1 : Int32) (x2 : Int32) (x3 : Int32) (x4 : Int32) (h : HI) (g : HL) (Q : Int32 → HI → HL → Prop) : Prop :=
  (∃ P_6 : Int32 → HI → HL → Prop, w_X11_in ((x1).toInt64) (1 : Int64) (3000 : Int64) h g P_6 ∧ ∀ (r_6 : Int32) (h_6 : HI) (g_6 : HL), zb r_6 → P_6 r_6 h_6 g_6 → ((r_6 = 0 → Q (-10 : Int32) h_6 g_6) ∧ (¬ r_6 = 0 → (∃ P_17 : Int32 → HI → HL → Prop, w_X11_in ((x2).toInt64) (1 : Int64) ((x3).toInt64) h_6 g_6 P_17 ∧ ∀ (r_17 : Int32) (h_17 : HI) (g_17 : HL), zb r_17 → P_17 r_17 h_17 g_17 → ((r_17 = 0 → Q (-10 : Int32) h_17 g_17) ∧ (¬ r_17 = 0 → (∃ P_30 : Int32 → HI → HL → Prop, w_X11_in ((x3).toInt64) ((x2).toInt64) (3000 : Int64) h_17 g_17 P_30 ∧ ∀ (r_30 : Int32) (h_30 : HI) (g_30 : HL), zb r_30 → P_30 r_30 h_30 g_30 → ((r_30 = 0 → Q (-10 : Int32) h_30 g_30) ∧ (¬ r_30 = 0 → (((-2 : Int32) ≤ x4 → (∃ P_49 : HI → HL → Prop, w_X11_findPrices x2 x3 h_30 g_30 P_49 ∧ ∀ (h_49 : HI) (g_49 : HL), P_49 h_49 g_49 → lpE (F_X11_way_58 Q) (x1, x4, (0 : Int32), (1 : Int32), h_49, g_49))) ∧ (¬ (-2 : Int32) ≤ x4 → Q (-10 : Int32) h_30 g_30)))))))))))
set_option maxHeartbeats 8000000 in
set_option maxRecDepth 100000 in
theorem m_X11_way (l : Launch) (D : va_G) (cy : Nat → ClassId) (ad : Nat → Nat) (h : HI) (g : HL) (sz : Nat) (x1 : Int32) (x2 : Int32) (x3 : Int32) (x4 : Int32) (Q : Int32 → HI → HL → Prop) (HW : w_X11_way x1 x2 x3 x4 h g Q) : Met l yX11_way (wa yX11_way cX11_way 10 (some .int)) ({ frames := 3, cells := 0, slots := 0, locals := 77 }) (va_Pc [.ref (ad 135), .int x1, .int x2, .int x3, .int x4] (gI D cy ad h g sz)) (va_Qi (fun (r : Int32) (u : HI × HL) => Q r u.1 u.2) (gB D cy ad sz) (gA ad sz)) 0 0 (gA ad sz) := by
  refine Met.ofW (cc := cX11_way) (maxL := 10) (ret := (some .int)) (by decide) rfl ?_
  intro p e s m args below meth c s₁ B hml hv
  obtain ⟨hav, hsz, hP, hK, hD0, hNw⟩ := hv
  have hx := B.exec
  have hb := B.bytes
  have hr := B.returns
  have hts := atoms_spec (ws := (wa yX11_way cX11_way 10 (some .int))) B.pre
  have hw := wa_hw hts
  have hown : s.vm.findClass RX11 = some m.cls := findClass_of_methodNamed B.named
  have hlocks := B.notSynchronized
  subst hsz
  have hG : gG D cy ad (gA ad s.heap.size) s.heap h g s.heap [] := ⟨hP, gA_self hD0, va_S.rf⟩
  clear hP hD0
  have cn232 := hw (.constantLong RX11 232 (3000)) (wm6 66 rfl rfl)
  have lk33 := hw (.fieldLink RX11 33 "OldWorksModel" "price" "[I") (wm5 47 rfl rfl)
  have cn234 := hw (.constant RX11 234 (1000000)) (wm6 75 rfl rfl)
  have lk7 := hw (.fieldLink RX11 7 "OldWorksModel" "st" "[I") (wm5 27 rfl rfl)
  rw [show (headSpec (wa yX11_way cX11_way 10 (some .int)) ({ frames := 3, cells := 0, slots := 0, locals := 77 } : Room)).room = ({ frames := 3, cells := 0, slots := 0, locals := 77 } : Room) from rfl]
  have hl := lv_entry ([.ref (ad 135), .int x1, .int x2, .int x3, .int x4]) (n := 10) (Nat.le_of_ble_eq_true rfl)
  rw [show entryFrame m args 10 = entryFrame m ([.ref (ad 135), .int x1, .int x2, .int x3, .int x4] : List Value).toArray 10 from by rw [hav], lg_entry_eq]
  generalize (lg_sl ([.ref (ad 135), .int x1, .int x2, .int x3, .int x4]) ++ List.replicate (10 - (lg_sl ([.ref (ad 135), .int x1, .int x2, .int x3, .int x4])).length) Slot.unset).toArray = ls at hl ⊢
  have hl : lv_has ls 10 [(0, .ref (ad 135)), (1, .int x1), (2, .int x2), (3, .int x3), (4, .int x4)] := hl
  have L180 : ∀ (K170 : Int32 → Int32 → Int32 → Int32 → Int32 → HI → HL → Prop) (hK170 : ∀ (x4 : Int32) (x5 : Int32) (x7 : Int32) (x8 : Int32) (x9 : Int32) (h : HI) (g : HL) (H : Heap) (locs : List Loc) (ls : Array Slot), K170 x4 x5 x7 x8 x9 h g → gG D cy ad (gA ad s.heap.size) s.heap h g H locs → lv_has ls 10 [(0, .ref (ad 135)), (4, .int x4), (5, .int x5), (7, .int x7), (8, .int x8), (9, .int x9)] → W p l e ({ frames := 3, cells := 0, slots := 0, locals := 77 } : Room) s m args below meth c H locs 0 0 (MQ below (va_Qi (fun (r : Int32) (u : HI × HL) => Q r u.1 u.2) (gB D cy ad s.heap.size) (gA ad s.heap.size)) args s 0 0 (gA ad s.heap.size)) (F0 m 170 ls [])) (n : Nat) (x4 : Int32) (x5 : Int32) (x7 : Int32) (x8 : Int32) (x9 : Int32) (h : HI) (g : HL) (H : Heap) (locs : List Loc) (ls : Array Slot), lpN (F_X11_way_180 Q K170) n (x4, x5, x7, x8, x9, h, g) → gG D cy ad (gA ad s.heap.size) s.heap h g H locs → lv_has ls 10 [(0, .ref (ad 135)), (4, .int x4), (5, .int x5), (7, .int x7), (8, .int x8), (9, .int x9)] → W p l e ({ frames := 3, cells := 0, slots := 0, locals := 77 } : Room) s m args below meth c H locs 0 0 (MQ below (va_Qi (fun (r : Int32) (u : HI × HL) => Q r u.1 u.2) (gB D cy ad s.heap.size) (gA ad s.heap.size)) args s 0 0 (gA ad s.heap.size)) (F0 m 180 ls []) := by
    intro K170 hK170 n
    induction n with
    | zero => intro x4 x5 x7 x8 x9 h g H locs ls HW; exact HW.elim
    | succ n ih =>
      intro x4 x5 x7 x8 x9 h g H locs ls HW hG hl
      have HW : b_X11_way_180 Q K170 (fun x4 x5 x7 x8 x9 h g => lpN (F_X11_way_180 Q K170) n (x4, x5, x7, x8, x9, h, g)) x4 x5 x7 x8 x9 h g := HW
      generalize hKe : (fun (x4 : Int32) (x5 : Int32) (x7 : Int32) (x8 : Int32) (x9 : Int32) (h : HI) (g : HL) => lpN (F_X11_way_180 Q K170) n (x4, x5, x7, x8, x9, h, g)) = K180 at HW
      have hK180 : ∀ (x4 : Int32) (x5 : Int32) (x7 : Int32) (x8 : Int32) (x9 : Int32) (h : HI) (g : HL) (H : Heap) (locs : List Loc) (ls : Array Slot), K180 x4 x5 x7 x8 x9 h g → gG D cy ad (gA ad s.heap.size) s.heap h g H locs → lv_has ls 10 [(0, .ref (ad 135)), (4, .int x4), (5, .int x5), (7, .int x7), (8, .int x8), (9, .int x9)] → W p l e ({ frames := 3, cells := 0, slots := 0, locals := 77 } : Room) s m args below meth c H locs 0 0 (MQ below (va_Qi (fun (r : Int32) (u : HI × HL) => Q r u.1 u.2) (gB D cy ad s.heap.size) (gA ad s.heap.size)) args s 0 0 (gA ad s.heap.size)) (F0 m 180 ls []) := by subst hKe; exact ih
      clear ih
      clear hKe
      unfold b_X11_way_180 at HW
      refine lv_aload_n hx hb dX11_way_180 rfl (lv_at hl 0 rfl) ?_
      refine lv_iload hx hb dX11_way_181 (lv_at hl 4 rfl) ?_
      refine lv_iload hx hb dX11_way_183 (lv_at hl 3 rfl) ?_
      refine lv_iload hx hb dX11_way_185 (lv_at hl 2 rfl) ?_
      refine lv_iload hx hb dX11_way_187 (lv_at hl 5 rfl) ?_
      refine lv_isub hx hb dX11_way_189 ?_
      refine lv_iconst (v := 1) hx hb dX11_way_190 (by decide) ?_
      refine lv_isub hx hb dX11_way_191 ?_
      obtain ⟨P_192, HC_192, HW⟩ := HW
      refine g_calli (g_runV (As := [.int x8, .int x7, .int ((x5 - x9) - (1 : Int32))]) (rest := []) ⟨hx, hb, hml, hown, hts⟩ (m_X11_by l D cy ad h g H.size x8 x7 ((x5 - x9) - (1 : Int32)) P_192 HC_192) (cwV 3 hts (gd_V (wm6 76 rfl rfl) (wm6 78 rfl rfl) (wmp5 (q := (yX11_by, 26)) 0 rfl) (wm1 13 rfl rfl) (wm6 79 rfl rfl)) rfl rfl rfl (by decide +kernel) ⟨Nat.le_of_ble_eq_true rfl, Nat.le_of_ble_eq_true rfl⟩) hK hNw hG gl_135 rfl gk_135 (by decide) rfl rfl hl.1 rfl (lv_room (Nat.le_of_ble_eq_true rfl)) dX11_way_192 ⟨Nat.zero_le _, Nat.zero_le _⟩) hG (fun r_192 h_192 g_192 H locs hq hG => ?_)
      replace HW := HW r_192 h_192 g_192 hq
      refine lv_aload_n hx hb dX11_way_195 rfl (lv_at hl 0 rfl) ?_
      refine g_getr hx hb hw inG11 hown hK hG gl_135 rfl gk_135 (by decide) 20 (by decide) (by rw [gm_135]; decide) (r := 143) gr_135_20 lk33 dX11_way_196 ?_
      refine lv_sipush (v := 3001) hx hb dX11_way_199 (by decide) ?_
      refine lv_iload hx hb dX11_way_202 (lv_at hl 2 rfl) ?_
      refine lv_iload hx hb dX11_way_204 (lv_at hl 5 rfl) ?_
      refine lv_isub hx hb dX11_way_206 ?_
      refine lv_imul hx hb dX11_way_207 ?_
      refine lv_iload hx hb dX11_way_208 (lv_at hl 3 rfl) ?_
      refine lv_iadd hx hb dX11_way_210 ?_
      refine g_iald hx hb hK hG gl_143 gk_143 gn_143 HW.1 dX11_way_211 ?_
      replace HW := HW.2
      refine lv_icmp_eq (tgt := 221) hx hb dX11_way_212 (by decide) (fun c_212 => ?_) (fun c_212 => ?_)
      · replace HW := HW.1 c_212
        refine lv_iload hx hb dX11_way_221 (lv_at hl 3 rfl) ?_
        refine lv_aload_n hx hb dX11_way_223 rfl (lv_at hl 0 rfl) ?_
        refine g_getr hx hb hw inG11 hown hK hG gl_135 rfl gk_135 (by decide) 0 (by decide) (by rw [gm_135]; decide) (r := 136) gr_135_0 lk7 dX11_way_224 ?_
        refine lv_sipush (v := 672) hx hb dX11_way_227 (by decide) ?_
        refine lv_iconst (v := 4) hx hb dX11_way_230 (by decide) ?_
        refine lv_iload hx hb dX11_way_231 (lv_at hl 4 rfl) ?_
        refine lv_imul hx hb dX11_way_233 ?_
        refine lv_iadd hx hb dX11_way_234 ?_
        refine g_iald hx hb hK hG gl_136 gk_136 gn_136 HW.1 dX11_way_235 ?_
        replace HW := HW.2
        refine lv_iadd hx hb dX11_way_236 ?_
        refine lv_topi (fun x7_237 ex7_237 => ?_)
        replace HW := HW x7_237 ex7_237
        refine lv_istore (lv' := [(7, .int x7_237), (0, .ref (ad 135)), (4, .int x4), (5, .int x5), (8, .int x8), (9, .int x9)]) hx hb dX11_way_237 hl (by decide) rfl (fun ls hl => ?_)
        obtain ⟨x9_239, ex9_239⟩ : ∃ y : Int32, y = (x9 + 1) := ⟨_, rfl⟩
        replace HW := HW x9_239 ex9_239
        refine lv_iinc (v := x9_239) (lv' := [(9, .int x9_239), (7, .int x7_237), (0, .ref (ad 135)), (4, .int x4), (5, .int x5), (8, .int x8)]) hx hb dX11_way_239 hl (k := 5) rfl (by rw [ex9_239]; rfl) (by decide) rfl (fun ls hl => ?_)
        refine lv_goto (tgt := 170) hx hb dX11_way_242 (by decide) ?_
        exact hK170 x4 x5 x7_237 x8 x9_239 h_192 g_192 _ _ _ HW hG (lv_sub hl [2, 3, 4, 1, 5, 0] rfl)
      · replace HW := HW.2 c_212
        obtain ⟨x8_215, ex8_215⟩ : ∃ y : Int32, y = (x8 + 1) := ⟨_, rfl⟩
        replace HW := HW x8_215 ex8_215
        refine lv_iinc (v := x8_215) (lv' := [(8, .int x8_215), (0, .ref (ad 135)), (4, .int x4), (5, .int x5), (7, .int x7), (9, .int x9)]) hx hb dX11_way_215 hl (k := 4) rfl (by rw [ex8_215]; rfl) (by decide) rfl (fun ls hl => ?_)
        refine lv_goto (tgt := 180) hx hb dX11_way_218 (by decide) ?_
        exact hK180 x4 x5 x7 x8_215 x9 h_192 g_192 _ _ _ HW hG (lv_sub hl [1, 2, 3, 4, 0, 5] rfl)
  have L170 : ∀ (n : Nat) (x4 : Int32) (x5 : Int32) (x7 : Int32) (x8 : Int32) (x9 : Int32) (h : HI) (g : HL) (H : Heap) (locs : List Loc) (ls : Array Slot), lpN (F_X11_way_170 Q) n (x4, x5, x7, x8, x9, h, g) → gG D cy ad (gA ad s.heap.size) s.heap h g H locs → lv_has ls 10 [(0, .ref (ad 135)), (4, .int x4), (5, .int x5), (7, .int x7), (8, .int x8), (9, .int x9)] → W p l e ({ frames := 3, cells := 0, slots := 0, locals := 77 } : Room) s m args below meth c H locs 0 0 (MQ below (va_Qi (fun (r : Int32) (u : HI × HL) => Q r u.1 u.2) (gB D cy ad s.heap.size) (gA ad s.heap.size)) args s 0 0 (gA ad s.heap.size)) (F0 m 170 ls []) := by
    intro n
    induction n with
    | zero => intro x4 x5 x7 x8 x9 h g H locs ls HW; exact HW.elim
    | succ n ih =>
      intro x4 x5 x7 x8 x9 h g H locs ls HW hG hl
      have HW : b_X11_way_170 Q (fun x4 x5 x7 x8 x9 h g => lpN (F_X11_way_170 Q) n (x4, x5, x7, x8, x9, h, g)) x4 x5 x7 x8 x9 h g := HW
      generalize hKe : (fun (x4 : Int32) (x5 : Int32) (x7 : Int32) (x8 : Int32) (x9 : Int32) (h : HI) (g : HL) => lpN (F_X11_way_170 Q) n (x4, x5, x7, x8, x9, h, g)) = K170 at HW
      have hK170 : ∀ (x4 : Int32) (x5 : Int32) (x7 : Int32) (x8 : Int32) (x9 : Int32) (h : HI) (g : HL) (H : Heap) (locs : List Loc) (ls : Array Slot), K170 x4 x5 x7 x8 x9 h g → gG D cy ad (gA ad s.heap.size) s.heap h g H locs → lv_has ls 10 [(0, .ref (ad 135)), (4, .int x4), (5, .int x5), (7, .int x7), (8, .int x8), (9, .int x9)] → W p l e ({ frames := 3, cells := 0, slots := 0, locals := 77 } : Room) s m args below meth c H locs 0 0 (MQ below (va_Qi (fun (r : Int32) (u : HI × HL) => Q r u.1 u.2) (gB D cy ad s.heap.size) (gA ad s.heap.size)) args s 0 0 (gA ad s.heap.size)) (F0 m 170 ls []) := by subst hKe; exact ih
      clear ih
      clear hKe
      unfold b_X11_way_170 at HW
      refine lv_iload hx hb dX11_way_170 (lv_at hl 5 rfl) ?_
      refine lv_iload hx hb dX11_way_172 (lv_at hl 1 rfl) ?_
      refine lv_icmp_gt (tgt := 245) hx hb dX11_way_174 (by decide) (fun c_174 => ?_) (fun c_174 => ?_)
      · replace HW := HW.1 c_174
        refine lv_iload hx hb dX11_way_245 (lv_at hl 4 rfl) ?_
        exact W.iret (v := x8) hx hb hr (fun t ht hW => ⟨⟨x8, (h, g), rfl, HW, g_B ht hG⟩, hG.2.2.F ht⟩) hG.2.2.2.2 dX11_way_247
      · replace HW := HW.2 c_174
        refine lv_iconst (v := 0) hx hb dX11_way_177 (by decide) ?_
        refine lv_istore (lv' := [(8, .int (0 : Int32)), (0, .ref (ad 135)), (4, .int x4), (5, .int x5), (7, .int x7), (9, .int x9)]) hx hb dX11_way_178 hl (by decide) rfl (fun ls hl => ?_)
        obtain ⟨n_180, HW⟩ := HW
        exact L180 K170 hK170 n_180 x4 x5 x7 (0 : Int32) x9 h g _ _ _ HW hG (lv_sub hl [1, 2, 3, 4, 0, 5] rfl)
  have B100 : ∀ (K58 : Int32 → Int32 → Int32 → Int32 → HI → HL → Prop) (hK58 : ∀ (x1 : Int32) (x4 : Int32) (x5 : Int32) (x6 : Int32) (h : HI) (g : HL) (H : Heap) (locs : List Loc) (ls : Array Slot), K58 x1 x4 x5 x6 h g → gG D cy ad (gA ad s.heap.size) s.heap h g H locs → lv_has ls 10 [(0, .ref (ad 135)), (1, .int x1), (4, .int x4), (5, .int x5), (6, .int x6)] → W p l e ({ frames := 3, cells := 0, slots := 0, locals := 77 } : Room) s m args below meth c H locs 0 0 (MQ below (va_Qi (fun (r : Int32) (u : HI × HL) => Q r u.1 u.2) (gB D cy ad s.heap.size) (gA ad s.heap.size)) args s 0 0 (gA ad s.heap.size)) (F0 m 58 ls [])) (x1 : Int32) (x4 : Int32) (x6 : Int32) (s0 : Int32) (h : HI) (g : HL) (H : Heap) (locs : List Loc) (ls : Array Slot), j_X11_way_100 Q K58 x1 x4 x6 s0 h g → gG D cy ad (gA ad s.heap.size) s.heap h g H locs → lv_has ls 10 [(0, .ref (ad 135)), (1, .int x1), (4, .int x4), (6, .int x6)] → W p l e ({ frames := 3, cells := 0, slots := 0, locals := 77 } : Room) s m args below meth c H locs 0 0 (MQ below (va_Qi (fun (r : Int32) (u : HI × HL) => Q r u.1 u.2) (gB D cy ad s.heap.size) (gA ad s.heap.size)) args s 0 0 (gA ad s.heap.size)) (F0 m 100 ls [.int s0]) := by
    intro K58 hK58 x1 x4 x6 s0 h g H locs ls HW hG hl
    unfold j_X11_way_100 at HW
    refine lv_istore (lv' := [(5, .int s0), (0, .ref (ad 135)), (1, .int x1), (4, .int x4), (6, .int x6)]) hx hb dX11_way_100 hl (by decide) rfl (fun ls hl => ?_)
    obtain ⟨x6_102, ex6_102⟩ : ∃ y : Int32, y = (x6 + 1) := ⟨_, rfl⟩
    replace HW := HW x6_102 ex6_102
    refine lv_iinc (v := x6_102) (lv' := [(6, .int x6_102), (5, .int s0), (0, .ref (ad 135)), (1, .int x1), (4, .int x4)]) hx hb dX11_way_102 hl (k := 4) rfl (by rw [ex6_102]; rfl) (by decide) rfl (fun ls hl => ?_)
    refine lv_goto (tgt := 58) hx hb dX11_way_105 (by decide) ?_
    exact hK58 x1 x4 s0 x6_102 h g _ _ _ HW hG (lv_sub hl [2, 3, 4, 1, 0] rfl)
  have L58 : ∀ (n : Nat) (x1 : Int32) (x4 : Int32) (x5 : Int32) (x6 : Int32) (h : HI) (g : HL) (H : Heap) (locs : List Loc) (ls : Array Slot), lpN (F_X11_way_58 Q) n (x1, x4, x5, x6, h, g) → gG D cy ad (gA ad s.heap.size) s.heap h g H locs → lv_has ls 10 [(0, .ref (ad 135)), (1, .int x1), (4, .int x4), (5, .int x5), (6, .int x6)] → W p l e ({ frames := 3, cells := 0, slots := 0, locals := 77 } : Room) s m args below meth c H locs 0 0 (MQ below (va_Qi (fun (r : Int32) (u : HI × HL) => Q r u.1 u.2) (gB D cy ad s.heap.size) (gA ad s.heap.size)) args s 0 0 (gA ad s.heap.size)) (F0 m 58 ls []) := by
    intro n
    induction n with
    | zero => intro x1 x4 x5 x6 h g H locs ls HW; exact HW.elim
    | succ n ih =>
      intro x1 x4 x5 x6 h g H locs ls HW hG hl
      have HW : b_X11_way_58 Q (fun x1 x4 x5 x6 h g => lpN (F_X11_way_58 Q) n (x1, x4, x5, x6, h, g)) x1 x4 x5 x6 h g := HW
      generalize hKe : (fun (x1 : Int32) (x4 : Int32) (x5 : Int32) (x6 : Int32) (h : HI) (g : HL) => lpN (F_X11_way_58 Q) n (x1, x4, x5, x6, h, g)) = K58 at HW
      have hK58 : ∀ (x1 : Int32) (x4 : Int32) (x5 : Int32) (x6 : Int32) (h : HI) (g : HL) (H : Heap) (locs : List Loc) (ls : Array Slot), K58 x1 x4 x5 x6 h g → gG D cy ad (gA ad s.heap.size) s.heap h g H locs → lv_has ls 10 [(0, .ref (ad 135)), (1, .int x1), (4, .int x4), (5, .int x5), (6, .int x6)] → W p l e ({ frames := 3, cells := 0, slots := 0, locals := 77 } : Room) s m args below meth c H locs 0 0 (MQ below (va_Qi (fun (r : Int32) (u : HI × HL) => Q r u.1 u.2) (gB D cy ad s.heap.size) (gA ad s.heap.size)) args s 0 0 (gA ad s.heap.size)) (F0 m 58 ls []) := by subst hKe; exact ih
      clear ih
      clear hKe
      unfold b_X11_way_58 at HW
      refine lv_iload hx hb dX11_way_58 (lv_at hl 4 rfl) ?_
      refine lv_iconst (v := 5) hx hb dX11_way_60 (by decide) ?_
      refine lv_icmp_gt (tgt := 108) hx hb dX11_way_61 (by decide) (fun c_61 => ?_) (fun c_61 => ?_)
      · replace HW := HW.1 c_61
        refine lv_aload_n hx hb dX11_way_108 rfl (lv_at hl 0 rfl) ?_
        refine g_getr hx hb hw inG11 hown hK hG gl_135 rfl gk_135 (by decide) 20 (by decide) (by rw [gm_135]; decide) (r := 143) gr_135_20 lk33 dX11_way_109 ?_
        refine lv_sipush (v := 3001) hx hb dX11_way_112 (by decide) ?_
        refine lv_iload hx hb dX11_way_115 (lv_at hl 3 rfl) ?_
        refine lv_imul hx hb dX11_way_117 ?_
        refine lv_iload_n hx hb dX11_way_118 rfl (lv_at hl 1 rfl) ?_
        refine lv_iadd hx hb dX11_way_119 ?_
        refine g_iald hx hb hK hG gl_143 gk_143 gn_143 HW.1 dX11_way_120 ?_
        replace HW := HW.2
        refine lv_topi (fun x6_121 ex6_121 => ?_)
        replace HW := HW x6_121 ex6_121
        refine lv_istore (lv' := [(6, .int x6_121), (0, .ref (ad 135)), (1, .int x1), (4, .int x4), (5, .int x5)]) hx hb dX11_way_121 hl (by decide) rfl (fun ls hl => ?_)
        refine lv_iload hx hb dX11_way_123 (lv_at hl 0 rfl) ?_
        refine lv_ldc (v := 1000000) hx hb hown cn234 dX11_way_125 ?_
        refine lv_icmp_lt (tgt := 133) hx hb dX11_way_127 (by decide) (fun c_127 => ?_) (fun c_127 => ?_)
        · replace HW := HW.1 c_127
          refine lv_iload hx hb dX11_way_133 (lv_at hl 3 rfl) ?_
          refine lv_if_ge (tgt := 152) hx hb dX11_way_135 (by decide) (fun c_135 => ?_) (fun c_135 => ?_)
          · replace HW := HW.1 c_135
            refine lv_iload hx hb dX11_way_152 (lv_at hl 3 rfl) ?_
            refine lv_iload hx hb dX11_way_154 (lv_at hl 4 rfl) ?_
            refine lv_icmp_lt (tgt := 161) hx hb dX11_way_156 (by decide) (fun c_156 => ?_) (fun c_156 => ?_)
            · replace HW := HW.1 c_156
              refine lv_iload_n hx hb dX11_way_161 rfl (lv_at hl 2 rfl) ?_
              refine lv_istore (lv' := [(7, .int x1), (6, .int x6_121), (0, .ref (ad 135)), (1, .int x1), (4, .int x4), (5, .int x5)]) hx hb dX11_way_162 hl (by decide) rfl (fun ls hl => ?_)
              refine lv_iconst (v := 0) hx hb dX11_way_164 (by decide) ?_
              refine lv_istore (lv' := [(8, .int (0 : Int32)), (7, .int x1), (6, .int x6_121), (0, .ref (ad 135)), (1, .int x1), (4, .int x4), (5, .int x5)]) hx hb dX11_way_165 hl (by decide) rfl (fun ls hl => ?_)
              refine lv_iconst (v := 0) hx hb dX11_way_167 (by decide) ?_
              refine lv_istore (lv' := [(9, .int (0 : Int32)), (8, .int (0 : Int32)), (7, .int x1), (6, .int x6_121), (0, .ref (ad 135)), (1, .int x1), (4, .int x4), (5, .int x5)]) hx hb dX11_way_168 hl (by decide) rfl (fun ls hl => ?_)
              obtain ⟨n_170, HW⟩ := HW
              exact L170 n_170 x4 x5 x1 (0 : Int32) (0 : Int32) h g _ _ _ HW hG (lv_sub hl [4, 6, 7, 2, 1, 0] rfl)
            · replace HW := HW.2 c_156
              refine lv_iconst (v := (-1)) hx hb dX11_way_159 (by decide) ?_
              exact W.iret (v := (-1 : Int32)) hx hb hr (fun t ht hW => ⟨⟨(-1 : Int32), (h, g), rfl, HW, g_B ht hG⟩, hG.2.2.F ht⟩) hG.2.2.2.2 dX11_way_160
          · replace HW := HW.2 c_135
            refine lv_iload hx hb dX11_way_138 (lv_at hl 3 rfl) ?_
            refine lv_iconst (v := (-1)) hx hb dX11_way_140 (by decide) ?_
            refine lv_icmp_ne (tgt := 149) hx hb dX11_way_141 (by decide) (fun c_141 => ?_) (fun c_141 => ?_)
            · replace HW := HW.1 c_141
              refine lv_iload hx hb dX11_way_149 (lv_at hl 4 rfl) ?_
              exact W.iret (v := x5) hx hb hr (fun t ht hW => ⟨⟨x5, (h, g), rfl, HW, g_B ht hG⟩, hG.2.2.F ht⟩) hG.2.2.2.2 dX11_way_151
            · replace HW := HW.2 c_141
              refine lv_iload hx hb dX11_way_144 (lv_at hl 0 rfl) ?_
              refine lv_goto (tgt := 151) hx hb dX11_way_146 (by decide) ?_
              exact W.iret (v := x6_121) hx hb hr (fun t ht hW => ⟨⟨x6_121, (h, g), rfl, HW, g_B ht hG⟩, hG.2.2.F ht⟩) hG.2.2.2.2 dX11_way_151
        · replace HW := HW.2 c_127
          refine lv_bipush (v := (-5)) hx hb dX11_way_130 (by decide) ?_
          exact W.iret (v := (-5 : Int32)) hx hb hr (fun t ht hW => ⟨⟨(-5 : Int32), (h, g), rfl, HW, g_B ht hG⟩, hG.2.2.F ht⟩) hG.2.2.2.2 dX11_way_132
      · replace HW := HW.2 c_61
        refine lv_aload_n hx hb dX11_way_64 rfl (lv_at hl 0 rfl) ?_
        refine g_getr hx hb hw inG11 hown hK hG gl_135 rfl gk_135 (by decide) 20 (by decide) (by rw [gm_135]; decide) (r := 143) gr_135_20 lk33 dX11_way_65 ?_
        refine lv_sipush (v := 3001) hx hb dX11_way_68 (by decide) ?_
        refine lv_iload hx hb dX11_way_71 (lv_at hl 4 rfl) ?_
        refine lv_imul hx hb dX11_way_73 ?_
        refine lv_iload_n hx hb dX11_way_74 rfl (lv_at hl 1 rfl) ?_
        refine lv_iadd hx hb dX11_way_75 ?_
        refine g_iald hx hb hK hG gl_143 gk_143 gn_143 HW.1 dX11_way_76 ?_
        replace HW := HW.2
        refine lv_aload_n hx hb dX11_way_77 rfl (lv_at hl 0 rfl) ?_
        refine g_getr hx hb hw inG11 hown hK hG gl_135 rfl gk_135 (by decide) 20 (by decide) (by rw [gm_135]; decide) (r := 143) gr_135_20 lk33 dX11_way_78 ?_
        refine lv_sipush (v := 3001) hx hb dX11_way_81 (by decide) ?_
        refine lv_iload hx hb dX11_way_84 (lv_at hl 3 rfl) ?_
        refine lv_imul hx hb dX11_way_86 ?_
        refine lv_iload_n hx hb dX11_way_87 rfl (lv_at hl 1 rfl) ?_
        refine lv_iadd hx hb dX11_way_88 ?_
        refine g_iald hx hb hK hG gl_143 gk_143 gn_143 HW.1 dX11_way_89 ?_
        replace HW := HW.2
        refine lv_icmp_ge (tgt := 98) hx hb dX11_way_90 (by decide) (fun c_90 => ?_) (fun c_90 => ?_)
        · replace HW := HW.1 c_90
          refine lv_iload hx hb dX11_way_98 (lv_at hl 3 rfl) ?_
          exact B100 K58 hK58 x1 x4 x6 x5 h g _ _ _ HW hG (lv_sub hl [0, 1, 2, 4] rfl)
        · replace HW := HW.2 c_90
          refine lv_iload hx hb dX11_way_93 (lv_at hl 4 rfl) ?_
          refine lv_goto (tgt := 100) hx hb dX11_way_95 (by decide) ?_
          exact B100 K58 hK58 x1 x4 x6 x6 h g _ _ _ HW hG (lv_sub hl [0, 1, 2, 4] rfl)
  have E0 : ∀ (H : Heap) (locs : List Loc) (ls : Array Slot), gG D cy ad (gA ad s.heap.size) s.heap h g H locs → lv_has ls 10 [(0, .ref (ad 135)), (1, .int x1), (2, .int x2), (3, .int x3), (4, .int x4)] → W p l e ({ frames := 3, cells := 0, slots := 0, locals := 77 } : Room) s m args below meth c H locs 0 0 (MQ below (va_Qi (fun (r : Int32) (u : HI × HL) => Q r u.1 u.2) (gB D cy ad s.heap.size) (gA ad s.heap.size)) args s 0 0 (gA ad s.heap.size)) (F0 m 0 ls []) := by
    intro H locs ls hG hl
    unfold w_X11_way at HW
    refine lv_iload_n hx hb dX11_way_0 rfl (lv_at hl 1 rfl) ?_
    refine lv_i2l hx hb dX11_way_1 rfl ?_
    refine lv_lconst (v := 1) hx hb dX11_way_2 (by decide) ?_
    refine lv_ldc2 (v := 3000) hx hb hown cn232 dX11_way_3 ?_
    obtain ⟨P_6, HC_6, HW⟩ := HW
    refine g_callz (g_runS (As := [.long ((x1).toInt64), .long (1 : Int64), .long (3000 : Int64)]) (rest := []) ⟨hx, hb, hml, hown, hts⟩ (m_X11_in l D cy ad h g H.size ((x1).toInt64) (1 : Int64) (3000 : Int64) P_6 HC_6) (va_cwS 3 hts (gd_S (wm5 111 rfl rfl) (wm5 112 rfl rfl) (wm1 13 rfl rfl) (wm5 113 rfl rfl)) rfl rfl rfl (by decide +kernel) ⟨Nat.le_of_ble_eq_true rfl, Nat.le_of_ble_eq_true rfl⟩) hK hNw hG rfl rfl hl.1 rfl (lv_room (Nat.le_of_ble_eq_true rfl)) dX11_way_6 ⟨Nat.zero_le _, Nat.zero_le _⟩) hG (fun r_6 h_6 g_6 H locs hz hq hG => ?_)
    replace HW := HW r_6 h_6 g_6 hz hq
    refine lv_if_eq (tgt := 43) hx hb dX11_way_9 (by decide) (fun c_9 => ?_) (fun c_9 => ?_)
    · replace HW := HW.1 c_9
      refine lv_bipush (v := (-10)) hx hb dX11_way_43 (by decide) ?_
      exact W.iret (v := (-10 : Int32)) hx hb hr (fun t ht hW => ⟨⟨(-10 : Int32), (h_6, g_6), rfl, HW, g_B ht hG⟩, hG.2.2.F ht⟩) hG.2.2.2.2 dX11_way_45
    · replace HW := HW.2 c_9
      refine lv_iload_n hx hb dX11_way_12 rfl (lv_at hl 2 rfl) ?_
      refine lv_i2l hx hb dX11_way_13 rfl ?_
      refine lv_lconst (v := 1) hx hb dX11_way_14 (by decide) ?_
      refine lv_iload_n hx hb dX11_way_15 rfl (lv_at hl 3 rfl) ?_
      refine lv_i2l hx hb dX11_way_16 rfl ?_
      obtain ⟨P_17, HC_17, HW⟩ := HW
      refine g_callz (g_runS (As := [.long ((x2).toInt64), .long (1 : Int64), .long ((x3).toInt64)]) (rest := []) ⟨hx, hb, hml, hown, hts⟩ (m_X11_in l D cy ad h_6 g_6 H.size ((x2).toInt64) (1 : Int64) ((x3).toInt64) P_17 HC_17) (va_cwS 3 hts (gd_S (wm5 111 rfl rfl) (wm5 112 rfl rfl) (wm1 13 rfl rfl) (wm5 113 rfl rfl)) rfl rfl rfl (by decide +kernel) ⟨Nat.le_of_ble_eq_true rfl, Nat.le_of_ble_eq_true rfl⟩) hK hNw hG rfl rfl hl.1 rfl (lv_room (Nat.le_of_ble_eq_true rfl)) dX11_way_17 ⟨Nat.zero_le _, Nat.zero_le _⟩) hG (fun r_17 h_17 g_17 H locs hz hq hG => ?_)
      replace HW := HW r_17 h_17 g_17 hz hq
      refine lv_if_eq (tgt := 43) hx hb dX11_way_20 (by decide) (fun c_20 => ?_) (fun c_20 => ?_)
      · replace HW := HW.1 c_20
        refine lv_bipush (v := (-10)) hx hb dX11_way_43 (by decide) ?_
        exact W.iret (v := (-10 : Int32)) hx hb hr (fun t ht hW => ⟨⟨(-10 : Int32), (h_17, g_17), rfl, HW, g_B ht hG⟩, hG.2.2.F ht⟩) hG.2.2.2.2 dX11_way_45
      · replace HW := HW.2 c_20
        refine lv_iload_n hx hb dX11_way_23 rfl (lv_at hl 3 rfl) ?_
        refine lv_i2l hx hb dX11_way_24 rfl ?_
        refine lv_iload_n hx hb dX11_way_25 rfl (lv_at hl 2 rfl) ?_
        refine lv_i2l hx hb dX11_way_26 rfl ?_
        refine lv_ldc2 (v := 3000) hx hb hown cn232 dX11_way_27 ?_
        obtain ⟨P_30, HC_30, HW⟩ := HW
        refine g_callz (g_runS (As := [.long ((x3).toInt64), .long ((x2).toInt64), .long (3000 : Int64)]) (rest := []) ⟨hx, hb, hml, hown, hts⟩ (m_X11_in l D cy ad h_17 g_17 H.size ((x3).toInt64) ((x2).toInt64) (3000 : Int64) P_30 HC_30) (va_cwS 3 hts (gd_S (wm5 111 rfl rfl) (wm5 112 rfl rfl) (wm1 13 rfl rfl) (wm5 113 rfl rfl)) rfl rfl rfl (by decide +kernel) ⟨Nat.le_of_ble_eq_true rfl, Nat.le_of_ble_eq_true rfl⟩) hK hNw hG rfl rfl hl.1 rfl (lv_room (Nat.le_of_ble_eq_true rfl)) dX11_way_30 ⟨Nat.zero_le _, Nat.zero_le _⟩) hG (fun r_30 h_30 g_30 H locs hz hq hG => ?_)
        replace HW := HW r_30 h_30 g_30 hz hq
        refine lv_if_eq (tgt := 43) hx hb dX11_way_33 (by decide) (fun c_33 => ?_) (fun c_33 => ?_)
        · replace HW := HW.1 c_33
          refine lv_bipush (v := (-10)) hx hb dX11_way_43 (by decide) ?_
          exact W.iret (v := (-10 : Int32)) hx hb hr (fun t ht hW => ⟨⟨(-10 : Int32), (h_30, g_30), rfl, HW, g_B ht hG⟩, hG.2.2.F ht⟩) hG.2.2.2.2 dX11_way_45
        · replace HW := HW.2 c_33
          refine lv_iload hx hb dX11_way_36 (lv_at hl 4 rfl) ?_
          refine lv_bipush (v := (-2)) hx hb dX11_way_38 (by decide) ?_
          refine lv_icmp_ge (tgt := 46) hx hb dX11_way_40 (by decide) (fun c_40 => ?_) (fun c_40 => ?_)
          · replace HW := HW.1 c_40
            refine lv_aload_n hx hb dX11_way_46 rfl (lv_at hl 0 rfl) ?_
            refine lv_iload_n hx hb dX11_way_47 rfl (lv_at hl 2 rfl) ?_
            refine lv_iload_n hx hb dX11_way_48 rfl (lv_at hl 3 rfl) ?_
            obtain ⟨P_49, HC_49, HW⟩ := HW
            refine g_callv (g_runV (As := [.int x2, .int x3]) (rest := []) ⟨hx, hb, hml, hown, hts⟩ (m_X11_findPrices l D cy ad h_30 g_30 H.size x2 x3 P_49 HC_49) (cwV 2 hts (gd_V (wm6 71 rfl rfl) (wm6 73 rfl rfl) (wmp4 (q := (yX11_findPrices, 26)) 15 rfl) (wm1 13 rfl rfl) (wm6 74 rfl rfl)) rfl rfl rfl (by decide +kernel) ⟨Nat.le_of_ble_eq_true rfl, Nat.le_of_ble_eq_true rfl⟩) hK hNw hG gl_135 rfl gk_135 (by decide) rfl rfl hl.1 rfl (lv_room (Nat.le_of_ble_eq_true rfl)) dX11_way_49 ⟨Nat.zero_le _, Nat.zero_le _⟩) hG (fun h_49 g_49 H locs hq hG => ?_)
            replace HW := HW h_49 g_49 hq
            refine lv_iconst (v := 0) hx hb dX11_way_52 (by decide) ?_
            refine lv_istore (lv' := [(5, .int (0 : Int32)), (0, .ref (ad 135)), (1, .int x1), (2, .int x2), (3, .int x3), (4, .int x4)]) hx hb dX11_way_53 hl (by decide) rfl (fun ls hl => ?_)
            refine lv_iconst (v := 1) hx hb dX11_way_55 (by decide) ?_
            refine lv_istore (lv' := [(6, .int (1 : Int32)), (5, .int (0 : Int32)), (0, .ref (ad 135)), (1, .int x1), (2, .int x2), (3, .int x3), (4, .int x4)]) hx hb dX11_way_56 hl (by decide) rfl (fun ls hl => ?_)
            obtain ⟨n_58, HW⟩ := HW
            exact L58 n_58 x1 x4 (0 : Int32) (1 : Int32) h_49 g_49 _ _ _ HW hG (lv_sub hl [2, 3, 6, 1, 0] rfl)
          · replace HW := HW.2 c_40
            refine lv_bipush (v := (-10)) hx hb dX11_way_43 (by decide) ?_
            exact W.iret (v := (-10 : Int32)) hx hb hr (fun t ht hW => ⟨⟨(-10 : Int32), (h_30, g_30), rfl, HW, g_B ht hG⟩, hG.2.2.F ht⟩) hG.2.2.2.2 dX11_way_45
  exact E0 _ _ _ hG hl
end
section
-- 03.w19
def w_X11_machine (x1 : Int32) (h : HI) (g : HL) (Q : Int32 → HI → HL → Prop) : Prop :=
  (∃ P_6 : Int32 → HI → HL → Prop, w_X11_in ((x1).toInt64) (0 : Int64) (3 : Int64) h g P_6 ∧ ∀ (r_6 : Int32) (h_6 : HI) (g_6 : HL), zb r_6 → P_6 r_6 h_6 g_6 → ((¬ r_6 = 0 → (vp_in (4 : Int32) 887 ∧ ((¬ (h_6 136 (4 : Int32).toNatClampNeg) = (6 : Int32) → (vp_in (4 : Int32) 887 ∧ (vp_in ((704 : Int32) + (h_6 136 (4 : Int32).toNatClampNeg)) 887 ∧ ∀ h_44 : HI, h_44 = hu h_6 136 ((704 : Int32) + (h_6 136 (4 : Int32).toNatClampNeg)).toNatClampNeg x1 → (∃ P_47 : Int32 → HI → HL → Prop, w_X11_one (4 : Int32) h_44 g_6 P_47 ∧ ∀ (r_47 : Int32) (h_47 : HI) (g_47 : HL), P_47 r_47 h_47 g_47 → Q r_47 h_47 g_47)))) ∧ ((h_6 136 (4 : Int32).toNatClampNeg) = (6 : Int32) → Q (-4 : Int32) h_6 g_6)))) ∧ (r_6 = 0 → Q (-2 : Int32) h_6 g_6)))
set_option maxHeartbeats 8000000 in
set_option maxRecDepth 100000 in
theorem m_X11_machine (l : Launch) (D : va_G) (cy : Nat → ClassId) (ad : Nat → Nat) (h : HI) (g : HL) (sz : Nat) (x1 : Int32) (Q : Int32 → HI → HL → Prop) (HW : w_X11_machine x1 h g Q) : Met l yX11_machine (wa yX11_machine cX11_machine 2 (some .int)) ({ frames := 1, cells := 0, slots := 0, locals := 25 }) (va_Pc [.ref (ad 135), .int x1] (gI D cy ad h g sz)) (va_Qi (fun (r : Int32) (u : HI × HL) => Q r u.1 u.2) (gB D cy ad sz) (gA ad sz)) 0 0 (gA ad sz) := by
  refine Met.ofW (cc := cX11_machine) (maxL := 2) (ret := (some .int)) (by decide) rfl ?_
  intro p e s m args below meth c s₁ B hml hv
  obtain ⟨hav, hsz, hP, hK, hD0, hNw⟩ := hv
  have hx := B.exec
  have hb := B.bytes
  have hr := B.returns
  have hts := atoms_spec (ws := (wa yX11_machine cX11_machine 2 (some .int))) B.pre
  have hw := wa_hw hts
  have hown : s.vm.findClass RX11 = some m.cls := findClass_of_methodNamed B.named
  have hlocks := B.notSynchronized
  subst hsz
  have hG : gG D cy ad (gA ad s.heap.size) s.heap h g s.heap [] := ⟨hP, gA_self hD0, va_S.rf⟩
  clear hP hD0
  have cn67 := hw (.constantLong RX11 67 (3)) (wm5 119 rfl rfl)
  have lk7 := hw (.fieldLink RX11 7 "OldWorksModel" "st" "[I") (wm5 27 rfl rfl)
  rw [show (headSpec (wa yX11_machine cX11_machine 2 (some .int)) ({ frames := 1, cells := 0, slots := 0, locals := 25 } : Room)).room = ({ frames := 1, cells := 0, slots := 0, locals := 25 } : Room) from rfl]
  have hl := lv_entry ([.ref (ad 135), .int x1]) (n := 2) (Nat.le_of_ble_eq_true rfl)
  rw [show entryFrame m args 2 = entryFrame m ([.ref (ad 135), .int x1] : List Value).toArray 2 from by rw [hav], lg_entry_eq]
  generalize (lg_sl ([.ref (ad 135), .int x1]) ++ List.replicate (2 - (lg_sl ([.ref (ad 135), .int x1])).length) Slot.unset).toArray = ls at hl ⊢
  have hl : lv_has ls 2 [(0, .ref (ad 135)), (1, .int x1)] := hl
  have E0 : ∀ (H : Heap) (locs : List Loc) (ls : Array Slot), gG D cy ad (gA ad s.heap.size) s.heap h g H locs → lv_has ls 2 [(0, .ref (ad 135)), (1, .int x1)] → W p l e ({ frames := 1, cells := 0, slots := 0, locals := 25 } : Room) s m args below meth c H locs 0 0 (MQ below (va_Qi (fun (r : Int32) (u : HI × HL) => Q r u.1 u.2) (gB D cy ad s.heap.size) (gA ad s.heap.size)) args s 0 0 (gA ad s.heap.size)) (F0 m 0 ls []) := by
    intro H locs ls hG hl
    unfold w_X11_machine at HW
    refine lv_iload_n hx hb dX11_machine_0 rfl (lv_at hl 1 rfl) ?_
    refine lv_i2l hx hb dX11_machine_1 rfl ?_
    refine lv_lconst (v := 0) hx hb dX11_machine_2 (by decide) ?_
    refine lv_ldc2 (v := 3) hx hb hown cn67 dX11_machine_3 ?_
    obtain ⟨P_6, HC_6, HW⟩ := HW
    refine g_callz (g_runS (As := [.long ((x1).toInt64), .long (0 : Int64), .long (3 : Int64)]) (rest := []) ⟨hx, hb, hml, hown, hts⟩ (m_X11_in l D cy ad h g H.size ((x1).toInt64) (0 : Int64) (3 : Int64) P_6 HC_6) (va_cwS 3 hts (gd_S (wm5 111 rfl rfl) (wm5 112 rfl rfl) (wm1 13 rfl rfl) (wm5 113 rfl rfl)) rfl rfl rfl (by decide +kernel) ⟨Nat.le_of_ble_eq_true rfl, Nat.le_of_ble_eq_true rfl⟩) hK hNw hG rfl rfl hl.1 rfl (lv_room (Nat.le_of_ble_eq_true rfl)) dX11_machine_6 ⟨Nat.zero_le _, Nat.zero_le _⟩) hG (fun r_6 h_6 g_6 H locs hz hq hG => ?_)
    replace HW := HW r_6 h_6 g_6 hz hq
    refine lv_if_ne (tgt := 15) hx hb dX11_machine_9 (by decide) (fun c_9 => ?_) (fun c_9 => ?_)
    · replace HW := HW.1 c_9
      refine lv_aload_n hx hb dX11_machine_15 rfl (lv_at hl 0 rfl) ?_
      refine g_getr hx hb hw inG11 hown hK hG gl_135 rfl gk_135 (by decide) 0 (by decide) (by rw [gm_135]; decide) (r := 136) gr_135_0 lk7 dX11_machine_16 ?_
      refine lv_iconst (v := 4) hx hb dX11_machine_19 (by decide) ?_
      refine g_iald hx hb hK hG gl_136 gk_136 gn_136 HW.1 dX11_machine_20 ?_
      replace HW := HW.2
      refine lv_bipush (v := 6) hx hb dX11_machine_21 (by decide) ?_
      refine lv_icmp_ne (tgt := 29) hx hb dX11_machine_23 (by decide) (fun c_23 => ?_) (fun c_23 => ?_)
      · replace HW := HW.1 c_23
        refine lv_aload_n hx hb dX11_machine_29 rfl (lv_at hl 0 rfl) ?_
        refine g_getr hx hb hw inG11 hown hK hG gl_135 rfl gk_135 (by decide) 0 (by decide) (by rw [gm_135]; decide) (r := 136) gr_135_0 lk7 dX11_machine_30 ?_
        refine lv_sipush (v := 704) hx hb dX11_machine_33 (by decide) ?_
        refine lv_aload_n hx hb dX11_machine_36 rfl (lv_at hl 0 rfl) ?_
        refine g_getr hx hb hw inG11 hown hK hG gl_135 rfl gk_135 (by decide) 0 (by decide) (by rw [gm_135]; decide) (r := 136) gr_135_0 lk7 dX11_machine_37 ?_
        refine lv_iconst (v := 4) hx hb dX11_machine_40 (by decide) ?_
        refine g_iald hx hb hK hG gl_136 gk_136 gn_136 HW.1 dX11_machine_41 ?_
        replace HW := HW.2
        refine lv_iadd hx hb dX11_machine_42 ?_
        refine lv_iload_n hx hb dX11_machine_43 rfl (lv_at hl 1 rfl) ?_
        refine g_iast hx hb hK hG gl_136 gk_136 gn_136 HW.1 dX11_machine_44 (fun H locs hG => ?_)
        replace HW := HW.2
        obtain ⟨h_44, eh_44⟩ : ∃ y : HI, y = hu h_6 136 ((704 : Int32) + (h_6 136 (4 : Int32).toNatClampNeg)).toNatClampNeg x1 := ⟨_, rfl⟩
        rw [← eh_44] at hG
        replace HW := HW h_44 eh_44
        refine lv_aload_n hx hb dX11_machine_45 rfl (lv_at hl 0 rfl) ?_
        refine lv_iconst (v := 4) hx hb dX11_machine_46 (by decide) ?_
        obtain ⟨P_47, HC_47, HW⟩ := HW
        refine g_calli (g_runV (As := [.int (4 : Int32)]) (rest := []) ⟨hx, hb, hml, hown, hts⟩ (m_X11_one l D cy ad h_44 g_6 H.size (4 : Int32) P_47 HC_47) (cwV 1 hts (gd_V (wm5 120 rfl rfl) (wm5 122 rfl rfl) (wmp3 (q := (yX11_one, 26)) 7 rfl) (wm1 13 rfl rfl) (wm5 123 rfl rfl)) rfl rfl rfl (by decide +kernel) ⟨Nat.le_of_ble_eq_true rfl, Nat.le_of_ble_eq_true rfl⟩) hK hNw hG gl_135 rfl gk_135 (by decide) rfl rfl hl.1 rfl (lv_room (Nat.le_of_ble_eq_true rfl)) dX11_machine_47 ⟨Nat.zero_le _, Nat.zero_le _⟩) hG (fun r_47 h_47 g_47 H locs hq hG => ?_)
        replace HW := HW r_47 h_47 g_47 hq
        exact W.iret (v := r_47) hx hb hr (fun t ht hW => ⟨⟨r_47, (h_47, g_47), rfl, HW, g_B ht hG⟩, hG.2.2.F ht⟩) hG.2.2.2.2 dX11_machine_50
      · replace HW := HW.2 c_23
        refine lv_bipush (v := (-4)) hx hb dX11_machine_26 (by decide) ?_
        exact W.iret (v := (-4 : Int32)) hx hb hr (fun t ht hW => ⟨⟨(-4 : Int32), (h_6, g_6), rfl, HW, g_B ht hG⟩, hG.2.2.F ht⟩) hG.2.2.2.2 dX11_machine_28
    · replace HW := HW.2 c_9
      refine lv_bipush (v := (-2)) hx hb dX11_machine_12 (by decide) ?_
      exact W.iret (v := (-2 : Int32)) hx hb hr (fun t ht hW => ⟨⟨(-2 : Int32), (h_6, g_6), rfl, HW, g_B ht hG⟩, hG.2.2.F ht⟩) hG.2.2.2.2 dX11_machine_14
  exact E0 _ _ _ hG hl

def w_X11_spare (x1 : Int32) (x2 : Int32) (x3 : Int32) (h : HI) (g : HL) (Q : Int32 → HI → HL → Prop) : Prop :=
  (∃ P_6 : Int32 → HI → HL → Prop, w_X11_in ((x1).toInt64) (0 : Int64) (3 : Int64) h g P_6 ∧ ∀ (r_6 : Int32) (h_6 : HI) (g_6 : HL), zb r_6 → P_6 r_6 h_6 g_6 → ((r_6 = 0 → Q (-2 : Int32) h_6 g_6) ∧ (¬ r_6 = 0 → (∃ P_18 : Int32 → HI → HL → Prop, w_X11_in ((x2).toInt64) (1 : Int64) (50 : Int64) h_6 g_6 P_18 ∧ ∀ (r_18 : Int32) (h_18 : HI) (g_18 : HL), zb r_18 → P_18 r_18 h_18 g_18 → ((r_18 = 0 → Q (-2 : Int32) h_18 g_18) ∧ (¬ r_18 = 0 → (∃ P_32 : Int32 → HI → HL → Prop, w_X11_in ((x3).toInt64) (-1 : Int64) (3 : Int64) h_18 g_18 P_32 ∧ ∀ (r_32 : Int32) (h_32 : HI) (g_32 : HL), zb r_32 → P_32 r_32 h_32 g_32 → ((¬ r_32 = 0 → (vp_in (5 : Int32) 887 ∧ ((¬ (h_32 136 (5 : Int32).toNatClampNeg) = (9 : Int32) → (vp_in (5 : Int32) 887 ∧ (∀ x4_67 : Int32, x4_67 = ((710 : Int32) + ((3 : Int32) * (h_32 136 (5 : Int32).toNatClampNeg))) → (vp_in x4_67 887 ∧ ∀ h_76 : HI, h_76 = hu h_32 136 x4_67.toNatClampNeg x1 → (vp_in (x4_67 + (1 : Int32)) 887 ∧ ∀ h_86 : HI, h_86 = hu h_76 136 (x4_67 + (1 : Int32)).toNatClampNeg x2 → (vp_in (x4_67 + (2 : Int32)) 887 ∧ ∀ h_96 : HI, h_96 = hu h_86 136 (x4_67 + (2 : Int32)).toNatClampNeg x3 → (∃ P_99 : Int32 → HI → HL → Prop, w_X11_one (5 : Int32) h_96 g_32 P_99 ∧ ∀ (r_99 : Int32) (h_99 : HI) (g_99 : HL), P_99 r_99 h_99 g_99 → Q r_99 h_99 g_99))))))) ∧ ((h_32 136 (5 : Int32).toNatClampNeg) = (9 : Int32) → Q (-4 : Int32) h_32 g_32)))) ∧ (r_32 = 0 → Q (-2 : Int32) h_32 g_32)))))))))
set_option maxHeartbeats 8000000 in
set_option maxRecDepth 100000 in
theorem m_X11_spare (l : Launch) (D : va_G) (cy : Nat → ClassId) (ad : Nat → Nat) (h : HI) (g : HL) (sz : Nat) (x1 : Int32) (x2 : Int32) (x3 : Int32) (Q : Int32 → HI → HL → Prop) (HW : w_X11_spare x1 x2 x3 h g Q) : Met l yX11_spare (wa yX11_spare cX11_spare 5 (some .int)) ({ frames := 1, cells := 0, slots := 0, locals := 25 }) (va_Pc [.ref (ad 135), .int x1, .int x2, .int x3] (gI D cy ad h g sz)) (va_Qi (fun (r : Int32) (u : HI × HL) => Q r u.1 u.2) (gB D cy ad sz) (gA ad sz)) 0 0 (gA ad sz) := by
  refine Met.ofW (cc := cX11_spare) (maxL := 5) (ret := (some .int)) (by decide) rfl ?_
  intro p e s m args below meth c s₁ B hml hv
  obtain ⟨hav, hsz, hP, hK, hD0, hNw⟩ := hv
  have hx := B.exec
  have hb := B.bytes
  have hr := B.returns
  have hts := atoms_spec (ws := (wa yX11_spare cX11_spare 5 (some .int))) B.pre
  have hw := wa_hw hts
  have hown : s.vm.findClass RX11 = some m.cls := findClass_of_methodNamed B.named
  have hlocks := B.notSynchronized
  subst hsz
  have hG : gG D cy ad (gA ad s.heap.size) s.heap h g s.heap [] := ⟨hP, gA_self hD0, va_S.rf⟩
  clear hP hD0
  have cn67 := hw (.constantLong RX11 67 (3)) (wm5 119 rfl rfl)
  have cn242 := hw (.constantLong RX11 242 (50)) (wm6 88 rfl rfl)
  have cn65 := hw (.constantLong RX11 65 (-1)) (wm5 118 rfl rfl)
  have lk7 := hw (.fieldLink RX11 7 "OldWorksModel" "st" "[I") (wm5 27 rfl rfl)
  rw [show (headSpec (wa yX11_spare cX11_spare 5 (some .int)) ({ frames := 1, cells := 0, slots := 0, locals := 25 } : Room)).room = ({ frames := 1, cells := 0, slots := 0, locals := 25 } : Room) from rfl]
  have hl := lv_entry ([.ref (ad 135), .int x1, .int x2, .int x3]) (n := 5) (Nat.le_of_ble_eq_true rfl)
  rw [show entryFrame m args 5 = entryFrame m ([.ref (ad 135), .int x1, .int x2, .int x3] : List Value).toArray 5 from by rw [hav], lg_entry_eq]
  generalize (lg_sl ([.ref (ad 135), .int x1, .int x2, .int x3]) ++ List.replicate (5 - (lg_sl ([.ref (ad 135), .int x1, .int x2, .int x3])).length) Slot.unset).toArray = ls at hl ⊢
  have hl : lv_has ls 5 [(0, .ref (ad 135)), (1, .int x1), (2, .int x2), (3, .int x3)] := hl
  have E0 : ∀ (H : Heap) (locs : List Loc) (ls : Array Slot), gG D cy ad (gA ad s.heap.size) s.heap h g H locs → lv_has ls 5 [(0, .ref (ad 135)), (1, .int x1), (2, .int x2), (3, .int x3)] → W p l e ({ frames := 1, cells := 0, slots := 0, locals := 25 } : Room) s m args below meth c H locs 0 0 (MQ below (va_Qi (fun (r : Int32) (u : HI × HL) => Q r u.1 u.2) (gB D cy ad s.heap.size) (gA ad s.heap.size)) args s 0 0 (gA ad s.heap.size)) (F0 m 0 ls []) := by
    intro H locs ls hG hl
    unfold w_X11_spare at HW
    refine lv_iload_n hx hb dX11_spare_0 rfl (lv_at hl 1 rfl) ?_
    refine lv_i2l hx hb dX11_spare_1 rfl ?_
    refine lv_lconst (v := 0) hx hb dX11_spare_2 (by decide) ?_
    refine lv_ldc2 (v := 3) hx hb hown cn67 dX11_spare_3 ?_
    obtain ⟨P_6, HC_6, HW⟩ := HW
    refine g_callz (g_runS (As := [.long ((x1).toInt64), .long (0 : Int64), .long (3 : Int64)]) (rest := []) ⟨hx, hb, hml, hown, hts⟩ (m_X11_in l D cy ad h g H.size ((x1).toInt64) (0 : Int64) (3 : Int64) P_6 HC_6) (va_cwS 3 hts (gd_S (wm5 111 rfl rfl) (wm5 112 rfl rfl) (wm1 13 rfl rfl) (wm5 113 rfl rfl)) rfl rfl rfl (by decide +kernel) ⟨Nat.le_of_ble_eq_true rfl, Nat.le_of_ble_eq_true rfl⟩) hK hNw hG rfl rfl hl.1 rfl (lv_room (Nat.le_of_ble_eq_true rfl)) dX11_spare_6 ⟨Nat.zero_le _, Nat.zero_le _⟩) hG (fun r_6 h_6 g_6 H locs hz hq hG => ?_)
    replace HW := HW r_6 h_6 g_6 hz hq
    refine lv_if_eq (tgt := 38) hx hb dX11_spare_9 (by decide) (fun c_9 => ?_) (fun c_9 => ?_)
    · replace HW := HW.1 c_9
      refine lv_bipush (v := (-2)) hx hb dX11_spare_38 (by decide) ?_
      exact W.iret (v := (-2 : Int32)) hx hb hr (fun t ht hW => ⟨⟨(-2 : Int32), (h_6, g_6), rfl, HW, g_B ht hG⟩, hG.2.2.F ht⟩) hG.2.2.2.2 dX11_spare_40
    · replace HW := HW.2 c_9
      refine lv_iload_n hx hb dX11_spare_12 rfl (lv_at hl 2 rfl) ?_
      refine lv_i2l hx hb dX11_spare_13 rfl ?_
      refine lv_lconst (v := 1) hx hb dX11_spare_14 (by decide) ?_
      refine lv_ldc2 (v := 50) hx hb hown cn242 dX11_spare_15 ?_
      obtain ⟨P_18, HC_18, HW⟩ := HW
      refine g_callz (g_runS (As := [.long ((x2).toInt64), .long (1 : Int64), .long (50 : Int64)]) (rest := []) ⟨hx, hb, hml, hown, hts⟩ (m_X11_in l D cy ad h_6 g_6 H.size ((x2).toInt64) (1 : Int64) (50 : Int64) P_18 HC_18) (va_cwS 3 hts (gd_S (wm5 111 rfl rfl) (wm5 112 rfl rfl) (wm1 13 rfl rfl) (wm5 113 rfl rfl)) rfl rfl rfl (by decide +kernel) ⟨Nat.le_of_ble_eq_true rfl, Nat.le_of_ble_eq_true rfl⟩) hK hNw hG rfl rfl hl.1 rfl (lv_room (Nat.le_of_ble_eq_true rfl)) dX11_spare_18 ⟨Nat.zero_le _, Nat.zero_le _⟩) hG (fun r_18 h_18 g_18 H locs hz hq hG => ?_)
      replace HW := HW r_18 h_18 g_18 hz hq
      refine lv_if_eq (tgt := 38) hx hb dX11_spare_21 (by decide) (fun c_21 => ?_) (fun c_21 => ?_)
      · replace HW := HW.1 c_21
        refine lv_bipush (v := (-2)) hx hb dX11_spare_38 (by decide) ?_
        exact W.iret (v := (-2 : Int32)) hx hb hr (fun t ht hW => ⟨⟨(-2 : Int32), (h_18, g_18), rfl, HW, g_B ht hG⟩, hG.2.2.F ht⟩) hG.2.2.2.2 dX11_spare_40
      · replace HW := HW.2 c_21
        refine lv_iload_n hx hb dX11_spare_24 rfl (lv_at hl 3 rfl) ?_
        refine lv_i2l hx hb dX11_spare_25 rfl ?_
        refine lv_ldc2 (v := (-1)) hx hb hown cn65 dX11_spare_26 ?_
        refine lv_ldc2 (v := 3) hx hb hown cn67 dX11_spare_29 ?_
        obtain ⟨P_32, HC_32, HW⟩ := HW
        refine g_callz (g_runS (As := [.long ((x3).toInt64), .long (-1 : Int64), .long (3 : Int64)]) (rest := []) ⟨hx, hb, hml, hown, hts⟩ (m_X11_in l D cy ad h_18 g_18 H.size ((x3).toInt64) (-1 : Int64) (3 : Int64) P_32 HC_32) (va_cwS 3 hts (gd_S (wm5 111 rfl rfl) (wm5 112 rfl rfl) (wm1 13 rfl rfl) (wm5 113 rfl rfl)) rfl rfl rfl (by decide +kernel) ⟨Nat.le_of_ble_eq_true rfl, Nat.le_of_ble_eq_true rfl⟩) hK hNw hG rfl rfl hl.1 rfl (lv_room (Nat.le_of_ble_eq_true rfl)) dX11_spare_32 ⟨Nat.zero_le _, Nat.zero_le _⟩) hG (fun r_32 h_32 g_32 H locs hz hq hG => ?_)
        replace HW := HW r_32 h_32 g_32 hz hq
        refine lv_if_ne (tgt := 41) hx hb dX11_spare_35 (by decide) (fun c_35 => ?_) (fun c_35 => ?_)
        · replace HW := HW.1 c_35
          refine lv_aload_n hx hb dX11_spare_41 rfl (lv_at hl 0 rfl) ?_
          refine g_getr hx hb hw inG11 hown hK hG gl_135 rfl gk_135 (by decide) 0 (by decide) (by rw [gm_135]; decide) (r := 136) gr_135_0 lk7 dX11_spare_42 ?_
          refine lv_iconst (v := 5) hx hb dX11_spare_45 (by decide) ?_
          refine g_iald hx hb hK hG gl_136 gk_136 gn_136 HW.1 dX11_spare_46 ?_
          replace HW := HW.2
          refine lv_bipush (v := 9) hx hb dX11_spare_47 (by decide) ?_
          refine lv_icmp_ne (tgt := 55) hx hb dX11_spare_49 (by decide) (fun c_49 => ?_) (fun c_49 => ?_)
          · replace HW := HW.1 c_49
            refine lv_sipush (v := 710) hx hb dX11_spare_55 (by decide) ?_
            refine lv_iconst (v := 3) hx hb dX11_spare_58 (by decide) ?_
            refine lv_aload_n hx hb dX11_spare_59 rfl (lv_at hl 0 rfl) ?_
            refine g_getr hx hb hw inG11 hown hK hG gl_135 rfl gk_135 (by decide) 0 (by decide) (by rw [gm_135]; decide) (r := 136) gr_135_0 lk7 dX11_spare_60 ?_
            refine lv_iconst (v := 5) hx hb dX11_spare_63 (by decide) ?_
            refine g_iald hx hb hK hG gl_136 gk_136 gn_136 HW.1 dX11_spare_64 ?_
            replace HW := HW.2
            refine lv_imul hx hb dX11_spare_65 ?_
            refine lv_iadd hx hb dX11_spare_66 ?_
            refine lv_topi (fun x4_67 ex4_67 => ?_)
            replace HW := HW x4_67 ex4_67
            refine lv_istore (lv' := [(4, .int x4_67), (0, .ref (ad 135)), (1, .int x1), (2, .int x2), (3, .int x3)]) hx hb dX11_spare_67 hl (by decide) rfl (fun ls hl => ?_)
            refine lv_aload_n hx hb dX11_spare_69 rfl (lv_at hl 1 rfl) ?_
            refine g_getr hx hb hw inG11 hown hK hG gl_135 rfl gk_135 (by decide) 0 (by decide) (by rw [gm_135]; decide) (r := 136) gr_135_0 lk7 dX11_spare_70 ?_
            refine lv_iload hx hb dX11_spare_73 (lv_at hl 0 rfl) ?_
            refine lv_iload_n hx hb dX11_spare_75 rfl (lv_at hl 2 rfl) ?_
            refine g_iast hx hb hK hG gl_136 gk_136 gn_136 HW.1 dX11_spare_76 (fun H locs hG => ?_)
            replace HW := HW.2
            obtain ⟨h_76, eh_76⟩ : ∃ y : HI, y = hu h_32 136 x4_67.toNatClampNeg x1 := ⟨_, rfl⟩
            rw [← eh_76] at hG
            replace HW := HW h_76 eh_76
            refine lv_aload_n hx hb dX11_spare_77 rfl (lv_at hl 1 rfl) ?_
            refine g_getr hx hb hw inG11 hown hK hG gl_135 rfl gk_135 (by decide) 0 (by decide) (by rw [gm_135]; decide) (r := 136) gr_135_0 lk7 dX11_spare_78 ?_
            refine lv_iload hx hb dX11_spare_81 (lv_at hl 0 rfl) ?_
            refine lv_iconst (v := 1) hx hb dX11_spare_83 (by decide) ?_
            refine lv_iadd hx hb dX11_spare_84 ?_
            refine lv_iload_n hx hb dX11_spare_85 rfl (lv_at hl 3 rfl) ?_
            refine g_iast hx hb hK hG gl_136 gk_136 gn_136 HW.1 dX11_spare_86 (fun H locs hG => ?_)
            replace HW := HW.2
            obtain ⟨h_86, eh_86⟩ : ∃ y : HI, y = hu h_76 136 (x4_67 + (1 : Int32)).toNatClampNeg x2 := ⟨_, rfl⟩
            rw [← eh_86] at hG
            replace HW := HW h_86 eh_86
            refine lv_aload_n hx hb dX11_spare_87 rfl (lv_at hl 1 rfl) ?_
            refine g_getr hx hb hw inG11 hown hK hG gl_135 rfl gk_135 (by decide) 0 (by decide) (by rw [gm_135]; decide) (r := 136) gr_135_0 lk7 dX11_spare_88 ?_
            refine lv_iload hx hb dX11_spare_91 (lv_at hl 0 rfl) ?_
            refine lv_iconst (v := 2) hx hb dX11_spare_93 (by decide) ?_
            refine lv_iadd hx hb dX11_spare_94 ?_
            refine lv_iload_n hx hb dX11_spare_95 rfl (lv_at hl 4 rfl) ?_
            refine g_iast hx hb hK hG gl_136 gk_136 gn_136 HW.1 dX11_spare_96 (fun H locs hG => ?_)
            replace HW := HW.2
            obtain ⟨h_96, eh_96⟩ : ∃ y : HI, y = hu h_86 136 (x4_67 + (2 : Int32)).toNatClampNeg x3 := ⟨_, rfl⟩
            rw [← eh_96] at hG
            replace HW := HW h_96 eh_96
            refine lv_aload_n hx hb dX11_spare_97 rfl (lv_at hl 1 rfl) ?_
            refine lv_iconst (v := 5) hx hb dX11_spare_98 (by decide) ?_
            obtain ⟨P_99, HC_99, HW⟩ := HW
            refine g_calli (g_runV (As := [.int (5 : Int32)]) (rest := []) ⟨hx, hb, hml, hown, hts⟩ (m_X11_one l D cy ad h_96 g_32 H.size (5 : Int32) P_99 HC_99) (cwV 1 hts (gd_V (wm5 120 rfl rfl) (wm5 122 rfl rfl) (wmp3 (q := (yX11_one, 26)) 7 rfl) (wm1 13 rfl rfl) (wm5 123 rfl rfl)) rfl rfl rfl (by decide +kernel) ⟨Nat.le_of_ble_eq_true rfl, Nat.le_of_ble_eq_true rfl⟩) hK hNw hG gl_135 rfl gk_135 (by decide) rfl rfl hl.1 rfl (lv_room (Nat.le_of_ble_eq_true rfl)) dX11_spare_99 ⟨Nat.zero_le _, Nat.zero_le _⟩) hG (fun r_99 h_99 g_99 H locs hq hG => ?_)
            replace HW := HW r_99 h_99 g_99 hq
            exact W.iret (v := r_99) hx hb hr (fun t ht hW => ⟨⟨r_99, (h_99, g_99), rfl, HW, g_B ht hG⟩, hG.2.2.F ht⟩) hG.2.2.2.2 dX11_spare_102
          · replace HW := HW.2 c_49
            refine lv_bipush (v := (-4)) hx hb dX11_spare_52 (by decide) ?_
            exact W.iret (v := (-4 : Int32)) hx hb hr (fun t ht hW => ⟨⟨(-4 : Int32), (h_32, g_32), rfl, HW, g_B ht hG⟩, hG.2.2.F ht⟩) hG.2.2.2.2 dX11_spare_54
        · replace HW := HW.2 c_35
          refine lv_bipush (v := (-2)) hx hb dX11_spare_38 (by decide) ?_
          exact W.iret (v := (-2 : Int32)) hx hb hr (fun t ht hW => ⟨⟨(-2 : Int32), (h_32, g_32), rfl, HW, g_B ht hG⟩, hG.2.2.F ht⟩) hG.2.2.2.2 dX11_spare_40
  exact E0 _ _ _ hG hl

def w_X11_scrap  (h : HI) (g : HL) (Q : Int32 → HI → HL → Prop) : Prop :=
  (vp_in (4 : Int32) 887 ∧ (vp_in (5 : Int32) 887 ∧ (∀ x1_13 : Int32, x1_13 = ((h 136 (4 : Int32).toNatClampNeg) + (h 136 (5 : Int32).toNatClampNeg)) → (vp_in (4 : Int32) 887 ∧ ∀ h_20 : HI, h_20 = hu h 136 (4 : Int32).toNatClampNeg (0 : Int32) → (vp_in (5 : Int32) 887 ∧ ∀ h_27 : HI, h_27 = hu h_20 136 (5 : Int32).toNatClampNeg (0 : Int32) → Q x1_13 h_27 g)))))
set_option maxHeartbeats 8000000 in
set_option maxRecDepth 100000 in
theorem m_X11_scrap (l : Launch) (D : va_G) (cy : Nat → ClassId) (ad : Nat → Nat) (h : HI) (g : HL) (sz : Nat)  (Q : Int32 → HI → HL → Prop) (HW : w_X11_scrap h g Q) : Met l yX11_scrap (wa yX11_scrap cX11_scrap 2 (some .int)) ({ frames := 0, cells := 0, slots := 0, locals := 0 }) (va_Pc [.ref (ad 135)] (gI D cy ad h g sz)) (va_Qi (fun (r : Int32) (u : HI × HL) => Q r u.1 u.2) (gB D cy ad sz) (gA ad sz)) 0 0 (gA ad sz) := by
  refine Met.ofW (cc := cX11_scrap) (maxL := 2) (ret := (some .int)) (by decide) rfl ?_
  intro p e s m args below meth c s₁ B hml hv
  obtain ⟨hav, hsz, hP, hK, hD0, hNw⟩ := hv
  have hx := B.exec
  have hb := B.bytes
  have hr := B.returns
  have hts := atoms_spec (ws := (wa yX11_scrap cX11_scrap 2 (some .int))) B.pre
  have hw := wa_hw hts
  have hown : s.vm.findClass RX11 = some m.cls := findClass_of_methodNamed B.named
  have hlocks := B.notSynchronized
  subst hsz
  have hG : gG D cy ad (gA ad s.heap.size) s.heap h g s.heap [] := ⟨hP, gA_self hD0, va_S.rf⟩
  clear hP hD0
  have lk7 := hw (.fieldLink RX11 7 "OldWorksModel" "st" "[I") (wm5 27 rfl rfl)
  rw [show (headSpec (wa yX11_scrap cX11_scrap 2 (some .int)) ({ frames := 0, cells := 0, slots := 0, locals := 0 } : Room)).room = ({ frames := 0, cells := 0, slots := 0, locals := 0 } : Room) from rfl]
  have hl := lv_entry ([.ref (ad 135)]) (n := 2) (Nat.le_of_ble_eq_true rfl)
  rw [show entryFrame m args 2 = entryFrame m ([.ref (ad 135)] : List Value).toArray 2 from by rw [hav], lg_entry_eq]
  generalize (lg_sl ([.ref (ad 135)]) ++ List.replicate (2 - (lg_sl ([.ref (ad 135)])).length) Slot.unset).toArray = ls at hl ⊢
  have hl : lv_has ls 2 [(0, .ref (ad 135))] := hl
  have E0 : ∀ (H : Heap) (locs : List Loc) (ls : Array Slot), gG D cy ad (gA ad s.heap.size) s.heap h g H locs → lv_has ls 2 [(0, .ref (ad 135))] → W p l e ({ frames := 0, cells := 0, slots := 0, locals := 0 } : Room) s m args below meth c H locs 0 0 (MQ below (va_Qi (fun (r : Int32) (u : HI × HL) => Q r u.1 u.2) (gB D cy ad s.heap.size) (gA ad s.heap.size)) args s 0 0 (gA ad s.heap.size)) (F0 m 0 ls []) := by
    intro H locs ls hG hl
    unfold w_X11_scrap at HW
    refine lv_aload_n hx hb dX11_scrap_0 rfl (lv_at hl 0 rfl) ?_
    refine g_getr hx hb hw inG11 hown hK hG gl_135 rfl gk_135 (by decide) 0 (by decide) (by rw [gm_135]; decide) (r := 136) gr_135_0 lk7 dX11_scrap_1 ?_
    refine lv_iconst (v := 4) hx hb dX11_scrap_4 (by decide) ?_
    refine g_iald hx hb hK hG gl_136 gk_136 gn_136 HW.1 dX11_scrap_5 ?_
    replace HW := HW.2
    refine lv_aload_n hx hb dX11_scrap_6 rfl (lv_at hl 0 rfl) ?_
    refine g_getr hx hb hw inG11 hown hK hG gl_135 rfl gk_135 (by decide) 0 (by decide) (by rw [gm_135]; decide) (r := 136) gr_135_0 lk7 dX11_scrap_7 ?_
    refine lv_iconst (v := 5) hx hb dX11_scrap_10 (by decide) ?_
    refine g_iald hx hb hK hG gl_136 gk_136 gn_136 HW.1 dX11_scrap_11 ?_
    replace HW := HW.2
    refine lv_iadd hx hb dX11_scrap_12 ?_
    refine lv_topi (fun x1_13 ex1_13 => ?_)
    replace HW := HW x1_13 ex1_13
    refine lv_istore_n (lv' := [(1, .int x1_13), (0, .ref (ad 135))]) hx hb dX11_scrap_13 rfl hl (by decide) rfl (fun ls hl => ?_)
    refine lv_aload_n hx hb dX11_scrap_14 rfl (lv_at hl 1 rfl) ?_
    refine g_getr hx hb hw inG11 hown hK hG gl_135 rfl gk_135 (by decide) 0 (by decide) (by rw [gm_135]; decide) (r := 136) gr_135_0 lk7 dX11_scrap_15 ?_
    refine lv_iconst (v := 4) hx hb dX11_scrap_18 (by decide) ?_
    refine lv_iconst (v := 0) hx hb dX11_scrap_19 (by decide) ?_
    refine g_iast hx hb hK hG gl_136 gk_136 gn_136 HW.1 dX11_scrap_20 (fun H locs hG => ?_)
    replace HW := HW.2
    obtain ⟨h_20, eh_20⟩ : ∃ y : HI, y = hu h 136 (4 : Int32).toNatClampNeg (0 : Int32) := ⟨_, rfl⟩
    rw [← eh_20] at hG
    replace HW := HW h_20 eh_20
    refine lv_aload_n hx hb dX11_scrap_21 rfl (lv_at hl 1 rfl) ?_
    refine g_getr hx hb hw inG11 hown hK hG gl_135 rfl gk_135 (by decide) 0 (by decide) (by rw [gm_135]; decide) (r := 136) gr_135_0 lk7 dX11_scrap_22 ?_
    refine lv_iconst (v := 5) hx hb dX11_scrap_25 (by decide) ?_
    refine lv_iconst (v := 0) hx hb dX11_scrap_26 (by decide) ?_
    refine g_iast hx hb hK hG gl_136 gk_136 gn_136 HW.1 dX11_scrap_27 (fun H locs hG => ?_)
    replace HW := HW.2
    obtain ⟨h_27, eh_27⟩ : ∃ y : HI, y = hu h_20 136 (5 : Int32).toNatClampNeg (0 : Int32) := ⟨_, rfl⟩
    rw [← eh_27] at hG
    replace HW := HW h_27 eh_27
    refine lv_iload_n hx hb dX11_scrap_28 rfl (lv_at hl 0 rfl) ?_
    exact W.iret (v := x1_13) hx hb hr (fun t ht hW => ⟨⟨x1_13, (h_27, g), rfl, HW, g_B ht hG⟩, hG.2.2.F ht⟩) hG.2.2.2.2 dX11_scrap_29
  exact E0 _ _ _ hG hl

def j_X11_mayGet_45 (Q : Int32 → HI → HL → Prop) (h : HI) (g : HL) : Prop :=
  Q (1 : Int32) h g
def w_X11_mayGet (x1 : Int32) (x2 : Int32) (h : HI) (g : HL) (Q : Int32 → HI → HL → Prop) : Prop :=
  (vp_in x1 6 ∧ (∀ x3_6 : Int32, x3_6 = (h 144 x1.toNatClampNeg) → ((x3_6 = (-1 : Int32) → j_X11_mayGet_45 Q h g) ∧ (¬ x3_6 = (-1 : Int32) → (vp_in ((710 : Int32) + ((3 : Int32) * x3_6)) 887 ∧ (vp_in ((704 : Int32) + x1) 887 ∧ ((¬ (h 136 ((710 : Int32) + ((3 : Int32) * x3_6)).toNatClampNeg) = (h 136 ((704 : Int32) + x1).toNatClampNeg) → Q (0 : Int32) h g) ∧ ((h 136 ((710 : Int32) + ((3 : Int32) * x3_6)).toNatClampNeg) = (h 136 ((704 : Int32) + x1).toNatClampNeg) → ((¬ ((x2 >>> (x3_6 &&& 31)) &&& (1 : Int32)) = 0 → Q (0 : Int32) h g) ∧ (((x2 >>> (x3_6 &&& 31)) &&& (1 : Int32)) = 0 → j_X11_mayGet_45 Q h g))))))))))
set_option maxHeartbeats 8000000 in
set_option maxRecDepth 100000 in
theorem m_X11_mayGet (l : Launch) (D : va_G) (cy : Nat → ClassId) (ad : Nat → Nat) (h : HI) (g : HL) (sz : Nat) (x1 : Int32) (x2 : Int32) (Q : Int32 → HI → HL → Prop) (HW : w_X11_mayGet x1 x2 h g Q) : Met l yX11_mayGet (wa yX11_mayGet cX11_mayGet 4 (some .boolean)) ({ frames := 0, cells := 0, slots := 0, locals := 0 }) (va_Pc [.ref (ad 135), .int x1, .int x2] (gI D cy ad h g sz)) (va_Qi (fun (r : Int32) (u : HI × HL) => zb r ∧ Q r u.1 u.2) (gB D cy ad sz) (gA ad sz)) 0 0 (gA ad sz) := by
  refine Met.ofW (cc := cX11_mayGet) (maxL := 4) (ret := (some .boolean)) (by decide) rfl ?_
  intro p e s m args below meth c s₁ B hml hv
  obtain ⟨hav, hsz, hP, hK, hD0, hNw⟩ := hv
  have hx := B.exec
  have hb := B.bytes
  have hr := B.returns
  have hts := atoms_spec (ws := (wa yX11_mayGet cX11_mayGet 4 (some .boolean))) B.pre
  have hw := wa_hw hts
  have hown : s.vm.findClass RX11 = some m.cls := findClass_of_methodNamed B.named
  have hlocks := B.notSynchronized
  subst hsz
  have hG : gG D cy ad (gA ad s.heap.size) s.heap h g s.heap [] := ⟨hP, gA_self hD0, va_S.rf⟩
  clear hP hD0
  have lk36 := hw (.fieldLink RX11 36 "OldWorksModel" "gets" "[I") (wm5 48 rfl rfl)
  have lk7 := hw (.fieldLink RX11 7 "OldWorksModel" "st" "[I") (wm5 27 rfl rfl)
  rw [show (headSpec (wa yX11_mayGet cX11_mayGet 4 (some .boolean)) ({ frames := 0, cells := 0, slots := 0, locals := 0 } : Room)).room = ({ frames := 0, cells := 0, slots := 0, locals := 0 } : Room) from rfl]
  have hl := lv_entry ([.ref (ad 135), .int x1, .int x2]) (n := 4) (Nat.le_of_ble_eq_true rfl)
  rw [show entryFrame m args 4 = entryFrame m ([.ref (ad 135), .int x1, .int x2] : List Value).toArray 4 from by rw [hav], lg_entry_eq]
  generalize (lg_sl ([.ref (ad 135), .int x1, .int x2]) ++ List.replicate (4 - (lg_sl ([.ref (ad 135), .int x1, .int x2])).length) Slot.unset).toArray = ls at hl ⊢
  have hl : lv_has ls 4 [(0, .ref (ad 135)), (1, .int x1), (2, .int x2)] := hl
  have B45 : ∀ (h : HI) (g : HL) (H : Heap) (locs : List Loc) (ls : Array Slot), j_X11_mayGet_45 Q h g → gG D cy ad (gA ad s.heap.size) s.heap h g H locs → lv_has ls 4 [] → W p l e ({ frames := 0, cells := 0, slots := 0, locals := 0 } : Room) s m args below meth c H locs 0 0 (MQ below (va_Qi (fun (r : Int32) (u : HI × HL) => zb r ∧ Q r u.1 u.2) (gB D cy ad s.heap.size) (gA ad s.heap.size)) args s 0 0 (gA ad s.heap.size)) (F0 m 45 ls []) := by
    intro  h g H locs ls HW hG hl
    unfold j_X11_mayGet_45 at HW
    refine lv_iconst (v := 1) hx hb dX11_mayGet_45 (by decide) ?_
    refine lv_goto (tgt := 50) hx hb dX11_mayGet_46 (by decide) ?_
    exact W.zret (v := (1 : Int32)) hx hb hr rfl (fun t ht hW => ⟨⟨(1 : Int32), (h, g), rfl, ⟨Or.inr rfl, HW⟩, g_B ht hG⟩, hG.2.2.F ht⟩) hG.2.2.2.2 dX11_mayGet_50
  have E0 : ∀ (H : Heap) (locs : List Loc) (ls : Array Slot), gG D cy ad (gA ad s.heap.size) s.heap h g H locs → lv_has ls 4 [(0, .ref (ad 135)), (1, .int x1), (2, .int x2)] → W p l e ({ frames := 0, cells := 0, slots := 0, locals := 0 } : Room) s m args below meth c H locs 0 0 (MQ below (va_Qi (fun (r : Int32) (u : HI × HL) => zb r ∧ Q r u.1 u.2) (gB D cy ad s.heap.size) (gA ad s.heap.size)) args s 0 0 (gA ad s.heap.size)) (F0 m 0 ls []) := by
    intro H locs ls hG hl
    unfold w_X11_mayGet at HW
    refine lv_aload_n hx hb dX11_mayGet_0 rfl (lv_at hl 0 rfl) ?_
    refine g_getr hx hb hw inG11 hown hK hG gl_135 rfl gk_135 (by decide) 21 (by decide) (by rw [gm_135]; decide) (r := 144) gr_135_21 lk36 dX11_mayGet_1 ?_
    refine lv_iload_n hx hb dX11_mayGet_4 rfl (lv_at hl 1 rfl) ?_
    refine g_iald hx hb hK hG gl_144 gk_144 gn_144 HW.1 dX11_mayGet_5 ?_
    replace HW := HW.2
    refine lv_topi (fun x3_6 ex3_6 => ?_)
    replace HW := HW x3_6 ex3_6
    refine lv_istore_n (lv' := [(3, .int x3_6), (0, .ref (ad 135)), (1, .int x1), (2, .int x2)]) hx hb dX11_mayGet_6 rfl hl (by decide) rfl (fun ls hl => ?_)
    refine lv_iload_n hx hb dX11_mayGet_7 rfl (lv_at hl 0 rfl) ?_
    refine lv_iconst (v := (-1)) hx hb dX11_mayGet_8 (by decide) ?_
    refine lv_icmp_eq (tgt := 45) hx hb dX11_mayGet_9 (by decide) (fun c_9 => ?_) (fun c_9 => ?_)
    · replace HW := HW.1 c_9
      exact B45 h g _ _ _ HW hG (lv_sub hl [] rfl)
    · replace HW := HW.2 c_9
      refine lv_aload_n hx hb dX11_mayGet_12 rfl (lv_at hl 1 rfl) ?_
      refine g_getr hx hb hw inG11 hown hK hG gl_135 rfl gk_135 (by decide) 0 (by decide) (by rw [gm_135]; decide) (r := 136) gr_135_0 lk7 dX11_mayGet_13 ?_
      refine lv_sipush (v := 710) hx hb dX11_mayGet_16 (by decide) ?_
      refine lv_iconst (v := 3) hx hb dX11_mayGet_19 (by decide) ?_
      refine lv_iload_n hx hb dX11_mayGet_20 rfl (lv_at hl 0 rfl) ?_
      refine lv_imul hx hb dX11_mayGet_21 ?_
      refine lv_iadd hx hb dX11_mayGet_22 ?_
      refine g_iald hx hb hK hG gl_136 gk_136 gn_136 HW.1 dX11_mayGet_23 ?_
      replace HW := HW.2
      refine lv_aload_n hx hb dX11_mayGet_24 rfl (lv_at hl 1 rfl) ?_
      refine g_getr hx hb hw inG11 hown hK hG gl_135 rfl gk_135 (by decide) 0 (by decide) (by rw [gm_135]; decide) (r := 136) gr_135_0 lk7 dX11_mayGet_25 ?_
      refine lv_sipush (v := 704) hx hb dX11_mayGet_28 (by decide) ?_
      refine lv_iload_n hx hb dX11_mayGet_31 rfl (lv_at hl 2 rfl) ?_
      refine lv_iadd hx hb dX11_mayGet_32 ?_
      refine g_iald hx hb hK hG gl_136 gk_136 gn_136 HW.1 dX11_mayGet_33 ?_
      replace HW := HW.2
      refine lv_icmp_ne (tgt := 49) hx hb dX11_mayGet_34 (by decide) (fun c_34 => ?_) (fun c_34 => ?_)
      · replace HW := HW.1 c_34
        refine lv_iconst (v := 0) hx hb dX11_mayGet_49 (by decide) ?_
        exact W.zret (v := (0 : Int32)) hx hb hr rfl (fun t ht hW => ⟨⟨(0 : Int32), (h, g), rfl, ⟨Or.inl rfl, HW⟩, g_B ht hG⟩, hG.2.2.F ht⟩) hG.2.2.2.2 dX11_mayGet_50
      · replace HW := HW.2 c_34
        refine lv_iload_n hx hb dX11_mayGet_37 rfl (lv_at hl 3 rfl) ?_
        refine lv_iload_n hx hb dX11_mayGet_38 rfl (lv_at hl 0 rfl) ?_
        refine lv_ishr hx hb dX11_mayGet_39 ?_
        refine lv_iconst (v := 1) hx hb dX11_mayGet_40 (by decide) ?_
        refine lv_iand hx hb dX11_mayGet_41 ?_
        refine lv_if_ne (tgt := 49) hx hb dX11_mayGet_42 (by decide) (fun c_42 => ?_) (fun c_42 => ?_)
        · replace HW := HW.1 c_42
          refine lv_iconst (v := 0) hx hb dX11_mayGet_49 (by decide) ?_
          exact W.zret (v := (0 : Int32)) hx hb hr rfl (fun t ht hW => ⟨⟨(0 : Int32), (h, g), rfl, ⟨Or.inl rfl, HW⟩, g_B ht hG⟩, hG.2.2.F ht⟩) hG.2.2.2.2 dX11_mayGet_50
        · replace HW := HW.2 c_42
          exact B45 h g _ _ _ HW hG (lv_sub hl [] rfl)
  exact E0 _ _ _ hG hl

def j_X11_givenTo_32 (Q : Int32 → HI → HL → Prop) (K4 : Int32 → Int32 → Int32 → HI → HL → Prop) (x1 : Int32) (x3 : Int32) (s0 : Int32) (s1 : Int32) (h : HI) (g : HL) : Prop :=
  (∀ x2_33 : Int32, x2_33 = (s0 ||| s1) → (∀ x3_34 : Int32, x3_34 = (x3 + 1) → K4 x1 x2_33 x3_34 h g))
def b_X11_givenTo_4 (Q : Int32 → HI → HL → Prop) (K4 : Int32 → Int32 → Int32 → HI → HL → Prop) (x1 : Int32) (x2 : Int32) (x3 : Int32) (h : HI) (g : HL) : Prop :=
  ((x1 ≤ x3 → Q x2 h g) ∧ (¬ x1 ≤ x3 → (vp_in x3 6 ∧ ((¬ (h 144 x3.toNatClampNeg) = (-1 : Int32) → (vp_in x3 6 ∧ j_X11_givenTo_32 Q K4 x1 x3 x2 ((1 : Int32) <<< ((h 144 x3.toNatClampNeg) &&& 31)) h g)) ∧ ((h 144 x3.toNatClampNeg) = (-1 : Int32) → j_X11_givenTo_32 Q K4 x1 x3 x2 (0 : Int32) h g)))))
def F_X11_givenTo_4 (Q : Int32 → HI → HL → Prop) (K : Int32 × Int32 × Int32 × HI × HL → Prop) (q : Int32 × Int32 × Int32 × HI × HL) : Prop := b_X11_givenTo_4 Q (fun x1 x2 x3 h g => K (x1, x2, x3, h, g)) q.1 q.2.1 q.2.2.1 q.2.2.2.1 q.2.2.2.2
def w_X11_givenTo (x1 : Int32) (h : HI) (g : HL) (Q : Int32 → HI → HL → Prop) : Prop :=
  lpE (F_X11_givenTo_4 Q) (x1, (0 : Int32), (0 : Int32), h, g)
set_option maxHeartbeats 8000000 in
set_option maxRecDepth 100000 in
theorem m_X11_givenTo (l : Launch) (D : va_G) (cy : Nat → ClassId) (ad : Nat → Nat) (h : HI) (g : HL) (sz : Nat) (x1 : Int32) (Q : Int32 → HI → HL → Prop) (HW : w_X11_givenTo x1 h g Q) : Met l yX11_givenTo (wa yX11_givenTo cX11_givenTo 4 (some .int)) ({ frames := 0, cells := 0, slots := 0, locals := 0 }) (va_Pc [.ref (ad 135), .int x1] (gI D cy ad h g sz)) (va_Qi (fun (r : Int32) (u : HI × HL) => Q r u.1 u.2) (gB D cy ad sz) (gA ad sz)) 0 0 (gA ad sz) := by
  refine Met.ofW (cc := cX11_givenTo) (maxL := 4) (ret := (some .int)) (by decide) rfl ?_
  intro p e s m args below meth c s₁ B hml hv
  obtain ⟨hav, hsz, hP, hK, hD0, hNw⟩ := hv
  have hx := B.exec
  have hb := B.bytes
  have hr := B.returns
  have hts := atoms_spec (ws := (wa yX11_givenTo cX11_givenTo 4 (some .int))) B.pre
  have hw := wa_hw hts
  have hown : s.vm.findClass RX11 = some m.cls := findClass_of_methodNamed B.named
  have hlocks := B.notSynchronized
  subst hsz
  have hG : gG D cy ad (gA ad s.heap.size) s.heap h g s.heap [] := ⟨hP, gA_self hD0, va_S.rf⟩
  clear hP hD0
  have lk36 := hw (.fieldLink RX11 36 "OldWorksModel" "gets" "[I") (wm5 48 rfl rfl)
  rw [show (headSpec (wa yX11_givenTo cX11_givenTo 4 (some .int)) ({ frames := 0, cells := 0, slots := 0, locals := 0 } : Room)).room = ({ frames := 0, cells := 0, slots := 0, locals := 0 } : Room) from rfl]
  have hl := lv_entry ([.ref (ad 135), .int x1]) (n := 4) (Nat.le_of_ble_eq_true rfl)
  rw [show entryFrame m args 4 = entryFrame m ([.ref (ad 135), .int x1] : List Value).toArray 4 from by rw [hav], lg_entry_eq]
  generalize (lg_sl ([.ref (ad 135), .int x1]) ++ List.replicate (4 - (lg_sl ([.ref (ad 135), .int x1])).length) Slot.unset).toArray = ls at hl ⊢
  have hl : lv_has ls 4 [(0, .ref (ad 135)), (1, .int x1)] := hl
  have B32 : ∀ (K4 : Int32 → Int32 → Int32 → HI → HL → Prop) (hK4 : ∀ (x1 : Int32) (x2 : Int32) (x3 : Int32) (h : HI) (g : HL) (H : Heap) (locs : List Loc) (ls : Array Slot), K4 x1 x2 x3 h g → gG D cy ad (gA ad s.heap.size) s.heap h g H locs → lv_has ls 4 [(0, .ref (ad 135)), (1, .int x1), (2, .int x2), (3, .int x3)] → W p l e ({ frames := 0, cells := 0, slots := 0, locals := 0 } : Room) s m args below meth c H locs 0 0 (MQ below (va_Qi (fun (r : Int32) (u : HI × HL) => Q r u.1 u.2) (gB D cy ad s.heap.size) (gA ad s.heap.size)) args s 0 0 (gA ad s.heap.size)) (F0 m 4 ls [])) (x1 : Int32) (x3 : Int32) (s0 : Int32) (s1 : Int32) (h : HI) (g : HL) (H : Heap) (locs : List Loc) (ls : Array Slot), j_X11_givenTo_32 Q K4 x1 x3 s0 s1 h g → gG D cy ad (gA ad s.heap.size) s.heap h g H locs → lv_has ls 4 [(0, .ref (ad 135)), (1, .int x1), (3, .int x3)] → W p l e ({ frames := 0, cells := 0, slots := 0, locals := 0 } : Room) s m args below meth c H locs 0 0 (MQ below (va_Qi (fun (r : Int32) (u : HI × HL) => Q r u.1 u.2) (gB D cy ad s.heap.size) (gA ad s.heap.size)) args s 0 0 (gA ad s.heap.size)) (F0 m 32 ls [.int s1, .int s0]) := by
    intro K4 hK4 x1 x3 s0 s1 h g H locs ls HW hG hl
    unfold j_X11_givenTo_32 at HW
    refine lv_ior hx hb dX11_givenTo_32 ?_
    refine lv_topi (fun x2_33 ex2_33 => ?_)
    replace HW := HW x2_33 ex2_33
    refine lv_istore_n (lv' := [(2, .int x2_33), (0, .ref (ad 135)), (1, .int x1), (3, .int x3)]) hx hb dX11_givenTo_33 rfl hl (by decide) rfl (fun ls hl => ?_)
    obtain ⟨x3_34, ex3_34⟩ : ∃ y : Int32, y = (x3 + 1) := ⟨_, rfl⟩
    replace HW := HW x3_34 ex3_34
    refine lv_iinc (v := x3_34) (lv' := [(3, .int x3_34), (2, .int x2_33), (0, .ref (ad 135)), (1, .int x1)]) hx hb dX11_givenTo_34 hl (k := 3) rfl (by rw [ex3_34]; rfl) (by decide) rfl (fun ls hl => ?_)
    refine lv_goto (tgt := 4) hx hb dX11_givenTo_37 (by decide) ?_
    exact hK4 x1 x2_33 x3_34 h g _ _ _ HW hG (lv_sub hl [2, 3, 1, 0] rfl)
  have L4 : ∀ (n : Nat) (x1 : Int32) (x2 : Int32) (x3 : Int32) (h : HI) (g : HL) (H : Heap) (locs : List Loc) (ls : Array Slot), lpN (F_X11_givenTo_4 Q) n (x1, x2, x3, h, g) → gG D cy ad (gA ad s.heap.size) s.heap h g H locs → lv_has ls 4 [(0, .ref (ad 135)), (1, .int x1), (2, .int x2), (3, .int x3)] → W p l e ({ frames := 0, cells := 0, slots := 0, locals := 0 } : Room) s m args below meth c H locs 0 0 (MQ below (va_Qi (fun (r : Int32) (u : HI × HL) => Q r u.1 u.2) (gB D cy ad s.heap.size) (gA ad s.heap.size)) args s 0 0 (gA ad s.heap.size)) (F0 m 4 ls []) := by
    intro n
    induction n with
    | zero => intro x1 x2 x3 h g H locs ls HW; exact HW.elim
    | succ n ih =>
      intro x1 x2 x3 h g H locs ls HW hG hl
      have HW : b_X11_givenTo_4 Q (fun x1 x2 x3 h g => lpN (F_X11_givenTo_4 Q) n (x1, x2, x3, h, g)) x1 x2 x3 h g := HW
      generalize hKe : (fun (x1 : Int32) (x2 : Int32) (x3 : Int32) (h : HI) (g : HL) => lpN (F_X11_givenTo_4 Q) n (x1, x2, x3, h, g)) = K4 at HW
      have hK4 : ∀ (x1 : Int32) (x2 : Int32) (x3 : Int32) (h : HI) (g : HL) (H : Heap) (locs : List Loc) (ls : Array Slot), K4 x1 x2 x3 h g → gG D cy ad (gA ad s.heap.size) s.heap h g H locs → lv_has ls 4 [(0, .ref (ad 135)), (1, .int x1), (2, .int x2), (3, .int x3)] → W p l e ({ frames := 0, cells := 0, slots := 0, locals := 0 } : Room) s m args below meth c H locs 0 0 (MQ below (va_Qi (fun (r : Int32) (u : HI × HL) => Q r u.1 u.2) (gB D cy ad s.heap.size) (gA ad s.heap.size)) args s 0 0 (gA ad s.heap.size)) (F0 m 4 ls []) := by subst hKe; exact ih
      clear ih
      clear hKe
      unfold b_X11_givenTo_4 at HW
      refine lv_iload_n hx hb dX11_givenTo_4 rfl (lv_at hl 3 rfl) ?_
      refine lv_iload_n hx hb dX11_givenTo_5 rfl (lv_at hl 1 rfl) ?_
      refine lv_icmp_ge (tgt := 40) hx hb dX11_givenTo_6 (by decide) (fun c_6 => ?_) (fun c_6 => ?_)
      · replace HW := HW.1 c_6
        refine lv_iload_n hx hb dX11_givenTo_40 rfl (lv_at hl 2 rfl) ?_
        exact W.iret (v := x2) hx hb hr (fun t ht hW => ⟨⟨x2, (h, g), rfl, HW, g_B ht hG⟩, hG.2.2.F ht⟩) hG.2.2.2.2 dX11_givenTo_41
      · replace HW := HW.2 c_6
        refine lv_iload_n hx hb dX11_givenTo_9 rfl (lv_at hl 2 rfl) ?_
        refine lv_aload_n hx hb dX11_givenTo_10 rfl (lv_at hl 0 rfl) ?_
        refine g_getr hx hb hw inG11 hown hK hG gl_135 rfl gk_135 (by decide) 21 (by decide) (by rw [gm_135]; decide) (r := 144) gr_135_21 lk36 dX11_givenTo_11 ?_
        refine lv_iload_n hx hb dX11_givenTo_14 rfl (lv_at hl 3 rfl) ?_
        refine g_iald hx hb hK hG gl_144 gk_144 gn_144 HW.1 dX11_givenTo_15 ?_
        replace HW := HW.2
        refine lv_iconst (v := (-1)) hx hb dX11_givenTo_16 (by decide) ?_
        refine lv_icmp_ne (tgt := 24) hx hb dX11_givenTo_17 (by decide) (fun c_17 => ?_) (fun c_17 => ?_)
        · replace HW := HW.1 c_17
          refine lv_iconst (v := 1) hx hb dX11_givenTo_24 (by decide) ?_
          refine lv_aload_n hx hb dX11_givenTo_25 rfl (lv_at hl 0 rfl) ?_
          refine g_getr hx hb hw inG11 hown hK hG gl_135 rfl gk_135 (by decide) 21 (by decide) (by rw [gm_135]; decide) (r := 144) gr_135_21 lk36 dX11_givenTo_26 ?_
          refine lv_iload_n hx hb dX11_givenTo_29 rfl (lv_at hl 3 rfl) ?_
          refine g_iald hx hb hK hG gl_144 gk_144 gn_144 HW.1 dX11_givenTo_30 ?_
          replace HW := HW.2
          refine lv_ishl hx hb dX11_givenTo_31 ?_
          exact B32 K4 hK4 x1 x3 x2 ((1 : Int32) <<< ((h 144 x3.toNatClampNeg) &&& 31)) h g _ _ _ HW hG (lv_sub hl [0, 1, 3] rfl)
        · replace HW := HW.2 c_17
          refine lv_iconst (v := 0) hx hb dX11_givenTo_20 (by decide) ?_
          refine lv_goto (tgt := 32) hx hb dX11_givenTo_21 (by decide) ?_
          exact B32 K4 hK4 x1 x3 x2 (0 : Int32) h g _ _ _ HW hG (lv_sub hl [0, 1, 3] rfl)
  have E0 : ∀ (H : Heap) (locs : List Loc) (ls : Array Slot), gG D cy ad (gA ad s.heap.size) s.heap h g H locs → lv_has ls 4 [(0, .ref (ad 135)), (1, .int x1)] → W p l e ({ frames := 0, cells := 0, slots := 0, locals := 0 } : Room) s m args below meth c H locs 0 0 (MQ below (va_Qi (fun (r : Int32) (u : HI × HL) => Q r u.1 u.2) (gB D cy ad s.heap.size) (gA ad s.heap.size)) args s 0 0 (gA ad s.heap.size)) (F0 m 0 ls []) := by
    intro H locs ls hG hl
    unfold w_X11_givenTo at HW
    refine lv_iconst (v := 0) hx hb dX11_givenTo_0 (by decide) ?_
    refine lv_istore_n (lv' := [(2, .int (0 : Int32)), (0, .ref (ad 135)), (1, .int x1)]) hx hb dX11_givenTo_1 rfl hl (by decide) rfl (fun ls hl => ?_)
    refine lv_iconst (v := 0) hx hb dX11_givenTo_2 (by decide) ?_
    refine lv_istore_n (lv' := [(3, .int (0 : Int32)), (2, .int (0 : Int32)), (0, .ref (ad 135)), (1, .int x1)]) hx hb dX11_givenTo_3 rfl hl (by decide) rfl (fun ls hl => ?_)
    obtain ⟨n_4, HW⟩ := HW
    exact L4 n_4 x1 (0 : Int32) (0 : Int32) h g _ _ _ HW hG (lv_sub hl [2, 3, 1, 0] rfl)
  exact E0 _ _ _ hG hl

def j_X11_yearsOf_125 (Q : Int32 → HI → HL → Prop) (K10 : Int32 → Int32 → Int32 → Int32 → Int32 → HI → HL → Prop) (x1 : Int32) (x2 : Int32) (x3 : Int32) (x5 : Int32) (s0 : Int32) (s1 : Int32) (h : HI) (g : HL) : Prop :=
  (∀ x4_126 : Int32, x4_126 = (s0 ||| s1) → (∀ x5_128 : Int32, x5_128 = (x5 + 1) → K10 x1 x2 x3 x4_126 x5_128 h g))
def j_X11_yearsOf_124 (Q : Int32 → HI → HL → Prop) (K10 : Int32 → Int32 → Int32 → Int32 → Int32 → HI → HL → Prop) (x1 : Int32) (x2 : Int32) (x3 : Int32) (x5 : Int32) (s0 : Int32) (h : HI) (g : HL) : Prop :=
  j_X11_yearsOf_125 Q K10 x1 x2 x3 x5 s0 (0 : Int32) h g
def j_X11_yearsOf_102 (Q : Int32 → HI → HL → Prop) (K10 : Int32 → Int32 → Int32 → Int32 → Int32 → HI → HL → Prop) (x1 : Int32) (x2 : Int32) (x4 : Int32) (x5 : Int32) (x6 : Int32) (x7 : Int32) (s0 : Int32) (s1 : Int32) (h : HI) (g : HL) : Prop :=
  (∀ x3_103 : Int32, x3_103 = (s0 ||| s1) → ((¬ x7 = 0 → j_X11_yearsOf_124 Q K10 x1 x2 x3_103 x5 x4 h g) ∧ (x7 = 0 → ((x6 = (-1 : Int32) → j_X11_yearsOf_124 Q K10 x1 x2 x3_103 x5 x4 h g) ∧ (¬ x6 = (-1 : Int32) → j_X11_yearsOf_125 Q K10 x1 x2 x3_103 x5 x4 ((1 : Int32) <<< (x6 &&& 31)) h g)))))
def j_X11_yearsOf_101 (Q : Int32 → HI → HL → Prop) (K10 : Int32 → Int32 → Int32 → Int32 → Int32 → HI → HL → Prop) (x1 : Int32) (x2 : Int32) (x4 : Int32) (x5 : Int32) (x6 : Int32) (x7 : Int32) (s0 : Int32) (h : HI) (g : HL) : Prop :=
  j_X11_yearsOf_102 Q K10 x1 x2 x4 x5 x6 x7 s0 (0 : Int32) h g
def j_X11_yearsOf_80 (Q : Int32 → HI → HL → Prop) (K10 : Int32 → Int32 → Int32 → Int32 → Int32 → HI → HL → Prop) (x1 : Int32) (x3 : Int32) (x4 : Int32) (x5 : Int32) (x6 : Int32) (x7 : Int32) (s0 : Int32) (s1 : Int32) (h : HI) (g : HL) : Prop :=
  (∀ x2_81 : Int32, x2_81 = (s0 + s1) → ((x7 = 0 → j_X11_yearsOf_101 Q K10 x1 x2_81 x4 x5 x6 x7 x3 h g) ∧ (¬ x7 = 0 → ((x6 = (-1 : Int32) → j_X11_yearsOf_101 Q K10 x1 x2_81 x4 x5 x6 x7 x3 h g) ∧ (¬ x6 = (-1 : Int32) → j_X11_yearsOf_102 Q K10 x1 x2_81 x4 x5 x6 x7 x3 ((1 : Int32) <<< (x6 &&& 31)) h g)))))
def j_X11_yearsOf_53 (Q : Int32 → HI → HL → Prop) (K10 : Int32 → Int32 → Int32 → Int32 → Int32 → HI → HL → Prop) (x1 : Int32) (x2 : Int32) (x3 : Int32) (x4 : Int32) (x5 : Int32) (x6 : Int32) (s0 : Int32) (h : HI) (g : HL) : Prop :=
  ((s0 = 0 → j_X11_yearsOf_80 Q K10 x1 x3 x4 x5 x6 s0 x2 (0 : Int32) h g) ∧ (¬ s0 = 0 → (vp_in (((710 : Int32) + ((3 : Int32) * x5)) + (1 : Int32)) 887 ∧ j_X11_yearsOf_80 Q K10 x1 x3 x4 x5 x6 s0 x2 (h 136 (((710 : Int32) + ((3 : Int32) * x5)) + (1 : Int32)).toNatClampNeg) h g)))
def b_X11_yearsOf_10 (Q : Int32 → HI → HL → Prop) (K10 : Int32 → Int32 → Int32 → Int32 → Int32 → HI → HL → Prop) (x1 : Int32) (x2 : Int32) (x3 : Int32) (x4 : Int32) (x5 : Int32) (h : HI) (g : HL) : Prop :=
  (vp_in (5 : Int32) 887 ∧ (((h 136 (5 : Int32).toNatClampNeg) ≤ x5 → (((x3 &&& x4) = 0 → Q x2 h g) ∧ (¬ (x3 &&& x4) = 0 → Q (-1 : Int32) h g))) ∧ (¬ (h 136 (5 : Int32).toNatClampNeg) ≤ x5 → (vp_in (((710 : Int32) + ((3 : Int32) * x5)) + (2 : Int32)) 887 ∧ (∀ x6_36 : Int32, x6_36 = (h 136 (((710 : Int32) + ((3 : Int32) * x5)) + (2 : Int32)).toNatClampNeg) → ((¬ ((x1 >>> (x5 &&& 31)) &&& (1 : Int32)) = (1 : Int32) → j_X11_yearsOf_53 Q K10 x1 x2 x3 x4 x5 x6_36 (0 : Int32) h g) ∧ (((x1 >>> (x5 &&& 31)) &&& (1 : Int32)) = (1 : Int32) → j_X11_yearsOf_53 Q K10 x1 x2 x3 x4 x5 x6_36 (1 : Int32) h g)))))))
def F_X11_yearsOf_10 (Q : Int32 → HI → HL → Prop) (K : Int32 × Int32 × Int32 × Int32 × Int32 × HI × HL → Prop) (q : Int32 × Int32 × Int32 × Int32 × Int32 × HI × HL) : Prop := b_X11_yearsOf_10 Q (fun x1 x2 x3 x4 x5 h g => K (x1, x2, x3, x4, x5, h, g)) q.1 q.2.1 q.2.2.1 q.2.2.2.1 q.2.2.2.2.1 q.2.2.2.2.2.1 q.2.2.2.2.2.2
def w_X11_yearsOf (x1 : Int32) (h : HI) (g : HL) (Q : Int32 → HI → HL → Prop) : Prop :=
  lpE (F_X11_yearsOf_10 Q) (x1, (0 : Int32), (0 : Int32), (0 : Int32), (0 : Int32), h, g)
set_option maxHeartbeats 8000000 in
set_option maxRecDepth 100000 in
theorem m_X11_yearsOf (l : Launch) (D : va_G) (cy : Nat → ClassId) (ad : Nat → Nat) (h : HI) (g : HL) (sz : Nat) (x1 : Int32) (Q : Int32 → HI → HL → Prop) (HW : w_X11_yearsOf x1 h g Q) : Met l yX11_yearsOf (wa yX11_yearsOf cX11_yearsOf 8 (some .int)) ({ frames := 0, cells := 0, slots := 0, locals := 0 }) (va_Pc [.ref (ad 135), .int x1] (gI D cy ad h g sz)) (va_Qi (fun (r : Int32) (u : HI × HL) => Q r u.1 u.2) (gB D cy ad sz) (gA ad sz)) 0 0 (gA ad sz) := by
  refine Met.ofW (cc := cX11_yearsOf) (maxL := 8) (ret := (some .int)) (by decide) rfl ?_
  intro p e s m args below meth c s₁ B hml hv
  obtain ⟨hav, hsz, hP, hK, hD0, hNw⟩ := hv
  have hx := B.exec
  have hb := B.bytes
  have hr := B.returns
  have hts := atoms_spec (ws := (wa yX11_yearsOf cX11_yearsOf 8 (some .int))) B.pre
  have hw := wa_hw hts
  have hown : s.vm.findClass RX11 = some m.cls := findClass_of_methodNamed B.named
  have hlocks := B.notSynchronized
  subst hsz
  have hG : gG D cy ad (gA ad s.heap.size) s.heap h g s.heap [] := ⟨hP, gA_self hD0, va_S.rf⟩
  clear hP hD0
  have lk7 := hw (.fieldLink RX11 7 "OldWorksModel" "st" "[I") (wm5 27 rfl rfl)
  rw [show (headSpec (wa yX11_yearsOf cX11_yearsOf 8 (some .int)) ({ frames := 0, cells := 0, slots := 0, locals := 0 } : Room)).room = ({ frames := 0, cells := 0, slots := 0, locals := 0 } : Room) from rfl]
  have hl := lv_entry ([.ref (ad 135), .int x1]) (n := 8) (Nat.le_of_ble_eq_true rfl)
  rw [show entryFrame m args 8 = entryFrame m ([.ref (ad 135), .int x1] : List Value).toArray 8 from by rw [hav], lg_entry_eq]
  generalize (lg_sl ([.ref (ad 135), .int x1]) ++ List.replicate (8 - (lg_sl ([.ref (ad 135), .int x1])).length) Slot.unset).toArray = ls at hl ⊢
  have hl : lv_has ls 8 [(0, .ref (ad 135)), (1, .int x1)] := hl
  have B125 : ∀ (K10 : Int32 → Int32 → Int32 → Int32 → Int32 → HI → HL → Prop) (hK10 : ∀ (x1 : Int32) (x2 : Int32) (x3 : Int32) (x4 : Int32) (x5 : Int32) (h : HI) (g : HL) (H : Heap) (locs : List Loc) (ls : Array Slot), K10 x1 x2 x3 x4 x5 h g → gG D cy ad (gA ad s.heap.size) s.heap h g H locs → lv_has ls 8 [(0, .ref (ad 135)), (1, .int x1), (2, .int x2), (3, .int x3), (4, .int x4), (5, .int x5)] → W p l e ({ frames := 0, cells := 0, slots := 0, locals := 0 } : Room) s m args below meth c H locs 0 0 (MQ below (va_Qi (fun (r : Int32) (u : HI × HL) => Q r u.1 u.2) (gB D cy ad s.heap.size) (gA ad s.heap.size)) args s 0 0 (gA ad s.heap.size)) (F0 m 10 ls [])) (x1 : Int32) (x2 : Int32) (x3 : Int32) (x5 : Int32) (s0 : Int32) (s1 : Int32) (h : HI) (g : HL) (H : Heap) (locs : List Loc) (ls : Array Slot), j_X11_yearsOf_125 Q K10 x1 x2 x3 x5 s0 s1 h g → gG D cy ad (gA ad s.heap.size) s.heap h g H locs → lv_has ls 8 [(0, .ref (ad 135)), (1, .int x1), (2, .int x2), (3, .int x3), (5, .int x5)] → W p l e ({ frames := 0, cells := 0, slots := 0, locals := 0 } : Room) s m args below meth c H locs 0 0 (MQ below (va_Qi (fun (r : Int32) (u : HI × HL) => Q r u.1 u.2) (gB D cy ad s.heap.size) (gA ad s.heap.size)) args s 0 0 (gA ad s.heap.size)) (F0 m 125 ls [.int s1, .int s0]) := by
    intro K10 hK10 x1 x2 x3 x5 s0 s1 h g H locs ls HW hG hl
    unfold j_X11_yearsOf_125 at HW
    refine lv_ior hx hb dX11_yearsOf_125 ?_
    refine lv_topi (fun x4_126 ex4_126 => ?_)
    replace HW := HW x4_126 ex4_126
    refine lv_istore (lv' := [(4, .int x4_126), (0, .ref (ad 135)), (1, .int x1), (2, .int x2), (3, .int x3), (5, .int x5)]) hx hb dX11_yearsOf_126 hl (by decide) rfl (fun ls hl => ?_)
    obtain ⟨x5_128, ex5_128⟩ : ∃ y : Int32, y = (x5 + 1) := ⟨_, rfl⟩
    replace HW := HW x5_128 ex5_128
    refine lv_iinc (v := x5_128) (lv' := [(5, .int x5_128), (4, .int x4_126), (0, .ref (ad 135)), (1, .int x1), (2, .int x2), (3, .int x3)]) hx hb dX11_yearsOf_128 hl (k := 5) rfl (by rw [ex5_128]; rfl) (by decide) rfl (fun ls hl => ?_)
    refine lv_goto (tgt := 10) hx hb dX11_yearsOf_131 (by decide) ?_
    exact hK10 x1 x2 x3 x4_126 x5_128 h g _ _ _ HW hG (lv_sub hl [2, 3, 4, 5, 1, 0] rfl)
  have B124 : ∀ (K10 : Int32 → Int32 → Int32 → Int32 → Int32 → HI → HL → Prop) (hK10 : ∀ (x1 : Int32) (x2 : Int32) (x3 : Int32) (x4 : Int32) (x5 : Int32) (h : HI) (g : HL) (H : Heap) (locs : List Loc) (ls : Array Slot), K10 x1 x2 x3 x4 x5 h g → gG D cy ad (gA ad s.heap.size) s.heap h g H locs → lv_has ls 8 [(0, .ref (ad 135)), (1, .int x1), (2, .int x2), (3, .int x3), (4, .int x4), (5, .int x5)] → W p l e ({ frames := 0, cells := 0, slots := 0, locals := 0 } : Room) s m args below meth c H locs 0 0 (MQ below (va_Qi (fun (r : Int32) (u : HI × HL) => Q r u.1 u.2) (gB D cy ad s.heap.size) (gA ad s.heap.size)) args s 0 0 (gA ad s.heap.size)) (F0 m 10 ls [])) (x1 : Int32) (x2 : Int32) (x3 : Int32) (x5 : Int32) (s0 : Int32) (h : HI) (g : HL) (H : Heap) (locs : List Loc) (ls : Array Slot), j_X11_yearsOf_124 Q K10 x1 x2 x3 x5 s0 h g → gG D cy ad (gA ad s.heap.size) s.heap h g H locs → lv_has ls 8 [(0, .ref (ad 135)), (1, .int x1), (2, .int x2), (3, .int x3), (5, .int x5)] → W p l e ({ frames := 0, cells := 0, slots := 0, locals := 0 } : Room) s m args below meth c H locs 0 0 (MQ below (va_Qi (fun (r : Int32) (u : HI × HL) => Q r u.1 u.2) (gB D cy ad s.heap.size) (gA ad s.heap.size)) args s 0 0 (gA ad s.heap.size)) (F0 m 124 ls [.int s0]) := by
    intro K10 hK10 x1 x2 x3 x5 s0 h g H locs ls HW hG hl
    unfold j_X11_yearsOf_124 at HW
    refine lv_iconst (v := 0) hx hb dX11_yearsOf_124 (by decide) ?_
    exact B125 K10 hK10 x1 x2 x3 x5 s0 (0 : Int32) h g _ _ _ HW hG (lv_sub hl [0, 1, 2, 3, 4] rfl)
  have B102 : ∀ (K10 : Int32 → Int32 → Int32 → Int32 → Int32 → HI → HL → Prop) (hK10 : ∀ (x1 : Int32) (x2 : Int32) (x3 : Int32) (x4 : Int32) (x5 : Int32) (h : HI) (g : HL) (H : Heap) (locs : List Loc) (ls : Array Slot), K10 x1 x2 x3 x4 x5 h g → gG D cy ad (gA ad s.heap.size) s.heap h g H locs → lv_has ls 8 [(0, .ref (ad 135)), (1, .int x1), (2, .int x2), (3, .int x3), (4, .int x4), (5, .int x5)] → W p l e ({ frames := 0, cells := 0, slots := 0, locals := 0 } : Room) s m args below meth c H locs 0 0 (MQ below (va_Qi (fun (r : Int32) (u : HI × HL) => Q r u.1 u.2) (gB D cy ad s.heap.size) (gA ad s.heap.size)) args s 0 0 (gA ad s.heap.size)) (F0 m 10 ls [])) (x1 : Int32) (x2 : Int32) (x4 : Int32) (x5 : Int32) (x6 : Int32) (x7 : Int32) (s0 : Int32) (s1 : Int32) (h : HI) (g : HL) (H : Heap) (locs : List Loc) (ls : Array Slot), j_X11_yearsOf_102 Q K10 x1 x2 x4 x5 x6 x7 s0 s1 h g → gG D cy ad (gA ad s.heap.size) s.heap h g H locs → lv_has ls 8 [(0, .ref (ad 135)), (1, .int x1), (2, .int x2), (4, .int x4), (5, .int x5), (6, .int x6), (7, .int x7)] → W p l e ({ frames := 0, cells := 0, slots := 0, locals := 0 } : Room) s m args below meth c H locs 0 0 (MQ below (va_Qi (fun (r : Int32) (u : HI × HL) => Q r u.1 u.2) (gB D cy ad s.heap.size) (gA ad s.heap.size)) args s 0 0 (gA ad s.heap.size)) (F0 m 102 ls [.int s1, .int s0]) := by
    intro K10 hK10 x1 x2 x4 x5 x6 x7 s0 s1 h g H locs ls HW hG hl
    unfold j_X11_yearsOf_102 at HW
    refine lv_ior hx hb dX11_yearsOf_102 ?_
    refine lv_topi (fun x3_103 ex3_103 => ?_)
    replace HW := HW x3_103 ex3_103
    refine lv_istore_n (lv' := [(3, .int x3_103), (0, .ref (ad 135)), (1, .int x1), (2, .int x2), (4, .int x4), (5, .int x5), (6, .int x6), (7, .int x7)]) hx hb dX11_yearsOf_103 rfl hl (by decide) rfl (fun ls hl => ?_)
    refine lv_iload hx hb dX11_yearsOf_104 (lv_at hl 4 rfl) ?_
    refine lv_iload hx hb dX11_yearsOf_106 (lv_at hl 7 rfl) ?_
    refine lv_if_ne (tgt := 124) hx hb dX11_yearsOf_108 (by decide) (fun c_108 => ?_) (fun c_108 => ?_)
    · replace HW := HW.1 c_108
      exact B124 K10 hK10 x1 x2 x3_103 x5 x4 h g _ _ _ HW hG (lv_sub hl [1, 2, 3, 0, 5] rfl)
    · replace HW := HW.2 c_108
      refine lv_iload hx hb dX11_yearsOf_111 (lv_at hl 6 rfl) ?_
      refine lv_iconst (v := (-1)) hx hb dX11_yearsOf_113 (by decide) ?_
      refine lv_icmp_eq (tgt := 124) hx hb dX11_yearsOf_114 (by decide) (fun c_114 => ?_) (fun c_114 => ?_)
      · replace HW := HW.1 c_114
        exact B124 K10 hK10 x1 x2 x3_103 x5 x4 h g _ _ _ HW hG (lv_sub hl [1, 2, 3, 0, 5] rfl)
      · replace HW := HW.2 c_114
        refine lv_iconst (v := 1) hx hb dX11_yearsOf_117 (by decide) ?_
        refine lv_iload hx hb dX11_yearsOf_118 (lv_at hl 6 rfl) ?_
        refine lv_ishl hx hb dX11_yearsOf_120 ?_
        refine lv_goto (tgt := 125) hx hb dX11_yearsOf_121 (by decide) ?_
        exact B125 K10 hK10 x1 x2 x3_103 x5 x4 ((1 : Int32) <<< (x6 &&& 31)) h g _ _ _ HW hG (lv_sub hl [1, 2, 3, 0, 5] rfl)
  have B101 : ∀ (K10 : Int32 → Int32 → Int32 → Int32 → Int32 → HI → HL → Prop) (hK10 : ∀ (x1 : Int32) (x2 : Int32) (x3 : Int32) (x4 : Int32) (x5 : Int32) (h : HI) (g : HL) (H : Heap) (locs : List Loc) (ls : Array Slot), K10 x1 x2 x3 x4 x5 h g → gG D cy ad (gA ad s.heap.size) s.heap h g H locs → lv_has ls 8 [(0, .ref (ad 135)), (1, .int x1), (2, .int x2), (3, .int x3), (4, .int x4), (5, .int x5)] → W p l e ({ frames := 0, cells := 0, slots := 0, locals := 0 } : Room) s m args below meth c H locs 0 0 (MQ below (va_Qi (fun (r : Int32) (u : HI × HL) => Q r u.1 u.2) (gB D cy ad s.heap.size) (gA ad s.heap.size)) args s 0 0 (gA ad s.heap.size)) (F0 m 10 ls [])) (x1 : Int32) (x2 : Int32) (x4 : Int32) (x5 : Int32) (x6 : Int32) (x7 : Int32) (s0 : Int32) (h : HI) (g : HL) (H : Heap) (locs : List Loc) (ls : Array Slot), j_X11_yearsOf_101 Q K10 x1 x2 x4 x5 x6 x7 s0 h g → gG D cy ad (gA ad s.heap.size) s.heap h g H locs → lv_has ls 8 [(0, .ref (ad 135)), (1, .int x1), (2, .int x2), (4, .int x4), (5, .int x5), (6, .int x6), (7, .int x7)] → W p l e ({ frames := 0, cells := 0, slots := 0, locals := 0 } : Room) s m args below meth c H locs 0 0 (MQ below (va_Qi (fun (r : Int32) (u : HI × HL) => Q r u.1 u.2) (gB D cy ad s.heap.size) (gA ad s.heap.size)) args s 0 0 (gA ad s.heap.size)) (F0 m 101 ls [.int s0]) := by
    intro K10 hK10 x1 x2 x4 x5 x6 x7 s0 h g H locs ls HW hG hl
    unfold j_X11_yearsOf_101 at HW
    refine lv_iconst (v := 0) hx hb dX11_yearsOf_101 (by decide) ?_
    exact B102 K10 hK10 x1 x2 x4 x5 x6 x7 s0 (0 : Int32) h g _ _ _ HW hG (lv_sub hl [0, 1, 2, 3, 4, 5, 6] rfl)
  have B80 : ∀ (K10 : Int32 → Int32 → Int32 → Int32 → Int32 → HI → HL → Prop) (hK10 : ∀ (x1 : Int32) (x2 : Int32) (x3 : Int32) (x4 : Int32) (x5 : Int32) (h : HI) (g : HL) (H : Heap) (locs : List Loc) (ls : Array Slot), K10 x1 x2 x3 x4 x5 h g → gG D cy ad (gA ad s.heap.size) s.heap h g H locs → lv_has ls 8 [(0, .ref (ad 135)), (1, .int x1), (2, .int x2), (3, .int x3), (4, .int x4), (5, .int x5)] → W p l e ({ frames := 0, cells := 0, slots := 0, locals := 0 } : Room) s m args below meth c H locs 0 0 (MQ below (va_Qi (fun (r : Int32) (u : HI × HL) => Q r u.1 u.2) (gB D cy ad s.heap.size) (gA ad s.heap.size)) args s 0 0 (gA ad s.heap.size)) (F0 m 10 ls [])) (x1 : Int32) (x3 : Int32) (x4 : Int32) (x5 : Int32) (x6 : Int32) (x7 : Int32) (s0 : Int32) (s1 : Int32) (h : HI) (g : HL) (H : Heap) (locs : List Loc) (ls : Array Slot), j_X11_yearsOf_80 Q K10 x1 x3 x4 x5 x6 x7 s0 s1 h g → gG D cy ad (gA ad s.heap.size) s.heap h g H locs → lv_has ls 8 [(0, .ref (ad 135)), (1, .int x1), (3, .int x3), (4, .int x4), (5, .int x5), (6, .int x6), (7, .int x7)] → W p l e ({ frames := 0, cells := 0, slots := 0, locals := 0 } : Room) s m args below meth c H locs 0 0 (MQ below (va_Qi (fun (r : Int32) (u : HI × HL) => Q r u.1 u.2) (gB D cy ad s.heap.size) (gA ad s.heap.size)) args s 0 0 (gA ad s.heap.size)) (F0 m 80 ls [.int s1, .int s0]) := by
    intro K10 hK10 x1 x3 x4 x5 x6 x7 s0 s1 h g H locs ls HW hG hl
    unfold j_X11_yearsOf_80 at HW
    refine lv_iadd hx hb dX11_yearsOf_80 ?_
    refine lv_topi (fun x2_81 ex2_81 => ?_)
    replace HW := HW x2_81 ex2_81
    refine lv_istore_n (lv' := [(2, .int x2_81), (0, .ref (ad 135)), (1, .int x1), (3, .int x3), (4, .int x4), (5, .int x5), (6, .int x6), (7, .int x7)]) hx hb dX11_yearsOf_81 rfl hl (by decide) rfl (fun ls hl => ?_)
    refine lv_iload_n hx hb dX11_yearsOf_82 rfl (lv_at hl 3 rfl) ?_
    refine lv_iload hx hb dX11_yearsOf_83 (lv_at hl 7 rfl) ?_
    refine lv_if_eq (tgt := 101) hx hb dX11_yearsOf_85 (by decide) (fun c_85 => ?_) (fun c_85 => ?_)
    · replace HW := HW.1 c_85
      exact B101 K10 hK10 x1 x2_81 x4 x5 x6 x7 x3 h g _ _ _ HW hG (lv_sub hl [1, 2, 0, 4, 5, 6, 7] rfl)
    · replace HW := HW.2 c_85
      refine lv_iload hx hb dX11_yearsOf_88 (lv_at hl 6 rfl) ?_
      refine lv_iconst (v := (-1)) hx hb dX11_yearsOf_90 (by decide) ?_
      refine lv_icmp_eq (tgt := 101) hx hb dX11_yearsOf_91 (by decide) (fun c_91 => ?_) (fun c_91 => ?_)
      · replace HW := HW.1 c_91
        exact B101 K10 hK10 x1 x2_81 x4 x5 x6 x7 x3 h g _ _ _ HW hG (lv_sub hl [1, 2, 0, 4, 5, 6, 7] rfl)
      · replace HW := HW.2 c_91
        refine lv_iconst (v := 1) hx hb dX11_yearsOf_94 (by decide) ?_
        refine lv_iload hx hb dX11_yearsOf_95 (lv_at hl 6 rfl) ?_
        refine lv_ishl hx hb dX11_yearsOf_97 ?_
        refine lv_goto (tgt := 102) hx hb dX11_yearsOf_98 (by decide) ?_
        exact B102 K10 hK10 x1 x2_81 x4 x5 x6 x7 x3 ((1 : Int32) <<< (x6 &&& 31)) h g _ _ _ HW hG (lv_sub hl [1, 2, 0, 4, 5, 6, 7] rfl)
  have B53 : ∀ (K10 : Int32 → Int32 → Int32 → Int32 → Int32 → HI → HL → Prop) (hK10 : ∀ (x1 : Int32) (x2 : Int32) (x3 : Int32) (x4 : Int32) (x5 : Int32) (h : HI) (g : HL) (H : Heap) (locs : List Loc) (ls : Array Slot), K10 x1 x2 x3 x4 x5 h g → gG D cy ad (gA ad s.heap.size) s.heap h g H locs → lv_has ls 8 [(0, .ref (ad 135)), (1, .int x1), (2, .int x2), (3, .int x3), (4, .int x4), (5, .int x5)] → W p l e ({ frames := 0, cells := 0, slots := 0, locals := 0 } : Room) s m args below meth c H locs 0 0 (MQ below (va_Qi (fun (r : Int32) (u : HI × HL) => Q r u.1 u.2) (gB D cy ad s.heap.size) (gA ad s.heap.size)) args s 0 0 (gA ad s.heap.size)) (F0 m 10 ls [])) (x1 : Int32) (x2 : Int32) (x3 : Int32) (x4 : Int32) (x5 : Int32) (x6 : Int32) (s0 : Int32) (h : HI) (g : HL) (H : Heap) (locs : List Loc) (ls : Array Slot), j_X11_yearsOf_53 Q K10 x1 x2 x3 x4 x5 x6 s0 h g → gG D cy ad (gA ad s.heap.size) s.heap h g H locs → lv_has ls 8 [(0, .ref (ad 135)), (1, .int x1), (2, .int x2), (3, .int x3), (4, .int x4), (5, .int x5), (6, .int x6)] → W p l e ({ frames := 0, cells := 0, slots := 0, locals := 0 } : Room) s m args below meth c H locs 0 0 (MQ below (va_Qi (fun (r : Int32) (u : HI × HL) => Q r u.1 u.2) (gB D cy ad s.heap.size) (gA ad s.heap.size)) args s 0 0 (gA ad s.heap.size)) (F0 m 53 ls [.int s0]) := by
    intro K10 hK10 x1 x2 x3 x4 x5 x6 s0 h g H locs ls HW hG hl
    unfold j_X11_yearsOf_53 at HW
    refine lv_istore (lv' := [(7, .int s0), (0, .ref (ad 135)), (1, .int x1), (2, .int x2), (3, .int x3), (4, .int x4), (5, .int x5), (6, .int x6)]) hx hb dX11_yearsOf_53 hl (by decide) rfl (fun ls hl => ?_)
    refine lv_iload_n hx hb dX11_yearsOf_55 rfl (lv_at hl 3 rfl) ?_
    refine lv_iload hx hb dX11_yearsOf_56 (lv_at hl 0 rfl) ?_
    refine lv_if_eq (tgt := 79) hx hb dX11_yearsOf_58 (by decide) (fun c_58 => ?_) (fun c_58 => ?_)
    · replace HW := HW.1 c_58
      refine lv_iconst (v := 0) hx hb dX11_yearsOf_79 (by decide) ?_
      exact B80 K10 hK10 x1 x3 x4 x5 x6 s0 x2 (0 : Int32) h g _ _ _ HW hG (lv_sub hl [1, 2, 4, 5, 6, 7, 0] rfl)
    · replace HW := HW.2 c_58
      refine lv_aload_n hx hb dX11_yearsOf_61 rfl (lv_at hl 1 rfl) ?_
      refine g_getr hx hb hw inG11 hown hK hG gl_135 rfl gk_135 (by decide) 0 (by decide) (by rw [gm_135]; decide) (r := 136) gr_135_0 lk7 dX11_yearsOf_62 ?_
      refine lv_sipush (v := 710) hx hb dX11_yearsOf_65 (by decide) ?_
      refine lv_iconst (v := 3) hx hb dX11_yearsOf_68 (by decide) ?_
      refine lv_iload hx hb dX11_yearsOf_69 (lv_at hl 6 rfl) ?_
      refine lv_imul hx hb dX11_yearsOf_71 ?_
      refine lv_iadd hx hb dX11_yearsOf_72 ?_
      refine lv_iconst (v := 1) hx hb dX11_yearsOf_73 (by decide) ?_
      refine lv_iadd hx hb dX11_yearsOf_74 ?_
      refine g_iald hx hb hK hG gl_136 gk_136 gn_136 HW.1 dX11_yearsOf_75 ?_
      replace HW := HW.2
      refine lv_goto (tgt := 80) hx hb dX11_yearsOf_76 (by decide) ?_
      exact B80 K10 hK10 x1 x3 x4 x5 x6 s0 x2 (h 136 (((710 : Int32) + ((3 : Int32) * x5)) + (1 : Int32)).toNatClampNeg) h g _ _ _ HW hG (lv_sub hl [1, 2, 4, 5, 6, 7, 0] rfl)
  have L10 : ∀ (n : Nat) (x1 : Int32) (x2 : Int32) (x3 : Int32) (x4 : Int32) (x5 : Int32) (h : HI) (g : HL) (H : Heap) (locs : List Loc) (ls : Array Slot), lpN (F_X11_yearsOf_10 Q) n (x1, x2, x3, x4, x5, h, g) → gG D cy ad (gA ad s.heap.size) s.heap h g H locs → lv_has ls 8 [(0, .ref (ad 135)), (1, .int x1), (2, .int x2), (3, .int x3), (4, .int x4), (5, .int x5)] → W p l e ({ frames := 0, cells := 0, slots := 0, locals := 0 } : Room) s m args below meth c H locs 0 0 (MQ below (va_Qi (fun (r : Int32) (u : HI × HL) => Q r u.1 u.2) (gB D cy ad s.heap.size) (gA ad s.heap.size)) args s 0 0 (gA ad s.heap.size)) (F0 m 10 ls []) := by
    intro n
    induction n with
    | zero => intro x1 x2 x3 x4 x5 h g H locs ls HW; exact HW.elim
    | succ n ih =>
      intro x1 x2 x3 x4 x5 h g H locs ls HW hG hl
      have HW : b_X11_yearsOf_10 Q (fun x1 x2 x3 x4 x5 h g => lpN (F_X11_yearsOf_10 Q) n (x1, x2, x3, x4, x5, h, g)) x1 x2 x3 x4 x5 h g := HW
      generalize hKe : (fun (x1 : Int32) (x2 : Int32) (x3 : Int32) (x4 : Int32) (x5 : Int32) (h : HI) (g : HL) => lpN (F_X11_yearsOf_10 Q) n (x1, x2, x3, x4, x5, h, g)) = K10 at HW
      have hK10 : ∀ (x1 : Int32) (x2 : Int32) (x3 : Int32) (x4 : Int32) (x5 : Int32) (h : HI) (g : HL) (H : Heap) (locs : List Loc) (ls : Array Slot), K10 x1 x2 x3 x4 x5 h g → gG D cy ad (gA ad s.heap.size) s.heap h g H locs → lv_has ls 8 [(0, .ref (ad 135)), (1, .int x1), (2, .int x2), (3, .int x3), (4, .int x4), (5, .int x5)] → W p l e ({ frames := 0, cells := 0, slots := 0, locals := 0 } : Room) s m args below meth c H locs 0 0 (MQ below (va_Qi (fun (r : Int32) (u : HI × HL) => Q r u.1 u.2) (gB D cy ad s.heap.size) (gA ad s.heap.size)) args s 0 0 (gA ad s.heap.size)) (F0 m 10 ls []) := by subst hKe; exact ih
      clear ih
      clear hKe
      unfold b_X11_yearsOf_10 at HW
      refine lv_iload hx hb dX11_yearsOf_10 (lv_at hl 5 rfl) ?_
      refine lv_aload_n hx hb dX11_yearsOf_12 rfl (lv_at hl 0 rfl) ?_
      refine g_getr hx hb hw inG11 hown hK hG gl_135 rfl gk_135 (by decide) 0 (by decide) (by rw [gm_135]; decide) (r := 136) gr_135_0 lk7 dX11_yearsOf_13 ?_
      refine lv_iconst (v := 5) hx hb dX11_yearsOf_16 (by decide) ?_
      refine g_iald hx hb hK hG gl_136 gk_136 gn_136 HW.1 dX11_yearsOf_17 ?_
      replace HW := HW.2
      refine lv_icmp_ge (tgt := 134) hx hb dX11_yearsOf_18 (by decide) (fun c_18 => ?_) (fun c_18 => ?_)
      · replace HW := HW.1 c_18
        refine lv_iload_n hx hb dX11_yearsOf_134 rfl (lv_at hl 3 rfl) ?_
        refine lv_iload hx hb dX11_yearsOf_135 (lv_at hl 4 rfl) ?_
        refine lv_iand hx hb dX11_yearsOf_137 ?_
        refine lv_if_eq (tgt := 145) hx hb dX11_yearsOf_138 (by decide) (fun c_138 => ?_) (fun c_138 => ?_)
        · replace HW := HW.1 c_138
          refine lv_iload_n hx hb dX11_yearsOf_145 rfl (lv_at hl 2 rfl) ?_
          exact W.iret (v := x2) hx hb hr (fun t ht hW => ⟨⟨x2, (h, g), rfl, HW, g_B ht hG⟩, hG.2.2.F ht⟩) hG.2.2.2.2 dX11_yearsOf_146
        · replace HW := HW.2 c_138
          refine lv_iconst (v := (-1)) hx hb dX11_yearsOf_141 (by decide) ?_
          refine lv_goto (tgt := 146) hx hb dX11_yearsOf_142 (by decide) ?_
          exact W.iret (v := (-1 : Int32)) hx hb hr (fun t ht hW => ⟨⟨(-1 : Int32), (h, g), rfl, HW, g_B ht hG⟩, hG.2.2.F ht⟩) hG.2.2.2.2 dX11_yearsOf_146
      · replace HW := HW.2 c_18
        refine lv_aload_n hx hb dX11_yearsOf_21 rfl (lv_at hl 0 rfl) ?_
        refine g_getr hx hb hw inG11 hown hK hG gl_135 rfl gk_135 (by decide) 0 (by decide) (by rw [gm_135]; decide) (r := 136) gr_135_0 lk7 dX11_yearsOf_22 ?_
        refine lv_sipush (v := 710) hx hb dX11_yearsOf_25 (by decide) ?_
        refine lv_iconst (v := 3) hx hb dX11_yearsOf_28 (by decide) ?_
        refine lv_iload hx hb dX11_yearsOf_29 (lv_at hl 5 rfl) ?_
        refine lv_imul hx hb dX11_yearsOf_31 ?_
        refine lv_iadd hx hb dX11_yearsOf_32 ?_
        refine lv_iconst (v := 2) hx hb dX11_yearsOf_33 (by decide) ?_
        refine lv_iadd hx hb dX11_yearsOf_34 ?_
        refine g_iald hx hb hK hG gl_136 gk_136 gn_136 HW.1 dX11_yearsOf_35 ?_
        replace HW := HW.2
        refine lv_topi (fun x6_36 ex6_36 => ?_)
        replace HW := HW x6_36 ex6_36
        refine lv_istore (lv' := [(6, .int x6_36), (0, .ref (ad 135)), (1, .int x1), (2, .int x2), (3, .int x3), (4, .int x4), (5, .int x5)]) hx hb dX11_yearsOf_36 hl (by decide) rfl (fun ls hl => ?_)
        refine lv_iload_n hx hb dX11_yearsOf_38 rfl (lv_at hl 2 rfl) ?_
        refine lv_iload hx hb dX11_yearsOf_39 (lv_at hl 6 rfl) ?_
        refine lv_ishr hx hb dX11_yearsOf_41 ?_
        refine lv_iconst (v := 1) hx hb dX11_yearsOf_42 (by decide) ?_
        refine lv_iand hx hb dX11_yearsOf_43 ?_
        refine lv_iconst (v := 1) hx hb dX11_yearsOf_44 (by decide) ?_
        refine lv_icmp_ne (tgt := 52) hx hb dX11_yearsOf_45 (by decide) (fun c_45 => ?_) (fun c_45 => ?_)
        · replace HW := HW.1 c_45
          refine lv_iconst (v := 0) hx hb dX11_yearsOf_52 (by decide) ?_
          exact B53 K10 hK10 x1 x2 x3 x4 x5 x6_36 (0 : Int32) h g _ _ _ HW hG (lv_sub hl [1, 2, 3, 4, 5, 6, 0] rfl)
        · replace HW := HW.2 c_45
          refine lv_iconst (v := 1) hx hb dX11_yearsOf_48 (by decide) ?_
          refine lv_goto (tgt := 53) hx hb dX11_yearsOf_49 (by decide) ?_
          exact B53 K10 hK10 x1 x2 x3 x4 x5 x6_36 (1 : Int32) h g _ _ _ HW hG (lv_sub hl [1, 2, 3, 4, 5, 6, 0] rfl)
  have E0 : ∀ (H : Heap) (locs : List Loc) (ls : Array Slot), gG D cy ad (gA ad s.heap.size) s.heap h g H locs → lv_has ls 8 [(0, .ref (ad 135)), (1, .int x1)] → W p l e ({ frames := 0, cells := 0, slots := 0, locals := 0 } : Room) s m args below meth c H locs 0 0 (MQ below (va_Qi (fun (r : Int32) (u : HI × HL) => Q r u.1 u.2) (gB D cy ad s.heap.size) (gA ad s.heap.size)) args s 0 0 (gA ad s.heap.size)) (F0 m 0 ls []) := by
    intro H locs ls hG hl
    unfold w_X11_yearsOf at HW
    refine lv_iconst (v := 0) hx hb dX11_yearsOf_0 (by decide) ?_
    refine lv_istore_n (lv' := [(2, .int (0 : Int32)), (0, .ref (ad 135)), (1, .int x1)]) hx hb dX11_yearsOf_1 rfl hl (by decide) rfl (fun ls hl => ?_)
    refine lv_iconst (v := 0) hx hb dX11_yearsOf_2 (by decide) ?_
    refine lv_istore_n (lv' := [(3, .int (0 : Int32)), (2, .int (0 : Int32)), (0, .ref (ad 135)), (1, .int x1)]) hx hb dX11_yearsOf_3 rfl hl (by decide) rfl (fun ls hl => ?_)
    refine lv_iconst (v := 0) hx hb dX11_yearsOf_4 (by decide) ?_
    refine lv_istore (lv' := [(4, .int (0 : Int32)), (3, .int (0 : Int32)), (2, .int (0 : Int32)), (0, .ref (ad 135)), (1, .int x1)]) hx hb dX11_yearsOf_5 hl (by decide) rfl (fun ls hl => ?_)
    refine lv_iconst (v := 0) hx hb dX11_yearsOf_7 (by decide) ?_
    refine lv_istore (lv' := [(5, .int (0 : Int32)), (4, .int (0 : Int32)), (3, .int (0 : Int32)), (2, .int (0 : Int32)), (0, .ref (ad 135)), (1, .int x1)]) hx hb dX11_yearsOf_8 hl (by decide) rfl (fun ls hl => ?_)
    obtain ⟨n_10, HW⟩ := HW
    exact L10 n_10 x1 (0 : Int32) (0 : Int32) (0 : Int32) (0 : Int32) h g _ _ _ HW hG (lv_sub hl [4, 5, 3, 2, 1, 0] rfl)
  exact E0 _ _ _ hG hl

def j_X11_findTaking_153 (Q : Int32 → HI → HL → Prop) (K35 : Int32 → Int32 → Int32 → HI → HL → Prop) (x1 : Int32) (x2 : Int32) (x3 : Int32) (h : HI) (g : HL) : Prop :=
  K35 x1 x2 x3 h g
def b_X11_findTaking_127 (Q : Int32 → HI → HL → Prop) (K35 : Int32 → Int32 → Int32 → HI → HL → Prop) (K127 : Int32 → Int32 → Int32 → Int32 → HI → HL → Prop) (x1 : Int32) (x2 : Int32) (x3 : Int32) (x5 : Int32) (h : HI) (g : HL) : Prop :=
  ((x1 ≤ x5 → j_X11_findTaking_153 Q K35 x1 x2 x3 h g) ∧ (¬ x1 ≤ x5 → (vp_in x5 6 ∧ (vp_in x5 6 ∧ ∀ h_146 : HI, h_146 = hu h 145 x5.toNatClampNeg (h 144 x5.toNatClampNeg) → (∀ x5_147 : Int32, x5_147 = (x5 + 1) → K127 x1 x2 x3 x5_147 h_146 g)))))
def F_X11_findTaking_127 (Q : Int32 → HI → HL → Prop) (K35 : Int32 → Int32 → Int32 → HI → HL → Prop) (K : Int32 × Int32 × Int32 × Int32 × HI × HL → Prop) (q : Int32 × Int32 × Int32 × Int32 × HI × HL) : Prop := b_X11_findTaking_127 Q K35 (fun x1 x2 x3 x5 h g => K (x1, x2, x3, x5, h, g)) q.1 q.2.1 q.2.2.1 q.2.2.2.1 q.2.2.2.2.1 q.2.2.2.2.2
def b_X11_findTaking_35 (Q : Int32 → HI → HL → Prop) (K35 : Int32 → Int32 → Int32 → HI → HL → Prop) (x1 : Int32) (x2 : Int32) (x3 : Int32) (h : HI) (g : HL) : Prop :=
  ((x3 < 0 → Q x2 h g) ∧ (¬ x3 < 0 → (vp_in x3 6 ∧ (vp_in x3 6 ∧ ∀ h_48 : HI, h_48 = hu h 144 x3.toNatClampNeg ((h 144 x3.toNatClampNeg) + (1 : Int32)) → (vp_in x3 6 ∧ (vp_in (5 : Int32) 887 ∧ (((h_48 144 x3.toNatClampNeg) < (h_48 136 (5 : Int32).toNatClampNeg) → (∃ P_74 : Int32 → HI → HL → Prop, w_X11_givenTo x3 h_48 g P_74 ∧ ∀ (r_74 : Int32) (h_74 : HI) (g_74 : HL), P_74 r_74 h_74 g_74 → (∃ P_77 : Int32 → HI → HL → Prop, w_X11_mayGet x3 r_74 h_74 g_74 P_77 ∧ ∀ (r_77 : Int32) (h_77 : HI) (g_77 : HL), zb r_77 → P_77 r_77 h_77 g_77 → ((r_77 = 0 → K35 x1 x2 x3 h_77 g_77) ∧ (¬ r_77 = 0 → ((x1 ≤ (x3 + (1 : Int32)) → (∃ P_107 : Int32 → HI → HL → Prop, w_X11_givenTo x1 h_77 g_77 P_107 ∧ ∀ (r_107 : Int32) (h_107 : HI) (g_107 : HL), P_107 r_107 h_107 g_107 → (∃ P_110 : Int32 → HI → HL → Prop, w_X11_yearsOf r_107 h_107 g_107 P_110 ∧ ∀ (r_110 : Int32) (h_110 : HI) (g_110 : HL), P_110 r_110 h_110 g_110 → ((r_110 ≤ x2 → j_X11_findTaking_153 Q K35 x1 x2 x3 h_110 g_110) ∧ (¬ r_110 ≤ x2 → lpE (F_X11_findTaking_127 Q K35) (x1, r_110, x3, (0 : Int32), h_110, g_110)))))) ∧ (¬ x1 ≤ (x3 + (1 : Int32)) → (∀ x3_90 : Int32, x3_90 = (x3 + 1) → (vp_in x3_90 6 ∧ ∀ h_100 : HI, h_100 = hu h_77 144 x3_90.toNatClampNeg (-2 : Int32) → K35 x1 x2 x3_90 h_100 g_77))))))))) ∧ (¬ (h_48 144 x3.toNatClampNeg) < (h_48 136 (5 : Int32).toNatClampNeg) → (∀ x3_64 : Int32, x3_64 = (x3 + (-1)) → K35 x1 x2 x3_64 h_48 g)))))))))
def F_X11_findTaking_35 (Q : Int32 → HI → HL → Prop) (K : Int32 × Int32 × Int32 × HI × HL → Prop) (q : Int32 × Int32 × Int32 × HI × HL) : Prop := b_X11_findTaking_35 Q (fun x1 x2 x3 h g => K (x1, x2, x3, h, g)) q.1 q.2.1 q.2.2.1 q.2.2.2.1 q.2.2.2.2
def j_X11_findTaking_26 (Q : Int32 → HI → HL → Prop) (x1 : Int32) (x2 : Int32) (s0 : Int32) (h : HI) (g : HL) : Prop :=
  (vp_in (0 : Int32) 6 ∧ ∀ h_34 : HI, h_34 = hu h 144 (0 : Int32).toNatClampNeg (-2 : Int32) → lpE (F_X11_findTaking_35 Q) (x1, x2, s0, h_34, g))
def j_X11_findTaking_16 (Q : Int32 → HI → HL → Prop) (x1 : Int32) (s0 : Int32) (h : HI) (g : HL) : Prop :=
  ((¬ x1 = 0 → j_X11_findTaking_26 Q x1 s0 (0 : Int32) h g) ∧ (x1 = 0 → j_X11_findTaking_26 Q x1 s0 (-1 : Int32) h g))
def w_X11_findTaking  (h : HI) (g : HL) (Q : Int32 → HI → HL → Prop) : Prop :=
  (vp_in (4 : Int32) 887 ∧ (∀ x1_6 : Int32, x1_6 = (h 136 (4 : Int32).toNatClampNeg) → ((¬ x1_6 = 0 → j_X11_findTaking_16 Q x1_6 (-1 : Int32) h g) ∧ (x1_6 = 0 → j_X11_findTaking_16 Q x1_6 (0 : Int32) h g))))
set_option maxHeartbeats 8000000 in
set_option maxRecDepth 100000 in
theorem m_X11_findTaking (l : Launch) (D : va_G) (cy : Nat → ClassId) (ad : Nat → Nat) (h : HI) (g : HL) (sz : Nat)  (Q : Int32 → HI → HL → Prop) (HW : w_X11_findTaking h g Q) : Met l yX11_findTaking (wa yX11_findTaking cX11_findTaking 6 (some .int)) ({ frames := 1, cells := 0, slots := 0, locals := 27 }) (va_Pc [.ref (ad 135)] (gI D cy ad h g sz)) (va_Qi (fun (r : Int32) (u : HI × HL) => Q r u.1 u.2) (gB D cy ad sz) (gA ad sz)) 0 0 (gA ad sz) := by
  refine Met.ofW (cc := cX11_findTaking) (maxL := 6) (ret := (some .int)) (by decide) rfl ?_
  intro p e s m args below meth c s₁ B hml hv
  obtain ⟨hav, hsz, hP, hK, hD0, hNw⟩ := hv
  have hx := B.exec
  have hb := B.bytes
  have hr := B.returns
  have hts := atoms_spec (ws := (wa yX11_findTaking cX11_findTaking 6 (some .int))) B.pre
  have hw := wa_hw hts
  have hown : s.vm.findClass RX11 = some m.cls := findClass_of_methodNamed B.named
  have hlocks := B.notSynchronized
  subst hsz
  have hG : gG D cy ad (gA ad s.heap.size) s.heap h g s.heap [] := ⟨hP, gA_self hD0, va_S.rf⟩
  clear hP hD0
  have lk7 := hw (.fieldLink RX11 7 "OldWorksModel" "st" "[I") (wm5 27 rfl rfl)
  have lk36 := hw (.fieldLink RX11 36 "OldWorksModel" "gets" "[I") (wm5 48 rfl rfl)
  have lk39 := hw (.fieldLink RX11 39 "OldWorksModel" "bestGets" "[I") (wm5 49 rfl rfl)
  rw [show (headSpec (wa yX11_findTaking cX11_findTaking 6 (some .int)) ({ frames := 1, cells := 0, slots := 0, locals := 27 } : Room)).room = ({ frames := 1, cells := 0, slots := 0, locals := 27 } : Room) from rfl]
  have hl := lv_entry ([.ref (ad 135)]) (n := 6) (Nat.le_of_ble_eq_true rfl)
  rw [show entryFrame m args 6 = entryFrame m ([.ref (ad 135)] : List Value).toArray 6 from by rw [hav], lg_entry_eq]
  generalize (lg_sl ([.ref (ad 135)]) ++ List.replicate (6 - (lg_sl ([.ref (ad 135)])).length) Slot.unset).toArray = ls at hl ⊢
  have hl : lv_has ls 6 [(0, .ref (ad 135))] := hl
  have B153 : ∀ (K35 : Int32 → Int32 → Int32 → HI → HL → Prop) (hK35 : ∀ (x1 : Int32) (x2 : Int32) (x3 : Int32) (h : HI) (g : HL) (H : Heap) (locs : List Loc) (ls : Array Slot), K35 x1 x2 x3 h g → gG D cy ad (gA ad s.heap.size) s.heap h g H locs → lv_has ls 6 [(0, .ref (ad 135)), (1, .int x1), (2, .int x2), (3, .int x3)] → W p l e ({ frames := 1, cells := 0, slots := 0, locals := 27 } : Room) s m args below meth c H locs 0 0 (MQ below (va_Qi (fun (r : Int32) (u : HI × HL) => Q r u.1 u.2) (gB D cy ad s.heap.size) (gA ad s.heap.size)) args s 0 0 (gA ad s.heap.size)) (F0 m 35 ls [])) (x1 : Int32) (x2 : Int32) (x3 : Int32) (h : HI) (g : HL) (H : Heap) (locs : List Loc) (ls : Array Slot), j_X11_findTaking_153 Q K35 x1 x2 x3 h g → gG D cy ad (gA ad s.heap.size) s.heap h g H locs → lv_has ls 6 [(0, .ref (ad 135)), (1, .int x1), (2, .int x2), (3, .int x3)] → W p l e ({ frames := 1, cells := 0, slots := 0, locals := 27 } : Room) s m args below meth c H locs 0 0 (MQ below (va_Qi (fun (r : Int32) (u : HI × HL) => Q r u.1 u.2) (gB D cy ad s.heap.size) (gA ad s.heap.size)) args s 0 0 (gA ad s.heap.size)) (F0 m 153 ls []) := by
    intro K35 hK35 x1 x2 x3 h g H locs ls HW hG hl
    unfold j_X11_findTaking_153 at HW
    refine lv_goto (tgt := 35) hx hb dX11_findTaking_153 (by decide) ?_
    exact hK35 x1 x2 x3 h g _ _ _ HW hG (lv_sub hl [0, 1, 2, 3] rfl)
  have L127 : ∀ (K35 : Int32 → Int32 → Int32 → HI → HL → Prop) (hK35 : ∀ (x1 : Int32) (x2 : Int32) (x3 : Int32) (h : HI) (g : HL) (H : Heap) (locs : List Loc) (ls : Array Slot), K35 x1 x2 x3 h g → gG D cy ad (gA ad s.heap.size) s.heap h g H locs → lv_has ls 6 [(0, .ref (ad 135)), (1, .int x1), (2, .int x2), (3, .int x3)] → W p l e ({ frames := 1, cells := 0, slots := 0, locals := 27 } : Room) s m args below meth c H locs 0 0 (MQ below (va_Qi (fun (r : Int32) (u : HI × HL) => Q r u.1 u.2) (gB D cy ad s.heap.size) (gA ad s.heap.size)) args s 0 0 (gA ad s.heap.size)) (F0 m 35 ls [])) (n : Nat) (x1 : Int32) (x2 : Int32) (x3 : Int32) (x5 : Int32) (h : HI) (g : HL) (H : Heap) (locs : List Loc) (ls : Array Slot), lpN (F_X11_findTaking_127 Q K35) n (x1, x2, x3, x5, h, g) → gG D cy ad (gA ad s.heap.size) s.heap h g H locs → lv_has ls 6 [(0, .ref (ad 135)), (1, .int x1), (2, .int x2), (3, .int x3), (5, .int x5)] → W p l e ({ frames := 1, cells := 0, slots := 0, locals := 27 } : Room) s m args below meth c H locs 0 0 (MQ below (va_Qi (fun (r : Int32) (u : HI × HL) => Q r u.1 u.2) (gB D cy ad s.heap.size) (gA ad s.heap.size)) args s 0 0 (gA ad s.heap.size)) (F0 m 127 ls []) := by
    intro K35 hK35 n
    induction n with
    | zero => intro x1 x2 x3 x5 h g H locs ls HW; exact HW.elim
    | succ n ih =>
      intro x1 x2 x3 x5 h g H locs ls HW hG hl
      have HW : b_X11_findTaking_127 Q K35 (fun x1 x2 x3 x5 h g => lpN (F_X11_findTaking_127 Q K35) n (x1, x2, x3, x5, h, g)) x1 x2 x3 x5 h g := HW
      generalize hKe : (fun (x1 : Int32) (x2 : Int32) (x3 : Int32) (x5 : Int32) (h : HI) (g : HL) => lpN (F_X11_findTaking_127 Q K35) n (x1, x2, x3, x5, h, g)) = K127 at HW
      have hK127 : ∀ (x1 : Int32) (x2 : Int32) (x3 : Int32) (x5 : Int32) (h : HI) (g : HL) (H : Heap) (locs : List Loc) (ls : Array Slot), K127 x1 x2 x3 x5 h g → gG D cy ad (gA ad s.heap.size) s.heap h g H locs → lv_has ls 6 [(0, .ref (ad 135)), (1, .int x1), (2, .int x2), (3, .int x3), (5, .int x5)] → W p l e ({ frames := 1, cells := 0, slots := 0, locals := 27 } : Room) s m args below meth c H locs 0 0 (MQ below (va_Qi (fun (r : Int32) (u : HI × HL) => Q r u.1 u.2) (gB D cy ad s.heap.size) (gA ad s.heap.size)) args s 0 0 (gA ad s.heap.size)) (F0 m 127 ls []) := by subst hKe; exact ih
      clear ih
      clear hKe
      unfold b_X11_findTaking_127 at HW
      refine lv_iload hx hb dX11_findTaking_127 (lv_at hl 4 rfl) ?_
      refine lv_iload_n hx hb dX11_findTaking_129 rfl (lv_at hl 1 rfl) ?_
      refine lv_icmp_ge (tgt := 153) hx hb dX11_findTaking_130 (by decide) (fun c_130 => ?_) (fun c_130 => ?_)
      · replace HW := HW.1 c_130
        exact B153 K35 hK35 x1 x2 x3 h g _ _ _ HW hG (lv_sub hl [0, 1, 2, 3] rfl)
      · replace HW := HW.2 c_130
        refine lv_aload_n hx hb dX11_findTaking_133 rfl (lv_at hl 0 rfl) ?_
        refine g_getr hx hb hw inG11 hown hK hG gl_135 rfl gk_135 (by decide) 22 (by decide) (by rw [gm_135]; decide) (r := 145) gr_135_22 lk39 dX11_findTaking_134 ?_
        refine lv_iload hx hb dX11_findTaking_137 (lv_at hl 4 rfl) ?_
        refine lv_aload_n hx hb dX11_findTaking_139 rfl (lv_at hl 0 rfl) ?_
        refine g_getr hx hb hw inG11 hown hK hG gl_135 rfl gk_135 (by decide) 21 (by decide) (by rw [gm_135]; decide) (r := 144) gr_135_21 lk36 dX11_findTaking_140 ?_
        refine lv_iload hx hb dX11_findTaking_143 (lv_at hl 4 rfl) ?_
        refine g_iald hx hb hK hG gl_144 gk_144 gn_144 HW.1 dX11_findTaking_145 ?_
        replace HW := HW.2
        refine g_iast hx hb hK hG gl_145 gk_145 gn_145 HW.1 dX11_findTaking_146 (fun H locs hG => ?_)
        replace HW := HW.2
        obtain ⟨h_146, eh_146⟩ : ∃ y : HI, y = hu h 145 x5.toNatClampNeg (h 144 x5.toNatClampNeg) := ⟨_, rfl⟩
        rw [← eh_146] at hG
        replace HW := HW h_146 eh_146
        obtain ⟨x5_147, ex5_147⟩ : ∃ y : Int32, y = (x5 + 1) := ⟨_, rfl⟩
        replace HW := HW x5_147 ex5_147
        refine lv_iinc (v := x5_147) (lv' := [(5, .int x5_147), (0, .ref (ad 135)), (1, .int x1), (2, .int x2), (3, .int x3)]) hx hb dX11_findTaking_147 hl (k := 4) rfl (by rw [ex5_147]; rfl) (by decide) rfl (fun ls hl => ?_)
        refine lv_goto (tgt := 127) hx hb dX11_findTaking_150 (by decide) ?_
        exact hK127 x1 x2 x3 x5_147 h_146 g _ _ _ HW hG (lv_sub hl [1, 2, 3, 4, 0] rfl)
  have L35 : ∀ (n : Nat) (x1 : Int32) (x2 : Int32) (x3 : Int32) (h : HI) (g : HL) (H : Heap) (locs : List Loc) (ls : Array Slot), lpN (F_X11_findTaking_35 Q) n (x1, x2, x3, h, g) → gG D cy ad (gA ad s.heap.size) s.heap h g H locs → lv_has ls 6 [(0, .ref (ad 135)), (1, .int x1), (2, .int x2), (3, .int x3)] → W p l e ({ frames := 1, cells := 0, slots := 0, locals := 27 } : Room) s m args below meth c H locs 0 0 (MQ below (va_Qi (fun (r : Int32) (u : HI × HL) => Q r u.1 u.2) (gB D cy ad s.heap.size) (gA ad s.heap.size)) args s 0 0 (gA ad s.heap.size)) (F0 m 35 ls []) := by
    intro n
    induction n with
    | zero => intro x1 x2 x3 h g H locs ls HW; exact HW.elim
    | succ n ih =>
      intro x1 x2 x3 h g H locs ls HW hG hl
      have HW : b_X11_findTaking_35 Q (fun x1 x2 x3 h g => lpN (F_X11_findTaking_35 Q) n (x1, x2, x3, h, g)) x1 x2 x3 h g := HW
      generalize hKe : (fun (x1 : Int32) (x2 : Int32) (x3 : Int32) (h : HI) (g : HL) => lpN (F_X11_findTaking_35 Q) n (x1, x2, x3, h, g)) = K35 at HW
      have hK35 : ∀ (x1 : Int32) (x2 : Int32) (x3 : Int32) (h : HI) (g : HL) (H : Heap) (locs : List Loc) (ls : Array Slot), K35 x1 x2 x3 h g → gG D cy ad (gA ad s.heap.size) s.heap h g H locs → lv_has ls 6 [(0, .ref (ad 135)), (1, .int x1), (2, .int x2), (3, .int x3)] → W p l e ({ frames := 1, cells := 0, slots := 0, locals := 27 } : Room) s m args below meth c H locs 0 0 (MQ below (va_Qi (fun (r : Int32) (u : HI × HL) => Q r u.1 u.2) (gB D cy ad s.heap.size) (gA ad s.heap.size)) args s 0 0 (gA ad s.heap.size)) (F0 m 35 ls []) := by subst hKe; exact ih
      clear ih
      clear hKe
      unfold b_X11_findTaking_35 at HW
      refine lv_iload_n hx hb dX11_findTaking_35 rfl (lv_at hl 3 rfl) ?_
      refine lv_if_lt (tgt := 156) hx hb dX11_findTaking_36 (by decide) (fun c_36 => ?_) (fun c_36 => ?_)
      · replace HW := HW.1 c_36
        refine lv_iload_n hx hb dX11_findTaking_156 rfl (lv_at hl 2 rfl) ?_
        exact W.iret (v := x2) hx hb hr (fun t ht hW => ⟨⟨x2, (h, g), rfl, HW, g_B ht hG⟩, hG.2.2.F ht⟩) hG.2.2.2.2 dX11_findTaking_157
      · replace HW := HW.2 c_36
        refine lv_aload_n hx hb dX11_findTaking_39 rfl (lv_at hl 0 rfl) ?_
        refine g_getr hx hb hw inG11 hown hK hG gl_135 rfl gk_135 (by decide) 21 (by decide) (by rw [gm_135]; decide) (r := 144) gr_135_21 lk36 dX11_findTaking_40 ?_
        refine lv_iload_n hx hb dX11_findTaking_43 rfl (lv_at hl 3 rfl) ?_
        refine lv_dup2_11 hx hb dX11_findTaking_44 rfl rfl ?_
        refine g_iald hx hb hK hG gl_144 gk_144 gn_144 HW.1 dX11_findTaking_45 ?_
        replace HW := HW.2
        refine lv_iconst (v := 1) hx hb dX11_findTaking_46 (by decide) ?_
        refine lv_iadd hx hb dX11_findTaking_47 ?_
        refine g_iast hx hb hK hG gl_144 gk_144 gn_144 HW.1 dX11_findTaking_48 (fun H locs hG => ?_)
        replace HW := HW.2
        obtain ⟨h_48, eh_48⟩ : ∃ y : HI, y = hu h 144 x3.toNatClampNeg ((h 144 x3.toNatClampNeg) + (1 : Int32)) := ⟨_, rfl⟩
        rw [← eh_48] at hG
        replace HW := HW h_48 eh_48
        refine lv_aload_n hx hb dX11_findTaking_49 rfl (lv_at hl 0 rfl) ?_
        refine g_getr hx hb hw inG11 hown hK hG gl_135 rfl gk_135 (by decide) 21 (by decide) (by rw [gm_135]; decide) (r := 144) gr_135_21 lk36 dX11_findTaking_50 ?_
        refine lv_iload_n hx hb dX11_findTaking_53 rfl (lv_at hl 3 rfl) ?_
        refine g_iald hx hb hK hG gl_144 gk_144 gn_144 HW.1 dX11_findTaking_54 ?_
        replace HW := HW.2
        refine lv_aload_n hx hb dX11_findTaking_55 rfl (lv_at hl 0 rfl) ?_
        refine g_getr hx hb hw inG11 hown hK hG gl_135 rfl gk_135 (by decide) 0 (by decide) (by rw [gm_135]; decide) (r := 136) gr_135_0 lk7 dX11_findTaking_56 ?_
        refine lv_iconst (v := 5) hx hb dX11_findTaking_59 (by decide) ?_
        refine g_iald hx hb hK hG gl_136 gk_136 gn_136 HW.1 dX11_findTaking_60 ?_
        replace HW := HW.2
        refine lv_icmp_lt (tgt := 70) hx hb dX11_findTaking_61 (by decide) (fun c_61 => ?_) (fun c_61 => ?_)
        · replace HW := HW.1 c_61
          refine lv_aload_n hx hb dX11_findTaking_70 rfl (lv_at hl 0 rfl) ?_
          refine lv_iload_n hx hb dX11_findTaking_71 rfl (lv_at hl 3 rfl) ?_
          refine lv_aload_n hx hb dX11_findTaking_72 rfl (lv_at hl 0 rfl) ?_
          refine lv_iload_n hx hb dX11_findTaking_73 rfl (lv_at hl 3 rfl) ?_
          obtain ⟨P_74, HC_74, HW⟩ := HW
          refine g_calli (g_runV (As := [.int x3]) (rest := [.int x3, .ref (ad 135)]) ⟨hx, hb, hml, hown, hts⟩ (m_X11_givenTo l D cy ad h_48 g H.size x3 P_74 HC_74) (cwV 1 hts (gd_V (wm6 101 rfl rfl) (wm6 103 rfl rfl) (wmp5 (q := (yX11_givenTo, 26)) 2 rfl) (wm1 13 rfl rfl) (wm6 104 rfl rfl)) rfl rfl rfl (by decide +kernel) ⟨Nat.le_of_ble_eq_true rfl, Nat.le_of_ble_eq_true rfl⟩) hK hNw hG gl_135 rfl gk_135 (by decide) rfl rfl hl.1 rfl (lv_room (Nat.le_of_ble_eq_true rfl)) dX11_findTaking_74 ⟨Nat.zero_le _, Nat.zero_le _⟩) hG (fun r_74 h_74 g_74 H locs hq hG => ?_)
          replace HW := HW r_74 h_74 g_74 hq
          obtain ⟨P_77, HC_77, HW⟩ := HW
          refine g_callz (g_runV (As := [.int x3, .int r_74]) (rest := []) ⟨hx, hb, hml, hown, hts⟩ (m_X11_mayGet l D cy ad h_74 g_74 H.size x3 r_74 P_77 HC_77) (cwV 2 hts (gd_V (wm6 105 rfl rfl) (wm6 107 rfl rfl) (wmp5 (q := (yX11_mayGet, 26)) 3 rfl) (wm1 13 rfl rfl) (wm6 108 rfl rfl)) rfl rfl rfl (by decide +kernel) ⟨Nat.le_of_ble_eq_true rfl, Nat.le_of_ble_eq_true rfl⟩) hK hNw hG gl_135 rfl gk_135 (by decide) rfl rfl hl.1 rfl (lv_room (Nat.le_of_ble_eq_true rfl)) dX11_findTaking_77 ⟨Nat.zero_le _, Nat.zero_le _⟩) hG (fun r_77 h_77 g_77 H locs hz hq hG => ?_)
          replace HW := HW r_77 h_77 g_77 hz hq
          refine lv_if_eq (tgt := 35) hx hb dX11_findTaking_80 (by decide) (fun c_80 => ?_) (fun c_80 => ?_)
          · replace HW := HW.1 c_80
            exact hK35 x1 x2 x3 h_77 g_77 _ _ _ HW hG (lv_sub hl [0, 1, 2, 3] rfl)
          · replace HW := HW.2 c_80
            refine lv_iload_n hx hb dX11_findTaking_83 rfl (lv_at hl 3 rfl) ?_
            refine lv_iconst (v := 1) hx hb dX11_findTaking_84 (by decide) ?_
            refine lv_iadd hx hb dX11_findTaking_85 ?_
            refine lv_iload_n hx hb dX11_findTaking_86 rfl (lv_at hl 1 rfl) ?_
            refine lv_icmp_ge (tgt := 104) hx hb dX11_findTaking_87 (by decide) (fun c_87 => ?_) (fun c_87 => ?_)
            · replace HW := HW.1 c_87
              refine lv_aload_n hx hb dX11_findTaking_104 rfl (lv_at hl 0 rfl) ?_
              refine lv_aload_n hx hb dX11_findTaking_105 rfl (lv_at hl 0 rfl) ?_
              refine lv_iload_n hx hb dX11_findTaking_106 rfl (lv_at hl 1 rfl) ?_
              obtain ⟨P_107, HC_107, HW⟩ := HW
              refine g_calli (g_runV (As := [.int x1]) (rest := [.ref (ad 135)]) ⟨hx, hb, hml, hown, hts⟩ (m_X11_givenTo l D cy ad h_77 g_77 H.size x1 P_107 HC_107) (cwV 1 hts (gd_V (wm6 101 rfl rfl) (wm6 103 rfl rfl) (wmp5 (q := (yX11_givenTo, 26)) 2 rfl) (wm1 13 rfl rfl) (wm6 104 rfl rfl)) rfl rfl rfl (by decide +kernel) ⟨Nat.le_of_ble_eq_true rfl, Nat.le_of_ble_eq_true rfl⟩) hK hNw hG gl_135 rfl gk_135 (by decide) rfl rfl hl.1 rfl (lv_room (Nat.le_of_ble_eq_true rfl)) dX11_findTaking_107 ⟨Nat.zero_le _, Nat.zero_le _⟩) hG (fun r_107 h_107 g_107 H locs hq hG => ?_)
              replace HW := HW r_107 h_107 g_107 hq
              obtain ⟨P_110, HC_110, HW⟩ := HW
              refine g_calli (g_runV (As := [.int r_107]) (rest := []) ⟨hx, hb, hml, hown, hts⟩ (m_X11_yearsOf l D cy ad h_107 g_107 H.size r_107 P_110 HC_110) (cwV 1 hts (gd_V (wm6 109 rfl rfl) (wm6 111 rfl rfl) (wmp5 (q := (yX11_yearsOf, 26)) 4 rfl) (wm1 13 rfl rfl) (wm6 112 rfl rfl)) rfl rfl rfl (by decide +kernel) ⟨Nat.le_of_ble_eq_true rfl, Nat.le_of_ble_eq_true rfl⟩) hK hNw hG gl_135 rfl gk_135 (by decide) rfl rfl hl.1 rfl (lv_room (Nat.le_of_ble_eq_true rfl)) dX11_findTaking_110 ⟨Nat.zero_le _, Nat.zero_le _⟩) hG (fun r_110 h_110 g_110 H locs hq hG => ?_)
              replace HW := HW r_110 h_110 g_110 hq
              refine lv_istore (lv' := [(4, .int r_110), (0, .ref (ad 135)), (1, .int x1), (2, .int x2), (3, .int x3)]) hx hb dX11_findTaking_113 hl (by decide) rfl (fun ls hl => ?_)
              refine lv_iload hx hb dX11_findTaking_115 (lv_at hl 0 rfl) ?_
              refine lv_iload_n hx hb dX11_findTaking_117 rfl (lv_at hl 3 rfl) ?_
              refine lv_icmp_le (tgt := 153) hx hb dX11_findTaking_118 (by decide) (fun c_118 => ?_) (fun c_118 => ?_)
              · replace HW := HW.1 c_118
                exact B153 K35 hK35 x1 x2 x3 h_110 g_110 _ _ _ HW hG (lv_sub hl [1, 2, 3, 4] rfl)
              · replace HW := HW.2 c_118
                refine lv_iload hx hb dX11_findTaking_121 (lv_at hl 0 rfl) ?_
                refine lv_istore_n (lv' := [(2, .int r_110), (4, .int r_110), (0, .ref (ad 135)), (1, .int x1), (3, .int x3)]) hx hb dX11_findTaking_123 rfl hl (by decide) rfl (fun ls hl => ?_)
                refine lv_iconst (v := 0) hx hb dX11_findTaking_124 (by decide) ?_
                refine lv_istore (lv' := [(5, .int (0 : Int32)), (2, .int r_110), (4, .int r_110), (0, .ref (ad 135)), (1, .int x1), (3, .int x3)]) hx hb dX11_findTaking_125 hl (by decide) rfl (fun ls hl => ?_)
                obtain ⟨n_127, HW⟩ := HW
                exact L127 K35 hK35 n_127 x1 r_110 x3 (0 : Int32) h_110 g_110 _ _ _ HW hG (lv_sub hl [3, 4, 1, 5, 0] rfl)
            · replace HW := HW.2 c_87
              obtain ⟨x3_90, ex3_90⟩ : ∃ y : Int32, y = (x3 + 1) := ⟨_, rfl⟩
              replace HW := HW x3_90 ex3_90
              refine lv_iinc (v := x3_90) (lv' := [(3, .int x3_90), (0, .ref (ad 135)), (1, .int x1), (2, .int x2)]) hx hb dX11_findTaking_90 hl (k := 3) rfl (by rw [ex3_90]; rfl) (by decide) rfl (fun ls hl => ?_)
              refine lv_aload_n hx hb dX11_findTaking_93 rfl (lv_at hl 1 rfl) ?_
              refine g_getr hx hb hw inG11 hown hK hG gl_135 rfl gk_135 (by decide) 21 (by decide) (by rw [gm_135]; decide) (r := 144) gr_135_21 lk36 dX11_findTaking_94 ?_
              refine lv_iload_n hx hb dX11_findTaking_97 rfl (lv_at hl 0 rfl) ?_
              refine lv_bipush (v := (-2)) hx hb dX11_findTaking_98 (by decide) ?_
              refine g_iast hx hb hK hG gl_144 gk_144 gn_144 HW.1 dX11_findTaking_100 (fun H locs hG => ?_)
              replace HW := HW.2
              obtain ⟨h_100, eh_100⟩ : ∃ y : HI, y = hu h_77 144 x3_90.toNatClampNeg (-2 : Int32) := ⟨_, rfl⟩
              rw [← eh_100] at hG
              replace HW := HW h_100 eh_100
              refine lv_goto (tgt := 35) hx hb dX11_findTaking_101 (by decide) ?_
              exact hK35 x1 x2 x3_90 h_100 g_77 _ _ _ HW hG (lv_sub hl [1, 2, 3, 0] rfl)
        · replace HW := HW.2 c_61
          obtain ⟨x3_64, ex3_64⟩ : ∃ y : Int32, y = (x3 + (-1)) := ⟨_, rfl⟩
          replace HW := HW x3_64 ex3_64
          refine lv_iinc (v := x3_64) (lv' := [(3, .int x3_64), (0, .ref (ad 135)), (1, .int x1), (2, .int x2)]) hx hb dX11_findTaking_64 hl (k := 3) rfl (by rw [ex3_64]; rfl) (by decide) rfl (fun ls hl => ?_)
          refine lv_goto (tgt := 35) hx hb dX11_findTaking_67 (by decide) ?_
          exact hK35 x1 x2 x3_64 h_48 g _ _ _ HW hG (lv_sub hl [1, 2, 3, 0] rfl)
  have B26 : ∀ (x1 : Int32) (x2 : Int32) (s0 : Int32) (h : HI) (g : HL) (H : Heap) (locs : List Loc) (ls : Array Slot), j_X11_findTaking_26 Q x1 x2 s0 h g → gG D cy ad (gA ad s.heap.size) s.heap h g H locs → lv_has ls 6 [(0, .ref (ad 135)), (1, .int x1), (2, .int x2)] → W p l e ({ frames := 1, cells := 0, slots := 0, locals := 27 } : Room) s m args below meth c H locs 0 0 (MQ below (va_Qi (fun (r : Int32) (u : HI × HL) => Q r u.1 u.2) (gB D cy ad s.heap.size) (gA ad s.heap.size)) args s 0 0 (gA ad s.heap.size)) (F0 m 26 ls [.int s0]) := by
    intro x1 x2 s0 h g H locs ls HW hG hl
    unfold j_X11_findTaking_26 at HW
    refine lv_istore_n (lv' := [(3, .int s0), (0, .ref (ad 135)), (1, .int x1), (2, .int x2)]) hx hb dX11_findTaking_26 rfl hl (by decide) rfl (fun ls hl => ?_)
    refine lv_aload_n hx hb dX11_findTaking_27 rfl (lv_at hl 1 rfl) ?_
    refine g_getr hx hb hw inG11 hown hK hG gl_135 rfl gk_135 (by decide) 21 (by decide) (by rw [gm_135]; decide) (r := 144) gr_135_21 lk36 dX11_findTaking_28 ?_
    refine lv_iconst (v := 0) hx hb dX11_findTaking_31 (by decide) ?_
    refine lv_bipush (v := (-2)) hx hb dX11_findTaking_32 (by decide) ?_
    refine g_iast hx hb hK hG gl_144 gk_144 gn_144 HW.1 dX11_findTaking_34 (fun H locs hG => ?_)
    replace HW := HW.2
    obtain ⟨h_34, eh_34⟩ : ∃ y : HI, y = hu h 144 (0 : Int32).toNatClampNeg (-2 : Int32) := ⟨_, rfl⟩
    rw [← eh_34] at hG
    replace HW := HW h_34 eh_34
    obtain ⟨n_35, HW⟩ := HW
    exact L35 n_35 x1 x2 s0 h_34 g _ _ _ HW hG (lv_sub hl [1, 2, 3, 0] rfl)
  have B16 : ∀ (x1 : Int32) (s0 : Int32) (h : HI) (g : HL) (H : Heap) (locs : List Loc) (ls : Array Slot), j_X11_findTaking_16 Q x1 s0 h g → gG D cy ad (gA ad s.heap.size) s.heap h g H locs → lv_has ls 6 [(0, .ref (ad 135)), (1, .int x1)] → W p l e ({ frames := 1, cells := 0, slots := 0, locals := 27 } : Room) s m args below meth c H locs 0 0 (MQ below (va_Qi (fun (r : Int32) (u : HI × HL) => Q r u.1 u.2) (gB D cy ad s.heap.size) (gA ad s.heap.size)) args s 0 0 (gA ad s.heap.size)) (F0 m 16 ls [.int s0]) := by
    intro x1 s0 h g H locs ls HW hG hl
    unfold j_X11_findTaking_16 at HW
    refine lv_istore_n (lv' := [(2, .int s0), (0, .ref (ad 135)), (1, .int x1)]) hx hb dX11_findTaking_16 rfl hl (by decide) rfl (fun ls hl => ?_)
    refine lv_iload_n hx hb dX11_findTaking_17 rfl (lv_at hl 2 rfl) ?_
    refine lv_if_ne (tgt := 25) hx hb dX11_findTaking_18 (by decide) (fun c_18 => ?_) (fun c_18 => ?_)
    · replace HW := HW.1 c_18
      refine lv_iconst (v := 0) hx hb dX11_findTaking_25 (by decide) ?_
      exact B26 x1 s0 (0 : Int32) h g _ _ _ HW hG (lv_sub hl [1, 2, 0] rfl)
    · replace HW := HW.2 c_18
      refine lv_iconst (v := (-1)) hx hb dX11_findTaking_21 (by decide) ?_
      refine lv_goto (tgt := 26) hx hb dX11_findTaking_22 (by decide) ?_
      exact B26 x1 s0 (-1 : Int32) h g _ _ _ HW hG (lv_sub hl [1, 2, 0] rfl)
  have E0 : ∀ (H : Heap) (locs : List Loc) (ls : Array Slot), gG D cy ad (gA ad s.heap.size) s.heap h g H locs → lv_has ls 6 [(0, .ref (ad 135))] → W p l e ({ frames := 1, cells := 0, slots := 0, locals := 27 } : Room) s m args below meth c H locs 0 0 (MQ below (va_Qi (fun (r : Int32) (u : HI × HL) => Q r u.1 u.2) (gB D cy ad s.heap.size) (gA ad s.heap.size)) args s 0 0 (gA ad s.heap.size)) (F0 m 0 ls []) := by
    intro H locs ls hG hl
    unfold w_X11_findTaking at HW
    refine lv_aload_n hx hb dX11_findTaking_0 rfl (lv_at hl 0 rfl) ?_
    refine g_getr hx hb hw inG11 hown hK hG gl_135 rfl gk_135 (by decide) 0 (by decide) (by rw [gm_135]; decide) (r := 136) gr_135_0 lk7 dX11_findTaking_1 ?_
    refine lv_iconst (v := 4) hx hb dX11_findTaking_4 (by decide) ?_
    refine g_iald hx hb hK hG gl_136 gk_136 gn_136 HW.1 dX11_findTaking_5 ?_
    replace HW := HW.2
    refine lv_topi (fun x1_6 ex1_6 => ?_)
    replace HW := HW x1_6 ex1_6
    refine lv_istore_n (lv' := [(1, .int x1_6), (0, .ref (ad 135))]) hx hb dX11_findTaking_6 rfl hl (by decide) rfl (fun ls hl => ?_)
    refine lv_iload_n hx hb dX11_findTaking_7 rfl (lv_at hl 0 rfl) ?_
    refine lv_if_ne (tgt := 15) hx hb dX11_findTaking_8 (by decide) (fun c_8 => ?_) (fun c_8 => ?_)
    · replace HW := HW.1 c_8
      refine lv_iconst (v := (-1)) hx hb dX11_findTaking_15 (by decide) ?_
      exact B16 x1_6 (-1 : Int32) h g _ _ _ HW hG (lv_sub hl [1, 0] rfl)
    · replace HW := HW.2 c_8
      refine lv_iconst (v := 0) hx hb dX11_findTaking_11 (by decide) ?_
      refine lv_goto (tgt := 16) hx hb dX11_findTaking_12 (by decide) ?_
      exact B16 x1_6 (0 : Int32) h g _ _ _ HW hG (lv_sub hl [1, 0] rfl)
  exact E0 _ _ _ hG hl

def j_X11_taking_17 (Q : Int32 → HI → HL → Prop) (x1 : Int32) (h : HI) (g : HL) : Prop :=
  (∃ P_18 : Int32 → HI → HL → Prop, w_X11_findTaking h g P_18 ∧ ∀ (r_18 : Int32) (h_18 : HI) (g_18 : HL), P_18 r_18 h_18 g_18 → ((¬ x1 = (-1 : Int32) → (vp_in x1 6 ∧ Q (h_18 145 x1.toNatClampNeg) h_18 g_18)) ∧ (x1 = (-1 : Int32) → Q r_18 h_18 g_18)))
def w_X11_taking (x1 : Int32) (h : HI) (g : HL) (Q : Int32 → HI → HL → Prop) : Prop :=
  ((x1 = (-1 : Int32) → j_X11_taking_17 Q x1 h g) ∧ (¬ x1 = (-1 : Int32) → (∃ P_8 : Int32 → HI → HL → Prop, w_X11_is (4 : Int32) x1 h g P_8 ∧ ∀ (r_8 : Int32) (h_8 : HI) (g_8 : HL), zb r_8 → P_8 r_8 h_8 g_8 → ((¬ r_8 = 0 → j_X11_taking_17 Q x1 h_8 g_8) ∧ (r_8 = 0 → Q (-10 : Int32) h_8 g_8)))))
set_option maxHeartbeats 8000000 in
set_option maxRecDepth 100000 in
theorem m_X11_taking (l : Launch) (D : va_G) (cy : Nat → ClassId) (ad : Nat → Nat) (h : HI) (g : HL) (sz : Nat) (x1 : Int32) (Q : Int32 → HI → HL → Prop) (HW : w_X11_taking x1 h g Q) : Met l yX11_taking (wa yX11_taking cX11_taking 3 (some .int)) ({ frames := 2, cells := 0, slots := 0, locals := 52 }) (va_Pc [.ref (ad 135), .int x1] (gI D cy ad h g sz)) (va_Qi (fun (r : Int32) (u : HI × HL) => Q r u.1 u.2) (gB D cy ad sz) (gA ad sz)) 0 0 (gA ad sz) := by
  refine Met.ofW (cc := cX11_taking) (maxL := 3) (ret := (some .int)) (by decide) rfl ?_
  intro p e s m args below meth c s₁ B hml hv
  obtain ⟨hav, hsz, hP, hK, hD0, hNw⟩ := hv
  have hx := B.exec
  have hb := B.bytes
  have hr := B.returns
  have hts := atoms_spec (ws := (wa yX11_taking cX11_taking 3 (some .int))) B.pre
  have hw := wa_hw hts
  have hown : s.vm.findClass RX11 = some m.cls := findClass_of_methodNamed B.named
  have hlocks := B.notSynchronized
  subst hsz
  have hG : gG D cy ad (gA ad s.heap.size) s.heap h g s.heap [] := ⟨hP, gA_self hD0, va_S.rf⟩
  clear hP hD0
  have lk39 := hw (.fieldLink RX11 39 "OldWorksModel" "bestGets" "[I") (wm5 49 rfl rfl)
  rw [show (headSpec (wa yX11_taking cX11_taking 3 (some .int)) ({ frames := 2, cells := 0, slots := 0, locals := 52 } : Room)).room = ({ frames := 2, cells := 0, slots := 0, locals := 52 } : Room) from rfl]
  have hl := lv_entry ([.ref (ad 135), .int x1]) (n := 3) (Nat.le_of_ble_eq_true rfl)
  rw [show entryFrame m args 3 = entryFrame m ([.ref (ad 135), .int x1] : List Value).toArray 3 from by rw [hav], lg_entry_eq]
  generalize (lg_sl ([.ref (ad 135), .int x1]) ++ List.replicate (3 - (lg_sl ([.ref (ad 135), .int x1])).length) Slot.unset).toArray = ls at hl ⊢
  have hl : lv_has ls 3 [(0, .ref (ad 135)), (1, .int x1)] := hl
  have B17 : ∀ (x1 : Int32) (h : HI) (g : HL) (H : Heap) (locs : List Loc) (ls : Array Slot), j_X11_taking_17 Q x1 h g → gG D cy ad (gA ad s.heap.size) s.heap h g H locs → lv_has ls 3 [(0, .ref (ad 135)), (1, .int x1)] → W p l e ({ frames := 2, cells := 0, slots := 0, locals := 52 } : Room) s m args below meth c H locs 0 0 (MQ below (va_Qi (fun (r : Int32) (u : HI × HL) => Q r u.1 u.2) (gB D cy ad s.heap.size) (gA ad s.heap.size)) args s 0 0 (gA ad s.heap.size)) (F0 m 17 ls []) := by
    intro x1 h g H locs ls HW hG hl
    unfold j_X11_taking_17 at HW
    refine lv_aload_n hx hb dX11_taking_17 rfl (lv_at hl 0 rfl) ?_
    obtain ⟨P_18, HC_18, HW⟩ := HW
    refine g_calli (g_runV (As := []) (rest := []) ⟨hx, hb, hml, hown, hts⟩ (m_X11_findTaking l D cy ad h g H.size  P_18 HC_18) (cwV 0 hts (gd_V (wm6 97 rfl rfl) (wm6 99 rfl rfl) (wmp5 (q := (yX11_findTaking, 26)) 1 rfl) (wm1 13 rfl rfl) (wm6 100 rfl rfl)) rfl rfl rfl (by decide +kernel) ⟨Nat.le_of_ble_eq_true rfl, Nat.le_of_ble_eq_true rfl⟩) hK hNw hG gl_135 rfl gk_135 (by decide) rfl rfl hl.1 rfl (lv_room (Nat.le_of_ble_eq_true rfl)) dX11_taking_18 ⟨Nat.zero_le _, Nat.zero_le _⟩) hG (fun r_18 h_18 g_18 H locs hq hG => ?_)
    replace HW := HW r_18 h_18 g_18 hq
    refine lv_istore_n (lv' := [(2, .int r_18), (0, .ref (ad 135)), (1, .int x1)]) hx hb dX11_taking_21 rfl hl (by decide) rfl (fun ls hl => ?_)
    refine lv_iload_n hx hb dX11_taking_22 rfl (lv_at hl 2 rfl) ?_
    refine lv_iconst (v := (-1)) hx hb dX11_taking_23 (by decide) ?_
    refine lv_icmp_ne (tgt := 31) hx hb dX11_taking_24 (by decide) (fun c_24 => ?_) (fun c_24 => ?_)
    · replace HW := HW.1 c_24
      refine lv_aload_n hx hb dX11_taking_31 rfl (lv_at hl 1 rfl) ?_
      refine g_getr hx hb hw inG11 hown hK hG gl_135 rfl gk_135 (by decide) 22 (by decide) (by rw [gm_135]; decide) (r := 145) gr_135_22 lk39 dX11_taking_32 ?_
      refine lv_iload_n hx hb dX11_taking_35 rfl (lv_at hl 2 rfl) ?_
      refine g_iald hx hb hK hG gl_145 gk_145 gn_145 HW.1 dX11_taking_36 ?_
      replace HW := HW.2
      exact W.iret (v := (h_18 145 x1.toNatClampNeg)) hx hb hr (fun t ht hW => ⟨⟨(h_18 145 x1.toNatClampNeg), (h_18, g_18), rfl, HW, g_B ht hG⟩, hG.2.2.F ht⟩) hG.2.2.2.2 dX11_taking_37
    · replace HW := HW.2 c_24
      refine lv_iload_n hx hb dX11_taking_27 rfl (lv_at hl 0 rfl) ?_
      refine lv_goto (tgt := 37) hx hb dX11_taking_28 (by decide) ?_
      exact W.iret (v := r_18) hx hb hr (fun t ht hW => ⟨⟨r_18, (h_18, g_18), rfl, HW, g_B ht hG⟩, hG.2.2.F ht⟩) hG.2.2.2.2 dX11_taking_37
  have E0 : ∀ (H : Heap) (locs : List Loc) (ls : Array Slot), gG D cy ad (gA ad s.heap.size) s.heap h g H locs → lv_has ls 3 [(0, .ref (ad 135)), (1, .int x1)] → W p l e ({ frames := 2, cells := 0, slots := 0, locals := 52 } : Room) s m args below meth c H locs 0 0 (MQ below (va_Qi (fun (r : Int32) (u : HI × HL) => Q r u.1 u.2) (gB D cy ad s.heap.size) (gA ad s.heap.size)) args s 0 0 (gA ad s.heap.size)) (F0 m 0 ls []) := by
    intro H locs ls hG hl
    unfold w_X11_taking at HW
    refine lv_iload_n hx hb dX11_taking_0 rfl (lv_at hl 1 rfl) ?_
    refine lv_iconst (v := (-1)) hx hb dX11_taking_1 (by decide) ?_
    refine lv_icmp_eq (tgt := 17) hx hb dX11_taking_2 (by decide) (fun c_2 => ?_) (fun c_2 => ?_)
    · replace HW := HW.1 c_2
      exact B17 x1 h g _ _ _ HW hG (lv_sub hl [0, 1] rfl)
    · replace HW := HW.2 c_2
      refine lv_aload_n hx hb dX11_taking_5 rfl (lv_at hl 0 rfl) ?_
      refine lv_iconst (v := 4) hx hb dX11_taking_6 (by decide) ?_
      refine lv_iload_n hx hb dX11_taking_7 rfl (lv_at hl 1 rfl) ?_
      obtain ⟨P_8, HC_8, HW⟩ := HW
      refine g_callz (g_runV (As := [.int (4 : Int32), .int x1]) (rest := []) ⟨hx, hb, hml, hown, hts⟩ (m_X11_is l D cy ad h g H.size (4 : Int32) x1 P_8 HC_8) (cwV 2 hts (gd_V (wm5 184 rfl rfl) (wm5 186 rfl rfl) (wmp3 (q := (yX11_is, 26)) 14 rfl) (wm1 13 rfl rfl) (wm5 187 rfl rfl)) rfl rfl rfl (by decide +kernel) ⟨Nat.le_of_ble_eq_true rfl, Nat.le_of_ble_eq_true rfl⟩) hK hNw hG gl_135 rfl gk_135 (by decide) rfl rfl hl.1 rfl (lv_room (Nat.le_of_ble_eq_true rfl)) dX11_taking_8 ⟨Nat.zero_le _, Nat.zero_le _⟩) hG (fun r_8 h_8 g_8 H locs hz hq hG => ?_)
      replace HW := HW r_8 h_8 g_8 hz hq
      refine lv_if_ne (tgt := 17) hx hb dX11_taking_11 (by decide) (fun c_11 => ?_) (fun c_11 => ?_)
      · replace HW := HW.1 c_11
        exact B17 x1 h_8 g_8 _ _ _ HW hG (lv_sub hl [0, 1] rfl)
      · replace HW := HW.2 c_11
        refine lv_bipush (v := (-10)) hx hb dX11_taking_14 (by decide) ?_
        exact W.iret (v := (-10 : Int32)) hx hb hr (fun t ht hW => ⟨⟨(-10 : Int32), (h_8, g_8), rfl, HW, g_B ht hG⟩, hG.2.2.F ht⟩) hG.2.2.2.2 dX11_taking_16
  exact E0 _ _ _ hG hl
end
section
-- 03.w20
def j_X11_sets_24 (Q : HI → HL → Prop) (s1 : Int32) (s2 : Int32) (h : HI) (g : HL) : Prop :=
  (vp_in s1 5 ∧ ∀ h_24 : HI, h_24 = hu h 147 s1.toNatClampNeg s2 → Q h_24 g)
def w_X11_sets (x1 : Int32) (x2 : Int32) (h : HI) (g : HL) (Q : HI → HL → Prop) : Prop :=
  (vp_in ((80 : Int32) * x1) 400 ∧ ∀ h_9 : HI, h_9 = hu h 146 ((80 : Int32) * x1).toNatClampNeg x2 → ((¬ x2 = 0 → j_X11_sets_24 Q x1 (1 : Int32) h_9 g) ∧ (x2 = 0 → j_X11_sets_24 Q x1 (0 : Int32) h_9 g)))
set_option maxHeartbeats 8000000 in
set_option maxRecDepth 100000 in
theorem m_X11_sets (l : Launch) (D : va_G) (cy : Nat → ClassId) (ad : Nat → Nat) (h : HI) (g : HL) (sz : Nat) (x1 : Int32) (x2 : Int32) (Q : HI → HL → Prop) (HW : w_X11_sets x1 x2 h g Q) : Met l yX11_sets (wa yX11_sets cX11_sets 3 none) ({ frames := 0, cells := 0, slots := 0, locals := 0 }) (va_Pc [.ref (ad 135), .int x1, .int x2] (gI D cy ad h g sz)) (va_Qv (fun (u : HI × HL) => Q u.1 u.2) (gB D cy ad sz) (gA ad sz)) 0 0 (gA ad sz) := by
  refine Met.ofW (cc := cX11_sets) (maxL := 3) (ret := none) (by decide) rfl ?_
  intro p e s m args below meth c s₁ B hml hv
  obtain ⟨hav, hsz, hP, hK, hD0, hNw⟩ := hv
  have hx := B.exec
  have hb := B.bytes
  have hr := B.returns
  have hts := atoms_spec (ws := (wa yX11_sets cX11_sets 3 none)) B.pre
  have hw := wa_hw hts
  have hown : s.vm.findClass RX11 = some m.cls := findClass_of_methodNamed B.named
  have hlocks := B.notSynchronized
  subst hsz
  have hG : gG D cy ad (gA ad s.heap.size) s.heap h g s.heap [] := ⟨hP, gA_self hD0, va_S.rf⟩
  clear hP hD0
  have lk42 := hw (.fieldLink RX11 42 "OldWorksModel" "limbs" "[I") (wm5 50 rfl rfl)
  have lk45 := hw (.fieldLink RX11 45 "OldWorksModel" "wide" "[I") (wm5 51 rfl rfl)
  rw [show (headSpec (wa yX11_sets cX11_sets 3 none) ({ frames := 0, cells := 0, slots := 0, locals := 0 } : Room)).room = ({ frames := 0, cells := 0, slots := 0, locals := 0 } : Room) from rfl]
  have hl := lv_entry ([.ref (ad 135), .int x1, .int x2]) (n := 3) (Nat.le_of_ble_eq_true rfl)
  rw [show entryFrame m args 3 = entryFrame m ([.ref (ad 135), .int x1, .int x2] : List Value).toArray 3 from by rw [hav], lg_entry_eq]
  generalize (lg_sl ([.ref (ad 135), .int x1, .int x2]) ++ List.replicate (3 - (lg_sl ([.ref (ad 135), .int x1, .int x2])).length) Slot.unset).toArray = ls at hl ⊢
  have hl : lv_has ls 3 [(0, .ref (ad 135)), (1, .int x1), (2, .int x2)] := hl
  have B24 : ∀ (s1 : Int32) (s2 : Int32) (h : HI) (g : HL) (H : Heap) (locs : List Loc) (ls : Array Slot), j_X11_sets_24 Q s1 s2 h g → gG D cy ad (gA ad s.heap.size) s.heap h g H locs → lv_has ls 3 [] → W p l e ({ frames := 0, cells := 0, slots := 0, locals := 0 } : Room) s m args below meth c H locs 0 0 (MQ below (va_Qv (fun (u : HI × HL) => Q u.1 u.2) (gB D cy ad s.heap.size) (gA ad s.heap.size)) args s 0 0 (gA ad s.heap.size)) (F0 m 24 ls [.int s2, .int s1, .ref (ad 147)]) := by
    intro s1 s2 h g H locs ls HW hG hl
    unfold j_X11_sets_24 at HW
    refine g_iast hx hb hK hG gl_147 gk_147 gn_147 HW.1 dX11_sets_24 (fun H locs hG => ?_)
    replace HW := HW.2
    obtain ⟨h_24, eh_24⟩ : ∃ y : HI, y = hu h 147 s1.toNatClampNeg s2 := ⟨_, rfl⟩
    rw [← eh_24] at hG
    replace HW := HW h_24 eh_24
    exact W.vret hx hb hr (fun t ht hW => ⟨⟨(h_24, g), rfl, HW, g_B ht hG⟩, hG.2.2.F ht⟩) hG.2.2.2.2 dX11_sets_25
  have E0 : ∀ (H : Heap) (locs : List Loc) (ls : Array Slot), gG D cy ad (gA ad s.heap.size) s.heap h g H locs → lv_has ls 3 [(0, .ref (ad 135)), (1, .int x1), (2, .int x2)] → W p l e ({ frames := 0, cells := 0, slots := 0, locals := 0 } : Room) s m args below meth c H locs 0 0 (MQ below (va_Qv (fun (u : HI × HL) => Q u.1 u.2) (gB D cy ad s.heap.size) (gA ad s.heap.size)) args s 0 0 (gA ad s.heap.size)) (F0 m 0 ls []) := by
    intro H locs ls hG hl
    unfold w_X11_sets at HW
    refine lv_aload_n hx hb dX11_sets_0 rfl (lv_at hl 0 rfl) ?_
    refine g_getr hx hb hw inG11 hown hK hG gl_135 rfl gk_135 (by decide) 23 (by decide) (by rw [gm_135]; decide) (r := 146) gr_135_23 lk42 dX11_sets_1 ?_
    refine lv_bipush (v := 80) hx hb dX11_sets_4 (by decide) ?_
    refine lv_iload_n hx hb dX11_sets_6 rfl (lv_at hl 1 rfl) ?_
    refine lv_imul hx hb dX11_sets_7 ?_
    refine lv_iload_n hx hb dX11_sets_8 rfl (lv_at hl 2 rfl) ?_
    refine g_iast hx hb hK hG gl_146 gk_146 gn_146 HW.1 dX11_sets_9 (fun H locs hG => ?_)
    replace HW := HW.2
    obtain ⟨h_9, eh_9⟩ : ∃ y : HI, y = hu h 146 ((80 : Int32) * x1).toNatClampNeg x2 := ⟨_, rfl⟩
    rw [← eh_9] at hG
    replace HW := HW h_9 eh_9
    refine lv_aload_n hx hb dX11_sets_10 rfl (lv_at hl 0 rfl) ?_
    refine g_getr hx hb hw inG11 hown hK hG gl_135 rfl gk_135 (by decide) 24 (by decide) (by rw [gm_135]; decide) (r := 147) gr_135_24 lk45 dX11_sets_11 ?_
    refine lv_iload_n hx hb dX11_sets_14 rfl (lv_at hl 1 rfl) ?_
    refine lv_iload_n hx hb dX11_sets_15 rfl (lv_at hl 2 rfl) ?_
    refine lv_if_ne (tgt := 23) hx hb dX11_sets_16 (by decide) (fun c_16 => ?_) (fun c_16 => ?_)
    · replace HW := HW.1 c_16
      refine lv_iconst (v := 1) hx hb dX11_sets_23 (by decide) ?_
      exact B24 x1 (1 : Int32) h_9 g _ _ _ HW hG (lv_sub hl [] rfl)
    · replace HW := HW.2 c_16
      refine lv_iconst (v := 0) hx hb dX11_sets_19 (by decide) ?_
      refine lv_goto (tgt := 24) hx hb dX11_sets_20 (by decide) ?_
      exact B24 x1 (0 : Int32) h_9 g _ _ _ HW hG (lv_sub hl [] rfl)
  exact E0 _ _ _ hG hl

def b_X11_times_102 (Q : HI → HL → Prop) (K102 : Int32 → HI → HL → Prop) (x1 : Int32) (h : HI) (g : HL) : Prop :=
  (vp_in x1 5 ∧ (((h 147 x1.toNatClampNeg) ≤ 0 → Q h g) ∧ (¬ (h 147 x1.toNatClampNeg) ≤ 0 → (vp_in x1 5 ∧ (vp_in ((((80 : Int32) * x1) + (h 147 x1.toNatClampNeg)) - (1 : Int32)) 400 ∧ ((¬ (h 146 ((((80 : Int32) * x1) + (h 147 x1.toNatClampNeg)) - (1 : Int32)).toNatClampNeg) = 0 → Q h g) ∧ ((h 146 ((((80 : Int32) * x1) + (h 147 x1.toNatClampNeg)) - (1 : Int32)).toNatClampNeg) = 0 → (vp_in x1 5 ∧ (vp_in x1 5 ∧ ∀ h_141 : HI, h_141 = hu h 147 x1.toNatClampNeg ((h 147 x1.toNatClampNeg) - (1 : Int32)) → K102 x1 h_141 g)))))))))
def F_X11_times_102 (Q : HI → HL → Prop) (K : Int32 × HI × HL → Prop) (q : Int32 × HI × HL) : Prop := b_X11_times_102 Q (fun x1 h g => K (x1, h, g)) q.1 q.2.1 q.2.2
def b_X11_times_5 (Q : HI → HL → Prop) (K5 : Int32 → Int32 → Int64 → Int32 → HI → HL → Prop) (x1 : Int32) (x2 : Int32) (x3 : Int64) (x5 : Int32) (h : HI) (g : HL) : Prop :=
  (vp_in x1 5 ∧ (((h 147 x1.toNatClampNeg) ≤ x5 → (((lg_cmp x3 (0 : Int64)) ≤ 0 → lpE (F_X11_times_102 Q) (x1, h, g)) ∧ (¬ (lg_cmp x3 (0 : Int64)) ≤ 0 → (vp_in x1 5 ∧ (vp_in (((80 : Int32) * x1) + (h 147 x1.toNatClampNeg)) 400 ∧ ∀ h_91 : HI, h_91 = hu h 146 (((80 : Int32) * x1) + (h 147 x1.toNatClampNeg)).toNatClampNeg ((x3).toInt32) → (vp_in x1 5 ∧ (vp_in x1 5 ∧ ∀ h_101 : HI, h_101 = hu h_91 147 x1.toNatClampNeg ((h_91 147 x1.toNatClampNeg) + (1 : Int32)) → lpE (F_X11_times_102 Q) (x1, h_101, g)))))))) ∧ (¬ (h 147 x1.toNatClampNeg) ≤ x5 → (vp_in (((80 : Int32) * x1) + x5) 400 ∧ (∀ x6_34 : Int64, x6_34 = (((((h 146 (((80 : Int32) * x1) + x5).toNatClampNeg)).toInt64) * ((x2).toInt64)) + x3) → (vp_in (((80 : Int32) * x1) + x5) 400 ∧ ∀ h_54 : HI, h_54 = hu h 146 (((80 : Int32) * x1) + x5).toNatClampNeg (((x6_34 - x6_34 / (1073741824 : Int64) * (1073741824 : Int64))).toInt32) → (∀ x3_61 : Int64, x3_61 = (x6_34 / (1073741824 : Int64)) → (∀ x5_62 : Int32, x5_62 = (x5 + 1) → K5 x1 x2 x3_61 x5_62 h_54 g))))))))
def F_X11_times_5 (Q : HI → HL → Prop) (K : Int32 × Int32 × Int64 × Int32 × HI × HL → Prop) (q : Int32 × Int32 × Int64 × Int32 × HI × HL) : Prop := b_X11_times_5 Q (fun x1 x2 x3 x5 h g => K (x1, x2, x3, x5, h, g)) q.1 q.2.1 q.2.2.1 q.2.2.2.1 q.2.2.2.2.1 q.2.2.2.2.2
def w_X11_times (x1 : Int32) (x2 : Int32) (h : HI) (g : HL) (Q : HI → HL → Prop) : Prop :=
  lpE (F_X11_times_5 Q) (x1, x2, (0 : Int64), (0 : Int32), h, g)
set_option maxHeartbeats 8000000 in
set_option maxRecDepth 100000 in
theorem m_X11_times (l : Launch) (D : va_G) (cy : Nat → ClassId) (ad : Nat → Nat) (h : HI) (g : HL) (sz : Nat) (x1 : Int32) (x2 : Int32) (Q : HI → HL → Prop) (HW : w_X11_times x1 x2 h g Q) : Met l yX11_times (wa yX11_times cX11_times 8 none) ({ frames := 0, cells := 0, slots := 0, locals := 0 }) (va_Pc [.ref (ad 135), .int x1, .int x2] (gI D cy ad h g sz)) (va_Qv (fun (u : HI × HL) => Q u.1 u.2) (gB D cy ad sz) (gA ad sz)) 0 0 (gA ad sz) := by
  refine Met.ofW (cc := cX11_times) (maxL := 8) (ret := none) (by decide) rfl ?_
  intro p e s m args below meth c s₁ B hml hv
  obtain ⟨hav, hsz, hP, hK, hD0, hNw⟩ := hv
  have hx := B.exec
  have hb := B.bytes
  have hr := B.returns
  have hts := atoms_spec (ws := (wa yX11_times cX11_times 8 none)) B.pre
  have hw := wa_hw hts
  have hown : s.vm.findClass RX11 = some m.cls := findClass_of_methodNamed B.named
  have hlocks := B.notSynchronized
  subst hsz
  have hG : gG D cy ad (gA ad s.heap.size) s.heap h g s.heap [] := ⟨hP, gA_self hD0, va_S.rf⟩
  clear hP hD0
  have lk45 := hw (.fieldLink RX11 45 "OldWorksModel" "wide" "[I") (wm5 51 rfl rfl)
  have lk42 := hw (.fieldLink RX11 42 "OldWorksModel" "limbs" "[I") (wm5 50 rfl rfl)
  have cn256 := hw (.constantLong RX11 256 (1073741824)) (wm6 145 rfl rfl)
  rw [show (headSpec (wa yX11_times cX11_times 8 none) ({ frames := 0, cells := 0, slots := 0, locals := 0 } : Room)).room = ({ frames := 0, cells := 0, slots := 0, locals := 0 } : Room) from rfl]
  have hl := lv_entry ([.ref (ad 135), .int x1, .int x2]) (n := 8) (Nat.le_of_ble_eq_true rfl)
  rw [show entryFrame m args 8 = entryFrame m ([.ref (ad 135), .int x1, .int x2] : List Value).toArray 8 from by rw [hav], lg_entry_eq]
  generalize (lg_sl ([.ref (ad 135), .int x1, .int x2]) ++ List.replicate (8 - (lg_sl ([.ref (ad 135), .int x1, .int x2])).length) Slot.unset).toArray = ls at hl ⊢
  have hl : lv_has ls 8 [(0, .ref (ad 135)), (1, .int x1), (2, .int x2)] := hl
  have L102 : ∀ (n : Nat) (x1 : Int32) (h : HI) (g : HL) (H : Heap) (locs : List Loc) (ls : Array Slot), lpN (F_X11_times_102 Q) n (x1, h, g) → gG D cy ad (gA ad s.heap.size) s.heap h g H locs → lv_has ls 8 [(0, .ref (ad 135)), (1, .int x1)] → W p l e ({ frames := 0, cells := 0, slots := 0, locals := 0 } : Room) s m args below meth c H locs 0 0 (MQ below (va_Qv (fun (u : HI × HL) => Q u.1 u.2) (gB D cy ad s.heap.size) (gA ad s.heap.size)) args s 0 0 (gA ad s.heap.size)) (F0 m 102 ls []) := by
    intro n
    induction n with
    | zero => intro x1 h g H locs ls HW; exact HW.elim
    | succ n ih =>
      intro x1 h g H locs ls HW hG hl
      have HW : b_X11_times_102 Q (fun x1 h g => lpN (F_X11_times_102 Q) n (x1, h, g)) x1 h g := HW
      generalize hKe : (fun (x1 : Int32) (h : HI) (g : HL) => lpN (F_X11_times_102 Q) n (x1, h, g)) = K102 at HW
      have hK102 : ∀ (x1 : Int32) (h : HI) (g : HL) (H : Heap) (locs : List Loc) (ls : Array Slot), K102 x1 h g → gG D cy ad (gA ad s.heap.size) s.heap h g H locs → lv_has ls 8 [(0, .ref (ad 135)), (1, .int x1)] → W p l e ({ frames := 0, cells := 0, slots := 0, locals := 0 } : Room) s m args below meth c H locs 0 0 (MQ below (va_Qv (fun (u : HI × HL) => Q u.1 u.2) (gB D cy ad s.heap.size) (gA ad s.heap.size)) args s 0 0 (gA ad s.heap.size)) (F0 m 102 ls []) := by subst hKe; exact ih
      clear ih
      clear hKe
      unfold b_X11_times_102 at HW
      refine lv_aload_n hx hb dX11_times_102 rfl (lv_at hl 0 rfl) ?_
      refine g_getr hx hb hw inG11 hown hK hG gl_135 rfl gk_135 (by decide) 24 (by decide) (by rw [gm_135]; decide) (r := 147) gr_135_24 lk45 dX11_times_103 ?_
      refine lv_iload_n hx hb dX11_times_106 rfl (lv_at hl 1 rfl) ?_
      refine g_iald hx hb hK hG gl_147 gk_147 gn_147 HW.1 dX11_times_107 ?_
      replace HW := HW.2
      refine lv_if_le (tgt := 145) hx hb dX11_times_108 (by decide) (fun c_108 => ?_) (fun c_108 => ?_)
      · replace HW := HW.1 c_108
        exact W.vret hx hb hr (fun t ht hW => ⟨⟨(h, g), rfl, HW, g_B ht hG⟩, hG.2.2.F ht⟩) hG.2.2.2.2 dX11_times_145
      · replace HW := HW.2 c_108
        refine lv_aload_n hx hb dX11_times_111 rfl (lv_at hl 0 rfl) ?_
        refine g_getr hx hb hw inG11 hown hK hG gl_135 rfl gk_135 (by decide) 23 (by decide) (by rw [gm_135]; decide) (r := 146) gr_135_23 lk42 dX11_times_112 ?_
        refine lv_bipush (v := 80) hx hb dX11_times_115 (by decide) ?_
        refine lv_iload_n hx hb dX11_times_117 rfl (lv_at hl 1 rfl) ?_
        refine lv_imul hx hb dX11_times_118 ?_
        refine lv_aload_n hx hb dX11_times_119 rfl (lv_at hl 0 rfl) ?_
        refine g_getr hx hb hw inG11 hown hK hG gl_135 rfl gk_135 (by decide) 24 (by decide) (by rw [gm_135]; decide) (r := 147) gr_135_24 lk45 dX11_times_120 ?_
        refine lv_iload_n hx hb dX11_times_123 rfl (lv_at hl 1 rfl) ?_
        refine g_iald hx hb hK hG gl_147 gk_147 gn_147 HW.1 dX11_times_124 ?_
        replace HW := HW.2
        refine lv_iadd hx hb dX11_times_125 ?_
        refine lv_iconst (v := 1) hx hb dX11_times_126 (by decide) ?_
        refine lv_isub hx hb dX11_times_127 ?_
        refine g_iald hx hb hK hG gl_146 gk_146 gn_146 HW.1 dX11_times_128 ?_
        replace HW := HW.2
        refine lv_if_ne (tgt := 145) hx hb dX11_times_129 (by decide) (fun c_129 => ?_) (fun c_129 => ?_)
        · replace HW := HW.1 c_129
          exact W.vret hx hb hr (fun t ht hW => ⟨⟨(h, g), rfl, HW, g_B ht hG⟩, hG.2.2.F ht⟩) hG.2.2.2.2 dX11_times_145
        · replace HW := HW.2 c_129
          refine lv_aload_n hx hb dX11_times_132 rfl (lv_at hl 0 rfl) ?_
          refine g_getr hx hb hw inG11 hown hK hG gl_135 rfl gk_135 (by decide) 24 (by decide) (by rw [gm_135]; decide) (r := 147) gr_135_24 lk45 dX11_times_133 ?_
          refine lv_iload_n hx hb dX11_times_136 rfl (lv_at hl 1 rfl) ?_
          refine lv_dup2_11 hx hb dX11_times_137 rfl rfl ?_
          refine g_iald hx hb hK hG gl_147 gk_147 gn_147 HW.1 dX11_times_138 ?_
          replace HW := HW.2
          refine lv_iconst (v := 1) hx hb dX11_times_139 (by decide) ?_
          refine lv_isub hx hb dX11_times_140 ?_
          refine g_iast hx hb hK hG gl_147 gk_147 gn_147 HW.1 dX11_times_141 (fun H locs hG => ?_)
          replace HW := HW.2
          obtain ⟨h_141, eh_141⟩ : ∃ y : HI, y = hu h 147 x1.toNatClampNeg ((h 147 x1.toNatClampNeg) - (1 : Int32)) := ⟨_, rfl⟩
          rw [← eh_141] at hG
          replace HW := HW h_141 eh_141
          refine lv_goto (tgt := 102) hx hb dX11_times_142 (by decide) ?_
          exact hK102 x1 h_141 g _ _ _ HW hG (lv_sub hl [0, 1] rfl)
  have L5 : ∀ (n : Nat) (x1 : Int32) (x2 : Int32) (x3 : Int64) (x5 : Int32) (h : HI) (g : HL) (H : Heap) (locs : List Loc) (ls : Array Slot), lpN (F_X11_times_5 Q) n (x1, x2, x3, x5, h, g) → gG D cy ad (gA ad s.heap.size) s.heap h g H locs → lv_has ls 8 [(0, .ref (ad 135)), (1, .int x1), (2, .int x2), (3, .long x3), (5, .int x5)] → W p l e ({ frames := 0, cells := 0, slots := 0, locals := 0 } : Room) s m args below meth c H locs 0 0 (MQ below (va_Qv (fun (u : HI × HL) => Q u.1 u.2) (gB D cy ad s.heap.size) (gA ad s.heap.size)) args s 0 0 (gA ad s.heap.size)) (F0 m 5 ls []) := by
    intro n
    induction n with
    | zero => intro x1 x2 x3 x5 h g H locs ls HW; exact HW.elim
    | succ n ih =>
      intro x1 x2 x3 x5 h g H locs ls HW hG hl
      have HW : b_X11_times_5 Q (fun x1 x2 x3 x5 h g => lpN (F_X11_times_5 Q) n (x1, x2, x3, x5, h, g)) x1 x2 x3 x5 h g := HW
      generalize hKe : (fun (x1 : Int32) (x2 : Int32) (x3 : Int64) (x5 : Int32) (h : HI) (g : HL) => lpN (F_X11_times_5 Q) n (x1, x2, x3, x5, h, g)) = K5 at HW
      have hK5 : ∀ (x1 : Int32) (x2 : Int32) (x3 : Int64) (x5 : Int32) (h : HI) (g : HL) (H : Heap) (locs : List Loc) (ls : Array Slot), K5 x1 x2 x3 x5 h g → gG D cy ad (gA ad s.heap.size) s.heap h g H locs → lv_has ls 8 [(0, .ref (ad 135)), (1, .int x1), (2, .int x2), (3, .long x3), (5, .int x5)] → W p l e ({ frames := 0, cells := 0, slots := 0, locals := 0 } : Room) s m args below meth c H locs 0 0 (MQ below (va_Qv (fun (u : HI × HL) => Q u.1 u.2) (gB D cy ad s.heap.size) (gA ad s.heap.size)) args s 0 0 (gA ad s.heap.size)) (F0 m 5 ls []) := by subst hKe; exact ih
      clear ih
      clear hKe
      unfold b_X11_times_5 at HW
      refine lv_iload hx hb dX11_times_5 (lv_at hl 4 rfl) ?_
      refine lv_aload_n hx hb dX11_times_7 rfl (lv_at hl 0 rfl) ?_
      refine g_getr hx hb hw inG11 hown hK hG gl_135 rfl gk_135 (by decide) 24 (by decide) (by rw [gm_135]; decide) (r := 147) gr_135_24 lk45 dX11_times_8 ?_
      refine lv_iload_n hx hb dX11_times_11 rfl (lv_at hl 1 rfl) ?_
      refine g_iald hx hb hK hG gl_147 gk_147 gn_147 HW.1 dX11_times_12 ?_
      replace HW := HW.2
      refine lv_icmp_ge (tgt := 68) hx hb dX11_times_13 (by decide) (fun c_13 => ?_) (fun c_13 => ?_)
      · replace HW := HW.1 c_13
        refine lv_lload_n hx hb dX11_times_68 rfl (lv_at hl 3 rfl) ?_
        refine lv_lconst (v := 0) hx hb dX11_times_69 (by decide) ?_
        refine W.lcmp hx hb dX11_times_70 ?_
        refine lv_if_le (tgt := 102) hx hb dX11_times_71 (by decide) (fun c_71 => ?_) (fun c_71 => ?_)
        · replace HW := HW.1 c_71
          obtain ⟨n_102, HW⟩ := HW
          exact L102 n_102 x1 h g _ _ _ HW hG (lv_sub hl [0, 1] rfl)
        · replace HW := HW.2 c_71
          refine lv_aload_n hx hb dX11_times_74 rfl (lv_at hl 0 rfl) ?_
          refine g_getr hx hb hw inG11 hown hK hG gl_135 rfl gk_135 (by decide) 23 (by decide) (by rw [gm_135]; decide) (r := 146) gr_135_23 lk42 dX11_times_75 ?_
          refine lv_bipush (v := 80) hx hb dX11_times_78 (by decide) ?_
          refine lv_iload_n hx hb dX11_times_80 rfl (lv_at hl 1 rfl) ?_
          refine lv_imul hx hb dX11_times_81 ?_
          refine lv_aload_n hx hb dX11_times_82 rfl (lv_at hl 0 rfl) ?_
          refine g_getr hx hb hw inG11 hown hK hG gl_135 rfl gk_135 (by decide) 24 (by decide) (by rw [gm_135]; decide) (r := 147) gr_135_24 lk45 dX11_times_83 ?_
          refine lv_iload_n hx hb dX11_times_86 rfl (lv_at hl 1 rfl) ?_
          refine g_iald hx hb hK hG gl_147 gk_147 gn_147 HW.1 dX11_times_87 ?_
          replace HW := HW.2
          refine lv_iadd hx hb dX11_times_88 ?_
          refine lv_lload_n hx hb dX11_times_89 rfl (lv_at hl 3 rfl) ?_
          refine lv_l2i hx hb dX11_times_90 rfl ?_
          refine g_iast hx hb hK hG gl_146 gk_146 gn_146 HW.1 dX11_times_91 (fun H locs hG => ?_)
          replace HW := HW.2
          obtain ⟨h_91, eh_91⟩ : ∃ y : HI, y = hu h 146 (((80 : Int32) * x1) + (h 147 x1.toNatClampNeg)).toNatClampNeg ((x3).toInt32) := ⟨_, rfl⟩
          rw [← eh_91] at hG
          replace HW := HW h_91 eh_91
          refine lv_aload_n hx hb dX11_times_92 rfl (lv_at hl 0 rfl) ?_
          refine g_getr hx hb hw inG11 hown hK hG gl_135 rfl gk_135 (by decide) 24 (by decide) (by rw [gm_135]; decide) (r := 147) gr_135_24 lk45 dX11_times_93 ?_
          refine lv_iload_n hx hb dX11_times_96 rfl (lv_at hl 1 rfl) ?_
          refine lv_dup2_11 hx hb dX11_times_97 rfl rfl ?_
          refine g_iald hx hb hK hG gl_147 gk_147 gn_147 HW.1 dX11_times_98 ?_
          replace HW := HW.2
          refine lv_iconst (v := 1) hx hb dX11_times_99 (by decide) ?_
          refine lv_iadd hx hb dX11_times_100 ?_
          refine g_iast hx hb hK hG gl_147 gk_147 gn_147 HW.1 dX11_times_101 (fun H locs hG => ?_)
          replace HW := HW.2
          obtain ⟨h_101, eh_101⟩ : ∃ y : HI, y = hu h_91 147 x1.toNatClampNeg ((h_91 147 x1.toNatClampNeg) + (1 : Int32)) := ⟨_, rfl⟩
          rw [← eh_101] at hG
          replace HW := HW h_101 eh_101
          obtain ⟨n_102, HW⟩ := HW
          exact L102 n_102 x1 h_101 g _ _ _ HW hG (lv_sub hl [0, 1] rfl)
      · replace HW := HW.2 c_13
        refine lv_aload_n hx hb dX11_times_16 rfl (lv_at hl 0 rfl) ?_
        refine g_getr hx hb hw inG11 hown hK hG gl_135 rfl gk_135 (by decide) 23 (by decide) (by rw [gm_135]; decide) (r := 146) gr_135_23 lk42 dX11_times_17 ?_
        refine lv_bipush (v := 80) hx hb dX11_times_20 (by decide) ?_
        refine lv_iload_n hx hb dX11_times_22 rfl (lv_at hl 1 rfl) ?_
        refine lv_imul hx hb dX11_times_23 ?_
        refine lv_iload hx hb dX11_times_24 (lv_at hl 4 rfl) ?_
        refine lv_iadd hx hb dX11_times_26 ?_
        refine g_iald hx hb hK hG gl_146 gk_146 gn_146 HW.1 dX11_times_27 ?_
        replace HW := HW.2
        refine lv_i2l hx hb dX11_times_28 rfl ?_
        refine lv_iload_n hx hb dX11_times_29 rfl (lv_at hl 2 rfl) ?_
        refine lv_i2l hx hb dX11_times_30 rfl ?_
        refine lv_lmul hx hb dX11_times_31 ?_
        refine lv_lload_n hx hb dX11_times_32 rfl (lv_at hl 3 rfl) ?_
        refine lv_ladd hx hb dX11_times_33 ?_
        refine lv_topl (fun x6_34 ex6_34 => ?_)
        replace HW := HW x6_34 ex6_34
        refine lv_lstore (lv' := [(6, .long x6_34), (0, .ref (ad 135)), (1, .int x1), (2, .int x2), (3, .long x3), (5, .int x5)]) hx hb dX11_times_34 hl (by decide) rfl (fun ls hl => ?_)
        refine lv_aload_n hx hb dX11_times_36 rfl (lv_at hl 1 rfl) ?_
        refine g_getr hx hb hw inG11 hown hK hG gl_135 rfl gk_135 (by decide) 23 (by decide) (by rw [gm_135]; decide) (r := 146) gr_135_23 lk42 dX11_times_37 ?_
        refine lv_bipush (v := 80) hx hb dX11_times_40 (by decide) ?_
        refine lv_iload_n hx hb dX11_times_42 rfl (lv_at hl 2 rfl) ?_
        refine lv_imul hx hb dX11_times_43 ?_
        refine lv_iload hx hb dX11_times_44 (lv_at hl 5 rfl) ?_
        refine lv_iadd hx hb dX11_times_46 ?_
        refine lv_lload hx hb dX11_times_47 (lv_at hl 0 rfl) ?_
        refine lv_ldc2 (v := 1073741824) hx hb hown cn256 dX11_times_49 ?_
        refine lv_lrem hx hb dX11_times_52 (by decide) ?_
        refine lv_l2i hx hb dX11_times_53 rfl ?_
        refine g_iast hx hb hK hG gl_146 gk_146 gn_146 HW.1 dX11_times_54 (fun H locs hG => ?_)
        replace HW := HW.2
        obtain ⟨h_54, eh_54⟩ : ∃ y : HI, y = hu h 146 (((80 : Int32) * x1) + x5).toNatClampNeg (((x6_34 - x6_34 / (1073741824 : Int64) * (1073741824 : Int64))).toInt32) := ⟨_, rfl⟩
        rw [← eh_54] at hG
        replace HW := HW h_54 eh_54
        refine lv_lload hx hb dX11_times_55 (lv_at hl 0 rfl) ?_
        refine lv_ldc2 (v := 1073741824) hx hb hown cn256 dX11_times_57 ?_
        refine lv_ldiv hx hb dX11_times_60 (by decide) ?_
        refine lv_topl (fun x3_61 ex3_61 => ?_)
        replace HW := HW x3_61 ex3_61
        refine lv_lstore_n (lv' := [(3, .long x3_61), (6, .long x6_34), (0, .ref (ad 135)), (1, .int x1), (2, .int x2), (5, .int x5)]) hx hb dX11_times_61 rfl hl (by decide) rfl (fun ls hl => ?_)
        obtain ⟨x5_62, ex5_62⟩ : ∃ y : Int32, y = (x5 + 1) := ⟨_, rfl⟩
        replace HW := HW x5_62 ex5_62
        refine lv_iinc (v := x5_62) (lv' := [(5, .int x5_62), (3, .long x3_61), (6, .long x6_34), (0, .ref (ad 135)), (1, .int x1), (2, .int x2)]) hx hb dX11_times_62 hl (k := 5) rfl (by rw [ex5_62]; rfl) (by decide) rfl (fun ls hl => ?_)
        refine lv_goto (tgt := 5) hx hb dX11_times_65 (by decide) ?_
        exact hK5 x1 x2 x3_61 x5_62 h_54 g _ _ _ HW hG (lv_sub hl [3, 4, 5, 1, 0] rfl)
  have E0 : ∀ (H : Heap) (locs : List Loc) (ls : Array Slot), gG D cy ad (gA ad s.heap.size) s.heap h g H locs → lv_has ls 8 [(0, .ref (ad 135)), (1, .int x1), (2, .int x2)] → W p l e ({ frames := 0, cells := 0, slots := 0, locals := 0 } : Room) s m args below meth c H locs 0 0 (MQ below (va_Qv (fun (u : HI × HL) => Q u.1 u.2) (gB D cy ad s.heap.size) (gA ad s.heap.size)) args s 0 0 (gA ad s.heap.size)) (F0 m 0 ls []) := by
    intro H locs ls hG hl
    unfold w_X11_times at HW
    refine lv_lconst (v := 0) hx hb dX11_times_0 (by decide) ?_
    refine lv_lstore_n (lv' := [(3, .long (0 : Int64)), (0, .ref (ad 135)), (1, .int x1), (2, .int x2)]) hx hb dX11_times_1 rfl hl (by decide) rfl (fun ls hl => ?_)
    refine lv_iconst (v := 0) hx hb dX11_times_2 (by decide) ?_
    refine lv_istore (lv' := [(5, .int (0 : Int32)), (3, .long (0 : Int64)), (0, .ref (ad 135)), (1, .int x1), (2, .int x2)]) hx hb dX11_times_3 hl (by decide) rfl (fun ls hl => ?_)
    obtain ⟨n_5, HW⟩ := HW
    exact L5 n_5 x1 x2 (0 : Int64) (0 : Int32) h g _ _ _ HW hG (lv_sub hl [2, 3, 4, 1, 0] rfl)
  exact E0 _ _ _ hG hl

def b_X11_against_45 (Q : Int32 → HI → HL → Prop) (K45 : Int32 → Int32 → Int32 → HI → HL → Prop) (x1 : Int32) (x2 : Int32) (x3 : Int32) (h : HI) (g : HL) : Prop :=
  ((x3 < 0 → Q (0 : Int32) h g) ∧ (¬ x3 < 0 → (vp_in (((80 : Int32) * x1) + x3) 400 ∧ (vp_in (((80 : Int32) * x2) + x3) 400 ∧ (((h 146 (((80 : Int32) * x1) + x3).toNatClampNeg) = (h 146 (((80 : Int32) * x2) + x3).toNatClampNeg) → (∀ x3_105 : Int32, x3_105 = (x3 + (-1)) → K45 x1 x2 x3_105 h g)) ∧ (¬ (h 146 (((80 : Int32) * x1) + x3).toNatClampNeg) = (h 146 (((80 : Int32) * x2) + x3).toNatClampNeg) → (vp_in (((80 : Int32) * x1) + x3) 400 ∧ (vp_in (((80 : Int32) * x2) + x3) 400 ∧ (((h 146 (((80 : Int32) * x2) + x3).toNatClampNeg) ≤ (h 146 (((80 : Int32) * x1) + x3).toNatClampNeg) → Q (1 : Int32) h g) ∧ (¬ (h 146 (((80 : Int32) * x2) + x3).toNatClampNeg) ≤ (h 146 (((80 : Int32) * x1) + x3).toNatClampNeg) → Q (-1 : Int32) h g))))))))))
def F_X11_against_45 (Q : Int32 → HI → HL → Prop) (K : Int32 × Int32 × Int32 × HI × HL → Prop) (q : Int32 × Int32 × Int32 × HI × HL) : Prop := b_X11_against_45 Q (fun x1 x2 x3 h g => K (x1, x2, x3, h, g)) q.1 q.2.1 q.2.2.1 q.2.2.2.1 q.2.2.2.2
def w_X11_against (x1 : Int32) (x2 : Int32) (h : HI) (g : HL) (Q : Int32 → HI → HL → Prop) : Prop :=
  (vp_in x1 5 ∧ (vp_in x2 5 ∧ (((h 147 x1.toNatClampNeg) = (h 147 x2.toNatClampNeg) → (vp_in x1 5 ∧ (∀ x3_44 : Int32, x3_44 = ((h 147 x1.toNatClampNeg) - (1 : Int32)) → lpE (F_X11_against_45 Q) (x1, x2, x3_44, h, g)))) ∧ (¬ (h 147 x1.toNatClampNeg) = (h 147 x2.toNatClampNeg) → (vp_in x1 5 ∧ (vp_in x2 5 ∧ (((h 147 x2.toNatClampNeg) ≤ (h 147 x1.toNatClampNeg) → Q (1 : Int32) h g) ∧ (¬ (h 147 x2.toNatClampNeg) ≤ (h 147 x1.toNatClampNeg) → Q (-1 : Int32) h g))))))))
set_option maxHeartbeats 8000000 in
set_option maxRecDepth 100000 in
theorem m_X11_against (l : Launch) (D : va_G) (cy : Nat → ClassId) (ad : Nat → Nat) (h : HI) (g : HL) (sz : Nat) (x1 : Int32) (x2 : Int32) (Q : Int32 → HI → HL → Prop) (HW : w_X11_against x1 x2 h g Q) : Met l yX11_against (wa yX11_against cX11_against 4 (some .int)) ({ frames := 0, cells := 0, slots := 0, locals := 0 }) (va_Pc [.ref (ad 135), .int x1, .int x2] (gI D cy ad h g sz)) (va_Qi (fun (r : Int32) (u : HI × HL) => Q r u.1 u.2) (gB D cy ad sz) (gA ad sz)) 0 0 (gA ad sz) := by
  refine Met.ofW (cc := cX11_against) (maxL := 4) (ret := (some .int)) (by decide) rfl ?_
  intro p e s m args below meth c s₁ B hml hv
  obtain ⟨hav, hsz, hP, hK, hD0, hNw⟩ := hv
  have hx := B.exec
  have hb := B.bytes
  have hr := B.returns
  have hts := atoms_spec (ws := (wa yX11_against cX11_against 4 (some .int))) B.pre
  have hw := wa_hw hts
  have hown : s.vm.findClass RX11 = some m.cls := findClass_of_methodNamed B.named
  have hlocks := B.notSynchronized
  subst hsz
  have hG : gG D cy ad (gA ad s.heap.size) s.heap h g s.heap [] := ⟨hP, gA_self hD0, va_S.rf⟩
  clear hP hD0
  have lk45 := hw (.fieldLink RX11 45 "OldWorksModel" "wide" "[I") (wm5 51 rfl rfl)
  have lk42 := hw (.fieldLink RX11 42 "OldWorksModel" "limbs" "[I") (wm5 50 rfl rfl)
  rw [show (headSpec (wa yX11_against cX11_against 4 (some .int)) ({ frames := 0, cells := 0, slots := 0, locals := 0 } : Room)).room = ({ frames := 0, cells := 0, slots := 0, locals := 0 } : Room) from rfl]
  have hl := lv_entry ([.ref (ad 135), .int x1, .int x2]) (n := 4) (Nat.le_of_ble_eq_true rfl)
  rw [show entryFrame m args 4 = entryFrame m ([.ref (ad 135), .int x1, .int x2] : List Value).toArray 4 from by rw [hav], lg_entry_eq]
  generalize (lg_sl ([.ref (ad 135), .int x1, .int x2]) ++ List.replicate (4 - (lg_sl ([.ref (ad 135), .int x1, .int x2])).length) Slot.unset).toArray = ls at hl ⊢
  have hl : lv_has ls 4 [(0, .ref (ad 135)), (1, .int x1), (2, .int x2)] := hl
  have L45 : ∀ (n : Nat) (x1 : Int32) (x2 : Int32) (x3 : Int32) (h : HI) (g : HL) (H : Heap) (locs : List Loc) (ls : Array Slot), lpN (F_X11_against_45 Q) n (x1, x2, x3, h, g) → gG D cy ad (gA ad s.heap.size) s.heap h g H locs → lv_has ls 4 [(0, .ref (ad 135)), (1, .int x1), (2, .int x2), (3, .int x3)] → W p l e ({ frames := 0, cells := 0, slots := 0, locals := 0 } : Room) s m args below meth c H locs 0 0 (MQ below (va_Qi (fun (r : Int32) (u : HI × HL) => Q r u.1 u.2) (gB D cy ad s.heap.size) (gA ad s.heap.size)) args s 0 0 (gA ad s.heap.size)) (F0 m 45 ls []) := by
    intro n
    induction n with
    | zero => intro x1 x2 x3 h g H locs ls HW; exact HW.elim
    | succ n ih =>
      intro x1 x2 x3 h g H locs ls HW hG hl
      have HW : b_X11_against_45 Q (fun x1 x2 x3 h g => lpN (F_X11_against_45 Q) n (x1, x2, x3, h, g)) x1 x2 x3 h g := HW
      generalize hKe : (fun (x1 : Int32) (x2 : Int32) (x3 : Int32) (h : HI) (g : HL) => lpN (F_X11_against_45 Q) n (x1, x2, x3, h, g)) = K45 at HW
      have hK45 : ∀ (x1 : Int32) (x2 : Int32) (x3 : Int32) (h : HI) (g : HL) (H : Heap) (locs : List Loc) (ls : Array Slot), K45 x1 x2 x3 h g → gG D cy ad (gA ad s.heap.size) s.heap h g H locs → lv_has ls 4 [(0, .ref (ad 135)), (1, .int x1), (2, .int x2), (3, .int x3)] → W p l e ({ frames := 0, cells := 0, slots := 0, locals := 0 } : Room) s m args below meth c H locs 0 0 (MQ below (va_Qi (fun (r : Int32) (u : HI × HL) => Q r u.1 u.2) (gB D cy ad s.heap.size) (gA ad s.heap.size)) args s 0 0 (gA ad s.heap.size)) (F0 m 45 ls []) := by subst hKe; exact ih
      clear ih
      clear hKe
      unfold b_X11_against_45 at HW
      refine lv_iload_n hx hb dX11_against_45 rfl (lv_at hl 3 rfl) ?_
      refine lv_if_lt (tgt := 111) hx hb dX11_against_46 (by decide) (fun c_46 => ?_) (fun c_46 => ?_)
      · replace HW := HW.1 c_46
        refine lv_iconst (v := 0) hx hb dX11_against_111 (by decide) ?_
        exact W.iret (v := (0 : Int32)) hx hb hr (fun t ht hW => ⟨⟨(0 : Int32), (h, g), rfl, HW, g_B ht hG⟩, hG.2.2.F ht⟩) hG.2.2.2.2 dX11_against_112
      · replace HW := HW.2 c_46
        refine lv_aload_n hx hb dX11_against_49 rfl (lv_at hl 0 rfl) ?_
        refine g_getr hx hb hw inG11 hown hK hG gl_135 rfl gk_135 (by decide) 23 (by decide) (by rw [gm_135]; decide) (r := 146) gr_135_23 lk42 dX11_against_50 ?_
        refine lv_bipush (v := 80) hx hb dX11_against_53 (by decide) ?_
        refine lv_iload_n hx hb dX11_against_55 rfl (lv_at hl 1 rfl) ?_
        refine lv_imul hx hb dX11_against_56 ?_
        refine lv_iload_n hx hb dX11_against_57 rfl (lv_at hl 3 rfl) ?_
        refine lv_iadd hx hb dX11_against_58 ?_
        refine g_iald hx hb hK hG gl_146 gk_146 gn_146 HW.1 dX11_against_59 ?_
        replace HW := HW.2
        refine lv_aload_n hx hb dX11_against_60 rfl (lv_at hl 0 rfl) ?_
        refine g_getr hx hb hw inG11 hown hK hG gl_135 rfl gk_135 (by decide) 23 (by decide) (by rw [gm_135]; decide) (r := 146) gr_135_23 lk42 dX11_against_61 ?_
        refine lv_bipush (v := 80) hx hb dX11_against_64 (by decide) ?_
        refine lv_iload_n hx hb dX11_against_66 rfl (lv_at hl 2 rfl) ?_
        refine lv_imul hx hb dX11_against_67 ?_
        refine lv_iload_n hx hb dX11_against_68 rfl (lv_at hl 3 rfl) ?_
        refine lv_iadd hx hb dX11_against_69 ?_
        refine g_iald hx hb hK hG gl_146 gk_146 gn_146 HW.1 dX11_against_70 ?_
        replace HW := HW.2
        refine lv_icmp_eq (tgt := 105) hx hb dX11_against_71 (by decide) (fun c_71 => ?_) (fun c_71 => ?_)
        · replace HW := HW.1 c_71
          obtain ⟨x3_105, ex3_105⟩ : ∃ y : Int32, y = (x3 + (-1)) := ⟨_, rfl⟩
          replace HW := HW x3_105 ex3_105
          refine lv_iinc (v := x3_105) (lv' := [(3, .int x3_105), (0, .ref (ad 135)), (1, .int x1), (2, .int x2)]) hx hb dX11_against_105 hl (k := 3) rfl (by rw [ex3_105]; rfl) (by decide) rfl (fun ls hl => ?_)
          refine lv_goto (tgt := 45) hx hb dX11_against_108 (by decide) ?_
          exact hK45 x1 x2 x3_105 h g _ _ _ HW hG (lv_sub hl [1, 2, 3, 0] rfl)
        · replace HW := HW.2 c_71
          refine lv_aload_n hx hb dX11_against_74 rfl (lv_at hl 0 rfl) ?_
          refine g_getr hx hb hw inG11 hown hK hG gl_135 rfl gk_135 (by decide) 23 (by decide) (by rw [gm_135]; decide) (r := 146) gr_135_23 lk42 dX11_against_75 ?_
          refine lv_bipush (v := 80) hx hb dX11_against_78 (by decide) ?_
          refine lv_iload_n hx hb dX11_against_80 rfl (lv_at hl 1 rfl) ?_
          refine lv_imul hx hb dX11_against_81 ?_
          refine lv_iload_n hx hb dX11_against_82 rfl (lv_at hl 3 rfl) ?_
          refine lv_iadd hx hb dX11_against_83 ?_
          refine g_iald hx hb hK hG gl_146 gk_146 gn_146 HW.1 dX11_against_84 ?_
          replace HW := HW.2
          refine lv_aload_n hx hb dX11_against_85 rfl (lv_at hl 0 rfl) ?_
          refine g_getr hx hb hw inG11 hown hK hG gl_135 rfl gk_135 (by decide) 23 (by decide) (by rw [gm_135]; decide) (r := 146) gr_135_23 lk42 dX11_against_86 ?_
          refine lv_bipush (v := 80) hx hb dX11_against_89 (by decide) ?_
          refine lv_iload_n hx hb dX11_against_91 rfl (lv_at hl 2 rfl) ?_
          refine lv_imul hx hb dX11_against_92 ?_
          refine lv_iload_n hx hb dX11_against_93 rfl (lv_at hl 3 rfl) ?_
          refine lv_iadd hx hb dX11_against_94 ?_
          refine g_iald hx hb hK hG gl_146 gk_146 gn_146 HW.1 dX11_against_95 ?_
          replace HW := HW.2
          refine lv_icmp_ge (tgt := 103) hx hb dX11_against_96 (by decide) (fun c_96 => ?_) (fun c_96 => ?_)
          · replace HW := HW.1 c_96
            refine lv_iconst (v := 1) hx hb dX11_against_103 (by decide) ?_
            exact W.iret (v := (1 : Int32)) hx hb hr (fun t ht hW => ⟨⟨(1 : Int32), (h, g), rfl, HW, g_B ht hG⟩, hG.2.2.F ht⟩) hG.2.2.2.2 dX11_against_104
          · replace HW := HW.2 c_96
            refine lv_iconst (v := (-1)) hx hb dX11_against_99 (by decide) ?_
            refine lv_goto (tgt := 104) hx hb dX11_against_100 (by decide) ?_
            exact W.iret (v := (-1 : Int32)) hx hb hr (fun t ht hW => ⟨⟨(-1 : Int32), (h, g), rfl, HW, g_B ht hG⟩, hG.2.2.F ht⟩) hG.2.2.2.2 dX11_against_104
  have E0 : ∀ (H : Heap) (locs : List Loc) (ls : Array Slot), gG D cy ad (gA ad s.heap.size) s.heap h g H locs → lv_has ls 4 [(0, .ref (ad 135)), (1, .int x1), (2, .int x2)] → W p l e ({ frames := 0, cells := 0, slots := 0, locals := 0 } : Room) s m args below meth c H locs 0 0 (MQ below (va_Qi (fun (r : Int32) (u : HI × HL) => Q r u.1 u.2) (gB D cy ad s.heap.size) (gA ad s.heap.size)) args s 0 0 (gA ad s.heap.size)) (F0 m 0 ls []) := by
    intro H locs ls hG hl
    unfold w_X11_against at HW
    refine lv_aload_n hx hb dX11_against_0 rfl (lv_at hl 0 rfl) ?_
    refine g_getr hx hb hw inG11 hown hK hG gl_135 rfl gk_135 (by decide) 24 (by decide) (by rw [gm_135]; decide) (r := 147) gr_135_24 lk45 dX11_against_1 ?_
    refine lv_iload_n hx hb dX11_against_4 rfl (lv_at hl 1 rfl) ?_
    refine g_iald hx hb hK hG gl_147 gk_147 gn_147 HW.1 dX11_against_5 ?_
    replace HW := HW.2
    refine lv_aload_n hx hb dX11_against_6 rfl (lv_at hl 0 rfl) ?_
    refine g_getr hx hb hw inG11 hown hK hG gl_135 rfl gk_135 (by decide) 24 (by decide) (by rw [gm_135]; decide) (r := 147) gr_135_24 lk45 dX11_against_7 ?_
    refine lv_iload_n hx hb dX11_against_10 rfl (lv_at hl 2 rfl) ?_
    refine g_iald hx hb hK hG gl_147 gk_147 gn_147 HW.1 dX11_against_11 ?_
    replace HW := HW.2
    refine lv_icmp_eq (tgt := 36) hx hb dX11_against_12 (by decide) (fun c_12 => ?_) (fun c_12 => ?_)
    · replace HW := HW.1 c_12
      refine lv_aload_n hx hb dX11_against_36 rfl (lv_at hl 0 rfl) ?_
      refine g_getr hx hb hw inG11 hown hK hG gl_135 rfl gk_135 (by decide) 24 (by decide) (by rw [gm_135]; decide) (r := 147) gr_135_24 lk45 dX11_against_37 ?_
      refine lv_iload_n hx hb dX11_against_40 rfl (lv_at hl 1 rfl) ?_
      refine g_iald hx hb hK hG gl_147 gk_147 gn_147 HW.1 dX11_against_41 ?_
      replace HW := HW.2
      refine lv_iconst (v := 1) hx hb dX11_against_42 (by decide) ?_
      refine lv_isub hx hb dX11_against_43 ?_
      refine lv_topi (fun x3_44 ex3_44 => ?_)
      replace HW := HW x3_44 ex3_44
      refine lv_istore_n (lv' := [(3, .int x3_44), (0, .ref (ad 135)), (1, .int x1), (2, .int x2)]) hx hb dX11_against_44 rfl hl (by decide) rfl (fun ls hl => ?_)
      obtain ⟨n_45, HW⟩ := HW
      exact L45 n_45 x1 x2 x3_44 h g _ _ _ HW hG (lv_sub hl [1, 2, 3, 0] rfl)
    · replace HW := HW.2 c_12
      refine lv_aload_n hx hb dX11_against_15 rfl (lv_at hl 0 rfl) ?_
      refine g_getr hx hb hw inG11 hown hK hG gl_135 rfl gk_135 (by decide) 24 (by decide) (by rw [gm_135]; decide) (r := 147) gr_135_24 lk45 dX11_against_16 ?_
      refine lv_iload_n hx hb dX11_against_19 rfl (lv_at hl 1 rfl) ?_
      refine g_iald hx hb hK hG gl_147 gk_147 gn_147 HW.1 dX11_against_20 ?_
      replace HW := HW.2
      refine lv_aload_n hx hb dX11_against_21 rfl (lv_at hl 0 rfl) ?_
      refine g_getr hx hb hw inG11 hown hK hG gl_135 rfl gk_135 (by decide) 24 (by decide) (by rw [gm_135]; decide) (r := 147) gr_135_24 lk45 dX11_against_22 ?_
      refine lv_iload_n hx hb dX11_against_25 rfl (lv_at hl 2 rfl) ?_
      refine g_iald hx hb hK hG gl_147 gk_147 gn_147 HW.1 dX11_against_26 ?_
      replace HW := HW.2
      refine lv_icmp_ge (tgt := 34) hx hb dX11_against_27 (by decide) (fun c_27 => ?_) (fun c_27 => ?_)
      · replace HW := HW.1 c_27
        refine lv_iconst (v := 1) hx hb dX11_against_34 (by decide) ?_
        exact W.iret (v := (1 : Int32)) hx hb hr (fun t ht hW => ⟨⟨(1 : Int32), (h, g), rfl, HW, g_B ht hG⟩, hG.2.2.F ht⟩) hG.2.2.2.2 dX11_against_35
      · replace HW := HW.2 c_27
        refine lv_iconst (v := (-1)) hx hb dX11_against_30 (by decide) ?_
        refine lv_goto (tgt := 35) hx hb dX11_against_31 (by decide) ?_
        exact W.iret (v := (-1 : Int32)) hx hb hr (fun t ht hW => ⟨⟨(-1 : Int32), (h, g), rfl, HW, g_B ht hG⟩, hG.2.2.F ht⟩) hG.2.2.2.2 dX11_against_35
  exact E0 _ _ _ hG hl

def b_X11_divisor_4 (Q : Int32 → HI → HL → Prop) (K4 : Int32 → Int32 → HI → HL → Prop) (x2 : Int32) (x3 : Int32) (h : HI) (g : HL) : Prop :=
  ((x3 = 0 → Q x2 h g) ∧ (¬ x3 = 0 → (¬ x3 = 0 ∧ (∀ x4_11 : Int32, x4_11 = (x2 - x2 / x3 * x3) → K4 x3 x4_11 h g))))
def F_X11_divisor_4 (Q : Int32 → HI → HL → Prop) (K : Int32 × Int32 × HI × HL → Prop) (q : Int32 × Int32 × HI × HL) : Prop := b_X11_divisor_4 Q (fun x2 x3 h g => K (x2, x3, h, g)) q.1 q.2.1 q.2.2.1 q.2.2.2
def w_X11_divisor (x0 : Int32) (x1 : Int32) (h : HI) (g : HL) (Q : Int32 → HI → HL → Prop) : Prop :=
  lpE (F_X11_divisor_4 Q) (x0, x1, h, g)
set_option maxHeartbeats 8000000 in
set_option maxRecDepth 100000 in
theorem m_X11_divisor (l : Launch) (D : va_G) (cy : Nat → ClassId) (ad : Nat → Nat) (h : HI) (g : HL) (sz : Nat) (x0 : Int32) (x1 : Int32) (Q : Int32 → HI → HL → Prop) (HW : w_X11_divisor x0 x1 h g Q) : Met l yX11_divisor (wa yX11_divisor cX11_divisor 5 (some .int)) ({ frames := 0, cells := 0, slots := 0, locals := 0 }) (va_Pc [.int x0, .int x1] (gI D cy ad h g sz)) (va_Qi (fun (r : Int32) (u : HI × HL) => Q r u.1 u.2) (gB D cy ad sz) (gA ad sz)) 0 0 (gA ad sz) := by
  refine Met.ofW (cc := cX11_divisor) (maxL := 5) (ret := (some .int)) (by decide) rfl ?_
  intro p e s m args below meth c s₁ B hml hv
  obtain ⟨hav, hsz, hP, hK, hD0, hNw⟩ := hv
  have hx := B.exec
  have hb := B.bytes
  have hr := B.returns
  have hts := atoms_spec (ws := (wa yX11_divisor cX11_divisor 5 (some .int))) B.pre
  have hw := wa_hw hts
  have hown : s.vm.findClass RX11 = some m.cls := findClass_of_methodNamed B.named
  have hlocks := B.notSynchronized
  subst hsz
  have hG : gG D cy ad (gA ad s.heap.size) s.heap h g s.heap [] := ⟨hP, gA_self hD0, va_S.rf⟩
  clear hP hD0
  rw [show (headSpec (wa yX11_divisor cX11_divisor 5 (some .int)) ({ frames := 0, cells := 0, slots := 0, locals := 0 } : Room)).room = ({ frames := 0, cells := 0, slots := 0, locals := 0 } : Room) from rfl]
  have hl := lv_entry ([.int x0, .int x1]) (n := 5) (Nat.le_of_ble_eq_true rfl)
  rw [show entryFrame m args 5 = entryFrame m ([.int x0, .int x1] : List Value).toArray 5 from by rw [hav], lg_entry_eq]
  generalize (lg_sl ([.int x0, .int x1]) ++ List.replicate (5 - (lg_sl ([.int x0, .int x1])).length) Slot.unset).toArray = ls at hl ⊢
  have hl : lv_has ls 5 [(0, .int x0), (1, .int x1)] := hl
  have L4 : ∀ (n : Nat) (x2 : Int32) (x3 : Int32) (h : HI) (g : HL) (H : Heap) (locs : List Loc) (ls : Array Slot), lpN (F_X11_divisor_4 Q) n (x2, x3, h, g) → gG D cy ad (gA ad s.heap.size) s.heap h g H locs → lv_has ls 5 [(2, .int x2), (3, .int x3)] → W p l e ({ frames := 0, cells := 0, slots := 0, locals := 0 } : Room) s m args below meth c H locs 0 0 (MQ below (va_Qi (fun (r : Int32) (u : HI × HL) => Q r u.1 u.2) (gB D cy ad s.heap.size) (gA ad s.heap.size)) args s 0 0 (gA ad s.heap.size)) (F0 m 4 ls []) := by
    intro n
    induction n with
    | zero => intro x2 x3 h g H locs ls HW; exact HW.elim
    | succ n ih =>
      intro x2 x3 h g H locs ls HW hG hl
      have HW : b_X11_divisor_4 Q (fun x2 x3 h g => lpN (F_X11_divisor_4 Q) n (x2, x3, h, g)) x2 x3 h g := HW
      generalize hKe : (fun (x2 : Int32) (x3 : Int32) (h : HI) (g : HL) => lpN (F_X11_divisor_4 Q) n (x2, x3, h, g)) = K4 at HW
      have hK4 : ∀ (x2 : Int32) (x3 : Int32) (h : HI) (g : HL) (H : Heap) (locs : List Loc) (ls : Array Slot), K4 x2 x3 h g → gG D cy ad (gA ad s.heap.size) s.heap h g H locs → lv_has ls 5 [(2, .int x2), (3, .int x3)] → W p l e ({ frames := 0, cells := 0, slots := 0, locals := 0 } : Room) s m args below meth c H locs 0 0 (MQ below (va_Qi (fun (r : Int32) (u : HI × HL) => Q r u.1 u.2) (gB D cy ad s.heap.size) (gA ad s.heap.size)) args s 0 0 (gA ad s.heap.size)) (F0 m 4 ls []) := by subst hKe; exact ih
      clear ih
      clear hKe
      unfold b_X11_divisor_4 at HW
      refine lv_iload_n hx hb dX11_divisor_4 rfl (lv_at hl 1 rfl) ?_
      refine lv_if_eq (tgt := 21) hx hb dX11_divisor_5 (by decide) (fun c_5 => ?_) (fun c_5 => ?_)
      · replace HW := HW.1 c_5
        refine lv_iload_n hx hb dX11_divisor_21 rfl (lv_at hl 0 rfl) ?_
        exact W.iret (v := x2) hx hb hr (fun t ht hW => ⟨⟨x2, (h, g), rfl, HW, g_B ht hG⟩, hG.2.2.F ht⟩) hG.2.2.2.2 dX11_divisor_22
      · replace HW := HW.2 c_5
        refine lv_iload_n hx hb dX11_divisor_8 rfl (lv_at hl 0 rfl) ?_
        refine lv_iload_n hx hb dX11_divisor_9 rfl (lv_at hl 1 rfl) ?_
        refine lv_irem hx hb dX11_divisor_10 HW.1 ?_
        replace HW := HW.2
        refine lv_topi (fun x4_11 ex4_11 => ?_)
        replace HW := HW x4_11 ex4_11
        refine lv_istore (lv' := [(4, .int x4_11), (2, .int x2), (3, .int x3)]) hx hb dX11_divisor_11 hl (by decide) rfl (fun ls hl => ?_)
        refine lv_iload_n hx hb dX11_divisor_13 rfl (lv_at hl 2 rfl) ?_
        refine lv_istore_n (lv' := [(2, .int x3), (4, .int x4_11), (3, .int x3)]) hx hb dX11_divisor_14 rfl hl (by decide) rfl (fun ls hl => ?_)
        refine lv_iload hx hb dX11_divisor_15 (lv_at hl 1 rfl) ?_
        refine lv_istore_n (lv' := [(3, .int x4_11), (2, .int x3), (4, .int x4_11)]) hx hb dX11_divisor_17 rfl hl (by decide) rfl (fun ls hl => ?_)
        refine lv_goto (tgt := 4) hx hb dX11_divisor_18 (by decide) ?_
        exact hK4 x3 x4_11 h g _ _ _ HW hG (lv_sub hl [1, 0] rfl)
  have E0 : ∀ (H : Heap) (locs : List Loc) (ls : Array Slot), gG D cy ad (gA ad s.heap.size) s.heap h g H locs → lv_has ls 5 [(0, .int x0), (1, .int x1)] → W p l e ({ frames := 0, cells := 0, slots := 0, locals := 0 } : Room) s m args below meth c H locs 0 0 (MQ below (va_Qi (fun (r : Int32) (u : HI × HL) => Q r u.1 u.2) (gB D cy ad s.heap.size) (gA ad s.heap.size)) args s 0 0 (gA ad s.heap.size)) (F0 m 0 ls []) := by
    intro H locs ls hG hl
    unfold w_X11_divisor at HW
    refine lv_iload_n hx hb dX11_divisor_0 rfl (lv_at hl 0 rfl) ?_
    refine lv_istore_n (lv' := [(2, .int x0), (0, .int x0), (1, .int x1)]) hx hb dX11_divisor_1 rfl hl (by decide) rfl (fun ls hl => ?_)
    refine lv_iload_n hx hb dX11_divisor_2 rfl (lv_at hl 2 rfl) ?_
    refine lv_istore_n (lv' := [(3, .int x1), (2, .int x0), (0, .int x0), (1, .int x1)]) hx hb dX11_divisor_3 rfl hl (by decide) rfl (fun ls hl => ?_)
    obtain ⟨n_4, HW⟩ := HW
    exact L4 n_4 x0 x1 h g _ _ _ HW hG (lv_sub hl [1, 0] rfl)
  exact E0 _ _ _ hG hl

def w_X11_isDigit (x0 : Int32) (h : HI) (g : HL) (Q : Int32 → HI → HL → Prop) : Prop :=
  (∃ P_6 : Int32 → HI → HL → Prop, w_X11_in ((x0).toInt64) (0 : Int64) (9 : Int64) h g P_6 ∧ ∀ (r_6 : Int32) (h_6 : HI) (g_6 : HL), zb r_6 → P_6 r_6 h_6 g_6 → (zb r_6 ∧ Q r_6 h_6 g_6))
set_option maxHeartbeats 8000000 in
set_option maxRecDepth 100000 in
theorem m_X11_isDigit (l : Launch) (D : va_G) (cy : Nat → ClassId) (ad : Nat → Nat) (h : HI) (g : HL) (sz : Nat) (x0 : Int32) (Q : Int32 → HI → HL → Prop) (HW : w_X11_isDigit x0 h g Q) : Met l yX11_isDigit (wa yX11_isDigit cX11_isDigit 1 (some .boolean)) ({ frames := 1, cells := 0, slots := 0, locals := 25 }) (va_Pc [.int x0] (gI D cy ad h g sz)) (va_Qi (fun (r : Int32) (u : HI × HL) => zb r ∧ Q r u.1 u.2) (gB D cy ad sz) (gA ad sz)) 0 0 (gA ad sz) := by
  refine Met.ofW (cc := cX11_isDigit) (maxL := 1) (ret := (some .boolean)) (by decide) rfl ?_
  intro p e s m args below meth c s₁ B hml hv
  obtain ⟨hav, hsz, hP, hK, hD0, hNw⟩ := hv
  have hx := B.exec
  have hb := B.bytes
  have hr := B.returns
  have hts := atoms_spec (ws := (wa yX11_isDigit cX11_isDigit 1 (some .boolean))) B.pre
  have hw := wa_hw hts
  have hown : s.vm.findClass RX11 = some m.cls := findClass_of_methodNamed B.named
  have hlocks := B.notSynchronized
  subst hsz
  have hG : gG D cy ad (gA ad s.heap.size) s.heap h g s.heap [] := ⟨hP, gA_self hD0, va_S.rf⟩
  clear hP hD0
  have cn258 := hw (.constantLong RX11 258 (9)) (wm6 120 rfl rfl)
  rw [show (headSpec (wa yX11_isDigit cX11_isDigit 1 (some .boolean)) ({ frames := 1, cells := 0, slots := 0, locals := 25 } : Room)).room = ({ frames := 1, cells := 0, slots := 0, locals := 25 } : Room) from rfl]
  have hl := lv_entry ([.int x0]) (n := 1) (Nat.le_of_ble_eq_true rfl)
  rw [show entryFrame m args 1 = entryFrame m ([.int x0] : List Value).toArray 1 from by rw [hav], lg_entry_eq]
  generalize (lg_sl ([.int x0]) ++ List.replicate (1 - (lg_sl ([.int x0])).length) Slot.unset).toArray = ls at hl ⊢
  have hl : lv_has ls 1 [(0, .int x0)] := hl
  have E0 : ∀ (H : Heap) (locs : List Loc) (ls : Array Slot), gG D cy ad (gA ad s.heap.size) s.heap h g H locs → lv_has ls 1 [(0, .int x0)] → W p l e ({ frames := 1, cells := 0, slots := 0, locals := 25 } : Room) s m args below meth c H locs 0 0 (MQ below (va_Qi (fun (r : Int32) (u : HI × HL) => zb r ∧ Q r u.1 u.2) (gB D cy ad s.heap.size) (gA ad s.heap.size)) args s 0 0 (gA ad s.heap.size)) (F0 m 0 ls []) := by
    intro H locs ls hG hl
    unfold w_X11_isDigit at HW
    refine lv_iload_n hx hb dX11_isDigit_0 rfl (lv_at hl 0 rfl) ?_
    refine lv_i2l hx hb dX11_isDigit_1 rfl ?_
    refine lv_lconst (v := 0) hx hb dX11_isDigit_2 (by decide) ?_
    refine lv_ldc2 (v := 9) hx hb hown cn258 dX11_isDigit_3 ?_
    obtain ⟨P_6, HC_6, HW⟩ := HW
    refine g_callz (g_runS (As := [.long ((x0).toInt64), .long (0 : Int64), .long (9 : Int64)]) (rest := []) ⟨hx, hb, hml, hown, hts⟩ (m_X11_in l D cy ad h g H.size ((x0).toInt64) (0 : Int64) (9 : Int64) P_6 HC_6) (va_cwS 3 hts (gd_S (wm5 111 rfl rfl) (wm5 112 rfl rfl) (wm1 13 rfl rfl) (wm5 113 rfl rfl)) rfl rfl rfl (by decide +kernel) ⟨Nat.le_of_ble_eq_true rfl, Nat.le_of_ble_eq_true rfl⟩) hK hNw hG rfl rfl hl.1 rfl (lv_room (Nat.le_of_ble_eq_true rfl)) dX11_isDigit_6 ⟨Nat.zero_le _, Nat.zero_le _⟩) hG (fun r_6 h_6 g_6 H locs hz hq hG => ?_)
    replace HW := HW r_6 h_6 g_6 hz hq
    exact W.zret (v := r_6) hx hb hr (zb_n HW.1) (fun t ht hW => ⟨⟨r_6, (h_6, g_6), rfl, HW, g_B ht hG⟩, hG.2.2.F ht⟩) hG.2.2.2.2 dX11_isDigit_9
  exact E0 _ _ _ hG hl

def w_X11_odds (x1 : Int32) (x2 : Int32) (h : HI) (g : HL) (Q : Int32 → HI → HL → Prop) : Prop :=
  (∃ P_1 : Int32 → HI → HL → Prop, w_X11_isDigit x1 h g P_1 ∧ ∀ (r_1 : Int32) (h_1 : HI) (g_1 : HL), zb r_1 → P_1 r_1 h_1 g_1 → ((r_1 = 0 → Q (-2 : Int32) h_1 g_1) ∧ (¬ r_1 = 0 → (∃ P_8 : Int32 → HI → HL → Prop, w_X11_isDigit x2 h_1 g_1 P_8 ∧ ∀ (r_8 : Int32) (h_8 : HI) (g_8 : HL), zb r_8 → P_8 r_8 h_8 g_8 → ((¬ r_8 = 0 → (vp_in (9 : Int32) 887 ∧ ∀ h_24 : HI, h_24 = hu h_8 136 (9 : Int32).toNatClampNeg x1 → (vp_in (10 : Int32) 887 ∧ ∀ h_32 : HI, h_32 = hu h_24 136 (10 : Int32).toNatClampNeg x2 → Q (1 : Int32) h_32 g_8))) ∧ (r_8 = 0 → Q (-2 : Int32) h_8 g_8))))))
set_option maxHeartbeats 8000000 in
set_option maxRecDepth 100000 in
theorem m_X11_odds (l : Launch) (D : va_G) (cy : Nat → ClassId) (ad : Nat → Nat) (h : HI) (g : HL) (sz : Nat) (x1 : Int32) (x2 : Int32) (Q : Int32 → HI → HL → Prop) (HW : w_X11_odds x1 x2 h g Q) : Met l yX11_odds (wa yX11_odds cX11_odds 3 (some .int)) ({ frames := 2, cells := 0, slots := 0, locals := 45 }) (va_Pc [.ref (ad 135), .int x1, .int x2] (gI D cy ad h g sz)) (va_Qi (fun (r : Int32) (u : HI × HL) => Q r u.1 u.2) (gB D cy ad sz) (gA ad sz)) 0 0 (gA ad sz) := by
  refine Met.ofW (cc := cX11_odds) (maxL := 3) (ret := (some .int)) (by decide) rfl ?_
  intro p e s m args below meth c s₁ B hml hv
  obtain ⟨hav, hsz, hP, hK, hD0, hNw⟩ := hv
  have hx := B.exec
  have hb := B.bytes
  have hr := B.returns
  have hts := atoms_spec (ws := (wa yX11_odds cX11_odds 3 (some .int))) B.pre
  have hw := wa_hw hts
  have hown : s.vm.findClass RX11 = some m.cls := findClass_of_methodNamed B.named
  have hlocks := B.notSynchronized
  subst hsz
  have hG : gG D cy ad (gA ad s.heap.size) s.heap h g s.heap [] := ⟨hP, gA_self hD0, va_S.rf⟩
  clear hP hD0
  have lk7 := hw (.fieldLink RX11 7 "OldWorksModel" "st" "[I") (wm5 27 rfl rfl)
  rw [show (headSpec (wa yX11_odds cX11_odds 3 (some .int)) ({ frames := 2, cells := 0, slots := 0, locals := 45 } : Room)).room = ({ frames := 2, cells := 0, slots := 0, locals := 45 } : Room) from rfl]
  have hl := lv_entry ([.ref (ad 135), .int x1, .int x2]) (n := 3) (Nat.le_of_ble_eq_true rfl)
  rw [show entryFrame m args 3 = entryFrame m ([.ref (ad 135), .int x1, .int x2] : List Value).toArray 3 from by rw [hav], lg_entry_eq]
  generalize (lg_sl ([.ref (ad 135), .int x1, .int x2]) ++ List.replicate (3 - (lg_sl ([.ref (ad 135), .int x1, .int x2])).length) Slot.unset).toArray = ls at hl ⊢
  have hl : lv_has ls 3 [(0, .ref (ad 135)), (1, .int x1), (2, .int x2)] := hl
  have E0 : ∀ (H : Heap) (locs : List Loc) (ls : Array Slot), gG D cy ad (gA ad s.heap.size) s.heap h g H locs → lv_has ls 3 [(0, .ref (ad 135)), (1, .int x1), (2, .int x2)] → W p l e ({ frames := 2, cells := 0, slots := 0, locals := 45 } : Room) s m args below meth c H locs 0 0 (MQ below (va_Qi (fun (r : Int32) (u : HI × HL) => Q r u.1 u.2) (gB D cy ad s.heap.size) (gA ad s.heap.size)) args s 0 0 (gA ad s.heap.size)) (F0 m 0 ls []) := by
    intro H locs ls hG hl
    unfold w_X11_odds at HW
    refine lv_iload_n hx hb dX11_odds_0 rfl (lv_at hl 1 rfl) ?_
    obtain ⟨P_1, HC_1, HW⟩ := HW
    refine g_callz (g_runS (As := [.int x1]) (rest := []) ⟨hx, hb, hml, hown, hts⟩ (m_X11_isDigit l D cy ad h g H.size x1 P_1 HC_1) (va_cwS 1 hts (gd_S (wm6 117 rfl rfl) (wm6 118 rfl rfl) (wm1 13 rfl rfl) (wm6 119 rfl rfl)) rfl rfl rfl (by decide +kernel) ⟨Nat.le_of_ble_eq_true rfl, Nat.le_of_ble_eq_true rfl⟩) hK hNw hG rfl rfl hl.1 rfl (lv_room (Nat.le_of_ble_eq_true rfl)) dX11_odds_1 ⟨Nat.zero_le _, Nat.zero_le _⟩) hG (fun r_1 h_1 g_1 H locs hz hq hG => ?_)
    replace HW := HW r_1 h_1 g_1 hz hq
    refine lv_if_eq (tgt := 14) hx hb dX11_odds_4 (by decide) (fun c_4 => ?_) (fun c_4 => ?_)
    · replace HW := HW.1 c_4
      refine lv_bipush (v := (-2)) hx hb dX11_odds_14 (by decide) ?_
      exact W.iret (v := (-2 : Int32)) hx hb hr (fun t ht hW => ⟨⟨(-2 : Int32), (h_1, g_1), rfl, HW, g_B ht hG⟩, hG.2.2.F ht⟩) hG.2.2.2.2 dX11_odds_16
    · replace HW := HW.2 c_4
      refine lv_iload_n hx hb dX11_odds_7 rfl (lv_at hl 2 rfl) ?_
      obtain ⟨P_8, HC_8, HW⟩ := HW
      refine g_callz (g_runS (As := [.int x2]) (rest := []) ⟨hx, hb, hml, hown, hts⟩ (m_X11_isDigit l D cy ad h_1 g_1 H.size x2 P_8 HC_8) (va_cwS 1 hts (gd_S (wm6 117 rfl rfl) (wm6 118 rfl rfl) (wm1 13 rfl rfl) (wm6 119 rfl rfl)) rfl rfl rfl (by decide +kernel) ⟨Nat.le_of_ble_eq_true rfl, Nat.le_of_ble_eq_true rfl⟩) hK hNw hG rfl rfl hl.1 rfl (lv_room (Nat.le_of_ble_eq_true rfl)) dX11_odds_8 ⟨Nat.zero_le _, Nat.zero_le _⟩) hG (fun r_8 h_8 g_8 H locs hz hq hG => ?_)
      replace HW := HW r_8 h_8 g_8 hz hq
      refine lv_if_ne (tgt := 17) hx hb dX11_odds_11 (by decide) (fun c_11 => ?_) (fun c_11 => ?_)
      · replace HW := HW.1 c_11
        refine lv_aload_n hx hb dX11_odds_17 rfl (lv_at hl 0 rfl) ?_
        refine g_getr hx hb hw inG11 hown hK hG gl_135 rfl gk_135 (by decide) 0 (by decide) (by rw [gm_135]; decide) (r := 136) gr_135_0 lk7 dX11_odds_18 ?_
        refine lv_bipush (v := 9) hx hb dX11_odds_21 (by decide) ?_
        refine lv_iload_n hx hb dX11_odds_23 rfl (lv_at hl 1 rfl) ?_
        refine g_iast hx hb hK hG gl_136 gk_136 gn_136 HW.1 dX11_odds_24 (fun H locs hG => ?_)
        replace HW := HW.2
        obtain ⟨h_24, eh_24⟩ : ∃ y : HI, y = hu h_8 136 (9 : Int32).toNatClampNeg x1 := ⟨_, rfl⟩
        rw [← eh_24] at hG
        replace HW := HW h_24 eh_24
        refine lv_aload_n hx hb dX11_odds_25 rfl (lv_at hl 0 rfl) ?_
        refine g_getr hx hb hw inG11 hown hK hG gl_135 rfl gk_135 (by decide) 0 (by decide) (by rw [gm_135]; decide) (r := 136) gr_135_0 lk7 dX11_odds_26 ?_
        refine lv_bipush (v := 10) hx hb dX11_odds_29 (by decide) ?_
        refine lv_iload_n hx hb dX11_odds_31 rfl (lv_at hl 2 rfl) ?_
        refine g_iast hx hb hK hG gl_136 gk_136 gn_136 HW.1 dX11_odds_32 (fun H locs hG => ?_)
        replace HW := HW.2
        obtain ⟨h_32, eh_32⟩ : ∃ y : HI, y = hu h_24 136 (10 : Int32).toNatClampNeg x2 := ⟨_, rfl⟩
        rw [← eh_32] at hG
        replace HW := HW h_32 eh_32
        refine lv_iconst (v := 1) hx hb dX11_odds_33 (by decide) ?_
        exact W.iret (v := (1 : Int32)) hx hb hr (fun t ht hW => ⟨⟨(1 : Int32), (h_32, g_8), rfl, HW, g_B ht hG⟩, hG.2.2.F ht⟩) hG.2.2.2.2 dX11_odds_34
      · replace HW := HW.2 c_11
        refine lv_bipush (v := (-2)) hx hb dX11_odds_14 (by decide) ?_
        exact W.iret (v := (-2 : Int32)) hx hb hr (fun t ht hW => ⟨⟨(-2 : Int32), (h_8, g_8), rfl, HW, g_B ht hG⟩, hG.2.2.F ht⟩) hG.2.2.2.2 dX11_odds_16
  exact E0 _ _ _ hG hl

def w_X11_whole (x1 : Int32) (h : HI) (g : HL) (Q : Int32 → HI → HL → Prop) : Prop :=
  (vp_in (9 : Int32) 887 ∧ (vp_in (10 : Int32) 887 ∧ (∃ P_17 : Int32 → HI → HL → Prop, w_X11_partOf x1 (0 : Int32) h g P_17 ∧ ∀ (r_17 : Int32) (h_17 : HI) (g_17 : HL), P_17 r_17 h_17 g_17 → (∀ x2_22 : Int32, x2_22 = ((h 136 (9 : Int32).toNatClampNeg) + ((h 136 (10 : Int32).toNatClampNeg) * r_17)) → ((x2_22 ≤ (1000 : Int32) → Q ((1000 : Int32) - x2_22) h_17 g_17) ∧ (¬ x2_22 ≤ (1000 : Int32) → Q (0 : Int32) h_17 g_17))))))
set_option maxHeartbeats 8000000 in
set_option maxRecDepth 100000 in
theorem m_X11_whole (l : Launch) (D : va_G) (cy : Nat → ClassId) (ad : Nat → Nat) (h : HI) (g : HL) (sz : Nat) (x1 : Int32) (Q : Int32 → HI → HL → Prop) (HW : w_X11_whole x1 h g Q) : Met l yX11_whole (wa yX11_whole cX11_whole 3 (some .int)) ({ frames := 1, cells := 0, slots := 0, locals := 22 }) (va_Pc [.ref (ad 135), .int x1] (gI D cy ad h g sz)) (va_Qi (fun (r : Int32) (u : HI × HL) => Q r u.1 u.2) (gB D cy ad sz) (gA ad sz)) 0 0 (gA ad sz) := by
  refine Met.ofW (cc := cX11_whole) (maxL := 3) (ret := (some .int)) (by decide) rfl ?_
  intro p e s m args below meth c s₁ B hml hv
  obtain ⟨hav, hsz, hP, hK, hD0, hNw⟩ := hv
  have hx := B.exec
  have hb := B.bytes
  have hr := B.returns
  have hts := atoms_spec (ws := (wa yX11_whole cX11_whole 3 (some .int))) B.pre
  have hw := wa_hw hts
  have hown : s.vm.findClass RX11 = some m.cls := findClass_of_methodNamed B.named
  have hlocks := B.notSynchronized
  subst hsz
  have hG : gG D cy ad (gA ad s.heap.size) s.heap h g s.heap [] := ⟨hP, gA_self hD0, va_S.rf⟩
  clear hP hD0
  have lk7 := hw (.fieldLink RX11 7 "OldWorksModel" "st" "[I") (wm5 27 rfl rfl)
  rw [show (headSpec (wa yX11_whole cX11_whole 3 (some .int)) ({ frames := 1, cells := 0, slots := 0, locals := 22 } : Room)).room = ({ frames := 1, cells := 0, slots := 0, locals := 22 } : Room) from rfl]
  have hl := lv_entry ([.ref (ad 135), .int x1]) (n := 3) (Nat.le_of_ble_eq_true rfl)
  rw [show entryFrame m args 3 = entryFrame m ([.ref (ad 135), .int x1] : List Value).toArray 3 from by rw [hav], lg_entry_eq]
  generalize (lg_sl ([.ref (ad 135), .int x1]) ++ List.replicate (3 - (lg_sl ([.ref (ad 135), .int x1])).length) Slot.unset).toArray = ls at hl ⊢
  have hl : lv_has ls 3 [(0, .ref (ad 135)), (1, .int x1)] := hl
  have E0 : ∀ (H : Heap) (locs : List Loc) (ls : Array Slot), gG D cy ad (gA ad s.heap.size) s.heap h g H locs → lv_has ls 3 [(0, .ref (ad 135)), (1, .int x1)] → W p l e ({ frames := 1, cells := 0, slots := 0, locals := 22 } : Room) s m args below meth c H locs 0 0 (MQ below (va_Qi (fun (r : Int32) (u : HI × HL) => Q r u.1 u.2) (gB D cy ad s.heap.size) (gA ad s.heap.size)) args s 0 0 (gA ad s.heap.size)) (F0 m 0 ls []) := by
    intro H locs ls hG hl
    unfold w_X11_whole at HW
    refine lv_aload_n hx hb dX11_whole_0 rfl (lv_at hl 0 rfl) ?_
    refine g_getr hx hb hw inG11 hown hK hG gl_135 rfl gk_135 (by decide) 0 (by decide) (by rw [gm_135]; decide) (r := 136) gr_135_0 lk7 dX11_whole_1 ?_
    refine lv_bipush (v := 9) hx hb dX11_whole_4 (by decide) ?_
    refine g_iald hx hb hK hG gl_136 gk_136 gn_136 HW.1 dX11_whole_6 ?_
    replace HW := HW.2
    refine lv_aload_n hx hb dX11_whole_7 rfl (lv_at hl 0 rfl) ?_
    refine g_getr hx hb hw inG11 hown hK hG gl_135 rfl gk_135 (by decide) 0 (by decide) (by rw [gm_135]; decide) (r := 136) gr_135_0 lk7 dX11_whole_8 ?_
    refine lv_bipush (v := 10) hx hb dX11_whole_11 (by decide) ?_
    refine g_iald hx hb hK hG gl_136 gk_136 gn_136 HW.1 dX11_whole_13 ?_
    replace HW := HW.2
    refine lv_aload_n hx hb dX11_whole_14 rfl (lv_at hl 0 rfl) ?_
    refine lv_iload_n hx hb dX11_whole_15 rfl (lv_at hl 1 rfl) ?_
    refine lv_iconst (v := 0) hx hb dX11_whole_16 (by decide) ?_
    obtain ⟨P_17, HC_17, HW⟩ := HW
    refine g_calli (g_runV (As := [.int x1, .int (0 : Int32)]) (rest := [.int (h 136 (10 : Int32).toNatClampNeg), .int (h 136 (9 : Int32).toNatClampNeg)]) ⟨hx, hb, hml, hown, hts⟩ (m_X11_partOf l D cy ad h g H.size x1 (0 : Int32) P_17 HC_17) (cwV 2 hts (gd_V (wm5 192 rfl rfl) (wm5 194 rfl rfl) (wmp4 (q := (yX11_partOf, 26)) 0 rfl) (wm1 13 rfl rfl) (wm5 195 rfl rfl)) rfl rfl rfl (by decide +kernel) ⟨Nat.le_of_ble_eq_true rfl, Nat.le_of_ble_eq_true rfl⟩) hK hNw hG gl_135 rfl gk_135 (by decide) rfl rfl hl.1 rfl (lv_room (Nat.le_of_ble_eq_true rfl)) dX11_whole_17 ⟨Nat.zero_le _, Nat.zero_le _⟩) hG (fun r_17 h_17 g_17 H locs hq hG => ?_)
    replace HW := HW r_17 h_17 g_17 hq
    refine lv_imul hx hb dX11_whole_20 ?_
    refine lv_iadd hx hb dX11_whole_21 ?_
    refine lv_topi (fun x2_22 ex2_22 => ?_)
    replace HW := HW x2_22 ex2_22
    refine lv_istore_n (lv' := [(2, .int x2_22), (0, .ref (ad 135)), (1, .int x1)]) hx hb dX11_whole_22 rfl hl (by decide) rfl (fun ls hl => ?_)
    refine lv_iload_n hx hb dX11_whole_23 rfl (lv_at hl 0 rfl) ?_
    refine lv_sipush (v := 1000) hx hb dX11_whole_24 (by decide) ?_
    refine lv_icmp_le (tgt := 34) hx hb dX11_whole_27 (by decide) (fun c_27 => ?_) (fun c_27 => ?_)
    · replace HW := HW.1 c_27
      refine lv_sipush (v := 1000) hx hb dX11_whole_34 (by decide) ?_
      refine lv_iload_n hx hb dX11_whole_37 rfl (lv_at hl 0 rfl) ?_
      refine lv_isub hx hb dX11_whole_38 ?_
      exact W.iret (v := ((1000 : Int32) - x2_22)) hx hb hr (fun t ht hW => ⟨⟨((1000 : Int32) - x2_22), (h_17, g_17), rfl, HW, g_B ht hG⟩, hG.2.2.F ht⟩) hG.2.2.2.2 dX11_whole_39
    · replace HW := HW.2 c_27
      refine lv_iconst (v := 0) hx hb dX11_whole_30 (by decide) ?_
      refine lv_goto (tgt := 39) hx hb dX11_whole_31 (by decide) ?_
      exact W.iret (v := (0 : Int32)) hx hb hr (fun t ht hW => ⟨⟨(0 : Int32), (h_17, g_17), rfl, HW, g_B ht hG⟩, hG.2.2.F ht⟩) hG.2.2.2.2 dX11_whole_39
  exact E0 _ _ _ hG hl

def b_X11_powers_9 (Q : HI → HL → Prop) (K9 : Int32 → Int32 → Int32 → Int32 → HI → HL → Prop) (x1 : Int32) (x2 : Int32) (x3 : Int32) (x4 : Int32) (h : HI) (g : HL) : Prop :=
  ((x3 ≤ x4 → Q h g) ∧ (¬ x3 ≤ x4 → (∃ P_18 : HI → HL → Prop, w_X11_times x1 x2 h g P_18 ∧ ∀ (h_18 : HI) (g_18 : HL), P_18 h_18 g_18 → (∀ x4_21 : Int32, x4_21 = (x4 + 1) → K9 x1 x2 x3 x4_21 h_18 g_18))))
def F_X11_powers_9 (Q : HI → HL → Prop) (K : Int32 × Int32 × Int32 × Int32 × HI × HL → Prop) (q : Int32 × Int32 × Int32 × Int32 × HI × HL) : Prop := b_X11_powers_9 Q (fun x1 x2 x3 x4 h g => K (x1, x2, x3, x4, h, g)) q.1 q.2.1 q.2.2.1 q.2.2.2.1 q.2.2.2.2.1 q.2.2.2.2.2
def w_X11_powers (x1 : Int32) (x2 : Int32) (x3 : Int32) (h : HI) (g : HL) (Q : HI → HL → Prop) : Prop :=
  (∃ P_3 : HI → HL → Prop, w_X11_sets x1 (1 : Int32) h g P_3 ∧ ∀ (h_3 : HI) (g_3 : HL), P_3 h_3 g_3 → lpE (F_X11_powers_9 Q) (x1, x2, x3, (0 : Int32), h_3, g_3))
set_option maxHeartbeats 8000000 in
set_option maxRecDepth 100000 in
theorem m_X11_powers (l : Launch) (D : va_G) (cy : Nat → ClassId) (ad : Nat → Nat) (h : HI) (g : HL) (sz : Nat) (x1 : Int32) (x2 : Int32) (x3 : Int32) (Q : HI → HL → Prop) (HW : w_X11_powers x1 x2 x3 h g Q) : Met l yX11_powers (wa yX11_powers cX11_powers 5 none) ({ frames := 1, cells := 0, slots := 0, locals := 27 }) (va_Pc [.ref (ad 135), .int x1, .int x2, .int x3] (gI D cy ad h g sz)) (va_Qv (fun (u : HI × HL) => Q u.1 u.2) (gB D cy ad sz) (gA ad sz)) 0 0 (gA ad sz) := by
  refine Met.ofW (cc := cX11_powers) (maxL := 5) (ret := none) (by decide) rfl ?_
  intro p e s m args below meth c s₁ B hml hv
  obtain ⟨hav, hsz, hP, hK, hD0, hNw⟩ := hv
  have hx := B.exec
  have hb := B.bytes
  have hr := B.returns
  have hts := atoms_spec (ws := (wa yX11_powers cX11_powers 5 none)) B.pre
  have hw := wa_hw hts
  have hown : s.vm.findClass RX11 = some m.cls := findClass_of_methodNamed B.named
  have hlocks := B.notSynchronized
  subst hsz
  have hG : gG D cy ad (gA ad s.heap.size) s.heap h g s.heap [] := ⟨hP, gA_self hD0, va_S.rf⟩
  clear hP hD0
  rw [show (headSpec (wa yX11_powers cX11_powers 5 none) ({ frames := 1, cells := 0, slots := 0, locals := 27 } : Room)).room = ({ frames := 1, cells := 0, slots := 0, locals := 27 } : Room) from rfl]
  have hl := lv_entry ([.ref (ad 135), .int x1, .int x2, .int x3]) (n := 5) (Nat.le_of_ble_eq_true rfl)
  rw [show entryFrame m args 5 = entryFrame m ([.ref (ad 135), .int x1, .int x2, .int x3] : List Value).toArray 5 from by rw [hav], lg_entry_eq]
  generalize (lg_sl ([.ref (ad 135), .int x1, .int x2, .int x3]) ++ List.replicate (5 - (lg_sl ([.ref (ad 135), .int x1, .int x2, .int x3])).length) Slot.unset).toArray = ls at hl ⊢
  have hl : lv_has ls 5 [(0, .ref (ad 135)), (1, .int x1), (2, .int x2), (3, .int x3)] := hl
  have L9 : ∀ (n : Nat) (x1 : Int32) (x2 : Int32) (x3 : Int32) (x4 : Int32) (h : HI) (g : HL) (H : Heap) (locs : List Loc) (ls : Array Slot), lpN (F_X11_powers_9 Q) n (x1, x2, x3, x4, h, g) → gG D cy ad (gA ad s.heap.size) s.heap h g H locs → lv_has ls 5 [(0, .ref (ad 135)), (1, .int x1), (2, .int x2), (3, .int x3), (4, .int x4)] → W p l e ({ frames := 1, cells := 0, slots := 0, locals := 27 } : Room) s m args below meth c H locs 0 0 (MQ below (va_Qv (fun (u : HI × HL) => Q u.1 u.2) (gB D cy ad s.heap.size) (gA ad s.heap.size)) args s 0 0 (gA ad s.heap.size)) (F0 m 9 ls []) := by
    intro n
    induction n with
    | zero => intro x1 x2 x3 x4 h g H locs ls HW; exact HW.elim
    | succ n ih =>
      intro x1 x2 x3 x4 h g H locs ls HW hG hl
      have HW : b_X11_powers_9 Q (fun x1 x2 x3 x4 h g => lpN (F_X11_powers_9 Q) n (x1, x2, x3, x4, h, g)) x1 x2 x3 x4 h g := HW
      generalize hKe : (fun (x1 : Int32) (x2 : Int32) (x3 : Int32) (x4 : Int32) (h : HI) (g : HL) => lpN (F_X11_powers_9 Q) n (x1, x2, x3, x4, h, g)) = K9 at HW
      have hK9 : ∀ (x1 : Int32) (x2 : Int32) (x3 : Int32) (x4 : Int32) (h : HI) (g : HL) (H : Heap) (locs : List Loc) (ls : Array Slot), K9 x1 x2 x3 x4 h g → gG D cy ad (gA ad s.heap.size) s.heap h g H locs → lv_has ls 5 [(0, .ref (ad 135)), (1, .int x1), (2, .int x2), (3, .int x3), (4, .int x4)] → W p l e ({ frames := 1, cells := 0, slots := 0, locals := 27 } : Room) s m args below meth c H locs 0 0 (MQ below (va_Qv (fun (u : HI × HL) => Q u.1 u.2) (gB D cy ad s.heap.size) (gA ad s.heap.size)) args s 0 0 (gA ad s.heap.size)) (F0 m 9 ls []) := by subst hKe; exact ih
      clear ih
      clear hKe
      unfold b_X11_powers_9 at HW
      refine lv_iload hx hb dX11_powers_9 (lv_at hl 4 rfl) ?_
      refine lv_iload_n hx hb dX11_powers_11 rfl (lv_at hl 3 rfl) ?_
      refine lv_icmp_ge (tgt := 27) hx hb dX11_powers_12 (by decide) (fun c_12 => ?_) (fun c_12 => ?_)
      · replace HW := HW.1 c_12
        exact W.vret hx hb hr (fun t ht hW => ⟨⟨(h, g), rfl, HW, g_B ht hG⟩, hG.2.2.F ht⟩) hG.2.2.2.2 dX11_powers_27
      · replace HW := HW.2 c_12
        refine lv_aload_n hx hb dX11_powers_15 rfl (lv_at hl 0 rfl) ?_
        refine lv_iload_n hx hb dX11_powers_16 rfl (lv_at hl 1 rfl) ?_
        refine lv_iload_n hx hb dX11_powers_17 rfl (lv_at hl 2 rfl) ?_
        obtain ⟨P_18, HC_18, HW⟩ := HW
        refine g_callv (g_runV (As := [.int x1, .int x2]) (rest := []) ⟨hx, hb, hml, hown, hts⟩ (m_X11_times l D cy ad h g H.size x1 x2 P_18 HC_18) (cwV 2 hts (gd_V (wm6 141 rfl rfl) (wm6 143 rfl rfl) (wmp5 (q := (yX11_times, 26)) 8 rfl) (wm1 13 rfl rfl) (wm6 144 rfl rfl)) rfl rfl rfl (by decide +kernel) ⟨Nat.le_of_ble_eq_true rfl, Nat.le_of_ble_eq_true rfl⟩) hK hNw hG gl_135 rfl gk_135 (by decide) rfl rfl hl.1 rfl (lv_room (Nat.le_of_ble_eq_true rfl)) dX11_powers_18 ⟨Nat.zero_le _, Nat.zero_le _⟩) hG (fun h_18 g_18 H locs hq hG => ?_)
        replace HW := HW h_18 g_18 hq
        obtain ⟨x4_21, ex4_21⟩ : ∃ y : Int32, y = (x4 + 1) := ⟨_, rfl⟩
        replace HW := HW x4_21 ex4_21
        refine lv_iinc (v := x4_21) (lv' := [(4, .int x4_21), (0, .ref (ad 135)), (1, .int x1), (2, .int x2), (3, .int x3)]) hx hb dX11_powers_21 hl (k := 4) rfl (by rw [ex4_21]; rfl) (by decide) rfl (fun ls hl => ?_)
        refine lv_goto (tgt := 9) hx hb dX11_powers_24 (by decide) ?_
        exact hK9 x1 x2 x3 x4_21 h_18 g_18 _ _ _ HW hG (lv_sub hl [1, 2, 3, 4, 0] rfl)
  have E0 : ∀ (H : Heap) (locs : List Loc) (ls : Array Slot), gG D cy ad (gA ad s.heap.size) s.heap h g H locs → lv_has ls 5 [(0, .ref (ad 135)), (1, .int x1), (2, .int x2), (3, .int x3)] → W p l e ({ frames := 1, cells := 0, slots := 0, locals := 27 } : Room) s m args below meth c H locs 0 0 (MQ below (va_Qv (fun (u : HI × HL) => Q u.1 u.2) (gB D cy ad s.heap.size) (gA ad s.heap.size)) args s 0 0 (gA ad s.heap.size)) (F0 m 0 ls []) := by
    intro H locs ls hG hl
    unfold w_X11_powers at HW
    refine lv_aload_n hx hb dX11_powers_0 rfl (lv_at hl 0 rfl) ?_
    refine lv_iload_n hx hb dX11_powers_1 rfl (lv_at hl 1 rfl) ?_
    refine lv_iconst (v := 1) hx hb dX11_powers_2 (by decide) ?_
    obtain ⟨P_3, HC_3, HW⟩ := HW
    refine g_callv (g_runV (As := [.int x1, .int (1 : Int32)]) (rest := []) ⟨hx, hb, hml, hown, hts⟩ (m_X11_sets l D cy ad h g H.size x1 (1 : Int32) P_3 HC_3) (cwV 2 hts (gd_V (wm6 137 rfl rfl) (wm6 139 rfl rfl) (wmp5 (q := (yX11_sets, 26)) 7 rfl) (wm1 13 rfl rfl) (wm6 140 rfl rfl)) rfl rfl rfl (by decide +kernel) ⟨Nat.le_of_ble_eq_true rfl, Nat.le_of_ble_eq_true rfl⟩) hK hNw hG gl_135 rfl gk_135 (by decide) rfl rfl hl.1 rfl (lv_room (Nat.le_of_ble_eq_true rfl)) dX11_powers_3 ⟨Nat.zero_le _, Nat.zero_le _⟩) hG (fun h_3 g_3 H locs hq hG => ?_)
    replace HW := HW h_3 g_3 hq
    refine lv_iconst (v := 0) hx hb dX11_powers_6 (by decide) ?_
    refine lv_istore (lv' := [(4, .int (0 : Int32)), (0, .ref (ad 135)), (1, .int x1), (2, .int x2), (3, .int x3)]) hx hb dX11_powers_7 hl (by decide) rfl (fun ls hl => ?_)
    obtain ⟨n_9, HW⟩ := HW
    exact L9 n_9 x1 x2 x3 (0 : Int32) h_3 g_3 _ _ _ HW hG (lv_sub hl [1, 2, 3, 4, 0] rfl)
  exact E0 _ _ _ hG hl

def j_X11_lasts_47 (Q : Int32 → HI → HL → Prop) (x2 : Int32) (x3 : Int32) (s0 : Int32) (h : HI) (g : HL) : Prop :=
  (¬ s0 = 0 ∧ (∃ P_56 : HI → HL → Prop, w_X11_powers (0 : Int32) (x3 / s0) x2 h g P_56 ∧ ∀ (h_56 : HI) (g_56 : HL), P_56 h_56 g_56 → (¬ s0 = 0 ∧ (∃ P_68 : HI → HL → Prop, w_X11_powers (1 : Int32) ((1000 : Int32) / s0) x2 h_56 g_56 P_68 ∧ ∀ (h_68 : HI) (g_68 : HL), P_68 h_68 g_68 → Q (1 : Int32) h_68 g_68))))
def w_X11_lasts (x1 : Int32) (x2 : Int32) (h : HI) (g : HL) (Q : Int32 → HI → HL → Prop) : Prop :=
  (∃ P_3 : Int32 → HI → HL → Prop, w_X11_is (0 : Int32) x1 h g P_3 ∧ ∀ (r_3 : Int32) (h_3 : HI) (g_3 : HL), zb r_3 → P_3 r_3 h_3 g_3 → ((r_3 = 0 → Q (-2 : Int32) h_3 g_3) ∧ (¬ r_3 = 0 → (∃ P_15 : Int32 → HI → HL → Prop, w_X11_in ((x2).toInt64) (0 : Int64) (60 : Int64) h_3 g_3 P_15 ∧ ∀ (r_15 : Int32) (h_15 : HI) (g_15 : HL), zb r_15 → P_15 r_15 h_15 g_15 → ((¬ r_15 = 0 → (∃ P_26 : Int32 → HI → HL → Prop, w_X11_whole x1 h_15 g_15 P_26 ∧ ∀ (r_26 : Int32) (h_26 : HI) (g_26 : HL), P_26 r_26 h_26 g_26 → ((¬ r_26 = 0 → (∃ P_44 : Int32 → HI → HL → Prop, w_X11_divisor r_26 (1000 : Int32) h_26 g_26 P_44 ∧ ∀ (r_44 : Int32) (h_44 : HI) (g_44 : HL), P_44 r_44 h_44 g_44 → j_X11_lasts_47 Q x2 r_26 r_44 h_44 g_44)) ∧ (r_26 = 0 → j_X11_lasts_47 Q x2 r_26 (1000 : Int32) h_26 g_26)))) ∧ (r_15 = 0 → Q (-2 : Int32) h_15 g_15))))))
set_option maxHeartbeats 8000000 in
set_option maxRecDepth 100000 in
theorem m_X11_lasts (l : Launch) (D : va_G) (cy : Nat → ClassId) (ad : Nat → Nat) (h : HI) (g : HL) (sz : Nat) (x1 : Int32) (x2 : Int32) (Q : Int32 → HI → HL → Prop) (HW : w_X11_lasts x1 x2 h g Q) : Met l yX11_lasts (wa yX11_lasts cX11_lasts 5 (some .int)) ({ frames := 2, cells := 0, slots := 0, locals := 51 }) (va_Pc [.ref (ad 135), .int x1, .int x2] (gI D cy ad h g sz)) (va_Qi (fun (r : Int32) (u : HI × HL) => Q r u.1 u.2) (gB D cy ad sz) (gA ad sz)) 0 0 (gA ad sz) := by
  refine Met.ofW (cc := cX11_lasts) (maxL := 5) (ret := (some .int)) (by decide) rfl ?_
  intro p e s m args below meth c s₁ B hml hv
  obtain ⟨hav, hsz, hP, hK, hD0, hNw⟩ := hv
  have hx := B.exec
  have hb := B.bytes
  have hr := B.returns
  have hts := atoms_spec (ws := (wa yX11_lasts cX11_lasts 5 (some .int))) B.pre
  have hw := wa_hw hts
  have hown : s.vm.findClass RX11 = some m.cls := findClass_of_methodNamed B.named
  have hlocks := B.notSynchronized
  subst hsz
  have hG : gG D cy ad (gA ad s.heap.size) s.heap h g s.heap [] := ⟨hP, gA_self hD0, va_S.rf⟩
  clear hP hD0
  have cn269 := hw (.constantLong RX11 269 (60)) (wm6 125 rfl rfl)
  rw [show (headSpec (wa yX11_lasts cX11_lasts 5 (some .int)) ({ frames := 2, cells := 0, slots := 0, locals := 51 } : Room)).room = ({ frames := 2, cells := 0, slots := 0, locals := 51 } : Room) from rfl]
  have hl := lv_entry ([.ref (ad 135), .int x1, .int x2]) (n := 5) (Nat.le_of_ble_eq_true rfl)
  rw [show entryFrame m args 5 = entryFrame m ([.ref (ad 135), .int x1, .int x2] : List Value).toArray 5 from by rw [hav], lg_entry_eq]
  generalize (lg_sl ([.ref (ad 135), .int x1, .int x2]) ++ List.replicate (5 - (lg_sl ([.ref (ad 135), .int x1, .int x2])).length) Slot.unset).toArray = ls at hl ⊢
  have hl : lv_has ls 5 [(0, .ref (ad 135)), (1, .int x1), (2, .int x2)] := hl
  have B47 : ∀ (x2 : Int32) (x3 : Int32) (s0 : Int32) (h : HI) (g : HL) (H : Heap) (locs : List Loc) (ls : Array Slot), j_X11_lasts_47 Q x2 x3 s0 h g → gG D cy ad (gA ad s.heap.size) s.heap h g H locs → lv_has ls 5 [(0, .ref (ad 135)), (2, .int x2), (3, .int x3)] → W p l e ({ frames := 2, cells := 0, slots := 0, locals := 51 } : Room) s m args below meth c H locs 0 0 (MQ below (va_Qi (fun (r : Int32) (u : HI × HL) => Q r u.1 u.2) (gB D cy ad s.heap.size) (gA ad s.heap.size)) args s 0 0 (gA ad s.heap.size)) (F0 m 47 ls [.int s0]) := by
    intro x2 x3 s0 h g H locs ls HW hG hl
    unfold j_X11_lasts_47 at HW
    refine lv_istore (lv' := [(4, .int s0), (0, .ref (ad 135)), (2, .int x2), (3, .int x3)]) hx hb dX11_lasts_47 hl (by decide) rfl (fun ls hl => ?_)
    refine lv_aload_n hx hb dX11_lasts_49 rfl (lv_at hl 1 rfl) ?_
    refine lv_iconst (v := 0) hx hb dX11_lasts_50 (by decide) ?_
    refine lv_iload_n hx hb dX11_lasts_51 rfl (lv_at hl 3 rfl) ?_
    refine lv_iload hx hb dX11_lasts_52 (lv_at hl 0 rfl) ?_
    refine lv_idiv hx hb dX11_lasts_54 HW.1 ?_
    replace HW := HW.2
    refine lv_iload_n hx hb dX11_lasts_55 rfl (lv_at hl 2 rfl) ?_
    obtain ⟨P_56, HC_56, HW⟩ := HW
    refine g_callv (g_runV (As := [.int (0 : Int32), .int (x3 / s0), .int x2]) (rest := []) ⟨hx, hb, hml, hown, hts⟩ (m_X11_powers l D cy ad h g H.size (0 : Int32) (x3 / s0) x2 P_56 HC_56) (cwV 3 hts (gd_V (wm6 133 rfl rfl) (wm6 135 rfl rfl) (wmp5 (q := (yX11_powers, 26)) 6 rfl) (wm1 13 rfl rfl) (wm6 136 rfl rfl)) rfl rfl rfl (by decide +kernel) ⟨Nat.le_of_ble_eq_true rfl, Nat.le_of_ble_eq_true rfl⟩) hK hNw hG gl_135 rfl gk_135 (by decide) rfl rfl hl.1 rfl (lv_room (Nat.le_of_ble_eq_true rfl)) dX11_lasts_56 ⟨Nat.zero_le _, Nat.zero_le _⟩) hG (fun h_56 g_56 H locs hq hG => ?_)
    replace HW := HW h_56 g_56 hq
    refine lv_aload_n hx hb dX11_lasts_59 rfl (lv_at hl 1 rfl) ?_
    refine lv_iconst (v := 1) hx hb dX11_lasts_60 (by decide) ?_
    refine lv_sipush (v := 1000) hx hb dX11_lasts_61 (by decide) ?_
    refine lv_iload hx hb dX11_lasts_64 (lv_at hl 0 rfl) ?_
    refine lv_idiv hx hb dX11_lasts_66 HW.1 ?_
    replace HW := HW.2
    refine lv_iload_n hx hb dX11_lasts_67 rfl (lv_at hl 2 rfl) ?_
    obtain ⟨P_68, HC_68, HW⟩ := HW
    refine g_callv (g_runV (As := [.int (1 : Int32), .int ((1000 : Int32) / s0), .int x2]) (rest := []) ⟨hx, hb, hml, hown, hts⟩ (m_X11_powers l D cy ad h_56 g_56 H.size (1 : Int32) ((1000 : Int32) / s0) x2 P_68 HC_68) (cwV 3 hts (gd_V (wm6 133 rfl rfl) (wm6 135 rfl rfl) (wmp5 (q := (yX11_powers, 26)) 6 rfl) (wm1 13 rfl rfl) (wm6 136 rfl rfl)) rfl rfl rfl (by decide +kernel) ⟨Nat.le_of_ble_eq_true rfl, Nat.le_of_ble_eq_true rfl⟩) hK hNw hG gl_135 rfl gk_135 (by decide) rfl rfl hl.1 rfl (lv_room (Nat.le_of_ble_eq_true rfl)) dX11_lasts_68 ⟨Nat.zero_le _, Nat.zero_le _⟩) hG (fun h_68 g_68 H locs hq hG => ?_)
    replace HW := HW h_68 g_68 hq
    refine lv_iconst (v := 1) hx hb dX11_lasts_71 (by decide) ?_
    exact W.iret (v := (1 : Int32)) hx hb hr (fun t ht hW => ⟨⟨(1 : Int32), (h_68, g_68), rfl, HW, g_B ht hG⟩, hG.2.2.F ht⟩) hG.2.2.2.2 dX11_lasts_72
  have E0 : ∀ (H : Heap) (locs : List Loc) (ls : Array Slot), gG D cy ad (gA ad s.heap.size) s.heap h g H locs → lv_has ls 5 [(0, .ref (ad 135)), (1, .int x1), (2, .int x2)] → W p l e ({ frames := 2, cells := 0, slots := 0, locals := 51 } : Room) s m args below meth c H locs 0 0 (MQ below (va_Qi (fun (r : Int32) (u : HI × HL) => Q r u.1 u.2) (gB D cy ad s.heap.size) (gA ad s.heap.size)) args s 0 0 (gA ad s.heap.size)) (F0 m 0 ls []) := by
    intro H locs ls hG hl
    unfold w_X11_lasts at HW
    refine lv_aload_n hx hb dX11_lasts_0 rfl (lv_at hl 0 rfl) ?_
    refine lv_iconst (v := 0) hx hb dX11_lasts_1 (by decide) ?_
    refine lv_iload_n hx hb dX11_lasts_2 rfl (lv_at hl 1 rfl) ?_
    obtain ⟨P_3, HC_3, HW⟩ := HW
    refine g_callz (g_runV (As := [.int (0 : Int32), .int x1]) (rest := []) ⟨hx, hb, hml, hown, hts⟩ (m_X11_is l D cy ad h g H.size (0 : Int32) x1 P_3 HC_3) (cwV 2 hts (gd_V (wm5 184 rfl rfl) (wm5 186 rfl rfl) (wmp3 (q := (yX11_is, 26)) 14 rfl) (wm1 13 rfl rfl) (wm5 187 rfl rfl)) rfl rfl rfl (by decide +kernel) ⟨Nat.le_of_ble_eq_true rfl, Nat.le_of_ble_eq_true rfl⟩) hK hNw hG gl_135 rfl gk_135 (by decide) rfl rfl hl.1 rfl (lv_room (Nat.le_of_ble_eq_true rfl)) dX11_lasts_3 ⟨Nat.zero_le _, Nat.zero_le _⟩) hG (fun r_3 h_3 g_3 H locs hz hq hG => ?_)
    replace HW := HW r_3 h_3 g_3 hz hq
    refine lv_if_eq (tgt := 21) hx hb dX11_lasts_6 (by decide) (fun c_6 => ?_) (fun c_6 => ?_)
    · replace HW := HW.1 c_6
      refine lv_bipush (v := (-2)) hx hb dX11_lasts_21 (by decide) ?_
      exact W.iret (v := (-2 : Int32)) hx hb hr (fun t ht hW => ⟨⟨(-2 : Int32), (h_3, g_3), rfl, HW, g_B ht hG⟩, hG.2.2.F ht⟩) hG.2.2.2.2 dX11_lasts_23
    · replace HW := HW.2 c_6
      refine lv_iload_n hx hb dX11_lasts_9 rfl (lv_at hl 2 rfl) ?_
      refine lv_i2l hx hb dX11_lasts_10 rfl ?_
      refine lv_lconst (v := 0) hx hb dX11_lasts_11 (by decide) ?_
      refine lv_ldc2 (v := 60) hx hb hown cn269 dX11_lasts_12 ?_
      obtain ⟨P_15, HC_15, HW⟩ := HW
      refine g_callz (g_runS (As := [.long ((x2).toInt64), .long (0 : Int64), .long (60 : Int64)]) (rest := []) ⟨hx, hb, hml, hown, hts⟩ (m_X11_in l D cy ad h_3 g_3 H.size ((x2).toInt64) (0 : Int64) (60 : Int64) P_15 HC_15) (va_cwS 3 hts (gd_S (wm5 111 rfl rfl) (wm5 112 rfl rfl) (wm1 13 rfl rfl) (wm5 113 rfl rfl)) rfl rfl rfl (by decide +kernel) ⟨Nat.le_of_ble_eq_true rfl, Nat.le_of_ble_eq_true rfl⟩) hK hNw hG rfl rfl hl.1 rfl (lv_room (Nat.le_of_ble_eq_true rfl)) dX11_lasts_15 ⟨Nat.zero_le _, Nat.zero_le _⟩) hG (fun r_15 h_15 g_15 H locs hz hq hG => ?_)
      replace HW := HW r_15 h_15 g_15 hz hq
      refine lv_if_ne (tgt := 24) hx hb dX11_lasts_18 (by decide) (fun c_18 => ?_) (fun c_18 => ?_)
      · replace HW := HW.1 c_18
        refine lv_aload_n hx hb dX11_lasts_24 rfl (lv_at hl 0 rfl) ?_
        refine lv_iload_n hx hb dX11_lasts_25 rfl (lv_at hl 1 rfl) ?_
        obtain ⟨P_26, HC_26, HW⟩ := HW
        refine g_calli (g_runV (As := [.int x1]) (rest := []) ⟨hx, hb, hml, hown, hts⟩ (m_X11_whole l D cy ad h_15 g_15 H.size x1 P_26 HC_26) (cwV 1 hts (gd_V (wm6 126 rfl rfl) (wm6 128 rfl rfl) (wmp5 (q := (yX11_whole, 26)) 5 rfl) (wm1 13 rfl rfl) (wm6 129 rfl rfl)) rfl rfl rfl (by decide +kernel) ⟨Nat.le_of_ble_eq_true rfl, Nat.le_of_ble_eq_true rfl⟩) hK hNw hG gl_135 rfl gk_135 (by decide) rfl rfl hl.1 rfl (lv_room (Nat.le_of_ble_eq_true rfl)) dX11_lasts_26 ⟨Nat.zero_le _, Nat.zero_le _⟩) hG (fun r_26 h_26 g_26 H locs hq hG => ?_)
        replace HW := HW r_26 h_26 g_26 hq
        refine lv_istore_n (lv' := [(3, .int r_26), (0, .ref (ad 135)), (1, .int x1), (2, .int x2)]) hx hb dX11_lasts_29 rfl hl (by decide) rfl (fun ls hl => ?_)
        refine lv_iload_n hx hb dX11_lasts_30 rfl (lv_at hl 0 rfl) ?_
        refine lv_if_ne (tgt := 40) hx hb dX11_lasts_31 (by decide) (fun c_31 => ?_) (fun c_31 => ?_)
        · replace HW := HW.1 c_31
          refine lv_iload_n hx hb dX11_lasts_40 rfl (lv_at hl 0 rfl) ?_
          refine lv_sipush (v := 1000) hx hb dX11_lasts_41 (by decide) ?_
          obtain ⟨P_44, HC_44, HW⟩ := HW
          refine g_calli (g_runS (As := [.int r_26, .int (1000 : Int32)]) (rest := []) ⟨hx, hb, hml, hown, hts⟩ (m_X11_divisor l D cy ad h_26 g_26 H.size r_26 (1000 : Int32) P_44 HC_44) (va_cwS 2 hts (gd_S (wm6 130 rfl rfl) (wm6 131 rfl rfl) (wm1 13 rfl rfl) (wm6 132 rfl rfl)) rfl rfl rfl (by decide +kernel) ⟨Nat.le_of_ble_eq_true rfl, Nat.le_of_ble_eq_true rfl⟩) hK hNw hG rfl rfl hl.1 rfl (lv_room (Nat.le_of_ble_eq_true rfl)) dX11_lasts_44 ⟨Nat.zero_le _, Nat.zero_le _⟩) hG (fun r_44 h_44 g_44 H locs hq hG => ?_)
          replace HW := HW r_44 h_44 g_44 hq
          exact B47 x2 r_26 r_44 h_44 g_44 _ _ _ HW hG (lv_sub hl [1, 3, 0] rfl)
        · replace HW := HW.2 c_31
          refine lv_sipush (v := 1000) hx hb dX11_lasts_34 (by decide) ?_
          refine lv_goto (tgt := 47) hx hb dX11_lasts_37 (by decide) ?_
          exact B47 x2 r_26 (1000 : Int32) h_26 g_26 _ _ _ HW hG (lv_sub hl [1, 3, 0] rfl)
      · replace HW := HW.2 c_18
        refine lv_bipush (v := (-2)) hx hb dX11_lasts_21 (by decide) ?_
        exact W.iret (v := (-2 : Int32)) hx hb hr (fun t ht hW => ⟨⟨(-2 : Int32), (h_15, g_15), rfl, HW, g_B ht hG⟩, hG.2.2.F ht⟩) hG.2.2.2.2 dX11_lasts_23
  exact E0 _ _ _ hG hl

def b_X11_half_51 (Q : Int32 → HI → HL → Prop) (K51 : Int32 → Int32 → Int32 → HI → HL → Prop) (x2 : Int32) (x3 : Int32) (x4 : Int32) (h : HI) (g : HL) : Prop :=
  (((200 : Int32) < x4 → Q (-1 : Int32) h g) ∧ (¬ (200 : Int32) < x4 → (¬ x3 = 0 ∧ (∃ P_64 : HI → HL → Prop, w_X11_times (2 : Int32) (x2 / x3) h g P_64 ∧ ∀ (h_64 : HI) (g_64 : HL), P_64 h_64 g_64 → (¬ x3 = 0 ∧ (∃ P_74 : HI → HL → Prop, w_X11_times (3 : Int32) ((1000 : Int32) / x3) h_64 g_64 P_74 ∧ ∀ (h_74 : HI) (g_74 : HL), P_74 h_74 g_74 → (∃ P_80 : Int32 → HI → HL → Prop, w_X11_against (2 : Int32) (3 : Int32) h_74 g_74 P_80 ∧ ∀ (r_80 : Int32) (h_80 : HI) (g_80 : HL), P_80 r_80 h_80 g_80 → ((0 < r_80 → (∀ x4_89 : Int32, x4_89 = (x4 + 1) → K51 x2 x3 x4_89 h_80 g_80)) ∧ (¬ 0 < r_80 → Q x4 h_80 g_80)))))))))
def F_X11_half_51 (Q : Int32 → HI → HL → Prop) (K : Int32 × Int32 × Int32 × HI × HL → Prop) (q : Int32 × Int32 × Int32 × HI × HL) : Prop := b_X11_half_51 Q (fun x2 x3 x4 h g => K (x2, x3, x4, h, g)) q.1 q.2.1 q.2.2.1 q.2.2.2.1 q.2.2.2.2
def j_X11_half_35 (Q : Int32 → HI → HL → Prop) (x2 : Int32) (s0 : Int32) (h : HI) (g : HL) : Prop :=
  (∃ P_39 : HI → HL → Prop, w_X11_sets (2 : Int32) (2 : Int32) h g P_39 ∧ ∀ (h_39 : HI) (g_39 : HL), P_39 h_39 g_39 → (∃ P_45 : HI → HL → Prop, w_X11_sets (3 : Int32) (1 : Int32) h_39 g_39 P_45 ∧ ∀ (h_45 : HI) (g_45 : HL), P_45 h_45 g_45 → lpE (F_X11_half_51 Q) (x2, s0, (1 : Int32), h_45, g_45)))
def w_X11_half (x1 : Int32) (h : HI) (g : HL) (Q : Int32 → HI → HL → Prop) : Prop :=
  (∃ P_3 : Int32 → HI → HL → Prop, w_X11_is (0 : Int32) x1 h g P_3 ∧ ∀ (r_3 : Int32) (h_3 : HI) (g_3 : HL), zb r_3 → P_3 r_3 h_3 g_3 → ((¬ r_3 = 0 → (∃ P_14 : Int32 → HI → HL → Prop, w_X11_whole x1 h_3 g_3 P_14 ∧ ∀ (r_14 : Int32) (h_14 : HI) (g_14 : HL), P_14 r_14 h_14 g_14 → ((¬ r_14 = 0 → (∃ P_32 : Int32 → HI → HL → Prop, w_X11_divisor r_14 (1000 : Int32) h_14 g_14 P_32 ∧ ∀ (r_32 : Int32) (h_32 : HI) (g_32 : HL), P_32 r_32 h_32 g_32 → j_X11_half_35 Q r_14 r_32 h_32 g_32)) ∧ (r_14 = 0 → j_X11_half_35 Q r_14 (1000 : Int32) h_14 g_14)))) ∧ (r_3 = 0 → Q (-2 : Int32) h_3 g_3)))
set_option maxHeartbeats 8000000 in
set_option maxRecDepth 100000 in
theorem m_X11_half (l : Launch) (D : va_G) (cy : Nat → ClassId) (ad : Nat → Nat) (h : HI) (g : HL) (sz : Nat) (x1 : Int32) (Q : Int32 → HI → HL → Prop) (HW : w_X11_half x1 h g Q) : Met l yX11_half (wa yX11_half cX11_half 5 (some .int)) ({ frames := 2, cells := 0, slots := 0, locals := 47 }) (va_Pc [.ref (ad 135), .int x1] (gI D cy ad h g sz)) (va_Qi (fun (r : Int32) (u : HI × HL) => Q r u.1 u.2) (gB D cy ad sz) (gA ad sz)) 0 0 (gA ad sz) := by
  refine Met.ofW (cc := cX11_half) (maxL := 5) (ret := (some .int)) (by decide) rfl ?_
  intro p e s m args below meth c s₁ B hml hv
  obtain ⟨hav, hsz, hP, hK, hD0, hNw⟩ := hv
  have hx := B.exec
  have hb := B.bytes
  have hr := B.returns
  have hts := atoms_spec (ws := (wa yX11_half cX11_half 5 (some .int))) B.pre
  have hw := wa_hw hts
  have hown : s.vm.findClass RX11 = some m.cls := findClass_of_methodNamed B.named
  have hlocks := B.notSynchronized
  subst hsz
  have hG : gG D cy ad (gA ad s.heap.size) s.heap h g s.heap [] := ⟨hP, gA_self hD0, va_S.rf⟩
  clear hP hD0
  rw [show (headSpec (wa yX11_half cX11_half 5 (some .int)) ({ frames := 2, cells := 0, slots := 0, locals := 47 } : Room)).room = ({ frames := 2, cells := 0, slots := 0, locals := 47 } : Room) from rfl]
  have hl := lv_entry ([.ref (ad 135), .int x1]) (n := 5) (Nat.le_of_ble_eq_true rfl)
  rw [show entryFrame m args 5 = entryFrame m ([.ref (ad 135), .int x1] : List Value).toArray 5 from by rw [hav], lg_entry_eq]
  generalize (lg_sl ([.ref (ad 135), .int x1]) ++ List.replicate (5 - (lg_sl ([.ref (ad 135), .int x1])).length) Slot.unset).toArray = ls at hl ⊢
  have hl : lv_has ls 5 [(0, .ref (ad 135)), (1, .int x1)] := hl
  have L51 : ∀ (n : Nat) (x2 : Int32) (x3 : Int32) (x4 : Int32) (h : HI) (g : HL) (H : Heap) (locs : List Loc) (ls : Array Slot), lpN (F_X11_half_51 Q) n (x2, x3, x4, h, g) → gG D cy ad (gA ad s.heap.size) s.heap h g H locs → lv_has ls 5 [(0, .ref (ad 135)), (2, .int x2), (3, .int x3), (4, .int x4)] → W p l e ({ frames := 2, cells := 0, slots := 0, locals := 47 } : Room) s m args below meth c H locs 0 0 (MQ below (va_Qi (fun (r : Int32) (u : HI × HL) => Q r u.1 u.2) (gB D cy ad s.heap.size) (gA ad s.heap.size)) args s 0 0 (gA ad s.heap.size)) (F0 m 51 ls []) := by
    intro n
    induction n with
    | zero => intro x2 x3 x4 h g H locs ls HW; exact HW.elim
    | succ n ih =>
      intro x2 x3 x4 h g H locs ls HW hG hl
      have HW : b_X11_half_51 Q (fun x2 x3 x4 h g => lpN (F_X11_half_51 Q) n (x2, x3, x4, h, g)) x2 x3 x4 h g := HW
      generalize hKe : (fun (x2 : Int32) (x3 : Int32) (x4 : Int32) (h : HI) (g : HL) => lpN (F_X11_half_51 Q) n (x2, x3, x4, h, g)) = K51 at HW
      have hK51 : ∀ (x2 : Int32) (x3 : Int32) (x4 : Int32) (h : HI) (g : HL) (H : Heap) (locs : List Loc) (ls : Array Slot), K51 x2 x3 x4 h g → gG D cy ad (gA ad s.heap.size) s.heap h g H locs → lv_has ls 5 [(0, .ref (ad 135)), (2, .int x2), (3, .int x3), (4, .int x4)] → W p l e ({ frames := 2, cells := 0, slots := 0, locals := 47 } : Room) s m args below meth c H locs 0 0 (MQ below (va_Qi (fun (r : Int32) (u : HI × HL) => Q r u.1 u.2) (gB D cy ad s.heap.size) (gA ad s.heap.size)) args s 0 0 (gA ad s.heap.size)) (F0 m 51 ls []) := by subst hKe; exact ih
      clear ih
      clear hKe
      unfold b_X11_half_51 at HW
      refine lv_iload hx hb dX11_half_51 (lv_at hl 3 rfl) ?_
      refine lv_sipush (v := 200) hx hb dX11_half_53 (by decide) ?_
      refine lv_icmp_gt (tgt := 95) hx hb dX11_half_56 (by decide) (fun c_56 => ?_) (fun c_56 => ?_)
      · replace HW := HW.1 c_56
        refine lv_iconst (v := (-1)) hx hb dX11_half_95 (by decide) ?_
        exact W.iret (v := (-1 : Int32)) hx hb hr (fun t ht hW => ⟨⟨(-1 : Int32), (h, g), rfl, HW, g_B ht hG⟩, hG.2.2.F ht⟩) hG.2.2.2.2 dX11_half_96
      · replace HW := HW.2 c_56
        refine lv_aload_n hx hb dX11_half_59 rfl (lv_at hl 0 rfl) ?_
        refine lv_iconst (v := 2) hx hb dX11_half_60 (by decide) ?_
        refine lv_iload_n hx hb dX11_half_61 rfl (lv_at hl 1 rfl) ?_
        refine lv_iload_n hx hb dX11_half_62 rfl (lv_at hl 2 rfl) ?_
        refine lv_idiv hx hb dX11_half_63 HW.1 ?_
        replace HW := HW.2
        obtain ⟨P_64, HC_64, HW⟩ := HW
        refine g_callv (g_runV (As := [.int (2 : Int32), .int (x2 / x3)]) (rest := []) ⟨hx, hb, hml, hown, hts⟩ (m_X11_times l D cy ad h g H.size (2 : Int32) (x2 / x3) P_64 HC_64) (cwV 2 hts (gd_V (wm6 141 rfl rfl) (wm6 143 rfl rfl) (wmp5 (q := (yX11_times, 26)) 8 rfl) (wm1 13 rfl rfl) (wm6 144 rfl rfl)) rfl rfl rfl (by decide +kernel) ⟨Nat.le_of_ble_eq_true rfl, Nat.le_of_ble_eq_true rfl⟩) hK hNw hG gl_135 rfl gk_135 (by decide) rfl rfl hl.1 rfl (lv_room (Nat.le_of_ble_eq_true rfl)) dX11_half_64 ⟨Nat.zero_le _, Nat.zero_le _⟩) hG (fun h_64 g_64 H locs hq hG => ?_)
        replace HW := HW h_64 g_64 hq
        refine lv_aload_n hx hb dX11_half_67 rfl (lv_at hl 0 rfl) ?_
        refine lv_iconst (v := 3) hx hb dX11_half_68 (by decide) ?_
        refine lv_sipush (v := 1000) hx hb dX11_half_69 (by decide) ?_
        refine lv_iload_n hx hb dX11_half_72 rfl (lv_at hl 2 rfl) ?_
        refine lv_idiv hx hb dX11_half_73 HW.1 ?_
        replace HW := HW.2
        obtain ⟨P_74, HC_74, HW⟩ := HW
        refine g_callv (g_runV (As := [.int (3 : Int32), .int ((1000 : Int32) / x3)]) (rest := []) ⟨hx, hb, hml, hown, hts⟩ (m_X11_times l D cy ad h_64 g_64 H.size (3 : Int32) ((1000 : Int32) / x3) P_74 HC_74) (cwV 2 hts (gd_V (wm6 141 rfl rfl) (wm6 143 rfl rfl) (wmp5 (q := (yX11_times, 26)) 8 rfl) (wm1 13 rfl rfl) (wm6 144 rfl rfl)) rfl rfl rfl (by decide +kernel) ⟨Nat.le_of_ble_eq_true rfl, Nat.le_of_ble_eq_true rfl⟩) hK hNw hG gl_135 rfl gk_135 (by decide) rfl rfl hl.1 rfl (lv_room (Nat.le_of_ble_eq_true rfl)) dX11_half_74 ⟨Nat.zero_le _, Nat.zero_le _⟩) hG (fun h_74 g_74 H locs hq hG => ?_)
        replace HW := HW h_74 g_74 hq
        refine lv_aload_n hx hb dX11_half_77 rfl (lv_at hl 0 rfl) ?_
        refine lv_iconst (v := 2) hx hb dX11_half_78 (by decide) ?_
        refine lv_iconst (v := 3) hx hb dX11_half_79 (by decide) ?_
        obtain ⟨P_80, HC_80, HW⟩ := HW
        refine g_calli (g_runV (As := [.int (2 : Int32), .int (3 : Int32)]) (rest := []) ⟨hx, hb, hml, hown, hts⟩ (m_X11_against l D cy ad h_74 g_74 H.size (2 : Int32) (3 : Int32) P_80 HC_80) (cwV 2 hts (gd_V (wm6 150 rfl rfl) (wm6 152 rfl rfl) (wmp5 (q := (yX11_against, 26)) 9 rfl) (wm1 13 rfl rfl) (wm6 153 rfl rfl)) rfl rfl rfl (by decide +kernel) ⟨Nat.le_of_ble_eq_true rfl, Nat.le_of_ble_eq_true rfl⟩) hK hNw hG gl_135 rfl gk_135 (by decide) rfl rfl hl.1 rfl (lv_room (Nat.le_of_ble_eq_true rfl)) dX11_half_80 ⟨Nat.zero_le _, Nat.zero_le _⟩) hG (fun r_80 h_80 g_80 H locs hq hG => ?_)
        replace HW := HW r_80 h_80 g_80 hq
        refine lv_if_gt (tgt := 89) hx hb dX11_half_83 (by decide) (fun c_83 => ?_) (fun c_83 => ?_)
        · replace HW := HW.1 c_83
          obtain ⟨x4_89, ex4_89⟩ : ∃ y : Int32, y = (x4 + 1) := ⟨_, rfl⟩
          replace HW := HW x4_89 ex4_89
          refine lv_iinc (v := x4_89) (lv' := [(4, .int x4_89), (0, .ref (ad 135)), (2, .int x2), (3, .int x3)]) hx hb dX11_half_89 hl (k := 3) rfl (by rw [ex4_89]; rfl) (by decide) rfl (fun ls hl => ?_)
          refine lv_goto (tgt := 51) hx hb dX11_half_92 (by decide) ?_
          exact hK51 x2 x3 x4_89 h_80 g_80 _ _ _ HW hG (lv_sub hl [1, 2, 3, 0] rfl)
        · replace HW := HW.2 c_83
          refine lv_iload hx hb dX11_half_86 (lv_at hl 3 rfl) ?_
          exact W.iret (v := x4) hx hb hr (fun t ht hW => ⟨⟨x4, (h_80, g_80), rfl, HW, g_B ht hG⟩, hG.2.2.F ht⟩) hG.2.2.2.2 dX11_half_88
  have B35 : ∀ (x2 : Int32) (s0 : Int32) (h : HI) (g : HL) (H : Heap) (locs : List Loc) (ls : Array Slot), j_X11_half_35 Q x2 s0 h g → gG D cy ad (gA ad s.heap.size) s.heap h g H locs → lv_has ls 5 [(0, .ref (ad 135)), (2, .int x2)] → W p l e ({ frames := 2, cells := 0, slots := 0, locals := 47 } : Room) s m args below meth c H locs 0 0 (MQ below (va_Qi (fun (r : Int32) (u : HI × HL) => Q r u.1 u.2) (gB D cy ad s.heap.size) (gA ad s.heap.size)) args s 0 0 (gA ad s.heap.size)) (F0 m 35 ls [.int s0]) := by
    intro x2 s0 h g H locs ls HW hG hl
    unfold j_X11_half_35 at HW
    refine lv_istore_n (lv' := [(3, .int s0), (0, .ref (ad 135)), (2, .int x2)]) hx hb dX11_half_35 rfl hl (by decide) rfl (fun ls hl => ?_)
    refine lv_aload_n hx hb dX11_half_36 rfl (lv_at hl 1 rfl) ?_
    refine lv_iconst (v := 2) hx hb dX11_half_37 (by decide) ?_
    refine lv_iconst (v := 2) hx hb dX11_half_38 (by decide) ?_
    obtain ⟨P_39, HC_39, HW⟩ := HW
    refine g_callv (g_runV (As := [.int (2 : Int32), .int (2 : Int32)]) (rest := []) ⟨hx, hb, hml, hown, hts⟩ (m_X11_sets l D cy ad h g H.size (2 : Int32) (2 : Int32) P_39 HC_39) (cwV 2 hts (gd_V (wm6 137 rfl rfl) (wm6 139 rfl rfl) (wmp5 (q := (yX11_sets, 26)) 7 rfl) (wm1 13 rfl rfl) (wm6 140 rfl rfl)) rfl rfl rfl (by decide +kernel) ⟨Nat.le_of_ble_eq_true rfl, Nat.le_of_ble_eq_true rfl⟩) hK hNw hG gl_135 rfl gk_135 (by decide) rfl rfl hl.1 rfl (lv_room (Nat.le_of_ble_eq_true rfl)) dX11_half_39 ⟨Nat.zero_le _, Nat.zero_le _⟩) hG (fun h_39 g_39 H locs hq hG => ?_)
    replace HW := HW h_39 g_39 hq
    refine lv_aload_n hx hb dX11_half_42 rfl (lv_at hl 1 rfl) ?_
    refine lv_iconst (v := 3) hx hb dX11_half_43 (by decide) ?_
    refine lv_iconst (v := 1) hx hb dX11_half_44 (by decide) ?_
    obtain ⟨P_45, HC_45, HW⟩ := HW
    refine g_callv (g_runV (As := [.int (3 : Int32), .int (1 : Int32)]) (rest := []) ⟨hx, hb, hml, hown, hts⟩ (m_X11_sets l D cy ad h_39 g_39 H.size (3 : Int32) (1 : Int32) P_45 HC_45) (cwV 2 hts (gd_V (wm6 137 rfl rfl) (wm6 139 rfl rfl) (wmp5 (q := (yX11_sets, 26)) 7 rfl) (wm1 13 rfl rfl) (wm6 140 rfl rfl)) rfl rfl rfl (by decide +kernel) ⟨Nat.le_of_ble_eq_true rfl, Nat.le_of_ble_eq_true rfl⟩) hK hNw hG gl_135 rfl gk_135 (by decide) rfl rfl hl.1 rfl (lv_room (Nat.le_of_ble_eq_true rfl)) dX11_half_45 ⟨Nat.zero_le _, Nat.zero_le _⟩) hG (fun h_45 g_45 H locs hq hG => ?_)
    replace HW := HW h_45 g_45 hq
    refine lv_iconst (v := 1) hx hb dX11_half_48 (by decide) ?_
    refine lv_istore (lv' := [(4, .int (1 : Int32)), (3, .int s0), (0, .ref (ad 135)), (2, .int x2)]) hx hb dX11_half_49 hl (by decide) rfl (fun ls hl => ?_)
    obtain ⟨n_51, HW⟩ := HW
    exact L51 n_51 x2 s0 (1 : Int32) h_45 g_45 _ _ _ HW hG (lv_sub hl [2, 3, 1, 0] rfl)
  have E0 : ∀ (H : Heap) (locs : List Loc) (ls : Array Slot), gG D cy ad (gA ad s.heap.size) s.heap h g H locs → lv_has ls 5 [(0, .ref (ad 135)), (1, .int x1)] → W p l e ({ frames := 2, cells := 0, slots := 0, locals := 47 } : Room) s m args below meth c H locs 0 0 (MQ below (va_Qi (fun (r : Int32) (u : HI × HL) => Q r u.1 u.2) (gB D cy ad s.heap.size) (gA ad s.heap.size)) args s 0 0 (gA ad s.heap.size)) (F0 m 0 ls []) := by
    intro H locs ls hG hl
    unfold w_X11_half at HW
    refine lv_aload_n hx hb dX11_half_0 rfl (lv_at hl 0 rfl) ?_
    refine lv_iconst (v := 0) hx hb dX11_half_1 (by decide) ?_
    refine lv_iload_n hx hb dX11_half_2 rfl (lv_at hl 1 rfl) ?_
    obtain ⟨P_3, HC_3, HW⟩ := HW
    refine g_callz (g_runV (As := [.int (0 : Int32), .int x1]) (rest := []) ⟨hx, hb, hml, hown, hts⟩ (m_X11_is l D cy ad h g H.size (0 : Int32) x1 P_3 HC_3) (cwV 2 hts (gd_V (wm5 184 rfl rfl) (wm5 186 rfl rfl) (wmp3 (q := (yX11_is, 26)) 14 rfl) (wm1 13 rfl rfl) (wm5 187 rfl rfl)) rfl rfl rfl (by decide +kernel) ⟨Nat.le_of_ble_eq_true rfl, Nat.le_of_ble_eq_true rfl⟩) hK hNw hG gl_135 rfl gk_135 (by decide) rfl rfl hl.1 rfl (lv_room (Nat.le_of_ble_eq_true rfl)) dX11_half_3 ⟨Nat.zero_le _, Nat.zero_le _⟩) hG (fun r_3 h_3 g_3 H locs hz hq hG => ?_)
    replace HW := HW r_3 h_3 g_3 hz hq
    refine lv_if_ne (tgt := 12) hx hb dX11_half_6 (by decide) (fun c_6 => ?_) (fun c_6 => ?_)
    · replace HW := HW.1 c_6
      refine lv_aload_n hx hb dX11_half_12 rfl (lv_at hl 0 rfl) ?_
      refine lv_iload_n hx hb dX11_half_13 rfl (lv_at hl 1 rfl) ?_
      obtain ⟨P_14, HC_14, HW⟩ := HW
      refine g_calli (g_runV (As := [.int x1]) (rest := []) ⟨hx, hb, hml, hown, hts⟩ (m_X11_whole l D cy ad h_3 g_3 H.size x1 P_14 HC_14) (cwV 1 hts (gd_V (wm6 126 rfl rfl) (wm6 128 rfl rfl) (wmp5 (q := (yX11_whole, 26)) 5 rfl) (wm1 13 rfl rfl) (wm6 129 rfl rfl)) rfl rfl rfl (by decide +kernel) ⟨Nat.le_of_ble_eq_true rfl, Nat.le_of_ble_eq_true rfl⟩) hK hNw hG gl_135 rfl gk_135 (by decide) rfl rfl hl.1 rfl (lv_room (Nat.le_of_ble_eq_true rfl)) dX11_half_14 ⟨Nat.zero_le _, Nat.zero_le _⟩) hG (fun r_14 h_14 g_14 H locs hq hG => ?_)
      replace HW := HW r_14 h_14 g_14 hq
      refine lv_istore_n (lv' := [(2, .int r_14), (0, .ref (ad 135)), (1, .int x1)]) hx hb dX11_half_17 rfl hl (by decide) rfl (fun ls hl => ?_)
      refine lv_iload_n hx hb dX11_half_18 rfl (lv_at hl 0 rfl) ?_
      refine lv_if_ne (tgt := 28) hx hb dX11_half_19 (by decide) (fun c_19 => ?_) (fun c_19 => ?_)
      · replace HW := HW.1 c_19
        refine lv_iload_n hx hb dX11_half_28 rfl (lv_at hl 0 rfl) ?_
        refine lv_sipush (v := 1000) hx hb dX11_half_29 (by decide) ?_
        obtain ⟨P_32, HC_32, HW⟩ := HW
        refine g_calli (g_runS (As := [.int r_14, .int (1000 : Int32)]) (rest := []) ⟨hx, hb, hml, hown, hts⟩ (m_X11_divisor l D cy ad h_14 g_14 H.size r_14 (1000 : Int32) P_32 HC_32) (va_cwS 2 hts (gd_S (wm6 130 rfl rfl) (wm6 131 rfl rfl) (wm1 13 rfl rfl) (wm6 132 rfl rfl)) rfl rfl rfl (by decide +kernel) ⟨Nat.le_of_ble_eq_true rfl, Nat.le_of_ble_eq_true rfl⟩) hK hNw hG rfl rfl hl.1 rfl (lv_room (Nat.le_of_ble_eq_true rfl)) dX11_half_32 ⟨Nat.zero_le _, Nat.zero_le _⟩) hG (fun r_32 h_32 g_32 H locs hq hG => ?_)
        replace HW := HW r_32 h_32 g_32 hq
        exact B35 r_14 r_32 h_32 g_32 _ _ _ HW hG (lv_sub hl [1, 0] rfl)
      · replace HW := HW.2 c_19
        refine lv_sipush (v := 1000) hx hb dX11_half_22 (by decide) ?_
        refine lv_goto (tgt := 35) hx hb dX11_half_25 (by decide) ?_
        exact B35 r_14 (1000 : Int32) h_14 g_14 _ _ _ HW hG (lv_sub hl [1, 0] rfl)
    · replace HW := HW.2 c_6
      refine lv_bipush (v := (-2)) hx hb dX11_half_9 (by decide) ?_
      exact W.iret (v := (-2 : Int32)) hx hb hr (fun t ht hW => ⟨⟨(-2 : Int32), (h_3, g_3), rfl, HW, g_B ht hG⟩, hG.2.2.F ht⟩) hG.2.2.2.2 dX11_half_11
  exact E0 _ _ _ hG hl
end
