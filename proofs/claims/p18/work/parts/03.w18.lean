def w_X11_sum (x1 : Int32) (x2 : Int32) (x3 : Int32) (h : HI) (g : HL) (Q : Int32 → HI → HL → Prop) : Prop :=
  (∃ P_3 : Int32 → HI → HL → Prop, w_X11_is (2 : Int32) x1 h g P_3 ∧ ∀ (r_3 : Int32) (h_3 : HI) (g_3 : HL), zb r_3 → P_3 r_3 h_3 g_3 → ((r_3 = 0 → Q (-2100000000 : Int32) h_3 g_3) ∧ (¬ r_3 = 0 → (∃ P_10 : Int32 → HI → HL → Prop, w_X11_isYear x2 h_3 g_3 P_10 ∧ ∀ (r_10 : Int32) (h_10 : HI) (g_10 : HL), zb r_10 → P_10 r_10 h_10 g_10 → ((r_10 = 0 → Q (-2100000000 : Int32) h_10 g_10) ∧ (¬ r_10 = 0 → (∃ P_22 : Int32 → HI → HL → Prop, w_X11_in ((x3).toInt64) (0 : Int64) (2 : Int64) h_10 g_10 P_22 ∧ ∀ (r_22 : Int32) (h_22 : HI) (g_22 : HL), zb r_22 → P_22 r_22 h_22 g_22 → ((¬ r_22 = 0 → ((¬ x3 = (2 : Int32) → (∃ P_60 : Int32 → HI → HL → Prop, w_X11_sums x1 x2 (-1 : Int32) (-2 : Int32) h_22 g_22 P_60 ∧ ∀ (r_60 : Int32) (h_60 : HI) (g_60 : HL), zb r_60 → P_60 r_60 h_60 g_60 → ((¬ r_60 = 0 → ((¬ x3 = 0 → Q (h_60 135 19) h_60 g_60) ∧ (x3 = 0 → Q (h_60 135 18) h_60 g_60))) ∧ (r_60 = 0 → Q (-2000000000 : Int32) h_60 g_60)))) ∧ (x3 = (2 : Int32) → (∃ P_42 : Int32 → HI → HL → Prop, w_X11_holds0 x1 x2 (-1 : Int32) (-2 : Int32) h_22 g_22 P_42 ∧ ∀ (r_42 : Int32) (h_42 : HI) (g_42 : HL), zb r_42 → P_42 r_42 h_42 g_42 → ((r_42 = 0 → Q (0 : Int32) h_42 g_42) ∧ (¬ r_42 = 0 → Q (1 : Int32) h_42 g_42)))))) ∧ (r_22 = 0 → Q (-2100000000 : Int32) h_22 g_22)))))))))
set_option maxHeartbeats 8000000 in
set_option maxRecDepth 100000 in
theorem m_X11_sum (l : Launch) (D : va_G) (cy : Nat → ClassId) (ad : Nat → Nat) (h : HI) (g : HL) (sz : Nat) (x1 : Int32) (x2 : Int32) (x3 : Int32) (Q : Int32 → HI → HL → Prop) (HW : w_X11_sum x1 x2 x3 h g Q) : Met l yX11_sum (wa yX11_sum cX11_sum 4 (some .int)) ({ frames := 10, cells := 0, slots := 0, locals := 242 }) (va_Pc [.ref (ad 135), .int x1, .int x2, .int x3] (gI D cy ad h g sz)) (va_Qi (fun (r : Int32) (u : HI × HL) => Q r u.1 u.2) (gB D cy ad sz) (gA ad sz)) 0 0 (gA ad sz) := by
  refine Met.ofW (cc := cX11_sum) (maxL := 4) (ret := (some .int)) (by decide) rfl ?_
  intro p e s m args below meth c s₁ B hml hv
  obtain ⟨hav, hsz, hP, hK, hD0, hNw⟩ := hv
  have hx := B.exec
  have hb := B.bytes
  have hr := B.returns
  have hts := atoms_spec (ws := (wa yX11_sum cX11_sum 4 (some .int))) B.pre
  have hw := wa_hw hts
  have hown : s.vm.findClass RX11 = some m.cls := findClass_of_methodNamed B.named
  have hlocks := B.notSynchronized
  subst hsz
  have hG : gG D cy ad (gA ad s.heap.size) s.heap h g s.heap [] := ⟨hP, gA_self hD0, va_S.rf⟩
  clear hP hD0
  have cn221 := hw (.constant RX11 221 (-2100000000)) (wm6 41 rfl rfl)
  have cn185 := hw (.constantLong RX11 185 (2)) (wm5 221 rfl rfl)
  have lk214 := hw (.fieldLink RX11 214 "OldWorksModel" "sumHigh" "I") (wm5 46 rfl rfl)
  have lk211 := hw (.fieldLink RX11 211 "OldWorksModel" "sumLow" "I") (wm5 45 rfl rfl)
  have cn225 := hw (.constant RX11 225 (-2000000000)) (wm6 50 rfl rfl)
  rw [show (headSpec (wa yX11_sum cX11_sum 4 (some .int)) ({ frames := 10, cells := 0, slots := 0, locals := 242 } : Room)).room = ({ frames := 10, cells := 0, slots := 0, locals := 242 } : Room) from rfl]
  have hl := lv_entry ([.ref (ad 135), .int x1, .int x2, .int x3]) (n := 4) (Nat.le_of_ble_eq_true rfl)
  rw [show entryFrame m args 4 = entryFrame m ([.ref (ad 135), .int x1, .int x2, .int x3] : List Value).toArray 4 from by rw [hav], lg_entry_eq]
  generalize (lg_sl ([.ref (ad 135), .int x1, .int x2, .int x3]) ++ List.replicate (4 - (lg_sl ([.ref (ad 135), .int x1, .int x2, .int x3])).length) Slot.unset).toArray = ls at hl ⊢
  have hl : lv_has ls 4 [(0, .ref (ad 135)), (1, .int x1), (2, .int x2), (3, .int x3)] := hl
  have E0 : ∀ (H : Heap) (locs : List Loc) (ls : Array Slot), gG D cy ad (gA ad s.heap.size) s.heap h g H locs → lv_has ls 4 [(0, .ref (ad 135)), (1, .int x1), (2, .int x2), (3, .int x3)] → W p l e ({ frames := 10, cells := 0, slots := 0, locals := 242 } : Room) s m args below meth c H locs 0 0 (MQ below (va_Qi (fun (r : Int32) (u : HI × HL) => Q r u.1 u.2) (gB D cy ad s.heap.size) (gA ad s.heap.size)) args s 0 0 (gA ad s.heap.size)) (F0 m 0 ls []) := by
    intro H locs ls hG hl
    unfold w_X11_sum at HW
    refine lv_aload_n hx hb dX11_sum_0 rfl (lv_at hl 0 rfl) ?_
    refine lv_iconst (v := 2) hx hb dX11_sum_1 (by decide) ?_
    refine lv_iload_n hx hb dX11_sum_2 rfl (lv_at hl 1 rfl) ?_
    obtain ⟨P_3, HC_3, HW⟩ := HW
    refine g_callz (g_runV (As := [.int (2 : Int32), .int x1]) (rest := []) ⟨hx, hb, hml, hown, hts⟩ (m_X11_is l D cy ad h g H.size (2 : Int32) x1 P_3 HC_3) (cwV 2 hts (gd_V (wm5 184 rfl rfl) (wm5 186 rfl rfl) (wmp3 (q := (yX11_is, 26)) 14 rfl) (wm1 13 rfl rfl) (wm5 187 rfl rfl)) rfl rfl rfl (by decide +kernel) ⟨Nat.le_of_ble_eq_true rfl, Nat.le_of_ble_eq_true rfl⟩) hK hNw hG gl_135 rfl gk_135 (by decide) rfl rfl hl.1 rfl (lv_room (Nat.le_of_ble_eq_true rfl)) dX11_sum_3 ⟨Nat.zero_le _, Nat.zero_le _⟩) hG (fun r_3 h_3 g_3 H locs hz hq hG => ?_)
    replace HW := HW r_3 h_3 g_3 hz hq
    refine lv_if_eq (tgt := 28) hx hb dX11_sum_6 (by decide) (fun c_6 => ?_) (fun c_6 => ?_)
    · replace HW := HW.1 c_6
      refine lv_ldc (v := (-2100000000)) hx hb hown cn221 dX11_sum_28 ?_
      exact W.iret (v := (-2100000000 : Int32)) hx hb hr (fun t ht hW => ⟨⟨(-2100000000 : Int32), (h_3, g_3), rfl, HW, g_B ht hG⟩, hG.2.2.F ht⟩) hG.2.2.2.2 dX11_sum_30
    · replace HW := HW.2 c_6
      refine lv_iload_n hx hb dX11_sum_9 rfl (lv_at hl 2 rfl) ?_
      obtain ⟨P_10, HC_10, HW⟩ := HW
      refine g_callz (g_runS (As := [.int x2]) (rest := []) ⟨hx, hb, hml, hown, hts⟩ (m_X11_isYear l D cy ad h_3 g_3 H.size x2 P_10 HC_10) (va_cwS 1 hts (gd_S (wm5 114 rfl rfl) (wm5 115 rfl rfl) (wm1 13 rfl rfl) (wm5 116 rfl rfl)) rfl rfl rfl (by decide +kernel) ⟨Nat.le_of_ble_eq_true rfl, Nat.le_of_ble_eq_true rfl⟩) hK hNw hG rfl rfl hl.1 rfl (lv_room (Nat.le_of_ble_eq_true rfl)) dX11_sum_10 ⟨Nat.zero_le _, Nat.zero_le _⟩) hG (fun r_10 h_10 g_10 H locs hz hq hG => ?_)
      replace HW := HW r_10 h_10 g_10 hz hq
      refine lv_if_eq (tgt := 28) hx hb dX11_sum_13 (by decide) (fun c_13 => ?_) (fun c_13 => ?_)
      · replace HW := HW.1 c_13
        refine lv_ldc (v := (-2100000000)) hx hb hown cn221 dX11_sum_28 ?_
        exact W.iret (v := (-2100000000 : Int32)) hx hb hr (fun t ht hW => ⟨⟨(-2100000000 : Int32), (h_10, g_10), rfl, HW, g_B ht hG⟩, hG.2.2.F ht⟩) hG.2.2.2.2 dX11_sum_30
      · replace HW := HW.2 c_13
        refine lv_iload_n hx hb dX11_sum_16 rfl (lv_at hl 3 rfl) ?_
        refine lv_i2l hx hb dX11_sum_17 rfl ?_
        refine lv_lconst (v := 0) hx hb dX11_sum_18 (by decide) ?_
        refine lv_ldc2 (v := 2) hx hb hown cn185 dX11_sum_19 ?_
        obtain ⟨P_22, HC_22, HW⟩ := HW
        refine g_callz (g_runS (As := [.long ((x3).toInt64), .long (0 : Int64), .long (2 : Int64)]) (rest := []) ⟨hx, hb, hml, hown, hts⟩ (m_X11_in l D cy ad h_10 g_10 H.size ((x3).toInt64) (0 : Int64) (2 : Int64) P_22 HC_22) (va_cwS 3 hts (gd_S (wm5 111 rfl rfl) (wm5 112 rfl rfl) (wm1 13 rfl rfl) (wm5 113 rfl rfl)) rfl rfl rfl (by decide +kernel) ⟨Nat.le_of_ble_eq_true rfl, Nat.le_of_ble_eq_true rfl⟩) hK hNw hG rfl rfl hl.1 rfl (lv_room (Nat.le_of_ble_eq_true rfl)) dX11_sum_22 ⟨Nat.zero_le _, Nat.zero_le _⟩) hG (fun r_22 h_22 g_22 H locs hz hq hG => ?_)
        replace HW := HW r_22 h_22 g_22 hz hq
        refine lv_if_ne (tgt := 31) hx hb dX11_sum_25 (by decide) (fun c_25 => ?_) (fun c_25 => ?_)
        · replace HW := HW.1 c_25
          refine lv_iload_n hx hb dX11_sum_31 rfl (lv_at hl 3 rfl) ?_
          refine lv_iconst (v := 2) hx hb dX11_sum_32 (by decide) ?_
          refine lv_icmp_ne (tgt := 54) hx hb dX11_sum_33 (by decide) (fun c_33 => ?_) (fun c_33 => ?_)
          · replace HW := HW.1 c_33
            refine lv_aload_n hx hb dX11_sum_54 rfl (lv_at hl 0 rfl) ?_
            refine lv_iload_n hx hb dX11_sum_55 rfl (lv_at hl 1 rfl) ?_
            refine lv_iload_n hx hb dX11_sum_56 rfl (lv_at hl 2 rfl) ?_
            refine lv_iconst (v := (-1)) hx hb dX11_sum_57 (by decide) ?_
            refine lv_bipush (v := (-2)) hx hb dX11_sum_58 (by decide) ?_
            obtain ⟨P_60, HC_60, HW⟩ := HW
            refine g_callz (g_runV (As := [.int x1, .int x2, .int (-1 : Int32), .int (-2 : Int32)]) (rest := []) ⟨hx, hb, hml, hown, hts⟩ (m_X11_sums l D cy ad h_22 g_22 H.size x1 x2 (-1 : Int32) (-2 : Int32) P_60 HC_60) (cwV 4 hts (gd_V (wm6 46 rfl rfl) (wm6 48 rfl rfl) (wmp4 (q := (yX11_sums, 26)) 14 rfl) (wm1 13 rfl rfl) (wm6 49 rfl rfl)) rfl rfl rfl (by decide +kernel) ⟨Nat.le_of_ble_eq_true rfl, Nat.le_of_ble_eq_true rfl⟩) hK hNw hG gl_135 rfl gk_135 (by decide) rfl rfl hl.1 rfl (lv_room (Nat.le_of_ble_eq_true rfl)) dX11_sum_60 ⟨Nat.zero_le _, Nat.zero_le _⟩) hG (fun r_60 h_60 g_60 H locs hz hq hG => ?_)
            replace HW := HW r_60 h_60 g_60 hz hq
            refine lv_if_ne (tgt := 71) hx hb dX11_sum_63 (by decide) (fun c_63 => ?_) (fun c_63 => ?_)
            · replace HW := HW.1 c_63
              refine lv_iload_n hx hb dX11_sum_71 rfl (lv_at hl 3 rfl) ?_
              refine lv_if_ne (tgt := 82) hx hb dX11_sum_72 (by decide) (fun c_72 => ?_) (fun c_72 => ?_)
              · replace HW := HW.1 c_72
                refine lv_aload_n hx hb dX11_sum_82 rfl (lv_at hl 0 rfl) ?_
                refine g_geti hx hb hw inG11 hown hK hG gl_135 rfl gk_135 (by decide) 19 (by decide) (by rw [gm_135]; decide) gr_135_19 lk214 dX11_sum_83 ?_
                exact W.iret (v := (h_60 135 19)) hx hb hr (fun t ht hW => ⟨⟨(h_60 135 19), (h_60, g_60), rfl, HW, g_B ht hG⟩, hG.2.2.F ht⟩) hG.2.2.2.2 dX11_sum_86
              · replace HW := HW.2 c_72
                refine lv_aload_n hx hb dX11_sum_75 rfl (lv_at hl 0 rfl) ?_
                refine g_geti hx hb hw inG11 hown hK hG gl_135 rfl gk_135 (by decide) 18 (by decide) (by rw [gm_135]; decide) gr_135_18 lk211 dX11_sum_76 ?_
                refine lv_goto (tgt := 86) hx hb dX11_sum_79 (by decide) ?_
                exact W.iret (v := (h_60 135 18)) hx hb hr (fun t ht hW => ⟨⟨(h_60 135 18), (h_60, g_60), rfl, HW, g_B ht hG⟩, hG.2.2.F ht⟩) hG.2.2.2.2 dX11_sum_86
            · replace HW := HW.2 c_63
              refine lv_ldc (v := (-2000000000)) hx hb hown cn225 dX11_sum_66 ?_
              refine lv_goto (tgt := 86) hx hb dX11_sum_68 (by decide) ?_
              exact W.iret (v := (-2000000000 : Int32)) hx hb hr (fun t ht hW => ⟨⟨(-2000000000 : Int32), (h_60, g_60), rfl, HW, g_B ht hG⟩, hG.2.2.F ht⟩) hG.2.2.2.2 dX11_sum_86
          · replace HW := HW.2 c_33
            refine lv_aload_n hx hb dX11_sum_36 rfl (lv_at hl 0 rfl) ?_
            refine lv_iload_n hx hb dX11_sum_37 rfl (lv_at hl 1 rfl) ?_
            refine lv_iload_n hx hb dX11_sum_38 rfl (lv_at hl 2 rfl) ?_
            refine lv_iconst (v := (-1)) hx hb dX11_sum_39 (by decide) ?_
            refine lv_bipush (v := (-2)) hx hb dX11_sum_40 (by decide) ?_
            obtain ⟨P_42, HC_42, HW⟩ := HW
            refine g_callz (g_runV (As := [.int x1, .int x2, .int (-1 : Int32), .int (-2 : Int32)]) (rest := []) ⟨hx, hb, hml, hown, hts⟩ (m_X11_holds0 l D cy ad h_22 g_22 H.size x1 x2 (-1 : Int32) (-2 : Int32) P_42 HC_42) (cwV 4 hts (gd_V (wm6 42 rfl rfl) (wm6 44 rfl rfl) (wmp4 (q := (yX11_holds0, 26)) 13 rfl) (wm1 13 rfl rfl) (wm6 45 rfl rfl)) rfl rfl rfl (by decide +kernel) ⟨Nat.le_of_ble_eq_true rfl, Nat.le_of_ble_eq_true rfl⟩) hK hNw hG gl_135 rfl gk_135 (by decide) rfl rfl hl.1 rfl (lv_room (Nat.le_of_ble_eq_true rfl)) dX11_sum_42 ⟨Nat.zero_le _, Nat.zero_le _⟩) hG (fun r_42 h_42 g_42 H locs hz hq hG => ?_)
            replace HW := HW r_42 h_42 g_42 hz hq
            refine lv_if_eq (tgt := 52) hx hb dX11_sum_45 (by decide) (fun c_45 => ?_) (fun c_45 => ?_)
            · replace HW := HW.1 c_45
              refine lv_iconst (v := 0) hx hb dX11_sum_52 (by decide) ?_
              exact W.iret (v := (0 : Int32)) hx hb hr (fun t ht hW => ⟨⟨(0 : Int32), (h_42, g_42), rfl, HW, g_B ht hG⟩, hG.2.2.F ht⟩) hG.2.2.2.2 dX11_sum_53
            · replace HW := HW.2 c_45
              refine lv_iconst (v := 1) hx hb dX11_sum_48 (by decide) ?_
              refine lv_goto (tgt := 53) hx hb dX11_sum_49 (by decide) ?_
              exact W.iret (v := (1 : Int32)) hx hb hr (fun t ht hW => ⟨⟨(1 : Int32), (h_42, g_42), rfl, HW, g_B ht hG⟩, hG.2.2.F ht⟩) hG.2.2.2.2 dX11_sum_53
        · replace HW := HW.2 c_25
          refine lv_ldc (v := (-2100000000)) hx hb hown cn221 dX11_sum_28 ?_
          exact W.iret (v := (-2100000000 : Int32)) hx hb hr (fun t ht hW => ⟨⟨(-2100000000 : Int32), (h_22, g_22), rfl, HW, g_B ht hG⟩, hG.2.2.F ht⟩) hG.2.2.2.2 dX11_sum_30
  exact E0 _ _ _ hG hl

def j_X11_stands_81 (Q : Int32 → HI → HL → Prop) (K36 : Int32 → Int32 → Int32 → Int32 → HI → HL → Prop) (x1 : Int32) (x2 : Int32) (x3 : Int32) (x4 : Int32) (h : HI) (g : HL) : Prop :=
  (∀ x4_81 : Int32, x4_81 = (x4 + 1) → K36 x1 x2 x3 x4_81 h g)
def b_X11_stands_36 (Q : Int32 → HI → HL → Prop) (K36 : Int32 → Int32 → Int32 → Int32 → HI → HL → Prop) (x1 : Int32) (x2 : Int32) (x3 : Int32) (x4 : Int32) (h : HI) (g : HL) : Prop :=
  (vp_in (2 : Int32) 887 ∧ (((h 136 (2 : Int32).toNatClampNeg) ≤ x4 → Q (1 : Int32) h g) ∧ (¬ (h 136 (2 : Int32).toNatClampNeg) ≤ x4 → (∃ P_51 : Int32 → HI → HL → Prop, w_X11_has x4 x2 h g P_51 ∧ ∀ (r_51 : Int32) (h_51 : HI) (g_51 : HL), zb r_51 → P_51 r_51 h_51 g_51 → ((r_51 = 0 → j_X11_stands_81 Q K36 x1 x2 x3 x4 h_51 g_51) ∧ (¬ r_51 = 0 → (∃ P_61 : Int32 → HI → HL → Prop, w_X11_has x4 x1 h_51 g_51 P_61 ∧ ∀ (r_61 : Int32) (h_61 : HI) (g_61 : HL), zb r_61 → P_61 r_61 h_61 g_61 → ((¬ r_61 = 0 → Q (0 : Int32) h_61 g_61) ∧ (r_61 = 0 → (∃ P_73 : Int32 → HI → HL → Prop, w_X11_holds0 x4 x3 x1 x2 h_61 g_61 P_73 ∧ ∀ (r_73 : Int32) (h_73 : HI) (g_73 : HL), zb r_73 → P_73 r_73 h_73 g_73 → ((¬ r_73 = 0 → j_X11_stands_81 Q K36 x1 x2 x3 x4 h_73 g_73) ∧ (r_73 = 0 → Q (0 : Int32) h_73 g_73))))))))))))
def F_X11_stands_36 (Q : Int32 → HI → HL → Prop) (K : Int32 × Int32 × Int32 × Int32 × HI × HL → Prop) (q : Int32 × Int32 × Int32 × Int32 × HI × HL) : Prop := b_X11_stands_36 Q (fun x1 x2 x3 x4 h g => K (x1, x2, x3, x4, h, g)) q.1 q.2.1 q.2.2.1 q.2.2.2.1 q.2.2.2.2.1 q.2.2.2.2.2
def w_X11_stands (x1 : Int32) (x2 : Int32) (x3 : Int32) (h : HI) (g : HL) (Q : Int32 → HI → HL → Prop) : Prop :=
  (∃ P_3 : Int32 → HI → HL → Prop, w_X11_is (0 : Int32) x1 h g P_3 ∧ ∀ (r_3 : Int32) (h_3 : HI) (g_3 : HL), zb r_3 → P_3 r_3 h_3 g_3 → ((r_3 = 0 → Q (-2 : Int32) h_3 g_3) ∧ (¬ r_3 = 0 → (∃ P_12 : Int32 → HI → HL → Prop, w_X11_is (0 : Int32) x2 h_3 g_3 P_12 ∧ ∀ (r_12 : Int32) (h_12 : HI) (g_12 : HL), zb r_12 → P_12 r_12 h_12 g_12 → ((r_12 = 0 → Q (-2 : Int32) h_12 g_12) ∧ (¬ r_12 = 0 → ((x1 = x2 → Q (-2 : Int32) h_12 g_12) ∧ (¬ x1 = x2 → (∃ P_24 : Int32 → HI → HL → Prop, w_X11_isYear x3 h_12 g_12 P_24 ∧ ∀ (r_24 : Int32) (h_24 : HI) (g_24 : HL), zb r_24 → P_24 r_24 h_24 g_24 → ((¬ r_24 = 0 → lpE (F_X11_stands_36 Q) (x1, x2, x3, (0 : Int32), h_24, g_24)) ∧ (r_24 = 0 → Q (-2 : Int32) h_24 g_24)))))))))))
set_option maxHeartbeats 8000000 in
set_option maxRecDepth 100000 in
theorem m_X11_stands (l : Launch) (D : va_G) (cy : Nat → ClassId) (ad : Nat → Nat) (h : HI) (g : HL) (sz : Nat) (x1 : Int32) (x2 : Int32) (x3 : Int32) (Q : Int32 → HI → HL → Prop) (HW : w_X11_stands x1 x2 x3 h g Q) : Met l yX11_stands (wa yX11_stands cX11_stands 5 (some .int)) ({ frames := 10, cells := 0, slots := 0, locals := 242 }) (va_Pc [.ref (ad 135), .int x1, .int x2, .int x3] (gI D cy ad h g sz)) (va_Qi (fun (r : Int32) (u : HI × HL) => Q r u.1 u.2) (gB D cy ad sz) (gA ad sz)) 0 0 (gA ad sz) := by
  refine Met.ofW (cc := cX11_stands) (maxL := 5) (ret := (some .int)) (by decide) rfl ?_
  intro p e s m args below meth c s₁ B hml hv
  obtain ⟨hav, hsz, hP, hK, hD0, hNw⟩ := hv
  have hx := B.exec
  have hb := B.bytes
  have hr := B.returns
  have hts := atoms_spec (ws := (wa yX11_stands cX11_stands 5 (some .int))) B.pre
  have hw := wa_hw hts
  have hown : s.vm.findClass RX11 = some m.cls := findClass_of_methodNamed B.named
  have hlocks := B.notSynchronized
  subst hsz
  have hG : gG D cy ad (gA ad s.heap.size) s.heap h g s.heap [] := ⟨hP, gA_self hD0, va_S.rf⟩
  clear hP hD0
  have lk7 := hw (.fieldLink RX11 7 "OldWorksModel" "st" "[I") (wm5 27 rfl rfl)
  rw [show (headSpec (wa yX11_stands cX11_stands 5 (some .int)) ({ frames := 10, cells := 0, slots := 0, locals := 242 } : Room)).room = ({ frames := 10, cells := 0, slots := 0, locals := 242 } : Room) from rfl]
  have hl := lv_entry ([.ref (ad 135), .int x1, .int x2, .int x3]) (n := 5) (Nat.le_of_ble_eq_true rfl)
  rw [show entryFrame m args 5 = entryFrame m ([.ref (ad 135), .int x1, .int x2, .int x3] : List Value).toArray 5 from by rw [hav], lg_entry_eq]
  generalize (lg_sl ([.ref (ad 135), .int x1, .int x2, .int x3]) ++ List.replicate (5 - (lg_sl ([.ref (ad 135), .int x1, .int x2, .int x3])).length) Slot.unset).toArray = ls at hl ⊢
  have hl : lv_has ls 5 [(0, .ref (ad 135)), (1, .int x1), (2, .int x2), (3, .int x3)] := hl
  have B81 : ∀ (K36 : Int32 → Int32 → Int32 → Int32 → HI → HL → Prop) (hK36 : ∀ (x1 : Int32) (x2 : Int32) (x3 : Int32) (x4 : Int32) (h : HI) (g : HL) (H : Heap) (locs : List Loc) (ls : Array Slot), K36 x1 x2 x3 x4 h g → gG D cy ad (gA ad s.heap.size) s.heap h g H locs → lv_has ls 5 [(0, .ref (ad 135)), (1, .int x1), (2, .int x2), (3, .int x3), (4, .int x4)] → W p l e ({ frames := 10, cells := 0, slots := 0, locals := 242 } : Room) s m args below meth c H locs 0 0 (MQ below (va_Qi (fun (r : Int32) (u : HI × HL) => Q r u.1 u.2) (gB D cy ad s.heap.size) (gA ad s.heap.size)) args s 0 0 (gA ad s.heap.size)) (F0 m 36 ls [])) (x1 : Int32) (x2 : Int32) (x3 : Int32) (x4 : Int32) (h : HI) (g : HL) (H : Heap) (locs : List Loc) (ls : Array Slot), j_X11_stands_81 Q K36 x1 x2 x3 x4 h g → gG D cy ad (gA ad s.heap.size) s.heap h g H locs → lv_has ls 5 [(0, .ref (ad 135)), (1, .int x1), (2, .int x2), (3, .int x3), (4, .int x4)] → W p l e ({ frames := 10, cells := 0, slots := 0, locals := 242 } : Room) s m args below meth c H locs 0 0 (MQ below (va_Qi (fun (r : Int32) (u : HI × HL) => Q r u.1 u.2) (gB D cy ad s.heap.size) (gA ad s.heap.size)) args s 0 0 (gA ad s.heap.size)) (F0 m 81 ls []) := by
    intro K36 hK36 x1 x2 x3 x4 h g H locs ls HW hG hl
    unfold j_X11_stands_81 at HW
    obtain ⟨x4_81, ex4_81⟩ : ∃ y : Int32, y = (x4 + 1) := ⟨_, rfl⟩
    replace HW := HW x4_81 ex4_81
    refine lv_iinc (v := x4_81) (lv' := [(4, .int x4_81), (0, .ref (ad 135)), (1, .int x1), (2, .int x2), (3, .int x3)]) hx hb dX11_stands_81 hl (k := 4) rfl (by rw [ex4_81]; rfl) (by decide) rfl (fun ls hl => ?_)
    refine lv_goto (tgt := 36) hx hb dX11_stands_84 (by decide) ?_
    exact hK36 x1 x2 x3 x4_81 h g _ _ _ HW hG (lv_sub hl [1, 2, 3, 4, 0] rfl)
  have L36 : ∀ (n : Nat) (x1 : Int32) (x2 : Int32) (x3 : Int32) (x4 : Int32) (h : HI) (g : HL) (H : Heap) (locs : List Loc) (ls : Array Slot), lpN (F_X11_stands_36 Q) n (x1, x2, x3, x4, h, g) → gG D cy ad (gA ad s.heap.size) s.heap h g H locs → lv_has ls 5 [(0, .ref (ad 135)), (1, .int x1), (2, .int x2), (3, .int x3), (4, .int x4)] → W p l e ({ frames := 10, cells := 0, slots := 0, locals := 242 } : Room) s m args below meth c H locs 0 0 (MQ below (va_Qi (fun (r : Int32) (u : HI × HL) => Q r u.1 u.2) (gB D cy ad s.heap.size) (gA ad s.heap.size)) args s 0 0 (gA ad s.heap.size)) (F0 m 36 ls []) := by
    intro n
    induction n with
    | zero => intro x1 x2 x3 x4 h g H locs ls HW; exact HW.elim
    | succ n ih =>
      intro x1 x2 x3 x4 h g H locs ls HW hG hl
      have HW : b_X11_stands_36 Q (fun x1 x2 x3 x4 h g => lpN (F_X11_stands_36 Q) n (x1, x2, x3, x4, h, g)) x1 x2 x3 x4 h g := HW
      generalize hKe : (fun (x1 : Int32) (x2 : Int32) (x3 : Int32) (x4 : Int32) (h : HI) (g : HL) => lpN (F_X11_stands_36 Q) n (x1, x2, x3, x4, h, g)) = K36 at HW
      have hK36 : ∀ (x1 : Int32) (x2 : Int32) (x3 : Int32) (x4 : Int32) (h : HI) (g : HL) (H : Heap) (locs : List Loc) (ls : Array Slot), K36 x1 x2 x3 x4 h g → gG D cy ad (gA ad s.heap.size) s.heap h g H locs → lv_has ls 5 [(0, .ref (ad 135)), (1, .int x1), (2, .int x2), (3, .int x3), (4, .int x4)] → W p l e ({ frames := 10, cells := 0, slots := 0, locals := 242 } : Room) s m args below meth c H locs 0 0 (MQ below (va_Qi (fun (r : Int32) (u : HI × HL) => Q r u.1 u.2) (gB D cy ad s.heap.size) (gA ad s.heap.size)) args s 0 0 (gA ad s.heap.size)) (F0 m 36 ls []) := by subst hKe; exact ih
      clear ih
      clear hKe
      unfold b_X11_stands_36 at HW
      refine lv_iload hx hb dX11_stands_36 (lv_at hl 4 rfl) ?_
      refine lv_aload_n hx hb dX11_stands_38 rfl (lv_at hl 0 rfl) ?_
      refine g_getr hx hb hw inG11 hown hK hG gl_135 rfl gk_135 (by decide) 0 (by decide) (by rw [gm_135]; decide) (r := 136) gr_135_0 lk7 dX11_stands_39 ?_
      refine lv_iconst (v := 2) hx hb dX11_stands_42 (by decide) ?_
      refine g_iald hx hb hK hG gl_136 gk_136 gn_136 HW.1 dX11_stands_43 ?_
      replace HW := HW.2
      refine lv_icmp_ge (tgt := 87) hx hb dX11_stands_44 (by decide) (fun c_44 => ?_) (fun c_44 => ?_)
      · replace HW := HW.1 c_44
        refine lv_iconst (v := 1) hx hb dX11_stands_87 (by decide) ?_
        exact W.iret (v := (1 : Int32)) hx hb hr (fun t ht hW => ⟨⟨(1 : Int32), (h, g), rfl, HW, g_B ht hG⟩, hG.2.2.F ht⟩) hG.2.2.2.2 dX11_stands_88
      · replace HW := HW.2 c_44
        refine lv_aload_n hx hb dX11_stands_47 rfl (lv_at hl 0 rfl) ?_
        refine lv_iload hx hb dX11_stands_48 (lv_at hl 4 rfl) ?_
        refine lv_iload_n hx hb dX11_stands_50 rfl (lv_at hl 2 rfl) ?_
        obtain ⟨P_51, HC_51, HW⟩ := HW
        refine g_callz (g_runV (As := [.int x4, .int x2]) (rest := []) ⟨hx, hb, hml, hown, hts⟩ (m_X11_has l D cy ad h g H.size x4 x2 P_51 HC_51) (cwV 2 hts (gd_V (wm6 29 rfl rfl) (wm6 31 rfl rfl) (wmp4 (q := (yX11_has, 26)) 11 rfl) (wm1 13 rfl rfl) (wm6 32 rfl rfl)) rfl rfl rfl (by decide +kernel) ⟨Nat.le_of_ble_eq_true rfl, Nat.le_of_ble_eq_true rfl⟩) hK hNw hG gl_135 rfl gk_135 (by decide) rfl rfl hl.1 rfl (lv_room (Nat.le_of_ble_eq_true rfl)) dX11_stands_51 ⟨Nat.zero_le _, Nat.zero_le _⟩) hG (fun r_51 h_51 g_51 H locs hz hq hG => ?_)
        replace HW := HW r_51 h_51 g_51 hz hq
        refine lv_if_eq (tgt := 81) hx hb dX11_stands_54 (by decide) (fun c_54 => ?_) (fun c_54 => ?_)
        · replace HW := HW.1 c_54
          exact B81 K36 hK36 x1 x2 x3 x4 h_51 g_51 _ _ _ HW hG (lv_sub hl [0, 1, 2, 3, 4] rfl)
        · replace HW := HW.2 c_54
          refine lv_aload_n hx hb dX11_stands_57 rfl (lv_at hl 0 rfl) ?_
          refine lv_iload hx hb dX11_stands_58 (lv_at hl 4 rfl) ?_
          refine lv_iload_n hx hb dX11_stands_60 rfl (lv_at hl 1 rfl) ?_
          obtain ⟨P_61, HC_61, HW⟩ := HW
          refine g_callz (g_runV (As := [.int x4, .int x1]) (rest := []) ⟨hx, hb, hml, hown, hts⟩ (m_X11_has l D cy ad h_51 g_51 H.size x4 x1 P_61 HC_61) (cwV 2 hts (gd_V (wm6 29 rfl rfl) (wm6 31 rfl rfl) (wmp4 (q := (yX11_has, 26)) 11 rfl) (wm1 13 rfl rfl) (wm6 32 rfl rfl)) rfl rfl rfl (by decide +kernel) ⟨Nat.le_of_ble_eq_true rfl, Nat.le_of_ble_eq_true rfl⟩) hK hNw hG gl_135 rfl gk_135 (by decide) rfl rfl hl.1 rfl (lv_room (Nat.le_of_ble_eq_true rfl)) dX11_stands_61 ⟨Nat.zero_le _, Nat.zero_le _⟩) hG (fun r_61 h_61 g_61 H locs hz hq hG => ?_)
          replace HW := HW r_61 h_61 g_61 hz hq
          refine lv_if_ne (tgt := 79) hx hb dX11_stands_64 (by decide) (fun c_64 => ?_) (fun c_64 => ?_)
          · replace HW := HW.1 c_64
            refine lv_iconst (v := 0) hx hb dX11_stands_79 (by decide) ?_
            exact W.iret (v := (0 : Int32)) hx hb hr (fun t ht hW => ⟨⟨(0 : Int32), (h_61, g_61), rfl, HW, g_B ht hG⟩, hG.2.2.F ht⟩) hG.2.2.2.2 dX11_stands_80
          · replace HW := HW.2 c_64
            refine lv_aload_n hx hb dX11_stands_67 rfl (lv_at hl 0 rfl) ?_
            refine lv_iload hx hb dX11_stands_68 (lv_at hl 4 rfl) ?_
            refine lv_iload_n hx hb dX11_stands_70 rfl (lv_at hl 3 rfl) ?_
            refine lv_iload_n hx hb dX11_stands_71 rfl (lv_at hl 1 rfl) ?_
            refine lv_iload_n hx hb dX11_stands_72 rfl (lv_at hl 2 rfl) ?_
            obtain ⟨P_73, HC_73, HW⟩ := HW
            refine g_callz (g_runV (As := [.int x4, .int x3, .int x1, .int x2]) (rest := []) ⟨hx, hb, hml, hown, hts⟩ (m_X11_holds0 l D cy ad h_61 g_61 H.size x4 x3 x1 x2 P_73 HC_73) (cwV 4 hts (gd_V (wm6 42 rfl rfl) (wm6 44 rfl rfl) (wmp4 (q := (yX11_holds0, 26)) 13 rfl) (wm1 13 rfl rfl) (wm6 45 rfl rfl)) rfl rfl rfl (by decide +kernel) ⟨Nat.le_of_ble_eq_true rfl, Nat.le_of_ble_eq_true rfl⟩) hK hNw hG gl_135 rfl gk_135 (by decide) rfl rfl hl.1 rfl (lv_room (Nat.le_of_ble_eq_true rfl)) dX11_stands_73 ⟨Nat.zero_le _, Nat.zero_le _⟩) hG (fun r_73 h_73 g_73 H locs hz hq hG => ?_)
            replace HW := HW r_73 h_73 g_73 hz hq
            refine lv_if_ne (tgt := 81) hx hb dX11_stands_76 (by decide) (fun c_76 => ?_) (fun c_76 => ?_)
            · replace HW := HW.1 c_76
              exact B81 K36 hK36 x1 x2 x3 x4 h_73 g_73 _ _ _ HW hG (lv_sub hl [0, 1, 2, 3, 4] rfl)
            · replace HW := HW.2 c_76
              refine lv_iconst (v := 0) hx hb dX11_stands_79 (by decide) ?_
              exact W.iret (v := (0 : Int32)) hx hb hr (fun t ht hW => ⟨⟨(0 : Int32), (h_73, g_73), rfl, HW, g_B ht hG⟩, hG.2.2.F ht⟩) hG.2.2.2.2 dX11_stands_80
  have E0 : ∀ (H : Heap) (locs : List Loc) (ls : Array Slot), gG D cy ad (gA ad s.heap.size) s.heap h g H locs → lv_has ls 5 [(0, .ref (ad 135)), (1, .int x1), (2, .int x2), (3, .int x3)] → W p l e ({ frames := 10, cells := 0, slots := 0, locals := 242 } : Room) s m args below meth c H locs 0 0 (MQ below (va_Qi (fun (r : Int32) (u : HI × HL) => Q r u.1 u.2) (gB D cy ad s.heap.size) (gA ad s.heap.size)) args s 0 0 (gA ad s.heap.size)) (F0 m 0 ls []) := by
    intro H locs ls hG hl
    unfold w_X11_stands at HW
    refine lv_aload_n hx hb dX11_stands_0 rfl (lv_at hl 0 rfl) ?_
    refine lv_iconst (v := 0) hx hb dX11_stands_1 (by decide) ?_
    refine lv_iload_n hx hb dX11_stands_2 rfl (lv_at hl 1 rfl) ?_
    obtain ⟨P_3, HC_3, HW⟩ := HW
    refine g_callz (g_runV (As := [.int (0 : Int32), .int x1]) (rest := []) ⟨hx, hb, hml, hown, hts⟩ (m_X11_is l D cy ad h g H.size (0 : Int32) x1 P_3 HC_3) (cwV 2 hts (gd_V (wm5 184 rfl rfl) (wm5 186 rfl rfl) (wmp3 (q := (yX11_is, 26)) 14 rfl) (wm1 13 rfl rfl) (wm5 187 rfl rfl)) rfl rfl rfl (by decide +kernel) ⟨Nat.le_of_ble_eq_true rfl, Nat.le_of_ble_eq_true rfl⟩) hK hNw hG gl_135 rfl gk_135 (by decide) rfl rfl hl.1 rfl (lv_room (Nat.le_of_ble_eq_true rfl)) dX11_stands_3 ⟨Nat.zero_le _, Nat.zero_le _⟩) hG (fun r_3 h_3 g_3 H locs hz hq hG => ?_)
    replace HW := HW r_3 h_3 g_3 hz hq
    refine lv_if_eq (tgt := 30) hx hb dX11_stands_6 (by decide) (fun c_6 => ?_) (fun c_6 => ?_)
    · replace HW := HW.1 c_6
      refine lv_bipush (v := (-2)) hx hb dX11_stands_30 (by decide) ?_
      exact W.iret (v := (-2 : Int32)) hx hb hr (fun t ht hW => ⟨⟨(-2 : Int32), (h_3, g_3), rfl, HW, g_B ht hG⟩, hG.2.2.F ht⟩) hG.2.2.2.2 dX11_stands_32
    · replace HW := HW.2 c_6
      refine lv_aload_n hx hb dX11_stands_9 rfl (lv_at hl 0 rfl) ?_
      refine lv_iconst (v := 0) hx hb dX11_stands_10 (by decide) ?_
      refine lv_iload_n hx hb dX11_stands_11 rfl (lv_at hl 2 rfl) ?_
      obtain ⟨P_12, HC_12, HW⟩ := HW
      refine g_callz (g_runV (As := [.int (0 : Int32), .int x2]) (rest := []) ⟨hx, hb, hml, hown, hts⟩ (m_X11_is l D cy ad h_3 g_3 H.size (0 : Int32) x2 P_12 HC_12) (cwV 2 hts (gd_V (wm5 184 rfl rfl) (wm5 186 rfl rfl) (wmp3 (q := (yX11_is, 26)) 14 rfl) (wm1 13 rfl rfl) (wm5 187 rfl rfl)) rfl rfl rfl (by decide +kernel) ⟨Nat.le_of_ble_eq_true rfl, Nat.le_of_ble_eq_true rfl⟩) hK hNw hG gl_135 rfl gk_135 (by decide) rfl rfl hl.1 rfl (lv_room (Nat.le_of_ble_eq_true rfl)) dX11_stands_12 ⟨Nat.zero_le _, Nat.zero_le _⟩) hG (fun r_12 h_12 g_12 H locs hz hq hG => ?_)
      replace HW := HW r_12 h_12 g_12 hz hq
      refine lv_if_eq (tgt := 30) hx hb dX11_stands_15 (by decide) (fun c_15 => ?_) (fun c_15 => ?_)
      · replace HW := HW.1 c_15
        refine lv_bipush (v := (-2)) hx hb dX11_stands_30 (by decide) ?_
        exact W.iret (v := (-2 : Int32)) hx hb hr (fun t ht hW => ⟨⟨(-2 : Int32), (h_12, g_12), rfl, HW, g_B ht hG⟩, hG.2.2.F ht⟩) hG.2.2.2.2 dX11_stands_32
      · replace HW := HW.2 c_15
        refine lv_iload_n hx hb dX11_stands_18 rfl (lv_at hl 1 rfl) ?_
        refine lv_iload_n hx hb dX11_stands_19 rfl (lv_at hl 2 rfl) ?_
        refine lv_icmp_eq (tgt := 30) hx hb dX11_stands_20 (by decide) (fun c_20 => ?_) (fun c_20 => ?_)
        · replace HW := HW.1 c_20
          refine lv_bipush (v := (-2)) hx hb dX11_stands_30 (by decide) ?_
          exact W.iret (v := (-2 : Int32)) hx hb hr (fun t ht hW => ⟨⟨(-2 : Int32), (h_12, g_12), rfl, HW, g_B ht hG⟩, hG.2.2.F ht⟩) hG.2.2.2.2 dX11_stands_32
        · replace HW := HW.2 c_20
          refine lv_iload_n hx hb dX11_stands_23 rfl (lv_at hl 3 rfl) ?_
          obtain ⟨P_24, HC_24, HW⟩ := HW
          refine g_callz (g_runS (As := [.int x3]) (rest := []) ⟨hx, hb, hml, hown, hts⟩ (m_X11_isYear l D cy ad h_12 g_12 H.size x3 P_24 HC_24) (va_cwS 1 hts (gd_S (wm5 114 rfl rfl) (wm5 115 rfl rfl) (wm1 13 rfl rfl) (wm5 116 rfl rfl)) rfl rfl rfl (by decide +kernel) ⟨Nat.le_of_ble_eq_true rfl, Nat.le_of_ble_eq_true rfl⟩) hK hNw hG rfl rfl hl.1 rfl (lv_room (Nat.le_of_ble_eq_true rfl)) dX11_stands_24 ⟨Nat.zero_le _, Nat.zero_le _⟩) hG (fun r_24 h_24 g_24 H locs hz hq hG => ?_)
          replace HW := HW r_24 h_24 g_24 hz hq
          refine lv_if_ne (tgt := 33) hx hb dX11_stands_27 (by decide) (fun c_27 => ?_) (fun c_27 => ?_)
          · replace HW := HW.1 c_27
            refine lv_iconst (v := 0) hx hb dX11_stands_33 (by decide) ?_
            refine lv_istore (lv' := [(4, .int (0 : Int32)), (0, .ref (ad 135)), (1, .int x1), (2, .int x2), (3, .int x3)]) hx hb dX11_stands_34 hl (by decide) rfl (fun ls hl => ?_)
            obtain ⟨n_36, HW⟩ := HW
            exact L36 n_36 x1 x2 x3 (0 : Int32) h_24 g_24 _ _ _ HW hG (lv_sub hl [1, 2, 3, 4, 0] rfl)
          · replace HW := HW.2 c_27
            refine lv_bipush (v := (-2)) hx hb dX11_stands_30 (by decide) ?_
            exact W.iret (v := (-2 : Int32)) hx hb hr (fun t ht hW => ⟨⟨(-2 : Int32), (h_24, g_24), rfl, HW, g_B ht hG⟩, hG.2.2.F ht⟩) hG.2.2.2.2 dX11_stands_32
  exact E0 _ _ _ hG hl

def b_X11_life_21 (Q : Int32 → HI → HL → Prop) (K21 : Int32 → Int32 → Int32 → HI → HL → Prop) (x1 : Int32) (x2 : Int32) (x3 : Int32) (h : HI) (g : HL) : Prop :=
  (((100 : Int32) ≤ (x2 + x3) → Q x3 h g) ∧ (¬ (100 : Int32) ≤ (x2 + x3) → (∃ P_37 : Int32 → HI → HL → Prop, w_X11_holds0 x1 (x2 + x3) (-1 : Int32) (-2 : Int32) h g P_37 ∧ ∀ (r_37 : Int32) (h_37 : HI) (g_37 : HL), zb r_37 → P_37 r_37 h_37 g_37 → ((r_37 = 0 → Q x3 h_37 g_37) ∧ (¬ r_37 = 0 → (∀ x3_43 : Int32, x3_43 = (x3 + 1) → K21 x1 x2 x3_43 h_37 g_37))))))
def F_X11_life_21 (Q : Int32 → HI → HL → Prop) (K : Int32 × Int32 × Int32 × HI × HL → Prop) (q : Int32 × Int32 × Int32 × HI × HL) : Prop := b_X11_life_21 Q (fun x1 x2 x3 h g => K (x1, x2, x3, h, g)) q.1 q.2.1 q.2.2.1 q.2.2.2.1 q.2.2.2.2
def w_X11_life (x1 : Int32) (x2 : Int32) (h : HI) (g : HL) (Q : Int32 → HI → HL → Prop) : Prop :=
  (∃ P_3 : Int32 → HI → HL → Prop, w_X11_is (2 : Int32) x1 h g P_3 ∧ ∀ (r_3 : Int32) (h_3 : HI) (g_3 : HL), zb r_3 → P_3 r_3 h_3 g_3 → ((r_3 = 0 → Q (-2 : Int32) h_3 g_3) ∧ (¬ r_3 = 0 → (∃ P_10 : Int32 → HI → HL → Prop, w_X11_isYear x2 h_3 g_3 P_10 ∧ ∀ (r_10 : Int32) (h_10 : HI) (g_10 : HL), zb r_10 → P_10 r_10 h_10 g_10 → ((¬ r_10 = 0 → lpE (F_X11_life_21 Q) (x1, x2, (0 : Int32), h_10, g_10)) ∧ (r_10 = 0 → Q (-2 : Int32) h_10 g_10))))))
set_option maxHeartbeats 8000000 in
set_option maxRecDepth 100000 in
theorem m_X11_life (l : Launch) (D : va_G) (cy : Nat → ClassId) (ad : Nat → Nat) (h : HI) (g : HL) (sz : Nat) (x1 : Int32) (x2 : Int32) (Q : Int32 → HI → HL → Prop) (HW : w_X11_life x1 x2 h g Q) : Met l yX11_life (wa yX11_life cX11_life 4 (some .int)) ({ frames := 10, cells := 0, slots := 0, locals := 242 }) (va_Pc [.ref (ad 135), .int x1, .int x2] (gI D cy ad h g sz)) (va_Qi (fun (r : Int32) (u : HI × HL) => Q r u.1 u.2) (gB D cy ad sz) (gA ad sz)) 0 0 (gA ad sz) := by
  refine Met.ofW (cc := cX11_life) (maxL := 4) (ret := (some .int)) (by decide) rfl ?_
  intro p e s m args below meth c s₁ B hml hv
  obtain ⟨hav, hsz, hP, hK, hD0, hNw⟩ := hv
  have hx := B.exec
  have hb := B.bytes
  have hr := B.returns
  have hts := atoms_spec (ws := (wa yX11_life cX11_life 4 (some .int))) B.pre
  have hw := wa_hw hts
  have hown : s.vm.findClass RX11 = some m.cls := findClass_of_methodNamed B.named
  have hlocks := B.notSynchronized
  subst hsz
  have hG : gG D cy ad (gA ad s.heap.size) s.heap h g s.heap [] := ⟨hP, gA_self hD0, va_S.rf⟩
  clear hP hD0
  rw [show (headSpec (wa yX11_life cX11_life 4 (some .int)) ({ frames := 10, cells := 0, slots := 0, locals := 242 } : Room)).room = ({ frames := 10, cells := 0, slots := 0, locals := 242 } : Room) from rfl]
  have hl := lv_entry ([.ref (ad 135), .int x1, .int x2]) (n := 4) (Nat.le_of_ble_eq_true rfl)
  rw [show entryFrame m args 4 = entryFrame m ([.ref (ad 135), .int x1, .int x2] : List Value).toArray 4 from by rw [hav], lg_entry_eq]
  generalize (lg_sl ([.ref (ad 135), .int x1, .int x2]) ++ List.replicate (4 - (lg_sl ([.ref (ad 135), .int x1, .int x2])).length) Slot.unset).toArray = ls at hl ⊢
  have hl : lv_has ls 4 [(0, .ref (ad 135)), (1, .int x1), (2, .int x2)] := hl
  have L21 : ∀ (n : Nat) (x1 : Int32) (x2 : Int32) (x3 : Int32) (h : HI) (g : HL) (H : Heap) (locs : List Loc) (ls : Array Slot), lpN (F_X11_life_21 Q) n (x1, x2, x3, h, g) → gG D cy ad (gA ad s.heap.size) s.heap h g H locs → lv_has ls 4 [(0, .ref (ad 135)), (1, .int x1), (2, .int x2), (3, .int x3)] → W p l e ({ frames := 10, cells := 0, slots := 0, locals := 242 } : Room) s m args below meth c H locs 0 0 (MQ below (va_Qi (fun (r : Int32) (u : HI × HL) => Q r u.1 u.2) (gB D cy ad s.heap.size) (gA ad s.heap.size)) args s 0 0 (gA ad s.heap.size)) (F0 m 21 ls []) := by
    intro n
    induction n with
    | zero => intro x1 x2 x3 h g H locs ls HW; exact HW.elim
    | succ n ih =>
      intro x1 x2 x3 h g H locs ls HW hG hl
      have HW : b_X11_life_21 Q (fun x1 x2 x3 h g => lpN (F_X11_life_21 Q) n (x1, x2, x3, h, g)) x1 x2 x3 h g := HW
      generalize hKe : (fun (x1 : Int32) (x2 : Int32) (x3 : Int32) (h : HI) (g : HL) => lpN (F_X11_life_21 Q) n (x1, x2, x3, h, g)) = K21 at HW
      have hK21 : ∀ (x1 : Int32) (x2 : Int32) (x3 : Int32) (h : HI) (g : HL) (H : Heap) (locs : List Loc) (ls : Array Slot), K21 x1 x2 x3 h g → gG D cy ad (gA ad s.heap.size) s.heap h g H locs → lv_has ls 4 [(0, .ref (ad 135)), (1, .int x1), (2, .int x2), (3, .int x3)] → W p l e ({ frames := 10, cells := 0, slots := 0, locals := 242 } : Room) s m args below meth c H locs 0 0 (MQ below (va_Qi (fun (r : Int32) (u : HI × HL) => Q r u.1 u.2) (gB D cy ad s.heap.size) (gA ad s.heap.size)) args s 0 0 (gA ad s.heap.size)) (F0 m 21 ls []) := by subst hKe; exact ih
      clear ih
      clear hKe
      unfold b_X11_life_21 at HW
      refine lv_iload_n hx hb dX11_life_21 rfl (lv_at hl 2 rfl) ?_
      refine lv_iload_n hx hb dX11_life_22 rfl (lv_at hl 3 rfl) ?_
      refine lv_iadd hx hb dX11_life_23 ?_
      refine lv_bipush (v := 100) hx hb dX11_life_24 (by decide) ?_
      refine lv_icmp_ge (tgt := 49) hx hb dX11_life_26 (by decide) (fun c_26 => ?_) (fun c_26 => ?_)
      · replace HW := HW.1 c_26
        refine lv_iload_n hx hb dX11_life_49 rfl (lv_at hl 3 rfl) ?_
        exact W.iret (v := x3) hx hb hr (fun t ht hW => ⟨⟨x3, (h, g), rfl, HW, g_B ht hG⟩, hG.2.2.F ht⟩) hG.2.2.2.2 dX11_life_50
      · replace HW := HW.2 c_26
        refine lv_aload_n hx hb dX11_life_29 rfl (lv_at hl 0 rfl) ?_
        refine lv_iload_n hx hb dX11_life_30 rfl (lv_at hl 1 rfl) ?_
        refine lv_iload_n hx hb dX11_life_31 rfl (lv_at hl 2 rfl) ?_
        refine lv_iload_n hx hb dX11_life_32 rfl (lv_at hl 3 rfl) ?_
        refine lv_iadd hx hb dX11_life_33 ?_
        refine lv_iconst (v := (-1)) hx hb dX11_life_34 (by decide) ?_
        refine lv_bipush (v := (-2)) hx hb dX11_life_35 (by decide) ?_
        obtain ⟨P_37, HC_37, HW⟩ := HW
        refine g_callz (g_runV (As := [.int x1, .int (x2 + x3), .int (-1 : Int32), .int (-2 : Int32)]) (rest := []) ⟨hx, hb, hml, hown, hts⟩ (m_X11_holds0 l D cy ad h g H.size x1 (x2 + x3) (-1 : Int32) (-2 : Int32) P_37 HC_37) (cwV 4 hts (gd_V (wm6 42 rfl rfl) (wm6 44 rfl rfl) (wmp4 (q := (yX11_holds0, 26)) 13 rfl) (wm1 13 rfl rfl) (wm6 45 rfl rfl)) rfl rfl rfl (by decide +kernel) ⟨Nat.le_of_ble_eq_true rfl, Nat.le_of_ble_eq_true rfl⟩) hK hNw hG gl_135 rfl gk_135 (by decide) rfl rfl hl.1 rfl (lv_room (Nat.le_of_ble_eq_true rfl)) dX11_life_37 ⟨Nat.zero_le _, Nat.zero_le _⟩) hG (fun r_37 h_37 g_37 H locs hz hq hG => ?_)
        replace HW := HW r_37 h_37 g_37 hz hq
        refine lv_if_eq (tgt := 49) hx hb dX11_life_40 (by decide) (fun c_40 => ?_) (fun c_40 => ?_)
        · replace HW := HW.1 c_40
          refine lv_iload_n hx hb dX11_life_49 rfl (lv_at hl 3 rfl) ?_
          exact W.iret (v := x3) hx hb hr (fun t ht hW => ⟨⟨x3, (h_37, g_37), rfl, HW, g_B ht hG⟩, hG.2.2.F ht⟩) hG.2.2.2.2 dX11_life_50
        · replace HW := HW.2 c_40
          obtain ⟨x3_43, ex3_43⟩ : ∃ y : Int32, y = (x3 + 1) := ⟨_, rfl⟩
          replace HW := HW x3_43 ex3_43
          refine lv_iinc (v := x3_43) (lv' := [(3, .int x3_43), (0, .ref (ad 135)), (1, .int x1), (2, .int x2)]) hx hb dX11_life_43 hl (k := 3) rfl (by rw [ex3_43]; rfl) (by decide) rfl (fun ls hl => ?_)
          refine lv_goto (tgt := 21) hx hb dX11_life_46 (by decide) ?_
          exact hK21 x1 x2 x3_43 h_37 g_37 _ _ _ HW hG (lv_sub hl [1, 2, 3, 0] rfl)
  have E0 : ∀ (H : Heap) (locs : List Loc) (ls : Array Slot), gG D cy ad (gA ad s.heap.size) s.heap h g H locs → lv_has ls 4 [(0, .ref (ad 135)), (1, .int x1), (2, .int x2)] → W p l e ({ frames := 10, cells := 0, slots := 0, locals := 242 } : Room) s m args below meth c H locs 0 0 (MQ below (va_Qi (fun (r : Int32) (u : HI × HL) => Q r u.1 u.2) (gB D cy ad s.heap.size) (gA ad s.heap.size)) args s 0 0 (gA ad s.heap.size)) (F0 m 0 ls []) := by
    intro H locs ls hG hl
    unfold w_X11_life at HW
    refine lv_aload_n hx hb dX11_life_0 rfl (lv_at hl 0 rfl) ?_
    refine lv_iconst (v := 2) hx hb dX11_life_1 (by decide) ?_
    refine lv_iload_n hx hb dX11_life_2 rfl (lv_at hl 1 rfl) ?_
    obtain ⟨P_3, HC_3, HW⟩ := HW
    refine g_callz (g_runV (As := [.int (2 : Int32), .int x1]) (rest := []) ⟨hx, hb, hml, hown, hts⟩ (m_X11_is l D cy ad h g H.size (2 : Int32) x1 P_3 HC_3) (cwV 2 hts (gd_V (wm5 184 rfl rfl) (wm5 186 rfl rfl) (wmp3 (q := (yX11_is, 26)) 14 rfl) (wm1 13 rfl rfl) (wm5 187 rfl rfl)) rfl rfl rfl (by decide +kernel) ⟨Nat.le_of_ble_eq_true rfl, Nat.le_of_ble_eq_true rfl⟩) hK hNw hG gl_135 rfl gk_135 (by decide) rfl rfl hl.1 rfl (lv_room (Nat.le_of_ble_eq_true rfl)) dX11_life_3 ⟨Nat.zero_le _, Nat.zero_le _⟩) hG (fun r_3 h_3 g_3 H locs hz hq hG => ?_)
    replace HW := HW r_3 h_3 g_3 hz hq
    refine lv_if_eq (tgt := 16) hx hb dX11_life_6 (by decide) (fun c_6 => ?_) (fun c_6 => ?_)
    · replace HW := HW.1 c_6
      refine lv_bipush (v := (-2)) hx hb dX11_life_16 (by decide) ?_
      exact W.iret (v := (-2 : Int32)) hx hb hr (fun t ht hW => ⟨⟨(-2 : Int32), (h_3, g_3), rfl, HW, g_B ht hG⟩, hG.2.2.F ht⟩) hG.2.2.2.2 dX11_life_18
    · replace HW := HW.2 c_6
      refine lv_iload_n hx hb dX11_life_9 rfl (lv_at hl 2 rfl) ?_
      obtain ⟨P_10, HC_10, HW⟩ := HW
      refine g_callz (g_runS (As := [.int x2]) (rest := []) ⟨hx, hb, hml, hown, hts⟩ (m_X11_isYear l D cy ad h_3 g_3 H.size x2 P_10 HC_10) (va_cwS 1 hts (gd_S (wm5 114 rfl rfl) (wm5 115 rfl rfl) (wm1 13 rfl rfl) (wm5 116 rfl rfl)) rfl rfl rfl (by decide +kernel) ⟨Nat.le_of_ble_eq_true rfl, Nat.le_of_ble_eq_true rfl⟩) hK hNw hG rfl rfl hl.1 rfl (lv_room (Nat.le_of_ble_eq_true rfl)) dX11_life_10 ⟨Nat.zero_le _, Nat.zero_le _⟩) hG (fun r_10 h_10 g_10 H locs hz hq hG => ?_)
      replace HW := HW r_10 h_10 g_10 hz hq
      refine lv_if_ne (tgt := 19) hx hb dX11_life_13 (by decide) (fun c_13 => ?_) (fun c_13 => ?_)
      · replace HW := HW.1 c_13
        refine lv_iconst (v := 0) hx hb dX11_life_19 (by decide) ?_
        refine lv_istore_n (lv' := [(3, .int (0 : Int32)), (0, .ref (ad 135)), (1, .int x1), (2, .int x2)]) hx hb dX11_life_20 rfl hl (by decide) rfl (fun ls hl => ?_)
        obtain ⟨n_21, HW⟩ := HW
        exact L21 n_21 x1 x2 (0 : Int32) h_10 g_10 _ _ _ HW hG (lv_sub hl [1, 2, 3, 0] rfl)
      · replace HW := HW.2 c_13
        refine lv_bipush (v := (-2)) hx hb dX11_life_16 (by decide) ?_
        exact W.iret (v := (-2 : Int32)) hx hb hr (fun t ht hW => ⟨⟨(-2 : Int32), (h_10, g_10), rfl, HW, g_B ht hG⟩, hG.2.2.F ht⟩) hG.2.2.2.2 dX11_life_18
  exact E0 _ _ _ hG hl

def w_X11_work (x1 : Int32) (x2 : Int32) (x3 : Int32) (x4 : Int32) (h : HI) (g : HL) (Q : Int32 → HI → HL → Prop) : Prop :=
  (∃ P_8 : Int32 → HI → HL → Prop, w_X11_in ((x1).toInt64) (-500 : Int64) (500 : Int64) h g P_8 ∧ ∀ (r_8 : Int32) (h_8 : HI) (g_8 : HL), zb r_8 → P_8 r_8 h_8 g_8 → ((r_8 = 0 → Q (-2 : Int32) h_8 g_8) ∧ (¬ r_8 = 0 → ((x1 = 0 → Q (-2 : Int32) h_8 g_8) ∧ (¬ x1 = 0 → (∃ P_24 : Int32 → HI → HL → Prop, w_X11_in ((x2).toInt64) (1 : Int64) (1000 : Int64) h_8 g_8 P_24 ∧ ∀ (r_24 : Int32) (h_24 : HI) (g_24 : HL), zb r_24 → P_24 r_24 h_24 g_24 → ((r_24 = 0 → Q (-2 : Int32) h_24 g_24) ∧ (¬ r_24 = 0 → (∃ P_36 : Int32 → HI → HL → Prop, w_X11_in ((x3).toInt64) (1 : Int64) ((x4).toInt64) h_24 g_24 P_36 ∧ ∀ (r_36 : Int32) (h_36 : HI) (g_36 : HL), zb r_36 → P_36 r_36 h_36 g_36 → ((r_36 = 0 → Q (-2 : Int32) h_36 g_36) ∧ (¬ r_36 = 0 → (∃ P_50 : Int32 → HI → HL → Prop, w_X11_in ((x4).toInt64) ((x3).toInt64) (3000 : Int64) h_36 g_36 P_50 ∧ ∀ (r_50 : Int32) (h_50 : HI) (g_50 : HL), zb r_50 → P_50 r_50 h_50 g_50 → ((¬ r_50 = 0 → (vp_in (3 : Int32) 887 ∧ ((¬ (h_50 136 (3 : Int32).toNatClampNeg) = (8 : Int32) → (vp_in (3 : Int32) 887 ∧ (∀ x5_85 : Int32, x5_85 = ((672 : Int32) + ((4 : Int32) * (h_50 136 (3 : Int32).toNatClampNeg))) → (vp_in x5_85 887 ∧ ∀ h_94 : HI, h_94 = hu h_50 136 x5_85.toNatClampNeg x1 → (vp_in (x5_85 + (1 : Int32)) 887 ∧ ∀ h_104 : HI, h_104 = hu h_94 136 (x5_85 + (1 : Int32)).toNatClampNeg x2 → (vp_in (x5_85 + (2 : Int32)) 887 ∧ ∀ h_114 : HI, h_114 = hu h_104 136 (x5_85 + (2 : Int32)).toNatClampNeg x3 → (vp_in (x5_85 + (3 : Int32)) 887 ∧ ∀ h_125 : HI, h_125 = hu h_114 136 (x5_85 + (3 : Int32)).toNatClampNeg x4 → (∃ P_128 : Int32 → HI → HL → Prop, w_X11_one (3 : Int32) h_125 g_50 P_128 ∧ ∀ (r_128 : Int32) (h_128 : HI) (g_128 : HL), P_128 r_128 h_128 g_128 → Q r_128 h_128 g_128)))))))) ∧ ((h_50 136 (3 : Int32).toNatClampNeg) = (8 : Int32) → Q (-4 : Int32) h_50 g_50)))) ∧ (r_50 = 0 → Q (-2 : Int32) h_50 g_50))))))))))))))
set_option maxHeartbeats 8000000 in
set_option maxRecDepth 100000 in
theorem m_X11_work (l : Launch) (D : va_G) (cy : Nat → ClassId) (ad : Nat → Nat) (h : HI) (g : HL) (sz : Nat) (x1 : Int32) (x2 : Int32) (x3 : Int32) (x4 : Int32) (Q : Int32 → HI → HL → Prop) (HW : w_X11_work x1 x2 x3 x4 h g Q) : Met l yX11_work (wa yX11_work cX11_work 6 (some .int)) ({ frames := 1, cells := 0, slots := 0, locals := 25 }) (va_Pc [.ref (ad 135), .int x1, .int x2, .int x3, .int x4] (gI D cy ad h g sz)) (va_Qi (fun (r : Int32) (u : HI × HL) => Q r u.1 u.2) (gB D cy ad sz) (gA ad sz)) 0 0 (gA ad sz) := by
  refine Met.ofW (cc := cX11_work) (maxL := 6) (ret := (some .int)) (by decide) rfl ?_
  intro p e s m args below meth c s₁ B hml hv
  obtain ⟨hav, hsz, hP, hK, hD0, hNw⟩ := hv
  have hx := B.exec
  have hb := B.bytes
  have hr := B.returns
  have hts := atoms_spec (ws := (wa yX11_work cX11_work 6 (some .int))) B.pre
  have hw := wa_hw hts
  have hown : s.vm.findClass RX11 = some m.cls := findClass_of_methodNamed B.named
  have hlocks := B.notSynchronized
  subst hsz
  have hG : gG D cy ad (gA ad s.heap.size) s.heap h g s.heap [] := ⟨hP, gA_self hD0, va_S.rf⟩
  clear hP hD0
  have cn226 := hw (.constantLong RX11 226 (-500)) (wm6 63 rfl rfl)
  have cn228 := hw (.constantLong RX11 228 (500)) (wm6 64 rfl rfl)
  have cn230 := hw (.constantLong RX11 230 (1000)) (wm6 65 rfl rfl)
  have cn232 := hw (.constantLong RX11 232 (3000)) (wm6 66 rfl rfl)
  have lk7 := hw (.fieldLink RX11 7 "OldWorksModel" "st" "[I") (wm5 27 rfl rfl)
  rw [show (headSpec (wa yX11_work cX11_work 6 (some .int)) ({ frames := 1, cells := 0, slots := 0, locals := 25 } : Room)).room = ({ frames := 1, cells := 0, slots := 0, locals := 25 } : Room) from rfl]
  have hl := lv_entry ([.ref (ad 135), .int x1, .int x2, .int x3, .int x4]) (n := 6) (Nat.le_of_ble_eq_true rfl)
  rw [show entryFrame m args 6 = entryFrame m ([.ref (ad 135), .int x1, .int x2, .int x3, .int x4] : List Value).toArray 6 from by rw [hav], lg_entry_eq]
  generalize (lg_sl ([.ref (ad 135), .int x1, .int x2, .int x3, .int x4]) ++ List.replicate (6 - (lg_sl ([.ref (ad 135), .int x1, .int x2, .int x3, .int x4])).length) Slot.unset).toArray = ls at hl ⊢
  have hl : lv_has ls 6 [(0, .ref (ad 135)), (1, .int x1), (2, .int x2), (3, .int x3), (4, .int x4)] := hl
  have E0 : ∀ (H : Heap) (locs : List Loc) (ls : Array Slot), gG D cy ad (gA ad s.heap.size) s.heap h g H locs → lv_has ls 6 [(0, .ref (ad 135)), (1, .int x1), (2, .int x2), (3, .int x3), (4, .int x4)] → W p l e ({ frames := 1, cells := 0, slots := 0, locals := 25 } : Room) s m args below meth c H locs 0 0 (MQ below (va_Qi (fun (r : Int32) (u : HI × HL) => Q r u.1 u.2) (gB D cy ad s.heap.size) (gA ad s.heap.size)) args s 0 0 (gA ad s.heap.size)) (F0 m 0 ls []) := by
    intro H locs ls hG hl
    unfold w_X11_work at HW
    refine lv_iload_n hx hb dX11_work_0 rfl (lv_at hl 1 rfl) ?_
    refine lv_i2l hx hb dX11_work_1 rfl ?_
    refine lv_ldc2 (v := (-500)) hx hb hown cn226 dX11_work_2 ?_
    refine lv_ldc2 (v := 500) hx hb hown cn228 dX11_work_5 ?_
    obtain ⟨P_8, HC_8, HW⟩ := HW
    refine g_callz (g_runS (As := [.long ((x1).toInt64), .long (-500 : Int64), .long (500 : Int64)]) (rest := []) ⟨hx, hb, hml, hown, hts⟩ (m_X11_in l D cy ad h g H.size ((x1).toInt64) (-500 : Int64) (500 : Int64) P_8 HC_8) (va_cwS 3 hts (gd_S (wm5 111 rfl rfl) (wm5 112 rfl rfl) (wm1 13 rfl rfl) (wm5 113 rfl rfl)) rfl rfl rfl (by decide +kernel) ⟨Nat.le_of_ble_eq_true rfl, Nat.le_of_ble_eq_true rfl⟩) hK hNw hG rfl rfl hl.1 rfl (lv_room (Nat.le_of_ble_eq_true rfl)) dX11_work_8 ⟨Nat.zero_le _, Nat.zero_le _⟩) hG (fun r_8 h_8 g_8 H locs hz hq hG => ?_)
    replace HW := HW r_8 h_8 g_8 hz hq
    refine lv_if_eq (tgt := 56) hx hb dX11_work_11 (by decide) (fun c_11 => ?_) (fun c_11 => ?_)
    · replace HW := HW.1 c_11
      refine lv_bipush (v := (-2)) hx hb dX11_work_56 (by decide) ?_
      exact W.iret (v := (-2 : Int32)) hx hb hr (fun t ht hW => ⟨⟨(-2 : Int32), (h_8, g_8), rfl, HW, g_B ht hG⟩, hG.2.2.F ht⟩) hG.2.2.2.2 dX11_work_58
    · replace HW := HW.2 c_11
      refine lv_iload_n hx hb dX11_work_14 rfl (lv_at hl 1 rfl) ?_
      refine lv_if_eq (tgt := 56) hx hb dX11_work_15 (by decide) (fun c_15 => ?_) (fun c_15 => ?_)
      · replace HW := HW.1 c_15
        refine lv_bipush (v := (-2)) hx hb dX11_work_56 (by decide) ?_
        exact W.iret (v := (-2 : Int32)) hx hb hr (fun t ht hW => ⟨⟨(-2 : Int32), (h_8, g_8), rfl, HW, g_B ht hG⟩, hG.2.2.F ht⟩) hG.2.2.2.2 dX11_work_58
      · replace HW := HW.2 c_15
        refine lv_iload_n hx hb dX11_work_18 rfl (lv_at hl 2 rfl) ?_
        refine lv_i2l hx hb dX11_work_19 rfl ?_
        refine lv_lconst (v := 1) hx hb dX11_work_20 (by decide) ?_
        refine lv_ldc2 (v := 1000) hx hb hown cn230 dX11_work_21 ?_
        obtain ⟨P_24, HC_24, HW⟩ := HW
        refine g_callz (g_runS (As := [.long ((x2).toInt64), .long (1 : Int64), .long (1000 : Int64)]) (rest := []) ⟨hx, hb, hml, hown, hts⟩ (m_X11_in l D cy ad h_8 g_8 H.size ((x2).toInt64) (1 : Int64) (1000 : Int64) P_24 HC_24) (va_cwS 3 hts (gd_S (wm5 111 rfl rfl) (wm5 112 rfl rfl) (wm1 13 rfl rfl) (wm5 113 rfl rfl)) rfl rfl rfl (by decide +kernel) ⟨Nat.le_of_ble_eq_true rfl, Nat.le_of_ble_eq_true rfl⟩) hK hNw hG rfl rfl hl.1 rfl (lv_room (Nat.le_of_ble_eq_true rfl)) dX11_work_24 ⟨Nat.zero_le _, Nat.zero_le _⟩) hG (fun r_24 h_24 g_24 H locs hz hq hG => ?_)
        replace HW := HW r_24 h_24 g_24 hz hq
        refine lv_if_eq (tgt := 56) hx hb dX11_work_27 (by decide) (fun c_27 => ?_) (fun c_27 => ?_)
        · replace HW := HW.1 c_27
          refine lv_bipush (v := (-2)) hx hb dX11_work_56 (by decide) ?_
          exact W.iret (v := (-2 : Int32)) hx hb hr (fun t ht hW => ⟨⟨(-2 : Int32), (h_24, g_24), rfl, HW, g_B ht hG⟩, hG.2.2.F ht⟩) hG.2.2.2.2 dX11_work_58
        · replace HW := HW.2 c_27
          refine lv_iload_n hx hb dX11_work_30 rfl (lv_at hl 3 rfl) ?_
          refine lv_i2l hx hb dX11_work_31 rfl ?_
          refine lv_lconst (v := 1) hx hb dX11_work_32 (by decide) ?_
          refine lv_iload hx hb dX11_work_33 (lv_at hl 4 rfl) ?_
          refine lv_i2l hx hb dX11_work_35 rfl ?_
          obtain ⟨P_36, HC_36, HW⟩ := HW
          refine g_callz (g_runS (As := [.long ((x3).toInt64), .long (1 : Int64), .long ((x4).toInt64)]) (rest := []) ⟨hx, hb, hml, hown, hts⟩ (m_X11_in l D cy ad h_24 g_24 H.size ((x3).toInt64) (1 : Int64) ((x4).toInt64) P_36 HC_36) (va_cwS 3 hts (gd_S (wm5 111 rfl rfl) (wm5 112 rfl rfl) (wm1 13 rfl rfl) (wm5 113 rfl rfl)) rfl rfl rfl (by decide +kernel) ⟨Nat.le_of_ble_eq_true rfl, Nat.le_of_ble_eq_true rfl⟩) hK hNw hG rfl rfl hl.1 rfl (lv_room (Nat.le_of_ble_eq_true rfl)) dX11_work_36 ⟨Nat.zero_le _, Nat.zero_le _⟩) hG (fun r_36 h_36 g_36 H locs hz hq hG => ?_)
          replace HW := HW r_36 h_36 g_36 hz hq
          refine lv_if_eq (tgt := 56) hx hb dX11_work_39 (by decide) (fun c_39 => ?_) (fun c_39 => ?_)
          · replace HW := HW.1 c_39
            refine lv_bipush (v := (-2)) hx hb dX11_work_56 (by decide) ?_
            exact W.iret (v := (-2 : Int32)) hx hb hr (fun t ht hW => ⟨⟨(-2 : Int32), (h_36, g_36), rfl, HW, g_B ht hG⟩, hG.2.2.F ht⟩) hG.2.2.2.2 dX11_work_58
          · replace HW := HW.2 c_39
            refine lv_iload hx hb dX11_work_42 (lv_at hl 4 rfl) ?_
            refine lv_i2l hx hb dX11_work_44 rfl ?_
            refine lv_iload_n hx hb dX11_work_45 rfl (lv_at hl 3 rfl) ?_
            refine lv_i2l hx hb dX11_work_46 rfl ?_
            refine lv_ldc2 (v := 3000) hx hb hown cn232 dX11_work_47 ?_
            obtain ⟨P_50, HC_50, HW⟩ := HW
            refine g_callz (g_runS (As := [.long ((x4).toInt64), .long ((x3).toInt64), .long (3000 : Int64)]) (rest := []) ⟨hx, hb, hml, hown, hts⟩ (m_X11_in l D cy ad h_36 g_36 H.size ((x4).toInt64) ((x3).toInt64) (3000 : Int64) P_50 HC_50) (va_cwS 3 hts (gd_S (wm5 111 rfl rfl) (wm5 112 rfl rfl) (wm1 13 rfl rfl) (wm5 113 rfl rfl)) rfl rfl rfl (by decide +kernel) ⟨Nat.le_of_ble_eq_true rfl, Nat.le_of_ble_eq_true rfl⟩) hK hNw hG rfl rfl hl.1 rfl (lv_room (Nat.le_of_ble_eq_true rfl)) dX11_work_50 ⟨Nat.zero_le _, Nat.zero_le _⟩) hG (fun r_50 h_50 g_50 H locs hz hq hG => ?_)
            replace HW := HW r_50 h_50 g_50 hz hq
            refine lv_if_ne (tgt := 59) hx hb dX11_work_53 (by decide) (fun c_53 => ?_) (fun c_53 => ?_)
            · replace HW := HW.1 c_53
              refine lv_aload_n hx hb dX11_work_59 rfl (lv_at hl 0 rfl) ?_
              refine g_getr hx hb hw inG11 hown hK hG gl_135 rfl gk_135 (by decide) 0 (by decide) (by rw [gm_135]; decide) (r := 136) gr_135_0 lk7 dX11_work_60 ?_
              refine lv_iconst (v := 3) hx hb dX11_work_63 (by decide) ?_
              refine g_iald hx hb hK hG gl_136 gk_136 gn_136 HW.1 dX11_work_64 ?_
              replace HW := HW.2
              refine lv_bipush (v := 8) hx hb dX11_work_65 (by decide) ?_
              refine lv_icmp_ne (tgt := 73) hx hb dX11_work_67 (by decide) (fun c_67 => ?_) (fun c_67 => ?_)
              · replace HW := HW.1 c_67
                refine lv_sipush (v := 672) hx hb dX11_work_73 (by decide) ?_
                refine lv_iconst (v := 4) hx hb dX11_work_76 (by decide) ?_
                refine lv_aload_n hx hb dX11_work_77 rfl (lv_at hl 0 rfl) ?_
                refine g_getr hx hb hw inG11 hown hK hG gl_135 rfl gk_135 (by decide) 0 (by decide) (by rw [gm_135]; decide) (r := 136) gr_135_0 lk7 dX11_work_78 ?_
                refine lv_iconst (v := 3) hx hb dX11_work_81 (by decide) ?_
                refine g_iald hx hb hK hG gl_136 gk_136 gn_136 HW.1 dX11_work_82 ?_
                replace HW := HW.2
                refine lv_imul hx hb dX11_work_83 ?_
                refine lv_iadd hx hb dX11_work_84 ?_
                refine lv_topi (fun x5_85 ex5_85 => ?_)
                replace HW := HW x5_85 ex5_85
                refine lv_istore (lv' := [(5, .int x5_85), (0, .ref (ad 135)), (1, .int x1), (2, .int x2), (3, .int x3), (4, .int x4)]) hx hb dX11_work_85 hl (by decide) rfl (fun ls hl => ?_)
                refine lv_aload_n hx hb dX11_work_87 rfl (lv_at hl 1 rfl) ?_
                refine g_getr hx hb hw inG11 hown hK hG gl_135 rfl gk_135 (by decide) 0 (by decide) (by rw [gm_135]; decide) (r := 136) gr_135_0 lk7 dX11_work_88 ?_
                refine lv_iload hx hb dX11_work_91 (lv_at hl 0 rfl) ?_
                refine lv_iload_n hx hb dX11_work_93 rfl (lv_at hl 2 rfl) ?_
                refine g_iast hx hb hK hG gl_136 gk_136 gn_136 HW.1 dX11_work_94 (fun H locs hG => ?_)
                replace HW := HW.2
                obtain ⟨h_94, eh_94⟩ : ∃ y : HI, y = hu h_50 136 x5_85.toNatClampNeg x1 := ⟨_, rfl⟩
                rw [← eh_94] at hG
                replace HW := HW h_94 eh_94
                refine lv_aload_n hx hb dX11_work_95 rfl (lv_at hl 1 rfl) ?_
                refine g_getr hx hb hw inG11 hown hK hG gl_135 rfl gk_135 (by decide) 0 (by decide) (by rw [gm_135]; decide) (r := 136) gr_135_0 lk7 dX11_work_96 ?_
                refine lv_iload hx hb dX11_work_99 (lv_at hl 0 rfl) ?_
                refine lv_iconst (v := 1) hx hb dX11_work_101 (by decide) ?_
                refine lv_iadd hx hb dX11_work_102 ?_
                refine lv_iload_n hx hb dX11_work_103 rfl (lv_at hl 3 rfl) ?_
                refine g_iast hx hb hK hG gl_136 gk_136 gn_136 HW.1 dX11_work_104 (fun H locs hG => ?_)
                replace HW := HW.2
                obtain ⟨h_104, eh_104⟩ : ∃ y : HI, y = hu h_94 136 (x5_85 + (1 : Int32)).toNatClampNeg x2 := ⟨_, rfl⟩
                rw [← eh_104] at hG
                replace HW := HW h_104 eh_104
                refine lv_aload_n hx hb dX11_work_105 rfl (lv_at hl 1 rfl) ?_
                refine g_getr hx hb hw inG11 hown hK hG gl_135 rfl gk_135 (by decide) 0 (by decide) (by rw [gm_135]; decide) (r := 136) gr_135_0 lk7 dX11_work_106 ?_
                refine lv_iload hx hb dX11_work_109 (lv_at hl 0 rfl) ?_
                refine lv_iconst (v := 2) hx hb dX11_work_111 (by decide) ?_
                refine lv_iadd hx hb dX11_work_112 ?_
                refine lv_iload_n hx hb dX11_work_113 rfl (lv_at hl 4 rfl) ?_
                refine g_iast hx hb hK hG gl_136 gk_136 gn_136 HW.1 dX11_work_114 (fun H locs hG => ?_)
                replace HW := HW.2
                obtain ⟨h_114, eh_114⟩ : ∃ y : HI, y = hu h_104 136 (x5_85 + (2 : Int32)).toNatClampNeg x3 := ⟨_, rfl⟩
                rw [← eh_114] at hG
                replace HW := HW h_114 eh_114
                refine lv_aload_n hx hb dX11_work_115 rfl (lv_at hl 1 rfl) ?_
                refine g_getr hx hb hw inG11 hown hK hG gl_135 rfl gk_135 (by decide) 0 (by decide) (by rw [gm_135]; decide) (r := 136) gr_135_0 lk7 dX11_work_116 ?_
                refine lv_iload hx hb dX11_work_119 (lv_at hl 0 rfl) ?_
                refine lv_iconst (v := 3) hx hb dX11_work_121 (by decide) ?_
                refine lv_iadd hx hb dX11_work_122 ?_
                refine lv_iload hx hb dX11_work_123 (lv_at hl 5 rfl) ?_
                refine g_iast hx hb hK hG gl_136 gk_136 gn_136 HW.1 dX11_work_125 (fun H locs hG => ?_)
                replace HW := HW.2
                obtain ⟨h_125, eh_125⟩ : ∃ y : HI, y = hu h_114 136 (x5_85 + (3 : Int32)).toNatClampNeg x4 := ⟨_, rfl⟩
                rw [← eh_125] at hG
                replace HW := HW h_125 eh_125
                refine lv_aload_n hx hb dX11_work_126 rfl (lv_at hl 1 rfl) ?_
                refine lv_iconst (v := 3) hx hb dX11_work_127 (by decide) ?_
                obtain ⟨P_128, HC_128, HW⟩ := HW
                refine g_calli (g_runV (As := [.int (3 : Int32)]) (rest := []) ⟨hx, hb, hml, hown, hts⟩ (m_X11_one l D cy ad h_125 g_50 H.size (3 : Int32) P_128 HC_128) (cwV 1 hts (gd_V (wm5 120 rfl rfl) (wm5 122 rfl rfl) (wmp3 (q := (yX11_one, 26)) 7 rfl) (wm1 13 rfl rfl) (wm5 123 rfl rfl)) rfl rfl rfl (by decide +kernel) ⟨Nat.le_of_ble_eq_true rfl, Nat.le_of_ble_eq_true rfl⟩) hK hNw hG gl_135 rfl gk_135 (by decide) rfl rfl hl.1 rfl (lv_room (Nat.le_of_ble_eq_true rfl)) dX11_work_128 ⟨Nat.zero_le _, Nat.zero_le _⟩) hG (fun r_128 h_128 g_128 H locs hq hG => ?_)
                replace HW := HW r_128 h_128 g_128 hq
                exact W.iret (v := r_128) hx hb hr (fun t ht hW => ⟨⟨r_128, (h_128, g_128), rfl, HW, g_B ht hG⟩, hG.2.2.F ht⟩) hG.2.2.2.2 dX11_work_131
              · replace HW := HW.2 c_67
                refine lv_bipush (v := (-4)) hx hb dX11_work_70 (by decide) ?_
                exact W.iret (v := (-4 : Int32)) hx hb hr (fun t ht hW => ⟨⟨(-4 : Int32), (h_50, g_50), rfl, HW, g_B ht hG⟩, hG.2.2.F ht⟩) hG.2.2.2.2 dX11_work_72
            · replace HW := HW.2 c_53
              refine lv_bipush (v := (-2)) hx hb dX11_work_56 (by decide) ?_
              exact W.iret (v := (-2 : Int32)) hx hb hr (fun t ht hW => ⟨⟨(-2 : Int32), (h_50, g_50), rfl, HW, g_B ht hG⟩, hG.2.2.F ht⟩) hG.2.2.2.2 dX11_work_58
  exact E0 _ _ _ hG hl

def w_X11_by (x1 : Int32) (x2 : Int32) (x3 : Int32) (h : HI) (g : HL) (Q : Int32 → HI → HL → Prop) : Prop :=
  (∀ x4_7 : Int32, x4_7 = ((672 : Int32) + ((4 : Int32) * x1)) → (vp_in x4_7 887 ∧ (∀ x5_18 : Int32, x5_18 = (x2 + (h 136 x4_7.toNatClampNeg)) → (vp_in (x4_7 + (2 : Int32)) 887 ∧ (vp_in (x4_7 + (3 : Int32)) 887 ∧ (∃ P_42 : Int32 → HI → HL → Prop, w_X11_in ((x2).toInt64) (((h 136 (x4_7 + (2 : Int32)).toNatClampNeg)).toInt64) (((h 136 (x4_7 + (3 : Int32)).toNatClampNeg)).toInt64) h g P_42 ∧ ∀ (r_42 : Int32) (h_42 : HI) (g_42 : HL), zb r_42 → P_42 r_42 h_42 g_42 → ((r_42 = 0 → Q (1000000 : Int32) h_42 g_42) ∧ (¬ r_42 = 0 → (∃ P_55 : Int32 → HI → HL → Prop, w_X11_in ((x5_18).toInt64) (1 : Int64) (3000 : Int64) h_42 g_42 P_55 ∧ ∀ (r_55 : Int32) (h_55 : HI) (g_55 : HL), zb r_55 → P_55 r_55 h_55 g_55 → ((¬ r_55 = 0 → (vp_in (x4_7 + (1 : Int32)) 887 ∧ (vp_in (((3001 : Int32) * x3) + x5_18) 18006 ∧ Q ((h_55 136 (x4_7 + (1 : Int32)).toNatClampNeg) + (h_55 143 (((3001 : Int32) * x3) + x5_18).toNatClampNeg)) h_55 g_55))) ∧ (r_55 = 0 → Q (1000000 : Int32) h_55 g_55)))))))))))
set_option maxHeartbeats 8000000 in
set_option maxRecDepth 100000 in
theorem m_X11_by (l : Launch) (D : va_G) (cy : Nat → ClassId) (ad : Nat → Nat) (h : HI) (g : HL) (sz : Nat) (x1 : Int32) (x2 : Int32) (x3 : Int32) (Q : Int32 → HI → HL → Prop) (HW : w_X11_by x1 x2 x3 h g Q) : Met l yX11_by (wa yX11_by cX11_by 6 (some .int)) ({ frames := 1, cells := 0, slots := 0, locals := 25 }) (va_Pc [.ref (ad 135), .int x1, .int x2, .int x3] (gI D cy ad h g sz)) (va_Qi (fun (r : Int32) (u : HI × HL) => Q r u.1 u.2) (gB D cy ad sz) (gA ad sz)) 0 0 (gA ad sz) := by
  refine Met.ofW (cc := cX11_by) (maxL := 6) (ret := (some .int)) (by decide) rfl ?_
  intro p e s m args below meth c s₁ B hml hv
  obtain ⟨hav, hsz, hP, hK, hD0, hNw⟩ := hv
  have hx := B.exec
  have hb := B.bytes
  have hr := B.returns
  have hts := atoms_spec (ws := (wa yX11_by cX11_by 6 (some .int))) B.pre
  have hw := wa_hw hts
  have hown : s.vm.findClass RX11 = some m.cls := findClass_of_methodNamed B.named
  have hlocks := B.notSynchronized
  subst hsz
  have hG : gG D cy ad (gA ad s.heap.size) s.heap h g s.heap [] := ⟨hP, gA_self hD0, va_S.rf⟩
  clear hP hD0
  have lk7 := hw (.fieldLink RX11 7 "OldWorksModel" "st" "[I") (wm5 27 rfl rfl)
  have cn234 := hw (.constant RX11 234 (1000000)) (wm6 75 rfl rfl)
  have cn232 := hw (.constantLong RX11 232 (3000)) (wm6 66 rfl rfl)
  have lk33 := hw (.fieldLink RX11 33 "OldWorksModel" "price" "[I") (wm5 47 rfl rfl)
  rw [show (headSpec (wa yX11_by cX11_by 6 (some .int)) ({ frames := 1, cells := 0, slots := 0, locals := 25 } : Room)).room = ({ frames := 1, cells := 0, slots := 0, locals := 25 } : Room) from rfl]
  have hl := lv_entry ([.ref (ad 135), .int x1, .int x2, .int x3]) (n := 6) (Nat.le_of_ble_eq_true rfl)
  rw [show entryFrame m args 6 = entryFrame m ([.ref (ad 135), .int x1, .int x2, .int x3] : List Value).toArray 6 from by rw [hav], lg_entry_eq]
  generalize (lg_sl ([.ref (ad 135), .int x1, .int x2, .int x3]) ++ List.replicate (6 - (lg_sl ([.ref (ad 135), .int x1, .int x2, .int x3])).length) Slot.unset).toArray = ls at hl ⊢
  have hl : lv_has ls 6 [(0, .ref (ad 135)), (1, .int x1), (2, .int x2), (3, .int x3)] := hl
  have E0 : ∀ (H : Heap) (locs : List Loc) (ls : Array Slot), gG D cy ad (gA ad s.heap.size) s.heap h g H locs → lv_has ls 6 [(0, .ref (ad 135)), (1, .int x1), (2, .int x2), (3, .int x3)] → W p l e ({ frames := 1, cells := 0, slots := 0, locals := 25 } : Room) s m args below meth c H locs 0 0 (MQ below (va_Qi (fun (r : Int32) (u : HI × HL) => Q r u.1 u.2) (gB D cy ad s.heap.size) (gA ad s.heap.size)) args s 0 0 (gA ad s.heap.size)) (F0 m 0 ls []) := by
    intro H locs ls hG hl
    unfold w_X11_by at HW
    refine lv_sipush (v := 672) hx hb dX11_by_0 (by decide) ?_
    refine lv_iconst (v := 4) hx hb dX11_by_3 (by decide) ?_
    refine lv_iload_n hx hb dX11_by_4 rfl (lv_at hl 1 rfl) ?_
    refine lv_imul hx hb dX11_by_5 ?_
    refine lv_iadd hx hb dX11_by_6 ?_
    refine lv_topi (fun x4_7 ex4_7 => ?_)
    replace HW := HW x4_7 ex4_7
    refine lv_istore (lv' := [(4, .int x4_7), (0, .ref (ad 135)), (1, .int x1), (2, .int x2), (3, .int x3)]) hx hb dX11_by_7 hl (by decide) rfl (fun ls hl => ?_)
    refine lv_iload_n hx hb dX11_by_9 rfl (lv_at hl 3 rfl) ?_
    refine lv_aload_n hx hb dX11_by_10 rfl (lv_at hl 1 rfl) ?_
    refine g_getr hx hb hw inG11 hown hK hG gl_135 rfl gk_135 (by decide) 0 (by decide) (by rw [gm_135]; decide) (r := 136) gr_135_0 lk7 dX11_by_11 ?_
    refine lv_iload hx hb dX11_by_14 (lv_at hl 0 rfl) ?_
    refine g_iald hx hb hK hG gl_136 gk_136 gn_136 HW.1 dX11_by_16 ?_
    replace HW := HW.2
    refine lv_iadd hx hb dX11_by_17 ?_
    refine lv_topi (fun x5_18 ex5_18 => ?_)
    replace HW := HW x5_18 ex5_18
    refine lv_istore (lv' := [(5, .int x5_18), (4, .int x4_7), (0, .ref (ad 135)), (1, .int x1), (2, .int x2), (3, .int x3)]) hx hb dX11_by_18 hl (by decide) rfl (fun ls hl => ?_)
    refine lv_iload_n hx hb dX11_by_20 rfl (lv_at hl 4 rfl) ?_
    refine lv_i2l hx hb dX11_by_21 rfl ?_
    refine lv_aload_n hx hb dX11_by_22 rfl (lv_at hl 2 rfl) ?_
    refine g_getr hx hb hw inG11 hown hK hG gl_135 rfl gk_135 (by decide) 0 (by decide) (by rw [gm_135]; decide) (r := 136) gr_135_0 lk7 dX11_by_23 ?_
    refine lv_iload hx hb dX11_by_26 (lv_at hl 1 rfl) ?_
    refine lv_iconst (v := 2) hx hb dX11_by_28 (by decide) ?_
    refine lv_iadd hx hb dX11_by_29 ?_
    refine g_iald hx hb hK hG gl_136 gk_136 gn_136 HW.1 dX11_by_30 ?_
    replace HW := HW.2
    refine lv_i2l hx hb dX11_by_31 rfl ?_
    refine lv_aload_n hx hb dX11_by_32 rfl (lv_at hl 2 rfl) ?_
    refine g_getr hx hb hw inG11 hown hK hG gl_135 rfl gk_135 (by decide) 0 (by decide) (by rw [gm_135]; decide) (r := 136) gr_135_0 lk7 dX11_by_33 ?_
    refine lv_iload hx hb dX11_by_36 (lv_at hl 1 rfl) ?_
    refine lv_iconst (v := 3) hx hb dX11_by_38 (by decide) ?_
    refine lv_iadd hx hb dX11_by_39 ?_
    refine g_iald hx hb hK hG gl_136 gk_136 gn_136 HW.1 dX11_by_40 ?_
    replace HW := HW.2
    refine lv_i2l hx hb dX11_by_41 rfl ?_
    obtain ⟨P_42, HC_42, HW⟩ := HW
    refine g_callz (g_runS (As := [.long ((x2).toInt64), .long (((h 136 (x4_7 + (2 : Int32)).toNatClampNeg)).toInt64), .long (((h 136 (x4_7 + (3 : Int32)).toNatClampNeg)).toInt64)]) (rest := []) ⟨hx, hb, hml, hown, hts⟩ (m_X11_in l D cy ad h g H.size ((x2).toInt64) (((h 136 (x4_7 + (2 : Int32)).toNatClampNeg)).toInt64) (((h 136 (x4_7 + (3 : Int32)).toNatClampNeg)).toInt64) P_42 HC_42) (va_cwS 3 hts (gd_S (wm5 111 rfl rfl) (wm5 112 rfl rfl) (wm1 13 rfl rfl) (wm5 113 rfl rfl)) rfl rfl rfl (by decide +kernel) ⟨Nat.le_of_ble_eq_true rfl, Nat.le_of_ble_eq_true rfl⟩) hK hNw hG rfl rfl hl.1 rfl (lv_room (Nat.le_of_ble_eq_true rfl)) dX11_by_42 ⟨Nat.zero_le _, Nat.zero_le _⟩) hG (fun r_42 h_42 g_42 H locs hz hq hG => ?_)
    replace HW := HW r_42 h_42 g_42 hz hq
    refine lv_if_eq (tgt := 61) hx hb dX11_by_45 (by decide) (fun c_45 => ?_) (fun c_45 => ?_)
    · replace HW := HW.1 c_45
      refine lv_ldc (v := 1000000) hx hb hown cn234 dX11_by_61 ?_
      exact W.iret (v := (1000000 : Int32)) hx hb hr (fun t ht hW => ⟨⟨(1000000 : Int32), (h_42, g_42), rfl, HW, g_B ht hG⟩, hG.2.2.F ht⟩) hG.2.2.2.2 dX11_by_63
    · replace HW := HW.2 c_45
      refine lv_iload hx hb dX11_by_48 (lv_at hl 0 rfl) ?_
      refine lv_i2l hx hb dX11_by_50 rfl ?_
      refine lv_lconst (v := 1) hx hb dX11_by_51 (by decide) ?_
      refine lv_ldc2 (v := 3000) hx hb hown cn232 dX11_by_52 ?_
      obtain ⟨P_55, HC_55, HW⟩ := HW
      refine g_callz (g_runS (As := [.long ((x5_18).toInt64), .long (1 : Int64), .long (3000 : Int64)]) (rest := []) ⟨hx, hb, hml, hown, hts⟩ (m_X11_in l D cy ad h_42 g_42 H.size ((x5_18).toInt64) (1 : Int64) (3000 : Int64) P_55 HC_55) (va_cwS 3 hts (gd_S (wm5 111 rfl rfl) (wm5 112 rfl rfl) (wm1 13 rfl rfl) (wm5 113 rfl rfl)) rfl rfl rfl (by decide +kernel) ⟨Nat.le_of_ble_eq_true rfl, Nat.le_of_ble_eq_true rfl⟩) hK hNw hG rfl rfl hl.1 rfl (lv_room (Nat.le_of_ble_eq_true rfl)) dX11_by_55 ⟨Nat.zero_le _, Nat.zero_le _⟩) hG (fun r_55 h_55 g_55 H locs hz hq hG => ?_)
      replace HW := HW r_55 h_55 g_55 hz hq
      refine lv_if_ne (tgt := 64) hx hb dX11_by_58 (by decide) (fun c_58 => ?_) (fun c_58 => ?_)
      · replace HW := HW.1 c_58
        refine lv_aload_n hx hb dX11_by_64 rfl (lv_at hl 2 rfl) ?_
        refine g_getr hx hb hw inG11 hown hK hG gl_135 rfl gk_135 (by decide) 0 (by decide) (by rw [gm_135]; decide) (r := 136) gr_135_0 lk7 dX11_by_65 ?_
        refine lv_iload hx hb dX11_by_68 (lv_at hl 1 rfl) ?_
        refine lv_iconst (v := 1) hx hb dX11_by_70 (by decide) ?_
        refine lv_iadd hx hb dX11_by_71 ?_
        refine g_iald hx hb hK hG gl_136 gk_136 gn_136 HW.1 dX11_by_72 ?_
        replace HW := HW.2
        refine lv_aload_n hx hb dX11_by_73 rfl (lv_at hl 2 rfl) ?_
        refine g_getr hx hb hw inG11 hown hK hG gl_135 rfl gk_135 (by decide) 20 (by decide) (by rw [gm_135]; decide) (r := 143) gr_135_20 lk33 dX11_by_74 ?_
        refine lv_sipush (v := 3001) hx hb dX11_by_77 (by decide) ?_
        refine lv_iload_n hx hb dX11_by_80 rfl (lv_at hl 5 rfl) ?_
        refine lv_imul hx hb dX11_by_81 ?_
        refine lv_iload hx hb dX11_by_82 (lv_at hl 0 rfl) ?_
        refine lv_iadd hx hb dX11_by_84 ?_
        refine g_iald hx hb hK hG gl_143 gk_143 gn_143 HW.1 dX11_by_85 ?_
        replace HW := HW.2
        refine lv_iadd hx hb dX11_by_86 ?_
        exact W.iret (v := ((h_55 136 (x4_7 + (1 : Int32)).toNatClampNeg) + (h_55 143 (((3001 : Int32) * x3) + x5_18).toNatClampNeg))) hx hb hr (fun t ht hW => ⟨⟨((h_55 136 (x4_7 + (1 : Int32)).toNatClampNeg) + (h_55 143 (((3001 : Int32) * x3) + x5_18).toNatClampNeg)), (h_55, g_55), rfl, HW, g_B ht hG⟩, hG.2.2.F ht⟩) hG.2.2.2.2 dX11_by_87
      · replace HW := HW.2 c_58
        refine lv_ldc (v := 1000000) hx hb hown cn234 dX11_by_61 ?_
        exact W.iret (v := (1000000 : Int32)) hx hb hr (fun t ht hW => ⟨⟨(1000000 : Int32), (h_55, g_55), rfl, HW, g_B ht hG⟩, hG.2.2.F ht⟩) hG.2.2.2.2 dX11_by_63
  exact E0 _ _ _ hG hl

def j_X11_findPrices_96 (Q : HI → HL → Prop) (K2 : Int32 → Int32 → Int32 → HI → HL → Prop) (K10 : Int32 → Int32 → Int32 → Int32 → HI → HL → Prop) (x1 : Int32) (x2 : Int32) (x3 : Int32) (x4 : Int32) (x5 : Int32) (h : HI) (g : HL) : Prop :=
  (vp_in (((3001 : Int32) * x3) + x4) 18006 ∧ ∀ h_110 : HI, h_110 = hu h 143 (((3001 : Int32) * x3) + x4).toNatClampNeg x5 → (∀ x4_111 : Int32, x4_111 = (x4 + 1) → K10 x1 x2 x3 x4_111 h_110 g))
def j_X11_findPrices_88 (Q : HI → HL → Prop) (K2 : Int32 → Int32 → Int32 → HI → HL → Prop) (K10 : Int32 → Int32 → Int32 → Int32 → HI → HL → Prop) (K46 : Int32 → Int32 → Int32 → Int32 → Int32 → Int32 → HI → HL → Prop) (x1 : Int32) (x2 : Int32) (x3 : Int32) (x4 : Int32) (x6 : Int32) (s0 : Int32) (h : HI) (g : HL) : Prop :=
  (∀ x6_90 : Int32, x6_90 = (x6 + 1) → K46 x1 x2 x3 x4 s0 x6_90 h g)
def b_X11_findPrices_46 (Q : HI → HL → Prop) (K2 : Int32 → Int32 → Int32 → HI → HL → Prop) (K10 : Int32 → Int32 → Int32 → Int32 → HI → HL → Prop) (K46 : Int32 → Int32 → Int32 → Int32 → Int32 → Int32 → HI → HL → Prop) (x1 : Int32) (x2 : Int32) (x3 : Int32) (x4 : Int32) (x5 : Int32) (x6 : Int32) (h : HI) (g : HL) : Prop :=
  (vp_in (3 : Int32) 887 ∧ (((h 136 (3 : Int32).toNatClampNeg) ≤ x6 → j_X11_findPrices_96 Q K2 K10 x1 x2 x3 x4 x5 h g) ∧ (¬ (h 136 (3 : Int32).toNatClampNeg) ≤ x6 → ((x3 ≤ 0 → j_X11_findPrices_96 Q K2 K10 x1 x2 x3 x4 x5 h g) ∧ (¬ x3 ≤ 0 → (∃ P_69 : Int32 → HI → HL → Prop, w_X11_by x6 x4 (x3 - (1 : Int32)) h g P_69 ∧ ∀ (r_69 : Int32) (h_69 : HI) (g_69 : HL), P_69 r_69 h_69 g_69 → ((x5 ≤ r_69 → j_X11_findPrices_88 Q K2 K10 K46 x1 x2 x3 x4 x6 x5 h_69 g_69) ∧ (¬ x5 ≤ r_69 → j_X11_findPrices_88 Q K2 K10 K46 x1 x2 x3 x4 x6 r_69 h_69 g_69))))))))
def F_X11_findPrices_46 (Q : HI → HL → Prop) (K2 : Int32 → Int32 → Int32 → HI → HL → Prop) (K10 : Int32 → Int32 → Int32 → Int32 → HI → HL → Prop) (K : Int32 × Int32 × Int32 × Int32 × Int32 × Int32 × HI × HL → Prop) (q : Int32 × Int32 × Int32 × Int32 × Int32 × Int32 × HI × HL) : Prop := b_X11_findPrices_46 Q K2 K10 (fun x1 x2 x3 x4 x5 x6 h g => K (x1, x2, x3, x4, x5, x6, h, g)) q.1 q.2.1 q.2.2.1 q.2.2.2.1 q.2.2.2.2.1 q.2.2.2.2.2.1 q.2.2.2.2.2.2.1 q.2.2.2.2.2.2.2
def j_X11_findPrices_41 (Q : HI → HL → Prop) (K2 : Int32 → Int32 → Int32 → HI → HL → Prop) (K10 : Int32 → Int32 → Int32 → Int32 → HI → HL → Prop) (x1 : Int32) (x2 : Int32) (x3 : Int32) (x4 : Int32) (s0 : Int32) (h : HI) (g : HL) : Prop :=
  lpE (F_X11_findPrices_46 Q K2 K10) (x1, x2, x3, x4, s0, (0 : Int32), h, g)
def j_X11_findPrices_39 (Q : HI → HL → Prop) (K2 : Int32 → Int32 → Int32 → HI → HL → Prop) (K10 : Int32 → Int32 → Int32 → Int32 → HI → HL → Prop) (x1 : Int32) (x2 : Int32) (x3 : Int32) (x4 : Int32) (h : HI) (g : HL) : Prop :=
  j_X11_findPrices_41 Q K2 K10 x1 x2 x3 x4 (1000000 : Int32) h g
def b_X11_findPrices_10 (Q : HI → HL → Prop) (K2 : Int32 → Int32 → Int32 → HI → HL → Prop) (K10 : Int32 → Int32 → Int32 → Int32 → HI → HL → Prop) (x1 : Int32) (x2 : Int32) (x3 : Int32) (x4 : Int32) (h : HI) (g : HL) : Prop :=
  (((3000 : Int32) < x4 → (∀ x3_117 : Int32, x3_117 = (x3 + 1) → K2 x1 x2 x3_117 h g)) ∧ (¬ (3000 : Int32) < x4 → ((¬ x3 = 0 → j_X11_findPrices_39 Q K2 K10 x1 x2 x3 x4 h g) ∧ (x3 = 0 → (∃ P_29 : Int32 → HI → HL → Prop, w_X11_in ((x4).toInt64) ((x1).toInt64) ((x2).toInt64) h g P_29 ∧ ∀ (r_29 : Int32) (h_29 : HI) (g_29 : HL), zb r_29 → P_29 r_29 h_29 g_29 → ((r_29 = 0 → j_X11_findPrices_39 Q K2 K10 x1 x2 x3 x4 h_29 g_29) ∧ (¬ r_29 = 0 → j_X11_findPrices_41 Q K2 K10 x1 x2 x3 x4 (0 : Int32) h_29 g_29)))))))
def F_X11_findPrices_10 (Q : HI → HL → Prop) (K2 : Int32 → Int32 → Int32 → HI → HL → Prop) (K : Int32 × Int32 × Int32 × Int32 × HI × HL → Prop) (q : Int32 × Int32 × Int32 × Int32 × HI × HL) : Prop := b_X11_findPrices_10 Q K2 (fun x1 x2 x3 x4 h g => K (x1, x2, x3, x4, h, g)) q.1 q.2.1 q.2.2.1 q.2.2.2.1 q.2.2.2.2.1 q.2.2.2.2.2
def b_X11_findPrices_2 (Q : HI → HL → Prop) (K2 : Int32 → Int32 → Int32 → HI → HL → Prop) (x1 : Int32) (x2 : Int32) (x3 : Int32) (h : HI) (g : HL) : Prop :=
  (((5 : Int32) < x3 → Q h g) ∧ (¬ (5 : Int32) < x3 → lpE (F_X11_findPrices_10 Q K2) (x1, x2, x3, (1 : Int32), h, g)))
def F_X11_findPrices_2 (Q : HI → HL → Prop) (K : Int32 × Int32 × Int32 × HI × HL → Prop) (q : Int32 × Int32 × Int32 × HI × HL) : Prop := b_X11_findPrices_2 Q (fun x1 x2 x3 h g => K (x1, x2, x3, h, g)) q.1 q.2.1 q.2.2.1 q.2.2.2.1 q.2.2.2.2
def w_X11_findPrices (x1 : Int32) (x2 : Int32) (h : HI) (g : HL) (Q : HI → HL → Prop) : Prop :=
  lpE (F_X11_findPrices_2 Q) (x1, x2, (0 : Int32), h, g)
set_option maxHeartbeats 8000000 in
set_option maxRecDepth 100000 in
theorem m_X11_findPrices (l : Launch) (D : va_G) (cy : Nat → ClassId) (ad : Nat → Nat) (h : HI) (g : HL) (sz : Nat) (x1 : Int32) (x2 : Int32) (Q : HI → HL → Prop) (HW : w_X11_findPrices x1 x2 h g Q) : Met l yX11_findPrices (wa yX11_findPrices cX11_findPrices 8 none) ({ frames := 2, cells := 0, slots := 0, locals := 50 }) (va_Pc [.ref (ad 135), .int x1, .int x2] (gI D cy ad h g sz)) (va_Qv (fun (u : HI × HL) => Q u.1 u.2) (gB D cy ad sz) (gA ad sz)) 0 0 (gA ad sz) := by
  refine Met.ofW (cc := cX11_findPrices) (maxL := 8) (ret := none) (by decide) rfl ?_
  intro p e s m args below meth c s₁ B hml hv
  obtain ⟨hav, hsz, hP, hK, hD0, hNw⟩ := hv
  have hx := B.exec
  have hb := B.bytes
  have hr := B.returns
  have hts := atoms_spec (ws := (wa yX11_findPrices cX11_findPrices 8 none)) B.pre
  have hw := wa_hw hts
  have hown : s.vm.findClass RX11 = some m.cls := findClass_of_methodNamed B.named
  have hlocks := B.notSynchronized
  subst hsz
  have hG : gG D cy ad (gA ad s.heap.size) s.heap h g s.heap [] := ⟨hP, gA_self hD0, va_S.rf⟩
  clear hP hD0
  have lk7 := hw (.fieldLink RX11 7 "OldWorksModel" "st" "[I") (wm5 27 rfl rfl)
  have lk33 := hw (.fieldLink RX11 33 "OldWorksModel" "price" "[I") (wm5 47 rfl rfl)
  have cn234 := hw (.constant RX11 234 (1000000)) (wm6 75 rfl rfl)
  rw [show (headSpec (wa yX11_findPrices cX11_findPrices 8 none) ({ frames := 2, cells := 0, slots := 0, locals := 50 } : Room)).room = ({ frames := 2, cells := 0, slots := 0, locals := 50 } : Room) from rfl]
  have hl := lv_entry ([.ref (ad 135), .int x1, .int x2]) (n := 8) (Nat.le_of_ble_eq_true rfl)
  rw [show entryFrame m args 8 = entryFrame m ([.ref (ad 135), .int x1, .int x2] : List Value).toArray 8 from by rw [hav], lg_entry_eq]
  generalize (lg_sl ([.ref (ad 135), .int x1, .int x2]) ++ List.replicate (8 - (lg_sl ([.ref (ad 135), .int x1, .int x2])).length) Slot.unset).toArray = ls at hl ⊢
  have hl : lv_has ls 8 [(0, .ref (ad 135)), (1, .int x1), (2, .int x2)] := hl
  have B96 : ∀ (K2 : Int32 → Int32 → Int32 → HI → HL → Prop) (hK2 : ∀ (x1 : Int32) (x2 : Int32) (x3 : Int32) (h : HI) (g : HL) (H : Heap) (locs : List Loc) (ls : Array Slot), K2 x1 x2 x3 h g → gG D cy ad (gA ad s.heap.size) s.heap h g H locs → lv_has ls 8 [(0, .ref (ad 135)), (1, .int x1), (2, .int x2), (3, .int x3)] → W p l e ({ frames := 2, cells := 0, slots := 0, locals := 50 } : Room) s m args below meth c H locs 0 0 (MQ below (va_Qv (fun (u : HI × HL) => Q u.1 u.2) (gB D cy ad s.heap.size) (gA ad s.heap.size)) args s 0 0 (gA ad s.heap.size)) (F0 m 2 ls [])) (K10 : Int32 → Int32 → Int32 → Int32 → HI → HL → Prop) (hK10 : ∀ (x1 : Int32) (x2 : Int32) (x3 : Int32) (x4 : Int32) (h : HI) (g : HL) (H : Heap) (locs : List Loc) (ls : Array Slot), K10 x1 x2 x3 x4 h g → gG D cy ad (gA ad s.heap.size) s.heap h g H locs → lv_has ls 8 [(0, .ref (ad 135)), (1, .int x1), (2, .int x2), (3, .int x3), (4, .int x4)] → W p l e ({ frames := 2, cells := 0, slots := 0, locals := 50 } : Room) s m args below meth c H locs 0 0 (MQ below (va_Qv (fun (u : HI × HL) => Q u.1 u.2) (gB D cy ad s.heap.size) (gA ad s.heap.size)) args s 0 0 (gA ad s.heap.size)) (F0 m 10 ls [])) (x1 : Int32) (x2 : Int32) (x3 : Int32) (x4 : Int32) (x5 : Int32) (h : HI) (g : HL) (H : Heap) (locs : List Loc) (ls : Array Slot), j_X11_findPrices_96 Q K2 K10 x1 x2 x3 x4 x5 h g → gG D cy ad (gA ad s.heap.size) s.heap h g H locs → lv_has ls 8 [(0, .ref (ad 135)), (1, .int x1), (2, .int x2), (3, .int x3), (4, .int x4), (5, .int x5)] → W p l e ({ frames := 2, cells := 0, slots := 0, locals := 50 } : Room) s m args below meth c H locs 0 0 (MQ below (va_Qv (fun (u : HI × HL) => Q u.1 u.2) (gB D cy ad s.heap.size) (gA ad s.heap.size)) args s 0 0 (gA ad s.heap.size)) (F0 m 96 ls []) := by
    intro K2 hK2 K10 hK10 x1 x2 x3 x4 x5 h g H locs ls HW hG hl
    unfold j_X11_findPrices_96 at HW
    refine lv_aload_n hx hb dX11_findPrices_96 rfl (lv_at hl 0 rfl) ?_
    refine g_getr hx hb hw inG11 hown hK hG gl_135 rfl gk_135 (by decide) 20 (by decide) (by rw [gm_135]; decide) (r := 143) gr_135_20 lk33 dX11_findPrices_97 ?_
    refine lv_sipush (v := 3001) hx hb dX11_findPrices_100 (by decide) ?_
    refine lv_iload_n hx hb dX11_findPrices_103 rfl (lv_at hl 3 rfl) ?_
    refine lv_imul hx hb dX11_findPrices_104 ?_
    refine lv_iload hx hb dX11_findPrices_105 (lv_at hl 4 rfl) ?_
    refine lv_iadd hx hb dX11_findPrices_107 ?_
    refine lv_iload hx hb dX11_findPrices_108 (lv_at hl 5 rfl) ?_
    refine g_iast hx hb hK hG gl_143 gk_143 gn_143 HW.1 dX11_findPrices_110 (fun H locs hG => ?_)
    replace HW := HW.2
    obtain ⟨h_110, eh_110⟩ : ∃ y : HI, y = hu h 143 (((3001 : Int32) * x3) + x4).toNatClampNeg x5 := ⟨_, rfl⟩
    rw [← eh_110] at hG
    replace HW := HW h_110 eh_110
    obtain ⟨x4_111, ex4_111⟩ : ∃ y : Int32, y = (x4 + 1) := ⟨_, rfl⟩
    replace HW := HW x4_111 ex4_111
    refine lv_iinc (v := x4_111) (lv' := [(4, .int x4_111), (0, .ref (ad 135)), (1, .int x1), (2, .int x2), (3, .int x3), (5, .int x5)]) hx hb dX11_findPrices_111 hl (k := 4) rfl (by rw [ex4_111]; rfl) (by decide) rfl (fun ls hl => ?_)
    refine lv_goto (tgt := 10) hx hb dX11_findPrices_114 (by decide) ?_
    exact hK10 x1 x2 x3 x4_111 h_110 g _ _ _ HW hG (lv_sub hl [1, 2, 3, 4, 0] rfl)
  have B88 : ∀ (K2 : Int32 → Int32 → Int32 → HI → HL → Prop) (hK2 : ∀ (x1 : Int32) (x2 : Int32) (x3 : Int32) (h : HI) (g : HL) (H : Heap) (locs : List Loc) (ls : Array Slot), K2 x1 x2 x3 h g → gG D cy ad (gA ad s.heap.size) s.heap h g H locs → lv_has ls 8 [(0, .ref (ad 135)), (1, .int x1), (2, .int x2), (3, .int x3)] → W p l e ({ frames := 2, cells := 0, slots := 0, locals := 50 } : Room) s m args below meth c H locs 0 0 (MQ below (va_Qv (fun (u : HI × HL) => Q u.1 u.2) (gB D cy ad s.heap.size) (gA ad s.heap.size)) args s 0 0 (gA ad s.heap.size)) (F0 m 2 ls [])) (K10 : Int32 → Int32 → Int32 → Int32 → HI → HL → Prop) (hK10 : ∀ (x1 : Int32) (x2 : Int32) (x3 : Int32) (x4 : Int32) (h : HI) (g : HL) (H : Heap) (locs : List Loc) (ls : Array Slot), K10 x1 x2 x3 x4 h g → gG D cy ad (gA ad s.heap.size) s.heap h g H locs → lv_has ls 8 [(0, .ref (ad 135)), (1, .int x1), (2, .int x2), (3, .int x3), (4, .int x4)] → W p l e ({ frames := 2, cells := 0, slots := 0, locals := 50 } : Room) s m args below meth c H locs 0 0 (MQ below (va_Qv (fun (u : HI × HL) => Q u.1 u.2) (gB D cy ad s.heap.size) (gA ad s.heap.size)) args s 0 0 (gA ad s.heap.size)) (F0 m 10 ls [])) (K46 : Int32 → Int32 → Int32 → Int32 → Int32 → Int32 → HI → HL → Prop) (hK46 : ∀ (x1 : Int32) (x2 : Int32) (x3 : Int32) (x4 : Int32) (x5 : Int32) (x6 : Int32) (h : HI) (g : HL) (H : Heap) (locs : List Loc) (ls : Array Slot), K46 x1 x2 x3 x4 x5 x6 h g → gG D cy ad (gA ad s.heap.size) s.heap h g H locs → lv_has ls 8 [(0, .ref (ad 135)), (1, .int x1), (2, .int x2), (3, .int x3), (4, .int x4), (5, .int x5), (6, .int x6)] → W p l e ({ frames := 2, cells := 0, slots := 0, locals := 50 } : Room) s m args below meth c H locs 0 0 (MQ below (va_Qv (fun (u : HI × HL) => Q u.1 u.2) (gB D cy ad s.heap.size) (gA ad s.heap.size)) args s 0 0 (gA ad s.heap.size)) (F0 m 46 ls [])) (x1 : Int32) (x2 : Int32) (x3 : Int32) (x4 : Int32) (x6 : Int32) (s0 : Int32) (h : HI) (g : HL) (H : Heap) (locs : List Loc) (ls : Array Slot), j_X11_findPrices_88 Q K2 K10 K46 x1 x2 x3 x4 x6 s0 h g → gG D cy ad (gA ad s.heap.size) s.heap h g H locs → lv_has ls 8 [(0, .ref (ad 135)), (1, .int x1), (2, .int x2), (3, .int x3), (4, .int x4), (6, .int x6)] → W p l e ({ frames := 2, cells := 0, slots := 0, locals := 50 } : Room) s m args below meth c H locs 0 0 (MQ below (va_Qv (fun (u : HI × HL) => Q u.1 u.2) (gB D cy ad s.heap.size) (gA ad s.heap.size)) args s 0 0 (gA ad s.heap.size)) (F0 m 88 ls [.int s0]) := by
    intro K2 hK2 K10 hK10 K46 hK46 x1 x2 x3 x4 x6 s0 h g H locs ls HW hG hl
    unfold j_X11_findPrices_88 at HW
    refine lv_istore (lv' := [(5, .int s0), (0, .ref (ad 135)), (1, .int x1), (2, .int x2), (3, .int x3), (4, .int x4), (6, .int x6)]) hx hb dX11_findPrices_88 hl (by decide) rfl (fun ls hl => ?_)
    obtain ⟨x6_90, ex6_90⟩ : ∃ y : Int32, y = (x6 + 1) := ⟨_, rfl⟩
    replace HW := HW x6_90 ex6_90
    refine lv_iinc (v := x6_90) (lv' := [(6, .int x6_90), (5, .int s0), (0, .ref (ad 135)), (1, .int x1), (2, .int x2), (3, .int x3), (4, .int x4)]) hx hb dX11_findPrices_90 hl (k := 6) rfl (by rw [ex6_90]; rfl) (by decide) rfl (fun ls hl => ?_)
    refine lv_goto (tgt := 46) hx hb dX11_findPrices_93 (by decide) ?_
    exact hK46 x1 x2 x3 x4 s0 x6_90 h g _ _ _ HW hG (lv_sub hl [2, 3, 4, 5, 6, 1, 0] rfl)
  have L46 : ∀ (K2 : Int32 → Int32 → Int32 → HI → HL → Prop) (hK2 : ∀ (x1 : Int32) (x2 : Int32) (x3 : Int32) (h : HI) (g : HL) (H : Heap) (locs : List Loc) (ls : Array Slot), K2 x1 x2 x3 h g → gG D cy ad (gA ad s.heap.size) s.heap h g H locs → lv_has ls 8 [(0, .ref (ad 135)), (1, .int x1), (2, .int x2), (3, .int x3)] → W p l e ({ frames := 2, cells := 0, slots := 0, locals := 50 } : Room) s m args below meth c H locs 0 0 (MQ below (va_Qv (fun (u : HI × HL) => Q u.1 u.2) (gB D cy ad s.heap.size) (gA ad s.heap.size)) args s 0 0 (gA ad s.heap.size)) (F0 m 2 ls [])) (K10 : Int32 → Int32 → Int32 → Int32 → HI → HL → Prop) (hK10 : ∀ (x1 : Int32) (x2 : Int32) (x3 : Int32) (x4 : Int32) (h : HI) (g : HL) (H : Heap) (locs : List Loc) (ls : Array Slot), K10 x1 x2 x3 x4 h g → gG D cy ad (gA ad s.heap.size) s.heap h g H locs → lv_has ls 8 [(0, .ref (ad 135)), (1, .int x1), (2, .int x2), (3, .int x3), (4, .int x4)] → W p l e ({ frames := 2, cells := 0, slots := 0, locals := 50 } : Room) s m args below meth c H locs 0 0 (MQ below (va_Qv (fun (u : HI × HL) => Q u.1 u.2) (gB D cy ad s.heap.size) (gA ad s.heap.size)) args s 0 0 (gA ad s.heap.size)) (F0 m 10 ls [])) (n : Nat) (x1 : Int32) (x2 : Int32) (x3 : Int32) (x4 : Int32) (x5 : Int32) (x6 : Int32) (h : HI) (g : HL) (H : Heap) (locs : List Loc) (ls : Array Slot), lpN (F_X11_findPrices_46 Q K2 K10) n (x1, x2, x3, x4, x5, x6, h, g) → gG D cy ad (gA ad s.heap.size) s.heap h g H locs → lv_has ls 8 [(0, .ref (ad 135)), (1, .int x1), (2, .int x2), (3, .int x3), (4, .int x4), (5, .int x5), (6, .int x6)] → W p l e ({ frames := 2, cells := 0, slots := 0, locals := 50 } : Room) s m args below meth c H locs 0 0 (MQ below (va_Qv (fun (u : HI × HL) => Q u.1 u.2) (gB D cy ad s.heap.size) (gA ad s.heap.size)) args s 0 0 (gA ad s.heap.size)) (F0 m 46 ls []) := by
    intro K2 hK2 K10 hK10 n
    induction n with
    | zero => intro x1 x2 x3 x4 x5 x6 h g H locs ls HW; exact HW.elim
    | succ n ih =>
      intro x1 x2 x3 x4 x5 x6 h g H locs ls HW hG hl
      have HW : b_X11_findPrices_46 Q K2 K10 (fun x1 x2 x3 x4 x5 x6 h g => lpN (F_X11_findPrices_46 Q K2 K10) n (x1, x2, x3, x4, x5, x6, h, g)) x1 x2 x3 x4 x5 x6 h g := HW
      generalize hKe : (fun (x1 : Int32) (x2 : Int32) (x3 : Int32) (x4 : Int32) (x5 : Int32) (x6 : Int32) (h : HI) (g : HL) => lpN (F_X11_findPrices_46 Q K2 K10) n (x1, x2, x3, x4, x5, x6, h, g)) = K46 at HW
      have hK46 : ∀ (x1 : Int32) (x2 : Int32) (x3 : Int32) (x4 : Int32) (x5 : Int32) (x6 : Int32) (h : HI) (g : HL) (H : Heap) (locs : List Loc) (ls : Array Slot), K46 x1 x2 x3 x4 x5 x6 h g → gG D cy ad (gA ad s.heap.size) s.heap h g H locs → lv_has ls 8 [(0, .ref (ad 135)), (1, .int x1), (2, .int x2), (3, .int x3), (4, .int x4), (5, .int x5), (6, .int x6)] → W p l e ({ frames := 2, cells := 0, slots := 0, locals := 50 } : Room) s m args below meth c H locs 0 0 (MQ below (va_Qv (fun (u : HI × HL) => Q u.1 u.2) (gB D cy ad s.heap.size) (gA ad s.heap.size)) args s 0 0 (gA ad s.heap.size)) (F0 m 46 ls []) := by subst hKe; exact ih
      clear ih
      clear hKe
      unfold b_X11_findPrices_46 at HW
      refine lv_iload hx hb dX11_findPrices_46 (lv_at hl 6 rfl) ?_
      refine lv_aload_n hx hb dX11_findPrices_48 rfl (lv_at hl 0 rfl) ?_
      refine g_getr hx hb hw inG11 hown hK hG gl_135 rfl gk_135 (by decide) 0 (by decide) (by rw [gm_135]; decide) (r := 136) gr_135_0 lk7 dX11_findPrices_49 ?_
      refine lv_iconst (v := 3) hx hb dX11_findPrices_52 (by decide) ?_
      refine g_iald hx hb hK hG gl_136 gk_136 gn_136 HW.1 dX11_findPrices_53 ?_
      replace HW := HW.2
      refine lv_icmp_ge (tgt := 96) hx hb dX11_findPrices_54 (by decide) (fun c_54 => ?_) (fun c_54 => ?_)
      · replace HW := HW.1 c_54
        exact B96 K2 hK2 K10 hK10 x1 x2 x3 x4 x5 h g _ _ _ HW hG (lv_sub hl [0, 1, 2, 3, 4, 5] rfl)
      · replace HW := HW.2 c_54
        refine lv_iload_n hx hb dX11_findPrices_57 rfl (lv_at hl 3 rfl) ?_
        refine lv_if_le (tgt := 96) hx hb dX11_findPrices_58 (by decide) (fun c_58 => ?_) (fun c_58 => ?_)
        · replace HW := HW.1 c_58
          exact B96 K2 hK2 K10 hK10 x1 x2 x3 x4 x5 h g _ _ _ HW hG (lv_sub hl [0, 1, 2, 3, 4, 5] rfl)
        · replace HW := HW.2 c_58
          refine lv_aload_n hx hb dX11_findPrices_61 rfl (lv_at hl 0 rfl) ?_
          refine lv_iload hx hb dX11_findPrices_62 (lv_at hl 6 rfl) ?_
          refine lv_iload hx hb dX11_findPrices_64 (lv_at hl 4 rfl) ?_
          refine lv_iload_n hx hb dX11_findPrices_66 rfl (lv_at hl 3 rfl) ?_
          refine lv_iconst (v := 1) hx hb dX11_findPrices_67 (by decide) ?_
          refine lv_isub hx hb dX11_findPrices_68 ?_
          obtain ⟨P_69, HC_69, HW⟩ := HW
          refine g_calli (g_runV (As := [.int x6, .int x4, .int (x3 - (1 : Int32))]) (rest := []) ⟨hx, hb, hml, hown, hts⟩ (m_X11_by l D cy ad h g H.size x6 x4 (x3 - (1 : Int32)) P_69 HC_69) (cwV 3 hts (gd_V (wm6 76 rfl rfl) (wm6 78 rfl rfl) (wmp5 (q := (yX11_by, 26)) 0 rfl) (wm1 13 rfl rfl) (wm6 79 rfl rfl)) rfl rfl rfl (by decide +kernel) ⟨Nat.le_of_ble_eq_true rfl, Nat.le_of_ble_eq_true rfl⟩) hK hNw hG gl_135 rfl gk_135 (by decide) rfl rfl hl.1 rfl (lv_room (Nat.le_of_ble_eq_true rfl)) dX11_findPrices_69 ⟨Nat.zero_le _, Nat.zero_le _⟩) hG (fun r_69 h_69 g_69 H locs hq hG => ?_)
          replace HW := HW r_69 h_69 g_69 hq
          refine lv_istore (lv' := [(7, .int r_69), (0, .ref (ad 135)), (1, .int x1), (2, .int x2), (3, .int x3), (4, .int x4), (5, .int x5), (6, .int x6)]) hx hb dX11_findPrices_72 hl (by decide) rfl (fun ls hl => ?_)
          refine lv_iload hx hb dX11_findPrices_74 (lv_at hl 0 rfl) ?_
          refine lv_iload hx hb dX11_findPrices_76 (lv_at hl 6 rfl) ?_
          refine lv_icmp_ge (tgt := 86) hx hb dX11_findPrices_78 (by decide) (fun c_78 => ?_) (fun c_78 => ?_)
          · replace HW := HW.1 c_78
            refine lv_iload hx hb dX11_findPrices_86 (lv_at hl 6 rfl) ?_
            exact B88 K2 hK2 K10 hK10 K46 hK46 x1 x2 x3 x4 x6 x5 h_69 g_69 _ _ _ HW hG (lv_sub hl [1, 2, 3, 4, 5, 7] rfl)
          · replace HW := HW.2 c_78
            refine lv_iload hx hb dX11_findPrices_81 (lv_at hl 0 rfl) ?_
            refine lv_goto (tgt := 88) hx hb dX11_findPrices_83 (by decide) ?_
            exact B88 K2 hK2 K10 hK10 K46 hK46 x1 x2 x3 x4 x6 r_69 h_69 g_69 _ _ _ HW hG (lv_sub hl [1, 2, 3, 4, 5, 7] rfl)
  have B41 : ∀ (K2 : Int32 → Int32 → Int32 → HI → HL → Prop) (hK2 : ∀ (x1 : Int32) (x2 : Int32) (x3 : Int32) (h : HI) (g : HL) (H : Heap) (locs : List Loc) (ls : Array Slot), K2 x1 x2 x3 h g → gG D cy ad (gA ad s.heap.size) s.heap h g H locs → lv_has ls 8 [(0, .ref (ad 135)), (1, .int x1), (2, .int x2), (3, .int x3)] → W p l e ({ frames := 2, cells := 0, slots := 0, locals := 50 } : Room) s m args below meth c H locs 0 0 (MQ below (va_Qv (fun (u : HI × HL) => Q u.1 u.2) (gB D cy ad s.heap.size) (gA ad s.heap.size)) args s 0 0 (gA ad s.heap.size)) (F0 m 2 ls [])) (K10 : Int32 → Int32 → Int32 → Int32 → HI → HL → Prop) (hK10 : ∀ (x1 : Int32) (x2 : Int32) (x3 : Int32) (x4 : Int32) (h : HI) (g : HL) (H : Heap) (locs : List Loc) (ls : Array Slot), K10 x1 x2 x3 x4 h g → gG D cy ad (gA ad s.heap.size) s.heap h g H locs → lv_has ls 8 [(0, .ref (ad 135)), (1, .int x1), (2, .int x2), (3, .int x3), (4, .int x4)] → W p l e ({ frames := 2, cells := 0, slots := 0, locals := 50 } : Room) s m args below meth c H locs 0 0 (MQ below (va_Qv (fun (u : HI × HL) => Q u.1 u.2) (gB D cy ad s.heap.size) (gA ad s.heap.size)) args s 0 0 (gA ad s.heap.size)) (F0 m 10 ls [])) (x1 : Int32) (x2 : Int32) (x3 : Int32) (x4 : Int32) (s0 : Int32) (h : HI) (g : HL) (H : Heap) (locs : List Loc) (ls : Array Slot), j_X11_findPrices_41 Q K2 K10 x1 x2 x3 x4 s0 h g → gG D cy ad (gA ad s.heap.size) s.heap h g H locs → lv_has ls 8 [(0, .ref (ad 135)), (1, .int x1), (2, .int x2), (3, .int x3), (4, .int x4)] → W p l e ({ frames := 2, cells := 0, slots := 0, locals := 50 } : Room) s m args below meth c H locs 0 0 (MQ below (va_Qv (fun (u : HI × HL) => Q u.1 u.2) (gB D cy ad s.heap.size) (gA ad s.heap.size)) args s 0 0 (gA ad s.heap.size)) (F0 m 41 ls [.int s0]) := by
    intro K2 hK2 K10 hK10 x1 x2 x3 x4 s0 h g H locs ls HW hG hl
    unfold j_X11_findPrices_41 at HW
    refine lv_istore (lv' := [(5, .int s0), (0, .ref (ad 135)), (1, .int x1), (2, .int x2), (3, .int x3), (4, .int x4)]) hx hb dX11_findPrices_41 hl (by decide) rfl (fun ls hl => ?_)
    refine lv_iconst (v := 0) hx hb dX11_findPrices_43 (by decide) ?_
    refine lv_istore (lv' := [(6, .int (0 : Int32)), (5, .int s0), (0, .ref (ad 135)), (1, .int x1), (2, .int x2), (3, .int x3), (4, .int x4)]) hx hb dX11_findPrices_44 hl (by decide) rfl (fun ls hl => ?_)
    obtain ⟨n_46, HW⟩ := HW
    exact L46 K2 hK2 K10 hK10 n_46 x1 x2 x3 x4 s0 (0 : Int32) h g _ _ _ HW hG (lv_sub hl [2, 3, 4, 5, 6, 1, 0] rfl)
  have B39 : ∀ (K2 : Int32 → Int32 → Int32 → HI → HL → Prop) (hK2 : ∀ (x1 : Int32) (x2 : Int32) (x3 : Int32) (h : HI) (g : HL) (H : Heap) (locs : List Loc) (ls : Array Slot), K2 x1 x2 x3 h g → gG D cy ad (gA ad s.heap.size) s.heap h g H locs → lv_has ls 8 [(0, .ref (ad 135)), (1, .int x1), (2, .int x2), (3, .int x3)] → W p l e ({ frames := 2, cells := 0, slots := 0, locals := 50 } : Room) s m args below meth c H locs 0 0 (MQ below (va_Qv (fun (u : HI × HL) => Q u.1 u.2) (gB D cy ad s.heap.size) (gA ad s.heap.size)) args s 0 0 (gA ad s.heap.size)) (F0 m 2 ls [])) (K10 : Int32 → Int32 → Int32 → Int32 → HI → HL → Prop) (hK10 : ∀ (x1 : Int32) (x2 : Int32) (x3 : Int32) (x4 : Int32) (h : HI) (g : HL) (H : Heap) (locs : List Loc) (ls : Array Slot), K10 x1 x2 x3 x4 h g → gG D cy ad (gA ad s.heap.size) s.heap h g H locs → lv_has ls 8 [(0, .ref (ad 135)), (1, .int x1), (2, .int x2), (3, .int x3), (4, .int x4)] → W p l e ({ frames := 2, cells := 0, slots := 0, locals := 50 } : Room) s m args below meth c H locs 0 0 (MQ below (va_Qv (fun (u : HI × HL) => Q u.1 u.2) (gB D cy ad s.heap.size) (gA ad s.heap.size)) args s 0 0 (gA ad s.heap.size)) (F0 m 10 ls [])) (x1 : Int32) (x2 : Int32) (x3 : Int32) (x4 : Int32) (h : HI) (g : HL) (H : Heap) (locs : List Loc) (ls : Array Slot), j_X11_findPrices_39 Q K2 K10 x1 x2 x3 x4 h g → gG D cy ad (gA ad s.heap.size) s.heap h g H locs → lv_has ls 8 [(0, .ref (ad 135)), (1, .int x1), (2, .int x2), (3, .int x3), (4, .int x4)] → W p l e ({ frames := 2, cells := 0, slots := 0, locals := 50 } : Room) s m args below meth c H locs 0 0 (MQ below (va_Qv (fun (u : HI × HL) => Q u.1 u.2) (gB D cy ad s.heap.size) (gA ad s.heap.size)) args s 0 0 (gA ad s.heap.size)) (F0 m 39 ls []) := by
    intro K2 hK2 K10 hK10 x1 x2 x3 x4 h g H locs ls HW hG hl
    unfold j_X11_findPrices_39 at HW
    refine lv_ldc (v := 1000000) hx hb hown cn234 dX11_findPrices_39 ?_
    exact B41 K2 hK2 K10 hK10 x1 x2 x3 x4 (1000000 : Int32) h g _ _ _ HW hG (lv_sub hl [0, 1, 2, 3, 4] rfl)
  have L10 : ∀ (K2 : Int32 → Int32 → Int32 → HI → HL → Prop) (hK2 : ∀ (x1 : Int32) (x2 : Int32) (x3 : Int32) (h : HI) (g : HL) (H : Heap) (locs : List Loc) (ls : Array Slot), K2 x1 x2 x3 h g → gG D cy ad (gA ad s.heap.size) s.heap h g H locs → lv_has ls 8 [(0, .ref (ad 135)), (1, .int x1), (2, .int x2), (3, .int x3)] → W p l e ({ frames := 2, cells := 0, slots := 0, locals := 50 } : Room) s m args below meth c H locs 0 0 (MQ below (va_Qv (fun (u : HI × HL) => Q u.1 u.2) (gB D cy ad s.heap.size) (gA ad s.heap.size)) args s 0 0 (gA ad s.heap.size)) (F0 m 2 ls [])) (n : Nat) (x1 : Int32) (x2 : Int32) (x3 : Int32) (x4 : Int32) (h : HI) (g : HL) (H : Heap) (locs : List Loc) (ls : Array Slot), lpN (F_X11_findPrices_10 Q K2) n (x1, x2, x3, x4, h, g) → gG D cy ad (gA ad s.heap.size) s.heap h g H locs → lv_has ls 8 [(0, .ref (ad 135)), (1, .int x1), (2, .int x2), (3, .int x3), (4, .int x4)] → W p l e ({ frames := 2, cells := 0, slots := 0, locals := 50 } : Room) s m args below meth c H locs 0 0 (MQ below (va_Qv (fun (u : HI × HL) => Q u.1 u.2) (gB D cy ad s.heap.size) (gA ad s.heap.size)) args s 0 0 (gA ad s.heap.size)) (F0 m 10 ls []) := by
    intro K2 hK2 n
    induction n with
    | zero => intro x1 x2 x3 x4 h g H locs ls HW; exact HW.elim
    | succ n ih =>
      intro x1 x2 x3 x4 h g H locs ls HW hG hl
      have HW : b_X11_findPrices_10 Q K2 (fun x1 x2 x3 x4 h g => lpN (F_X11_findPrices_10 Q K2) n (x1, x2, x3, x4, h, g)) x1 x2 x3 x4 h g := HW
      generalize hKe : (fun (x1 : Int32) (x2 : Int32) (x3 : Int32) (x4 : Int32) (h : HI) (g : HL) => lpN (F_X11_findPrices_10 Q K2) n (x1, x2, x3, x4, h, g)) = K10 at HW
      have hK10 : ∀ (x1 : Int32) (x2 : Int32) (x3 : Int32) (x4 : Int32) (h : HI) (g : HL) (H : Heap) (locs : List Loc) (ls : Array Slot), K10 x1 x2 x3 x4 h g → gG D cy ad (gA ad s.heap.size) s.heap h g H locs → lv_has ls 8 [(0, .ref (ad 135)), (1, .int x1), (2, .int x2), (3, .int x3), (4, .int x4)] → W p l e ({ frames := 2, cells := 0, slots := 0, locals := 50 } : Room) s m args below meth c H locs 0 0 (MQ below (va_Qv (fun (u : HI × HL) => Q u.1 u.2) (gB D cy ad s.heap.size) (gA ad s.heap.size)) args s 0 0 (gA ad s.heap.size)) (F0 m 10 ls []) := by subst hKe; exact ih
      clear ih
      clear hKe
      unfold b_X11_findPrices_10 at HW
      refine lv_iload hx hb dX11_findPrices_10 (lv_at hl 4 rfl) ?_
      refine lv_sipush (v := 3000) hx hb dX11_findPrices_12 (by decide) ?_
      refine lv_icmp_gt (tgt := 117) hx hb dX11_findPrices_15 (by decide) (fun c_15 => ?_) (fun c_15 => ?_)
      · replace HW := HW.1 c_15
        obtain ⟨x3_117, ex3_117⟩ : ∃ y : Int32, y = (x3 + 1) := ⟨_, rfl⟩
        replace HW := HW x3_117 ex3_117
        refine lv_iinc (v := x3_117) (lv' := [(3, .int x3_117), (0, .ref (ad 135)), (1, .int x1), (2, .int x2), (4, .int x4)]) hx hb dX11_findPrices_117 hl (k := 3) rfl (by rw [ex3_117]; rfl) (by decide) rfl (fun ls hl => ?_)
        refine lv_goto (tgt := 2) hx hb dX11_findPrices_120 (by decide) ?_
        exact hK2 x1 x2 x3_117 h g _ _ _ HW hG (lv_sub hl [1, 2, 3, 0] rfl)
      · replace HW := HW.2 c_15
        refine lv_iload_n hx hb dX11_findPrices_18 rfl (lv_at hl 3 rfl) ?_
        refine lv_if_ne (tgt := 39) hx hb dX11_findPrices_19 (by decide) (fun c_19 => ?_) (fun c_19 => ?_)
        · replace HW := HW.1 c_19
          exact B39 K2 hK2 K10 hK10 x1 x2 x3 x4 h g _ _ _ HW hG (lv_sub hl [0, 1, 2, 3, 4] rfl)
        · replace HW := HW.2 c_19
          refine lv_iload hx hb dX11_findPrices_22 (lv_at hl 4 rfl) ?_
          refine lv_i2l hx hb dX11_findPrices_24 rfl ?_
          refine lv_iload_n hx hb dX11_findPrices_25 rfl (lv_at hl 1 rfl) ?_
          refine lv_i2l hx hb dX11_findPrices_26 rfl ?_
          refine lv_iload_n hx hb dX11_findPrices_27 rfl (lv_at hl 2 rfl) ?_
          refine lv_i2l hx hb dX11_findPrices_28 rfl ?_
          obtain ⟨P_29, HC_29, HW⟩ := HW
          refine g_callz (g_runS (As := [.long ((x4).toInt64), .long ((x1).toInt64), .long ((x2).toInt64)]) (rest := []) ⟨hx, hb, hml, hown, hts⟩ (m_X11_in l D cy ad h g H.size ((x4).toInt64) ((x1).toInt64) ((x2).toInt64) P_29 HC_29) (va_cwS 3 hts (gd_S (wm5 111 rfl rfl) (wm5 112 rfl rfl) (wm1 13 rfl rfl) (wm5 113 rfl rfl)) rfl rfl rfl (by decide +kernel) ⟨Nat.le_of_ble_eq_true rfl, Nat.le_of_ble_eq_true rfl⟩) hK hNw hG rfl rfl hl.1 rfl (lv_room (Nat.le_of_ble_eq_true rfl)) dX11_findPrices_29 ⟨Nat.zero_le _, Nat.zero_le _⟩) hG (fun r_29 h_29 g_29 H locs hz hq hG => ?_)
          replace HW := HW r_29 h_29 g_29 hz hq
          refine lv_if_eq (tgt := 39) hx hb dX11_findPrices_32 (by decide) (fun c_32 => ?_) (fun c_32 => ?_)
          · replace HW := HW.1 c_32
            exact B39 K2 hK2 K10 hK10 x1 x2 x3 x4 h_29 g_29 _ _ _ HW hG (lv_sub hl [0, 1, 2, 3, 4] rfl)
          · replace HW := HW.2 c_32
            refine lv_iconst (v := 0) hx hb dX11_findPrices_35 (by decide) ?_
            refine lv_goto (tgt := 41) hx hb dX11_findPrices_36 (by decide) ?_
            exact B41 K2 hK2 K10 hK10 x1 x2 x3 x4 (0 : Int32) h_29 g_29 _ _ _ HW hG (lv_sub hl [0, 1, 2, 3, 4] rfl)
  have L2 : ∀ (n : Nat) (x1 : Int32) (x2 : Int32) (x3 : Int32) (h : HI) (g : HL) (H : Heap) (locs : List Loc) (ls : Array Slot), lpN (F_X11_findPrices_2 Q) n (x1, x2, x3, h, g) → gG D cy ad (gA ad s.heap.size) s.heap h g H locs → lv_has ls 8 [(0, .ref (ad 135)), (1, .int x1), (2, .int x2), (3, .int x3)] → W p l e ({ frames := 2, cells := 0, slots := 0, locals := 50 } : Room) s m args below meth c H locs 0 0 (MQ below (va_Qv (fun (u : HI × HL) => Q u.1 u.2) (gB D cy ad s.heap.size) (gA ad s.heap.size)) args s 0 0 (gA ad s.heap.size)) (F0 m 2 ls []) := by
    intro n
    induction n with
    | zero => intro x1 x2 x3 h g H locs ls HW; exact HW.elim
    | succ n ih =>
      intro x1 x2 x3 h g H locs ls HW hG hl
      have HW : b_X11_findPrices_2 Q (fun x1 x2 x3 h g => lpN (F_X11_findPrices_2 Q) n (x1, x2, x3, h, g)) x1 x2 x3 h g := HW
      generalize hKe : (fun (x1 : Int32) (x2 : Int32) (x3 : Int32) (h : HI) (g : HL) => lpN (F_X11_findPrices_2 Q) n (x1, x2, x3, h, g)) = K2 at HW
      have hK2 : ∀ (x1 : Int32) (x2 : Int32) (x3 : Int32) (h : HI) (g : HL) (H : Heap) (locs : List Loc) (ls : Array Slot), K2 x1 x2 x3 h g → gG D cy ad (gA ad s.heap.size) s.heap h g H locs → lv_has ls 8 [(0, .ref (ad 135)), (1, .int x1), (2, .int x2), (3, .int x3)] → W p l e ({ frames := 2, cells := 0, slots := 0, locals := 50 } : Room) s m args below meth c H locs 0 0 (MQ below (va_Qv (fun (u : HI × HL) => Q u.1 u.2) (gB D cy ad s.heap.size) (gA ad s.heap.size)) args s 0 0 (gA ad s.heap.size)) (F0 m 2 ls []) := by subst hKe; exact ih
      clear ih
      clear hKe
      unfold b_X11_findPrices_2 at HW
      refine lv_iload_n hx hb dX11_findPrices_2 rfl (lv_at hl 3 rfl) ?_
      refine lv_iconst (v := 5) hx hb dX11_findPrices_3 (by decide) ?_
      refine lv_icmp_gt (tgt := 123) hx hb dX11_findPrices_4 (by decide) (fun c_4 => ?_) (fun c_4 => ?_)
      · replace HW := HW.1 c_4
        exact W.vret hx hb hr (fun t ht hW => ⟨⟨(h, g), rfl, HW, g_B ht hG⟩, hG.2.2.F ht⟩) hG.2.2.2.2 dX11_findPrices_123
      · replace HW := HW.2 c_4
        refine lv_iconst (v := 1) hx hb dX11_findPrices_7 (by decide) ?_
        refine lv_istore (lv' := [(4, .int (1 : Int32)), (0, .ref (ad 135)), (1, .int x1), (2, .int x2), (3, .int x3)]) hx hb dX11_findPrices_8 hl (by decide) rfl (fun ls hl => ?_)
        obtain ⟨n_10, HW⟩ := HW
        exact L10 K2 hK2 n_10 x1 x2 x3 (1 : Int32) h g _ _ _ HW hG (lv_sub hl [1, 2, 3, 4, 0] rfl)
  have E0 : ∀ (H : Heap) (locs : List Loc) (ls : Array Slot), gG D cy ad (gA ad s.heap.size) s.heap h g H locs → lv_has ls 8 [(0, .ref (ad 135)), (1, .int x1), (2, .int x2)] → W p l e ({ frames := 2, cells := 0, slots := 0, locals := 50 } : Room) s m args below meth c H locs 0 0 (MQ below (va_Qv (fun (u : HI × HL) => Q u.1 u.2) (gB D cy ad s.heap.size) (gA ad s.heap.size)) args s 0 0 (gA ad s.heap.size)) (F0 m 0 ls []) := by
    intro H locs ls hG hl
    unfold w_X11_findPrices at HW
    refine lv_iconst (v := 0) hx hb dX11_findPrices_0 (by decide) ?_
    refine lv_istore_n (lv' := [(3, .int (0 : Int32)), (0, .ref (ad 135)), (1, .int x1), (2, .int x2)]) hx hb dX11_findPrices_1 rfl hl (by decide) rfl (fun ls hl => ?_)
    obtain ⟨n_2, HW⟩ := HW
    exact L2 n_2 x1 x2 (0 : Int32) h g _ _ _ HW hG (lv_sub hl [1, 2, 3, 0] rfl)
  exact E0 _ _ _ hG hl

def b_X11_way_180 (Q : Int32 → HI → HL → Prop) (K170 : Int32 → Int32 → Int32 → Int32 → Int32 → HI → HL → Prop) (K180 : Int32 → Int32 → Int32 → Int32 → Int32 → HI → HL → Prop) (x4 : Int32) (x5 : Int32) (x7 : Int32) (x8 : Int32) (x9 : Int32) (h : HI) (g : HL) : Prop :=
  (∃ P_192 : Int32 → HI → HL → Prop, w_X11_by x8 x7 ((x5 - x9) - (1 : Int32)) h g P_192 ∧ ∀ (r_192 : Int32) (h_192 : HI) (g_192 : HL), P_192 r_192 h_192 g_192 → (vp_in (((3001 : Int32) * (x5 - x9)) + x7) 18006 ∧ ((r_192 = (h_192 143 (((3001 : Int32) * (x5 - x9)) + x7).toNatClampNeg) → (vp_in ((672 : Int32) + ((4 : Int32) * x8)) 887 ∧ (∀ x7_237 : Int32, x7_237 = (x7 + (h_192 136 ((672 : Int32) + ((4 : Int32) * x8)).toNatClampNeg)) → (∀ x9_239 : Int32, x9_239 = (x9 + 1) → K170 x4 x5 x7_237 x8 x9_239 h_192 g_192)))) ∧ (¬ r_192 = (h_192 143 (((3001 : Int32) * (x5 - x9)) + x7).toNatClampNeg) → (∀ x8_215 : Int32, x8_215 = (x8 + 1) → K180 x4 x5 x7 x8_215 x9 h_192 g_192)))))
def F_X11_way_180 (Q : Int32 → HI → HL → Prop) (K170 : Int32 → Int32 → Int32 → Int32 → Int32 → HI → HL → Prop) (K : Int32 × Int32 × Int32 × Int32 × Int32 × HI × HL → Prop) (q : Int32 × Int32 × Int32 × Int32 × Int32 × HI × HL) : Prop := b_X11_way_180 Q K170 (fun x4 x5 x7 x8 x9 h g => K (x4, x5, x7, x8, x9, h, g)) q.1 q.2.1 q.2.2.1 q.2.2.2.1 q.2.2.2.2.1 q.2.2.2.2.2.1 q.2.2.2.2.2.2
def b_X11_way_170 (Q : Int32 → HI → HL → Prop) (K170 : Int32 → Int32 → Int32 → Int32 → Int32 → HI → HL → Prop) (x4 : Int32) (x5 : Int32) (x7 : Int32) (x8 : Int32) (x9 : Int32) (h : HI) (g : HL) : Prop :=
  ((x4 < x9 → Q x8 h g) ∧ (¬ x4 < x9 → lpE (F_X11_way_180 Q K170) (x4, x5, x7, (0 : Int32), x9, h, g)))
def F_X11_way_170 (Q : Int32 → HI → HL → Prop) (K : Int32 × Int32 × Int32 × Int32 × Int32 × HI × HL → Prop) (q : Int32 × Int32 × Int32 × Int32 × Int32 × HI × HL) : Prop := b_X11_way_170 Q (fun x4 x5 x7 x8 x9 h g => K (x4, x5, x7, x8, x9, h, g)) q.1 q.2.1 q.2.2.1 q.2.2.2.1 q.2.2.2.2.1 q.2.2.2.2.2.1 q.2.2.2.2.2.2
def j_X11_way_100 (Q : Int32 → HI → HL → Prop) (K58 : Int32 → Int32 → Int32 → Int32 → HI → HL → Prop) (x1 : Int32) (x4 : Int32) (x6 : Int32) (s0 : Int32) (h : HI) (g : HL) : Prop :=
  (∀ x6_102 : Int32, x6_102 = (x6 + 1) → K58 x1 x4 s0 x6_102 h g)
def b_X11_way_58 (Q : Int32 → HI → HL → Prop) (K58 : Int32 → Int32 → Int32 → Int32 → HI → HL → Prop) (x1 : Int32) (x4 : Int32) (x5 : Int32) (x6 : Int32) (h : HI) (g : HL) : Prop :=
  (((5 : Int32) < x6 → (vp_in (((3001 : Int32) * x5) + x1) 18006 ∧ (∀ x6_121 : Int32, x6_121 = (h 143 (((3001 : Int32) * x5) + x1).toNatClampNeg) → ((x6_121 < (1000000 : Int32) → ((0 ≤ x4 → ((x4 < x5 → lpE (F_X11_way_170 Q) (x4, x5, x1, (0 : Int32), (0 : Int32), h, g)) ∧ (¬ x4 < x5 → Q (-1 : Int32) h g))) ∧ (¬ 0 ≤ x4 → ((¬ x4 = (-1 : Int32) → Q x5 h g) ∧ (x4 = (-1 : Int32) → Q x6_121 h g))))) ∧ (¬ x6_121 < (1000000 : Int32) → Q (-5 : Int32) h g))))) ∧ (¬ (5 : Int32) < x6 → (vp_in (((3001 : Int32) * x6) + x1) 18006 ∧ (vp_in (((3001 : Int32) * x5) + x1) 18006 ∧ (((h 143 (((3001 : Int32) * x5) + x1).toNatClampNeg) ≤ (h 143 (((3001 : Int32) * x6) + x1).toNatClampNeg) → j_X11_way_100 Q K58 x1 x4 x6 x5 h g) ∧ (¬ (h 143 (((3001 : Int32) * x5) + x1).toNatClampNeg) ≤ (h 143 (((3001 : Int32) * x6) + x1).toNatClampNeg) → j_X11_way_100 Q K58 x1 x4 x6 x6 h g))))))
def F_X11_way_58 (Q : Int32 → HI → HL → Prop) (K : Int32 × Int32 × Int32 × Int32 × HI × HL → Prop) (q : Int32 × Int32 × Int32 × Int32 × HI × HL) : Prop := b_X11_way_58 Q (fun x1 x4 x5 x6 h g => K (x1, x4, x5, x6, h, g)) q.1 q.2.1 q.2.2.1 q.2.2.2.1 q.2.2.2.2.1 q.2.2.2.2.2
def w_X11_way (x1 : Int32) (x2 : Int32) (x3 : Int32) (x4 : Int32) (h : HI) (g : HL) (Q : Int32 → HI → HL → Prop) : Prop :=
  (∃ P_6 : Int32 → HI → HL → Prop, w_X11_in ((x1).toInt64) (1 : Int64) (3000 : Int64) h g P_6 ∧ ∀ (r_6 : Int32) (h_6 : HI) (g_6 : HL), zb r_6 → P_6 r_6 h_6 g_6 → ((r_6 = 0 → Q (-10 : Int32) h_6 g_6) ∧ (¬ r_6 = 0 → (∃ P_17 : Int32 → HI → HL → Prop, w_X11_in ((x2).toInt64) (1 : Int64) ((x3).toInt64) h_6 g_6 P_17 ∧ ∀ (r_17 : Int32) (h_17 : HI) (g_17 : HL), zb r_17 → P_17 r_17 h_17 g_17 → ((r_17 = 0 → Q (-10 : Int32) h_17 g_17) ∧ (¬ r_17 = 0 → (∃ P_30 : Int32 → HI → HL → Prop, w_X11_in ((x3).toInt64) ((x2).toInt64) (3000 : Int64) h_17 g_17 P_30 ∧ ∀ (r_30 : Int32) (h_30 : HI) (g_30 : HL), zb r_30 → P_30 r_30 h_30 g_30 → ((r_30 = 0 → Q (-10 : Int32) h_30 g_30) ∧ (¬ r_30 = 0 → (((-2 : Int32) ≤ x4 → (∃ P_49 : HI → HL → Prop, w_X11_findPrices x2 x3 h_30 g_30 P_49 ∧ ∀ (h_49 : HI) (g_49 : HL), P_49 h_49 g_49 → lpE (F_X11_way_58 Q) (x1, x4, (0 : Int32), (1 : Int32), h_49, g_49))) ∧ (¬ (-2 : Int32) ≤ x4 → Q (-10 : Int32) h_30 g_30)))))))))))
set_option maxHeartbeats 8000000 in
set_option maxRecDepth 100000 in
theorem m_X11_way (l : Launch) (D : va_G) (cy : Nat → ClassId) (ad : Nat → Nat) (h : HI) (g : HL) (sz : Nat) (x1 : Int32) (x2 : Int32) (x3 : Int32) (x4 : Int32) (Q : Int32 → HI → HL → Prop) (HW : w_X11_way x1 x2 x3 x4 h g Q) : Met l yX11_way (wa yX11_way cX11_way 10 (some .int)) ({ frames := 3, cells := 0, slots := 0, locals := 77 }) (va_Pc [.ref (ad 135), .int x1, .int x2, .int x3, .int x4] (gI D cy ad h g sz)) (va_Qi (fun (r : Int32) (u : HI × HL) => Q r u.1 u.2) (gB D cy ad sz) (gA ad sz)) 0 0 (gA ad sz) := by
  refine Met.ofW (cc := cX11_way) (maxL := 10) (ret := (some .int)) (by decide) rfl ?_
  intro p e s m args below meth c s₁ B hml hv
  obtain ⟨hav, hsz, hP, hK, hD0, hNw⟩ := hv
  have hx := B.exec
  have hb := B.bytes
  have hr := B.returns
  have hts := atoms_spec (ws := (wa yX11_way cX11_way 10 (some .int))) B.pre
  have hw := wa_hw hts
  have hown : s.vm.findClass RX11 = some m.cls := findClass_of_methodNamed B.named
  have hlocks := B.notSynchronized
  subst hsz
  have hG : gG D cy ad (gA ad s.heap.size) s.heap h g s.heap [] := ⟨hP, gA_self hD0, va_S.rf⟩
  clear hP hD0
  have cn232 := hw (.constantLong RX11 232 (3000)) (wm6 66 rfl rfl)
  have lk33 := hw (.fieldLink RX11 33 "OldWorksModel" "price" "[I") (wm5 47 rfl rfl)
  have cn234 := hw (.constant RX11 234 (1000000)) (wm6 75 rfl rfl)
  have lk7 := hw (.fieldLink RX11 7 "OldWorksModel" "st" "[I") (wm5 27 rfl rfl)
  rw [show (headSpec (wa yX11_way cX11_way 10 (some .int)) ({ frames := 3, cells := 0, slots := 0, locals := 77 } : Room)).room = ({ frames := 3, cells := 0, slots := 0, locals := 77 } : Room) from rfl]
  have hl := lv_entry ([.ref (ad 135), .int x1, .int x2, .int x3, .int x4]) (n := 10) (Nat.le_of_ble_eq_true rfl)
  rw [show entryFrame m args 10 = entryFrame m ([.ref (ad 135), .int x1, .int x2, .int x3, .int x4] : List Value).toArray 10 from by rw [hav], lg_entry_eq]
  generalize (lg_sl ([.ref (ad 135), .int x1, .int x2, .int x3, .int x4]) ++ List.replicate (10 - (lg_sl ([.ref (ad 135), .int x1, .int x2, .int x3, .int x4])).length) Slot.unset).toArray = ls at hl ⊢
  have hl : lv_has ls 10 [(0, .ref (ad 135)), (1, .int x1), (2, .int x2), (3, .int x3), (4, .int x4)] := hl
  have L180 : ∀ (K170 : Int32 → Int32 → Int32 → Int32 → Int32 → HI → HL → Prop) (hK170 : ∀ (x4 : Int32) (x5 : Int32) (x7 : Int32) (x8 : Int32) (x9 : Int32) (h : HI) (g : HL) (H : Heap) (locs : List Loc) (ls : Array Slot), K170 x4 x5 x7 x8 x9 h g → gG D cy ad (gA ad s.heap.size) s.heap h g H locs → lv_has ls 10 [(0, .ref (ad 135)), (4, .int x4), (5, .int x5), (7, .int x7), (8, .int x8), (9, .int x9)] → W p l e ({ frames := 3, cells := 0, slots := 0, locals := 77 } : Room) s m args below meth c H locs 0 0 (MQ below (va_Qi (fun (r : Int32) (u : HI × HL) => Q r u.1 u.2) (gB D cy ad s.heap.size) (gA ad s.heap.size)) args s 0 0 (gA ad s.heap.size)) (F0 m 170 ls [])) (n : Nat) (x4 : Int32) (x5 : Int32) (x7 : Int32) (x8 : Int32) (x9 : Int32) (h : HI) (g : HL) (H : Heap) (locs : List Loc) (ls : Array Slot), lpN (F_X11_way_180 Q K170) n (x4, x5, x7, x8, x9, h, g) → gG D cy ad (gA ad s.heap.size) s.heap h g H locs → lv_has ls 10 [(0, .ref (ad 135)), (4, .int x4), (5, .int x5), (7, .int x7), (8, .int x8), (9, .int x9)] → W p l e ({ frames := 3, cells := 0, slots := 0, locals := 77 } : Room) s m args below meth c H locs 0 0 (MQ below (va_Qi (fun (r : Int32) (u : HI × HL) => Q r u.1 u.2) (gB D cy ad s.heap.size) (gA ad s.heap.size)) args s 0 0 (gA ad s.heap.size)) (F0 m 180 ls []) := by
    intro K170 hK170 n
    induction n with
    | zero => intro x4 x5 x7 x8 x9 h g H locs ls HW; exact HW.elim
    | succ n ih =>
      intro x4 x5 x7 x8 x9 h g H locs ls HW hG hl
      have HW : b_X11_way_180 Q K170 (fun x4 x5 x7 x8 x9 h g => lpN (F_X11_way_180 Q K170) n (x4, x5, x7, x8, x9, h, g)) x4 x5 x7 x8 x9 h g := HW
      generalize hKe : (fun (x4 : Int32) (x5 : Int32) (x7 : Int32) (x8 : Int32) (x9 : Int32) (h : HI) (g : HL) => lpN (F_X11_way_180 Q K170) n (x4, x5, x7, x8, x9, h, g)) = K180 at HW
      have hK180 : ∀ (x4 : Int32) (x5 : Int32) (x7 : Int32) (x8 : Int32) (x9 : Int32) (h : HI) (g : HL) (H : Heap) (locs : List Loc) (ls : Array Slot), K180 x4 x5 x7 x8 x9 h g → gG D cy ad (gA ad s.heap.size) s.heap h g H locs → lv_has ls 10 [(0, .ref (ad 135)), (4, .int x4), (5, .int x5), (7, .int x7), (8, .int x8), (9, .int x9)] → W p l e ({ frames := 3, cells := 0, slots := 0, locals := 77 } : Room) s m args below meth c H locs 0 0 (MQ below (va_Qi (fun (r : Int32) (u : HI × HL) => Q r u.1 u.2) (gB D cy ad s.heap.size) (gA ad s.heap.size)) args s 0 0 (gA ad s.heap.size)) (F0 m 180 ls []) := by subst hKe; exact ih
      clear ih
      clear hKe
      unfold b_X11_way_180 at HW
      refine lv_aload_n hx hb dX11_way_180 rfl (lv_at hl 0 rfl) ?_
      refine lv_iload hx hb dX11_way_181 (lv_at hl 4 rfl) ?_
      refine lv_iload hx hb dX11_way_183 (lv_at hl 3 rfl) ?_
      refine lv_iload hx hb dX11_way_185 (lv_at hl 2 rfl) ?_
      refine lv_iload hx hb dX11_way_187 (lv_at hl 5 rfl) ?_
      refine lv_isub hx hb dX11_way_189 ?_
      refine lv_iconst (v := 1) hx hb dX11_way_190 (by decide) ?_
      refine lv_isub hx hb dX11_way_191 ?_
      obtain ⟨P_192, HC_192, HW⟩ := HW
      refine g_calli (g_runV (As := [.int x8, .int x7, .int ((x5 - x9) - (1 : Int32))]) (rest := []) ⟨hx, hb, hml, hown, hts⟩ (m_X11_by l D cy ad h g H.size x8 x7 ((x5 - x9) - (1 : Int32)) P_192 HC_192) (cwV 3 hts (gd_V (wm6 76 rfl rfl) (wm6 78 rfl rfl) (wmp5 (q := (yX11_by, 26)) 0 rfl) (wm1 13 rfl rfl) (wm6 79 rfl rfl)) rfl rfl rfl (by decide +kernel) ⟨Nat.le_of_ble_eq_true rfl, Nat.le_of_ble_eq_true rfl⟩) hK hNw hG gl_135 rfl gk_135 (by decide) rfl rfl hl.1 rfl (lv_room (Nat.le_of_ble_eq_true rfl)) dX11_way_192 ⟨Nat.zero_le _, Nat.zero_le _⟩) hG (fun r_192 h_192 g_192 H locs hq hG => ?_)
      replace HW := HW r_192 h_192 g_192 hq
      refine lv_aload_n hx hb dX11_way_195 rfl (lv_at hl 0 rfl) ?_
      refine g_getr hx hb hw inG11 hown hK hG gl_135 rfl gk_135 (by decide) 20 (by decide) (by rw [gm_135]; decide) (r := 143) gr_135_20 lk33 dX11_way_196 ?_
      refine lv_sipush (v := 3001) hx hb dX11_way_199 (by decide) ?_
      refine lv_iload hx hb dX11_way_202 (lv_at hl 2 rfl) ?_
      refine lv_iload hx hb dX11_way_204 (lv_at hl 5 rfl) ?_
      refine lv_isub hx hb dX11_way_206 ?_
      refine lv_imul hx hb dX11_way_207 ?_
      refine lv_iload hx hb dX11_way_208 (lv_at hl 3 rfl) ?_
      refine lv_iadd hx hb dX11_way_210 ?_
      refine g_iald hx hb hK hG gl_143 gk_143 gn_143 HW.1 dX11_way_211 ?_
      replace HW := HW.2
      refine lv_icmp_eq (tgt := 221) hx hb dX11_way_212 (by decide) (fun c_212 => ?_) (fun c_212 => ?_)
      · replace HW := HW.1 c_212
        refine lv_iload hx hb dX11_way_221 (lv_at hl 3 rfl) ?_
        refine lv_aload_n hx hb dX11_way_223 rfl (lv_at hl 0 rfl) ?_
        refine g_getr hx hb hw inG11 hown hK hG gl_135 rfl gk_135 (by decide) 0 (by decide) (by rw [gm_135]; decide) (r := 136) gr_135_0 lk7 dX11_way_224 ?_
        refine lv_sipush (v := 672) hx hb dX11_way_227 (by decide) ?_
        refine lv_iconst (v := 4) hx hb dX11_way_230 (by decide) ?_
        refine lv_iload hx hb dX11_way_231 (lv_at hl 4 rfl) ?_
        refine lv_imul hx hb dX11_way_233 ?_
        refine lv_iadd hx hb dX11_way_234 ?_
        refine g_iald hx hb hK hG gl_136 gk_136 gn_136 HW.1 dX11_way_235 ?_
        replace HW := HW.2
        refine lv_iadd hx hb dX11_way_236 ?_
        refine lv_topi (fun x7_237 ex7_237 => ?_)
        replace HW := HW x7_237 ex7_237
        refine lv_istore (lv' := [(7, .int x7_237), (0, .ref (ad 135)), (4, .int x4), (5, .int x5), (8, .int x8), (9, .int x9)]) hx hb dX11_way_237 hl (by decide) rfl (fun ls hl => ?_)
        obtain ⟨x9_239, ex9_239⟩ : ∃ y : Int32, y = (x9 + 1) := ⟨_, rfl⟩
        replace HW := HW x9_239 ex9_239
        refine lv_iinc (v := x9_239) (lv' := [(9, .int x9_239), (7, .int x7_237), (0, .ref (ad 135)), (4, .int x4), (5, .int x5), (8, .int x8)]) hx hb dX11_way_239 hl (k := 5) rfl (by rw [ex9_239]; rfl) (by decide) rfl (fun ls hl => ?_)
        refine lv_goto (tgt := 170) hx hb dX11_way_242 (by decide) ?_
        exact hK170 x4 x5 x7_237 x8 x9_239 h_192 g_192 _ _ _ HW hG (lv_sub hl [2, 3, 4, 1, 5, 0] rfl)
      · replace HW := HW.2 c_212
        obtain ⟨x8_215, ex8_215⟩ : ∃ y : Int32, y = (x8 + 1) := ⟨_, rfl⟩
        replace HW := HW x8_215 ex8_215
        refine lv_iinc (v := x8_215) (lv' := [(8, .int x8_215), (0, .ref (ad 135)), (4, .int x4), (5, .int x5), (7, .int x7), (9, .int x9)]) hx hb dX11_way_215 hl (k := 4) rfl (by rw [ex8_215]; rfl) (by decide) rfl (fun ls hl => ?_)
        refine lv_goto (tgt := 180) hx hb dX11_way_218 (by decide) ?_
        exact hK180 x4 x5 x7 x8_215 x9 h_192 g_192 _ _ _ HW hG (lv_sub hl [1, 2, 3, 4, 0, 5] rfl)
  have L170 : ∀ (n : Nat) (x4 : Int32) (x5 : Int32) (x7 : Int32) (x8 : Int32) (x9 : Int32) (h : HI) (g : HL) (H : Heap) (locs : List Loc) (ls : Array Slot), lpN (F_X11_way_170 Q) n (x4, x5, x7, x8, x9, h, g) → gG D cy ad (gA ad s.heap.size) s.heap h g H locs → lv_has ls 10 [(0, .ref (ad 135)), (4, .int x4), (5, .int x5), (7, .int x7), (8, .int x8), (9, .int x9)] → W p l e ({ frames := 3, cells := 0, slots := 0, locals := 77 } : Room) s m args below meth c H locs 0 0 (MQ below (va_Qi (fun (r : Int32) (u : HI × HL) => Q r u.1 u.2) (gB D cy ad s.heap.size) (gA ad s.heap.size)) args s 0 0 (gA ad s.heap.size)) (F0 m 170 ls []) := by
    intro n
    induction n with
    | zero => intro x4 x5 x7 x8 x9 h g H locs ls HW; exact HW.elim
    | succ n ih =>
      intro x4 x5 x7 x8 x9 h g H locs ls HW hG hl
      have HW : b_X11_way_170 Q (fun x4 x5 x7 x8 x9 h g => lpN (F_X11_way_170 Q) n (x4, x5, x7, x8, x9, h, g)) x4 x5 x7 x8 x9 h g := HW
      generalize hKe : (fun (x4 : Int32) (x5 : Int32) (x7 : Int32) (x8 : Int32) (x9 : Int32) (h : HI) (g : HL) => lpN (F_X11_way_170 Q) n (x4, x5, x7, x8, x9, h, g)) = K170 at HW
      have hK170 : ∀ (x4 : Int32) (x5 : Int32) (x7 : Int32) (x8 : Int32) (x9 : Int32) (h : HI) (g : HL) (H : Heap) (locs : List Loc) (ls : Array Slot), K170 x4 x5 x7 x8 x9 h g → gG D cy ad (gA ad s.heap.size) s.heap h g H locs → lv_has ls 10 [(0, .ref (ad 135)), (4, .int x4), (5, .int x5), (7, .int x7), (8, .int x8), (9, .int x9)] → W p l e ({ frames := 3, cells := 0, slots := 0, locals := 77 } : Room) s m args below meth c H locs 0 0 (MQ below (va_Qi (fun (r : Int32) (u : HI × HL) => Q r u.1 u.2) (gB D cy ad s.heap.size) (gA ad s.heap.size)) args s 0 0 (gA ad s.heap.size)) (F0 m 170 ls []) := by subst hKe; exact ih
      clear ih
      clear hKe
      unfold b_X11_way_170 at HW
      refine lv_iload hx hb dX11_way_170 (lv_at hl 5 rfl) ?_
      refine lv_iload hx hb dX11_way_172 (lv_at hl 1 rfl) ?_
      refine lv_icmp_gt (tgt := 245) hx hb dX11_way_174 (by decide) (fun c_174 => ?_) (fun c_174 => ?_)
      · replace HW := HW.1 c_174
        refine lv_iload hx hb dX11_way_245 (lv_at hl 4 rfl) ?_
        exact W.iret (v := x8) hx hb hr (fun t ht hW => ⟨⟨x8, (h, g), rfl, HW, g_B ht hG⟩, hG.2.2.F ht⟩) hG.2.2.2.2 dX11_way_247
      · replace HW := HW.2 c_174
        refine lv_iconst (v := 0) hx hb dX11_way_177 (by decide) ?_
        refine lv_istore (lv' := [(8, .int (0 : Int32)), (0, .ref (ad 135)), (4, .int x4), (5, .int x5), (7, .int x7), (9, .int x9)]) hx hb dX11_way_178 hl (by decide) rfl (fun ls hl => ?_)
        obtain ⟨n_180, HW⟩ := HW
        exact L180 K170 hK170 n_180 x4 x5 x7 (0 : Int32) x9 h g _ _ _ HW hG (lv_sub hl [1, 2, 3, 4, 0, 5] rfl)
  have B100 : ∀ (K58 : Int32 → Int32 → Int32 → Int32 → HI → HL → Prop) (hK58 : ∀ (x1 : Int32) (x4 : Int32) (x5 : Int32) (x6 : Int32) (h : HI) (g : HL) (H : Heap) (locs : List Loc) (ls : Array Slot), K58 x1 x4 x5 x6 h g → gG D cy ad (gA ad s.heap.size) s.heap h g H locs → lv_has ls 10 [(0, .ref (ad 135)), (1, .int x1), (4, .int x4), (5, .int x5), (6, .int x6)] → W p l e ({ frames := 3, cells := 0, slots := 0, locals := 77 } : Room) s m args below meth c H locs 0 0 (MQ below (va_Qi (fun (r : Int32) (u : HI × HL) => Q r u.1 u.2) (gB D cy ad s.heap.size) (gA ad s.heap.size)) args s 0 0 (gA ad s.heap.size)) (F0 m 58 ls [])) (x1 : Int32) (x4 : Int32) (x6 : Int32) (s0 : Int32) (h : HI) (g : HL) (H : Heap) (locs : List Loc) (ls : Array Slot), j_X11_way_100 Q K58 x1 x4 x6 s0 h g → gG D cy ad (gA ad s.heap.size) s.heap h g H locs → lv_has ls 10 [(0, .ref (ad 135)), (1, .int x1), (4, .int x4), (6, .int x6)] → W p l e ({ frames := 3, cells := 0, slots := 0, locals := 77 } : Room) s m args below meth c H locs 0 0 (MQ below (va_Qi (fun (r : Int32) (u : HI × HL) => Q r u.1 u.2) (gB D cy ad s.heap.size) (gA ad s.heap.size)) args s 0 0 (gA ad s.heap.size)) (F0 m 100 ls [.int s0]) := by
    intro K58 hK58 x1 x4 x6 s0 h g H locs ls HW hG hl
    unfold j_X11_way_100 at HW
    refine lv_istore (lv' := [(5, .int s0), (0, .ref (ad 135)), (1, .int x1), (4, .int x4), (6, .int x6)]) hx hb dX11_way_100 hl (by decide) rfl (fun ls hl => ?_)
    obtain ⟨x6_102, ex6_102⟩ : ∃ y : Int32, y = (x6 + 1) := ⟨_, rfl⟩
    replace HW := HW x6_102 ex6_102
    refine lv_iinc (v := x6_102) (lv' := [(6, .int x6_102), (5, .int s0), (0, .ref (ad 135)), (1, .int x1), (4, .int x4)]) hx hb dX11_way_102 hl (k := 4) rfl (by rw [ex6_102]; rfl) (by decide) rfl (fun ls hl => ?_)
    refine lv_goto (tgt := 58) hx hb dX11_way_105 (by decide) ?_
    exact hK58 x1 x4 s0 x6_102 h g _ _ _ HW hG (lv_sub hl [2, 3, 4, 1, 0] rfl)
  have L58 : ∀ (n : Nat) (x1 : Int32) (x4 : Int32) (x5 : Int32) (x6 : Int32) (h : HI) (g : HL) (H : Heap) (locs : List Loc) (ls : Array Slot), lpN (F_X11_way_58 Q) n (x1, x4, x5, x6, h, g) → gG D cy ad (gA ad s.heap.size) s.heap h g H locs → lv_has ls 10 [(0, .ref (ad 135)), (1, .int x1), (4, .int x4), (5, .int x5), (6, .int x6)] → W p l e ({ frames := 3, cells := 0, slots := 0, locals := 77 } : Room) s m args below meth c H locs 0 0 (MQ below (va_Qi (fun (r : Int32) (u : HI × HL) => Q r u.1 u.2) (gB D cy ad s.heap.size) (gA ad s.heap.size)) args s 0 0 (gA ad s.heap.size)) (F0 m 58 ls []) := by
    intro n
    induction n with
    | zero => intro x1 x4 x5 x6 h g H locs ls HW; exact HW.elim
    | succ n ih =>
      intro x1 x4 x5 x6 h g H locs ls HW hG hl
      have HW : b_X11_way_58 Q (fun x1 x4 x5 x6 h g => lpN (F_X11_way_58 Q) n (x1, x4, x5, x6, h, g)) x1 x4 x5 x6 h g := HW
      generalize hKe : (fun (x1 : Int32) (x4 : Int32) (x5 : Int32) (x6 : Int32) (h : HI) (g : HL) => lpN (F_X11_way_58 Q) n (x1, x4, x5, x6, h, g)) = K58 at HW
      have hK58 : ∀ (x1 : Int32) (x4 : Int32) (x5 : Int32) (x6 : Int32) (h : HI) (g : HL) (H : Heap) (locs : List Loc) (ls : Array Slot), K58 x1 x4 x5 x6 h g → gG D cy ad (gA ad s.heap.size) s.heap h g H locs → lv_has ls 10 [(0, .ref (ad 135)), (1, .int x1), (4, .int x4), (5, .int x5), (6, .int x6)] → W p l e ({ frames := 3, cells := 0, slots := 0, locals := 77 } : Room) s m args below meth c H locs 0 0 (MQ below (va_Qi (fun (r : Int32) (u : HI × HL) => Q r u.1 u.2) (gB D cy ad s.heap.size) (gA ad s.heap.size)) args s 0 0 (gA ad s.heap.size)) (F0 m 58 ls []) := by subst hKe; exact ih
      clear ih
      clear hKe
      unfold b_X11_way_58 at HW
      refine lv_iload hx hb dX11_way_58 (lv_at hl 4 rfl) ?_
      refine lv_iconst (v := 5) hx hb dX11_way_60 (by decide) ?_
      refine lv_icmp_gt (tgt := 108) hx hb dX11_way_61 (by decide) (fun c_61 => ?_) (fun c_61 => ?_)
      · replace HW := HW.1 c_61
        refine lv_aload_n hx hb dX11_way_108 rfl (lv_at hl 0 rfl) ?_
        refine g_getr hx hb hw inG11 hown hK hG gl_135 rfl gk_135 (by decide) 20 (by decide) (by rw [gm_135]; decide) (r := 143) gr_135_20 lk33 dX11_way_109 ?_
        refine lv_sipush (v := 3001) hx hb dX11_way_112 (by decide) ?_
        refine lv_iload hx hb dX11_way_115 (lv_at hl 3 rfl) ?_
        refine lv_imul hx hb dX11_way_117 ?_
        refine lv_iload_n hx hb dX11_way_118 rfl (lv_at hl 1 rfl) ?_
        refine lv_iadd hx hb dX11_way_119 ?_
        refine g_iald hx hb hK hG gl_143 gk_143 gn_143 HW.1 dX11_way_120 ?_
        replace HW := HW.2
        refine lv_topi (fun x6_121 ex6_121 => ?_)
        replace HW := HW x6_121 ex6_121
        refine lv_istore (lv' := [(6, .int x6_121), (0, .ref (ad 135)), (1, .int x1), (4, .int x4), (5, .int x5)]) hx hb dX11_way_121 hl (by decide) rfl (fun ls hl => ?_)
        refine lv_iload hx hb dX11_way_123 (lv_at hl 0 rfl) ?_
        refine lv_ldc (v := 1000000) hx hb hown cn234 dX11_way_125 ?_
        refine lv_icmp_lt (tgt := 133) hx hb dX11_way_127 (by decide) (fun c_127 => ?_) (fun c_127 => ?_)
        · replace HW := HW.1 c_127
          refine lv_iload hx hb dX11_way_133 (lv_at hl 3 rfl) ?_
          refine lv_if_ge (tgt := 152) hx hb dX11_way_135 (by decide) (fun c_135 => ?_) (fun c_135 => ?_)
          · replace HW := HW.1 c_135
            refine lv_iload hx hb dX11_way_152 (lv_at hl 3 rfl) ?_
            refine lv_iload hx hb dX11_way_154 (lv_at hl 4 rfl) ?_
            refine lv_icmp_lt (tgt := 161) hx hb dX11_way_156 (by decide) (fun c_156 => ?_) (fun c_156 => ?_)
            · replace HW := HW.1 c_156
              refine lv_iload_n hx hb dX11_way_161 rfl (lv_at hl 2 rfl) ?_
              refine lv_istore (lv' := [(7, .int x1), (6, .int x6_121), (0, .ref (ad 135)), (1, .int x1), (4, .int x4), (5, .int x5)]) hx hb dX11_way_162 hl (by decide) rfl (fun ls hl => ?_)
              refine lv_iconst (v := 0) hx hb dX11_way_164 (by decide) ?_
              refine lv_istore (lv' := [(8, .int (0 : Int32)), (7, .int x1), (6, .int x6_121), (0, .ref (ad 135)), (1, .int x1), (4, .int x4), (5, .int x5)]) hx hb dX11_way_165 hl (by decide) rfl (fun ls hl => ?_)
              refine lv_iconst (v := 0) hx hb dX11_way_167 (by decide) ?_
              refine lv_istore (lv' := [(9, .int (0 : Int32)), (8, .int (0 : Int32)), (7, .int x1), (6, .int x6_121), (0, .ref (ad 135)), (1, .int x1), (4, .int x4), (5, .int x5)]) hx hb dX11_way_168 hl (by decide) rfl (fun ls hl => ?_)
              obtain ⟨n_170, HW⟩ := HW
              exact L170 n_170 x4 x5 x1 (0 : Int32) (0 : Int32) h g _ _ _ HW hG (lv_sub hl [4, 6, 7, 2, 1, 0] rfl)
            · replace HW := HW.2 c_156
              refine lv_iconst (v := (-1)) hx hb dX11_way_159 (by decide) ?_
              exact W.iret (v := (-1 : Int32)) hx hb hr (fun t ht hW => ⟨⟨(-1 : Int32), (h, g), rfl, HW, g_B ht hG⟩, hG.2.2.F ht⟩) hG.2.2.2.2 dX11_way_160
          · replace HW := HW.2 c_135
            refine lv_iload hx hb dX11_way_138 (lv_at hl 3 rfl) ?_
            refine lv_iconst (v := (-1)) hx hb dX11_way_140 (by decide) ?_
            refine lv_icmp_ne (tgt := 149) hx hb dX11_way_141 (by decide) (fun c_141 => ?_) (fun c_141 => ?_)
            · replace HW := HW.1 c_141
              refine lv_iload hx hb dX11_way_149 (lv_at hl 4 rfl) ?_
              exact W.iret (v := x5) hx hb hr (fun t ht hW => ⟨⟨x5, (h, g), rfl, HW, g_B ht hG⟩, hG.2.2.F ht⟩) hG.2.2.2.2 dX11_way_151
            · replace HW := HW.2 c_141
              refine lv_iload hx hb dX11_way_144 (lv_at hl 0 rfl) ?_
              refine lv_goto (tgt := 151) hx hb dX11_way_146 (by decide) ?_
              exact W.iret (v := x6_121) hx hb hr (fun t ht hW => ⟨⟨x6_121, (h, g), rfl, HW, g_B ht hG⟩, hG.2.2.F ht⟩) hG.2.2.2.2 dX11_way_151
        · replace HW := HW.2 c_127
          refine lv_bipush (v := (-5)) hx hb dX11_way_130 (by decide) ?_
          exact W.iret (v := (-5 : Int32)) hx hb hr (fun t ht hW => ⟨⟨(-5 : Int32), (h, g), rfl, HW, g_B ht hG⟩, hG.2.2.F ht⟩) hG.2.2.2.2 dX11_way_132
      · replace HW := HW.2 c_61
        refine lv_aload_n hx hb dX11_way_64 rfl (lv_at hl 0 rfl) ?_
        refine g_getr hx hb hw inG11 hown hK hG gl_135 rfl gk_135 (by decide) 20 (by decide) (by rw [gm_135]; decide) (r := 143) gr_135_20 lk33 dX11_way_65 ?_
        refine lv_sipush (v := 3001) hx hb dX11_way_68 (by decide) ?_
        refine lv_iload hx hb dX11_way_71 (lv_at hl 4 rfl) ?_
        refine lv_imul hx hb dX11_way_73 ?_
        refine lv_iload_n hx hb dX11_way_74 rfl (lv_at hl 1 rfl) ?_
        refine lv_iadd hx hb dX11_way_75 ?_
        refine g_iald hx hb hK hG gl_143 gk_143 gn_143 HW.1 dX11_way_76 ?_
        replace HW := HW.2
        refine lv_aload_n hx hb dX11_way_77 rfl (lv_at hl 0 rfl) ?_
        refine g_getr hx hb hw inG11 hown hK hG gl_135 rfl gk_135 (by decide) 20 (by decide) (by rw [gm_135]; decide) (r := 143) gr_135_20 lk33 dX11_way_78 ?_
        refine lv_sipush (v := 3001) hx hb dX11_way_81 (by decide) ?_
        refine lv_iload hx hb dX11_way_84 (lv_at hl 3 rfl) ?_
        refine lv_imul hx hb dX11_way_86 ?_
        refine lv_iload_n hx hb dX11_way_87 rfl (lv_at hl 1 rfl) ?_
        refine lv_iadd hx hb dX11_way_88 ?_
        refine g_iald hx hb hK hG gl_143 gk_143 gn_143 HW.1 dX11_way_89 ?_
        replace HW := HW.2
        refine lv_icmp_ge (tgt := 98) hx hb dX11_way_90 (by decide) (fun c_90 => ?_) (fun c_90 => ?_)
        · replace HW := HW.1 c_90
          refine lv_iload hx hb dX11_way_98 (lv_at hl 3 rfl) ?_
          exact B100 K58 hK58 x1 x4 x6 x5 h g _ _ _ HW hG (lv_sub hl [0, 1, 2, 4] rfl)
        · replace HW := HW.2 c_90
          refine lv_iload hx hb dX11_way_93 (lv_at hl 4 rfl) ?_
          refine lv_goto (tgt := 100) hx hb dX11_way_95 (by decide) ?_
          exact B100 K58 hK58 x1 x4 x6 x6 h g _ _ _ HW hG (lv_sub hl [0, 1, 2, 4] rfl)
  have E0 : ∀ (H : Heap) (locs : List Loc) (ls : Array Slot), gG D cy ad (gA ad s.heap.size) s.heap h g H locs → lv_has ls 10 [(0, .ref (ad 135)), (1, .int x1), (2, .int x2), (3, .int x3), (4, .int x4)] → W p l e ({ frames := 3, cells := 0, slots := 0, locals := 77 } : Room) s m args below meth c H locs 0 0 (MQ below (va_Qi (fun (r : Int32) (u : HI × HL) => Q r u.1 u.2) (gB D cy ad s.heap.size) (gA ad s.heap.size)) args s 0 0 (gA ad s.heap.size)) (F0 m 0 ls []) := by
    intro H locs ls hG hl
    unfold w_X11_way at HW
    refine lv_iload_n hx hb dX11_way_0 rfl (lv_at hl 1 rfl) ?_
    refine lv_i2l hx hb dX11_way_1 rfl ?_
    refine lv_lconst (v := 1) hx hb dX11_way_2 (by decide) ?_
    refine lv_ldc2 (v := 3000) hx hb hown cn232 dX11_way_3 ?_
    obtain ⟨P_6, HC_6, HW⟩ := HW
    refine g_callz (g_runS (As := [.long ((x1).toInt64), .long (1 : Int64), .long (3000 : Int64)]) (rest := []) ⟨hx, hb, hml, hown, hts⟩ (m_X11_in l D cy ad h g H.size ((x1).toInt64) (1 : Int64) (3000 : Int64) P_6 HC_6) (va_cwS 3 hts (gd_S (wm5 111 rfl rfl) (wm5 112 rfl rfl) (wm1 13 rfl rfl) (wm5 113 rfl rfl)) rfl rfl rfl (by decide +kernel) ⟨Nat.le_of_ble_eq_true rfl, Nat.le_of_ble_eq_true rfl⟩) hK hNw hG rfl rfl hl.1 rfl (lv_room (Nat.le_of_ble_eq_true rfl)) dX11_way_6 ⟨Nat.zero_le _, Nat.zero_le _⟩) hG (fun r_6 h_6 g_6 H locs hz hq hG => ?_)
    replace HW := HW r_6 h_6 g_6 hz hq
    refine lv_if_eq (tgt := 43) hx hb dX11_way_9 (by decide) (fun c_9 => ?_) (fun c_9 => ?_)
    · replace HW := HW.1 c_9
      refine lv_bipush (v := (-10)) hx hb dX11_way_43 (by decide) ?_
      exact W.iret (v := (-10 : Int32)) hx hb hr (fun t ht hW => ⟨⟨(-10 : Int32), (h_6, g_6), rfl, HW, g_B ht hG⟩, hG.2.2.F ht⟩) hG.2.2.2.2 dX11_way_45
    · replace HW := HW.2 c_9
      refine lv_iload_n hx hb dX11_way_12 rfl (lv_at hl 2 rfl) ?_
      refine lv_i2l hx hb dX11_way_13 rfl ?_
      refine lv_lconst (v := 1) hx hb dX11_way_14 (by decide) ?_
      refine lv_iload_n hx hb dX11_way_15 rfl (lv_at hl 3 rfl) ?_
      refine lv_i2l hx hb dX11_way_16 rfl ?_
      obtain ⟨P_17, HC_17, HW⟩ := HW
      refine g_callz (g_runS (As := [.long ((x2).toInt64), .long (1 : Int64), .long ((x3).toInt64)]) (rest := []) ⟨hx, hb, hml, hown, hts⟩ (m_X11_in l D cy ad h_6 g_6 H.size ((x2).toInt64) (1 : Int64) ((x3).toInt64) P_17 HC_17) (va_cwS 3 hts (gd_S (wm5 111 rfl rfl) (wm5 112 rfl rfl) (wm1 13 rfl rfl) (wm5 113 rfl rfl)) rfl rfl rfl (by decide +kernel) ⟨Nat.le_of_ble_eq_true rfl, Nat.le_of_ble_eq_true rfl⟩) hK hNw hG rfl rfl hl.1 rfl (lv_room (Nat.le_of_ble_eq_true rfl)) dX11_way_17 ⟨Nat.zero_le _, Nat.zero_le _⟩) hG (fun r_17 h_17 g_17 H locs hz hq hG => ?_)
      replace HW := HW r_17 h_17 g_17 hz hq
      refine lv_if_eq (tgt := 43) hx hb dX11_way_20 (by decide) (fun c_20 => ?_) (fun c_20 => ?_)
      · replace HW := HW.1 c_20
        refine lv_bipush (v := (-10)) hx hb dX11_way_43 (by decide) ?_
        exact W.iret (v := (-10 : Int32)) hx hb hr (fun t ht hW => ⟨⟨(-10 : Int32), (h_17, g_17), rfl, HW, g_B ht hG⟩, hG.2.2.F ht⟩) hG.2.2.2.2 dX11_way_45
      · replace HW := HW.2 c_20
        refine lv_iload_n hx hb dX11_way_23 rfl (lv_at hl 3 rfl) ?_
        refine lv_i2l hx hb dX11_way_24 rfl ?_
        refine lv_iload_n hx hb dX11_way_25 rfl (lv_at hl 2 rfl) ?_
        refine lv_i2l hx hb dX11_way_26 rfl ?_
        refine lv_ldc2 (v := 3000) hx hb hown cn232 dX11_way_27 ?_
        obtain ⟨P_30, HC_30, HW⟩ := HW
        refine g_callz (g_runS (As := [.long ((x3).toInt64), .long ((x2).toInt64), .long (3000 : Int64)]) (rest := []) ⟨hx, hb, hml, hown, hts⟩ (m_X11_in l D cy ad h_17 g_17 H.size ((x3).toInt64) ((x2).toInt64) (3000 : Int64) P_30 HC_30) (va_cwS 3 hts (gd_S (wm5 111 rfl rfl) (wm5 112 rfl rfl) (wm1 13 rfl rfl) (wm5 113 rfl rfl)) rfl rfl rfl (by decide +kernel) ⟨Nat.le_of_ble_eq_true rfl, Nat.le_of_ble_eq_true rfl⟩) hK hNw hG rfl rfl hl.1 rfl (lv_room (Nat.le_of_ble_eq_true rfl)) dX11_way_30 ⟨Nat.zero_le _, Nat.zero_le _⟩) hG (fun r_30 h_30 g_30 H locs hz hq hG => ?_)
        replace HW := HW r_30 h_30 g_30 hz hq
        refine lv_if_eq (tgt := 43) hx hb dX11_way_33 (by decide) (fun c_33 => ?_) (fun c_33 => ?_)
        · replace HW := HW.1 c_33
          refine lv_bipush (v := (-10)) hx hb dX11_way_43 (by decide) ?_
          exact W.iret (v := (-10 : Int32)) hx hb hr (fun t ht hW => ⟨⟨(-10 : Int32), (h_30, g_30), rfl, HW, g_B ht hG⟩, hG.2.2.F ht⟩) hG.2.2.2.2 dX11_way_45
        · replace HW := HW.2 c_33
          refine lv_iload hx hb dX11_way_36 (lv_at hl 4 rfl) ?_
          refine lv_bipush (v := (-2)) hx hb dX11_way_38 (by decide) ?_
          refine lv_icmp_ge (tgt := 46) hx hb dX11_way_40 (by decide) (fun c_40 => ?_) (fun c_40 => ?_)
          · replace HW := HW.1 c_40
            refine lv_aload_n hx hb dX11_way_46 rfl (lv_at hl 0 rfl) ?_
            refine lv_iload_n hx hb dX11_way_47 rfl (lv_at hl 2 rfl) ?_
            refine lv_iload_n hx hb dX11_way_48 rfl (lv_at hl 3 rfl) ?_
            obtain ⟨P_49, HC_49, HW⟩ := HW
            refine g_callv (g_runV (As := [.int x2, .int x3]) (rest := []) ⟨hx, hb, hml, hown, hts⟩ (m_X11_findPrices l D cy ad h_30 g_30 H.size x2 x3 P_49 HC_49) (cwV 2 hts (gd_V (wm6 71 rfl rfl) (wm6 73 rfl rfl) (wmp4 (q := (yX11_findPrices, 26)) 15 rfl) (wm1 13 rfl rfl) (wm6 74 rfl rfl)) rfl rfl rfl (by decide +kernel) ⟨Nat.le_of_ble_eq_true rfl, Nat.le_of_ble_eq_true rfl⟩) hK hNw hG gl_135 rfl gk_135 (by decide) rfl rfl hl.1 rfl (lv_room (Nat.le_of_ble_eq_true rfl)) dX11_way_49 ⟨Nat.zero_le _, Nat.zero_le _⟩) hG (fun h_49 g_49 H locs hq hG => ?_)
            replace HW := HW h_49 g_49 hq
            refine lv_iconst (v := 0) hx hb dX11_way_52 (by decide) ?_
            refine lv_istore (lv' := [(5, .int (0 : Int32)), (0, .ref (ad 135)), (1, .int x1), (2, .int x2), (3, .int x3), (4, .int x4)]) hx hb dX11_way_53 hl (by decide) rfl (fun ls hl => ?_)
            refine lv_iconst (v := 1) hx hb dX11_way_55 (by decide) ?_
            refine lv_istore (lv' := [(6, .int (1 : Int32)), (5, .int (0 : Int32)), (0, .ref (ad 135)), (1, .int x1), (2, .int x2), (3, .int x3), (4, .int x4)]) hx hb dX11_way_56 hl (by decide) rfl (fun ls hl => ?_)
            obtain ⟨n_58, HW⟩ := HW
            exact L58 n_58 x1 x4 (0 : Int32) (1 : Int32) h_49 g_49 _ _ _ HW hG (lv_sub hl [2, 3, 6, 1, 0] rfl)
          · replace HW := HW.2 c_40
            refine lv_bipush (v := (-10)) hx hb dX11_way_43 (by decide) ?_
            exact W.iret (v := (-10 : Int32)) hx hb hr (fun t ht hW => ⟨⟨(-10 : Int32), (h_30, g_30), rfl, HW, g_B ht hG⟩, hG.2.2.F ht⟩) hG.2.2.2.2 dX11_way_45
  exact E0 _ _ _ hG hl
