def b_X1_halved_23 (Q : Int32 → HI → HL → Prop) (K23 : Int32 → HI → HL → Prop) (x2 : Int32) (h : HI) (g : HL) : Prop :=
  (((200 : Int32) < x2 → Q (-1 : Int32) h g) ∧ (¬ (200 : Int32) < x2 → (∃ P_38 : HI → HL → Prop, w_X0_times 114 (h 109 5) h g P_38 ∧ ∀ (h_38 : HI) (g_38 : HL), P_38 h_38 g_38 → (∃ P_49 : HI → HL → Prop, w_X0_times 116 (h_38 109 6) h_38 g_38 P_49 ∧ ∀ (h_49 : HI) (g_49 : HL), P_49 h_49 g_49 → (∃ P_60 : Int32 → HI → HL → Prop, w_X0_above 114 116 h_49 g_49 P_60 ∧ ∀ (r_60 : Int32) (h_60 : HI) (g_60 : HL), zb r_60 → P_60 r_60 h_60 g_60 → ((¬ r_60 = 0 → (∀ x2_68 : Int32, x2_68 = (x2 + 1) → K23 x2_68 h_60 g_60)) ∧ (r_60 = 0 → Q x2 h_60 g_60)))))))
def F_X1_halved_23 (Q : Int32 → HI → HL → Prop) (K : Int32 × HI × HL → Prop) (q : Int32 × HI × HL) : Prop := b_X1_halved_23 Q (fun x2 h g => K (x2, h, g)) q.1 q.2.1 q.2.2
def w_X1_halved (x1 : Int32) (h : HI) (g : HL) (Q : Int32 → HI → HL → Prop) : Prop :=
  (∃ P_2 : HI → HL → Prop, w_X1_chooseYear x1 h g P_2 ∧ ∀ (h_2 : HI) (g_2 : HL), P_2 h_2 g_2 → (∃ P_10 : HI → HL → Prop, w_X0_set 114 (2 : Int32) h_2 g_2 P_10 ∧ ∀ (h_10 : HI) (g_10 : HL), P_10 h_10 g_10 → (∃ P_18 : HI → HL → Prop, w_X0_set 116 (1 : Int32) h_10 g_10 P_18 ∧ ∀ (h_18 : HI) (g_18 : HL), P_18 h_18 g_18 → lpE (F_X1_halved_23 Q) ((1 : Int32), h_18, g_18))))
set_option maxHeartbeats 8000000 in
set_option maxRecDepth 100000 in
theorem m_X1_halved (l : Launch) (D : va_G) (cy : Nat → ClassId) (ad : Nat → Nat) (h : HI) (g : HL) (sz : Nat) (x1 : Int32) (Q : Int32 → HI → HL → Prop) (HW : w_X1_halved x1 h g Q) : Met l yX1_halved (wa yX1_halved cX1_halved 3 (some .int)) ({ frames := 2, cells := 0, slots := 0, locals := 56 }) (va_Pc [.ref (ad 109), .int x1] (gI D cy ad h g sz)) (va_Qi (fun (r : Int32) (u : HI × HL) => Q r u.1 u.2) (gB D cy ad sz) (gA ad sz)) 0 0 (gA ad sz) := by
  refine Met.ofW (cc := cX1_halved) (maxL := 3) (ret := (some .int)) (by decide) rfl ?_
  intro p e s m args below meth c s₁ B hml hv
  obtain ⟨hav, hsz, hP, hK, hD0, hNw⟩ := hv
  have hx := B.exec
  have hb := B.bytes
  have hr := B.returns
  have hts := atoms_spec (ws := (wa yX1_halved cX1_halved 3 (some .int))) B.pre
  have hw := wa_hw hts
  have hown : s.vm.findClass RX1 = some m.cls := findClass_of_methodNamed B.named
  have hlocks := B.notSynchronized
  subst hsz
  have hG : gG D cy ad (gA ad s.heap.size) s.heap h g s.heap [] := ⟨hP, gA_self hD0, va_S.rf⟩
  clear hP hD0
  have lk21 := hw (.fieldLink RX1 21 "OldWorks$Breaks" "left" "LOldWorks$Big;") (wm2 95 rfl rfl)
  have lk24 := hw (.fieldLink RX1 24 "OldWorks$Breaks" "right" "LOldWorks$Big;") (wm2 96 rfl rfl)
  have lk38 := hw (.fieldLink RX1 38 "OldWorks$Breaks" "keeps" "I") (wm2 97 rfl rfl)
  have lk45 := hw (.fieldLink RX1 45 "OldWorks$Breaks" "outOf" "I") (wm2 98 rfl rfl)
  rw [show (headSpec (wa yX1_halved cX1_halved 3 (some .int)) ({ frames := 2, cells := 0, slots := 0, locals := 56 } : Room)).room = ({ frames := 2, cells := 0, slots := 0, locals := 56 } : Room) from rfl]
  have hl := lv_entry ([.ref (ad 109), .int x1]) (n := 3) (Nat.le_of_ble_eq_true rfl)
  rw [show entryFrame m args 3 = entryFrame m ([.ref (ad 109), .int x1] : List Value).toArray 3 from by rw [hav], lg_entry_eq]
  generalize (lg_sl ([.ref (ad 109), .int x1]) ++ List.replicate (3 - (lg_sl ([.ref (ad 109), .int x1])).length) Slot.unset).toArray = ls at hl ⊢
  have hl : lv_has ls 3 [(0, .ref (ad 109)), (1, .int x1)] := hl
  have L23 : ∀ (n : Nat) (x2 : Int32) (h : HI) (g : HL) (H : Heap) (locs : List Loc) (ls : Array Slot), lpN (F_X1_halved_23 Q) n (x2, h, g) → gG D cy ad (gA ad s.heap.size) s.heap h g H locs → lv_has ls 3 [(0, .ref (ad 109)), (2, .int x2)] → W p l e ({ frames := 2, cells := 0, slots := 0, locals := 56 } : Room) s m args below meth c H locs 0 0 (MQ below (va_Qi (fun (r : Int32) (u : HI × HL) => Q r u.1 u.2) (gB D cy ad s.heap.size) (gA ad s.heap.size)) args s 0 0 (gA ad s.heap.size)) (F0 m 23 ls []) := by
    intro n
    induction n with
    | zero => intro x2 h g H locs ls HW; exact HW.elim
    | succ n ih =>
      intro x2 h g H locs ls HW hG hl
      have HW : b_X1_halved_23 Q (fun x2 h g => lpN (F_X1_halved_23 Q) n (x2, h, g)) x2 h g := HW
      generalize hKe : (fun (x2 : Int32) (h : HI) (g : HL) => lpN (F_X1_halved_23 Q) n (x2, h, g)) = K23 at HW
      have hK23 : ∀ (x2 : Int32) (h : HI) (g : HL) (H : Heap) (locs : List Loc) (ls : Array Slot), K23 x2 h g → gG D cy ad (gA ad s.heap.size) s.heap h g H locs → lv_has ls 3 [(0, .ref (ad 109)), (2, .int x2)] → W p l e ({ frames := 2, cells := 0, slots := 0, locals := 56 } : Room) s m args below meth c H locs 0 0 (MQ below (va_Qi (fun (r : Int32) (u : HI × HL) => Q r u.1 u.2) (gB D cy ad s.heap.size) (gA ad s.heap.size)) args s 0 0 (gA ad s.heap.size)) (F0 m 23 ls []) := by subst hKe; exact ih
      clear ih
      clear hKe
      unfold b_X1_halved_23 at HW
      refine lv_iload_n hx hb dX1_halved_23 rfl (lv_at hl 1 rfl) ?_
      refine lv_sipush (v := 200) hx hb dX1_halved_24 (by decide) ?_
      refine lv_icmp_gt (tgt := 74) hx hb dX1_halved_27 (by decide) (fun c_27 => ?_) (fun c_27 => ?_)
      · replace HW := HW.1 c_27
        refine lv_iconst (v := (-1)) hx hb dX1_halved_74 (by decide) ?_
        exact W.iret (v := (-1 : Int32)) hx hb hr (fun t ht hW => ⟨⟨(-1 : Int32), (h, g), rfl, HW, g_B ht hG⟩, hG.2.2.F ht⟩) hG.2.2.2.2 dX1_halved_75
      · replace HW := HW.2 c_27
        refine lv_aload_n hx hb dX1_halved_30 rfl (lv_at hl 0 rfl) ?_
        refine g_getr hx hb hw inG1 hown hK hG gl_109 rfl gk_109 (by decide) 3 (by decide) (by rw [gm_109]; decide) (r := 114) gr_109_3 lk21 dX1_halved_31 ?_
        refine lv_aload_n hx hb dX1_halved_34 rfl (lv_at hl 0 rfl) ?_
        refine g_geti hx hb hw inG1 hown hK hG gl_109 rfl gk_109 (by decide) 5 (by decide) (by rw [gm_109]; decide) gr_109_5 lk38 dX1_halved_35 ?_
        obtain ⟨P_38, HC_38, HW⟩ := HW
        refine g_callv (g_runV (As := [.int (h 109 5)]) (rest := []) ⟨hx, hb, hml, hown, hts⟩ (m_X0_times l D cy ad h g H.size 114 (gs_114) (h 109 5) P_38 HC_38) (cwV 1 hts (gd_V (wm4 62 rfl rfl) (wm4 63 rfl rfl) (wm4 64 rfl rfl) (wm1 11 rfl rfl) (wm4 65 rfl rfl)) rfl rfl rfl (by decide +kernel) ⟨Nat.le_of_ble_eq_true rfl, Nat.le_of_ble_eq_true rfl⟩) hK hNw hG gl_114 rfl gk_114 (by decide) rfl rfl hl.1 rfl (lv_room (Nat.le_of_ble_eq_true rfl)) dX1_halved_38 ⟨Nat.zero_le _, Nat.zero_le _⟩) hG (fun h_38 g_38 H locs hq hG => ?_)
        replace HW := HW h_38 g_38 hq
        refine lv_aload_n hx hb dX1_halved_41 rfl (lv_at hl 0 rfl) ?_
        refine g_getr hx hb hw inG1 hown hK hG gl_109 rfl gk_109 (by decide) 4 (by decide) (by rw [gm_109]; decide) (r := 116) gr_109_4 lk24 dX1_halved_42 ?_
        refine lv_aload_n hx hb dX1_halved_45 rfl (lv_at hl 0 rfl) ?_
        refine g_geti hx hb hw inG1 hown hK hG gl_109 rfl gk_109 (by decide) 6 (by decide) (by rw [gm_109]; decide) gr_109_6 lk45 dX1_halved_46 ?_
        obtain ⟨P_49, HC_49, HW⟩ := HW
        refine g_callv (g_runV (As := [.int (h_38 109 6)]) (rest := []) ⟨hx, hb, hml, hown, hts⟩ (m_X0_times l D cy ad h_38 g_38 H.size 116 (gs_116) (h_38 109 6) P_49 HC_49) (cwV 1 hts (gd_V (wm4 62 rfl rfl) (wm4 63 rfl rfl) (wm4 64 rfl rfl) (wm1 11 rfl rfl) (wm4 65 rfl rfl)) rfl rfl rfl (by decide +kernel) ⟨Nat.le_of_ble_eq_true rfl, Nat.le_of_ble_eq_true rfl⟩) hK hNw hG gl_116 rfl gk_116 (by decide) rfl rfl hl.1 rfl (lv_room (Nat.le_of_ble_eq_true rfl)) dX1_halved_49 ⟨Nat.zero_le _, Nat.zero_le _⟩) hG (fun h_49 g_49 H locs hq hG => ?_)
        replace HW := HW h_49 g_49 hq
        refine lv_aload_n hx hb dX1_halved_52 rfl (lv_at hl 0 rfl) ?_
        refine g_getr hx hb hw inG1 hown hK hG gl_109 rfl gk_109 (by decide) 3 (by decide) (by rw [gm_109]; decide) (r := 114) gr_109_3 lk21 dX1_halved_53 ?_
        refine lv_aload_n hx hb dX1_halved_56 rfl (lv_at hl 0 rfl) ?_
        refine g_getr hx hb hw inG1 hown hK hG gl_109 rfl gk_109 (by decide) 4 (by decide) (by rw [gm_109]; decide) (r := 116) gr_109_4 lk24 dX1_halved_57 ?_
        obtain ⟨P_60, HC_60, HW⟩ := HW
        refine g_callz (g_runV (As := [.ref (ad 116)]) (rest := []) ⟨hx, hb, hml, hown, hts⟩ (m_X0_above l D cy ad h_49 g_49 H.size 114 (gs_114) 116 (gs_116) P_60 HC_60) (cwV 1 hts (gd_V (wm4 76 rfl rfl) (wm4 77 rfl rfl) (wm4 78 rfl rfl) (wm1 11 rfl rfl) (wm4 79 rfl rfl)) rfl rfl rfl (by decide +kernel) ⟨Nat.le_of_ble_eq_true rfl, Nat.le_of_ble_eq_true rfl⟩) hK hNw hG gl_114 rfl gk_114 (by decide) rfl rfl hl.1 rfl (lv_room (Nat.le_of_ble_eq_true rfl)) dX1_halved_60 ⟨Nat.zero_le _, Nat.zero_le _⟩) hG (fun r_60 h_60 g_60 H locs hz hq hG => ?_)
        replace HW := HW r_60 h_60 g_60 hz hq
        refine lv_if_ne (tgt := 68) hx hb dX1_halved_63 (by decide) (fun c_63 => ?_) (fun c_63 => ?_)
        · replace HW := HW.1 c_63
          obtain ⟨x2_68, ex2_68⟩ : ∃ y : Int32, y = (x2 + 1) := ⟨_, rfl⟩
          replace HW := HW x2_68 ex2_68
          refine lv_iinc (v := x2_68) (lv' := [(2, .int x2_68), (0, .ref (ad 109))]) hx hb dX1_halved_68 hl (k := 1) rfl (by rw [ex2_68]; rfl) (by decide) rfl (fun ls hl => ?_)
          refine lv_goto (tgt := 23) hx hb dX1_halved_71 (by decide) ?_
          exact hK23 x2_68 h_60 g_60 _ _ _ HW hG (lv_sub hl [1, 0] rfl)
        · replace HW := HW.2 c_63
          refine lv_iload_n hx hb dX1_halved_66 rfl (lv_at hl 1 rfl) ?_
          exact W.iret (v := x2) hx hb hr (fun t ht hW => ⟨⟨x2, (h_60, g_60), rfl, HW, g_B ht hG⟩, hG.2.2.F ht⟩) hG.2.2.2.2 dX1_halved_67
  have E0 : ∀ (H : Heap) (locs : List Loc) (ls : Array Slot), gG D cy ad (gA ad s.heap.size) s.heap h g H locs → lv_has ls 3 [(0, .ref (ad 109)), (1, .int x1)] → W p l e ({ frames := 2, cells := 0, slots := 0, locals := 56 } : Room) s m args below meth c H locs 0 0 (MQ below (va_Qi (fun (r : Int32) (u : HI × HL) => Q r u.1 u.2) (gB D cy ad s.heap.size) (gA ad s.heap.size)) args s 0 0 (gA ad s.heap.size)) (F0 m 0 ls []) := by
    intro H locs ls hG hl
    unfold w_X1_halved at HW
    refine lv_aload_n hx hb dX1_halved_0 rfl (lv_at hl 0 rfl) ?_
    refine lv_iload_n hx hb dX1_halved_1 rfl (lv_at hl 1 rfl) ?_
    obtain ⟨P_2, HC_2, HW⟩ := HW
    refine g_callv (g_runV (As := [.int x1]) (rest := []) ⟨hx, hb, hml, hown, hts⟩ (m_X1_chooseYear l D cy ad h g H.size x1 P_2 HC_2) (cwV 1 hts (gd_V (wm4 49 rfl rfl) (wm4 51 rfl rfl) (wmp2 (q := (yX1_chooseYear, 7)) 8 rfl) (wm1 10 rfl rfl) (wm4 52 rfl rfl)) rfl rfl rfl (by decide +kernel) ⟨Nat.le_of_ble_eq_true rfl, Nat.le_of_ble_eq_true rfl⟩) hK hNw hG gl_109 rfl gk_109 (by decide) rfl rfl hl.1 rfl (lv_room (Nat.le_of_ble_eq_true rfl)) dX1_halved_2 ⟨Nat.zero_le _, Nat.zero_le _⟩) hG (fun h_2 g_2 H locs hq hG => ?_)
    replace HW := HW h_2 g_2 hq
    refine lv_aload_n hx hb dX1_halved_5 rfl (lv_at hl 0 rfl) ?_
    refine g_getr hx hb hw inG1 hown hK hG gl_109 rfl gk_109 (by decide) 3 (by decide) (by rw [gm_109]; decide) (r := 114) gr_109_3 lk21 dX1_halved_6 ?_
    refine lv_iconst (v := 2) hx hb dX1_halved_9 (by decide) ?_
    obtain ⟨P_10, HC_10, HW⟩ := HW
    refine g_callv (g_runV (As := [.int (2 : Int32)]) (rest := []) ⟨hx, hb, hml, hown, hts⟩ (m_X0_set l D cy ad h_2 g_2 H.size 114 (gs_114) (2 : Int32) P_10 HC_10) (cwV 1 hts (gd_V (wm2 88 rfl rfl) (wm2 89 rfl rfl) (wm2 90 rfl rfl) (wm1 11 rfl rfl) (wm2 91 rfl rfl)) rfl rfl rfl (by decide +kernel) ⟨Nat.le_of_ble_eq_true rfl, Nat.le_of_ble_eq_true rfl⟩) hK hNw hG gl_114 rfl gk_114 (by decide) rfl rfl hl.1 rfl (lv_room (Nat.le_of_ble_eq_true rfl)) dX1_halved_10 ⟨Nat.zero_le _, Nat.zero_le _⟩) hG (fun h_10 g_10 H locs hq hG => ?_)
    replace HW := HW h_10 g_10 hq
    refine lv_aload_n hx hb dX1_halved_13 rfl (lv_at hl 0 rfl) ?_
    refine g_getr hx hb hw inG1 hown hK hG gl_109 rfl gk_109 (by decide) 4 (by decide) (by rw [gm_109]; decide) (r := 116) gr_109_4 lk24 dX1_halved_14 ?_
    refine lv_iconst (v := 1) hx hb dX1_halved_17 (by decide) ?_
    obtain ⟨P_18, HC_18, HW⟩ := HW
    refine g_callv (g_runV (As := [.int (1 : Int32)]) (rest := []) ⟨hx, hb, hml, hown, hts⟩ (m_X0_set l D cy ad h_10 g_10 H.size 116 (gs_116) (1 : Int32) P_18 HC_18) (cwV 1 hts (gd_V (wm2 88 rfl rfl) (wm2 89 rfl rfl) (wm2 90 rfl rfl) (wm1 11 rfl rfl) (wm2 91 rfl rfl)) rfl rfl rfl (by decide +kernel) ⟨Nat.le_of_ble_eq_true rfl, Nat.le_of_ble_eq_true rfl⟩) hK hNw hG gl_116 rfl gk_116 (by decide) rfl rfl hl.1 rfl (lv_room (Nat.le_of_ble_eq_true rfl)) dX1_halved_18 ⟨Nat.zero_le _, Nat.zero_le _⟩) hG (fun h_18 g_18 H locs hq hG => ?_)
    replace HW := HW h_18 g_18 hq
    refine lv_iconst (v := 1) hx hb dX1_halved_21 (by decide) ?_
    refine lv_istore_n (lv' := [(2, .int (1 : Int32)), (0, .ref (ad 109)), (1, .int x1)]) hx hb dX1_halved_22 rfl hl (by decide) rfl (fun ls hl => ?_)
    obtain ⟨n_23, HW⟩ := HW
    exact L23 n_23 (1 : Int32) h_18 g_18 _ _ _ HW hG (lv_sub hl [1, 0] rfl)
  exact E0 _ _ _ hG hl

def w_X8_rows (o : Nat) (h : HI) (g : HL) (Q : Int32 → HI → HL → Prop) : Prop :=
  Q (h o 3) h g
set_option maxHeartbeats 8000000 in
set_option maxRecDepth 100000 in
theorem m_X8_rows (l : Launch) (D : va_G) (cy : Nat → ClassId) (ad : Nat → Nat) (h : HI) (g : HL) (sz : Nat) (o : Nat) (hT : isT o) (Q : Int32 → HI → HL → Prop) (HW : w_X8_rows o h g Q) : Met l yX8_rows (wa yX8_rows cX8_rows 1 (some .int)) ({ frames := 0, cells := 0, slots := 0, locals := 0 }) (va_Pc [.ref (ad o)] (gI D cy ad h g sz)) (va_Qi (fun (r : Int32) (u : HI × HL) => Q r u.1 u.2) (gB D cy ad sz) (gA ad sz)) 0 0 (gA ad sz) := by
  refine Met.ofW (cc := cX8_rows) (maxL := 1) (ret := (some .int)) (by decide) rfl ?_
  intro p e s m args below meth c s₁ B hml hv
  obtain ⟨hav, hsz, hP, hK, hD0, hNw⟩ := hv
  have hx := B.exec
  have hb := B.bytes
  have hr := B.returns
  have hts := atoms_spec (ws := (wa yX8_rows cX8_rows 1 (some .int))) B.pre
  have hw := wa_hw hts
  have hown : s.vm.findClass RX8 = some m.cls := findClass_of_methodNamed B.named
  have hlocks := B.notSynchronized
  subst hsz
  have hG : gG D cy ad (gA ad s.heap.size) s.heap h g s.heap [] := ⟨hP, gA_self hD0, va_S.rf⟩
  clear hP hD0
  have lk22 := hw (.fieldLink RX8 22 "OldWorks$Table" "many" "I") (wm1 40 rfl rfl)
  rw [show (headSpec (wa yX8_rows cX8_rows 1 (some .int)) ({ frames := 0, cells := 0, slots := 0, locals := 0 } : Room)).room = ({ frames := 0, cells := 0, slots := 0, locals := 0 } : Room) from rfl]
  have hl := lv_entry ([.ref (ad o)]) (n := 1) (Nat.le_of_ble_eq_true rfl)
  rw [show entryFrame m args 1 = entryFrame m ([.ref (ad o)] : List Value).toArray 1 from by rw [hav], lg_entry_eq]
  generalize (lg_sl ([.ref (ad o)]) ++ List.replicate (1 - (lg_sl ([.ref (ad o)])).length) Slot.unset).toArray = ls at hl ⊢
  have hl : lv_has ls 1 [(0, .ref (ad o))] := hl
  have E0 : ∀ (H : Heap) (locs : List Loc) (ls : Array Slot), gG D cy ad (gA ad s.heap.size) s.heap h g H locs → lv_has ls 1 [(0, .ref (ad o))] → W p l e ({ frames := 0, cells := 0, slots := 0, locals := 0 } : Room) s m args below meth c H locs 0 0 (MQ below (va_Qi (fun (r : Int32) (u : HI × HL) => Q r u.1 u.2) (gB D cy ad s.heap.size) (gA ad s.heap.size)) args s 0 0 (gA ad s.heap.size)) (F0 m 0 ls []) := by
    intro H locs ls hG hl
    unfold w_X8_rows at HW
    refine lv_aload_n hx hb dX8_rows_0 rfl (lv_at hl 0 rfl) ?_
    refine g_geti hx hb hw inG8 hown hK hG hT.lt rfl hT.k (by decide) 3 (by decide) (by rw [hT.m]; decide) hT.r.2.2.2 lk22 dX8_rows_1 ?_
    exact W.iret (v := (h o 3)) hx hb hr (fun t ht hW => ⟨⟨(h o 3), (h, g), rfl, HW, g_B ht hG⟩, hG.2.2.F ht⟩) hG.2.2.2.2 dX8_rows_4
  exact E0 _ _ _ hG hl

def j_X1_weigh_109 (Q : Int32 → HI → HL → Prop) (K13 : Int32 → Int32 → Int32 → Int32 → HI → HL → Prop) (x1 : Int32) (x2 : Int32) (x3 : Int32) (x4 : Int32) (h : HI) (g : HL) : Prop :=
  (∀ x4_109 : Int32, x4_109 = (x4 + 1) → K13 x1 x2 x3 x4_109 h g)
def j_X1_weigh_91 (Q : Int32 → HI → HL → Prop) (K13 : Int32 → Int32 → Int32 → Int32 → HI → HL → Prop) (x1 : Int32) (x2 : Int32) (x4 : Int32) (s0 : Int32) (s1 : Int32) (h : HI) (g : HL) : Prop :=
  (∀ x3_92 : Int32, x3_92 = (s0 * s1) → ((x3_92 < (1073741 : Int32) → j_X1_weigh_109 Q K13 x1 x2 x3_92 x4 h g) ∧ (¬ x3_92 < (1073741 : Int32) → (∃ P_104 : HI → HL → Prop, w_X0_times 114 x3_92 h g P_104 ∧ ∀ (h_104 : HI) (g_104 : HL), P_104 h_104 g_104 → j_X1_weigh_109 Q K13 x1 x2 (1 : Int32) x4 h_104 g_104))))
def b_X1_weigh_13 (Q : Int32 → HI → HL → Prop) (K13 : Int32 → Int32 → Int32 → Int32 → HI → HL → Prop) (x1 : Int32) (x2 : Int32) (x3 : Int32) (x4 : Int32) (h : HI) (g : HL) : Prop :=
  (∃ P_22 : Int32 → HI → HL → Prop, w_X8_rows 18 h g P_22 ∧ ∀ (r_22 : Int32) (h_22 : HI) (g_22 : HL), P_22 r_22 h_22 g_22 → ((r_22 ≤ x4 → (∃ P_120 : HI → HL → Prop, w_X0_times 114 x3 h_22 g_22 P_120 ∧ ∀ (h_120 : HI) (g_120 : HL), P_120 h_120 g_120 → Q (1 : Int32) h_120 g_120)) ∧ (¬ r_22 ≤ x4 → (∃ P_40 : Int32 → HI → HL → Prop, w_X8_at 18 x4 (0 : Int32) h_22 g_22 P_40 ∧ ∀ (r_40 : Int32) (h_40 : HI) (g_40 : HL), P_40 r_40 h_40 g_40 → (∃ P_43 : Int32 → HI → HL → Prop, w_X1_oddsOf x1 x2 r_40 h_40 g_40 P_43 ∧ ∀ (r_43 : Int32) (h_43 : HI) (g_43 : HL), P_43 r_43 h_43 g_43 → (∃ P_54 : Int32 → HI → HL → Prop, w_X10_within r_43 (1 : Int32) (999 : Int32) h_43 g_43 P_54 ∧ ∀ (r_54 : Int32) (h_54 : HI) (g_54 : HL), zb r_54 → P_54 r_54 h_54 g_54 → ((¬ r_54 = 0 → (∃ P_73 : Int32 → HI → HL → Prop, w_X8_at 18 x4 (1 : Int32) h_54 g_54 P_73 ∧ ∀ (r_73 : Int32) (h_73 : HI) (g_73 : HL), P_73 r_73 h_73 g_73 → ((¬ r_73 = (1 : Int32) → j_X1_weigh_91 Q K13 x1 x2 x4 x3 ((1000 : Int32) - r_43) h_73 g_73) ∧ (r_73 = (1 : Int32) → j_X1_weigh_91 Q K13 x1 x2 x4 x3 r_43 h_73 g_73)))) ∧ (r_54 = 0 → Q (0 : Int32) h_54 g_54))))))))
def F_X1_weigh_13 (Q : Int32 → HI → HL → Prop) (K : Int32 × Int32 × Int32 × Int32 × HI × HL → Prop) (q : Int32 × Int32 × Int32 × Int32 × HI × HL) : Prop := b_X1_weigh_13 Q (fun x1 x2 x3 x4 h g => K (x1, x2, x3, x4, h, g)) q.1 q.2.1 q.2.2.1 q.2.2.2.1 q.2.2.2.2.1 q.2.2.2.2.2
def w_X1_weigh (x1 : Int32) (x2 : Int32) (h : HI) (g : HL) (Q : Int32 → HI → HL → Prop) : Prop :=
  (∃ P_5 : HI → HL → Prop, w_X0_set 114 (1 : Int32) h g P_5 ∧ ∀ (h_5 : HI) (g_5 : HL), P_5 h_5 g_5 → lpE (F_X1_weigh_13 Q) (x1, x2, (1 : Int32), (0 : Int32), h_5, g_5))
set_option maxHeartbeats 8000000 in
set_option maxRecDepth 100000 in
theorem m_X1_weigh (l : Launch) (D : va_G) (cy : Nat → ClassId) (ad : Nat → Nat) (h : HI) (g : HL) (sz : Nat) (x1 : Int32) (x2 : Int32) (Q : Int32 → HI → HL → Prop) (HW : w_X1_weigh x1 x2 h g Q) : Met l yX1_weigh (wa yX1_weigh cX1_weigh 6 (some .boolean)) ({ frames := 2, cells := 0, slots := 0, locals := 46 }) (va_Pc [.ref (ad 109), .int x1, .int x2] (gI D cy ad h g sz)) (va_Qi (fun (r : Int32) (u : HI × HL) => zb r ∧ Q r u.1 u.2) (gB D cy ad sz) (gA ad sz)) 0 0 (gA ad sz) := by
  refine Met.ofW (cc := cX1_weigh) (maxL := 6) (ret := (some .boolean)) (by decide) rfl ?_
  intro p e s m args below meth c s₁ B hml hv
  obtain ⟨hav, hsz, hP, hK, hD0, hNw⟩ := hv
  have hx := B.exec
  have hb := B.bytes
  have hr := B.returns
  have hts := atoms_spec (ws := (wa yX1_weigh cX1_weigh 6 (some .boolean))) B.pre
  have hw := wa_hw hts
  have hown : s.vm.findClass RX1 = some m.cls := findClass_of_methodNamed B.named
  have hlocks := B.notSynchronized
  subst hsz
  have hG : gG D cy ad (gA ad s.heap.size) s.heap h g s.heap [] := ⟨hP, gA_self hD0, va_S.rf⟩
  clear hP hD0
  have lk21 := hw (.fieldLink RX1 21 "OldWorks$Breaks" "left" "LOldWorks$Big;") (wm2 95 rfl rfl)
  have lk27 := hw (.fieldLink RX1 27 "OldWorks$Breaks" "shop" "LOldWorks$Shop;") (wm2 92 rfl rfl)
  have lk86 := hw (.fieldLink RX1 86 "OldWorks$Shop" "loads" "LOldWorks$Table;") (wm1 87 rfl rfl)
  have cn97 := hw (.constant RX1 97 (1073741)) (wm4 118 rfl rfl)
  rw [show (headSpec (wa yX1_weigh cX1_weigh 6 (some .boolean)) ({ frames := 2, cells := 0, slots := 0, locals := 46 } : Room)).room = ({ frames := 2, cells := 0, slots := 0, locals := 46 } : Room) from rfl]
  have hl := lv_entry ([.ref (ad 109), .int x1, .int x2]) (n := 6) (Nat.le_of_ble_eq_true rfl)
  rw [show entryFrame m args 6 = entryFrame m ([.ref (ad 109), .int x1, .int x2] : List Value).toArray 6 from by rw [hav], lg_entry_eq]
  generalize (lg_sl ([.ref (ad 109), .int x1, .int x2]) ++ List.replicate (6 - (lg_sl ([.ref (ad 109), .int x1, .int x2])).length) Slot.unset).toArray = ls at hl ⊢
  have hl : lv_has ls 6 [(0, .ref (ad 109)), (1, .int x1), (2, .int x2)] := hl
  have B109 : ∀ (K13 : Int32 → Int32 → Int32 → Int32 → HI → HL → Prop) (hK13 : ∀ (x1 : Int32) (x2 : Int32) (x3 : Int32) (x4 : Int32) (h : HI) (g : HL) (H : Heap) (locs : List Loc) (ls : Array Slot), K13 x1 x2 x3 x4 h g → gG D cy ad (gA ad s.heap.size) s.heap h g H locs → lv_has ls 6 [(0, .ref (ad 109)), (1, .int x1), (2, .int x2), (3, .int x3), (4, .int x4)] → W p l e ({ frames := 2, cells := 0, slots := 0, locals := 46 } : Room) s m args below meth c H locs 0 0 (MQ below (va_Qi (fun (r : Int32) (u : HI × HL) => zb r ∧ Q r u.1 u.2) (gB D cy ad s.heap.size) (gA ad s.heap.size)) args s 0 0 (gA ad s.heap.size)) (F0 m 13 ls [])) (x1 : Int32) (x2 : Int32) (x3 : Int32) (x4 : Int32) (h : HI) (g : HL) (H : Heap) (locs : List Loc) (ls : Array Slot), j_X1_weigh_109 Q K13 x1 x2 x3 x4 h g → gG D cy ad (gA ad s.heap.size) s.heap h g H locs → lv_has ls 6 [(0, .ref (ad 109)), (1, .int x1), (2, .int x2), (3, .int x3), (4, .int x4)] → W p l e ({ frames := 2, cells := 0, slots := 0, locals := 46 } : Room) s m args below meth c H locs 0 0 (MQ below (va_Qi (fun (r : Int32) (u : HI × HL) => zb r ∧ Q r u.1 u.2) (gB D cy ad s.heap.size) (gA ad s.heap.size)) args s 0 0 (gA ad s.heap.size)) (F0 m 109 ls []) := by
    intro K13 hK13 x1 x2 x3 x4 h g H locs ls HW hG hl
    unfold j_X1_weigh_109 at HW
    obtain ⟨x4_109, ex4_109⟩ : ∃ y : Int32, y = (x4 + 1) := ⟨_, rfl⟩
    replace HW := HW x4_109 ex4_109
    refine lv_iinc (v := x4_109) (lv' := [(4, .int x4_109), (0, .ref (ad 109)), (1, .int x1), (2, .int x2), (3, .int x3)]) hx hb dX1_weigh_109 hl (k := 4) rfl (by rw [ex4_109]; rfl) (by decide) rfl (fun ls hl => ?_)
    refine lv_goto (tgt := 13) hx hb dX1_weigh_112 (by decide) ?_
    exact hK13 x1 x2 x3 x4_109 h g _ _ _ HW hG (lv_sub hl [1, 2, 3, 4, 0] rfl)
  have B91 : ∀ (K13 : Int32 → Int32 → Int32 → Int32 → HI → HL → Prop) (hK13 : ∀ (x1 : Int32) (x2 : Int32) (x3 : Int32) (x4 : Int32) (h : HI) (g : HL) (H : Heap) (locs : List Loc) (ls : Array Slot), K13 x1 x2 x3 x4 h g → gG D cy ad (gA ad s.heap.size) s.heap h g H locs → lv_has ls 6 [(0, .ref (ad 109)), (1, .int x1), (2, .int x2), (3, .int x3), (4, .int x4)] → W p l e ({ frames := 2, cells := 0, slots := 0, locals := 46 } : Room) s m args below meth c H locs 0 0 (MQ below (va_Qi (fun (r : Int32) (u : HI × HL) => zb r ∧ Q r u.1 u.2) (gB D cy ad s.heap.size) (gA ad s.heap.size)) args s 0 0 (gA ad s.heap.size)) (F0 m 13 ls [])) (x1 : Int32) (x2 : Int32) (x4 : Int32) (s0 : Int32) (s1 : Int32) (h : HI) (g : HL) (H : Heap) (locs : List Loc) (ls : Array Slot), j_X1_weigh_91 Q K13 x1 x2 x4 s0 s1 h g → gG D cy ad (gA ad s.heap.size) s.heap h g H locs → lv_has ls 6 [(0, .ref (ad 109)), (1, .int x1), (2, .int x2), (4, .int x4)] → W p l e ({ frames := 2, cells := 0, slots := 0, locals := 46 } : Room) s m args below meth c H locs 0 0 (MQ below (va_Qi (fun (r : Int32) (u : HI × HL) => zb r ∧ Q r u.1 u.2) (gB D cy ad s.heap.size) (gA ad s.heap.size)) args s 0 0 (gA ad s.heap.size)) (F0 m 91 ls [.int s1, .int s0]) := by
    intro K13 hK13 x1 x2 x4 s0 s1 h g H locs ls HW hG hl
    unfold j_X1_weigh_91 at HW
    refine lv_imul hx hb dX1_weigh_91 ?_
    refine lv_topi (fun x3_92 ex3_92 => ?_)
    replace HW := HW x3_92 ex3_92
    refine lv_istore_n (lv' := [(3, .int x3_92), (0, .ref (ad 109)), (1, .int x1), (2, .int x2), (4, .int x4)]) hx hb dX1_weigh_92 rfl hl (by decide) rfl (fun ls hl => ?_)
    refine lv_iload_n hx hb dX1_weigh_93 rfl (lv_at hl 0 rfl) ?_
    refine lv_ldc (v := 1073741) hx hb hown cn97 dX1_weigh_94 ?_
    refine lv_icmp_lt (tgt := 109) hx hb dX1_weigh_96 (by decide) (fun c_96 => ?_) (fun c_96 => ?_)
    · replace HW := HW.1 c_96
      exact B109 K13 hK13 x1 x2 x3_92 x4 h g _ _ _ HW hG (lv_sub hl [1, 2, 3, 0, 4] rfl)
    · replace HW := HW.2 c_96
      refine lv_aload_n hx hb dX1_weigh_99 rfl (lv_at hl 1 rfl) ?_
      refine g_getr hx hb hw inG1 hown hK hG gl_109 rfl gk_109 (by decide) 3 (by decide) (by rw [gm_109]; decide) (r := 114) gr_109_3 lk21 dX1_weigh_100 ?_
      refine lv_iload_n hx hb dX1_weigh_103 rfl (lv_at hl 0 rfl) ?_
      obtain ⟨P_104, HC_104, HW⟩ := HW
      refine g_callv (g_runV (As := [.int x3_92]) (rest := []) ⟨hx, hb, hml, hown, hts⟩ (m_X0_times l D cy ad h g H.size 114 (gs_114) x3_92 P_104 HC_104) (cwV 1 hts (gd_V (wm4 62 rfl rfl) (wm4 63 rfl rfl) (wm4 64 rfl rfl) (wm1 11 rfl rfl) (wm4 65 rfl rfl)) rfl rfl rfl (by decide +kernel) ⟨Nat.le_of_ble_eq_true rfl, Nat.le_of_ble_eq_true rfl⟩) hK hNw hG gl_114 rfl gk_114 (by decide) rfl rfl hl.1 rfl (lv_room (Nat.le_of_ble_eq_true rfl)) dX1_weigh_104 ⟨Nat.zero_le _, Nat.zero_le _⟩) hG (fun h_104 g_104 H locs hq hG => ?_)
      replace HW := HW h_104 g_104 hq
      refine lv_iconst (v := 1) hx hb dX1_weigh_107 (by decide) ?_
      refine lv_istore_n (lv' := [(3, .int (1 : Int32)), (0, .ref (ad 109)), (1, .int x1), (2, .int x2), (4, .int x4)]) hx hb dX1_weigh_108 rfl hl (by decide) rfl (fun ls hl => ?_)
      exact B109 K13 hK13 x1 x2 (1 : Int32) x4 h_104 g_104 _ _ _ HW hG (lv_sub hl [1, 2, 3, 0, 4] rfl)
  have L13 : ∀ (n : Nat) (x1 : Int32) (x2 : Int32) (x3 : Int32) (x4 : Int32) (h : HI) (g : HL) (H : Heap) (locs : List Loc) (ls : Array Slot), lpN (F_X1_weigh_13 Q) n (x1, x2, x3, x4, h, g) → gG D cy ad (gA ad s.heap.size) s.heap h g H locs → lv_has ls 6 [(0, .ref (ad 109)), (1, .int x1), (2, .int x2), (3, .int x3), (4, .int x4)] → W p l e ({ frames := 2, cells := 0, slots := 0, locals := 46 } : Room) s m args below meth c H locs 0 0 (MQ below (va_Qi (fun (r : Int32) (u : HI × HL) => zb r ∧ Q r u.1 u.2) (gB D cy ad s.heap.size) (gA ad s.heap.size)) args s 0 0 (gA ad s.heap.size)) (F0 m 13 ls []) := by
    intro n
    induction n with
    | zero => intro x1 x2 x3 x4 h g H locs ls HW; exact HW.elim
    | succ n ih =>
      intro x1 x2 x3 x4 h g H locs ls HW hG hl
      have HW : b_X1_weigh_13 Q (fun x1 x2 x3 x4 h g => lpN (F_X1_weigh_13 Q) n (x1, x2, x3, x4, h, g)) x1 x2 x3 x4 h g := HW
      generalize hKe : (fun (x1 : Int32) (x2 : Int32) (x3 : Int32) (x4 : Int32) (h : HI) (g : HL) => lpN (F_X1_weigh_13 Q) n (x1, x2, x3, x4, h, g)) = K13 at HW
      have hK13 : ∀ (x1 : Int32) (x2 : Int32) (x3 : Int32) (x4 : Int32) (h : HI) (g : HL) (H : Heap) (locs : List Loc) (ls : Array Slot), K13 x1 x2 x3 x4 h g → gG D cy ad (gA ad s.heap.size) s.heap h g H locs → lv_has ls 6 [(0, .ref (ad 109)), (1, .int x1), (2, .int x2), (3, .int x3), (4, .int x4)] → W p l e ({ frames := 2, cells := 0, slots := 0, locals := 46 } : Room) s m args below meth c H locs 0 0 (MQ below (va_Qi (fun (r : Int32) (u : HI × HL) => zb r ∧ Q r u.1 u.2) (gB D cy ad s.heap.size) (gA ad s.heap.size)) args s 0 0 (gA ad s.heap.size)) (F0 m 13 ls []) := by subst hKe; exact ih
      clear ih
      clear hKe
      unfold b_X1_weigh_13 at HW
      refine lv_iload hx hb dX1_weigh_13 (lv_at hl 4 rfl) ?_
      refine lv_aload_n hx hb dX1_weigh_15 rfl (lv_at hl 0 rfl) ?_
      refine g_getr hx hb hw inG1 hown hK hG gl_109 rfl gk_109 (by decide) 0 (by decide) (by rw [gm_109]; decide) (r := 1) gr_109_0 lk27 dX1_weigh_16 ?_
      refine g_getr hx hb hw inG6 hown hK hG gl_1 rfl gk_1 (by decide) 8 (by decide) (by rw [gm_1]; decide) (r := 18) gr_1_8 lk86 dX1_weigh_19 ?_
      obtain ⟨P_22, HC_22, HW⟩ := HW
      refine g_calli (g_runV (As := []) (rest := [.int x4]) ⟨hx, hb, hml, hown, hts⟩ (m_X8_rows l D cy ad h g H.size 18 (gs_18) P_22 HC_22) (cwV 0 hts (gd_V (wm4 116 rfl rfl) (wm2 217 rfl rfl) (wm2 218 rfl rfl) (wm1 3 rfl rfl) (wm2 219 rfl rfl)) rfl rfl rfl (by decide +kernel) ⟨Nat.le_of_ble_eq_true rfl, Nat.le_of_ble_eq_true rfl⟩) hK hNw hG gl_18 rfl gk_18 (by decide) rfl rfl hl.1 rfl (lv_room (Nat.le_of_ble_eq_true rfl)) dX1_weigh_22 ⟨Nat.zero_le _, Nat.zero_le _⟩) hG (fun r_22 h_22 g_22 H locs hq hG => ?_)
      replace HW := HW r_22 h_22 g_22 hq
      refine lv_icmp_ge (tgt := 115) hx hb dX1_weigh_25 (by decide) (fun c_25 => ?_) (fun c_25 => ?_)
      · replace HW := HW.1 c_25
        refine lv_aload_n hx hb dX1_weigh_115 rfl (lv_at hl 0 rfl) ?_
        refine g_getr hx hb hw inG1 hown hK hG gl_109 rfl gk_109 (by decide) 3 (by decide) (by rw [gm_109]; decide) (r := 114) gr_109_3 lk21 dX1_weigh_116 ?_
        refine lv_iload_n hx hb dX1_weigh_119 rfl (lv_at hl 3 rfl) ?_
        obtain ⟨P_120, HC_120, HW⟩ := HW
        refine g_callv (g_runV (As := [.int x3]) (rest := []) ⟨hx, hb, hml, hown, hts⟩ (m_X0_times l D cy ad h_22 g_22 H.size 114 (gs_114) x3 P_120 HC_120) (cwV 1 hts (gd_V (wm4 62 rfl rfl) (wm4 63 rfl rfl) (wm4 64 rfl rfl) (wm1 11 rfl rfl) (wm4 65 rfl rfl)) rfl rfl rfl (by decide +kernel) ⟨Nat.le_of_ble_eq_true rfl, Nat.le_of_ble_eq_true rfl⟩) hK hNw hG gl_114 rfl gk_114 (by decide) rfl rfl hl.1 rfl (lv_room (Nat.le_of_ble_eq_true rfl)) dX1_weigh_120 ⟨Nat.zero_le _, Nat.zero_le _⟩) hG (fun h_120 g_120 H locs hq hG => ?_)
        replace HW := HW h_120 g_120 hq
        refine lv_iconst (v := 1) hx hb dX1_weigh_123 (by decide) ?_
        exact W.zret (v := (1 : Int32)) hx hb hr rfl (fun t ht hW => ⟨⟨(1 : Int32), (h_120, g_120), rfl, ⟨Or.inr rfl, HW⟩, g_B ht hG⟩, hG.2.2.F ht⟩) hG.2.2.2.2 dX1_weigh_124
      · replace HW := HW.2 c_25
        refine lv_iload_n hx hb dX1_weigh_28 rfl (lv_at hl 1 rfl) ?_
        refine lv_iload_n hx hb dX1_weigh_29 rfl (lv_at hl 2 rfl) ?_
        refine lv_aload_n hx hb dX1_weigh_30 rfl (lv_at hl 0 rfl) ?_
        refine g_getr hx hb hw inG1 hown hK hG gl_109 rfl gk_109 (by decide) 0 (by decide) (by rw [gm_109]; decide) (r := 1) gr_109_0 lk27 dX1_weigh_31 ?_
        refine g_getr hx hb hw inG6 hown hK hG gl_1 rfl gk_1 (by decide) 8 (by decide) (by rw [gm_1]; decide) (r := 18) gr_1_8 lk86 dX1_weigh_34 ?_
        refine lv_iload hx hb dX1_weigh_37 (lv_at hl 4 rfl) ?_
        refine lv_iconst (v := 0) hx hb dX1_weigh_39 (by decide) ?_
        obtain ⟨P_40, HC_40, HW⟩ := HW
        refine g_calli (g_runV (As := [.int x4, .int (0 : Int32)]) (rest := [.int x2, .int x1]) ⟨hx, hb, hml, hown, hts⟩ (m_X8_at l D cy ad h_22 g_22 H.size 18 (gs_18) x4 (0 : Int32) P_40 HC_40) (cwV 2 hts (gd_V (wm4 53 rfl rfl) (wm2 221 rfl rfl) (wm2 222 rfl rfl) (wm1 3 rfl rfl) (wm2 223 rfl rfl)) rfl rfl rfl (by decide +kernel) ⟨Nat.le_of_ble_eq_true rfl, Nat.le_of_ble_eq_true rfl⟩) hK hNw hG gl_18 rfl gk_18 (by decide) rfl rfl hl.1 rfl (lv_room (Nat.le_of_ble_eq_true rfl)) dX1_weigh_40 ⟨Nat.zero_le _, Nat.zero_le _⟩) hG (fun r_40 h_40 g_40 H locs hq hG => ?_)
        replace HW := HW r_40 h_40 g_40 hq
        obtain ⟨P_43, HC_43, HW⟩ := HW
        refine g_calli (g_runS (As := [.int x1, .int x2, .int r_40]) (rest := []) ⟨hx, hb, hml, hown, hts⟩ (m_X1_oddsOf l D cy ad h_40 g_40 H.size x1 x2 r_40 P_43 HC_43) (va_cwS 3 hts (gd_S (wm4 54 rfl rfl) (wm4 55 rfl rfl) (wm1 10 rfl rfl) (wm4 56 rfl rfl)) rfl rfl rfl (by decide +kernel) ⟨Nat.le_of_ble_eq_true rfl, Nat.le_of_ble_eq_true rfl⟩) hK hNw hG rfl rfl hl.1 rfl (lv_room (Nat.le_of_ble_eq_true rfl)) dX1_weigh_43 ⟨Nat.zero_le _, Nat.zero_le _⟩) hG (fun r_43 h_43 g_43 H locs hq hG => ?_)
        replace HW := HW r_43 h_43 g_43 hq
        refine lv_istore (lv' := [(5, .int r_43), (0, .ref (ad 109)), (1, .int x1), (2, .int x2), (3, .int x3), (4, .int x4)]) hx hb dX1_weigh_46 hl (by decide) rfl (fun ls hl => ?_)
        refine lv_iload hx hb dX1_weigh_48 (lv_at hl 0 rfl) ?_
        refine lv_iconst (v := 1) hx hb dX1_weigh_50 (by decide) ?_
        refine lv_sipush (v := 999) hx hb dX1_weigh_51 (by decide) ?_
        obtain ⟨P_54, HC_54, HW⟩ := HW
        refine g_callz (g_runSN (As := [.int r_43, .int (1 : Int32), .int (999 : Int32)]) (rest := []) ⟨hx, hb, hml, hown, hts⟩ (m_X10_within l D cy ad h_43 g_43 H.size r_43 (1 : Int32) (999 : Int32) P_54 HC_54) ⟨va_cnB 3 hts (gd_w (wm2 195 rfl rfl)) rfl rfl rfl (hNw _ (List.mem_of_getElem? (i := 2) rfl)) (hw (.initialized RX10) (wm1 1 rfl rfl)) (by decide +kernel) ⟨Nat.le_of_ble_eq_true rfl, Nat.le_of_ble_eq_true rfl⟩, hw (.static yX10_within) (wm2 194 rfl rfl), trivial⟩ hK hNw hG rfl rfl hl.1 rfl (lv_room (Nat.le_of_ble_eq_true rfl)) dX1_weigh_54 ⟨Nat.zero_le _, Nat.zero_le _⟩) hG (fun r_54 h_54 g_54 H locs hz hq hG => ?_)
        replace HW := HW r_54 h_54 g_54 hz hq
        refine lv_if_ne (tgt := 62) hx hb dX1_weigh_57 (by decide) (fun c_57 => ?_) (fun c_57 => ?_)
        · replace HW := HW.1 c_57
          refine lv_iload_n hx hb dX1_weigh_62 rfl (lv_at hl 4 rfl) ?_
          refine lv_aload_n hx hb dX1_weigh_63 rfl (lv_at hl 1 rfl) ?_
          refine g_getr hx hb hw inG1 hown hK hG gl_109 rfl gk_109 (by decide) 0 (by decide) (by rw [gm_109]; decide) (r := 1) gr_109_0 lk27 dX1_weigh_64 ?_
          refine g_getr hx hb hw inG6 hown hK hG gl_1 rfl gk_1 (by decide) 8 (by decide) (by rw [gm_1]; decide) (r := 18) gr_1_8 lk86 dX1_weigh_67 ?_
          refine lv_iload hx hb dX1_weigh_70 (lv_at hl 5 rfl) ?_
          refine lv_iconst (v := 1) hx hb dX1_weigh_72 (by decide) ?_
          obtain ⟨P_73, HC_73, HW⟩ := HW
          refine g_calli (g_runV (As := [.int x4, .int (1 : Int32)]) (rest := [.int x3]) ⟨hx, hb, hml, hown, hts⟩ (m_X8_at l D cy ad h_54 g_54 H.size 18 (gs_18) x4 (1 : Int32) P_73 HC_73) (cwV 2 hts (gd_V (wm4 53 rfl rfl) (wm2 221 rfl rfl) (wm2 222 rfl rfl) (wm1 3 rfl rfl) (wm2 223 rfl rfl)) rfl rfl rfl (by decide +kernel) ⟨Nat.le_of_ble_eq_true rfl, Nat.le_of_ble_eq_true rfl⟩) hK hNw hG gl_18 rfl gk_18 (by decide) rfl rfl hl.1 rfl (lv_room (Nat.le_of_ble_eq_true rfl)) dX1_weigh_73 ⟨Nat.zero_le _, Nat.zero_le _⟩) hG (fun r_73 h_73 g_73 H locs hq hG => ?_)
          replace HW := HW r_73 h_73 g_73 hq
          refine lv_iconst (v := 1) hx hb dX1_weigh_76 (by decide) ?_
          refine lv_icmp_ne (tgt := 85) hx hb dX1_weigh_77 (by decide) (fun c_77 => ?_) (fun c_77 => ?_)
          · replace HW := HW.1 c_77
            refine lv_sipush (v := 1000) hx hb dX1_weigh_85 (by decide) ?_
            refine lv_iload hx hb dX1_weigh_88 (lv_at hl 0 rfl) ?_
            refine lv_isub hx hb dX1_weigh_90 ?_
            exact B91 K13 hK13 x1 x2 x4 x3 ((1000 : Int32) - r_43) h_73 g_73 _ _ _ HW hG (lv_sub hl [1, 2, 3, 5] rfl)
          · replace HW := HW.2 c_77
            refine lv_iload hx hb dX1_weigh_80 (lv_at hl 0 rfl) ?_
            refine lv_goto (tgt := 91) hx hb dX1_weigh_82 (by decide) ?_
            exact B91 K13 hK13 x1 x2 x4 x3 r_43 h_73 g_73 _ _ _ HW hG (lv_sub hl [1, 2, 3, 5] rfl)
        · replace HW := HW.2 c_57
          refine lv_iconst (v := 0) hx hb dX1_weigh_60 (by decide) ?_
          exact W.zret (v := (0 : Int32)) hx hb hr rfl (fun t ht hW => ⟨⟨(0 : Int32), (h_54, g_54), rfl, ⟨Or.inl rfl, HW⟩, g_B ht hG⟩, hG.2.2.F ht⟩) hG.2.2.2.2 dX1_weigh_61
  have E0 : ∀ (H : Heap) (locs : List Loc) (ls : Array Slot), gG D cy ad (gA ad s.heap.size) s.heap h g H locs → lv_has ls 6 [(0, .ref (ad 109)), (1, .int x1), (2, .int x2)] → W p l e ({ frames := 2, cells := 0, slots := 0, locals := 46 } : Room) s m args below meth c H locs 0 0 (MQ below (va_Qi (fun (r : Int32) (u : HI × HL) => zb r ∧ Q r u.1 u.2) (gB D cy ad s.heap.size) (gA ad s.heap.size)) args s 0 0 (gA ad s.heap.size)) (F0 m 0 ls []) := by
    intro H locs ls hG hl
    unfold w_X1_weigh at HW
    refine lv_aload_n hx hb dX1_weigh_0 rfl (lv_at hl 0 rfl) ?_
    refine g_getr hx hb hw inG1 hown hK hG gl_109 rfl gk_109 (by decide) 3 (by decide) (by rw [gm_109]; decide) (r := 114) gr_109_3 lk21 dX1_weigh_1 ?_
    refine lv_iconst (v := 1) hx hb dX1_weigh_4 (by decide) ?_
    obtain ⟨P_5, HC_5, HW⟩ := HW
    refine g_callv (g_runV (As := [.int (1 : Int32)]) (rest := []) ⟨hx, hb, hml, hown, hts⟩ (m_X0_set l D cy ad h g H.size 114 (gs_114) (1 : Int32) P_5 HC_5) (cwV 1 hts (gd_V (wm2 88 rfl rfl) (wm2 89 rfl rfl) (wm2 90 rfl rfl) (wm1 11 rfl rfl) (wm2 91 rfl rfl)) rfl rfl rfl (by decide +kernel) ⟨Nat.le_of_ble_eq_true rfl, Nat.le_of_ble_eq_true rfl⟩) hK hNw hG gl_114 rfl gk_114 (by decide) rfl rfl hl.1 rfl (lv_room (Nat.le_of_ble_eq_true rfl)) dX1_weigh_5 ⟨Nat.zero_le _, Nat.zero_le _⟩) hG (fun h_5 g_5 H locs hq hG => ?_)
    replace HW := HW h_5 g_5 hq
    refine lv_iconst (v := 1) hx hb dX1_weigh_8 (by decide) ?_
    refine lv_istore_n (lv' := [(3, .int (1 : Int32)), (0, .ref (ad 109)), (1, .int x1), (2, .int x2)]) hx hb dX1_weigh_9 rfl hl (by decide) rfl (fun ls hl => ?_)
    refine lv_iconst (v := 0) hx hb dX1_weigh_10 (by decide) ?_
    refine lv_istore (lv' := [(4, .int (0 : Int32)), (3, .int (1 : Int32)), (0, .ref (ad 109)), (1, .int x1), (2, .int x2)]) hx hb dX1_weigh_11 hl (by decide) rfl (fun ls hl => ?_)
    obtain ⟨n_13, HW⟩ := HW
    exact L13 n_13 x1 x2 (1 : Int32) (0 : Int32) h_5 g_5 _ _ _ HW hG (lv_sub hl [2, 3, 4, 1, 0] rfl)
  exact E0 _ _ _ hG hl

def j_X1_fit_60 (Q : Int32 → HI → HL → Prop) (K4 : Int32 → Int32 → HI → HL → Prop) (x1 : Int32) (x2 : Int32) (h : HI) (g : HL) : Prop :=
  (∀ x2_60 : Int32, x2_60 = (x2 + 1) → K4 x1 x2_60 h g)
def j_X1_fit_47 (Q : Int32 → HI → HL → Prop) (K4 : Int32 → Int32 → HI → HL → Prop) (x2 : Int32) (h : HI) (g : HL) : Prop :=
  (∃ P_57 : HI → HL → Prop, w_X0_copy 116 114 h g P_57 ∧ ∀ (h_57 : HI) (g_57 : HL), P_57 h_57 g_57 → j_X1_fit_60 Q K4 x2 x2 h_57 g_57)
def b_X1_fit_4 (Q : Int32 → HI → HL → Prop) (K4 : Int32 → Int32 → HI → HL → Prop) (x1 : Int32) (x2 : Int32) (h : HI) (g : HL) : Prop :=
  (((100 : Int32) ≤ x2 → Q x1 h g) ∧ (¬ (100 : Int32) ≤ x2 → (∃ P_19 : Int32 → HI → HL → Prop, w_X1_weigh (x2 / (10 : Int32)) (x2 - x2 / (10 : Int32) * (10 : Int32)) h g P_19 ∧ ∀ (r_19 : Int32) (h_19 : HI) (g_19 : HL), zb r_19 → P_19 r_19 h_19 g_19 → ((¬ r_19 = 0 → ((x1 = (-1 : Int32) → j_X1_fit_47 Q K4 x2 h_19 g_19) ∧ (¬ x1 = (-1 : Int32) → (∃ P_41 : Int32 → HI → HL → Prop, w_X0_above 114 116 h_19 g_19 P_41 ∧ ∀ (r_41 : Int32) (h_41 : HI) (g_41 : HL), zb r_41 → P_41 r_41 h_41 g_41 → ((r_41 = 0 → j_X1_fit_60 Q K4 x1 x2 h_41 g_41) ∧ (¬ r_41 = 0 → j_X1_fit_47 Q K4 x2 h_41 g_41)))))) ∧ (r_19 = 0 → j_X1_fit_60 Q K4 x1 x2 h_19 g_19)))))
def F_X1_fit_4 (Q : Int32 → HI → HL → Prop) (K : Int32 × Int32 × HI × HL → Prop) (q : Int32 × Int32 × HI × HL) : Prop := b_X1_fit_4 Q (fun x1 x2 h g => K (x1, x2, h, g)) q.1 q.2.1 q.2.2.1 q.2.2.2
def w_X1_fit  (h : HI) (g : HL) (Q : Int32 → HI → HL → Prop) : Prop :=
  lpE (F_X1_fit_4 Q) ((-1 : Int32), (0 : Int32), h, g)
set_option maxHeartbeats 8000000 in
set_option maxRecDepth 100000 in
theorem m_X1_fit (l : Launch) (D : va_G) (cy : Nat → ClassId) (ad : Nat → Nat) (h : HI) (g : HL) (sz : Nat)  (Q : Int32 → HI → HL → Prop) (HW : w_X1_fit h g Q) : Met l yX1_fit (wa yX1_fit cX1_fit 3 (some .int)) ({ frames := 3, cells := 0, slots := 0, locals := 81 }) (va_Pc [.ref (ad 109)] (gI D cy ad h g sz)) (va_Qi (fun (r : Int32) (u : HI × HL) => Q r u.1 u.2) (gB D cy ad sz) (gA ad sz)) 0 0 (gA ad sz) := by
  refine Met.ofW (cc := cX1_fit) (maxL := 3) (ret := (some .int)) (by decide) rfl ?_
  intro p e s m args below meth c s₁ B hml hv
  obtain ⟨hav, hsz, hP, hK, hD0, hNw⟩ := hv
  have hx := B.exec
  have hb := B.bytes
  have hr := B.returns
  have hts := atoms_spec (ws := (wa yX1_fit cX1_fit 3 (some .int))) B.pre
  have hw := wa_hw hts
  have hown : s.vm.findClass RX1 = some m.cls := findClass_of_methodNamed B.named
  have hlocks := B.notSynchronized
  subst hsz
  have hG : gG D cy ad (gA ad s.heap.size) s.heap h g s.heap [] := ⟨hP, gA_self hD0, va_S.rf⟩
  clear hP hD0
  have lk21 := hw (.fieldLink RX1 21 "OldWorks$Breaks" "left" "LOldWorks$Big;") (wm2 95 rfl rfl)
  have lk24 := hw (.fieldLink RX1 24 "OldWorks$Breaks" "right" "LOldWorks$Big;") (wm2 96 rfl rfl)
  rw [show (headSpec (wa yX1_fit cX1_fit 3 (some .int)) ({ frames := 3, cells := 0, slots := 0, locals := 81 } : Room)).room = ({ frames := 3, cells := 0, slots := 0, locals := 81 } : Room) from rfl]
  have hl := lv_entry ([.ref (ad 109)]) (n := 3) (Nat.le_of_ble_eq_true rfl)
  rw [show entryFrame m args 3 = entryFrame m ([.ref (ad 109)] : List Value).toArray 3 from by rw [hav], lg_entry_eq]
  generalize (lg_sl ([.ref (ad 109)]) ++ List.replicate (3 - (lg_sl ([.ref (ad 109)])).length) Slot.unset).toArray = ls at hl ⊢
  have hl : lv_has ls 3 [(0, .ref (ad 109))] := hl
  have B60 : ∀ (K4 : Int32 → Int32 → HI → HL → Prop) (hK4 : ∀ (x1 : Int32) (x2 : Int32) (h : HI) (g : HL) (H : Heap) (locs : List Loc) (ls : Array Slot), K4 x1 x2 h g → gG D cy ad (gA ad s.heap.size) s.heap h g H locs → lv_has ls 3 [(0, .ref (ad 109)), (1, .int x1), (2, .int x2)] → W p l e ({ frames := 3, cells := 0, slots := 0, locals := 81 } : Room) s m args below meth c H locs 0 0 (MQ below (va_Qi (fun (r : Int32) (u : HI × HL) => Q r u.1 u.2) (gB D cy ad s.heap.size) (gA ad s.heap.size)) args s 0 0 (gA ad s.heap.size)) (F0 m 4 ls [])) (x1 : Int32) (x2 : Int32) (h : HI) (g : HL) (H : Heap) (locs : List Loc) (ls : Array Slot), j_X1_fit_60 Q K4 x1 x2 h g → gG D cy ad (gA ad s.heap.size) s.heap h g H locs → lv_has ls 3 [(0, .ref (ad 109)), (1, .int x1), (2, .int x2)] → W p l e ({ frames := 3, cells := 0, slots := 0, locals := 81 } : Room) s m args below meth c H locs 0 0 (MQ below (va_Qi (fun (r : Int32) (u : HI × HL) => Q r u.1 u.2) (gB D cy ad s.heap.size) (gA ad s.heap.size)) args s 0 0 (gA ad s.heap.size)) (F0 m 60 ls []) := by
    intro K4 hK4 x1 x2 h g H locs ls HW hG hl
    unfold j_X1_fit_60 at HW
    obtain ⟨x2_60, ex2_60⟩ : ∃ y : Int32, y = (x2 + 1) := ⟨_, rfl⟩
    replace HW := HW x2_60 ex2_60
    refine lv_iinc (v := x2_60) (lv' := [(2, .int x2_60), (0, .ref (ad 109)), (1, .int x1)]) hx hb dX1_fit_60 hl (k := 2) rfl (by rw [ex2_60]; rfl) (by decide) rfl (fun ls hl => ?_)
    refine lv_goto (tgt := 4) hx hb dX1_fit_63 (by decide) ?_
    exact hK4 x1 x2_60 h g _ _ _ HW hG (lv_sub hl [1, 2, 0] rfl)
  have B47 : ∀ (K4 : Int32 → Int32 → HI → HL → Prop) (hK4 : ∀ (x1 : Int32) (x2 : Int32) (h : HI) (g : HL) (H : Heap) (locs : List Loc) (ls : Array Slot), K4 x1 x2 h g → gG D cy ad (gA ad s.heap.size) s.heap h g H locs → lv_has ls 3 [(0, .ref (ad 109)), (1, .int x1), (2, .int x2)] → W p l e ({ frames := 3, cells := 0, slots := 0, locals := 81 } : Room) s m args below meth c H locs 0 0 (MQ below (va_Qi (fun (r : Int32) (u : HI × HL) => Q r u.1 u.2) (gB D cy ad s.heap.size) (gA ad s.heap.size)) args s 0 0 (gA ad s.heap.size)) (F0 m 4 ls [])) (x2 : Int32) (h : HI) (g : HL) (H : Heap) (locs : List Loc) (ls : Array Slot), j_X1_fit_47 Q K4 x2 h g → gG D cy ad (gA ad s.heap.size) s.heap h g H locs → lv_has ls 3 [(0, .ref (ad 109)), (2, .int x2)] → W p l e ({ frames := 3, cells := 0, slots := 0, locals := 81 } : Room) s m args below meth c H locs 0 0 (MQ below (va_Qi (fun (r : Int32) (u : HI × HL) => Q r u.1 u.2) (gB D cy ad s.heap.size) (gA ad s.heap.size)) args s 0 0 (gA ad s.heap.size)) (F0 m 47 ls []) := by
    intro K4 hK4 x2 h g H locs ls HW hG hl
    unfold j_X1_fit_47 at HW
    refine lv_iload_n hx hb dX1_fit_47 rfl (lv_at hl 1 rfl) ?_
    refine lv_istore_n (lv' := [(1, .int x2), (0, .ref (ad 109)), (2, .int x2)]) hx hb dX1_fit_48 rfl hl (by decide) rfl (fun ls hl => ?_)
    refine lv_aload_n hx hb dX1_fit_49 rfl (lv_at hl 1 rfl) ?_
    refine g_getr hx hb hw inG1 hown hK hG gl_109 rfl gk_109 (by decide) 4 (by decide) (by rw [gm_109]; decide) (r := 116) gr_109_4 lk24 dX1_fit_50 ?_
    refine lv_aload_n hx hb dX1_fit_53 rfl (lv_at hl 1 rfl) ?_
    refine g_getr hx hb hw inG1 hown hK hG gl_109 rfl gk_109 (by decide) 3 (by decide) (by rw [gm_109]; decide) (r := 114) gr_109_3 lk21 dX1_fit_54 ?_
    obtain ⟨P_57, HC_57, HW⟩ := HW
    refine g_callv (g_runV (As := [.ref (ad 114)]) (rest := []) ⟨hx, hb, hml, hown, hts⟩ (m_X0_copy l D cy ad h g H.size 116 (gs_116) 114 (gs_114) P_57 HC_57) (cwV 1 hts (gd_V (wm4 119 rfl rfl) (wm4 120 rfl rfl) (wm4 121 rfl rfl) (wm1 11 rfl rfl) (wm4 122 rfl rfl)) rfl rfl rfl (by decide +kernel) ⟨Nat.le_of_ble_eq_true rfl, Nat.le_of_ble_eq_true rfl⟩) hK hNw hG gl_116 rfl gk_116 (by decide) rfl rfl hl.1 rfl (lv_room (Nat.le_of_ble_eq_true rfl)) dX1_fit_57 ⟨Nat.zero_le _, Nat.zero_le _⟩) hG (fun h_57 g_57 H locs hq hG => ?_)
    replace HW := HW h_57 g_57 hq
    exact B60 K4 hK4 x2 x2 h_57 g_57 _ _ _ HW hG (lv_sub hl [1, 0, 2] rfl)
  have L4 : ∀ (n : Nat) (x1 : Int32) (x2 : Int32) (h : HI) (g : HL) (H : Heap) (locs : List Loc) (ls : Array Slot), lpN (F_X1_fit_4 Q) n (x1, x2, h, g) → gG D cy ad (gA ad s.heap.size) s.heap h g H locs → lv_has ls 3 [(0, .ref (ad 109)), (1, .int x1), (2, .int x2)] → W p l e ({ frames := 3, cells := 0, slots := 0, locals := 81 } : Room) s m args below meth c H locs 0 0 (MQ below (va_Qi (fun (r : Int32) (u : HI × HL) => Q r u.1 u.2) (gB D cy ad s.heap.size) (gA ad s.heap.size)) args s 0 0 (gA ad s.heap.size)) (F0 m 4 ls []) := by
    intro n
    induction n with
    | zero => intro x1 x2 h g H locs ls HW; exact HW.elim
    | succ n ih =>
      intro x1 x2 h g H locs ls HW hG hl
      have HW : b_X1_fit_4 Q (fun x1 x2 h g => lpN (F_X1_fit_4 Q) n (x1, x2, h, g)) x1 x2 h g := HW
      generalize hKe : (fun (x1 : Int32) (x2 : Int32) (h : HI) (g : HL) => lpN (F_X1_fit_4 Q) n (x1, x2, h, g)) = K4 at HW
      have hK4 : ∀ (x1 : Int32) (x2 : Int32) (h : HI) (g : HL) (H : Heap) (locs : List Loc) (ls : Array Slot), K4 x1 x2 h g → gG D cy ad (gA ad s.heap.size) s.heap h g H locs → lv_has ls 3 [(0, .ref (ad 109)), (1, .int x1), (2, .int x2)] → W p l e ({ frames := 3, cells := 0, slots := 0, locals := 81 } : Room) s m args below meth c H locs 0 0 (MQ below (va_Qi (fun (r : Int32) (u : HI × HL) => Q r u.1 u.2) (gB D cy ad s.heap.size) (gA ad s.heap.size)) args s 0 0 (gA ad s.heap.size)) (F0 m 4 ls []) := by subst hKe; exact ih
      clear ih
      clear hKe
      unfold b_X1_fit_4 at HW
      refine lv_iload_n hx hb dX1_fit_4 rfl (lv_at hl 2 rfl) ?_
      refine lv_bipush (v := 100) hx hb dX1_fit_5 (by decide) ?_
      refine lv_icmp_ge (tgt := 66) hx hb dX1_fit_7 (by decide) (fun c_7 => ?_) (fun c_7 => ?_)
      · replace HW := HW.1 c_7
        refine lv_iload_n hx hb dX1_fit_66 rfl (lv_at hl 1 rfl) ?_
        exact W.iret (v := x1) hx hb hr (fun t ht hW => ⟨⟨x1, (h, g), rfl, HW, g_B ht hG⟩, hG.2.2.F ht⟩) hG.2.2.2.2 dX1_fit_67
      · replace HW := HW.2 c_7
        refine lv_aload_n hx hb dX1_fit_10 rfl (lv_at hl 0 rfl) ?_
        refine lv_iload_n hx hb dX1_fit_11 rfl (lv_at hl 2 rfl) ?_
        refine lv_bipush (v := 10) hx hb dX1_fit_12 (by decide) ?_
        refine lv_idiv hx hb dX1_fit_14 (by decide) ?_
        refine lv_iload_n hx hb dX1_fit_15 rfl (lv_at hl 2 rfl) ?_
        refine lv_bipush (v := 10) hx hb dX1_fit_16 (by decide) ?_
        refine lv_irem hx hb dX1_fit_18 (by decide) ?_
        obtain ⟨P_19, HC_19, HW⟩ := HW
        refine g_callz (g_runV (As := [.int (x2 / (10 : Int32)), .int (x2 - x2 / (10 : Int32) * (10 : Int32))]) (rest := []) ⟨hx, hb, hml, hown, hts⟩ (m_X1_weigh l D cy ad h g H.size (x2 / (10 : Int32)) (x2 - x2 / (10 : Int32) * (10 : Int32)) P_19 HC_19) (cwV 2 hts (gd_V (wm4 112 rfl rfl) (wm4 114 rfl rfl) (wmp2 (q := (yX1_weigh, 7)) 10 rfl) (wm1 10 rfl rfl) (wm4 115 rfl rfl)) rfl rfl rfl (by decide +kernel) ⟨Nat.le_of_ble_eq_true rfl, Nat.le_of_ble_eq_true rfl⟩) hK hNw hG gl_109 rfl gk_109 (by decide) rfl rfl hl.1 rfl (lv_room (Nat.le_of_ble_eq_true rfl)) dX1_fit_19 ⟨Nat.zero_le _, Nat.zero_le _⟩) hG (fun r_19 h_19 g_19 H locs hz hq hG => ?_)
        replace HW := HW r_19 h_19 g_19 hz hq
        refine lv_if_ne (tgt := 28) hx hb dX1_fit_22 (by decide) (fun c_22 => ?_) (fun c_22 => ?_)
        · replace HW := HW.1 c_22
          refine lv_iload_n hx hb dX1_fit_28 rfl (lv_at hl 1 rfl) ?_
          refine lv_iconst (v := (-1)) hx hb dX1_fit_29 (by decide) ?_
          refine lv_icmp_eq (tgt := 47) hx hb dX1_fit_30 (by decide) (fun c_30 => ?_) (fun c_30 => ?_)
          · replace HW := HW.1 c_30
            exact B47 K4 hK4 x2 h_19 g_19 _ _ _ HW hG (lv_sub hl [0, 2] rfl)
          · replace HW := HW.2 c_30
            refine lv_aload_n hx hb dX1_fit_33 rfl (lv_at hl 0 rfl) ?_
            refine g_getr hx hb hw inG1 hown hK hG gl_109 rfl gk_109 (by decide) 3 (by decide) (by rw [gm_109]; decide) (r := 114) gr_109_3 lk21 dX1_fit_34 ?_
            refine lv_aload_n hx hb dX1_fit_37 rfl (lv_at hl 0 rfl) ?_
            refine g_getr hx hb hw inG1 hown hK hG gl_109 rfl gk_109 (by decide) 4 (by decide) (by rw [gm_109]; decide) (r := 116) gr_109_4 lk24 dX1_fit_38 ?_
            obtain ⟨P_41, HC_41, HW⟩ := HW
            refine g_callz (g_runV (As := [.ref (ad 116)]) (rest := []) ⟨hx, hb, hml, hown, hts⟩ (m_X0_above l D cy ad h_19 g_19 H.size 114 (gs_114) 116 (gs_116) P_41 HC_41) (cwV 1 hts (gd_V (wm4 76 rfl rfl) (wm4 77 rfl rfl) (wm4 78 rfl rfl) (wm1 11 rfl rfl) (wm4 79 rfl rfl)) rfl rfl rfl (by decide +kernel) ⟨Nat.le_of_ble_eq_true rfl, Nat.le_of_ble_eq_true rfl⟩) hK hNw hG gl_114 rfl gk_114 (by decide) rfl rfl hl.1 rfl (lv_room (Nat.le_of_ble_eq_true rfl)) dX1_fit_41 ⟨Nat.zero_le _, Nat.zero_le _⟩) hG (fun r_41 h_41 g_41 H locs hz hq hG => ?_)
            replace HW := HW r_41 h_41 g_41 hz hq
            refine lv_if_eq (tgt := 60) hx hb dX1_fit_44 (by decide) (fun c_44 => ?_) (fun c_44 => ?_)
            · replace HW := HW.1 c_44
              exact B60 K4 hK4 x1 x2 h_41 g_41 _ _ _ HW hG (lv_sub hl [0, 1, 2] rfl)
            · replace HW := HW.2 c_44
              exact B47 K4 hK4 x2 h_41 g_41 _ _ _ HW hG (lv_sub hl [0, 2] rfl)
        · replace HW := HW.2 c_22
          refine lv_goto (tgt := 60) hx hb dX1_fit_25 (by decide) ?_
          exact B60 K4 hK4 x1 x2 h_19 g_19 _ _ _ HW hG (lv_sub hl [0, 1, 2] rfl)
  have E0 : ∀ (H : Heap) (locs : List Loc) (ls : Array Slot), gG D cy ad (gA ad s.heap.size) s.heap h g H locs → lv_has ls 3 [(0, .ref (ad 109))] → W p l e ({ frames := 3, cells := 0, slots := 0, locals := 81 } : Room) s m args below meth c H locs 0 0 (MQ below (va_Qi (fun (r : Int32) (u : HI × HL) => Q r u.1 u.2) (gB D cy ad s.heap.size) (gA ad s.heap.size)) args s 0 0 (gA ad s.heap.size)) (F0 m 0 ls []) := by
    intro H locs ls hG hl
    unfold w_X1_fit at HW
    refine lv_iconst (v := (-1)) hx hb dX1_fit_0 (by decide) ?_
    refine lv_istore_n (lv' := [(1, .int (-1 : Int32)), (0, .ref (ad 109))]) hx hb dX1_fit_1 rfl hl (by decide) rfl (fun ls hl => ?_)
    refine lv_iconst (v := 0) hx hb dX1_fit_2 (by decide) ?_
    refine lv_istore_n (lv' := [(2, .int (0 : Int32)), (1, .int (-1 : Int32)), (0, .ref (ad 109))]) hx hb dX1_fit_3 rfl hl (by decide) rfl (fun ls hl => ?_)
    obtain ⟨n_4, HW⟩ := HW
    exact L4 n_4 (-1 : Int32) (0 : Int32) h g _ _ _ HW hG (lv_sub hl [2, 1, 0] rfl)
  exact E0 _ _ _ hG hl

def j_X1_reached_84 (Q : Int32 → HI → HL → Prop) (K18 : Int32 → Int32 → Int32 → HI → HL → Prop) (K43 : Int32 → Int32 → Int32 → Int32 → HI → HL → Prop) (x2 : Int32) (x3 : Int32) (x4 : Int32) (x5 : Int32) (h : HI) (g : HL) : Prop :=
  (∀ x5_84 : Int32, x5_84 = (x5 + 1) → K43 x2 x3 x4 x5_84 h g)
def b_X1_reached_43 (Q : Int32 → HI → HL → Prop) (K18 : Int32 → Int32 → Int32 → HI → HL → Prop) (K43 : Int32 → Int32 → Int32 → Int32 → HI → HL → Prop) (x2 : Int32) (x3 : Int32) (x4 : Int32) (x5 : Int32) (h : HI) (g : HL) : Prop :=
  (∃ P_52 : Int32 → HI → HL → Prop, w_X8_rows 2 h g P_52 ∧ ∀ (r_52 : Int32) (h_52 : HI) (g_52 : HL), P_52 r_52 h_52 g_52 → ((r_52 ≤ x5 → (∀ x4_90 : Int32, x4_90 = (x4 + 1) → K18 x2 x3 x4_90 h_52 g_52)) ∧ (¬ r_52 ≤ x5 → ((¬ ((x2 >>> (x5 &&& 31)) &&& (1 : Int32)) = (1 : Int32) → j_X1_reached_84 Q K18 K43 x2 x3 x4 x5 h_52 g_52) ∧ (((x2 >>> (x5 &&& 31)) &&& (1 : Int32)) = (1 : Int32) → (∃ P_79 : Int32 → HI → HL → Prop, w_X8_at 2 x5 (4 : Int32) h_52 g_52 P_79 ∧ ∀ (r_79 : Int32) (h_79 : HI) (g_79 : HL), P_79 r_79 h_79 g_79 → (∀ x2_83 : Int32, x2_83 = (x2 ||| r_79) → j_X1_reached_84 Q K18 K43 x2_83 x3 x4 x5 h_79 g_79)))))))
def F_X1_reached_43 (Q : Int32 → HI → HL → Prop) (K18 : Int32 → Int32 → Int32 → HI → HL → Prop) (K : Int32 × Int32 × Int32 × Int32 × HI × HL → Prop) (q : Int32 × Int32 × Int32 × Int32 × HI × HL) : Prop := b_X1_reached_43 Q K18 (fun x2 x3 x4 x5 h g => K (x2, x3, x4, x5, h, g)) q.1 q.2.1 q.2.2.1 q.2.2.2.1 q.2.2.2.2.1 q.2.2.2.2.2
def b_X1_reached_18 (Q : Int32 → HI → HL → Prop) (K18 : Int32 → Int32 → Int32 → HI → HL → Prop) (x2 : Int32) (x3 : Int32) (x4 : Int32) (h : HI) (g : HL) : Prop :=
  (∃ P_27 : Int32 → HI → HL → Prop, w_X8_rows 2 h g P_27 ∧ ∀ (r_27 : Int32) (h_27 : HI) (g_27 : HL), P_27 r_27 h_27 g_27 → ((r_27 ≤ x4 → Q x2 h_27 g_27) ∧ (¬ r_27 ≤ x4 → ((x2 = x3 → Q x2 h_27 g_27) ∧ (¬ x2 = x3 → lpE (F_X1_reached_43 Q K18) (x2, x2, x4, (0 : Int32), h_27, g_27))))))
def F_X1_reached_18 (Q : Int32 → HI → HL → Prop) (K : Int32 × Int32 × Int32 × HI × HL → Prop) (q : Int32 × Int32 × Int32 × HI × HL) : Prop := b_X1_reached_18 Q (fun x2 x3 x4 h g => K (x2, x3, x4, h, g)) q.1 q.2.1 q.2.2.1 q.2.2.2.1 q.2.2.2.2
def w_X1_reached (x1 : Int32) (h : HI) (g : HL) (Q : Int32 → HI → HL → Prop) : Prop :=
  (∃ P_9 : Int32 → HI → HL → Prop, w_X8_at 2 x1 (4 : Int32) h g P_9 ∧ ∀ (r_9 : Int32) (h_9 : HI) (g_9 : HL), P_9 r_9 h_9 g_9 → lpE (F_X1_reached_18 Q) (r_9, (0 : Int32), (0 : Int32), h_9, g_9))
set_option maxHeartbeats 8000000 in
set_option maxRecDepth 100000 in
theorem m_X1_reached (l : Launch) (D : va_G) (cy : Nat → ClassId) (ad : Nat → Nat) (h : HI) (g : HL) (sz : Nat) (x1 : Int32) (Q : Int32 → HI → HL → Prop) (HW : w_X1_reached x1 h g Q) : Met l yX1_reached (wa yX1_reached cX1_reached 6 (some .int)) ({ frames := 1, cells := 0, slots := 0, locals := 23 }) (va_Pc [.ref (ad 109), .int x1] (gI D cy ad h g sz)) (va_Qi (fun (r : Int32) (u : HI × HL) => Q r u.1 u.2) (gB D cy ad sz) (gA ad sz)) 0 0 (gA ad sz) := by
  refine Met.ofW (cc := cX1_reached) (maxL := 6) (ret := (some .int)) (by decide) rfl ?_
  intro p e s m args below meth c s₁ B hml hv
  obtain ⟨hav, hsz, hP, hK, hD0, hNw⟩ := hv
  have hx := B.exec
  have hb := B.bytes
  have hr := B.returns
  have hts := atoms_spec (ws := (wa yX1_reached cX1_reached 6 (some .int))) B.pre
  have hw := wa_hw hts
  have hown : s.vm.findClass RX1 = some m.cls := findClass_of_methodNamed B.named
  have hlocks := B.notSynchronized
  subst hsz
  have hG : gG D cy ad (gA ad s.heap.size) s.heap h g s.heap [] := ⟨hP, gA_self hD0, va_S.rf⟩
  clear hP hD0
  have lk27 := hw (.fieldLink RX1 27 "OldWorks$Breaks" "shop" "LOldWorks$Shop;") (wm2 92 rfl rfl)
  have lk63 := hw (.fieldLink RX1 63 "OldWorks$Shop" "parts" "LOldWorks$Table;") (wm1 63 rfl rfl)
  rw [show (headSpec (wa yX1_reached cX1_reached 6 (some .int)) ({ frames := 1, cells := 0, slots := 0, locals := 23 } : Room)).room = ({ frames := 1, cells := 0, slots := 0, locals := 23 } : Room) from rfl]
  have hl := lv_entry ([.ref (ad 109), .int x1]) (n := 6) (Nat.le_of_ble_eq_true rfl)
  rw [show entryFrame m args 6 = entryFrame m ([.ref (ad 109), .int x1] : List Value).toArray 6 from by rw [hav], lg_entry_eq]
  generalize (lg_sl ([.ref (ad 109), .int x1]) ++ List.replicate (6 - (lg_sl ([.ref (ad 109), .int x1])).length) Slot.unset).toArray = ls at hl ⊢
  have hl : lv_has ls 6 [(0, .ref (ad 109)), (1, .int x1)] := hl
  have B84 : ∀ (K18 : Int32 → Int32 → Int32 → HI → HL → Prop) (hK18 : ∀ (x2 : Int32) (x3 : Int32) (x4 : Int32) (h : HI) (g : HL) (H : Heap) (locs : List Loc) (ls : Array Slot), K18 x2 x3 x4 h g → gG D cy ad (gA ad s.heap.size) s.heap h g H locs → lv_has ls 6 [(0, .ref (ad 109)), (2, .int x2), (3, .int x3), (4, .int x4)] → W p l e ({ frames := 1, cells := 0, slots := 0, locals := 23 } : Room) s m args below meth c H locs 0 0 (MQ below (va_Qi (fun (r : Int32) (u : HI × HL) => Q r u.1 u.2) (gB D cy ad s.heap.size) (gA ad s.heap.size)) args s 0 0 (gA ad s.heap.size)) (F0 m 18 ls [])) (K43 : Int32 → Int32 → Int32 → Int32 → HI → HL → Prop) (hK43 : ∀ (x2 : Int32) (x3 : Int32) (x4 : Int32) (x5 : Int32) (h : HI) (g : HL) (H : Heap) (locs : List Loc) (ls : Array Slot), K43 x2 x3 x4 x5 h g → gG D cy ad (gA ad s.heap.size) s.heap h g H locs → lv_has ls 6 [(0, .ref (ad 109)), (2, .int x2), (3, .int x3), (4, .int x4), (5, .int x5)] → W p l e ({ frames := 1, cells := 0, slots := 0, locals := 23 } : Room) s m args below meth c H locs 0 0 (MQ below (va_Qi (fun (r : Int32) (u : HI × HL) => Q r u.1 u.2) (gB D cy ad s.heap.size) (gA ad s.heap.size)) args s 0 0 (gA ad s.heap.size)) (F0 m 43 ls [])) (x2 : Int32) (x3 : Int32) (x4 : Int32) (x5 : Int32) (h : HI) (g : HL) (H : Heap) (locs : List Loc) (ls : Array Slot), j_X1_reached_84 Q K18 K43 x2 x3 x4 x5 h g → gG D cy ad (gA ad s.heap.size) s.heap h g H locs → lv_has ls 6 [(0, .ref (ad 109)), (2, .int x2), (3, .int x3), (4, .int x4), (5, .int x5)] → W p l e ({ frames := 1, cells := 0, slots := 0, locals := 23 } : Room) s m args below meth c H locs 0 0 (MQ below (va_Qi (fun (r : Int32) (u : HI × HL) => Q r u.1 u.2) (gB D cy ad s.heap.size) (gA ad s.heap.size)) args s 0 0 (gA ad s.heap.size)) (F0 m 84 ls []) := by
    intro K18 hK18 K43 hK43 x2 x3 x4 x5 h g H locs ls HW hG hl
    unfold j_X1_reached_84 at HW
    obtain ⟨x5_84, ex5_84⟩ : ∃ y : Int32, y = (x5 + 1) := ⟨_, rfl⟩
    replace HW := HW x5_84 ex5_84
    refine lv_iinc (v := x5_84) (lv' := [(5, .int x5_84), (0, .ref (ad 109)), (2, .int x2), (3, .int x3), (4, .int x4)]) hx hb dX1_reached_84 hl (k := 4) rfl (by rw [ex5_84]; rfl) (by decide) rfl (fun ls hl => ?_)
    refine lv_goto (tgt := 43) hx hb dX1_reached_87 (by decide) ?_
    exact hK43 x2 x3 x4 x5_84 h g _ _ _ HW hG (lv_sub hl [1, 2, 3, 4, 0] rfl)
  have L43 : ∀ (K18 : Int32 → Int32 → Int32 → HI → HL → Prop) (hK18 : ∀ (x2 : Int32) (x3 : Int32) (x4 : Int32) (h : HI) (g : HL) (H : Heap) (locs : List Loc) (ls : Array Slot), K18 x2 x3 x4 h g → gG D cy ad (gA ad s.heap.size) s.heap h g H locs → lv_has ls 6 [(0, .ref (ad 109)), (2, .int x2), (3, .int x3), (4, .int x4)] → W p l e ({ frames := 1, cells := 0, slots := 0, locals := 23 } : Room) s m args below meth c H locs 0 0 (MQ below (va_Qi (fun (r : Int32) (u : HI × HL) => Q r u.1 u.2) (gB D cy ad s.heap.size) (gA ad s.heap.size)) args s 0 0 (gA ad s.heap.size)) (F0 m 18 ls [])) (n : Nat) (x2 : Int32) (x3 : Int32) (x4 : Int32) (x5 : Int32) (h : HI) (g : HL) (H : Heap) (locs : List Loc) (ls : Array Slot), lpN (F_X1_reached_43 Q K18) n (x2, x3, x4, x5, h, g) → gG D cy ad (gA ad s.heap.size) s.heap h g H locs → lv_has ls 6 [(0, .ref (ad 109)), (2, .int x2), (3, .int x3), (4, .int x4), (5, .int x5)] → W p l e ({ frames := 1, cells := 0, slots := 0, locals := 23 } : Room) s m args below meth c H locs 0 0 (MQ below (va_Qi (fun (r : Int32) (u : HI × HL) => Q r u.1 u.2) (gB D cy ad s.heap.size) (gA ad s.heap.size)) args s 0 0 (gA ad s.heap.size)) (F0 m 43 ls []) := by
    intro K18 hK18 n
    induction n with
    | zero => intro x2 x3 x4 x5 h g H locs ls HW; exact HW.elim
    | succ n ih =>
      intro x2 x3 x4 x5 h g H locs ls HW hG hl
      have HW : b_X1_reached_43 Q K18 (fun x2 x3 x4 x5 h g => lpN (F_X1_reached_43 Q K18) n (x2, x3, x4, x5, h, g)) x2 x3 x4 x5 h g := HW
      generalize hKe : (fun (x2 : Int32) (x3 : Int32) (x4 : Int32) (x5 : Int32) (h : HI) (g : HL) => lpN (F_X1_reached_43 Q K18) n (x2, x3, x4, x5, h, g)) = K43 at HW
      have hK43 : ∀ (x2 : Int32) (x3 : Int32) (x4 : Int32) (x5 : Int32) (h : HI) (g : HL) (H : Heap) (locs : List Loc) (ls : Array Slot), K43 x2 x3 x4 x5 h g → gG D cy ad (gA ad s.heap.size) s.heap h g H locs → lv_has ls 6 [(0, .ref (ad 109)), (2, .int x2), (3, .int x3), (4, .int x4), (5, .int x5)] → W p l e ({ frames := 1, cells := 0, slots := 0, locals := 23 } : Room) s m args below meth c H locs 0 0 (MQ below (va_Qi (fun (r : Int32) (u : HI × HL) => Q r u.1 u.2) (gB D cy ad s.heap.size) (gA ad s.heap.size)) args s 0 0 (gA ad s.heap.size)) (F0 m 43 ls []) := by subst hKe; exact ih
      clear ih
      clear hKe
      unfold b_X1_reached_43 at HW
      refine lv_iload hx hb dX1_reached_43 (lv_at hl 4 rfl) ?_
      refine lv_aload_n hx hb dX1_reached_45 rfl (lv_at hl 0 rfl) ?_
      refine g_getr hx hb hw inG1 hown hK hG gl_109 rfl gk_109 (by decide) 0 (by decide) (by rw [gm_109]; decide) (r := 1) gr_109_0 lk27 dX1_reached_46 ?_
      refine g_getr hx hb hw inG6 hown hK hG gl_1 rfl gk_1 (by decide) 0 (by decide) (by rw [gm_1]; decide) (r := 2) gr_1_0 lk63 dX1_reached_49 ?_
      obtain ⟨P_52, HC_52, HW⟩ := HW
      refine g_calli (g_runV (As := []) (rest := [.int x5]) ⟨hx, hb, hml, hown, hts⟩ (m_X8_rows l D cy ad h g H.size 2 (gs_2) P_52 HC_52) (cwV 0 hts (gd_V (wm4 116 rfl rfl) (wm2 217 rfl rfl) (wm2 218 rfl rfl) (wm1 3 rfl rfl) (wm2 219 rfl rfl)) rfl rfl rfl (by decide +kernel) ⟨Nat.le_of_ble_eq_true rfl, Nat.le_of_ble_eq_true rfl⟩) hK hNw hG gl_2 rfl gk_2 (by decide) rfl rfl hl.1 rfl (lv_room (Nat.le_of_ble_eq_true rfl)) dX1_reached_52 ⟨Nat.zero_le _, Nat.zero_le _⟩) hG (fun r_52 h_52 g_52 H locs hq hG => ?_)
      replace HW := HW r_52 h_52 g_52 hq
      refine lv_icmp_ge (tgt := 90) hx hb dX1_reached_55 (by decide) (fun c_55 => ?_) (fun c_55 => ?_)
      · replace HW := HW.1 c_55
        obtain ⟨x4_90, ex4_90⟩ : ∃ y : Int32, y = (x4 + 1) := ⟨_, rfl⟩
        replace HW := HW x4_90 ex4_90
        refine lv_iinc (v := x4_90) (lv' := [(4, .int x4_90), (0, .ref (ad 109)), (2, .int x2), (3, .int x3), (5, .int x5)]) hx hb dX1_reached_90 hl (k := 3) rfl (by rw [ex4_90]; rfl) (by decide) rfl (fun ls hl => ?_)
        refine lv_goto (tgt := 18) hx hb dX1_reached_93 (by decide) ?_
        exact hK18 x2 x3 x4_90 h_52 g_52 _ _ _ HW hG (lv_sub hl [1, 2, 3, 0] rfl)
      · replace HW := HW.2 c_55
        refine lv_iload_n hx hb dX1_reached_58 rfl (lv_at hl 1 rfl) ?_
        refine lv_iload hx hb dX1_reached_59 (lv_at hl 4 rfl) ?_
        refine lv_ishr hx hb dX1_reached_61 ?_
        refine lv_iconst (v := 1) hx hb dX1_reached_62 (by decide) ?_
        refine lv_iand hx hb dX1_reached_63 ?_
        refine lv_iconst (v := 1) hx hb dX1_reached_64 (by decide) ?_
        refine lv_icmp_ne (tgt := 84) hx hb dX1_reached_65 (by decide) (fun c_65 => ?_) (fun c_65 => ?_)
        · replace HW := HW.1 c_65
          exact B84 K18 hK18 K43 hK43 x2 x3 x4 x5 h_52 g_52 _ _ _ HW hG (lv_sub hl [0, 1, 2, 3, 4] rfl)
        · replace HW := HW.2 c_65
          refine lv_iload_n hx hb dX1_reached_68 rfl (lv_at hl 1 rfl) ?_
          refine lv_aload_n hx hb dX1_reached_69 rfl (lv_at hl 0 rfl) ?_
          refine g_getr hx hb hw inG1 hown hK hG gl_109 rfl gk_109 (by decide) 0 (by decide) (by rw [gm_109]; decide) (r := 1) gr_109_0 lk27 dX1_reached_70 ?_
          refine g_getr hx hb hw inG6 hown hK hG gl_1 rfl gk_1 (by decide) 0 (by decide) (by rw [gm_1]; decide) (r := 2) gr_1_0 lk63 dX1_reached_73 ?_
          refine lv_iload hx hb dX1_reached_76 (lv_at hl 4 rfl) ?_
          refine lv_iconst (v := 4) hx hb dX1_reached_78 (by decide) ?_
          obtain ⟨P_79, HC_79, HW⟩ := HW
          refine g_calli (g_runV (As := [.int x5, .int (4 : Int32)]) (rest := [.int x2]) ⟨hx, hb, hml, hown, hts⟩ (m_X8_at l D cy ad h_52 g_52 H.size 2 (gs_2) x5 (4 : Int32) P_79 HC_79) (cwV 2 hts (gd_V (wm4 53 rfl rfl) (wm2 221 rfl rfl) (wm2 222 rfl rfl) (wm1 3 rfl rfl) (wm2 223 rfl rfl)) rfl rfl rfl (by decide +kernel) ⟨Nat.le_of_ble_eq_true rfl, Nat.le_of_ble_eq_true rfl⟩) hK hNw hG gl_2 rfl gk_2 (by decide) rfl rfl hl.1 rfl (lv_room (Nat.le_of_ble_eq_true rfl)) dX1_reached_79 ⟨Nat.zero_le _, Nat.zero_le _⟩) hG (fun r_79 h_79 g_79 H locs hq hG => ?_)
          replace HW := HW r_79 h_79 g_79 hq
          refine lv_ior hx hb dX1_reached_82 ?_
          refine lv_topi (fun x2_83 ex2_83 => ?_)
          replace HW := HW x2_83 ex2_83
          refine lv_istore_n (lv' := [(2, .int x2_83), (0, .ref (ad 109)), (3, .int x3), (4, .int x4), (5, .int x5)]) hx hb dX1_reached_83 rfl hl (by decide) rfl (fun ls hl => ?_)
          exact B84 K18 hK18 K43 hK43 x2_83 x3 x4 x5 h_79 g_79 _ _ _ HW hG (lv_sub hl [1, 0, 2, 3, 4] rfl)
  have L18 : ∀ (n : Nat) (x2 : Int32) (x3 : Int32) (x4 : Int32) (h : HI) (g : HL) (H : Heap) (locs : List Loc) (ls : Array Slot), lpN (F_X1_reached_18 Q) n (x2, x3, x4, h, g) → gG D cy ad (gA ad s.heap.size) s.heap h g H locs → lv_has ls 6 [(0, .ref (ad 109)), (2, .int x2), (3, .int x3), (4, .int x4)] → W p l e ({ frames := 1, cells := 0, slots := 0, locals := 23 } : Room) s m args below meth c H locs 0 0 (MQ below (va_Qi (fun (r : Int32) (u : HI × HL) => Q r u.1 u.2) (gB D cy ad s.heap.size) (gA ad s.heap.size)) args s 0 0 (gA ad s.heap.size)) (F0 m 18 ls []) := by
    intro n
    induction n with
    | zero => intro x2 x3 x4 h g H locs ls HW; exact HW.elim
    | succ n ih =>
      intro x2 x3 x4 h g H locs ls HW hG hl
      have HW : b_X1_reached_18 Q (fun x2 x3 x4 h g => lpN (F_X1_reached_18 Q) n (x2, x3, x4, h, g)) x2 x3 x4 h g := HW
      generalize hKe : (fun (x2 : Int32) (x3 : Int32) (x4 : Int32) (h : HI) (g : HL) => lpN (F_X1_reached_18 Q) n (x2, x3, x4, h, g)) = K18 at HW
      have hK18 : ∀ (x2 : Int32) (x3 : Int32) (x4 : Int32) (h : HI) (g : HL) (H : Heap) (locs : List Loc) (ls : Array Slot), K18 x2 x3 x4 h g → gG D cy ad (gA ad s.heap.size) s.heap h g H locs → lv_has ls 6 [(0, .ref (ad 109)), (2, .int x2), (3, .int x3), (4, .int x4)] → W p l e ({ frames := 1, cells := 0, slots := 0, locals := 23 } : Room) s m args below meth c H locs 0 0 (MQ below (va_Qi (fun (r : Int32) (u : HI × HL) => Q r u.1 u.2) (gB D cy ad s.heap.size) (gA ad s.heap.size)) args s 0 0 (gA ad s.heap.size)) (F0 m 18 ls []) := by subst hKe; exact ih
      clear ih
      clear hKe
      unfold b_X1_reached_18 at HW
      refine lv_iload hx hb dX1_reached_18 (lv_at hl 3 rfl) ?_
      refine lv_aload_n hx hb dX1_reached_20 rfl (lv_at hl 0 rfl) ?_
      refine g_getr hx hb hw inG1 hown hK hG gl_109 rfl gk_109 (by decide) 0 (by decide) (by rw [gm_109]; decide) (r := 1) gr_109_0 lk27 dX1_reached_21 ?_
      refine g_getr hx hb hw inG6 hown hK hG gl_1 rfl gk_1 (by decide) 0 (by decide) (by rw [gm_1]; decide) (r := 2) gr_1_0 lk63 dX1_reached_24 ?_
      obtain ⟨P_27, HC_27, HW⟩ := HW
      refine g_calli (g_runV (As := []) (rest := [.int x4]) ⟨hx, hb, hml, hown, hts⟩ (m_X8_rows l D cy ad h g H.size 2 (gs_2) P_27 HC_27) (cwV 0 hts (gd_V (wm4 116 rfl rfl) (wm2 217 rfl rfl) (wm2 218 rfl rfl) (wm1 3 rfl rfl) (wm2 219 rfl rfl)) rfl rfl rfl (by decide +kernel) ⟨Nat.le_of_ble_eq_true rfl, Nat.le_of_ble_eq_true rfl⟩) hK hNw hG gl_2 rfl gk_2 (by decide) rfl rfl hl.1 rfl (lv_room (Nat.le_of_ble_eq_true rfl)) dX1_reached_27 ⟨Nat.zero_le _, Nat.zero_le _⟩) hG (fun r_27 h_27 g_27 H locs hq hG => ?_)
      replace HW := HW r_27 h_27 g_27 hq
      refine lv_icmp_ge (tgt := 96) hx hb dX1_reached_30 (by decide) (fun c_30 => ?_) (fun c_30 => ?_)
      · replace HW := HW.1 c_30
        refine lv_iload_n hx hb dX1_reached_96 rfl (lv_at hl 1 rfl) ?_
        exact W.iret (v := x2) hx hb hr (fun t ht hW => ⟨⟨x2, (h_27, g_27), rfl, HW, g_B ht hG⟩, hG.2.2.F ht⟩) hG.2.2.2.2 dX1_reached_97
      · replace HW := HW.2 c_30
        refine lv_iload_n hx hb dX1_reached_33 rfl (lv_at hl 1 rfl) ?_
        refine lv_iload_n hx hb dX1_reached_34 rfl (lv_at hl 2 rfl) ?_
        refine lv_icmp_eq (tgt := 96) hx hb dX1_reached_35 (by decide) (fun c_35 => ?_) (fun c_35 => ?_)
        · replace HW := HW.1 c_35
          refine lv_iload_n hx hb dX1_reached_96 rfl (lv_at hl 1 rfl) ?_
          exact W.iret (v := x2) hx hb hr (fun t ht hW => ⟨⟨x2, (h_27, g_27), rfl, HW, g_B ht hG⟩, hG.2.2.F ht⟩) hG.2.2.2.2 dX1_reached_97
        · replace HW := HW.2 c_35
          refine lv_iload_n hx hb dX1_reached_38 rfl (lv_at hl 1 rfl) ?_
          refine lv_istore_n (lv' := [(3, .int x2), (0, .ref (ad 109)), (2, .int x2), (4, .int x4)]) hx hb dX1_reached_39 rfl hl (by decide) rfl (fun ls hl => ?_)
          refine lv_iconst (v := 0) hx hb dX1_reached_40 (by decide) ?_
          refine lv_istore (lv' := [(5, .int (0 : Int32)), (3, .int x2), (0, .ref (ad 109)), (2, .int x2), (4, .int x4)]) hx hb dX1_reached_41 hl (by decide) rfl (fun ls hl => ?_)
          obtain ⟨n_43, HW⟩ := HW
          exact L43 K18 hK18 n_43 x2 x2 x4 (0 : Int32) h_27 g_27 _ _ _ HW hG (lv_sub hl [2, 3, 1, 4, 0] rfl)
  have E0 : ∀ (H : Heap) (locs : List Loc) (ls : Array Slot), gG D cy ad (gA ad s.heap.size) s.heap h g H locs → lv_has ls 6 [(0, .ref (ad 109)), (1, .int x1)] → W p l e ({ frames := 1, cells := 0, slots := 0, locals := 23 } : Room) s m args below meth c H locs 0 0 (MQ below (va_Qi (fun (r : Int32) (u : HI × HL) => Q r u.1 u.2) (gB D cy ad s.heap.size) (gA ad s.heap.size)) args s 0 0 (gA ad s.heap.size)) (F0 m 0 ls []) := by
    intro H locs ls hG hl
    unfold w_X1_reached at HW
    refine lv_aload_n hx hb dX1_reached_0 rfl (lv_at hl 0 rfl) ?_
    refine g_getr hx hb hw inG1 hown hK hG gl_109 rfl gk_109 (by decide) 0 (by decide) (by rw [gm_109]; decide) (r := 1) gr_109_0 lk27 dX1_reached_1 ?_
    refine g_getr hx hb hw inG6 hown hK hG gl_1 rfl gk_1 (by decide) 0 (by decide) (by rw [gm_1]; decide) (r := 2) gr_1_0 lk63 dX1_reached_4 ?_
    refine lv_iload_n hx hb dX1_reached_7 rfl (lv_at hl 1 rfl) ?_
    refine lv_iconst (v := 4) hx hb dX1_reached_8 (by decide) ?_
    obtain ⟨P_9, HC_9, HW⟩ := HW
    refine g_calli (g_runV (As := [.int x1, .int (4 : Int32)]) (rest := []) ⟨hx, hb, hml, hown, hts⟩ (m_X8_at l D cy ad h g H.size 2 (gs_2) x1 (4 : Int32) P_9 HC_9) (cwV 2 hts (gd_V (wm4 53 rfl rfl) (wm2 221 rfl rfl) (wm2 222 rfl rfl) (wm1 3 rfl rfl) (wm2 223 rfl rfl)) rfl rfl rfl (by decide +kernel) ⟨Nat.le_of_ble_eq_true rfl, Nat.le_of_ble_eq_true rfl⟩) hK hNw hG gl_2 rfl gk_2 (by decide) rfl rfl hl.1 rfl (lv_room (Nat.le_of_ble_eq_true rfl)) dX1_reached_9 ⟨Nat.zero_le _, Nat.zero_le _⟩) hG (fun r_9 h_9 g_9 H locs hq hG => ?_)
    replace HW := HW r_9 h_9 g_9 hq
    refine lv_istore_n (lv' := [(2, .int r_9), (0, .ref (ad 109)), (1, .int x1)]) hx hb dX1_reached_12 rfl hl (by decide) rfl (fun ls hl => ?_)
    refine lv_iconst (v := 0) hx hb dX1_reached_13 (by decide) ?_
    refine lv_istore_n (lv' := [(3, .int (0 : Int32)), (2, .int r_9), (0, .ref (ad 109)), (1, .int x1)]) hx hb dX1_reached_14 rfl hl (by decide) rfl (fun ls hl => ?_)
    refine lv_iconst (v := 0) hx hb dX1_reached_15 (by decide) ?_
    refine lv_istore (lv' := [(4, .int (0 : Int32)), (3, .int (0 : Int32)), (2, .int r_9), (0, .ref (ad 109)), (1, .int x1)]) hx hb dX1_reached_16 hl (by decide) rfl (fun ls hl => ?_)
    obtain ⟨n_18, HW⟩ := HW
    exact L18 n_18 r_9 (0 : Int32) (0 : Int32) h_9 g_9 _ _ _ HW hG (lv_sub hl [3, 2, 1, 0] rfl)
  exact E0 _ _ _ hG hl

def w_X8_has (o : Nat) (x1 : Int32) (h : HI) (g : HL) (Q : Int32 → HI → HL → Prop) : Prop :=
  ((x1 < (0 : Int32) → Q (0 : Int32) h g) ∧ (¬ x1 < (0 : Int32) → (((h o 3) ≤ x1 → Q (0 : Int32) h g) ∧ (¬ (h o 3) ≤ x1 → Q (1 : Int32) h g))))
set_option maxHeartbeats 8000000 in
set_option maxRecDepth 100000 in
theorem m_X8_has (l : Launch) (D : va_G) (cy : Nat → ClassId) (ad : Nat → Nat) (h : HI) (g : HL) (sz : Nat) (o : Nat) (hT : isT o) (x1 : Int32) (Q : Int32 → HI → HL → Prop) (HW : w_X8_has o x1 h g Q) : Met l yX8_has (wa yX8_has cX8_has 2 (some .boolean)) ({ frames := 0, cells := 0, slots := 0, locals := 0 }) (va_Pc [.ref (ad o), .int x1] (gI D cy ad h g sz)) (va_Qi (fun (r : Int32) (u : HI × HL) => zb r ∧ Q r u.1 u.2) (gB D cy ad sz) (gA ad sz)) 0 0 (gA ad sz) := by
  refine Met.ofW (cc := cX8_has) (maxL := 2) (ret := (some .boolean)) (by decide) rfl ?_
  intro p e s m args below meth c s₁ B hml hv
  obtain ⟨hav, hsz, hP, hK, hD0, hNw⟩ := hv
  have hx := B.exec
  have hb := B.bytes
  have hr := B.returns
  have hts := atoms_spec (ws := (wa yX8_has cX8_has 2 (some .boolean))) B.pre
  have hw := wa_hw hts
  have hown : s.vm.findClass RX8 = some m.cls := findClass_of_methodNamed B.named
  have hlocks := B.notSynchronized
  subst hsz
  have hG : gG D cy ad (gA ad s.heap.size) s.heap h g s.heap [] := ⟨hP, gA_self hD0, va_S.rf⟩
  clear hP hD0
  have lk22 := hw (.fieldLink RX8 22 "OldWorks$Table" "many" "I") (wm1 40 rfl rfl)
  rw [show (headSpec (wa yX8_has cX8_has 2 (some .boolean)) ({ frames := 0, cells := 0, slots := 0, locals := 0 } : Room)).room = ({ frames := 0, cells := 0, slots := 0, locals := 0 } : Room) from rfl]
  have hl := lv_entry ([.ref (ad o), .int x1]) (n := 2) (Nat.le_of_ble_eq_true rfl)
  rw [show entryFrame m args 2 = entryFrame m ([.ref (ad o), .int x1] : List Value).toArray 2 from by rw [hav], lg_entry_eq]
  generalize (lg_sl ([.ref (ad o), .int x1]) ++ List.replicate (2 - (lg_sl ([.ref (ad o), .int x1])).length) Slot.unset).toArray = ls at hl ⊢
  have hl : lv_has ls 2 [(0, .ref (ad o)), (1, .int x1)] := hl
  have E0 : ∀ (H : Heap) (locs : List Loc) (ls : Array Slot), gG D cy ad (gA ad s.heap.size) s.heap h g H locs → lv_has ls 2 [(0, .ref (ad o)), (1, .int x1)] → W p l e ({ frames := 0, cells := 0, slots := 0, locals := 0 } : Room) s m args below meth c H locs 0 0 (MQ below (va_Qi (fun (r : Int32) (u : HI × HL) => zb r ∧ Q r u.1 u.2) (gB D cy ad s.heap.size) (gA ad s.heap.size)) args s 0 0 (gA ad s.heap.size)) (F0 m 0 ls []) := by
    intro H locs ls hG hl
    unfold w_X8_has at HW
    refine lv_iconst (v := 0) hx hb dX8_has_0 (by decide) ?_
    refine lv_iload_n hx hb dX8_has_1 rfl (lv_at hl 1 rfl) ?_
    refine lv_icmp_gt (tgt := 17) hx hb dX8_has_2 (by decide) (fun c_2 => ?_) (fun c_2 => ?_)
    · replace HW := HW.1 c_2
      refine lv_iconst (v := 0) hx hb dX8_has_17 (by decide) ?_
      exact W.zret (v := (0 : Int32)) hx hb hr rfl (fun t ht hW => ⟨⟨(0 : Int32), (h, g), rfl, ⟨Or.inl rfl, HW⟩, g_B ht hG⟩, hG.2.2.F ht⟩) hG.2.2.2.2 dX8_has_18
    · replace HW := HW.2 c_2
      refine lv_iload_n hx hb dX8_has_5 rfl (lv_at hl 1 rfl) ?_
      refine lv_aload_n hx hb dX8_has_6 rfl (lv_at hl 0 rfl) ?_
      refine g_geti hx hb hw inG8 hown hK hG hT.lt rfl hT.k (by decide) 3 (by decide) (by rw [hT.m]; decide) hT.r.2.2.2 lk22 dX8_has_7 ?_
      refine lv_icmp_ge (tgt := 17) hx hb dX8_has_10 (by decide) (fun c_10 => ?_) (fun c_10 => ?_)
      · replace HW := HW.1 c_10
        refine lv_iconst (v := 0) hx hb dX8_has_17 (by decide) ?_
        exact W.zret (v := (0 : Int32)) hx hb hr rfl (fun t ht hW => ⟨⟨(0 : Int32), (h, g), rfl, ⟨Or.inl rfl, HW⟩, g_B ht hG⟩, hG.2.2.F ht⟩) hG.2.2.2.2 dX8_has_18
      · replace HW := HW.2 c_10
        refine lv_iconst (v := 1) hx hb dX8_has_13 (by decide) ?_
        refine lv_goto (tgt := 18) hx hb dX8_has_14 (by decide) ?_
        exact W.zret (v := (1 : Int32)) hx hb hr rfl (fun t ht hW => ⟨⟨(1 : Int32), (h, g), rfl, ⟨Or.inr rfl, HW⟩, g_B ht hG⟩, hG.2.2.F ht⟩) hG.2.2.2.2 dX8_has_18
  exact E0 _ _ _ hG hl

def j_X7_chooseFamily_86 (Q : HI → HL → Prop) (s1 : Int32) (h : HI) (g : HL) : Prop :=
  (∀ h_88 : HI, h_88 = hu h 81 8 (s1 - (1 : Int32)) → Q h_88 g)
def j_X7_chooseFamily_61 (Q : HI → HL → Prop) (x1 : Int32) (x2 : Int32) (s1 : Int32) (h : HI) (g : HL) : Prop :=
  (∀ h_61 : HI, h_61 = hu h 81 7 s1 → ((x2 = 0 → j_X7_chooseFamily_86 Q (100000 : Int32) h_61 g) ∧ (¬ x2 = 0 → (∃ P_78 : Int32 → HI → HL → Prop, w_X8_at 4 x1 (2 : Int32) h_61 g P_78 ∧ ∀ (r_78 : Int32) (h_78 : HI) (g_78 : HL), P_78 r_78 h_78 g_78 → j_X7_chooseFamily_86 Q r_78 h_78 g_78))))
def j_X7_chooseFamily_33 (Q : HI → HL → Prop) (x1 : Int32) (x2 : Int32) (s1 : Int32) (h : HI) (g : HL) : Prop :=
  (∀ h_33 : HI, h_33 = hu h 81 6 s1 → ((x2 = 0 → j_X7_chooseFamily_61 Q x1 x2 (1 : Int32) h_33 g) ∧ (¬ x2 = 0 → (∃ P_51 : Int32 → HI → HL → Prop, w_X8_at 4 x1 (1 : Int32) h_33 g P_51 ∧ ∀ (r_51 : Int32) (h_51 : HI) (g_51 : HL), P_51 r_51 h_51 g_51 → j_X7_chooseFamily_61 Q x1 x2 (if (1 : Int32) < r_51 then r_51 else (1 : Int32)) h_51 g_51))))
def w_X7_chooseFamily (x1 : Int32) (h : HI) (g : HL) (Q : HI → HL → Prop) : Prop :=
  (∃ P_8 : Int32 → HI → HL → Prop, w_X8_has 4 x1 h g P_8 ∧ ∀ (r_8 : Int32) (h_8 : HI) (g_8 : HL), zb r_8 → P_8 r_8 h_8 g_8 → ((r_8 = 0 → j_X7_chooseFamily_33 Q x1 r_8 (1 : Int32) h_8 g_8) ∧ (¬ r_8 = 0 → (∃ P_26 : Int32 → HI → HL → Prop, w_X8_at 4 x1 (0 : Int32) h_8 g_8 P_26 ∧ ∀ (r_26 : Int32) (h_26 : HI) (g_26 : HL), P_26 r_26 h_26 g_26 → j_X7_chooseFamily_33 Q x1 r_8 r_26 h_26 g_26))))
set_option maxHeartbeats 8000000 in
set_option maxRecDepth 100000 in
theorem m_X7_chooseFamily (l : Launch) (D : va_G) (cy : Nat → ClassId) (ad : Nat → Nat) (h : HI) (g : HL) (sz : Nat) (x1 : Int32) (Q : HI → HL → Prop) (HW : w_X7_chooseFamily x1 h g Q) : Met l yX7_chooseFamily (wa yX7_chooseFamily cX7_chooseFamily 3 none) ({ frames := 1, cells := 0, slots := 0, locals := 32 }) (va_Pc [.ref (ad 81), .int x1] (gI D cy ad h g sz)) (va_Qv (fun (u : HI × HL) => Q u.1 u.2) (gB D cy ad sz) (gA ad sz)) 0 0 (gA ad sz) := by
  refine Met.ofW (cc := cX7_chooseFamily) (maxL := 3) (ret := none) (by decide) rfl ?_
  intro p e s m args below meth c s₁ B hml hv
  obtain ⟨hav, hsz, hP, hK, hD0, hNw⟩ := hv
  have hx := B.exec
  have hb := B.bytes
  have hr := B.returns
  have hts := atoms_spec (ws := (wa yX7_chooseFamily cX7_chooseFamily 3 none)) B.pre
  have hw := wa_hw hts
  have hown : s.vm.findClass RX7 = some m.cls := findClass_of_methodNamed B.named
  have hlocks := B.notSynchronized
  subst hsz
  have hG : gG D cy ad (gA ad s.heap.size) s.heap h g s.heap [] := ⟨hP, gA_self hD0, va_S.rf⟩
  clear hP hD0
  have lk9 := hw (.fieldLink RX7 9 "OldWorks$Sizes" "shop" "LOldWorks$Shop;") (wm1 168 rfl rfl)
  have lk62 := hw (.fieldLink RX7 62 "OldWorks$Shop" "families" "LOldWorks$Table;") (wm1 67 rfl rfl)
  have lk69 := hw (.fieldLink RX7 69 "OldWorks$Sizes" "base" "I") (wm1 174 rfl rfl)
  have ml72 := hw (.methodLink RX7 72 Lib.Math.max.name) (wm3 84 rfl rfl)
  have ms72 := hw (.static Lib.Math.max.name) (wm3 45 rfl rfl)
  have mi72 := hw (.initialized "java/lang/Math") (wm1 14 rfl rfl)
  have mc72 := hw (.code Lib.Math.max.name Lib.Math.max.code 2 (some .int)) (wm3 46 rfl rfl)
  have lk77 := hw (.fieldLink RX7 77 "OldWorks$Sizes" "step" "I") (wm1 175 rfl rfl)
  have cn80 := hw (.constant RX7 80 (100000)) (wm3 85 rfl rfl)
  have lk81 := hw (.fieldLink RX7 81 "OldWorks$Sizes" "last" "I") (wm1 176 rfl rfl)
  rw [show (headSpec (wa yX7_chooseFamily cX7_chooseFamily 3 none) ({ frames := 1, cells := 0, slots := 0, locals := 32 } : Room)).room = ({ frames := 1, cells := 0, slots := 0, locals := 32 } : Room) from rfl]
  have hl := lv_entry ([.ref (ad 81), .int x1]) (n := 3) (Nat.le_of_ble_eq_true rfl)
  rw [show entryFrame m args 3 = entryFrame m ([.ref (ad 81), .int x1] : List Value).toArray 3 from by rw [hav], lg_entry_eq]
  generalize (lg_sl ([.ref (ad 81), .int x1]) ++ List.replicate (3 - (lg_sl ([.ref (ad 81), .int x1])).length) Slot.unset).toArray = ls at hl ⊢
  have hl : lv_has ls 3 [(0, .ref (ad 81)), (1, .int x1)] := hl
  have B86 : ∀ (s1 : Int32) (h : HI) (g : HL) (H : Heap) (locs : List Loc) (ls : Array Slot), j_X7_chooseFamily_86 Q s1 h g → gG D cy ad (gA ad s.heap.size) s.heap h g H locs → lv_has ls 3 [] → W p l e ({ frames := 1, cells := 0, slots := 0, locals := 32 } : Room) s m args below meth c H locs 0 0 (MQ below (va_Qv (fun (u : HI × HL) => Q u.1 u.2) (gB D cy ad s.heap.size) (gA ad s.heap.size)) args s 0 0 (gA ad s.heap.size)) (F0 m 86 ls [.int s1, .ref (ad 81)]) := by
    intro s1 h g H locs ls HW hG hl
    unfold j_X7_chooseFamily_86 at HW
    refine lv_iconst (v := 1) hx hb dX7_chooseFamily_86 (by decide) ?_
    refine lv_isub hx hb dX7_chooseFamily_87 ?_
    refine g_put hx hb hw inG7 tyX7 tyX7_ok nmX7 hown hK hG gl_81 rfl gk_81 (by decide) 8 (by decide) (by rw [gm_81]; decide) gr_81_8 rfl (ty := .int) (by decide +kernel) rfl rfl lk81 dX7_chooseFamily_88 (fun H locs hG => ?_)
    obtain ⟨h_88, eh_88⟩ : ∃ y : HI, y = hu h 81 8 (s1 - (1 : Int32)) := ⟨_, rfl⟩
    rw [← eh_88] at hG
    replace HW := HW h_88 eh_88
    exact W.vret hx hb hr (fun t ht hW => ⟨⟨(h_88, g), rfl, HW, g_B ht hG⟩, hG.2.2.F ht⟩) hG.2.2.2.2 dX7_chooseFamily_91
  have B61 : ∀ (x1 : Int32) (x2 : Int32) (s1 : Int32) (h : HI) (g : HL) (H : Heap) (locs : List Loc) (ls : Array Slot), j_X7_chooseFamily_61 Q x1 x2 s1 h g → gG D cy ad (gA ad s.heap.size) s.heap h g H locs → lv_has ls 3 [(0, .ref (ad 81)), (1, .int x1), (2, .int x2)] → W p l e ({ frames := 1, cells := 0, slots := 0, locals := 32 } : Room) s m args below meth c H locs 0 0 (MQ below (va_Qv (fun (u : HI × HL) => Q u.1 u.2) (gB D cy ad s.heap.size) (gA ad s.heap.size)) args s 0 0 (gA ad s.heap.size)) (F0 m 61 ls [.int s1, .ref (ad 81)]) := by
    intro x1 x2 s1 h g H locs ls HW hG hl
    unfold j_X7_chooseFamily_61 at HW
    refine g_put hx hb hw inG7 tyX7 tyX7_ok nmX7 hown hK hG gl_81 rfl gk_81 (by decide) 7 (by decide) (by rw [gm_81]; decide) gr_81_7 rfl (ty := .int) (by decide +kernel) rfl rfl lk77 dX7_chooseFamily_61 (fun H locs hG => ?_)
    obtain ⟨h_61, eh_61⟩ : ∃ y : HI, y = hu h 81 7 s1 := ⟨_, rfl⟩
    rw [← eh_61] at hG
    replace HW := HW h_61 eh_61
    refine lv_aload_n hx hb dX7_chooseFamily_64 rfl (lv_at hl 0 rfl) ?_
    refine lv_iload_n hx hb dX7_chooseFamily_65 rfl (lv_at hl 2 rfl) ?_
    refine lv_if_eq (tgt := 84) hx hb dX7_chooseFamily_66 (by decide) (fun c_66 => ?_) (fun c_66 => ?_)
    · replace HW := HW.1 c_66
      refine lv_ldc (v := 100000) hx hb hown cn80 dX7_chooseFamily_84 ?_
      exact B86 (100000 : Int32) h_61 g _ _ _ HW hG (lv_sub hl [] rfl)
    · replace HW := HW.2 c_66
      refine lv_aload_n hx hb dX7_chooseFamily_69 rfl (lv_at hl 0 rfl) ?_
      refine g_getr hx hb hw inG7 hown hK hG gl_81 rfl gk_81 (by decide) 0 (by decide) (by rw [gm_81]; decide) (r := 1) gr_81_0 lk9 dX7_chooseFamily_70 ?_
      refine g_getr hx hb hw inG6 hown hK hG gl_1 rfl gk_1 (by decide) 1 (by decide) (by rw [gm_1]; decide) (r := 4) gr_1_1 lk62 dX7_chooseFamily_73 ?_
      refine lv_iload_n hx hb dX7_chooseFamily_76 rfl (lv_at hl 1 rfl) ?_
      refine lv_iconst (v := 2) hx hb dX7_chooseFamily_77 (by decide) ?_
      obtain ⟨P_78, HC_78, HW⟩ := HW
      refine g_calli (g_runV (As := [.int x1, .int (2 : Int32)]) (rest := [.ref (ad 81)]) ⟨hx, hb, hml, hown, hts⟩ (m_X8_at l D cy ad h_61 g H.size 4 (gs_4) x1 (2 : Int32) P_78 HC_78) (cwV 2 hts (gd_V (wm3 78 rfl rfl) (wm2 221 rfl rfl) (wm2 222 rfl rfl) (wm1 3 rfl rfl) (wm2 223 rfl rfl)) rfl rfl rfl (by decide +kernel) ⟨Nat.le_of_ble_eq_true rfl, Nat.le_of_ble_eq_true rfl⟩) hK hNw hG gl_4 rfl gk_4 (by decide) rfl rfl hl.1 rfl (lv_room (Nat.le_of_ble_eq_true rfl)) dX7_chooseFamily_78 ⟨Nat.zero_le _, Nat.zero_le _⟩) hG (fun r_78 h_78 g_78 H locs hq hG => ?_)
      replace HW := HW r_78 h_78 g_78 hq
      refine lv_goto (tgt := 86) hx hb dX7_chooseFamily_81 (by decide) ?_
      exact B86 r_78 h_78 g_78 _ _ _ HW hG (lv_sub hl [] rfl)
  have B33 : ∀ (x1 : Int32) (x2 : Int32) (s1 : Int32) (h : HI) (g : HL) (H : Heap) (locs : List Loc) (ls : Array Slot), j_X7_chooseFamily_33 Q x1 x2 s1 h g → gG D cy ad (gA ad s.heap.size) s.heap h g H locs → lv_has ls 3 [(0, .ref (ad 81)), (1, .int x1), (2, .int x2)] → W p l e ({ frames := 1, cells := 0, slots := 0, locals := 32 } : Room) s m args below meth c H locs 0 0 (MQ below (va_Qv (fun (u : HI × HL) => Q u.1 u.2) (gB D cy ad s.heap.size) (gA ad s.heap.size)) args s 0 0 (gA ad s.heap.size)) (F0 m 33 ls [.int s1, .ref (ad 81)]) := by
    intro x1 x2 s1 h g H locs ls HW hG hl
    unfold j_X7_chooseFamily_33 at HW
    refine g_put hx hb hw inG7 tyX7 tyX7_ok nmX7 hown hK hG gl_81 rfl gk_81 (by decide) 6 (by decide) (by rw [gm_81]; decide) gr_81_6 rfl (ty := .int) (by decide +kernel) rfl rfl lk69 dX7_chooseFamily_33 (fun H locs hG => ?_)
    obtain ⟨h_33, eh_33⟩ : ∃ y : HI, y = hu h 81 6 s1 := ⟨_, rfl⟩
    rw [← eh_33] at hG
    replace HW := HW h_33 eh_33
    refine lv_aload_n hx hb dX7_chooseFamily_36 rfl (lv_at hl 0 rfl) ?_
    refine lv_iload_n hx hb dX7_chooseFamily_37 rfl (lv_at hl 2 rfl) ?_
    refine lv_if_eq (tgt := 60) hx hb dX7_chooseFamily_38 (by decide) (fun c_38 => ?_) (fun c_38 => ?_)
    · replace HW := HW.1 c_38
      refine lv_iconst (v := 1) hx hb dX7_chooseFamily_60 (by decide) ?_
      exact B61 x1 x2 (1 : Int32) h_33 g _ _ _ HW hG (lv_sub hl [0, 1, 2] rfl)
    · replace HW := HW.2 c_38
      refine lv_iconst (v := 1) hx hb dX7_chooseFamily_41 (by decide) ?_
      refine lv_aload_n hx hb dX7_chooseFamily_42 rfl (lv_at hl 0 rfl) ?_
      refine g_getr hx hb hw inG7 hown hK hG gl_81 rfl gk_81 (by decide) 0 (by decide) (by rw [gm_81]; decide) (r := 1) gr_81_0 lk9 dX7_chooseFamily_43 ?_
      refine g_getr hx hb hw inG6 hown hK hG gl_1 rfl gk_1 (by decide) 1 (by decide) (by rw [gm_1]; decide) (r := 4) gr_1_1 lk62 dX7_chooseFamily_46 ?_
      refine lv_iload_n hx hb dX7_chooseFamily_49 rfl (lv_at hl 1 rfl) ?_
      refine lv_iconst (v := 1) hx hb dX7_chooseFamily_50 (by decide) ?_
      obtain ⟨P_51, HC_51, HW⟩ := HW
      refine g_calli (g_runV (As := [.int x1, .int (1 : Int32)]) (rest := [.int (1 : Int32), .ref (ad 81)]) ⟨hx, hb, hml, hown, hts⟩ (m_X8_at l D cy ad h_33 g H.size 4 (gs_4) x1 (1 : Int32) P_51 HC_51) (cwV 2 hts (gd_V (wm3 78 rfl rfl) (wm2 221 rfl rfl) (wm2 222 rfl rfl) (wm1 3 rfl rfl) (wm2 223 rfl rfl)) rfl rfl rfl (by decide +kernel) ⟨Nat.le_of_ble_eq_true rfl, Nat.le_of_ble_eq_true rfl⟩) hK hNw hG gl_4 rfl gk_4 (by decide) rfl rfl hl.1 rfl (lv_room (Nat.le_of_ble_eq_true rfl)) dX7_chooseFamily_51 ⟨Nat.zero_le _, Nat.zero_le _⟩) hG (fun r_51 h_51 g_51 H locs hq hG => ?_)
      replace HW := HW r_51 h_51 g_51 hq
      refine va_mmax hx hb (hml.trans hl.1.symm) hown ml72 ms72 mi72 mc72 (by decide) (Nat.le_of_ble_eq_true rfl) (Nat.zero_le _) (Nat.zero_le _) dX7_chooseFamily_54 ?_
      refine lv_goto (tgt := 61) hx hb dX7_chooseFamily_57 (by decide) ?_
      exact B61 x1 x2 (if (1 : Int32) < r_51 then r_51 else (1 : Int32)) h_51 g_51 _ _ _ HW hG (lv_sub hl [0, 1, 2] rfl)
  have E0 : ∀ (H : Heap) (locs : List Loc) (ls : Array Slot), gG D cy ad (gA ad s.heap.size) s.heap h g H locs → lv_has ls 3 [(0, .ref (ad 81)), (1, .int x1)] → W p l e ({ frames := 1, cells := 0, slots := 0, locals := 32 } : Room) s m args below meth c H locs 0 0 (MQ below (va_Qv (fun (u : HI × HL) => Q u.1 u.2) (gB D cy ad s.heap.size) (gA ad s.heap.size)) args s 0 0 (gA ad s.heap.size)) (F0 m 0 ls []) := by
    intro H locs ls hG hl
    unfold w_X7_chooseFamily at HW
    refine lv_aload_n hx hb dX7_chooseFamily_0 rfl (lv_at hl 0 rfl) ?_
    refine g_getr hx hb hw inG7 hown hK hG gl_81 rfl gk_81 (by decide) 0 (by decide) (by rw [gm_81]; decide) (r := 1) gr_81_0 lk9 dX7_chooseFamily_1 ?_
    refine g_getr hx hb hw inG6 hown hK hG gl_1 rfl gk_1 (by decide) 1 (by decide) (by rw [gm_1]; decide) (r := 4) gr_1_1 lk62 dX7_chooseFamily_4 ?_
    refine lv_iload_n hx hb dX7_chooseFamily_7 rfl (lv_at hl 1 rfl) ?_
    obtain ⟨P_8, HC_8, HW⟩ := HW
    refine g_callz (g_runV (As := [.int x1]) (rest := []) ⟨hx, hb, hml, hown, hts⟩ (m_X8_has l D cy ad h g H.size 4 (gs_4) x1 P_8 HC_8) (cwV 1 hts (gd_V (wm3 83 rfl rfl) (wm2 202 rfl rfl) (wm2 203 rfl rfl) (wm1 3 rfl rfl) (wm2 204 rfl rfl)) rfl rfl rfl (by decide +kernel) ⟨Nat.le_of_ble_eq_true rfl, Nat.le_of_ble_eq_true rfl⟩) hK hNw hG gl_4 rfl gk_4 (by decide) rfl rfl hl.1 rfl (lv_room (Nat.le_of_ble_eq_true rfl)) dX7_chooseFamily_8 ⟨Nat.zero_le _, Nat.zero_le _⟩) hG (fun r_8 h_8 g_8 H locs hz hq hG => ?_)
    replace HW := HW r_8 h_8 g_8 hz hq
    refine lv_istore_n (lv' := [(2, .int r_8), (0, .ref (ad 81)), (1, .int x1)]) hx hb dX7_chooseFamily_11 rfl hl (by decide) rfl (fun ls hl => ?_)
    refine lv_aload_n hx hb dX7_chooseFamily_12 rfl (lv_at hl 1 rfl) ?_
    refine lv_iload_n hx hb dX7_chooseFamily_13 rfl (lv_at hl 0 rfl) ?_
    refine lv_if_eq (tgt := 32) hx hb dX7_chooseFamily_14 (by decide) (fun c_14 => ?_) (fun c_14 => ?_)
    · replace HW := HW.1 c_14
      refine lv_iconst (v := 1) hx hb dX7_chooseFamily_32 (by decide) ?_
      exact B33 x1 r_8 (1 : Int32) h_8 g_8 _ _ _ HW hG (lv_sub hl [1, 2, 0] rfl)
    · replace HW := HW.2 c_14
      refine lv_aload_n hx hb dX7_chooseFamily_17 rfl (lv_at hl 1 rfl) ?_
      refine g_getr hx hb hw inG7 hown hK hG gl_81 rfl gk_81 (by decide) 0 (by decide) (by rw [gm_81]; decide) (r := 1) gr_81_0 lk9 dX7_chooseFamily_18 ?_
      refine g_getr hx hb hw inG6 hown hK hG gl_1 rfl gk_1 (by decide) 1 (by decide) (by rw [gm_1]; decide) (r := 4) gr_1_1 lk62 dX7_chooseFamily_21 ?_
      refine lv_iload_n hx hb dX7_chooseFamily_24 rfl (lv_at hl 2 rfl) ?_
      refine lv_iconst (v := 0) hx hb dX7_chooseFamily_25 (by decide) ?_
      obtain ⟨P_26, HC_26, HW⟩ := HW
      refine g_calli (g_runV (As := [.int x1, .int (0 : Int32)]) (rest := [.ref (ad 81)]) ⟨hx, hb, hml, hown, hts⟩ (m_X8_at l D cy ad h_8 g_8 H.size 4 (gs_4) x1 (0 : Int32) P_26 HC_26) (cwV 2 hts (gd_V (wm3 78 rfl rfl) (wm2 221 rfl rfl) (wm2 222 rfl rfl) (wm1 3 rfl rfl) (wm2 223 rfl rfl)) rfl rfl rfl (by decide +kernel) ⟨Nat.le_of_ble_eq_true rfl, Nat.le_of_ble_eq_true rfl⟩) hK hNw hG gl_4 rfl gk_4 (by decide) rfl rfl hl.1 rfl (lv_room (Nat.le_of_ble_eq_true rfl)) dX7_chooseFamily_26 ⟨Nat.zero_le _, Nat.zero_le _⟩) hG (fun r_26 h_26 g_26 H locs hq hG => ?_)
      replace HW := HW r_26 h_26 g_26 hq
      refine lv_goto (tgt := 33) hx hb dX7_chooseFamily_29 (by decide) ?_
      exact B33 x1 r_8 r_26 h_26 g_26 _ _ _ HW hG (lv_sub hl [1, 2, 0] rfl)
  exact E0 _ _ _ hG hl

def j_X4_joined_96 (Q : Int64 → HI → HL → Prop) (h : HI) (g : HL) : Prop :=
  Q (1 : Int64) h g
def w_X4_joined (x0 : Int32) (x1 : Int64) (x3 : Int64) (h : HI) (g : HL) (Q : Int64 → HI → HL → Prop) : Prop :=
  ((x0 = 38 → (((lg_cmp x1 (0 : Int64)) = 0 → Q (0 : Int64) h g) ∧ (¬ (lg_cmp x1 (0 : Int64)) = 0 → (((lg_cmp x3 (0 : Int64)) = 0 → Q (0 : Int64) h g) ∧ (¬ (lg_cmp x3 (0 : Int64)) = 0 → Q (1 : Int64) h g))))) ∧ (x0 = 42 → Q (x1 * x3) h g) ∧ (x0 = 43 → Q (x1 + x3) h g) ∧ (x0 = 45 → Q (x1 - x3) h g) ∧ (x0 = 47 → ((¬ (lg_cmp x3 (0 : Int64)) = 0 → (¬ x3 = 0 ∧ Q (x1 / x3) h g)) ∧ ((lg_cmp x3 (0 : Int64)) = 0 → Q (0 : Int64) h g))) ∧ (x0 = 60 → ((0 ≤ (lg_cmp x1 x3) → Q (0 : Int64) h g) ∧ (¬ 0 ≤ (lg_cmp x1 x3) → Q (1 : Int64) h g))) ∧ (x0 = 61 → ((¬ (lg_cmp x1 x3) = 0 → Q (0 : Int64) h g) ∧ ((lg_cmp x1 x3) = 0 → Q (1 : Int64) h g))) ∧ (x0 = 62 → (((lg_cmp x1 x3) ≤ 0 → Q (0 : Int64) h g) ∧ (¬ (lg_cmp x1 x3) ≤ 0 → Q (1 : Int64) h g))) ∧ (x0 = 124 → ((¬ (lg_cmp x1 (0 : Int64)) = 0 → j_X4_joined_96 Q h g) ∧ ((lg_cmp x1 (0 : Int64)) = 0 → (((lg_cmp x3 (0 : Int64)) = 0 → Q (0 : Int64) h g) ∧ (¬ (lg_cmp x3 (0 : Int64)) = 0 → j_X4_joined_96 Q h g))))) ∧ (¬ x0 = 38 → ¬ x0 = 42 → ¬ x0 = 43 → ¬ x0 = 45 → ¬ x0 = 47 → ¬ x0 = 60 → ¬ x0 = 61 → ¬ x0 = 62 → ¬ x0 = 124 → Q (0 : Int64) h g))
set_option maxHeartbeats 8000000 in
set_option maxRecDepth 100000 in
theorem m_X4_joined (l : Launch) (D : va_G) (cy : Nat → ClassId) (ad : Nat → Nat) (h : HI) (g : HL) (sz : Nat) (x0 : Int32) (x1 : Int64) (x3 : Int64) (Q : Int64 → HI → HL → Prop) (HW : w_X4_joined x0 x1 x3 h g Q) : Met l yX4_joined (wa yX4_joined cX4_joined 5 (some .long)) ({ frames := 0, cells := 0, slots := 0, locals := 0 }) (va_Pc [.int x0, .long x1, .long x3] (gI D cy ad h g sz)) (va_Ql (fun (r : Int64) (u : HI × HL) => Q r u.1 u.2) (gB D cy ad sz) (gA ad sz)) 0 0 (gA ad sz) := by
  refine Met.ofW (cc := cX4_joined) (maxL := 5) (ret := (some .long)) (by decide) rfl ?_
  intro p e s m args below meth c s₁ B hml hv
  obtain ⟨hav, hsz, hP, hK, hD0, hNw⟩ := hv
  have hx := B.exec
  have hb := B.bytes
  have hr := B.returns
  have hts := atoms_spec (ws := (wa yX4_joined cX4_joined 5 (some .long))) B.pre
  have hw := wa_hw hts
  have hown : s.vm.findClass RX4 = some m.cls := findClass_of_methodNamed B.named
  have hlocks := B.notSynchronized
  subst hsz
  have hG : gG D cy ad (gA ad s.heap.size) s.heap h g s.heap [] := ⟨hP, gA_self hD0, va_S.rf⟩
  clear hP hD0
  rw [show (headSpec (wa yX4_joined cX4_joined 5 (some .long)) ({ frames := 0, cells := 0, slots := 0, locals := 0 } : Room)).room = ({ frames := 0, cells := 0, slots := 0, locals := 0 } : Room) from rfl]
  have hl := lv_entry ([.int x0, .long x1, .long x3]) (n := 5) (Nat.le_of_ble_eq_true rfl)
  rw [show entryFrame m args 5 = entryFrame m ([.int x0, .long x1, .long x3] : List Value).toArray 5 from by rw [hav], lg_entry_eq]
  generalize (lg_sl ([.int x0, .long x1, .long x3]) ++ List.replicate (5 - (lg_sl ([.int x0, .long x1, .long x3])).length) Slot.unset).toArray = ls at hl ⊢
  have hl : lv_has ls 5 [(0, .int x0), (1, .long x1), (3, .long x3)] := hl
  have B96 : ∀ (h : HI) (g : HL) (H : Heap) (locs : List Loc) (ls : Array Slot), j_X4_joined_96 Q h g → gG D cy ad (gA ad s.heap.size) s.heap h g H locs → lv_has ls 5 [] → W p l e ({ frames := 0, cells := 0, slots := 0, locals := 0 } : Room) s m args below meth c H locs 0 0 (MQ below (va_Ql (fun (r : Int64) (u : HI × HL) => Q r u.1 u.2) (gB D cy ad s.heap.size) (gA ad s.heap.size)) args s 0 0 (gA ad s.heap.size)) (F0 m 96 ls []) := by
    intro  h g H locs ls HW hG hl
    unfold j_X4_joined_96 at HW
    refine lv_lconst (v := 1) hx hb dX4_joined_96 (by decide) ?_
    refine lv_goto (tgt := 101) hx hb dX4_joined_97 (by decide) ?_
    exact W.lret (v := (1 : Int64)) hx hb hr (fun t ht hW => ⟨⟨(1 : Int64), (h, g), rfl, HW, g_B ht hG⟩, hG.2.2.F ht⟩) hG.2.2.2.2 dX4_joined_101
  have E0 : ∀ (H : Heap) (locs : List Loc) (ls : Array Slot), gG D cy ad (gA ad s.heap.size) s.heap h g H locs → lv_has ls 5 [(0, .int x0), (1, .long x1), (3, .long x3)] → W p l e ({ frames := 0, cells := 0, slots := 0, locals := 0 } : Room) s m args below meth c H locs 0 0 (MQ below (va_Ql (fun (r : Int64) (u : HI × HL) => Q r u.1 u.2) (gB D cy ad s.heap.size) (gA ad s.heap.size)) args s 0 0 (gA ad s.heap.size)) (F0 m 0 ls []) := by
    intro H locs ls hG hl
    unfold w_X4_joined at HW
    refine lv_iload_n hx hb dX4_joined_0 rfl (lv_at hl 0 rfl) ?_
    by_cases c_1_0 : x0 = 38
    · replace HW := HW.1 c_1_0
      refine lv_lookup (tgt := 102) hx hb dX4_joined_1 (by decide) (by rw [c_1_0]; first | done | decide) (by decide) ?_
      refine lv_lload_n hx hb dX4_joined_102 rfl (lv_at hl 1 rfl) ?_
      refine lv_lconst (v := 0) hx hb dX4_joined_103 (by decide) ?_
      refine W.lcmp hx hb dX4_joined_104 ?_
      refine lv_if_eq (tgt := 118) hx hb dX4_joined_105 (by decide) (fun c_105 => ?_) (fun c_105 => ?_)
      · replace HW := HW.1 c_105
        refine lv_lconst (v := 0) hx hb dX4_joined_118 (by decide) ?_
        exact W.lret (v := (0 : Int64)) hx hb hr (fun t ht hW => ⟨⟨(0 : Int64), (h, g), rfl, HW, g_B ht hG⟩, hG.2.2.F ht⟩) hG.2.2.2.2 dX4_joined_119
      · replace HW := HW.2 c_105
        refine lv_lload_n hx hb dX4_joined_108 rfl (lv_at hl 2 rfl) ?_
        refine lv_lconst (v := 0) hx hb dX4_joined_109 (by decide) ?_
        refine W.lcmp hx hb dX4_joined_110 ?_
        refine lv_if_eq (tgt := 118) hx hb dX4_joined_111 (by decide) (fun c_111 => ?_) (fun c_111 => ?_)
        · replace HW := HW.1 c_111
          refine lv_lconst (v := 0) hx hb dX4_joined_118 (by decide) ?_
          exact W.lret (v := (0 : Int64)) hx hb hr (fun t ht hW => ⟨⟨(0 : Int64), (h, g), rfl, HW, g_B ht hG⟩, hG.2.2.F ht⟩) hG.2.2.2.2 dX4_joined_119
        · replace HW := HW.2 c_111
          refine lv_lconst (v := 1) hx hb dX4_joined_114 (by decide) ?_
          refine lv_goto (tgt := 119) hx hb dX4_joined_115 (by decide) ?_
          exact W.lret (v := (1 : Int64)) hx hb hr (fun t ht hW => ⟨⟨(1 : Int64), (h, g), rfl, HW, g_B ht hG⟩, hG.2.2.F ht⟩) hG.2.2.2.2 dX4_joined_119
    · by_cases c_1_1 : x0 = 42
      · replace HW := HW.2.1 c_1_1
        refine lv_lookup (tgt := 164) hx hb dX4_joined_1 (by decide) (by rw [c_1_1]; first | done | decide) (by decide) ?_
        refine lv_lload_n hx hb dX4_joined_164 rfl (lv_at hl 1 rfl) ?_
        refine lv_lload_n hx hb dX4_joined_165 rfl (lv_at hl 2 rfl) ?_
        refine lv_lmul hx hb dX4_joined_166 ?_
        exact W.lret (v := (x1 * x3)) hx hb hr (fun t ht hW => ⟨⟨(x1 * x3), (h, g), rfl, HW, g_B ht hG⟩, hG.2.2.F ht⟩) hG.2.2.2.2 dX4_joined_167
      · by_cases c_1_2 : x0 = 43
        · replace HW := HW.2.2.1 c_1_2
          refine lv_lookup (tgt := 156) hx hb dX4_joined_1 (by decide) (by rw [c_1_2]; first | done | decide) (by decide) ?_
          refine lv_lload_n hx hb dX4_joined_156 rfl (lv_at hl 1 rfl) ?_
          refine lv_lload_n hx hb dX4_joined_157 rfl (lv_at hl 2 rfl) ?_
          refine lv_ladd hx hb dX4_joined_158 ?_
          exact W.lret (v := (x1 + x3)) hx hb hr (fun t ht hW => ⟨⟨(x1 + x3), (h, g), rfl, HW, g_B ht hG⟩, hG.2.2.F ht⟩) hG.2.2.2.2 dX4_joined_159
        · by_cases c_1_3 : x0 = 45
          · replace HW := HW.2.2.2.1 c_1_3
            refine lv_lookup (tgt := 160) hx hb dX4_joined_1 (by decide) (by rw [c_1_3]; first | done | decide) (by decide) ?_
            refine lv_lload_n hx hb dX4_joined_160 rfl (lv_at hl 1 rfl) ?_
            refine lv_lload_n hx hb dX4_joined_161 rfl (lv_at hl 2 rfl) ?_
            refine lv_lsub hx hb dX4_joined_162 ?_
            exact W.lret (v := (x1 - x3)) hx hb hr (fun t ht hW => ⟨⟨(x1 - x3), (h, g), rfl, HW, g_B ht hG⟩, hG.2.2.F ht⟩) hG.2.2.2.2 dX4_joined_163
          · by_cases c_1_4 : x0 = 47
            · replace HW := HW.2.2.2.2.1 c_1_4
              refine lv_lookup (tgt := 168) hx hb dX4_joined_1 (by decide) (by rw [c_1_4]; first | done | decide) (by decide) ?_
              refine lv_lload_n hx hb dX4_joined_168 rfl (lv_at hl 2 rfl) ?_
              refine lv_lconst (v := 0) hx hb dX4_joined_169 (by decide) ?_
              refine W.lcmp hx hb dX4_joined_170 ?_
              refine lv_if_ne (tgt := 178) hx hb dX4_joined_171 (by decide) (fun c_171 => ?_) (fun c_171 => ?_)
              · replace HW := HW.1 c_171
                refine lv_lload_n hx hb dX4_joined_178 rfl (lv_at hl 1 rfl) ?_
                refine lv_lload_n hx hb dX4_joined_179 rfl (lv_at hl 2 rfl) ?_
                refine lv_ldiv hx hb dX4_joined_180 HW.1 ?_
                replace HW := HW.2
                exact W.lret (v := (x1 / x3)) hx hb hr (fun t ht hW => ⟨⟨(x1 / x3), (h, g), rfl, HW, g_B ht hG⟩, hG.2.2.F ht⟩) hG.2.2.2.2 dX4_joined_181
              · replace HW := HW.2 c_171
                refine lv_lconst (v := 0) hx hb dX4_joined_174 (by decide) ?_
                refine lv_goto (tgt := 181) hx hb dX4_joined_175 (by decide) ?_
                exact W.lret (v := (0 : Int64)) hx hb hr (fun t ht hW => ⟨⟨(0 : Int64), (h, g), rfl, HW, g_B ht hG⟩, hG.2.2.F ht⟩) hG.2.2.2.2 dX4_joined_181
            · by_cases c_1_5 : x0 = 60
              · replace HW := HW.2.2.2.2.2.1 c_1_5
                refine lv_lookup (tgt := 120) hx hb dX4_joined_1 (by decide) (by rw [c_1_5]; first | done | decide) (by decide) ?_
                refine lv_lload_n hx hb dX4_joined_120 rfl (lv_at hl 1 rfl) ?_
                refine lv_lload_n hx hb dX4_joined_121 rfl (lv_at hl 2 rfl) ?_
                refine W.lcmp hx hb dX4_joined_122 ?_
                refine lv_if_ge (tgt := 130) hx hb dX4_joined_123 (by decide) (fun c_123 => ?_) (fun c_123 => ?_)
                · replace HW := HW.1 c_123
                  refine lv_lconst (v := 0) hx hb dX4_joined_130 (by decide) ?_
                  exact W.lret (v := (0 : Int64)) hx hb hr (fun t ht hW => ⟨⟨(0 : Int64), (h, g), rfl, HW, g_B ht hG⟩, hG.2.2.F ht⟩) hG.2.2.2.2 dX4_joined_131
                · replace HW := HW.2 c_123
                  refine lv_lconst (v := 1) hx hb dX4_joined_126 (by decide) ?_
                  refine lv_goto (tgt := 131) hx hb dX4_joined_127 (by decide) ?_
                  exact W.lret (v := (1 : Int64)) hx hb hr (fun t ht hW => ⟨⟨(1 : Int64), (h, g), rfl, HW, g_B ht hG⟩, hG.2.2.F ht⟩) hG.2.2.2.2 dX4_joined_131
              · by_cases c_1_6 : x0 = 61
                · replace HW := HW.2.2.2.2.2.2.1 c_1_6
                  refine lv_lookup (tgt := 144) hx hb dX4_joined_1 (by decide) (by rw [c_1_6]; first | done | decide) (by decide) ?_
                  refine lv_lload_n hx hb dX4_joined_144 rfl (lv_at hl 1 rfl) ?_
                  refine lv_lload_n hx hb dX4_joined_145 rfl (lv_at hl 2 rfl) ?_
                  refine W.lcmp hx hb dX4_joined_146 ?_
                  refine lv_if_ne (tgt := 154) hx hb dX4_joined_147 (by decide) (fun c_147 => ?_) (fun c_147 => ?_)
                  · replace HW := HW.1 c_147
                    refine lv_lconst (v := 0) hx hb dX4_joined_154 (by decide) ?_
                    exact W.lret (v := (0 : Int64)) hx hb hr (fun t ht hW => ⟨⟨(0 : Int64), (h, g), rfl, HW, g_B ht hG⟩, hG.2.2.F ht⟩) hG.2.2.2.2 dX4_joined_155
                  · replace HW := HW.2 c_147
                    refine lv_lconst (v := 1) hx hb dX4_joined_150 (by decide) ?_
                    refine lv_goto (tgt := 155) hx hb dX4_joined_151 (by decide) ?_
                    exact W.lret (v := (1 : Int64)) hx hb hr (fun t ht hW => ⟨⟨(1 : Int64), (h, g), rfl, HW, g_B ht hG⟩, hG.2.2.F ht⟩) hG.2.2.2.2 dX4_joined_155
                · by_cases c_1_7 : x0 = 62
                  · replace HW := HW.2.2.2.2.2.2.2.1 c_1_7
                    refine lv_lookup (tgt := 132) hx hb dX4_joined_1 (by decide) (by rw [c_1_7]; first | done | decide) (by decide) ?_
                    refine lv_lload_n hx hb dX4_joined_132 rfl (lv_at hl 1 rfl) ?_
                    refine lv_lload_n hx hb dX4_joined_133 rfl (lv_at hl 2 rfl) ?_
                    refine W.lcmp hx hb dX4_joined_134 ?_
                    refine lv_if_le (tgt := 142) hx hb dX4_joined_135 (by decide) (fun c_135 => ?_) (fun c_135 => ?_)
                    · replace HW := HW.1 c_135
                      refine lv_lconst (v := 0) hx hb dX4_joined_142 (by decide) ?_
                      exact W.lret (v := (0 : Int64)) hx hb hr (fun t ht hW => ⟨⟨(0 : Int64), (h, g), rfl, HW, g_B ht hG⟩, hG.2.2.F ht⟩) hG.2.2.2.2 dX4_joined_143
                    · replace HW := HW.2 c_135
                      refine lv_lconst (v := 1) hx hb dX4_joined_138 (by decide) ?_
                      refine lv_goto (tgt := 143) hx hb dX4_joined_139 (by decide) ?_
                      exact W.lret (v := (1 : Int64)) hx hb hr (fun t ht hW => ⟨⟨(1 : Int64), (h, g), rfl, HW, g_B ht hG⟩, hG.2.2.F ht⟩) hG.2.2.2.2 dX4_joined_143
                  · by_cases c_1_8 : x0 = 124
                    · replace HW := HW.2.2.2.2.2.2.2.2.1 c_1_8
                      refine lv_lookup (tgt := 84) hx hb dX4_joined_1 (by decide) (by rw [c_1_8]; first | done | decide) (by decide) ?_
                      refine lv_lload_n hx hb dX4_joined_84 rfl (lv_at hl 1 rfl) ?_
                      refine lv_lconst (v := 0) hx hb dX4_joined_85 (by decide) ?_
                      refine W.lcmp hx hb dX4_joined_86 ?_
                      refine lv_if_ne (tgt := 96) hx hb dX4_joined_87 (by decide) (fun c_87 => ?_) (fun c_87 => ?_)
                      · replace HW := HW.1 c_87
                        exact B96 h g _ _ _ HW hG (lv_sub hl [] rfl)
                      · replace HW := HW.2 c_87
                        refine lv_lload_n hx hb dX4_joined_90 rfl (lv_at hl 2 rfl) ?_
                        refine lv_lconst (v := 0) hx hb dX4_joined_91 (by decide) ?_
                        refine W.lcmp hx hb dX4_joined_92 ?_
                        refine lv_if_eq (tgt := 100) hx hb dX4_joined_93 (by decide) (fun c_93 => ?_) (fun c_93 => ?_)
                        · replace HW := HW.1 c_93
                          refine lv_lconst (v := 0) hx hb dX4_joined_100 (by decide) ?_
                          exact W.lret (v := (0 : Int64)) hx hb hr (fun t ht hW => ⟨⟨(0 : Int64), (h, g), rfl, HW, g_B ht hG⟩, hG.2.2.F ht⟩) hG.2.2.2.2 dX4_joined_101
                        · replace HW := HW.2 c_93
                          exact B96 h g _ _ _ HW hG (lv_sub hl [] rfl)
                    · replace HW := HW.2.2.2.2.2.2.2.2.2 c_1_0 c_1_1 c_1_2 c_1_3 c_1_4 c_1_5 c_1_6 c_1_7 c_1_8
                      have z_1_0 : ¬ ((38 : Int) = (x0).toInt) := fun q => g_ne c_1_0 (n := 38) (by decide) q.symm
                      have z_1_1 : ¬ ((42 : Int) = (x0).toInt) := fun q => g_ne c_1_1 (n := 42) (by decide) q.symm
                      have z_1_2 : ¬ ((43 : Int) = (x0).toInt) := fun q => g_ne c_1_2 (n := 43) (by decide) q.symm
                      have z_1_3 : ¬ ((45 : Int) = (x0).toInt) := fun q => g_ne c_1_3 (n := 45) (by decide) q.symm
                      have z_1_4 : ¬ ((47 : Int) = (x0).toInt) := fun q => g_ne c_1_4 (n := 47) (by decide) q.symm
                      have z_1_5 : ¬ ((60 : Int) = (x0).toInt) := fun q => g_ne c_1_5 (n := 60) (by decide) q.symm
                      have z_1_6 : ¬ ((61 : Int) = (x0).toInt) := fun q => g_ne c_1_6 (n := 61) (by decide) q.symm
                      have z_1_7 : ¬ ((62 : Int) = (x0).toInt) := fun q => g_ne c_1_7 (n := 62) (by decide) q.symm
                      have z_1_8 : ¬ ((124 : Int) = (x0).toInt) := fun q => g_ne c_1_8 (n := 124) (by decide) q.symm
                      refine lv_lookup (tgt := 182) (off := 181) hx hb dX4_joined_1 (by decide) (by show Op.lookupswitch.offset [(38, 101), (42, 163), (43, 155), (45, 159), (47, 167), (60, 119), (61, 143), (62, 131), (124, 83)] (181) (x0).toInt = 181; rw [Op.lookupswitch.offset_cons, if_neg z_1_0, Op.lookupswitch.offset_cons, if_neg z_1_1, Op.lookupswitch.offset_cons, if_neg z_1_2, Op.lookupswitch.offset_cons, if_neg z_1_3, Op.lookupswitch.offset_cons, if_neg z_1_4, Op.lookupswitch.offset_cons, if_neg z_1_5, Op.lookupswitch.offset_cons, if_neg z_1_6, Op.lookupswitch.offset_cons, if_neg z_1_7, Op.lookupswitch.offset_cons, if_neg z_1_8, Op.lookupswitch.offset_nil]) (by decide) ?_
                      refine lv_lconst (v := 0) hx hb dX4_joined_182 (by decide) ?_
                      exact W.lret (v := (0 : Int64)) hx hb hr (fun t ht hW => ⟨⟨(0 : Int64), (h, g), rfl, HW, g_B ht hG⟩, hG.2.2.F ht⟩) hG.2.2.2.2 dX4_joined_183
  exact E0 _ _ _ hG hl

def j_X4_tells_243 (Q : Int64 → HI → HL → Prop) (x4 : Int32) (h : HI) (g : HL) : Prop :=
  ((x4 ≤ 0 → Q (0 : Int64) h g) ∧ (¬ x4 ≤ 0 → (vp_in (x4 - (1 : Int32)) 60 ∧ Q (g 80 (x4 - (1 : Int32)).toNatClampNeg) h g)))
def j_X4_tells_237 (Q : Int64 → HI → HL → Prop) (K6 : Int32 → Int32 → Int32 → Int32 → Int32 → HI → HL → Prop) (x1 : Int32) (x2 : Int32) (x3 : Int32) (x4 : Int32) (x5 : Int32) (h : HI) (g : HL) : Prop :=
  (∀ x5_237 : Int32, x5_237 = (x5 + 1) → K6 x1 x2 x3 x4 x5_237 h g)
def j_X4_tells_115 (Q : Int64 → HI → HL → Prop) (K6 : Int32 → Int32 → Int32 → Int32 → Int32 → HI → HL → Prop) (x1 : Int32) (x2 : Int32) (x3 : Int32) (x4 : Int32) (x5 : Int32) (s1 : Int32) (s2 : Int64) (h : HI) (g : HL) : Prop :=
  (vp_in s1 60 ∧ ∀ g_115 : HL, g_115 = hul g 80 s1.toNatClampNeg s2 → (∀ x4_116 : Int32, x4_116 = (x4 + 1) → j_X4_tells_237 Q K6 x1 x2 x3 x4_116 x5 h g_115))
def j_X4_tells_60 (Q : Int64 → HI → HL → Prop) (K6 : Int32 → Int32 → Int32 → Int32 → Int32 → HI → HL → Prop) (x1 : Int32) (x2 : Int32) (x3 : Int32) (x4 : Int32) (x5 : Int32) (x6 : Int32) (h : HI) (g : HL) : Prop :=
  ((x4 < (60 : Int32) → ((x6 < 0 → ((¬ x6 = (-121 : Int32) → ((¬ x6 = (-108 : Int32) → j_X4_tells_115 Q K6 x1 x2 x3 x4 x5 x4 ((x3).toInt64) h g) ∧ (x6 = (-108 : Int32) → j_X4_tells_115 Q K6 x1 x2 x3 x4 x5 x4 ((x2).toInt64) h g))) ∧ (x6 = (-121 : Int32) → j_X4_tells_115 Q K6 x1 x2 x3 x4 x5 x4 ((x1).toInt64) h g))) ∧ (¬ x6 < 0 → j_X4_tells_115 Q K6 x1 x2 x3 x4 x5 x4 ((x6).toInt64) h g))) ∧ (¬ x4 < (60 : Int32) → Q (0 : Int64) h g))
def j_X4_tells_191 (Q : Int64 → HI → HL → Prop) (K6 : Int32 → Int32 → Int32 → Int32 → Int32 → HI → HL → Prop) (x1 : Int32) (x2 : Int32) (x3 : Int32) (x4 : Int32) (x5 : Int32) (s1 : Int32) (s2 : Int64) (h : HI) (g : HL) : Prop :=
  (vp_in s1 60 ∧ ∀ g_191 : HL, g_191 = hul g 80 s1.toNatClampNeg s2 → j_X4_tells_237 Q K6 x1 x2 x3 x4 x5 h g_191)
def j_X4_tells_136 (Q : Int64 → HI → HL → Prop) (K6 : Int32 → Int32 → Int32 → Int32 → Int32 → HI → HL → Prop) (x1 : Int32) (x2 : Int32) (x3 : Int32) (x4 : Int32) (x5 : Int32) (x6 : Int32) (h : HI) (g : HL) : Prop :=
  (((1 : Int32) ≤ x4 → ((¬ x6 = (-126 : Int32) → (vp_in (x4 - (1 : Int32)) 60 ∧ ((¬ (lg_cmp (g 80 (x4 - (1 : Int32)).toNatClampNeg) (0 : Int64)) = 0 → j_X4_tells_191 Q K6 x1 x2 x3 x4 x5 (x4 - (1 : Int32)) (0 : Int64) h g) ∧ ((lg_cmp (g 80 (x4 - (1 : Int32)).toNatClampNeg) (0 : Int64)) = 0 → j_X4_tells_191 Q K6 x1 x2 x3 x4 x5 (x4 - (1 : Int32)) (1 : Int64) h g)))) ∧ (x6 = (-126 : Int32) → (vp_in (x4 - (1 : Int32)) 60 ∧ j_X4_tells_191 Q K6 x1 x2 x3 x4 x5 (x4 - (1 : Int32)) (-(g 80 (x4 - (1 : Int32)).toNatClampNeg)) h g)))) ∧ (¬ (1 : Int32) ≤ x4 → Q (0 : Int64) h g))
def b_X4_tells_6 (Q : Int64 → HI → HL → Prop) (K6 : Int32 → Int32 → Int32 → Int32 → Int32 → HI → HL → Prop) (x1 : Int32) (x2 : Int32) (x3 : Int32) (x4 : Int32) (x5 : Int32) (h : HI) (g : HL) : Prop :=
  (((h 77 4) ≤ x5 → j_X4_tells_243 Q x4 h g) ∧ (¬ (h 77 4) ≤ x5 → (((60 : Int32) ≤ x5 → j_X4_tells_243 Q x4 h g) ∧ (¬ (60 : Int32) ≤ x5 → (vp_in x5 60 ∧ (∀ x6_32 : Int32, x6_32 = (h 78 x5.toNatClampNeg) → ((0 ≤ x6_32 → j_X4_tells_60 Q K6 x1 x2 x3 x4 x5 x6_32 h g) ∧ (¬ 0 ≤ x6_32 → ((x6_32 = (-121 : Int32) → j_X4_tells_60 Q K6 x1 x2 x3 x4 x5 x6_32 h g) ∧ (¬ x6_32 = (-121 : Int32) → ((x6_32 = (-108 : Int32) → j_X4_tells_60 Q K6 x1 x2 x3 x4 x5 x6_32 h g) ∧ (¬ x6_32 = (-108 : Int32) → ((¬ x6_32 = (-104 : Int32) → ((x6_32 = (-33 : Int32) → j_X4_tells_136 Q K6 x1 x2 x3 x4 x5 x6_32 h g) ∧ (¬ x6_32 = (-33 : Int32) → ((¬ x6_32 = (-126 : Int32) → (((2 : Int32) ≤ x4 → (∀ x4_203 : Int32, x4_203 = (x4 + (-1)) → (vp_in (x4_203 - (1 : Int32)) 60 ∧ (vp_in x4_203 60 ∧ (∃ P_233 : Int64 → HI → HL → Prop, w_X4_joined (-x6_32) (g 80 (x4_203 - (1 : Int32)).toNatClampNeg) (g 80 x4_203.toNatClampNeg) h g P_233 ∧ ∀ (r_233 : Int64) (h_233 : HI) (g_233 : HL), P_233 r_233 h_233 g_233 → (vp_in (x4_203 - (1 : Int32)) 60 ∧ ∀ g_236 : HL, g_236 = hul g_233 80 (x4_203 - (1 : Int32)).toNatClampNeg r_233 → j_X4_tells_237 Q K6 x1 x2 x3 x4_203 x5 h_233 g_236)))))) ∧ (¬ (2 : Int32) ≤ x4 → Q (0 : Int64) h g))) ∧ (x6_32 = (-126 : Int32) → j_X4_tells_136 Q K6 x1 x2 x3 x4 x5 x6_32 h g))))) ∧ (x6_32 = (-104 : Int32) → j_X4_tells_60 Q K6 x1 x2 x3 x4 x5 x6_32 h g))))))))))))))
def F_X4_tells_6 (Q : Int64 → HI → HL → Prop) (K : Int32 × Int32 × Int32 × Int32 × Int32 × HI × HL → Prop) (q : Int32 × Int32 × Int32 × Int32 × Int32 × HI × HL) : Prop := b_X4_tells_6 Q (fun x1 x2 x3 x4 x5 h g => K (x1, x2, x3, x4, x5, h, g)) q.1 q.2.1 q.2.2.1 q.2.2.2.1 q.2.2.2.2.1 q.2.2.2.2.2.1 q.2.2.2.2.2.2
def w_X4_tells (x1 : Int32) (x2 : Int32) (x3 : Int32) (h : HI) (g : HL) (Q : Int64 → HI → HL → Prop) : Prop :=
  lpE (F_X4_tells_6 Q) (x1, x2, x3, (0 : Int32), (0 : Int32), h, g)
set_option maxHeartbeats 8000000 in
set_option maxRecDepth 100000 in
theorem m_X4_tells (l : Launch) (D : va_G) (cy : Nat → ClassId) (ad : Nat → Nat) (h : HI) (g : HL) (sz : Nat) (x1 : Int32) (x2 : Int32) (x3 : Int32) (Q : Int64 → HI → HL → Prop) (HW : w_X4_tells x1 x2 x3 h g Q) : Met l yX4_tells (wa yX4_tells cX4_tells 7 (some .long)) ({ frames := 1, cells := 0, slots := 0, locals := 24 }) (va_Pc [.ref (ad 77), .int x1, .int x2, .int x3] (gI D cy ad h g sz)) (va_Ql (fun (r : Int64) (u : HI × HL) => Q r u.1 u.2) (gB D cy ad sz) (gA ad sz)) 0 0 (gA ad sz) := by
  refine Met.ofW (cc := cX4_tells) (maxL := 7) (ret := (some .long)) (by decide) rfl ?_
  intro p e s m args below meth c s₁ B hml hv
  obtain ⟨hav, hsz, hP, hK, hD0, hNw⟩ := hv
  have hx := B.exec
  have hb := B.bytes
  have hr := B.returns
  have hts := atoms_spec (ws := (wa yX4_tells cX4_tells 7 (some .long))) B.pre
  have hw := wa_hw hts
  have hown : s.vm.findClass RX4 = some m.cls := findClass_of_methodNamed B.named
  have hlocks := B.notSynchronized
  subst hsz
  have hG : gG D cy ad (gA ad s.heap.size) s.heap h g s.heap [] := ⟨hP, gA_self hD0, va_S.rf⟩
  clear hP hD0
  have lk30 := hw (.fieldLink RX4 30 "OldWorks$Law" "written" "I") (wm1 133 rfl rfl)
  have lk11 := hw (.fieldLink RX4 11 "OldWorks$Law" "steps" "[I") (wm1 130 rfl rfl)
  have lk18 := hw (.fieldLink RX4 18 "OldWorks$Law" "pile" "[J") (wm1 132 rfl rfl)
  rw [show (headSpec (wa yX4_tells cX4_tells 7 (some .long)) ({ frames := 1, cells := 0, slots := 0, locals := 24 } : Room)).room = ({ frames := 1, cells := 0, slots := 0, locals := 24 } : Room) from rfl]
  have hl := lv_entry ([.ref (ad 77), .int x1, .int x2, .int x3]) (n := 7) (Nat.le_of_ble_eq_true rfl)
  rw [show entryFrame m args 7 = entryFrame m ([.ref (ad 77), .int x1, .int x2, .int x3] : List Value).toArray 7 from by rw [hav], lg_entry_eq]
  generalize (lg_sl ([.ref (ad 77), .int x1, .int x2, .int x3]) ++ List.replicate (7 - (lg_sl ([.ref (ad 77), .int x1, .int x2, .int x3])).length) Slot.unset).toArray = ls at hl ⊢
  have hl : lv_has ls 7 [(0, .ref (ad 77)), (1, .int x1), (2, .int x2), (3, .int x3)] := hl
  have B243 : ∀ (x4 : Int32) (h : HI) (g : HL) (H : Heap) (locs : List Loc) (ls : Array Slot), j_X4_tells_243 Q x4 h g → gG D cy ad (gA ad s.heap.size) s.heap h g H locs → lv_has ls 7 [(0, .ref (ad 77)), (4, .int x4)] → W p l e ({ frames := 1, cells := 0, slots := 0, locals := 24 } : Room) s m args below meth c H locs 0 0 (MQ below (va_Ql (fun (r : Int64) (u : HI × HL) => Q r u.1 u.2) (gB D cy ad s.heap.size) (gA ad s.heap.size)) args s 0 0 (gA ad s.heap.size)) (F0 m 243 ls []) := by
    intro x4 h g H locs ls HW hG hl
    unfold j_X4_tells_243 at HW
    refine lv_iload hx hb dX4_tells_243 (lv_at hl 1 rfl) ?_
    refine lv_if_le (tgt := 260) hx hb dX4_tells_245 (by decide) (fun c_245 => ?_) (fun c_245 => ?_)
    · replace HW := HW.1 c_245
      refine lv_lconst (v := 0) hx hb dX4_tells_260 (by decide) ?_
      exact W.lret (v := (0 : Int64)) hx hb hr (fun t ht hW => ⟨⟨(0 : Int64), (h, g), rfl, HW, g_B ht hG⟩, hG.2.2.F ht⟩) hG.2.2.2.2 dX4_tells_261
    · replace HW := HW.2 c_245
      refine lv_aload_n hx hb dX4_tells_248 rfl (lv_at hl 0 rfl) ?_
      refine g_getr hx hb hw inG4 hown hK hG gl_77 rfl gk_77 (by decide) 3 (by decide) (by rw [gm_77]; decide) (r := 80) gr_77_3 lk18 dX4_tells_249 ?_
      refine lv_iload hx hb dX4_tells_252 (lv_at hl 1 rfl) ?_
      refine lv_iconst (v := 1) hx hb dX4_tells_254 (by decide) ?_
      refine lv_isub hx hb dX4_tells_255 ?_
      refine g_lald hx hb hK hG gl_80 gk_80 gn_80 HW.1 dX4_tells_256 ?_
      replace HW := HW.2
      refine lv_goto (tgt := 261) hx hb dX4_tells_257 (by decide) ?_
      exact W.lret (v := (g 80 (x4 - (1 : Int32)).toNatClampNeg)) hx hb hr (fun t ht hW => ⟨⟨(g 80 (x4 - (1 : Int32)).toNatClampNeg), (h, g), rfl, HW, g_B ht hG⟩, hG.2.2.F ht⟩) hG.2.2.2.2 dX4_tells_261
  have B237 : ∀ (K6 : Int32 → Int32 → Int32 → Int32 → Int32 → HI → HL → Prop) (hK6 : ∀ (x1 : Int32) (x2 : Int32) (x3 : Int32) (x4 : Int32) (x5 : Int32) (h : HI) (g : HL) (H : Heap) (locs : List Loc) (ls : Array Slot), K6 x1 x2 x3 x4 x5 h g → gG D cy ad (gA ad s.heap.size) s.heap h g H locs → lv_has ls 7 [(0, .ref (ad 77)), (1, .int x1), (2, .int x2), (3, .int x3), (4, .int x4), (5, .int x5)] → W p l e ({ frames := 1, cells := 0, slots := 0, locals := 24 } : Room) s m args below meth c H locs 0 0 (MQ below (va_Ql (fun (r : Int64) (u : HI × HL) => Q r u.1 u.2) (gB D cy ad s.heap.size) (gA ad s.heap.size)) args s 0 0 (gA ad s.heap.size)) (F0 m 6 ls [])) (x1 : Int32) (x2 : Int32) (x3 : Int32) (x4 : Int32) (x5 : Int32) (h : HI) (g : HL) (H : Heap) (locs : List Loc) (ls : Array Slot), j_X4_tells_237 Q K6 x1 x2 x3 x4 x5 h g → gG D cy ad (gA ad s.heap.size) s.heap h g H locs → lv_has ls 7 [(0, .ref (ad 77)), (1, .int x1), (2, .int x2), (3, .int x3), (4, .int x4), (5, .int x5)] → W p l e ({ frames := 1, cells := 0, slots := 0, locals := 24 } : Room) s m args below meth c H locs 0 0 (MQ below (va_Ql (fun (r : Int64) (u : HI × HL) => Q r u.1 u.2) (gB D cy ad s.heap.size) (gA ad s.heap.size)) args s 0 0 (gA ad s.heap.size)) (F0 m 237 ls []) := by
    intro K6 hK6 x1 x2 x3 x4 x5 h g H locs ls HW hG hl
    unfold j_X4_tells_237 at HW
    obtain ⟨x5_237, ex5_237⟩ : ∃ y : Int32, y = (x5 + 1) := ⟨_, rfl⟩
    replace HW := HW x5_237 ex5_237
    refine lv_iinc (v := x5_237) (lv' := [(5, .int x5_237), (0, .ref (ad 77)), (1, .int x1), (2, .int x2), (3, .int x3), (4, .int x4)]) hx hb dX4_tells_237 hl (k := 5) rfl (by rw [ex5_237]; rfl) (by decide) rfl (fun ls hl => ?_)
    refine lv_goto (tgt := 6) hx hb dX4_tells_240 (by decide) ?_
    exact hK6 x1 x2 x3 x4 x5_237 h g _ _ _ HW hG (lv_sub hl [1, 2, 3, 4, 5, 0] rfl)
  have B115 : ∀ (K6 : Int32 → Int32 → Int32 → Int32 → Int32 → HI → HL → Prop) (hK6 : ∀ (x1 : Int32) (x2 : Int32) (x3 : Int32) (x4 : Int32) (x5 : Int32) (h : HI) (g : HL) (H : Heap) (locs : List Loc) (ls : Array Slot), K6 x1 x2 x3 x4 x5 h g → gG D cy ad (gA ad s.heap.size) s.heap h g H locs → lv_has ls 7 [(0, .ref (ad 77)), (1, .int x1), (2, .int x2), (3, .int x3), (4, .int x4), (5, .int x5)] → W p l e ({ frames := 1, cells := 0, slots := 0, locals := 24 } : Room) s m args below meth c H locs 0 0 (MQ below (va_Ql (fun (r : Int64) (u : HI × HL) => Q r u.1 u.2) (gB D cy ad s.heap.size) (gA ad s.heap.size)) args s 0 0 (gA ad s.heap.size)) (F0 m 6 ls [])) (x1 : Int32) (x2 : Int32) (x3 : Int32) (x4 : Int32) (x5 : Int32) (s1 : Int32) (s2 : Int64) (h : HI) (g : HL) (H : Heap) (locs : List Loc) (ls : Array Slot), j_X4_tells_115 Q K6 x1 x2 x3 x4 x5 s1 s2 h g → gG D cy ad (gA ad s.heap.size) s.heap h g H locs → lv_has ls 7 [(0, .ref (ad 77)), (1, .int x1), (2, .int x2), (3, .int x3), (4, .int x4), (5, .int x5)] → W p l e ({ frames := 1, cells := 0, slots := 0, locals := 24 } : Room) s m args below meth c H locs 0 0 (MQ below (va_Ql (fun (r : Int64) (u : HI × HL) => Q r u.1 u.2) (gB D cy ad s.heap.size) (gA ad s.heap.size)) args s 0 0 (gA ad s.heap.size)) (F0 m 115 ls [.long s2, .int s1, .ref (ad 80)]) := by
    intro K6 hK6 x1 x2 x3 x4 x5 s1 s2 h g H locs ls HW hG hl
    unfold j_X4_tells_115 at HW
    refine g_last hx hb hK hG gl_80 gk_80 gn_80 HW.1 dX4_tells_115 (fun H locs hG => ?_)
    replace HW := HW.2
    obtain ⟨g_115, eg_115⟩ : ∃ y : HL, y = hul g 80 s1.toNatClampNeg s2 := ⟨_, rfl⟩
    rw [← eg_115] at hG
    replace HW := HW g_115 eg_115
    obtain ⟨x4_116, ex4_116⟩ : ∃ y : Int32, y = (x4 + 1) := ⟨_, rfl⟩
    replace HW := HW x4_116 ex4_116
    refine lv_iinc (v := x4_116) (lv' := [(4, .int x4_116), (0, .ref (ad 77)), (1, .int x1), (2, .int x2), (3, .int x3), (5, .int x5)]) hx hb dX4_tells_116 hl (k := 4) rfl (by rw [ex4_116]; rfl) (by decide) rfl (fun ls hl => ?_)
    refine lv_goto (tgt := 237) hx hb dX4_tells_119 (by decide) ?_
    exact B237 K6 hK6 x1 x2 x3 x4_116 x5 h g_115 _ _ _ HW hG (lv_sub hl [1, 2, 3, 4, 0, 5] rfl)
  have B60 : ∀ (K6 : Int32 → Int32 → Int32 → Int32 → Int32 → HI → HL → Prop) (hK6 : ∀ (x1 : Int32) (x2 : Int32) (x3 : Int32) (x4 : Int32) (x5 : Int32) (h : HI) (g : HL) (H : Heap) (locs : List Loc) (ls : Array Slot), K6 x1 x2 x3 x4 x5 h g → gG D cy ad (gA ad s.heap.size) s.heap h g H locs → lv_has ls 7 [(0, .ref (ad 77)), (1, .int x1), (2, .int x2), (3, .int x3), (4, .int x4), (5, .int x5)] → W p l e ({ frames := 1, cells := 0, slots := 0, locals := 24 } : Room) s m args below meth c H locs 0 0 (MQ below (va_Ql (fun (r : Int64) (u : HI × HL) => Q r u.1 u.2) (gB D cy ad s.heap.size) (gA ad s.heap.size)) args s 0 0 (gA ad s.heap.size)) (F0 m 6 ls [])) (x1 : Int32) (x2 : Int32) (x3 : Int32) (x4 : Int32) (x5 : Int32) (x6 : Int32) (h : HI) (g : HL) (H : Heap) (locs : List Loc) (ls : Array Slot), j_X4_tells_60 Q K6 x1 x2 x3 x4 x5 x6 h g → gG D cy ad (gA ad s.heap.size) s.heap h g H locs → lv_has ls 7 [(0, .ref (ad 77)), (1, .int x1), (2, .int x2), (3, .int x3), (4, .int x4), (5, .int x5), (6, .int x6)] → W p l e ({ frames := 1, cells := 0, slots := 0, locals := 24 } : Room) s m args below meth c H locs 0 0 (MQ below (va_Ql (fun (r : Int64) (u : HI × HL) => Q r u.1 u.2) (gB D cy ad s.heap.size) (gA ad s.heap.size)) args s 0 0 (gA ad s.heap.size)) (F0 m 60 ls []) := by
    intro K6 hK6 x1 x2 x3 x4 x5 x6 h g H locs ls HW hG hl
    unfold j_X4_tells_60 at HW
    refine lv_iload hx hb dX4_tells_60 (lv_at hl 4 rfl) ?_
    refine lv_aload_n hx hb dX4_tells_62 rfl (lv_at hl 0 rfl) ?_
    refine g_getr hx hb hw inG4 hown hK hG gl_77 rfl gk_77 (by decide) 3 (by decide) (by rw [gm_77]; decide) (r := 80) gr_77_3 lk18 dX4_tells_63 ?_
    refine g_alenj hx hb hK hG gl_80 gk_80 (v := (60 : Int32)) (by rw [gn_80]; decide) dX4_tells_66 ?_
    refine lv_icmp_lt (tgt := 72) hx hb dX4_tells_67 (by decide) (fun c_67 => ?_) (fun c_67 => ?_)
    · replace HW := HW.1 c_67
      refine lv_aload_n hx hb dX4_tells_72 rfl (lv_at hl 0 rfl) ?_
      refine g_getr hx hb hw inG4 hown hK hG gl_77 rfl gk_77 (by decide) 3 (by decide) (by rw [gm_77]; decide) (r := 80) gr_77_3 lk18 dX4_tells_73 ?_
      refine lv_iload hx hb dX4_tells_76 (lv_at hl 4 rfl) ?_
      refine lv_iload hx hb dX4_tells_78 (lv_at hl 6 rfl) ?_
      refine lv_if_lt (tgt := 89) hx hb dX4_tells_80 (by decide) (fun c_80 => ?_) (fun c_80 => ?_)
      · replace HW := HW.1 c_80
        refine lv_iload hx hb dX4_tells_89 (lv_at hl 6 rfl) ?_
        refine lv_bipush (v := (-121)) hx hb dX4_tells_91 (by decide) ?_
        refine lv_icmp_ne (tgt := 101) hx hb dX4_tells_93 (by decide) (fun c_93 => ?_) (fun c_93 => ?_)
        · replace HW := HW.1 c_93
          refine lv_iload hx hb dX4_tells_101 (lv_at hl 6 rfl) ?_
          refine lv_bipush (v := (-108)) hx hb dX4_tells_103 (by decide) ?_
          refine lv_icmp_ne (tgt := 113) hx hb dX4_tells_105 (by decide) (fun c_105 => ?_) (fun c_105 => ?_)
          · replace HW := HW.1 c_105
            refine lv_iload_n hx hb dX4_tells_113 rfl (lv_at hl 3 rfl) ?_
            refine lv_i2l hx hb dX4_tells_114 rfl ?_
            exact B115 K6 hK6 x1 x2 x3 x4 x5 x4 ((x3).toInt64) h g _ _ _ HW hG (lv_sub hl [0, 1, 2, 3, 4, 5] rfl)
          · replace HW := HW.2 c_105
            refine lv_iload_n hx hb dX4_tells_108 rfl (lv_at hl 2 rfl) ?_
            refine lv_i2l hx hb dX4_tells_109 rfl ?_
            refine lv_goto (tgt := 115) hx hb dX4_tells_110 (by decide) ?_
            exact B115 K6 hK6 x1 x2 x3 x4 x5 x4 ((x2).toInt64) h g _ _ _ HW hG (lv_sub hl [0, 1, 2, 3, 4, 5] rfl)
        · replace HW := HW.2 c_93
          refine lv_iload_n hx hb dX4_tells_96 rfl (lv_at hl 1 rfl) ?_
          refine lv_i2l hx hb dX4_tells_97 rfl ?_
          refine lv_goto (tgt := 115) hx hb dX4_tells_98 (by decide) ?_
          exact B115 K6 hK6 x1 x2 x3 x4 x5 x4 ((x1).toInt64) h g _ _ _ HW hG (lv_sub hl [0, 1, 2, 3, 4, 5] rfl)
      · replace HW := HW.2 c_80
        refine lv_iload hx hb dX4_tells_83 (lv_at hl 6 rfl) ?_
        refine lv_i2l hx hb dX4_tells_85 rfl ?_
        refine lv_goto (tgt := 115) hx hb dX4_tells_86 (by decide) ?_
        exact B115 K6 hK6 x1 x2 x3 x4 x5 x4 ((x6).toInt64) h g _ _ _ HW hG (lv_sub hl [0, 1, 2, 3, 4, 5] rfl)
    · replace HW := HW.2 c_67
      refine lv_lconst (v := 0) hx hb dX4_tells_70 (by decide) ?_
      exact W.lret (v := (0 : Int64)) hx hb hr (fun t ht hW => ⟨⟨(0 : Int64), (h, g), rfl, HW, g_B ht hG⟩, hG.2.2.F ht⟩) hG.2.2.2.2 dX4_tells_71
  have B191 : ∀ (K6 : Int32 → Int32 → Int32 → Int32 → Int32 → HI → HL → Prop) (hK6 : ∀ (x1 : Int32) (x2 : Int32) (x3 : Int32) (x4 : Int32) (x5 : Int32) (h : HI) (g : HL) (H : Heap) (locs : List Loc) (ls : Array Slot), K6 x1 x2 x3 x4 x5 h g → gG D cy ad (gA ad s.heap.size) s.heap h g H locs → lv_has ls 7 [(0, .ref (ad 77)), (1, .int x1), (2, .int x2), (3, .int x3), (4, .int x4), (5, .int x5)] → W p l e ({ frames := 1, cells := 0, slots := 0, locals := 24 } : Room) s m args below meth c H locs 0 0 (MQ below (va_Ql (fun (r : Int64) (u : HI × HL) => Q r u.1 u.2) (gB D cy ad s.heap.size) (gA ad s.heap.size)) args s 0 0 (gA ad s.heap.size)) (F0 m 6 ls [])) (x1 : Int32) (x2 : Int32) (x3 : Int32) (x4 : Int32) (x5 : Int32) (s1 : Int32) (s2 : Int64) (h : HI) (g : HL) (H : Heap) (locs : List Loc) (ls : Array Slot), j_X4_tells_191 Q K6 x1 x2 x3 x4 x5 s1 s2 h g → gG D cy ad (gA ad s.heap.size) s.heap h g H locs → lv_has ls 7 [(0, .ref (ad 77)), (1, .int x1), (2, .int x2), (3, .int x3), (4, .int x4), (5, .int x5)] → W p l e ({ frames := 1, cells := 0, slots := 0, locals := 24 } : Room) s m args below meth c H locs 0 0 (MQ below (va_Ql (fun (r : Int64) (u : HI × HL) => Q r u.1 u.2) (gB D cy ad s.heap.size) (gA ad s.heap.size)) args s 0 0 (gA ad s.heap.size)) (F0 m 191 ls [.long s2, .int s1, .ref (ad 80)]) := by
    intro K6 hK6 x1 x2 x3 x4 x5 s1 s2 h g H locs ls HW hG hl
    unfold j_X4_tells_191 at HW
    refine g_last hx hb hK hG gl_80 gk_80 gn_80 HW.1 dX4_tells_191 (fun H locs hG => ?_)
    replace HW := HW.2
    obtain ⟨g_191, eg_191⟩ : ∃ y : HL, y = hul g 80 s1.toNatClampNeg s2 := ⟨_, rfl⟩
    rw [← eg_191] at hG
    replace HW := HW g_191 eg_191
    refine lv_goto (tgt := 237) hx hb dX4_tells_192 (by decide) ?_
    exact B237 K6 hK6 x1 x2 x3 x4 x5 h g_191 _ _ _ HW hG (lv_sub hl [0, 1, 2, 3, 4, 5] rfl)
  have B136 : ∀ (K6 : Int32 → Int32 → Int32 → Int32 → Int32 → HI → HL → Prop) (hK6 : ∀ (x1 : Int32) (x2 : Int32) (x3 : Int32) (x4 : Int32) (x5 : Int32) (h : HI) (g : HL) (H : Heap) (locs : List Loc) (ls : Array Slot), K6 x1 x2 x3 x4 x5 h g → gG D cy ad (gA ad s.heap.size) s.heap h g H locs → lv_has ls 7 [(0, .ref (ad 77)), (1, .int x1), (2, .int x2), (3, .int x3), (4, .int x4), (5, .int x5)] → W p l e ({ frames := 1, cells := 0, slots := 0, locals := 24 } : Room) s m args below meth c H locs 0 0 (MQ below (va_Ql (fun (r : Int64) (u : HI × HL) => Q r u.1 u.2) (gB D cy ad s.heap.size) (gA ad s.heap.size)) args s 0 0 (gA ad s.heap.size)) (F0 m 6 ls [])) (x1 : Int32) (x2 : Int32) (x3 : Int32) (x4 : Int32) (x5 : Int32) (x6 : Int32) (h : HI) (g : HL) (H : Heap) (locs : List Loc) (ls : Array Slot), j_X4_tells_136 Q K6 x1 x2 x3 x4 x5 x6 h g → gG D cy ad (gA ad s.heap.size) s.heap h g H locs → lv_has ls 7 [(0, .ref (ad 77)), (1, .int x1), (2, .int x2), (3, .int x3), (4, .int x4), (5, .int x5), (6, .int x6)] → W p l e ({ frames := 1, cells := 0, slots := 0, locals := 24 } : Room) s m args below meth c H locs 0 0 (MQ below (va_Ql (fun (r : Int64) (u : HI × HL) => Q r u.1 u.2) (gB D cy ad s.heap.size) (gA ad s.heap.size)) args s 0 0 (gA ad s.heap.size)) (F0 m 136 ls []) := by
    intro K6 hK6 x1 x2 x3 x4 x5 x6 h g H locs ls HW hG hl
    unfold j_X4_tells_136 at HW
    refine lv_iload hx hb dX4_tells_136 (lv_at hl 4 rfl) ?_
    refine lv_iconst (v := 1) hx hb dX4_tells_138 (by decide) ?_
    refine lv_icmp_ge (tgt := 144) hx hb dX4_tells_139 (by decide) (fun c_139 => ?_) (fun c_139 => ?_)
    · replace HW := HW.1 c_139
      refine lv_aload_n hx hb dX4_tells_144 rfl (lv_at hl 0 rfl) ?_
      refine g_getr hx hb hw inG4 hown hK hG gl_77 rfl gk_77 (by decide) 3 (by decide) (by rw [gm_77]; decide) (r := 80) gr_77_3 lk18 dX4_tells_145 ?_
      refine lv_iload hx hb dX4_tells_148 (lv_at hl 4 rfl) ?_
      refine lv_iconst (v := 1) hx hb dX4_tells_150 (by decide) ?_
      refine lv_isub hx hb dX4_tells_151 ?_
      refine lv_iload hx hb dX4_tells_152 (lv_at hl 6 rfl) ?_
      refine lv_bipush (v := (-126)) hx hb dX4_tells_154 (by decide) ?_
      refine lv_icmp_ne (tgt := 172) hx hb dX4_tells_156 (by decide) (fun c_156 => ?_) (fun c_156 => ?_)
      · replace HW := HW.1 c_156
        refine lv_aload_n hx hb dX4_tells_172 rfl (lv_at hl 0 rfl) ?_
        refine g_getr hx hb hw inG4 hown hK hG gl_77 rfl gk_77 (by decide) 3 (by decide) (by rw [gm_77]; decide) (r := 80) gr_77_3 lk18 dX4_tells_173 ?_
        refine lv_iload hx hb dX4_tells_176 (lv_at hl 4 rfl) ?_
        refine lv_iconst (v := 1) hx hb dX4_tells_178 (by decide) ?_
        refine lv_isub hx hb dX4_tells_179 ?_
        refine g_lald hx hb hK hG gl_80 gk_80 gn_80 HW.1 dX4_tells_180 ?_
        replace HW := HW.2
        refine lv_lconst (v := 0) hx hb dX4_tells_181 (by decide) ?_
        refine W.lcmp hx hb dX4_tells_182 ?_
        refine lv_if_ne (tgt := 190) hx hb dX4_tells_183 (by decide) (fun c_183 => ?_) (fun c_183 => ?_)
        · replace HW := HW.1 c_183
          refine lv_lconst (v := 0) hx hb dX4_tells_190 (by decide) ?_
          exact B191 K6 hK6 x1 x2 x3 x4 x5 (x4 - (1 : Int32)) (0 : Int64) h g _ _ _ HW hG (lv_sub hl [0, 1, 2, 3, 4, 5] rfl)
        · replace HW := HW.2 c_183
          refine lv_lconst (v := 1) hx hb dX4_tells_186 (by decide) ?_
          refine lv_goto (tgt := 191) hx hb dX4_tells_187 (by decide) ?_
          exact B191 K6 hK6 x1 x2 x3 x4 x5 (x4 - (1 : Int32)) (1 : Int64) h g _ _ _ HW hG (lv_sub hl [0, 1, 2, 3, 4, 5] rfl)
      · replace HW := HW.2 c_156
        refine lv_aload_n hx hb dX4_tells_159 rfl (lv_at hl 0 rfl) ?_
        refine g_getr hx hb hw inG4 hown hK hG gl_77 rfl gk_77 (by decide) 3 (by decide) (by rw [gm_77]; decide) (r := 80) gr_77_3 lk18 dX4_tells_160 ?_
        refine lv_iload hx hb dX4_tells_163 (lv_at hl 4 rfl) ?_
        refine lv_iconst (v := 1) hx hb dX4_tells_165 (by decide) ?_
        refine lv_isub hx hb dX4_tells_166 ?_
        refine g_lald hx hb hK hG gl_80 gk_80 gn_80 HW.1 dX4_tells_167 ?_
        replace HW := HW.2
        refine lv_lneg hx hb dX4_tells_168 ?_
        refine lv_goto (tgt := 191) hx hb dX4_tells_169 (by decide) ?_
        exact B191 K6 hK6 x1 x2 x3 x4 x5 (x4 - (1 : Int32)) (-(g 80 (x4 - (1 : Int32)).toNatClampNeg)) h g _ _ _ HW hG (lv_sub hl [0, 1, 2, 3, 4, 5] rfl)
    · replace HW := HW.2 c_139
      refine lv_lconst (v := 0) hx hb dX4_tells_142 (by decide) ?_
      exact W.lret (v := (0 : Int64)) hx hb hr (fun t ht hW => ⟨⟨(0 : Int64), (h, g), rfl, HW, g_B ht hG⟩, hG.2.2.F ht⟩) hG.2.2.2.2 dX4_tells_143
  have L6 : ∀ (n : Nat) (x1 : Int32) (x2 : Int32) (x3 : Int32) (x4 : Int32) (x5 : Int32) (h : HI) (g : HL) (H : Heap) (locs : List Loc) (ls : Array Slot), lpN (F_X4_tells_6 Q) n (x1, x2, x3, x4, x5, h, g) → gG D cy ad (gA ad s.heap.size) s.heap h g H locs → lv_has ls 7 [(0, .ref (ad 77)), (1, .int x1), (2, .int x2), (3, .int x3), (4, .int x4), (5, .int x5)] → W p l e ({ frames := 1, cells := 0, slots := 0, locals := 24 } : Room) s m args below meth c H locs 0 0 (MQ below (va_Ql (fun (r : Int64) (u : HI × HL) => Q r u.1 u.2) (gB D cy ad s.heap.size) (gA ad s.heap.size)) args s 0 0 (gA ad s.heap.size)) (F0 m 6 ls []) := by
    intro n
    induction n with
    | zero => intro x1 x2 x3 x4 x5 h g H locs ls HW; exact HW.elim
    | succ n ih =>
      intro x1 x2 x3 x4 x5 h g H locs ls HW hG hl
      have HW : b_X4_tells_6 Q (fun x1 x2 x3 x4 x5 h g => lpN (F_X4_tells_6 Q) n (x1, x2, x3, x4, x5, h, g)) x1 x2 x3 x4 x5 h g := HW
      generalize hKe : (fun (x1 : Int32) (x2 : Int32) (x3 : Int32) (x4 : Int32) (x5 : Int32) (h : HI) (g : HL) => lpN (F_X4_tells_6 Q) n (x1, x2, x3, x4, x5, h, g)) = K6 at HW
      have hK6 : ∀ (x1 : Int32) (x2 : Int32) (x3 : Int32) (x4 : Int32) (x5 : Int32) (h : HI) (g : HL) (H : Heap) (locs : List Loc) (ls : Array Slot), K6 x1 x2 x3 x4 x5 h g → gG D cy ad (gA ad s.heap.size) s.heap h g H locs → lv_has ls 7 [(0, .ref (ad 77)), (1, .int x1), (2, .int x2), (3, .int x3), (4, .int x4), (5, .int x5)] → W p l e ({ frames := 1, cells := 0, slots := 0, locals := 24 } : Room) s m args below meth c H locs 0 0 (MQ below (va_Ql (fun (r : Int64) (u : HI × HL) => Q r u.1 u.2) (gB D cy ad s.heap.size) (gA ad s.heap.size)) args s 0 0 (gA ad s.heap.size)) (F0 m 6 ls []) := by subst hKe; exact ih
      clear ih
      clear hKe
      unfold b_X4_tells_6 at HW
      refine lv_iload hx hb dX4_tells_6 (lv_at hl 5 rfl) ?_
      refine lv_aload_n hx hb dX4_tells_8 rfl (lv_at hl 0 rfl) ?_
      refine g_geti hx hb hw inG4 hown hK hG gl_77 rfl gk_77 (by decide) 4 (by decide) (by rw [gm_77]; decide) gr_77_4 lk30 dX4_tells_9 ?_
      refine lv_icmp_ge (tgt := 243) hx hb dX4_tells_12 (by decide) (fun c_12 => ?_) (fun c_12 => ?_)
      · replace HW := HW.1 c_12
        exact B243 x4 h g _ _ _ HW hG (lv_sub hl [0, 4] rfl)
      · replace HW := HW.2 c_12
        refine lv_iload hx hb dX4_tells_15 (lv_at hl 5 rfl) ?_
        refine lv_aload_n hx hb dX4_tells_17 rfl (lv_at hl 0 rfl) ?_
        refine g_getr hx hb hw inG4 hown hK hG gl_77 rfl gk_77 (by decide) 1 (by decide) (by rw [gm_77]; decide) (r := 78) gr_77_1 lk11 dX4_tells_18 ?_
        refine g_alen hx hb hK hG gl_78 gk_78 (v := (60 : Int32)) (by rw [gn_78]; decide) dX4_tells_21 ?_
        refine lv_icmp_ge (tgt := 243) hx hb dX4_tells_22 (by decide) (fun c_22 => ?_) (fun c_22 => ?_)
        · replace HW := HW.1 c_22
          exact B243 x4 h g _ _ _ HW hG (lv_sub hl [0, 4] rfl)
        · replace HW := HW.2 c_22
          refine lv_aload_n hx hb dX4_tells_25 rfl (lv_at hl 0 rfl) ?_
          refine g_getr hx hb hw inG4 hown hK hG gl_77 rfl gk_77 (by decide) 1 (by decide) (by rw [gm_77]; decide) (r := 78) gr_77_1 lk11 dX4_tells_26 ?_
          refine lv_iload hx hb dX4_tells_29 (lv_at hl 5 rfl) ?_
          refine g_iald hx hb hK hG gl_78 gk_78 gn_78 HW.1 dX4_tells_31 ?_
          replace HW := HW.2
          refine lv_topi (fun x6_32 ex6_32 => ?_)
          replace HW := HW x6_32 ex6_32
          refine lv_istore (lv' := [(6, .int x6_32), (0, .ref (ad 77)), (1, .int x1), (2, .int x2), (3, .int x3), (4, .int x4), (5, .int x5)]) hx hb dX4_tells_32 hl (by decide) rfl (fun ls hl => ?_)
          refine lv_iload hx hb dX4_tells_34 (lv_at hl 0 rfl) ?_
          refine lv_if_ge (tgt := 60) hx hb dX4_tells_36 (by decide) (fun c_36 => ?_) (fun c_36 => ?_)
          · replace HW := HW.1 c_36
            exact B60 K6 hK6 x1 x2 x3 x4 x5 x6_32 h g _ _ _ HW hG (lv_sub hl [1, 2, 3, 4, 5, 6, 0] rfl)
          · replace HW := HW.2 c_36
            refine lv_iload hx hb dX4_tells_39 (lv_at hl 0 rfl) ?_
            refine lv_bipush (v := (-121)) hx hb dX4_tells_41 (by decide) ?_
            refine lv_icmp_eq (tgt := 60) hx hb dX4_tells_43 (by decide) (fun c_43 => ?_) (fun c_43 => ?_)
            · replace HW := HW.1 c_43
              exact B60 K6 hK6 x1 x2 x3 x4 x5 x6_32 h g _ _ _ HW hG (lv_sub hl [1, 2, 3, 4, 5, 6, 0] rfl)
            · replace HW := HW.2 c_43
              refine lv_iload hx hb dX4_tells_46 (lv_at hl 0 rfl) ?_
              refine lv_bipush (v := (-108)) hx hb dX4_tells_48 (by decide) ?_
              refine lv_icmp_eq (tgt := 60) hx hb dX4_tells_50 (by decide) (fun c_50 => ?_) (fun c_50 => ?_)
              · replace HW := HW.1 c_50
                exact B60 K6 hK6 x1 x2 x3 x4 x5 x6_32 h g _ _ _ HW hG (lv_sub hl [1, 2, 3, 4, 5, 6, 0] rfl)
              · replace HW := HW.2 c_50
                refine lv_iload hx hb dX4_tells_53 (lv_at hl 0 rfl) ?_
                refine lv_bipush (v := (-104)) hx hb dX4_tells_55 (by decide) ?_
                refine lv_icmp_ne (tgt := 122) hx hb dX4_tells_57 (by decide) (fun c_57 => ?_) (fun c_57 => ?_)
                · replace HW := HW.1 c_57
                  refine lv_iload hx hb dX4_tells_122 (lv_at hl 0 rfl) ?_
                  refine lv_bipush (v := (-33)) hx hb dX4_tells_124 (by decide) ?_
                  refine lv_icmp_eq (tgt := 136) hx hb dX4_tells_126 (by decide) (fun c_126 => ?_) (fun c_126 => ?_)
                  · replace HW := HW.1 c_126
                    exact B136 K6 hK6 x1 x2 x3 x4 x5 x6_32 h g _ _ _ HW hG (lv_sub hl [1, 2, 3, 4, 5, 6, 0] rfl)
                  · replace HW := HW.2 c_126
                    refine lv_iload hx hb dX4_tells_129 (lv_at hl 0 rfl) ?_
                    refine lv_bipush (v := (-126)) hx hb dX4_tells_131 (by decide) ?_
                    refine lv_icmp_ne (tgt := 195) hx hb dX4_tells_133 (by decide) (fun c_133 => ?_) (fun c_133 => ?_)
                    · replace HW := HW.1 c_133
                      refine lv_iload hx hb dX4_tells_195 (lv_at hl 5 rfl) ?_
                      refine lv_iconst (v := 2) hx hb dX4_tells_197 (by decide) ?_
                      refine lv_icmp_ge (tgt := 203) hx hb dX4_tells_198 (by decide) (fun c_198 => ?_) (fun c_198 => ?_)
                      · replace HW := HW.1 c_198
                        obtain ⟨x4_203, ex4_203⟩ : ∃ y : Int32, y = (x4 + (-1)) := ⟨_, rfl⟩
                        replace HW := HW x4_203 ex4_203
                        refine lv_iinc (v := x4_203) (lv' := [(4, .int x4_203), (6, .int x6_32), (0, .ref (ad 77)), (1, .int x1), (2, .int x2), (3, .int x3), (5, .int x5)]) hx hb dX4_tells_203 hl (k := 5) rfl (by rw [ex4_203]; rfl) (by decide) rfl (fun ls hl => ?_)
                        refine lv_aload_n hx hb dX4_tells_206 rfl (lv_at hl 2 rfl) ?_
                        refine g_getr hx hb hw inG4 hown hK hG gl_77 rfl gk_77 (by decide) 3 (by decide) (by rw [gm_77]; decide) (r := 80) gr_77_3 lk18 dX4_tells_207 ?_
                        refine lv_iload hx hb dX4_tells_210 (lv_at hl 0 rfl) ?_
                        refine lv_iconst (v := 1) hx hb dX4_tells_212 (by decide) ?_
                        refine lv_isub hx hb dX4_tells_213 ?_
                        refine lv_iload hx hb dX4_tells_214 (lv_at hl 1 rfl) ?_
                        refine lv_ineg hx hb dX4_tells_216 ?_
                        refine lv_aload_n hx hb dX4_tells_217 rfl (lv_at hl 2 rfl) ?_
                        refine g_getr hx hb hw inG4 hown hK hG gl_77 rfl gk_77 (by decide) 3 (by decide) (by rw [gm_77]; decide) (r := 80) gr_77_3 lk18 dX4_tells_218 ?_
                        refine lv_iload hx hb dX4_tells_221 (lv_at hl 0 rfl) ?_
                        refine lv_iconst (v := 1) hx hb dX4_tells_223 (by decide) ?_
                        refine lv_isub hx hb dX4_tells_224 ?_
                        refine g_lald hx hb hK hG gl_80 gk_80 gn_80 HW.1 dX4_tells_225 ?_
                        replace HW := HW.2
                        refine lv_aload_n hx hb dX4_tells_226 rfl (lv_at hl 2 rfl) ?_
                        refine g_getr hx hb hw inG4 hown hK hG gl_77 rfl gk_77 (by decide) 3 (by decide) (by rw [gm_77]; decide) (r := 80) gr_77_3 lk18 dX4_tells_227 ?_
                        refine lv_iload hx hb dX4_tells_230 (lv_at hl 0 rfl) ?_
                        refine g_lald hx hb hK hG gl_80 gk_80 gn_80 HW.1 dX4_tells_232 ?_
                        replace HW := HW.2
                        obtain ⟨P_233, HC_233, HW⟩ := HW
                        refine g_calll (g_runS (As := [.int (-x6_32), .long (g 80 (x4_203 - (1 : Int32)).toNatClampNeg), .long (g 80 x4_203.toNatClampNeg)]) (rest := [.int (x4_203 - (1 : Int32)), .ref (ad 80)]) ⟨hx, hb, hml, hown, hts⟩ (m_X4_joined l D cy ad h g H.size (-x6_32) (g 80 (x4_203 - (1 : Int32)).toNatClampNeg) (g 80 x4_203.toNatClampNeg) P_233 HC_233) (va_cwS 3 hts (gd_S (wm3 51 rfl rfl) (wm3 52 rfl rfl) (wm1 4 rfl rfl) (wm3 53 rfl rfl)) rfl rfl rfl (by decide +kernel) ⟨Nat.le_of_ble_eq_true rfl, Nat.le_of_ble_eq_true rfl⟩) hK hNw hG rfl rfl hl.1 rfl (lv_room (Nat.le_of_ble_eq_true rfl)) dX4_tells_233 ⟨Nat.zero_le _, Nat.zero_le _⟩) hG (fun r_233 h_233 g_233 H locs hq hG => ?_)
                        replace HW := HW r_233 h_233 g_233 hq
                        refine g_last hx hb hK hG gl_80 gk_80 gn_80 HW.1 dX4_tells_236 (fun H locs hG => ?_)
                        replace HW := HW.2
                        obtain ⟨g_236, eg_236⟩ : ∃ y : HL, y = hul g_233 80 (x4_203 - (1 : Int32)).toNatClampNeg r_233 := ⟨_, rfl⟩
                        rw [← eg_236] at hG
                        replace HW := HW g_236 eg_236
                        exact B237 K6 hK6 x1 x2 x3 x4_203 x5 h_233 g_236 _ _ _ HW hG (lv_sub hl [2, 3, 4, 5, 0, 6] rfl)
                      · replace HW := HW.2 c_198
                        refine lv_lconst (v := 0) hx hb dX4_tells_201 (by decide) ?_
                        exact W.lret (v := (0 : Int64)) hx hb hr (fun t ht hW => ⟨⟨(0 : Int64), (h, g), rfl, HW, g_B ht hG⟩, hG.2.2.F ht⟩) hG.2.2.2.2 dX4_tells_202
                    · replace HW := HW.2 c_133
                      exact B136 K6 hK6 x1 x2 x3 x4 x5 x6_32 h g _ _ _ HW hG (lv_sub hl [1, 2, 3, 4, 5, 6, 0] rfl)
                · replace HW := HW.2 c_57
                  exact B60 K6 hK6 x1 x2 x3 x4 x5 x6_32 h g _ _ _ HW hG (lv_sub hl [1, 2, 3, 4, 5, 6, 0] rfl)
  have E0 : ∀ (H : Heap) (locs : List Loc) (ls : Array Slot), gG D cy ad (gA ad s.heap.size) s.heap h g H locs → lv_has ls 7 [(0, .ref (ad 77)), (1, .int x1), (2, .int x2), (3, .int x3)] → W p l e ({ frames := 1, cells := 0, slots := 0, locals := 24 } : Room) s m args below meth c H locs 0 0 (MQ below (va_Ql (fun (r : Int64) (u : HI × HL) => Q r u.1 u.2) (gB D cy ad s.heap.size) (gA ad s.heap.size)) args s 0 0 (gA ad s.heap.size)) (F0 m 0 ls []) := by
    intro H locs ls hG hl
    unfold w_X4_tells at HW
    refine lv_iconst (v := 0) hx hb dX4_tells_0 (by decide) ?_
    refine lv_istore (lv' := [(4, .int (0 : Int32)), (0, .ref (ad 77)), (1, .int x1), (2, .int x2), (3, .int x3)]) hx hb dX4_tells_1 hl (by decide) rfl (fun ls hl => ?_)
    refine lv_iconst (v := 0) hx hb dX4_tells_3 (by decide) ?_
    refine lv_istore (lv' := [(5, .int (0 : Int32)), (4, .int (0 : Int32)), (0, .ref (ad 77)), (1, .int x1), (2, .int x2), (3, .int x3)]) hx hb dX4_tells_4 hl (by decide) rfl (fun ls hl => ?_)
    obtain ⟨n_6, HW⟩ := HW
    exact L6 n_6 x1 x2 x3 (0 : Int32) (0 : Int32) h g _ _ _ HW hG (lv_sub hl [2, 3, 4, 5, 1, 0] rfl)
  exact E0 _ _ _ hG hl
