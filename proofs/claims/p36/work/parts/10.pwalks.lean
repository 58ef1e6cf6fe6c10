set_option maxHeartbeats 8000000 in
set_option maxRecDepth 100000 in
theorem n_X8_put (l : Launch) (D : va_G) (cy : Nat → ClassId) (bs nw : Nat) (E : Nat → Option (List Value)) (h : HI) (g : HL) (o : Nat) (hT : isT o) (hpo : o < nw ∧ E o = none) (hpa : o + 1 < nw ∧ E (o + 1) = none) (x1 : Int32) (x2 : Int32) (x3 : Int32) (Q : HI → HL → Prop) (HW : w_X8_put o x1 x2 x3 h g Q) : Met l yX8_put (wa yX8_put cX8_put 5 none) ({ frames := 0, cells := 0, slots := 0, locals := 0 }) (va_Pc [.ref (adB bs o), .int x1, .int x2, .int x3] (pI D cy bs nw E h g)) (va_Qv (fun (u : HI × HL) => Q u.1 u.2) (pB D cy bs nw E) (pA bs)) 0 0 (pA bs) := by
  refine Met.ofW (cc := cX8_put) (maxL := 5) (ret := none) (by decide) rfl ?_
  intro p e s m args below meth c s₁ B hml hv
  obtain ⟨hav, hP, hsz, hK, hNw, hAO⟩ := hv
  have hx := B.exec
  have hb := B.bytes
  have hr := B.returns
  have hts := atoms_spec (ws := (wa yX8_put cX8_put 5 none)) B.pre
  have hw := wa_hw hts
  have hown : s.vm.findClass RX8 = some m.cls := findClass_of_methodNamed B.named
  have hlocks := B.notSynchronized
  have hG : pG D cy bs nw E s.heap h g s.heap [] := ⟨hP, va_S.rf, hsz⟩
  clear hP
  have lk22 := hw (.fieldLink RX8 22 "OldWorks$Table" "many" "I") (wm1 40 rfl rfl)
  have lk15 := hw (.fieldLink RX8 15 "OldWorks$Table" "width" "I") (wm1 38 rfl rfl)
  have lk18 := hw (.fieldLink RX8 18 "OldWorks$Table" "cells" "[I") (wm1 37 rfl rfl)
  rw [show (headSpec (wa yX8_put cX8_put 5 none) ({ frames := 0, cells := 0, slots := 0, locals := 0 } : Room)).room = ({ frames := 0, cells := 0, slots := 0, locals := 0 } : Room) from rfl]
  have hl := lv_entry ([.ref (adB bs o), .int x1, .int x2, .int x3]) (n := 5) (Nat.le_of_ble_eq_true rfl)
  rw [show entryFrame m args 5 = entryFrame m ([.ref (adB bs o), .int x1, .int x2, .int x3] : List Value).toArray 5 from by rw [hav], lg_entry_eq]
  generalize (lg_sl ([.ref (adB bs o), .int x1, .int x2, .int x3]) ++ List.replicate (5 - (lg_sl ([.ref (adB bs o), .int x1, .int x2, .int x3])).length) Slot.unset).toArray = ls at hl ⊢
  have hl : lv_has ls 5 [(0, .ref (adB bs o)), (1, .int x1), (2, .int x2), (3, .int x3)] := hl
  have E0 : ∀ (H : Heap) (locs : List Loc) (ls : Array Slot), pG D cy bs nw E s.heap h g H locs → lv_has ls 5 [(0, .ref (adB bs o)), (1, .int x1), (2, .int x2), (3, .int x3)] → W p l e ({ frames := 0, cells := 0, slots := 0, locals := 0 } : Room) s m args below meth c H locs 0 0 (MQ below (va_Qv (fun (u : HI × HL) => Q u.1 u.2) (pB D cy bs nw E) (pA bs)) args s 0 0 (pA bs)) (F0 m 0 ls []) := by
    intro H locs ls hG hl
    unfold w_X8_put at HW
    refine lv_iload_n hx hb dX8_put_0 rfl (lv_at hl 1 rfl) ?_
    refine lv_if_lt (tgt := 24) hx hb dX8_put_1 (by decide) (fun c_1 => ?_) (fun c_1 => ?_)
    · replace HW := HW.1 c_1
      exact W.vret hx hb hr (fun t ht hW => ⟨⟨(h, g), rfl, HW, p_B ht hG⟩, hG.2.1.F ht⟩) hG.2.1.2.2 dX8_put_24
    · replace HW := HW.2 c_1
      refine lv_iload_n hx hb dX8_put_4 rfl (lv_at hl 1 rfl) ?_
      refine lv_aload_n hx hb dX8_put_5 rfl (lv_at hl 0 rfl) ?_
      refine p_geti hx hb hw inG8 hown hK hG hpo rfl hT.k (by decide) 3 (by decide) (by rw [hT.m]; decide) hT.r.2.2.2 lk22 dX8_put_6 ?_
      refine lv_icmp_ge (tgt := 24) hx hb dX8_put_9 (by decide) (fun c_9 => ?_) (fun c_9 => ?_)
      · replace HW := HW.1 c_9
        exact W.vret hx hb hr (fun t ht hW => ⟨⟨(h, g), rfl, HW, p_B ht hG⟩, hG.2.1.F ht⟩) hG.2.1.2.2 dX8_put_24
      · replace HW := HW.2 c_9
        refine lv_iload_n hx hb dX8_put_12 rfl (lv_at hl 2 rfl) ?_
        refine lv_if_lt (tgt := 24) hx hb dX8_put_13 (by decide) (fun c_13 => ?_) (fun c_13 => ?_)
        · replace HW := HW.1 c_13
          exact W.vret hx hb hr (fun t ht hW => ⟨⟨(h, g), rfl, HW, p_B ht hG⟩, hG.2.1.F ht⟩) hG.2.1.2.2 dX8_put_24
        · replace HW := HW.2 c_13
          refine lv_iload_n hx hb dX8_put_16 rfl (lv_at hl 2 rfl) ?_
          refine lv_aload_n hx hb dX8_put_17 rfl (lv_at hl 0 rfl) ?_
          refine p_geti hx hb hw inG8 hown hK hG hpo rfl hT.k (by decide) 1 (by decide) (by rw [hT.m]; decide) hT.r.2.1 lk15 dX8_put_18 ?_
          refine lv_icmp_lt (tgt := 25) hx hb dX8_put_21 (by decide) (fun c_21 => ?_) (fun c_21 => ?_)
          · replace HW := HW.1 c_21
            refine lv_iload_n hx hb dX8_put_25 rfl (lv_at hl 1 rfl) ?_
            refine lv_aload_n hx hb dX8_put_26 rfl (lv_at hl 0 rfl) ?_
            refine p_geti hx hb hw inG8 hown hK hG hpo rfl hT.k (by decide) 1 (by decide) (by rw [hT.m]; decide) hT.r.2.1 lk15 dX8_put_27 ?_
            refine lv_imul hx hb dX8_put_30 ?_
            refine lv_iload_n hx hb dX8_put_31 rfl (lv_at hl 2 rfl) ?_
            refine lv_iadd hx hb dX8_put_32 ?_
            refine lv_topi (fun x4_33 ex4_33 => ?_)
            replace HW := HW x4_33 ex4_33
            refine lv_istore (lv' := [(4, .int x4_33), (0, .ref (adB bs o)), (1, .int x1), (2, .int x2), (3, .int x3)]) hx hb dX8_put_33 hl (by decide) rfl (fun ls hl => ?_)
            refine lv_iload hx hb dX8_put_35 (lv_at hl 0 rfl) ?_
            refine lv_aload_n hx hb dX8_put_37 rfl (lv_at hl 1 rfl) ?_
            refine p_getr hx hb hw inG8 hown hK hG hpo rfl hT.k (by decide) 0 (by decide) (by rw [hT.m]; decide) (r := (o + 1)) hT.r.1 lk18 dX8_put_38 ?_
            refine p_alen hx hb hK hG hpa hT.a.1 (v := (Int32.ofNat (gN (o + 1)))) rfl dX8_put_41 ?_
            refine lv_icmp_ge (tgt := 53) hx hb dX8_put_42 (by decide) (fun c_42 => ?_) (fun c_42 => ?_)
            · replace HW := HW.1 c_42
              exact W.vret hx hb hr (fun t ht hW => ⟨⟨(h, g), rfl, HW, p_B ht hG⟩, hG.2.1.F ht⟩) hG.2.1.2.2 dX8_put_53
            · replace HW := HW.2 c_42
              refine lv_aload_n hx hb dX8_put_45 rfl (lv_at hl 1 rfl) ?_
              refine p_getr hx hb hw inG8 hown hK hG hpo rfl hT.k (by decide) 0 (by decide) (by rw [hT.m]; decide) (r := (o + 1)) hT.r.1 lk18 dX8_put_46 ?_
              refine lv_iload hx hb dX8_put_49 (lv_at hl 0 rfl) ?_
              refine lv_iload_n hx hb dX8_put_51 rfl (lv_at hl 4 rfl) ?_
              refine p_iast hx hb hK hG hpa hT.a.1 rfl HW.1 dX8_put_52 (fun H locs hG => ?_)
              replace HW := HW.2
              obtain ⟨h_52, eh_52⟩ : ∃ y : HI, y = hu h (o + 1) x4_33.toNatClampNeg x3 := ⟨_, rfl⟩
              rw [← eh_52] at hG
              replace HW := HW h_52 eh_52
              exact W.vret hx hb hr (fun t ht hW => ⟨⟨(h_52, g), rfl, HW, p_B ht hG⟩, hG.2.1.F ht⟩) hG.2.1.2.2 dX8_put_53
          · replace HW := HW.2 c_21
            exact W.vret hx hb hr (fun t ht hW => ⟨⟨(h, g), rfl, HW, p_B ht hG⟩, hG.2.1.F ht⟩) hG.2.1.2.2 dX8_put_24
  exact E0 _ _ _ hG hl

set_option maxHeartbeats 8000000 in
set_option maxRecDepth 100000 in
theorem n_X8_add (l : Launch) (D : va_G) (cy : Nat → ClassId) (bs nw : Nat) (E : Nat → Option (List Value)) (h : HI) (g : HL) (o : Nat) (hT : isT o) (hpo : o < nw ∧ E o = none) (hpa : o + 1 < nw ∧ E (o + 1) = none) (x1 : Int32) (x2 : Int32) (x3 : Int32) (x4 : Int32) (Q : Int32 → HI → HL → Prop) (HW : w_X8_add o x1 x2 x3 x4 h g Q) : Met l yX8_add (wa yX8_add cX8_add 7 (some .int)) ({ frames := 1, cells := 0, slots := 0, locals := 24 }) (va_Pc [.ref (adB bs o), .int x1, .int x2, .int x3, .int x4] (pI D cy bs nw E h g)) (va_Qi (fun (r : Int32) (u : HI × HL) => Q r u.1 u.2) (pB D cy bs nw E) (pA bs)) 0 0 (pA bs) := by
  refine Met.ofW (cc := cX8_add) (maxL := 7) (ret := (some .int)) (by decide) rfl ?_
  intro p e s m args below meth c s₁ B hml hv
  obtain ⟨hav, hP, hsz, hK, hNw, hAO⟩ := hv
  have hx := B.exec
  have hb := B.bytes
  have hr := B.returns
  have hts := atoms_spec (ws := (wa yX8_add cX8_add 7 (some .int))) B.pre
  have hw := wa_hw hts
  have hown : s.vm.findClass RX8 = some m.cls := findClass_of_methodNamed B.named
  have hlocks := B.notSynchronized
  have hG : pG D cy bs nw E s.heap h g s.heap [] := ⟨hP, va_S.rf, hsz⟩
  clear hP
  have lk22 := hw (.fieldLink RX8 22 "OldWorks$Table" "many" "I") (wm1 40 rfl rfl)
  have lk9 := hw (.fieldLink RX8 9 "OldWorks$Table" "most" "I") (wm1 39 rfl rfl)
  have lk15 := hw (.fieldLink RX8 15 "OldWorks$Table" "width" "I") (wm1 38 rfl rfl)
  rw [show (headSpec (wa yX8_add cX8_add 7 (some .int)) ({ frames := 1, cells := 0, slots := 0, locals := 24 } : Room)).room = ({ frames := 1, cells := 0, slots := 0, locals := 24 } : Room) from rfl]
  have hl := lv_entry ([.ref (adB bs o), .int x1, .int x2, .int x3, .int x4]) (n := 7) (Nat.le_of_ble_eq_true rfl)
  rw [show entryFrame m args 7 = entryFrame m ([.ref (adB bs o), .int x1, .int x2, .int x3, .int x4] : List Value).toArray 7 from by rw [hav], lg_entry_eq]
  generalize (lg_sl ([.ref (adB bs o), .int x1, .int x2, .int x3, .int x4]) ++ List.replicate (7 - (lg_sl ([.ref (adB bs o), .int x1, .int x2, .int x3, .int x4])).length) Slot.unset).toArray = ls at hl ⊢
  have hl : lv_has ls 7 [(0, .ref (adB bs o)), (1, .int x1), (2, .int x2), (3, .int x3), (4, .int x4)] := hl
  have L33 : ∀ (n : Nat) (x1 : Int32) (x2 : Int32) (x3 : Int32) (x4 : Int32) (x5 : Int32) (x6 : Int32) (h : HI) (g : HL) (H : Heap) (locs : List Loc) (ls : Array Slot), lpN (F_X8_add_33 o Q) n (x1, x2, x3, x4, x5, x6, h, g) → pG D cy bs nw E s.heap h g H locs → lv_has ls 7 [(0, .ref (adB bs o)), (1, .int x1), (2, .int x2), (3, .int x3), (4, .int x4), (5, .int x5), (6, .int x6)] → W p l e ({ frames := 1, cells := 0, slots := 0, locals := 24 } : Room) s m args below meth c H locs 0 0 (MQ below (va_Qi (fun (r : Int32) (u : HI × HL) => Q r u.1 u.2) (pB D cy bs nw E) (pA bs)) args s 0 0 (pA bs)) (F0 m 33 ls []) := by
    intro n
    induction n with
    | zero => intro x1 x2 x3 x4 x5 x6 h g H locs ls HW; exact HW.elim
    | succ n ih =>
      intro x1 x2 x3 x4 x5 x6 h g H locs ls HW hG hl
      have HW : b_X8_add_33 o Q (fun x1 x2 x3 x4 x5 x6 h g => lpN (F_X8_add_33 o Q) n (x1, x2, x3, x4, x5, x6, h, g)) x1 x2 x3 x4 x5 x6 h g := HW
      generalize hKe : (fun (x1 : Int32) (x2 : Int32) (x3 : Int32) (x4 : Int32) (x5 : Int32) (x6 : Int32) (h : HI) (g : HL) => lpN (F_X8_add_33 o Q) n (x1, x2, x3, x4, x5, x6, h, g)) = K33 at HW
      have hK33 : ∀ (x1 : Int32) (x2 : Int32) (x3 : Int32) (x4 : Int32) (x5 : Int32) (x6 : Int32) (h : HI) (g : HL) (H : Heap) (locs : List Loc) (ls : Array Slot), K33 x1 x2 x3 x4 x5 x6 h g → pG D cy bs nw E s.heap h g H locs → lv_has ls 7 [(0, .ref (adB bs o)), (1, .int x1), (2, .int x2), (3, .int x3), (4, .int x4), (5, .int x5), (6, .int x6)] → W p l e ({ frames := 1, cells := 0, slots := 0, locals := 24 } : Room) s m args below meth c H locs 0 0 (MQ below (va_Qi (fun (r : Int32) (u : HI × HL) => Q r u.1 u.2) (pB D cy bs nw E) (pA bs)) args s 0 0 (pA bs)) (F0 m 33 ls []) := by subst hKe; exact ih
      clear ih
      clear hKe
      unfold b_X8_add_33 at HW
      refine lv_iload hx hb dX8_add_33 (lv_at hl 6 rfl) ?_
      refine lv_aload_n hx hb dX8_add_35 rfl (lv_at hl 0 rfl) ?_
      refine p_geti hx hb hw inG8 hown hK hG hpo rfl hT.k (by decide) 1 (by decide) (by rw [hT.m]; decide) hT.r.2.1 lk15 dX8_add_36 ?_
      refine lv_icmp_ge (tgt := 57) hx hb dX8_add_39 (by decide) (fun c_39 => ?_) (fun c_39 => ?_)
      · replace HW := HW.1 c_39
        refine lv_aload_n hx hb dX8_add_57 rfl (lv_at hl 0 rfl) ?_
        refine lv_iload hx hb dX8_add_58 (lv_at hl 5 rfl) ?_
        refine lv_iconst (v := 0) hx hb dX8_add_60 (by decide) ?_
        refine lv_iload_n hx hb dX8_add_61 rfl (lv_at hl 1 rfl) ?_
        obtain ⟨P_62, HC_62, HW⟩ := HW
        refine p_callv (p_runV (As := [.int x5, .int (0 : Int32), .int x1]) (rest := []) ⟨hx, hb, hml, hown, hts⟩ (n_X8_put l D cy bs nw E h g o hT hpo hpa x5 (0 : Int32) x1 P_62 HC_62) (cwV 3 hts (gd_V (wm1 56 rfl rfl) (wm1 57 rfl rfl) (wm1 58 rfl rfl) (wm1 3 rfl rfl) (wm1 59 rfl rfl)) rfl rfl rfl (by decide +kernel) ⟨Nat.le_of_ble_eq_true rfl, Nat.le_of_ble_eq_true rfl⟩) hK hNw hAO hG hpo rfl hT.k (by decide) rfl rfl hl.1 rfl (lv_room (Nat.le_of_ble_eq_true rfl)) dX8_add_62 ⟨Nat.zero_le _, Nat.zero_le _⟩) hG (fun h_62 g_62 H locs hq hG => ?_)
        replace HW := HW h_62 g_62 hq
        refine lv_aload_n hx hb dX8_add_65 rfl (lv_at hl 0 rfl) ?_
        refine lv_iload hx hb dX8_add_66 (lv_at hl 5 rfl) ?_
        refine lv_iconst (v := 1) hx hb dX8_add_68 (by decide) ?_
        refine lv_iload_n hx hb dX8_add_69 rfl (lv_at hl 2 rfl) ?_
        obtain ⟨P_70, HC_70, HW⟩ := HW
        refine p_callv (p_runV (As := [.int x5, .int (1 : Int32), .int x2]) (rest := []) ⟨hx, hb, hml, hown, hts⟩ (n_X8_put l D cy bs nw E h_62 g_62 o hT hpo hpa x5 (1 : Int32) x2 P_70 HC_70) (cwV 3 hts (gd_V (wm1 56 rfl rfl) (wm1 57 rfl rfl) (wm1 58 rfl rfl) (wm1 3 rfl rfl) (wm1 59 rfl rfl)) rfl rfl rfl (by decide +kernel) ⟨Nat.le_of_ble_eq_true rfl, Nat.le_of_ble_eq_true rfl⟩) hK hNw hAO hG hpo rfl hT.k (by decide) rfl rfl hl.1 rfl (lv_room (Nat.le_of_ble_eq_true rfl)) dX8_add_70 ⟨Nat.zero_le _, Nat.zero_le _⟩) hG (fun h_70 g_70 H locs hq hG => ?_)
        replace HW := HW h_70 g_70 hq
        refine lv_aload_n hx hb dX8_add_73 rfl (lv_at hl 0 rfl) ?_
        refine lv_iload hx hb dX8_add_74 (lv_at hl 5 rfl) ?_
        refine lv_iconst (v := 2) hx hb dX8_add_76 (by decide) ?_
        refine lv_iload_n hx hb dX8_add_77 rfl (lv_at hl 3 rfl) ?_
        obtain ⟨P_78, HC_78, HW⟩ := HW
        refine p_callv (p_runV (As := [.int x5, .int (2 : Int32), .int x3]) (rest := []) ⟨hx, hb, hml, hown, hts⟩ (n_X8_put l D cy bs nw E h_70 g_70 o hT hpo hpa x5 (2 : Int32) x3 P_78 HC_78) (cwV 3 hts (gd_V (wm1 56 rfl rfl) (wm1 57 rfl rfl) (wm1 58 rfl rfl) (wm1 3 rfl rfl) (wm1 59 rfl rfl)) rfl rfl rfl (by decide +kernel) ⟨Nat.le_of_ble_eq_true rfl, Nat.le_of_ble_eq_true rfl⟩) hK hNw hAO hG hpo rfl hT.k (by decide) rfl rfl hl.1 rfl (lv_room (Nat.le_of_ble_eq_true rfl)) dX8_add_78 ⟨Nat.zero_le _, Nat.zero_le _⟩) hG (fun h_78 g_78 H locs hq hG => ?_)
        replace HW := HW h_78 g_78 hq
        refine lv_aload_n hx hb dX8_add_81 rfl (lv_at hl 0 rfl) ?_
        refine lv_iload hx hb dX8_add_82 (lv_at hl 5 rfl) ?_
        refine lv_iconst (v := 3) hx hb dX8_add_84 (by decide) ?_
        refine lv_iload hx hb dX8_add_85 (lv_at hl 4 rfl) ?_
        obtain ⟨P_87, HC_87, HW⟩ := HW
        refine p_callv (p_runV (As := [.int x5, .int (3 : Int32), .int x4]) (rest := []) ⟨hx, hb, hml, hown, hts⟩ (n_X8_put l D cy bs nw E h_78 g_78 o hT hpo hpa x5 (3 : Int32) x4 P_87 HC_87) (cwV 3 hts (gd_V (wm1 56 rfl rfl) (wm1 57 rfl rfl) (wm1 58 rfl rfl) (wm1 3 rfl rfl) (wm1 59 rfl rfl)) rfl rfl rfl (by decide +kernel) ⟨Nat.le_of_ble_eq_true rfl, Nat.le_of_ble_eq_true rfl⟩) hK hNw hAO hG hpo rfl hT.k (by decide) rfl rfl hl.1 rfl (lv_room (Nat.le_of_ble_eq_true rfl)) dX8_add_87 ⟨Nat.zero_le _, Nat.zero_le _⟩) hG (fun h_87 g_87 H locs hq hG => ?_)
        replace HW := HW h_87 g_87 hq
        refine lv_iload hx hb dX8_add_90 (lv_at hl 5 rfl) ?_
        exact W.iret (v := x5) hx hb hr (fun t ht hW => ⟨⟨x5, (h_87, g_87), rfl, HW, p_B ht hG⟩, hG.2.1.F ht⟩) hG.2.1.2.2 dX8_add_92
      · replace HW := HW.2 c_39
        refine lv_aload_n hx hb dX8_add_42 rfl (lv_at hl 0 rfl) ?_
        refine lv_iload hx hb dX8_add_43 (lv_at hl 5 rfl) ?_
        refine lv_iload hx hb dX8_add_45 (lv_at hl 6 rfl) ?_
        refine lv_iconst (v := 0) hx hb dX8_add_47 (by decide) ?_
        obtain ⟨P_48, HC_48, HW⟩ := HW
        refine p_callv (p_runV (As := [.int x5, .int x6, .int (0 : Int32)]) (rest := []) ⟨hx, hb, hml, hown, hts⟩ (n_X8_put l D cy bs nw E h g o hT hpo hpa x5 x6 (0 : Int32) P_48 HC_48) (cwV 3 hts (gd_V (wm1 56 rfl rfl) (wm1 57 rfl rfl) (wm1 58 rfl rfl) (wm1 3 rfl rfl) (wm1 59 rfl rfl)) rfl rfl rfl (by decide +kernel) ⟨Nat.le_of_ble_eq_true rfl, Nat.le_of_ble_eq_true rfl⟩) hK hNw hAO hG hpo rfl hT.k (by decide) rfl rfl hl.1 rfl (lv_room (Nat.le_of_ble_eq_true rfl)) dX8_add_48 ⟨Nat.zero_le _, Nat.zero_le _⟩) hG (fun h_48 g_48 H locs hq hG => ?_)
        replace HW := HW h_48 g_48 hq
        obtain ⟨x6_51, ex6_51⟩ : ∃ y : Int32, y = (x6 + 1) := ⟨_, rfl⟩
        replace HW := HW x6_51 ex6_51
        refine lv_iinc (v := x6_51) (lv' := [(6, .int x6_51), (0, .ref (adB bs o)), (1, .int x1), (2, .int x2), (3, .int x3), (4, .int x4), (5, .int x5)]) hx hb dX8_add_51 hl (k := 6) rfl (by rw [ex6_51]; rfl) (by decide) rfl (fun ls hl => ?_)
        refine lv_goto (tgt := 33) hx hb dX8_add_54 (by decide) ?_
        exact hK33 x1 x2 x3 x4 x5 x6_51 h_48 g_48 _ _ _ HW hG (lv_sub hl [1, 2, 3, 4, 5, 6, 0] rfl)
  have E0 : ∀ (H : Heap) (locs : List Loc) (ls : Array Slot), pG D cy bs nw E s.heap h g H locs → lv_has ls 7 [(0, .ref (adB bs o)), (1, .int x1), (2, .int x2), (3, .int x3), (4, .int x4)] → W p l e ({ frames := 1, cells := 0, slots := 0, locals := 24 } : Room) s m args below meth c H locs 0 0 (MQ below (va_Qi (fun (r : Int32) (u : HI × HL) => Q r u.1 u.2) (pB D cy bs nw E) (pA bs)) args s 0 0 (pA bs)) (F0 m 0 ls []) := by
    intro H locs ls hG hl
    unfold w_X8_add at HW
    refine lv_aload_n hx hb dX8_add_0 rfl (lv_at hl 0 rfl) ?_
    refine p_geti hx hb hw inG8 hown hK hG hpo rfl hT.k (by decide) 3 (by decide) (by rw [hT.m]; decide) hT.r.2.2.2 lk22 dX8_add_1 ?_
    refine lv_aload_n hx hb dX8_add_4 rfl (lv_at hl 0 rfl) ?_
    refine p_geti hx hb hw inG8 hown hK hG hpo rfl hT.k (by decide) 2 (by decide) (by rw [hT.m]; decide) hT.r.2.2.1 lk9 dX8_add_5 ?_
    refine lv_icmp_lt (tgt := 14) hx hb dX8_add_8 (by decide) (fun c_8 => ?_) (fun c_8 => ?_)
    · replace HW := HW.1 c_8
      refine lv_aload_n hx hb dX8_add_14 rfl (lv_at hl 0 rfl) ?_
      refine p_geti hx hb hw inG8 hown hK hG hpo rfl hT.k (by decide) 3 (by decide) (by rw [hT.m]; decide) hT.r.2.2.2 lk22 dX8_add_15 ?_
      refine lv_topi (fun x5_18 ex5_18 => ?_)
      replace HW := HW x5_18 ex5_18
      refine lv_istore (lv' := [(5, .int x5_18), (0, .ref (adB bs o)), (1, .int x1), (2, .int x2), (3, .int x3), (4, .int x4)]) hx hb dX8_add_18 hl (by decide) rfl (fun ls hl => ?_)
      refine lv_aload_n hx hb dX8_add_20 rfl (lv_at hl 1 rfl) ?_
      refine lv_dup hx hb dX8_add_21 rfl ?_
      refine p_geti hx hb hw inG8 hown hK hG hpo rfl hT.k (by decide) 3 (by decide) (by rw [hT.m]; decide) hT.r.2.2.2 lk22 dX8_add_22 ?_
      refine lv_iconst (v := 1) hx hb dX8_add_25 (by decide) ?_
      refine lv_iadd hx hb dX8_add_26 ?_
      refine p_put hx hb hw inG8 tyX8 tyX8_ok nmX8 hown hK hG hpo rfl hT.k (by decide) 3 (by decide) (by rw [hT.m]; decide) hT.r.2.2.2 rfl (ty := .int) (by decide +kernel) rfl rfl lk22 dX8_add_27 (fun H locs hG => ?_)
      obtain ⟨h_27, eh_27⟩ : ∃ y : HI, y = hu h o 3 ((h o 3) + (1 : Int32)) := ⟨_, rfl⟩
      rw [← eh_27] at hG
      replace HW := HW h_27 eh_27
      refine lv_iconst (v := 4) hx hb dX8_add_30 (by decide) ?_
      refine lv_istore (lv' := [(6, .int (4 : Int32)), (5, .int x5_18), (0, .ref (adB bs o)), (1, .int x1), (2, .int x2), (3, .int x3), (4, .int x4)]) hx hb dX8_add_31 hl (by decide) rfl (fun ls hl => ?_)
      obtain ⟨n_33, HW⟩ := HW
      exact L33 n_33 x1 x2 x3 x4 x5_18 (4 : Int32) h_27 g _ _ _ HW hG (lv_sub hl [2, 3, 4, 5, 6, 1, 0] rfl)
    · replace HW := HW.2 c_8
      refine lv_bipush (v := (-4)) hx hb dX8_add_11 (by decide) ?_
      exact W.iret (v := (-4 : Int32)) hx hb hr (fun t ht hW => ⟨⟨(-4 : Int32), (h, g), rfl, HW, p_B ht hG⟩, hG.2.1.F ht⟩) hG.2.1.2.2 dX8_add_13
  exact E0 _ _ _ hG hl

set_option maxHeartbeats 8000000 in
set_option maxRecDepth 100000 in
theorem n_X0_set (l : Launch) (D : va_G) (cy : Nat → ClassId) (bs nw : Nat) (E : Nat → Option (List Value)) (h : HI) (g : HL) (o : Nat) (hT : isB o) (hpo : o < nw ∧ E o = none) (hpa : o + 1 < nw ∧ E (o + 1) = none) (x1 : Int32) (Q : HI → HL → Prop) (HW : w_X0_set o x1 h g Q) : Met l yX0_set (wa yX0_set cX0_set 2 none) ({ frames := 0, cells := 0, slots := 0, locals := 0 }) (va_Pc [.ref (adB bs o), .int x1] (pI D cy bs nw E h g)) (va_Qv (fun (u : HI × HL) => Q u.1 u.2) (pB D cy bs nw E) (pA bs)) 0 0 (pA bs) := by
  refine Met.ofW (cc := cX0_set) (maxL := 2) (ret := none) (by decide) rfl ?_
  intro p e s m args below meth c s₁ B hml hv
  obtain ⟨hav, hP, hsz, hK, hNw, hAO⟩ := hv
  have hx := B.exec
  have hb := B.bytes
  have hr := B.returns
  have hts := atoms_spec (ws := (wa yX0_set cX0_set 2 none)) B.pre
  have hw := wa_hw hts
  have hown : s.vm.findClass RX0 = some m.cls := findClass_of_methodNamed B.named
  have hlocks := B.notSynchronized
  have hG : pG D cy bs nw E s.heap h g s.heap [] := ⟨hP, va_S.rf, hsz⟩
  clear hP
  have lk11 := hw (.fieldLink RX0 11 "OldWorks$Big" "digits" "[I") (wm2 81 rfl rfl)
  have lk15 := hw (.fieldLink RX0 15 "OldWorks$Big" "many" "I") (wm2 82 rfl rfl)
  rw [show (headSpec (wa yX0_set cX0_set 2 none) ({ frames := 0, cells := 0, slots := 0, locals := 0 } : Room)).room = ({ frames := 0, cells := 0, slots := 0, locals := 0 } : Room) from rfl]
  have hl := lv_entry ([.ref (adB bs o), .int x1]) (n := 2) (Nat.le_of_ble_eq_true rfl)
  rw [show entryFrame m args 2 = entryFrame m ([.ref (adB bs o), .int x1] : List Value).toArray 2 from by rw [hav], lg_entry_eq]
  generalize (lg_sl ([.ref (adB bs o), .int x1]) ++ List.replicate (2 - (lg_sl ([.ref (adB bs o), .int x1])).length) Slot.unset).toArray = ls at hl ⊢
  have hl : lv_has ls 2 [(0, .ref (adB bs o)), (1, .int x1)] := hl
  have E0 : ∀ (H : Heap) (locs : List Loc) (ls : Array Slot), pG D cy bs nw E s.heap h g H locs → lv_has ls 2 [(0, .ref (adB bs o)), (1, .int x1)] → W p l e ({ frames := 0, cells := 0, slots := 0, locals := 0 } : Room) s m args below meth c H locs 0 0 (MQ below (va_Qv (fun (u : HI × HL) => Q u.1 u.2) (pB D cy bs nw E) (pA bs)) args s 0 0 (pA bs)) (F0 m 0 ls []) := by
    intro H locs ls hG hl
    unfold w_X0_set at HW
    refine lv_aload_n hx hb dX0_set_0 rfl (lv_at hl 0 rfl) ?_
    refine p_getr hx hb hw inG0 hown hK hG hpo rfl hT.k (by decide) 0 (by decide) (by rw [hT.m]; decide) (r := (o + 1)) hT.r.1 lk11 dX0_set_1 ?_
    refine lv_iconst (v := 0) hx hb dX0_set_4 (by decide) ?_
    refine lv_iload_n hx hb dX0_set_5 rfl (lv_at hl 1 rfl) ?_
    refine p_iast hx hb hK hG hpa hT.a.1 hT.a.2.2 HW.1 dX0_set_6 (fun H locs hG => ?_)
    replace HW := HW.2
    obtain ⟨h_6, eh_6⟩ : ∃ y : HI, y = hu h (o + 1) (0 : Int32).toNatClampNeg x1 := ⟨_, rfl⟩
    rw [← eh_6] at hG
    replace HW := HW h_6 eh_6
    refine lv_aload_n hx hb dX0_set_7 rfl (lv_at hl 0 rfl) ?_
    refine lv_iconst (v := 1) hx hb dX0_set_8 (by decide) ?_
    refine p_put hx hb hw inG0 tyX0 tyX0_ok nmX0 hown hK hG hpo rfl hT.k (by decide) 1 (by decide) (by rw [hT.m]; decide) hT.r.2 rfl (ty := .int) (by decide +kernel) rfl rfl lk15 dX0_set_9 (fun H locs hG => ?_)
    obtain ⟨h_9, eh_9⟩ : ∃ y : HI, y = hu h_6 o 1 (1 : Int32) := ⟨_, rfl⟩
    rw [← eh_9] at hG
    replace HW := HW h_9 eh_9
    exact W.vret hx hb hr (fun t ht hW => ⟨⟨(h_9, g), rfl, HW, p_B ht hG⟩, hG.2.1.F ht⟩) hG.2.1.2.2 dX0_set_12
  exact E0 _ _ _ hG hl

set_option maxHeartbeats 8000000 in
set_option maxRecDepth 100000 in
theorem n_J7_fill_53178 (l : Launch) (D : va_G) (cy : Nat → ClassId) (bs nw : Nat) (E : Nat → Option (List Value)) (h : HI) (g : HL) (o0 : Nat) (hk0 : gK o0 = 12) (hp0 : o0 < nw ∧ E o0 = none) (x1 : Int32) (Q : HI → HL → Prop) (HW : w_J7_fill_53178 o0 x1 h g Q) : Met l yJ7_fill_53178 (wa yJ7_fill_53178 cJ7_fill_53178 4 none) ({ frames := 0, cells := 0, slots := 0, locals := 0 }) (va_Pc [.ref (adB bs o0), .int x1] (pI D cy bs nw E h g)) (va_Qv (fun (u : HI × HL) => Q u.1 u.2) (pB D cy bs nw E) (pA bs)) 0 0 (pA bs) := by
  refine Met.ofW (cc := cJ7_fill_53178) (maxL := 4) (ret := none) (by decide) rfl ?_
  intro p e s m args below meth c s₁ B hml hv
  obtain ⟨hav, hP, hsz, hK, hNw, hAO⟩ := hv
  have hx := B.exec
  have hb := B.bytes
  have hr := B.returns
  have hts := atoms_spec (ws := (wa yJ7_fill_53178 cJ7_fill_53178 4 none)) B.pre
  have hw := wa_hw hts
  have hown : s.vm.findClass RJ7 = some m.cls := findClass_of_methodNamed B.named
  have hlocks := B.notSynchronized
  have hG : pG D cy bs nw E s.heap h g s.heap [] := ⟨hP, va_S.rf, hsz⟩
  clear hP
  rw [show (headSpec (wa yJ7_fill_53178 cJ7_fill_53178 4 none) ({ frames := 0, cells := 0, slots := 0, locals := 0 } : Room)).room = ({ frames := 0, cells := 0, slots := 0, locals := 0 } : Room) from rfl]
  have hl := lv_entry ([.ref (adB bs o0), .int x1]) (n := 4) (Nat.le_of_ble_eq_true rfl)
  rw [show entryFrame m args 4 = entryFrame m ([.ref (adB bs o0), .int x1] : List Value).toArray 4 from by rw [hav], lg_entry_eq]
  generalize (lg_sl ([.ref (adB bs o0), .int x1]) ++ List.replicate (4 - (lg_sl ([.ref (adB bs o0), .int x1])).length) Slot.unset).toArray = ls at hl ⊢
  have hl : lv_has ls 4 [(0, .ref (adB bs o0)), (1, .int x1)] := hl
  have L5 : ∀ (n : Nat) (x1 : Int32) (x2 : Int32) (x3 : Int32) (h : HI) (g : HL) (H : Heap) (locs : List Loc) (ls : Array Slot), lpN (F_J7_fill_53178_5 o0 Q) n (x1, x2, x3, h, g) → pG D cy bs nw E s.heap h g H locs → lv_has ls 4 [(0, .ref (adB bs o0)), (1, .int x1), (2, .int x2), (3, .int x3)] → W p l e ({ frames := 0, cells := 0, slots := 0, locals := 0 } : Room) s m args below meth c H locs 0 0 (MQ below (va_Qv (fun (u : HI × HL) => Q u.1 u.2) (pB D cy bs nw E) (pA bs)) args s 0 0 (pA bs)) (F0 m 5 ls []) := by
    intro n
    induction n with
    | zero => intro x1 x2 x3 h g H locs ls HW; exact HW.elim
    | succ n ih =>
      intro x1 x2 x3 h g H locs ls HW hG hl
      have HW : b_J7_fill_53178_5 o0 Q (fun x1 x2 x3 h g => lpN (F_J7_fill_53178_5 o0 Q) n (x1, x2, x3, h, g)) x1 x2 x3 h g := HW
      generalize hKe : (fun (x1 : Int32) (x2 : Int32) (x3 : Int32) (h : HI) (g : HL) => lpN (F_J7_fill_53178_5 o0 Q) n (x1, x2, x3, h, g)) = K5 at HW
      have hK5 : ∀ (x1 : Int32) (x2 : Int32) (x3 : Int32) (h : HI) (g : HL) (H : Heap) (locs : List Loc) (ls : Array Slot), K5 x1 x2 x3 h g → pG D cy bs nw E s.heap h g H locs → lv_has ls 4 [(0, .ref (adB bs o0)), (1, .int x1), (2, .int x2), (3, .int x3)] → W p l e ({ frames := 0, cells := 0, slots := 0, locals := 0 } : Room) s m args below meth c H locs 0 0 (MQ below (va_Qv (fun (u : HI × HL) => Q u.1 u.2) (pB D cy bs nw E) (pA bs)) args s 0 0 (pA bs)) (F0 m 5 ls []) := by subst hKe; exact ih
      clear ih
      clear hKe
      unfold b_J7_fill_53178_5 at HW
      refine lv_iload_n hx hb dJ7_fill_53178_5 rfl (lv_at hl 2 rfl) ?_
      refine lv_iload_n hx hb dJ7_fill_53178_6 rfl (lv_at hl 3 rfl) ?_
      refine lv_icmp_ge (tgt := 20) hx hb dJ7_fill_53178_7 (by decide) (fun c_7 => ?_) (fun c_7 => ?_)
      · replace HW := HW.1 c_7
        exact W.vret hx hb hr (fun t ht hW => ⟨⟨(h, g), rfl, HW, p_B ht hG⟩, hG.2.1.F ht⟩) hG.2.1.2.2 dJ7_fill_53178_20
      · replace HW := HW.2 c_7
        refine lv_aload_n hx hb dJ7_fill_53178_10 rfl (lv_at hl 0 rfl) ?_
        refine lv_iload_n hx hb dJ7_fill_53178_11 rfl (lv_at hl 2 rfl) ?_
        refine lv_iload_n hx hb dJ7_fill_53178_12 rfl (lv_at hl 1 rfl) ?_
        refine p_iast hx hb hK hG hp0 hk0 rfl HW.1 dJ7_fill_53178_13 (fun H locs hG => ?_)
        replace HW := HW.2
        obtain ⟨h_13, eh_13⟩ : ∃ y : HI, y = hu h o0 x2.toNatClampNeg x1 := ⟨_, rfl⟩
        rw [← eh_13] at hG
        replace HW := HW h_13 eh_13
        obtain ⟨x2_14, ex2_14⟩ : ∃ y : Int32, y = (x2 + 1) := ⟨_, rfl⟩
        replace HW := HW x2_14 ex2_14
        refine lv_iinc (v := x2_14) (lv' := [(2, .int x2_14), (0, .ref (adB bs o0)), (1, .int x1), (3, .int x3)]) hx hb dJ7_fill_53178_14 hl (k := 2) rfl (by rw [ex2_14]; rfl) (by decide) rfl (fun ls hl => ?_)
        refine lv_goto (tgt := 5) hx hb dJ7_fill_53178_17 (by decide) ?_
        exact hK5 x1 x2_14 x3 h_13 g _ _ _ HW hG (lv_sub hl [1, 2, 0, 3] rfl)
  have E0 : ∀ (H : Heap) (locs : List Loc) (ls : Array Slot), pG D cy bs nw E s.heap h g H locs → lv_has ls 4 [(0, .ref (adB bs o0)), (1, .int x1)] → W p l e ({ frames := 0, cells := 0, slots := 0, locals := 0 } : Room) s m args below meth c H locs 0 0 (MQ below (va_Qv (fun (u : HI × HL) => Q u.1 u.2) (pB D cy bs nw E) (pA bs)) args s 0 0 (pA bs)) (F0 m 0 ls []) := by
    intro H locs ls hG hl
    unfold w_J7_fill_53178 at HW
    refine lv_iconst (v := 0) hx hb dJ7_fill_53178_0 (by decide) ?_
    refine lv_istore_n (lv' := [(2, .int (0 : Int32)), (0, .ref (adB bs o0)), (1, .int x1)]) hx hb dJ7_fill_53178_1 rfl hl (by decide) rfl (fun ls hl => ?_)
    refine lv_aload_n hx hb dJ7_fill_53178_2 rfl (lv_at hl 1 rfl) ?_
    refine p_alen hx hb hK hG hp0 hk0 (v := (Int32.ofNat (gN o0))) rfl dJ7_fill_53178_3 ?_
    refine lv_topi (fun x3_4 ex3_4 => ?_)
    replace HW := HW x3_4 ex3_4
    refine lv_istore_n (lv' := [(3, .int x3_4), (2, .int (0 : Int32)), (0, .ref (adB bs o0)), (1, .int x1)]) hx hb dJ7_fill_53178_4 rfl hl (by decide) rfl (fun ls hl => ?_)
    obtain ⟨n_5, HW⟩ := HW
    exact L5 n_5 x1 (0 : Int32) x3_4 h g _ _ _ HW hG (lv_sub hl [2, 3, 1, 0] rfl)
  exact E0 _ _ _ hG hl
