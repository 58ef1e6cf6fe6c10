def j_X3_mostOf_54 (Q : Int32 → HI → HL → Prop) (K18 : Int32 → Int32 → Int32 → Int32 → Int32 → HI → HL → Prop) (x1 : Int32) (x2 : Int32) (x3 : Int32) (x4 : Int32) (x5 : Int32) (h : HI) (g : HL) : Prop :=
  (∀ x5_54 : Int32, x5_54 = (x5 + 1) → K18 x1 x2 x3 x4 x5_54 h g)
def b_X3_mostOf_18 (Q : Int32 → HI → HL → Prop) (K18 : Int32 → Int32 → Int32 → Int32 → Int32 → HI → HL → Prop) (x1 : Int32) (x2 : Int32) (x3 : Int32) (x4 : Int32) (x5 : Int32) (h : HI) (g : HL) : Prop :=
  (((h 97 5) ≤ x5 → Q x3 h g) ∧ (¬ (h 97 5) ≤ x5 → ((¬ ((x4 >>> (x5 &&& 31)) &&& (1 : Int32)) = (1 : Int32) → j_X3_mostOf_54 Q K18 x1 x2 x3 x4 x5 h g) ∧ (((x4 >>> (x5 &&& 31)) &&& (1 : Int32)) = (1 : Int32) → (∃ P_47 : Int32 → HI → HL → Prop, w_X3_after x1 (x2 ||| ((1 : Int32) <<< (x5 &&& 31))) h g P_47 ∧ ∀ (r_47 : Int32) (h_47 : HI) (g_47 : HL), P_47 r_47 h_47 g_47 → (∀ x3_53 : Int32, x3_53 = (if x3 < r_47 then r_47 else x3) → j_X3_mostOf_54 Q K18 x1 x2 x3_53 x4 x5 h_47 g_47))))))
def F_X3_mostOf_18 (Q : Int32 → HI → HL → Prop) (K : Int32 × Int32 × Int32 × Int32 × Int32 × HI × HL → Prop) (q : Int32 × Int32 × Int32 × Int32 × Int32 × HI × HL) : Prop := b_X3_mostOf_18 Q (fun x1 x2 x3 x4 x5 h g => K (x1, x2, x3, x4, x5, h, g)) q.1 q.2.1 q.2.2.1 q.2.2.2.1 q.2.2.2.2.1 q.2.2.2.2.2.1 q.2.2.2.2.2.2
def w_X3_mostOf (x1 : Int32) (x2 : Int32) (h : HI) (g : HL) (Q : Int32 → HI → HL → Prop) : Prop :=
  (∃ P_3 : Int32 → HI → HL → Prop, w_X3_after x1 x2 h g P_3 ∧ ∀ (r_3 : Int32) (h_3 : HI) (g_3 : HL), P_3 r_3 h_3 g_3 → (∃ P_10 : Int32 → HI → HL → Prop, w_X3_open x1 x2 h_3 g_3 P_10 ∧ ∀ (r_10 : Int32) (h_10 : HI) (g_10 : HL), P_10 r_10 h_10 g_10 → lpE (F_X3_mostOf_18 Q) (x1, x2, r_3, r_10, (0 : Int32), h_10, g_10)))
set_option maxHeartbeats 8000000 in
set_option maxRecDepth 100000 in
theorem m_X3_mostOf (l : Launch) (D : va_G) (cy : Nat → ClassId) (ad : Nat → Nat) (h : HI) (g : HL) (sz : Nat) (x1 : Int32) (x2 : Int32) (Q : Int32 → HI → HL → Prop) (HW : w_X3_mostOf x1 x2 h g Q) : Met l yX3_mostOf (wa yX3_mostOf cX3_mostOf 6 (some .int)) ({ frames := 2, cells := 0, slots := 0, locals := 46 }) (va_Pc [.ref (ad 97), .int x1, .int x2] (gI D cy ad h g sz)) (va_Qi (fun (r : Int32) (u : HI × HL) => Q r u.1 u.2) (gB D cy ad sz) (gA ad sz)) 0 0 (gA ad sz) := by
  refine Met.ofW (cc := cX3_mostOf) (maxL := 6) (ret := (some .int)) (by decide) rfl ?_
  intro p e s m args below meth c s₁ B hml hv
  obtain ⟨hav, hsz, hP, hK, hD0, hNw⟩ := hv
  have hx := B.exec
  have hb := B.bytes
  have hr := B.returns
  have hts := atoms_spec (ws := (wa yX3_mostOf cX3_mostOf 6 (some .int))) B.pre
  have hw := wa_hw hts
  have hown : s.vm.findClass RX3 = some m.cls := findClass_of_methodNamed B.named
  have hlocks := B.notSynchronized
  subst hsz
  have hG : gG D cy ad (gA ad s.heap.size) s.heap h g s.heap [] := ⟨hP, gA_self hD0, va_S.rf⟩
  clear hP hD0
  have lk51 := hw (.fieldLink RX3 51 "OldWorks$Givings" "spares" "I") (wm2 55 rfl rfl)
  have ml89 := hw (.methodLink RX3 89 Lib.Math.max.name) (wm4 23 rfl rfl)
  have ms89 := hw (.static Lib.Math.max.name) (wm3 45 rfl rfl)
  have mi89 := hw (.initialized "java/lang/Math") (wm1 14 rfl rfl)
  have mc89 := hw (.code Lib.Math.max.name Lib.Math.max.code 2 (some .int)) (wm3 46 rfl rfl)
  rw [show (headSpec (wa yX3_mostOf cX3_mostOf 6 (some .int)) ({ frames := 2, cells := 0, slots := 0, locals := 46 } : Room)).room = ({ frames := 2, cells := 0, slots := 0, locals := 46 } : Room) from rfl]
  have hl := lv_entry ([.ref (ad 97), .int x1, .int x2]) (n := 6) (Nat.le_of_ble_eq_true rfl)
  rw [show entryFrame m args 6 = entryFrame m ([.ref (ad 97), .int x1, .int x2] : List Value).toArray 6 from by rw [hav], lg_entry_eq]
  generalize (lg_sl ([.ref (ad 97), .int x1, .int x2]) ++ List.replicate (6 - (lg_sl ([.ref (ad 97), .int x1, .int x2])).length) Slot.unset).toArray = ls at hl ⊢
  have hl : lv_has ls 6 [(0, .ref (ad 97)), (1, .int x1), (2, .int x2)] := hl
  have B54 : ∀ (K18 : Int32 → Int32 → Int32 → Int32 → Int32 → HI → HL → Prop) (hK18 : ∀ (x1 : Int32) (x2 : Int32) (x3 : Int32) (x4 : Int32) (x5 : Int32) (h : HI) (g : HL) (H : Heap) (locs : List Loc) (ls : Array Slot), K18 x1 x2 x3 x4 x5 h g → gG D cy ad (gA ad s.heap.size) s.heap h g H locs → lv_has ls 6 [(0, .ref (ad 97)), (1, .int x1), (2, .int x2), (3, .int x3), (4, .int x4), (5, .int x5)] → W p l e ({ frames := 2, cells := 0, slots := 0, locals := 46 } : Room) s m args below meth c H locs 0 0 (MQ below (va_Qi (fun (r : Int32) (u : HI × HL) => Q r u.1 u.2) (gB D cy ad s.heap.size) (gA ad s.heap.size)) args s 0 0 (gA ad s.heap.size)) (F0 m 18 ls [])) (x1 : Int32) (x2 : Int32) (x3 : Int32) (x4 : Int32) (x5 : Int32) (h : HI) (g : HL) (H : Heap) (locs : List Loc) (ls : Array Slot), j_X3_mostOf_54 Q K18 x1 x2 x3 x4 x5 h g → gG D cy ad (gA ad s.heap.size) s.heap h g H locs → lv_has ls 6 [(0, .ref (ad 97)), (1, .int x1), (2, .int x2), (3, .int x3), (4, .int x4), (5, .int x5)] → W p l e ({ frames := 2, cells := 0, slots := 0, locals := 46 } : Room) s m args below meth c H locs 0 0 (MQ below (va_Qi (fun (r : Int32) (u : HI × HL) => Q r u.1 u.2) (gB D cy ad s.heap.size) (gA ad s.heap.size)) args s 0 0 (gA ad s.heap.size)) (F0 m 54 ls []) := by
    intro K18 hK18 x1 x2 x3 x4 x5 h g H locs ls HW hG hl
    unfold j_X3_mostOf_54 at HW
    obtain ⟨x5_54, ex5_54⟩ : ∃ y : Int32, y = (x5 + 1) := ⟨_, rfl⟩
    replace HW := HW x5_54 ex5_54
    refine lv_iinc (v := x5_54) (lv' := [(5, .int x5_54), (0, .ref (ad 97)), (1, .int x1), (2, .int x2), (3, .int x3), (4, .int x4)]) hx hb dX3_mostOf_54 hl (k := 5) rfl (by rw [ex5_54]; rfl) (by decide) rfl (fun ls hl => ?_)
    refine lv_goto (tgt := 18) hx hb dX3_mostOf_57 (by decide) ?_
    exact hK18 x1 x2 x3 x4 x5_54 h g _ _ _ HW hG (lv_sub hl [1, 2, 3, 4, 5, 0] rfl)
  have L18 : ∀ (n : Nat) (x1 : Int32) (x2 : Int32) (x3 : Int32) (x4 : Int32) (x5 : Int32) (h : HI) (g : HL) (H : Heap) (locs : List Loc) (ls : Array Slot), lpN (F_X3_mostOf_18 Q) n (x1, x2, x3, x4, x5, h, g) → gG D cy ad (gA ad s.heap.size) s.heap h g H locs → lv_has ls 6 [(0, .ref (ad 97)), (1, .int x1), (2, .int x2), (3, .int x3), (4, .int x4), (5, .int x5)] → W p l e ({ frames := 2, cells := 0, slots := 0, locals := 46 } : Room) s m args below meth c H locs 0 0 (MQ below (va_Qi (fun (r : Int32) (u : HI × HL) => Q r u.1 u.2) (gB D cy ad s.heap.size) (gA ad s.heap.size)) args s 0 0 (gA ad s.heap.size)) (F0 m 18 ls []) := by
    intro n
    induction n with
    | zero => intro x1 x2 x3 x4 x5 h g H locs ls HW; exact HW.elim
    | succ n ih =>
      intro x1 x2 x3 x4 x5 h g H locs ls HW hG hl
      have HW : b_X3_mostOf_18 Q (fun x1 x2 x3 x4 x5 h g => lpN (F_X3_mostOf_18 Q) n (x1, x2, x3, x4, x5, h, g)) x1 x2 x3 x4 x5 h g := HW
      generalize hKe : (fun (x1 : Int32) (x2 : Int32) (x3 : Int32) (x4 : Int32) (x5 : Int32) (h : HI) (g : HL) => lpN (F_X3_mostOf_18 Q) n (x1, x2, x3, x4, x5, h, g)) = K18 at HW
      have hK18 : ∀ (x1 : Int32) (x2 : Int32) (x3 : Int32) (x4 : Int32) (x5 : Int32) (h : HI) (g : HL) (H : Heap) (locs : List Loc) (ls : Array Slot), K18 x1 x2 x3 x4 x5 h g → gG D cy ad (gA ad s.heap.size) s.heap h g H locs → lv_has ls 6 [(0, .ref (ad 97)), (1, .int x1), (2, .int x2), (3, .int x3), (4, .int x4), (5, .int x5)] → W p l e ({ frames := 2, cells := 0, slots := 0, locals := 46 } : Room) s m args below meth c H locs 0 0 (MQ below (va_Qi (fun (r : Int32) (u : HI × HL) => Q r u.1 u.2) (gB D cy ad s.heap.size) (gA ad s.heap.size)) args s 0 0 (gA ad s.heap.size)) (F0 m 18 ls []) := by subst hKe; exact ih
      clear ih
      clear hKe
      unfold b_X3_mostOf_18 at HW
      refine lv_iload hx hb dX3_mostOf_18 (lv_at hl 5 rfl) ?_
      refine lv_aload_n hx hb dX3_mostOf_20 rfl (lv_at hl 0 rfl) ?_
      refine g_geti hx hb hw inG3 hown hK hG gl_97 rfl gk_97 (by decide) 5 (by decide) (by rw [gm_97]; decide) gr_97_5 lk51 dX3_mostOf_21 ?_
      refine lv_icmp_ge (tgt := 60) hx hb dX3_mostOf_24 (by decide) (fun c_24 => ?_) (fun c_24 => ?_)
      · replace HW := HW.1 c_24
        refine lv_iload_n hx hb dX3_mostOf_60 rfl (lv_at hl 3 rfl) ?_
        exact W.iret (v := x3) hx hb hr (fun t ht hW => ⟨⟨x3, (h, g), rfl, HW, g_B ht hG⟩, hG.2.2.F ht⟩) hG.2.2.2.2 dX3_mostOf_61
      · replace HW := HW.2 c_24
        refine lv_iload hx hb dX3_mostOf_27 (lv_at hl 4 rfl) ?_
        refine lv_iload hx hb dX3_mostOf_29 (lv_at hl 5 rfl) ?_
        refine lv_ishr hx hb dX3_mostOf_31 ?_
        refine lv_iconst (v := 1) hx hb dX3_mostOf_32 (by decide) ?_
        refine lv_iand hx hb dX3_mostOf_33 ?_
        refine lv_iconst (v := 1) hx hb dX3_mostOf_34 (by decide) ?_
        refine lv_icmp_ne (tgt := 54) hx hb dX3_mostOf_35 (by decide) (fun c_35 => ?_) (fun c_35 => ?_)
        · replace HW := HW.1 c_35
          exact B54 K18 hK18 x1 x2 x3 x4 x5 h g _ _ _ HW hG (lv_sub hl [0, 1, 2, 3, 4, 5] rfl)
        · replace HW := HW.2 c_35
          refine lv_iload_n hx hb dX3_mostOf_38 rfl (lv_at hl 3 rfl) ?_
          refine lv_aload_n hx hb dX3_mostOf_39 rfl (lv_at hl 0 rfl) ?_
          refine lv_iload_n hx hb dX3_mostOf_40 rfl (lv_at hl 1 rfl) ?_
          refine lv_iload_n hx hb dX3_mostOf_41 rfl (lv_at hl 2 rfl) ?_
          refine lv_iconst (v := 1) hx hb dX3_mostOf_42 (by decide) ?_
          refine lv_iload hx hb dX3_mostOf_43 (lv_at hl 5 rfl) ?_
          refine lv_ishl hx hb dX3_mostOf_45 ?_
          refine lv_ior hx hb dX3_mostOf_46 ?_
          obtain ⟨P_47, HC_47, HW⟩ := HW
          refine g_calli (g_runV (As := [.int x1, .int (x2 ||| ((1 : Int32) <<< (x5 &&& 31)))]) (rest := [.int x3]) ⟨hx, hb, hml, hown, hts⟩ (m_X3_after l D cy ad h g H.size x1 (x2 ||| ((1 : Int32) <<< (x5 &&& 31))) P_47 HC_47) (cwV 2 hts (gd_V (wm4 15 rfl rfl) (wm4 17 rfl rfl) (wmp2 (q := (yX3_after, 6)) 5 rfl) (wm1 9 rfl rfl) (wm4 18 rfl rfl)) rfl rfl rfl (by decide +kernel) ⟨Nat.le_of_ble_eq_true rfl, Nat.le_of_ble_eq_true rfl⟩) hK hNw hG gl_97 rfl gk_97 (by decide) rfl rfl hl.1 rfl (lv_room (Nat.le_of_ble_eq_true rfl)) dX3_mostOf_47 ⟨Nat.zero_le _, Nat.zero_le _⟩) hG (fun r_47 h_47 g_47 H locs hq hG => ?_)
          replace HW := HW r_47 h_47 g_47 hq
          refine va_mmax hx hb (hml.trans hl.1.symm) hown ml89 ms89 mi89 mc89 (by decide) (Nat.le_of_ble_eq_true rfl) (Nat.zero_le _) (Nat.zero_le _) dX3_mostOf_50 ?_
          refine lv_topi (fun x3_53 ex3_53 => ?_)
          replace HW := HW x3_53 ex3_53
          refine lv_istore_n (lv' := [(3, .int x3_53), (0, .ref (ad 97)), (1, .int x1), (2, .int x2), (4, .int x4), (5, .int x5)]) hx hb dX3_mostOf_53 rfl hl (by decide) rfl (fun ls hl => ?_)
          exact B54 K18 hK18 x1 x2 x3_53 x4 x5 h_47 g_47 _ _ _ HW hG (lv_sub hl [1, 2, 3, 0, 4, 5] rfl)
  have E0 : ∀ (H : Heap) (locs : List Loc) (ls : Array Slot), gG D cy ad (gA ad s.heap.size) s.heap h g H locs → lv_has ls 6 [(0, .ref (ad 97)), (1, .int x1), (2, .int x2)] → W p l e ({ frames := 2, cells := 0, slots := 0, locals := 46 } : Room) s m args below meth c H locs 0 0 (MQ below (va_Qi (fun (r : Int32) (u : HI × HL) => Q r u.1 u.2) (gB D cy ad s.heap.size) (gA ad s.heap.size)) args s 0 0 (gA ad s.heap.size)) (F0 m 0 ls []) := by
    intro H locs ls hG hl
    unfold w_X3_mostOf at HW
    refine lv_aload_n hx hb dX3_mostOf_0 rfl (lv_at hl 0 rfl) ?_
    refine lv_iload_n hx hb dX3_mostOf_1 rfl (lv_at hl 1 rfl) ?_
    refine lv_iload_n hx hb dX3_mostOf_2 rfl (lv_at hl 2 rfl) ?_
    obtain ⟨P_3, HC_3, HW⟩ := HW
    refine g_calli (g_runV (As := [.int x1, .int x2]) (rest := []) ⟨hx, hb, hml, hown, hts⟩ (m_X3_after l D cy ad h g H.size x1 x2 P_3 HC_3) (cwV 2 hts (gd_V (wm4 15 rfl rfl) (wm4 17 rfl rfl) (wmp2 (q := (yX3_after, 6)) 5 rfl) (wm1 9 rfl rfl) (wm4 18 rfl rfl)) rfl rfl rfl (by decide +kernel) ⟨Nat.le_of_ble_eq_true rfl, Nat.le_of_ble_eq_true rfl⟩) hK hNw hG gl_97 rfl gk_97 (by decide) rfl rfl hl.1 rfl (lv_room (Nat.le_of_ble_eq_true rfl)) dX3_mostOf_3 ⟨Nat.zero_le _, Nat.zero_le _⟩) hG (fun r_3 h_3 g_3 H locs hq hG => ?_)
    replace HW := HW r_3 h_3 g_3 hq
    refine lv_istore_n (lv' := [(3, .int r_3), (0, .ref (ad 97)), (1, .int x1), (2, .int x2)]) hx hb dX3_mostOf_6 rfl hl (by decide) rfl (fun ls hl => ?_)
    refine lv_aload_n hx hb dX3_mostOf_7 rfl (lv_at hl 1 rfl) ?_
    refine lv_iload_n hx hb dX3_mostOf_8 rfl (lv_at hl 2 rfl) ?_
    refine lv_iload_n hx hb dX3_mostOf_9 rfl (lv_at hl 3 rfl) ?_
    obtain ⟨P_10, HC_10, HW⟩ := HW
    refine g_calli (g_runV (As := [.int x1, .int x2]) (rest := []) ⟨hx, hb, hml, hown, hts⟩ (m_X3_open l D cy ad h_3 g_3 H.size x1 x2 P_10 HC_10) (cwV 2 hts (gd_V (wm4 19 rfl rfl) (wm4 21 rfl rfl) (wmp2 (q := (yX3_open, 6)) 6 rfl) (wm1 9 rfl rfl) (wm4 22 rfl rfl)) rfl rfl rfl (by decide +kernel) ⟨Nat.le_of_ble_eq_true rfl, Nat.le_of_ble_eq_true rfl⟩) hK hNw hG gl_97 rfl gk_97 (by decide) rfl rfl hl.1 rfl (lv_room (Nat.le_of_ble_eq_true rfl)) dX3_mostOf_10 ⟨Nat.zero_le _, Nat.zero_le _⟩) hG (fun r_10 h_10 g_10 H locs hq hG => ?_)
    replace HW := HW r_10 h_10 g_10 hq
    refine lv_istore (lv' := [(4, .int r_10), (3, .int r_3), (0, .ref (ad 97)), (1, .int x1), (2, .int x2)]) hx hb dX3_mostOf_13 hl (by decide) rfl (fun ls hl => ?_)
    refine lv_iconst (v := 0) hx hb dX3_mostOf_15 (by decide) ?_
    refine lv_istore (lv' := [(5, .int (0 : Int32)), (4, .int r_10), (3, .int r_3), (0, .ref (ad 97)), (1, .int x1), (2, .int x2)]) hx hb dX3_mostOf_16 hl (by decide) rfl (fun ls hl => ?_)
    obtain ⟨n_18, HW⟩ := HW
    exact L18 n_18 x1 x2 r_3 r_10 (0 : Int32) h_10 g_10 _ _ _ HW hG (lv_sub hl [3, 4, 5, 2, 1, 0] rfl)
  exact E0 _ _ _ hG hl

def j_X3_find_116 (Q : HI → HL → Prop) (K78 : Int32 → Int32 → HI → HL → Prop) (K85 : Int32 → Int32 → Int32 → HI → HL → Prop) (x2 : Int32) (x3 : Int32) (x4 : Int32) (h : HI) (g : HL) : Prop :=
  (∀ x4_116 : Int32, x4_116 = (x4 + 1) → K85 x2 x3 x4_116 h g)
def b_X3_find_85 (Q : HI → HL → Prop) (K78 : Int32 → Int32 → HI → HL → Prop) (K85 : Int32 → Int32 → Int32 → HI → HL → Prop) (x2 : Int32) (x3 : Int32) (x4 : Int32) (h : HI) (g : HL) : Prop :=
  ((x2 ≤ x4 → (∀ x3_122 : Int32, x3_122 = (x3 + (-1)) → K78 x2 x3_122 h g)) ∧ (¬ x2 ≤ x4 → (∃ P_93 : Int32 → HI → HL → Prop, w_J6_bitCount_0f7a4 x4 h g P_93 ∧ ∀ (r_93 : Int32) (h_93 : HI) (g_93 : HL), P_93 r_93 h_93 g_93 → ((x3 < r_93 → j_X3_find_116 Q K78 K85 x2 x3 x4 h_93 g_93) ∧ (¬ x3 < r_93 → (vp_in x3 7 ∧ (∃ P_112 : Int32 → HI → HL → Prop, w_X3_mostOf x3 x4 h_93 g_93 P_112 ∧ ∀ (r_112 : Int32) (h_112 : HI) (g_112 : HL), P_112 r_112 h_112 g_112 → (vp_in x4 512 ∧ ∀ h_115 : HI, h_115 = hu h_112 (99 + x3.toNatClampNeg) x4.toNatClampNeg r_112 → j_X3_find_116 Q K78 K85 x2 x3 x4 h_115 g_112))))))))
def F_X3_find_85 (Q : HI → HL → Prop) (K78 : Int32 → Int32 → HI → HL → Prop) (K : Int32 × Int32 × Int32 × HI × HL → Prop) (q : Int32 × Int32 × Int32 × HI × HL) : Prop := b_X3_find_85 Q K78 (fun x2 x3 x4 h g => K (x2, x3, x4, h, g)) q.1 q.2.1 q.2.2.1 q.2.2.2.1 q.2.2.2.2
def b_X3_find_78 (Q : HI → HL → Prop) (K78 : Int32 → Int32 → HI → HL → Prop) (x2 : Int32) (x3 : Int32) (h : HI) (g : HL) : Prop :=
  ((x3 < 0 → Q h g) ∧ (¬ x3 < 0 → lpE (F_X3_find_85 Q K78) (x2, x3, (0 : Int32), h, g)))
def F_X3_find_78 (Q : HI → HL → Prop) (K : Int32 × Int32 × HI × HL → Prop) (q : Int32 × Int32 × HI × HL) : Prop := b_X3_find_78 Q (fun x2 x3 h g => K (x2, x3, h, g)) q.1 q.2.1 q.2.2.1 q.2.2.2
def j_X3_find_68 (Q : HI → HL → Prop) (K29 : Int32 → Int32 → Int32 → HI → HL → Prop) (x1 : Int32) (x2 : Int32) (x3 : Int32) (h : HI) (g : HL) : Prop :=
  (∀ x3_68 : Int32, x3_68 = (x3 + 1) → K29 x1 x2 x3_68 h g)
def j_X3_find_67 (Q : HI → HL → Prop) (K29 : Int32 → Int32 → Int32 → HI → HL → Prop) (x1 : Int32) (x2 : Int32) (x3 : Int32) (s0 : Nat) (s1 : Int32) (s2 : Int32) (h : HI) (g : HL) : Prop :=
  (vp_in s1 512 ∧ ∀ h_67 : HI, h_67 = hu h s0 s1.toNatClampNeg s2 → j_X3_find_68 Q K29 x1 x2 x3 h_67 g)
def b_X3_find_29 (Q : HI → HL → Prop) (K29 : Int32 → Int32 → Int32 → HI → HL → Prop) (x1 : Int32) (x2 : Int32) (x3 : Int32) (h : HI) (g : HL) : Prop :=
  ((x2 ≤ x3 → (∀ x3_77 : Int32, x3_77 = (x1 - (1 : Int32)) → lpE (F_X3_find_78 Q) (x2, x3_77, h, g))) ∧ (¬ x2 ≤ x3 → (∃ P_35 : Int32 → HI → HL → Prop, w_J6_bitCount_0f7a4 x3 h g P_35 ∧ ∀ (r_35 : Int32) (h_35 : HI) (g_35 : HL), P_35 r_35 h_35 g_35 → ((x1 < r_35 → j_X3_find_68 Q K29 x1 x2 x3 h_35 g_35) ∧ (¬ x1 < r_35 → (vp_in x1 7 ∧ (∃ P_51 : Int32 → HI → HL → Prop, w_X3_parts x3 h_35 g_35 P_51 ∧ ∀ (r_51 : Int32) (h_51 : HI) (g_51 : HL), zb r_51 → P_51 r_51 h_51 g_51 → ((r_51 = 0 → (vp_in x3 512 ∧ j_X3_find_67 Q K29 x1 x2 x3 (99 + x1.toNatClampNeg) x3 (h_51 106 x3.toNatClampNeg) h_51 g_51)) ∧ (¬ r_51 = 0 → j_X3_find_67 Q K29 x1 x2 x3 (99 + x1.toNatClampNeg) x3 (-1 : Int32) h_51 g_51)))))))))
def F_X3_find_29 (Q : HI → HL → Prop) (K : Int32 × Int32 × Int32 × HI × HL → Prop) (q : Int32 × Int32 × Int32 × HI × HL) : Prop := b_X3_find_29 Q (fun x1 x2 x3 h g => K (x1, x2, x3, h, g)) q.1 q.2.1 q.2.2.1 q.2.2.2.1 q.2.2.2.2
def w_X3_find  (h : HI) (g : HL) (Q : HI → HL → Prop) : Prop :=
  (∃ P_1 : HI → HL → Prop, w_X3_gatherSpares h g P_1 ∧ ∀ (h_1 : HI) (g_1 : HL), P_1 h_1 g_1 → (∃ P_13 : Int32 → HI → HL → Prop, w_X8_rows 12 h_1 g_1 P_13 ∧ ∀ (r_13 : Int32) (h_13 : HI) (g_13 : HL), P_13 r_13 h_13 g_13 → (∀ x1_19 : Int32, x1_19 = (if r_13 < (6 : Int32) then r_13 else (6 : Int32)) → (∀ x2_26 : Int32, x2_26 = ((1 : Int32) <<< ((h_13 97 5) &&& 31)) → lpE (F_X3_find_29 Q) (x1_19, x2_26, (0 : Int32), h_13, g_13)))))
set_option maxHeartbeats 8000000 in
set_option maxRecDepth 100000 in
theorem m_X3_find (l : Launch) (D : va_G) (cy : Nat → ClassId) (ad : Nat → Nat) (h : HI) (g : HL) (sz : Nat)  (Q : HI → HL → Prop) (HW : w_X3_find h g Q) : Met l yX3_find (wa yX3_find cX3_find 5 none) ({ frames := 3, cells := 0, slots := 0, locals := 71 }) (va_Pc [.ref (ad 97)] (gI D cy ad h g sz)) (va_Qv (fun (u : HI × HL) => Q u.1 u.2) (gB D cy ad sz) (gA ad sz)) 0 0 (gA ad sz) := by
  refine Met.ofW (cc := cX3_find) (maxL := 5) (ret := none) (by decide) rfl ?_
  intro p e s m args below meth c s₁ B hml hv
  obtain ⟨hav, hsz, hP, hK, hD0, hNw⟩ := hv
  have hx := B.exec
  have hb := B.bytes
  have hr := B.returns
  have hts := atoms_spec (ws := (wa yX3_find cX3_find 5 none)) B.pre
  have hw := wa_hw hts
  have hown : s.vm.findClass RX3 = some m.cls := findClass_of_methodNamed B.named
  have hlocks := B.notSynchronized
  subst hsz
  have hG : gG D cy ad (gA ad s.heap.size) s.heap h g s.heap [] := ⟨hP, gA_self hD0, va_S.rf⟩
  clear hP hD0
  have lk26 := hw (.fieldLink RX3 26 "OldWorks$Givings" "shop" "LOldWorks$Shop;") (wm2 50 rfl rfl)
  have lk33 := hw (.fieldLink RX3 33 "OldWorks$Shop" "machines" "LOldWorks$Table;") (wm1 78 rfl rfl)
  have ml45 := hw (.methodLink RX3 45 Lib.Math.min.name) (wm3 237 rfl rfl)
  have ms45 := hw (.static Lib.Math.min.name) (wm3 99 rfl rfl)
  have mi45 := hw (.initialized "java/lang/Math") (wm1 14 rfl rfl)
  have mc45 := hw (.code Lib.Math.min.name Lib.Math.min.code 2 (some .int)) (wm3 100 rfl rfl)
  have lk51 := hw (.fieldLink RX3 51 "OldWorks$Givings" "spares" "I") (wm2 55 rfl rfl)
  have lk13 := hw (.fieldLink RX3 13 "OldWorks$Givings" "most" "[[I") (wm2 51 rfl rfl)
  have lk16 := hw (.fieldLink RX3 16 "OldWorks$Givings" "years" "[I") (wm2 52 rfl rfl)
  rw [show (headSpec (wa yX3_find cX3_find 5 none) ({ frames := 3, cells := 0, slots := 0, locals := 71 } : Room)).room = ({ frames := 3, cells := 0, slots := 0, locals := 71 } : Room) from rfl]
  have hl := lv_entry ([.ref (ad 97)]) (n := 5) (Nat.le_of_ble_eq_true rfl)
  rw [show entryFrame m args 5 = entryFrame m ([.ref (ad 97)] : List Value).toArray 5 from by rw [hav], lg_entry_eq]
  generalize (lg_sl ([.ref (ad 97)]) ++ List.replicate (5 - (lg_sl ([.ref (ad 97)])).length) Slot.unset).toArray = ls at hl ⊢
  have hl : lv_has ls 5 [(0, .ref (ad 97))] := hl
  have B116 : ∀ (K78 : Int32 → Int32 → HI → HL → Prop) (hK78 : ∀ (x2 : Int32) (x3 : Int32) (h : HI) (g : HL) (H : Heap) (locs : List Loc) (ls : Array Slot), K78 x2 x3 h g → gG D cy ad (gA ad s.heap.size) s.heap h g H locs → lv_has ls 5 [(0, .ref (ad 97)), (2, .int x2), (3, .int x3)] → W p l e ({ frames := 3, cells := 0, slots := 0, locals := 71 } : Room) s m args below meth c H locs 0 0 (MQ below (va_Qv (fun (u : HI × HL) => Q u.1 u.2) (gB D cy ad s.heap.size) (gA ad s.heap.size)) args s 0 0 (gA ad s.heap.size)) (F0 m 78 ls [])) (K85 : Int32 → Int32 → Int32 → HI → HL → Prop) (hK85 : ∀ (x2 : Int32) (x3 : Int32) (x4 : Int32) (h : HI) (g : HL) (H : Heap) (locs : List Loc) (ls : Array Slot), K85 x2 x3 x4 h g → gG D cy ad (gA ad s.heap.size) s.heap h g H locs → lv_has ls 5 [(0, .ref (ad 97)), (2, .int x2), (3, .int x3), (4, .int x4)] → W p l e ({ frames := 3, cells := 0, slots := 0, locals := 71 } : Room) s m args below meth c H locs 0 0 (MQ below (va_Qv (fun (u : HI × HL) => Q u.1 u.2) (gB D cy ad s.heap.size) (gA ad s.heap.size)) args s 0 0 (gA ad s.heap.size)) (F0 m 85 ls [])) (x2 : Int32) (x3 : Int32) (x4 : Int32) (h : HI) (g : HL) (H : Heap) (locs : List Loc) (ls : Array Slot), j_X3_find_116 Q K78 K85 x2 x3 x4 h g → gG D cy ad (gA ad s.heap.size) s.heap h g H locs → lv_has ls 5 [(0, .ref (ad 97)), (2, .int x2), (3, .int x3), (4, .int x4)] → W p l e ({ frames := 3, cells := 0, slots := 0, locals := 71 } : Room) s m args below meth c H locs 0 0 (MQ below (va_Qv (fun (u : HI × HL) => Q u.1 u.2) (gB D cy ad s.heap.size) (gA ad s.heap.size)) args s 0 0 (gA ad s.heap.size)) (F0 m 116 ls []) := by
    intro K78 hK78 K85 hK85 x2 x3 x4 h g H locs ls HW hG hl
    unfold j_X3_find_116 at HW
    obtain ⟨x4_116, ex4_116⟩ : ∃ y : Int32, y = (x4 + 1) := ⟨_, rfl⟩
    replace HW := HW x4_116 ex4_116
    refine lv_iinc (v := x4_116) (lv' := [(4, .int x4_116), (0, .ref (ad 97)), (2, .int x2), (3, .int x3)]) hx hb dX3_find_116 hl (k := 3) rfl (by rw [ex4_116]; rfl) (by decide) rfl (fun ls hl => ?_)
    refine lv_goto (tgt := 85) hx hb dX3_find_119 (by decide) ?_
    exact hK85 x2 x3 x4_116 h g _ _ _ HW hG (lv_sub hl [1, 2, 3, 0] rfl)
  have L85 : ∀ (K78 : Int32 → Int32 → HI → HL → Prop) (hK78 : ∀ (x2 : Int32) (x3 : Int32) (h : HI) (g : HL) (H : Heap) (locs : List Loc) (ls : Array Slot), K78 x2 x3 h g → gG D cy ad (gA ad s.heap.size) s.heap h g H locs → lv_has ls 5 [(0, .ref (ad 97)), (2, .int x2), (3, .int x3)] → W p l e ({ frames := 3, cells := 0, slots := 0, locals := 71 } : Room) s m args below meth c H locs 0 0 (MQ below (va_Qv (fun (u : HI × HL) => Q u.1 u.2) (gB D cy ad s.heap.size) (gA ad s.heap.size)) args s 0 0 (gA ad s.heap.size)) (F0 m 78 ls [])) (n : Nat) (x2 : Int32) (x3 : Int32) (x4 : Int32) (h : HI) (g : HL) (H : Heap) (locs : List Loc) (ls : Array Slot), lpN (F_X3_find_85 Q K78) n (x2, x3, x4, h, g) → gG D cy ad (gA ad s.heap.size) s.heap h g H locs → lv_has ls 5 [(0, .ref (ad 97)), (2, .int x2), (3, .int x3), (4, .int x4)] → W p l e ({ frames := 3, cells := 0, slots := 0, locals := 71 } : Room) s m args below meth c H locs 0 0 (MQ below (va_Qv (fun (u : HI × HL) => Q u.1 u.2) (gB D cy ad s.heap.size) (gA ad s.heap.size)) args s 0 0 (gA ad s.heap.size)) (F0 m 85 ls []) := by
    intro K78 hK78 n
    induction n with
    | zero => intro x2 x3 x4 h g H locs ls HW; exact HW.elim
    | succ n ih =>
      intro x2 x3 x4 h g H locs ls HW hG hl
      have HW : b_X3_find_85 Q K78 (fun x2 x3 x4 h g => lpN (F_X3_find_85 Q K78) n (x2, x3, x4, h, g)) x2 x3 x4 h g := HW
      generalize hKe : (fun (x2 : Int32) (x3 : Int32) (x4 : Int32) (h : HI) (g : HL) => lpN (F_X3_find_85 Q K78) n (x2, x3, x4, h, g)) = K85 at HW
      have hK85 : ∀ (x2 : Int32) (x3 : Int32) (x4 : Int32) (h : HI) (g : HL) (H : Heap) (locs : List Loc) (ls : Array Slot), K85 x2 x3 x4 h g → gG D cy ad (gA ad s.heap.size) s.heap h g H locs → lv_has ls 5 [(0, .ref (ad 97)), (2, .int x2), (3, .int x3), (4, .int x4)] → W p l e ({ frames := 3, cells := 0, slots := 0, locals := 71 } : Room) s m args below meth c H locs 0 0 (MQ below (va_Qv (fun (u : HI × HL) => Q u.1 u.2) (gB D cy ad s.heap.size) (gA ad s.heap.size)) args s 0 0 (gA ad s.heap.size)) (F0 m 85 ls []) := by subst hKe; exact ih
      clear ih
      clear hKe
      unfold b_X3_find_85 at HW
      refine lv_iload hx hb dX3_find_85 (lv_at hl 3 rfl) ?_
      refine lv_iload_n hx hb dX3_find_87 rfl (lv_at hl 1 rfl) ?_
      refine lv_icmp_ge (tgt := 122) hx hb dX3_find_88 (by decide) (fun c_88 => ?_) (fun c_88 => ?_)
      · replace HW := HW.1 c_88
        obtain ⟨x3_122, ex3_122⟩ : ∃ y : Int32, y = (x3 + (-1)) := ⟨_, rfl⟩
        replace HW := HW x3_122 ex3_122
        refine lv_iinc (v := x3_122) (lv' := [(3, .int x3_122), (0, .ref (ad 97)), (2, .int x2), (4, .int x4)]) hx hb dX3_find_122 hl (k := 2) rfl (by rw [ex3_122]; rfl) (by decide) rfl (fun ls hl => ?_)
        refine lv_goto (tgt := 78) hx hb dX3_find_125 (by decide) ?_
        exact hK78 x2 x3_122 h g _ _ _ HW hG (lv_sub hl [1, 2, 0] rfl)
      · replace HW := HW.2 c_88
        refine lv_iload hx hb dX3_find_91 (lv_at hl 3 rfl) ?_
        obtain ⟨P_93, HC_93, HW⟩ := HW
        refine g_calli (g_runS (As := [.int x4]) (rest := []) ⟨hx, hb, hml, hown, hts⟩ (m_J6_bitCount_0f7a4 l D cy ad h g H.size x4 P_93 HC_93) (va_cwS 1 hts (gd_S (wm4 1 rfl rfl) (wm4 2 rfl rfl) (wm1 15 rfl rfl) (wm4 3 rfl rfl)) rfl rfl rfl (by decide +kernel) ⟨Nat.le_of_ble_eq_true rfl, Nat.le_of_ble_eq_true rfl⟩) hK hNw hG rfl rfl hl.1 rfl (lv_room (Nat.le_of_ble_eq_true rfl)) dX3_find_93 ⟨Nat.zero_le _, Nat.zero_le _⟩) hG (fun r_93 h_93 g_93 H locs hq hG => ?_)
        replace HW := HW r_93 h_93 g_93 hq
        refine lv_iload_n hx hb dX3_find_96 rfl (lv_at hl 2 rfl) ?_
        refine lv_icmp_gt (tgt := 116) hx hb dX3_find_97 (by decide) (fun c_97 => ?_) (fun c_97 => ?_)
        · replace HW := HW.1 c_97
          exact B116 K78 hK78 K85 hK85 x2 x3 x4 h_93 g_93 _ _ _ HW hG (lv_sub hl [0, 1, 2, 3] rfl)
        · replace HW := HW.2 c_97
          refine lv_aload_n hx hb dX3_find_100 rfl (lv_at hl 0 rfl) ?_
          refine g_getr hx hb hw inG3 hown hK hG gl_97 rfl gk_97 (by decide) 1 (by decide) (by rw [gm_97]; decide) (r := 98) gr_97_1 lk13 dX3_find_101 ?_
          refine lv_iload_n hx hb dX3_find_104 rfl (lv_at hl 2 rfl) ?_
          have hi_105 := vp_lt HW.1
          refine g_aald hx hb hK hG gl_98 gk_98 gn_98 HW.1 (go_98 _ hi_105).1 dX3_find_105 ?_
          replace HW := HW.2
          refine lv_iload hx hb dX3_find_106 (lv_at hl 3 rfl) ?_
          refine lv_aload_n hx hb dX3_find_108 rfl (lv_at hl 0 rfl) ?_
          refine lv_iload_n hx hb dX3_find_109 rfl (lv_at hl 2 rfl) ?_
          refine lv_iload hx hb dX3_find_110 (lv_at hl 3 rfl) ?_
          obtain ⟨P_112, HC_112, HW⟩ := HW
          refine g_calli (g_runV (As := [.int x3, .int x4]) (rest := [.int x4, .ref (ad (99 + x3.toNatClampNeg))]) ⟨hx, hb, hml, hown, hts⟩ (m_X3_mostOf l D cy ad h_93 g_93 H.size x3 x4 P_112 HC_112) (cwV 2 hts (gd_V (wm4 11 rfl rfl) (wm4 13 rfl rfl) (wmp2 (q := (yX3_mostOf, 6)) 4 rfl) (wm1 9 rfl rfl) (wm4 14 rfl rfl)) rfl rfl rfl (by decide +kernel) ⟨Nat.le_of_ble_eq_true rfl, Nat.le_of_ble_eq_true rfl⟩) hK hNw hG gl_97 rfl gk_97 (by decide) rfl rfl hl.1 rfl (lv_room (Nat.le_of_ble_eq_true rfl)) dX3_find_112 ⟨Nat.zero_le _, Nat.zero_le _⟩) hG (fun r_112 h_112 g_112 H locs hq hG => ?_)
          replace HW := HW r_112 h_112 g_112 hq
          refine g_iast hx hb hK hG ((go_98 _ hi_105).2.2.1) ((go_98 _ hi_105).2.1) ((go_98 _ hi_105).2.2.2) HW.1 dX3_find_115 (fun H locs hG => ?_)
          replace HW := HW.2
          obtain ⟨h_115, eh_115⟩ : ∃ y : HI, y = hu h_112 (99 + x3.toNatClampNeg) x4.toNatClampNeg r_112 := ⟨_, rfl⟩
          rw [← eh_115] at hG
          replace HW := HW h_115 eh_115
          exact B116 K78 hK78 K85 hK85 x2 x3 x4 h_115 g_112 _ _ _ HW hG (lv_sub hl [0, 1, 2, 3] rfl)
  have L78 : ∀ (n : Nat) (x2 : Int32) (x3 : Int32) (h : HI) (g : HL) (H : Heap) (locs : List Loc) (ls : Array Slot), lpN (F_X3_find_78 Q) n (x2, x3, h, g) → gG D cy ad (gA ad s.heap.size) s.heap h g H locs → lv_has ls 5 [(0, .ref (ad 97)), (2, .int x2), (3, .int x3)] → W p l e ({ frames := 3, cells := 0, slots := 0, locals := 71 } : Room) s m args below meth c H locs 0 0 (MQ below (va_Qv (fun (u : HI × HL) => Q u.1 u.2) (gB D cy ad s.heap.size) (gA ad s.heap.size)) args s 0 0 (gA ad s.heap.size)) (F0 m 78 ls []) := by
    intro n
    induction n with
    | zero => intro x2 x3 h g H locs ls HW; exact HW.elim
    | succ n ih =>
      intro x2 x3 h g H locs ls HW hG hl
      have HW : b_X3_find_78 Q (fun x2 x3 h g => lpN (F_X3_find_78 Q) n (x2, x3, h, g)) x2 x3 h g := HW
      generalize hKe : (fun (x2 : Int32) (x3 : Int32) (h : HI) (g : HL) => lpN (F_X3_find_78 Q) n (x2, x3, h, g)) = K78 at HW
      have hK78 : ∀ (x2 : Int32) (x3 : Int32) (h : HI) (g : HL) (H : Heap) (locs : List Loc) (ls : Array Slot), K78 x2 x3 h g → gG D cy ad (gA ad s.heap.size) s.heap h g H locs → lv_has ls 5 [(0, .ref (ad 97)), (2, .int x2), (3, .int x3)] → W p l e ({ frames := 3, cells := 0, slots := 0, locals := 71 } : Room) s m args below meth c H locs 0 0 (MQ below (va_Qv (fun (u : HI × HL) => Q u.1 u.2) (gB D cy ad s.heap.size) (gA ad s.heap.size)) args s 0 0 (gA ad s.heap.size)) (F0 m 78 ls []) := by subst hKe; exact ih
      clear ih
      clear hKe
      unfold b_X3_find_78 at HW
      refine lv_iload_n hx hb dX3_find_78 rfl (lv_at hl 2 rfl) ?_
      refine lv_if_lt (tgt := 128) hx hb dX3_find_79 (by decide) (fun c_79 => ?_) (fun c_79 => ?_)
      · replace HW := HW.1 c_79
        exact W.vret hx hb hr (fun t ht hW => ⟨⟨(h, g), rfl, HW, g_B ht hG⟩, hG.2.2.F ht⟩) hG.2.2.2.2 dX3_find_128
      · replace HW := HW.2 c_79
        refine lv_iconst (v := 0) hx hb dX3_find_82 (by decide) ?_
        refine lv_istore (lv' := [(4, .int (0 : Int32)), (0, .ref (ad 97)), (2, .int x2), (3, .int x3)]) hx hb dX3_find_83 hl (by decide) rfl (fun ls hl => ?_)
        obtain ⟨n_85, HW⟩ := HW
        exact L85 K78 hK78 n_85 x2 x3 (0 : Int32) h g _ _ _ HW hG (lv_sub hl [1, 2, 3, 0] rfl)
  have B68 : ∀ (K29 : Int32 → Int32 → Int32 → HI → HL → Prop) (hK29 : ∀ (x1 : Int32) (x2 : Int32) (x3 : Int32) (h : HI) (g : HL) (H : Heap) (locs : List Loc) (ls : Array Slot), K29 x1 x2 x3 h g → gG D cy ad (gA ad s.heap.size) s.heap h g H locs → lv_has ls 5 [(0, .ref (ad 97)), (1, .int x1), (2, .int x2), (3, .int x3)] → W p l e ({ frames := 3, cells := 0, slots := 0, locals := 71 } : Room) s m args below meth c H locs 0 0 (MQ below (va_Qv (fun (u : HI × HL) => Q u.1 u.2) (gB D cy ad s.heap.size) (gA ad s.heap.size)) args s 0 0 (gA ad s.heap.size)) (F0 m 29 ls [])) (x1 : Int32) (x2 : Int32) (x3 : Int32) (h : HI) (g : HL) (H : Heap) (locs : List Loc) (ls : Array Slot), j_X3_find_68 Q K29 x1 x2 x3 h g → gG D cy ad (gA ad s.heap.size) s.heap h g H locs → lv_has ls 5 [(0, .ref (ad 97)), (1, .int x1), (2, .int x2), (3, .int x3)] → W p l e ({ frames := 3, cells := 0, slots := 0, locals := 71 } : Room) s m args below meth c H locs 0 0 (MQ below (va_Qv (fun (u : HI × HL) => Q u.1 u.2) (gB D cy ad s.heap.size) (gA ad s.heap.size)) args s 0 0 (gA ad s.heap.size)) (F0 m 68 ls []) := by
    intro K29 hK29 x1 x2 x3 h g H locs ls HW hG hl
    unfold j_X3_find_68 at HW
    obtain ⟨x3_68, ex3_68⟩ : ∃ y : Int32, y = (x3 + 1) := ⟨_, rfl⟩
    replace HW := HW x3_68 ex3_68
    refine lv_iinc (v := x3_68) (lv' := [(3, .int x3_68), (0, .ref (ad 97)), (1, .int x1), (2, .int x2)]) hx hb dX3_find_68 hl (k := 3) rfl (by rw [ex3_68]; rfl) (by decide) rfl (fun ls hl => ?_)
    refine lv_goto (tgt := 29) hx hb dX3_find_71 (by decide) ?_
    exact hK29 x1 x2 x3_68 h g _ _ _ HW hG (lv_sub hl [1, 2, 3, 0] rfl)
  have B67 : ∀ (K29 : Int32 → Int32 → Int32 → HI → HL → Prop) (hK29 : ∀ (x1 : Int32) (x2 : Int32) (x3 : Int32) (h : HI) (g : HL) (H : Heap) (locs : List Loc) (ls : Array Slot), K29 x1 x2 x3 h g → gG D cy ad (gA ad s.heap.size) s.heap h g H locs → lv_has ls 5 [(0, .ref (ad 97)), (1, .int x1), (2, .int x2), (3, .int x3)] → W p l e ({ frames := 3, cells := 0, slots := 0, locals := 71 } : Room) s m args below meth c H locs 0 0 (MQ below (va_Qv (fun (u : HI × HL) => Q u.1 u.2) (gB D cy ad s.heap.size) (gA ad s.heap.size)) args s 0 0 (gA ad s.heap.size)) (F0 m 29 ls [])) (x1 : Int32) (x2 : Int32) (x3 : Int32) (s0 : Nat) (s1 : Int32) (s2 : Int32) (h : HI) (g : HL) (H : Heap) (locs : List Loc) (ls : Array Slot) (hk_s0 : gK s0 = 12) (hl_s0 : s0 < gO) (hn_s0 : gN s0 = 512), j_X3_find_67 Q K29 x1 x2 x3 s0 s1 s2 h g → gG D cy ad (gA ad s.heap.size) s.heap h g H locs → lv_has ls 5 [(0, .ref (ad 97)), (1, .int x1), (2, .int x2), (3, .int x3)] → W p l e ({ frames := 3, cells := 0, slots := 0, locals := 71 } : Room) s m args below meth c H locs 0 0 (MQ below (va_Qv (fun (u : HI × HL) => Q u.1 u.2) (gB D cy ad s.heap.size) (gA ad s.heap.size)) args s 0 0 (gA ad s.heap.size)) (F0 m 67 ls [.int s2, .int s1, .ref (ad s0)]) := by
    intro K29 hK29 x1 x2 x3 s0 s1 s2 h g H locs ls hk_s0 hl_s0 hn_s0 HW hG hl
    unfold j_X3_find_67 at HW
    refine g_iast hx hb hK hG hl_s0 hk_s0 hn_s0 HW.1 dX3_find_67 (fun H locs hG => ?_)
    replace HW := HW.2
    obtain ⟨h_67, eh_67⟩ : ∃ y : HI, y = hu h s0 s1.toNatClampNeg s2 := ⟨_, rfl⟩
    rw [← eh_67] at hG
    replace HW := HW h_67 eh_67
    exact B68 K29 hK29 x1 x2 x3 h_67 g _ _ _ HW hG (lv_sub hl [0, 1, 2, 3] rfl)
  have L29 : ∀ (n : Nat) (x1 : Int32) (x2 : Int32) (x3 : Int32) (h : HI) (g : HL) (H : Heap) (locs : List Loc) (ls : Array Slot), lpN (F_X3_find_29 Q) n (x1, x2, x3, h, g) → gG D cy ad (gA ad s.heap.size) s.heap h g H locs → lv_has ls 5 [(0, .ref (ad 97)), (1, .int x1), (2, .int x2), (3, .int x3)] → W p l e ({ frames := 3, cells := 0, slots := 0, locals := 71 } : Room) s m args below meth c H locs 0 0 (MQ below (va_Qv (fun (u : HI × HL) => Q u.1 u.2) (gB D cy ad s.heap.size) (gA ad s.heap.size)) args s 0 0 (gA ad s.heap.size)) (F0 m 29 ls []) := by
    intro n
    induction n with
    | zero => intro x1 x2 x3 h g H locs ls HW; exact HW.elim
    | succ n ih =>
      intro x1 x2 x3 h g H locs ls HW hG hl
      have HW : b_X3_find_29 Q (fun x1 x2 x3 h g => lpN (F_X3_find_29 Q) n (x1, x2, x3, h, g)) x1 x2 x3 h g := HW
      generalize hKe : (fun (x1 : Int32) (x2 : Int32) (x3 : Int32) (h : HI) (g : HL) => lpN (F_X3_find_29 Q) n (x1, x2, x3, h, g)) = K29 at HW
      have hK29 : ∀ (x1 : Int32) (x2 : Int32) (x3 : Int32) (h : HI) (g : HL) (H : Heap) (locs : List Loc) (ls : Array Slot), K29 x1 x2 x3 h g → gG D cy ad (gA ad s.heap.size) s.heap h g H locs → lv_has ls 5 [(0, .ref (ad 97)), (1, .int x1), (2, .int x2), (3, .int x3)] → W p l e ({ frames := 3, cells := 0, slots := 0, locals := 71 } : Room) s m args below meth c H locs 0 0 (MQ below (va_Qv (fun (u : HI × HL) => Q u.1 u.2) (gB D cy ad s.heap.size) (gA ad s.heap.size)) args s 0 0 (gA ad s.heap.size)) (F0 m 29 ls []) := by subst hKe; exact ih
      clear ih
      clear hKe
      unfold b_X3_find_29 at HW
      refine lv_iload_n hx hb dX3_find_29 rfl (lv_at hl 3 rfl) ?_
      refine lv_iload_n hx hb dX3_find_30 rfl (lv_at hl 2 rfl) ?_
      refine lv_icmp_ge (tgt := 74) hx hb dX3_find_31 (by decide) (fun c_31 => ?_) (fun c_31 => ?_)
      · replace HW := HW.1 c_31
        refine lv_iload_n hx hb dX3_find_74 rfl (lv_at hl 1 rfl) ?_
        refine lv_iconst (v := 1) hx hb dX3_find_75 (by decide) ?_
        refine lv_isub hx hb dX3_find_76 ?_
        refine lv_topi (fun x3_77 ex3_77 => ?_)
        replace HW := HW x3_77 ex3_77
        refine lv_istore_n (lv' := [(3, .int x3_77), (0, .ref (ad 97)), (1, .int x1), (2, .int x2)]) hx hb dX3_find_77 rfl hl (by decide) rfl (fun ls hl => ?_)
        obtain ⟨n_78, HW⟩ := HW
        exact L78 n_78 x2 x3_77 h g _ _ _ HW hG (lv_sub hl [1, 3, 0] rfl)
      · replace HW := HW.2 c_31
        refine lv_iload_n hx hb dX3_find_34 rfl (lv_at hl 3 rfl) ?_
        obtain ⟨P_35, HC_35, HW⟩ := HW
        refine g_calli (g_runS (As := [.int x3]) (rest := []) ⟨hx, hb, hml, hown, hts⟩ (m_J6_bitCount_0f7a4 l D cy ad h g H.size x3 P_35 HC_35) (va_cwS 1 hts (gd_S (wm4 1 rfl rfl) (wm4 2 rfl rfl) (wm1 15 rfl rfl) (wm4 3 rfl rfl)) rfl rfl rfl (by decide +kernel) ⟨Nat.le_of_ble_eq_true rfl, Nat.le_of_ble_eq_true rfl⟩) hK hNw hG rfl rfl hl.1 rfl (lv_room (Nat.le_of_ble_eq_true rfl)) dX3_find_35 ⟨Nat.zero_le _, Nat.zero_le _⟩) hG (fun r_35 h_35 g_35 H locs hq hG => ?_)
        replace HW := HW r_35 h_35 g_35 hq
        refine lv_iload_n hx hb dX3_find_38 rfl (lv_at hl 1 rfl) ?_
        refine lv_icmp_gt (tgt := 68) hx hb dX3_find_39 (by decide) (fun c_39 => ?_) (fun c_39 => ?_)
        · replace HW := HW.1 c_39
          exact B68 K29 hK29 x1 x2 x3 h_35 g_35 _ _ _ HW hG (lv_sub hl [0, 1, 2, 3] rfl)
        · replace HW := HW.2 c_39
          refine lv_aload_n hx hb dX3_find_42 rfl (lv_at hl 0 rfl) ?_
          refine g_getr hx hb hw inG3 hown hK hG gl_97 rfl gk_97 (by decide) 1 (by decide) (by rw [gm_97]; decide) (r := 98) gr_97_1 lk13 dX3_find_43 ?_
          refine lv_iload_n hx hb dX3_find_46 rfl (lv_at hl 1 rfl) ?_
          have hi_47 := vp_lt HW.1
          refine g_aald hx hb hK hG gl_98 gk_98 gn_98 HW.1 (go_98 _ hi_47).1 dX3_find_47 ?_
          replace HW := HW.2
          refine lv_iload_n hx hb dX3_find_48 rfl (lv_at hl 3 rfl) ?_
          refine lv_aload_n hx hb dX3_find_49 rfl (lv_at hl 0 rfl) ?_
          refine lv_iload_n hx hb dX3_find_50 rfl (lv_at hl 3 rfl) ?_
          obtain ⟨P_51, HC_51, HW⟩ := HW
          refine g_callz (g_runV (As := [.int x3]) (rest := [.int x3, .ref (ad (99 + x1.toNatClampNeg))]) ⟨hx, hb, hml, hown, hts⟩ (m_X3_parts l D cy ad h_35 g_35 H.size x3 P_51 HC_51) (cwV 1 hts (gd_V (wm4 7 rfl rfl) (wm4 9 rfl rfl) (wmp2 (q := (yX3_parts, 6)) 3 rfl) (wm1 9 rfl rfl) (wm4 10 rfl rfl)) rfl rfl rfl (by decide +kernel) ⟨Nat.le_of_ble_eq_true rfl, Nat.le_of_ble_eq_true rfl⟩) hK hNw hG gl_97 rfl gk_97 (by decide) rfl rfl hl.1 rfl (lv_room (Nat.le_of_ble_eq_true rfl)) dX3_find_51 ⟨Nat.zero_le _, Nat.zero_le _⟩) hG (fun r_51 h_51 g_51 H locs hz hq hG => ?_)
          replace HW := HW r_51 h_51 g_51 hz hq
          refine lv_if_eq (tgt := 61) hx hb dX3_find_54 (by decide) (fun c_54 => ?_) (fun c_54 => ?_)
          · replace HW := HW.1 c_54
            refine lv_aload_n hx hb dX3_find_61 rfl (lv_at hl 0 rfl) ?_
            refine g_getr hx hb hw inG3 hown hK hG gl_97 rfl gk_97 (by decide) 2 (by decide) (by rw [gm_97]; decide) (r := 106) gr_97_2 lk16 dX3_find_62 ?_
            refine lv_iload_n hx hb dX3_find_65 rfl (lv_at hl 3 rfl) ?_
            refine g_iald hx hb hK hG gl_106 gk_106 gn_106 HW.1 dX3_find_66 ?_
            replace HW := HW.2
            exact B67 K29 hK29 x1 x2 x3 (99 + x1.toNatClampNeg) x3 (h_51 106 x3.toNatClampNeg) h_51 g_51 _ _ _ ((go_98 _ hi_47).2.1) ((go_98 _ hi_47).2.2.1) ((go_98 _ hi_47).2.2.2) HW hG (lv_sub hl [0, 1, 2, 3] rfl)
          · replace HW := HW.2 c_54
            refine lv_iconst (v := (-1)) hx hb dX3_find_57 (by decide) ?_
            refine lv_goto (tgt := 67) hx hb dX3_find_58 (by decide) ?_
            exact B67 K29 hK29 x1 x2 x3 (99 + x1.toNatClampNeg) x3 (-1 : Int32) h_51 g_51 _ _ _ ((go_98 _ hi_47).2.1) ((go_98 _ hi_47).2.2.1) ((go_98 _ hi_47).2.2.2) HW hG (lv_sub hl [0, 1, 2, 3] rfl)
  have E0 : ∀ (H : Heap) (locs : List Loc) (ls : Array Slot), gG D cy ad (gA ad s.heap.size) s.heap h g H locs → lv_has ls 5 [(0, .ref (ad 97))] → W p l e ({ frames := 3, cells := 0, slots := 0, locals := 71 } : Room) s m args below meth c H locs 0 0 (MQ below (va_Qv (fun (u : HI × HL) => Q u.1 u.2) (gB D cy ad s.heap.size) (gA ad s.heap.size)) args s 0 0 (gA ad s.heap.size)) (F0 m 0 ls []) := by
    intro H locs ls hG hl
    unfold w_X3_find at HW
    refine lv_aload_n hx hb dX3_find_0 rfl (lv_at hl 0 rfl) ?_
    obtain ⟨P_1, HC_1, HW⟩ := HW
    refine g_callv (g_runV (As := []) (rest := []) ⟨hx, hb, hml, hown, hts⟩ (m_X3_gatherSpares l D cy ad h g H.size  P_1 HC_1) (cwV 0 hts (gd_V (wm3 232 rfl rfl) (wm3 234 rfl rfl) (wmp2 (q := (yX3_gatherSpares, 6)) 2 rfl) (wm1 9 rfl rfl) (wm3 235 rfl rfl)) rfl rfl rfl (by decide +kernel) ⟨Nat.le_of_ble_eq_true rfl, Nat.le_of_ble_eq_true rfl⟩) hK hNw hG gl_97 rfl gk_97 (by decide) rfl rfl hl.1 rfl (lv_room (Nat.le_of_ble_eq_true rfl)) dX3_find_1 ⟨Nat.zero_le _, Nat.zero_le _⟩) hG (fun h_1 g_1 H locs hq hG => ?_)
    replace HW := HW h_1 g_1 hq
    refine lv_bipush (v := 6) hx hb dX3_find_4 (by decide) ?_
    refine lv_aload_n hx hb dX3_find_6 rfl (lv_at hl 0 rfl) ?_
    refine g_getr hx hb hw inG3 hown hK hG gl_97 rfl gk_97 (by decide) 0 (by decide) (by rw [gm_97]; decide) (r := 1) gr_97_0 lk26 dX3_find_7 ?_
    refine g_getr hx hb hw inG6 hown hK hG gl_1 rfl gk_1 (by decide) 5 (by decide) (by rw [gm_1]; decide) (r := 12) gr_1_5 lk33 dX3_find_10 ?_
    obtain ⟨P_13, HC_13, HW⟩ := HW
    refine g_calli (g_runV (As := []) (rest := [.int (6 : Int32)]) ⟨hx, hb, hml, hown, hts⟩ (m_X8_rows l D cy ad h_1 g_1 H.size 12 (gs_12) P_13 HC_13) (cwV 0 hts (gd_V (wm3 236 rfl rfl) (wm2 217 rfl rfl) (wm2 218 rfl rfl) (wm1 3 rfl rfl) (wm2 219 rfl rfl)) rfl rfl rfl (by decide +kernel) ⟨Nat.le_of_ble_eq_true rfl, Nat.le_of_ble_eq_true rfl⟩) hK hNw hG gl_12 rfl gk_12 (by decide) rfl rfl hl.1 rfl (lv_room (Nat.le_of_ble_eq_true rfl)) dX3_find_13 ⟨Nat.zero_le _, Nat.zero_le _⟩) hG (fun r_13 h_13 g_13 H locs hq hG => ?_)
    replace HW := HW r_13 h_13 g_13 hq
    refine va_mmin hx hb (hml.trans hl.1.symm) hown ml45 ms45 mi45 mc45 (by decide) (Nat.le_of_ble_eq_true rfl) (Nat.zero_le _) (Nat.zero_le _) dX3_find_16 ?_
    refine lv_topi (fun x1_19 ex1_19 => ?_)
    replace HW := HW x1_19 ex1_19
    refine lv_istore_n (lv' := [(1, .int x1_19), (0, .ref (ad 97))]) hx hb dX3_find_19 rfl hl (by decide) rfl (fun ls hl => ?_)
    refine lv_iconst (v := 1) hx hb dX3_find_20 (by decide) ?_
    refine lv_aload_n hx hb dX3_find_21 rfl (lv_at hl 1 rfl) ?_
    refine g_geti hx hb hw inG3 hown hK hG gl_97 rfl gk_97 (by decide) 5 (by decide) (by rw [gm_97]; decide) gr_97_5 lk51 dX3_find_22 ?_
    refine lv_ishl hx hb dX3_find_25 ?_
    refine lv_topi (fun x2_26 ex2_26 => ?_)
    replace HW := HW x2_26 ex2_26
    refine lv_istore_n (lv' := [(2, .int x2_26), (1, .int x1_19), (0, .ref (ad 97))]) hx hb dX3_find_26 rfl hl (by decide) rfl (fun ls hl => ?_)
    refine lv_iconst (v := 0) hx hb dX3_find_27 (by decide) ?_
    refine lv_istore_n (lv' := [(3, .int (0 : Int32)), (2, .int x2_26), (1, .int x1_19), (0, .ref (ad 97))]) hx hb dX3_find_28 rfl hl (by decide) rfl (fun ls hl => ?_)
    obtain ⟨n_29, HW⟩ := HW
    exact L29 n_29 x1_19 x2_26 (0 : Int32) h_13 g_13 _ _ _ HW hG (lv_sub hl [3, 2, 1, 0] rfl)
  exact E0 _ _ _ hG hl

def w_X3_mostYears  (h : HI) (g : HL) (Q : Int32 → HI → HL → Prop) : Prop :=
  (vp_in (0 : Int32) 7 ∧ (vp_in (0 : Int32) 512 ∧ Q (h (99 + (0 : Int32).toNatClampNeg) (0 : Int32).toNatClampNeg) h g))
set_option maxHeartbeats 8000000 in
set_option maxRecDepth 100000 in
theorem m_X3_mostYears (l : Launch) (D : va_G) (cy : Nat → ClassId) (ad : Nat → Nat) (h : HI) (g : HL) (sz : Nat)  (Q : Int32 → HI → HL → Prop) (HW : w_X3_mostYears h g Q) : Met l yX3_mostYears (wa yX3_mostYears cX3_mostYears 1 (some .int)) ({ frames := 0, cells := 0, slots := 0, locals := 0 }) (va_Pc [.ref (ad 97)] (gI D cy ad h g sz)) (va_Qi (fun (r : Int32) (u : HI × HL) => Q r u.1 u.2) (gB D cy ad sz) (gA ad sz)) 0 0 (gA ad sz) := by
  refine Met.ofW (cc := cX3_mostYears) (maxL := 1) (ret := (some .int)) (by decide) rfl ?_
  intro p e s m args below meth c s₁ B hml hv
  obtain ⟨hav, hsz, hP, hK, hD0, hNw⟩ := hv
  have hx := B.exec
  have hb := B.bytes
  have hr := B.returns
  have hts := atoms_spec (ws := (wa yX3_mostYears cX3_mostYears 1 (some .int))) B.pre
  have hw := wa_hw hts
  have hown : s.vm.findClass RX3 = some m.cls := findClass_of_methodNamed B.named
  have hlocks := B.notSynchronized
  subst hsz
  have hG : gG D cy ad (gA ad s.heap.size) s.heap h g s.heap [] := ⟨hP, gA_self hD0, va_S.rf⟩
  clear hP hD0
  have lk13 := hw (.fieldLink RX3 13 "OldWorks$Givings" "most" "[[I") (wm2 51 rfl rfl)
  rw [show (headSpec (wa yX3_mostYears cX3_mostYears 1 (some .int)) ({ frames := 0, cells := 0, slots := 0, locals := 0 } : Room)).room = ({ frames := 0, cells := 0, slots := 0, locals := 0 } : Room) from rfl]
  have hl := lv_entry ([.ref (ad 97)]) (n := 1) (Nat.le_of_ble_eq_true rfl)
  rw [show entryFrame m args 1 = entryFrame m ([.ref (ad 97)] : List Value).toArray 1 from by rw [hav], lg_entry_eq]
  generalize (lg_sl ([.ref (ad 97)]) ++ List.replicate (1 - (lg_sl ([.ref (ad 97)])).length) Slot.unset).toArray = ls at hl ⊢
  have hl : lv_has ls 1 [(0, .ref (ad 97))] := hl
  have E0 : ∀ (H : Heap) (locs : List Loc) (ls : Array Slot), gG D cy ad (gA ad s.heap.size) s.heap h g H locs → lv_has ls 1 [(0, .ref (ad 97))] → W p l e ({ frames := 0, cells := 0, slots := 0, locals := 0 } : Room) s m args below meth c H locs 0 0 (MQ below (va_Qi (fun (r : Int32) (u : HI × HL) => Q r u.1 u.2) (gB D cy ad s.heap.size) (gA ad s.heap.size)) args s 0 0 (gA ad s.heap.size)) (F0 m 0 ls []) := by
    intro H locs ls hG hl
    unfold w_X3_mostYears at HW
    refine lv_aload_n hx hb dX3_mostYears_0 rfl (lv_at hl 0 rfl) ?_
    refine g_getr hx hb hw inG3 hown hK hG gl_97 rfl gk_97 (by decide) 1 (by decide) (by rw [gm_97]; decide) (r := 98) gr_97_1 lk13 dX3_mostYears_1 ?_
    refine lv_iconst (v := 0) hx hb dX3_mostYears_4 (by decide) ?_
    have hi_5 := vp_lt HW.1
    refine g_aald hx hb hK hG gl_98 gk_98 gn_98 HW.1 (go_98 _ hi_5).1 dX3_mostYears_5 ?_
    replace HW := HW.2
    refine lv_iconst (v := 0) hx hb dX3_mostYears_6 (by decide) ?_
    refine g_iald hx hb hK hG ((go_98 _ hi_5).2.2.1) ((go_98 _ hi_5).2.1) ((go_98 _ hi_5).2.2.2) HW.1 dX3_mostYears_7 ?_
    replace HW := HW.2
    exact W.iret (v := (h (99 + (0 : Int32).toNatClampNeg) (0 : Int32).toNatClampNeg)) hx hb hr (fun t ht hW => ⟨⟨(h (99 + (0 : Int32).toNatClampNeg) (0 : Int32).toNatClampNeg), (h, g), rfl, HW, g_B ht hG⟩, hG.2.2.F ht⟩) hG.2.2.2.2 dX3_mostYears_8
  exact E0 _ _ _ hG hl

def j_X3_givenTo_65 (Q : Int32 → HI → HL → Prop) (K25 : Int32 → Int32 → Int32 → Int32 → HI → HL → Prop) (x1 : Int32) (x2 : Int32) (x3 : Int32) (x4 : Int32) (h : HI) (g : HL) : Prop :=
  (∀ x4_65 : Int32, x4_65 = (x4 + 1) → K25 x1 x2 x3 x4_65 h g)
def b_X3_givenTo_25 (Q : Int32 → HI → HL → Prop) (K25 : Int32 → Int32 → Int32 → Int32 → HI → HL → Prop) (x1 : Int32) (x2 : Int32) (x3 : Int32) (x4 : Int32) (h : HI) (g : HL) : Prop :=
  (((h 97 5) ≤ x4 → Q (-1 : Int32) h g) ∧ (¬ (h 97 5) ≤ x4 → ((¬ ((x3 >>> (x4 &&& 31)) &&& (1 : Int32)) = (1 : Int32) → j_X3_givenTo_65 Q K25 x1 x2 x3 x4 h g) ∧ (((x3 >>> (x4 &&& 31)) &&& (1 : Int32)) = (1 : Int32) → (∃ P_52 : Int32 → HI → HL → Prop, w_X3_after x1 (x2 ||| ((1 : Int32) <<< (x4 &&& 31))) h g P_52 ∧ ∀ (r_52 : Int32) (h_52 : HI) (g_52 : HL), P_52 r_52 h_52 g_52 → (∃ P_56 : Int32 → HI → HL → Prop, w_X3_mostYears h_52 g_52 P_56 ∧ ∀ (r_56 : Int32) (h_56 : HI) (g_56 : HL), P_56 r_56 h_56 g_56 → ((¬ r_52 = r_56 → j_X3_givenTo_65 Q K25 x1 x2 x3 x4 h_56 g_56) ∧ (r_52 = r_56 → Q x4 h_56 g_56))))))))
def F_X3_givenTo_25 (Q : Int32 → HI → HL → Prop) (K : Int32 × Int32 × Int32 × Int32 × HI × HL → Prop) (q : Int32 × Int32 × Int32 × Int32 × HI × HL) : Prop := b_X3_givenTo_25 Q (fun x1 x2 x3 x4 h g => K (x1, x2, x3, x4, h, g)) q.1 q.2.1 q.2.2.1 q.2.2.2.1 q.2.2.2.2.1 q.2.2.2.2.2
def w_X3_givenTo (x1 : Int32) (x2 : Int32) (h : HI) (g : HL) (Q : Int32 → HI → HL → Prop) : Prop :=
  (∃ P_3 : Int32 → HI → HL → Prop, w_X3_after x1 x2 h g P_3 ∧ ∀ (r_3 : Int32) (h_3 : HI) (g_3 : HL), P_3 r_3 h_3 g_3 → (∃ P_7 : Int32 → HI → HL → Prop, w_X3_mostYears h_3 g_3 P_7 ∧ ∀ (r_7 : Int32) (h_7 : HI) (g_7 : HL), P_7 r_7 h_7 g_7 → ((¬ r_3 = r_7 → (∃ P_18 : Int32 → HI → HL → Prop, w_X3_open x1 x2 h_7 g_7 P_18 ∧ ∀ (r_18 : Int32) (h_18 : HI) (g_18 : HL), P_18 r_18 h_18 g_18 → lpE (F_X3_givenTo_25 Q) (x1, x2, r_18, (0 : Int32), h_18, g_18))) ∧ (r_3 = r_7 → Q (-1 : Int32) h_7 g_7))))
set_option maxHeartbeats 8000000 in
set_option maxRecDepth 100000 in
theorem m_X3_givenTo (l : Launch) (D : va_G) (cy : Nat → ClassId) (ad : Nat → Nat) (h : HI) (g : HL) (sz : Nat) (x1 : Int32) (x2 : Int32) (Q : Int32 → HI → HL → Prop) (HW : w_X3_givenTo x1 x2 h g Q) : Met l yX3_givenTo (wa yX3_givenTo cX3_givenTo 5 (some .int)) ({ frames := 2, cells := 0, slots := 0, locals := 46 }) (va_Pc [.ref (ad 97), .int x1, .int x2] (gI D cy ad h g sz)) (va_Qi (fun (r : Int32) (u : HI × HL) => Q r u.1 u.2) (gB D cy ad sz) (gA ad sz)) 0 0 (gA ad sz) := by
  refine Met.ofW (cc := cX3_givenTo) (maxL := 5) (ret := (some .int)) (by decide) rfl ?_
  intro p e s m args below meth c s₁ B hml hv
  obtain ⟨hav, hsz, hP, hK, hD0, hNw⟩ := hv
  have hx := B.exec
  have hb := B.bytes
  have hr := B.returns
  have hts := atoms_spec (ws := (wa yX3_givenTo cX3_givenTo 5 (some .int))) B.pre
  have hw := wa_hw hts
  have hown : s.vm.findClass RX3 = some m.cls := findClass_of_methodNamed B.named
  have hlocks := B.notSynchronized
  subst hsz
  have hG : gG D cy ad (gA ad s.heap.size) s.heap h g s.heap [] := ⟨hP, gA_self hD0, va_S.rf⟩
  clear hP hD0
  have lk51 := hw (.fieldLink RX3 51 "OldWorks$Givings" "spares" "I") (wm2 55 rfl rfl)
  rw [show (headSpec (wa yX3_givenTo cX3_givenTo 5 (some .int)) ({ frames := 2, cells := 0, slots := 0, locals := 46 } : Room)).room = ({ frames := 2, cells := 0, slots := 0, locals := 46 } : Room) from rfl]
  have hl := lv_entry ([.ref (ad 97), .int x1, .int x2]) (n := 5) (Nat.le_of_ble_eq_true rfl)
  rw [show entryFrame m args 5 = entryFrame m ([.ref (ad 97), .int x1, .int x2] : List Value).toArray 5 from by rw [hav], lg_entry_eq]
  generalize (lg_sl ([.ref (ad 97), .int x1, .int x2]) ++ List.replicate (5 - (lg_sl ([.ref (ad 97), .int x1, .int x2])).length) Slot.unset).toArray = ls at hl ⊢
  have hl : lv_has ls 5 [(0, .ref (ad 97)), (1, .int x1), (2, .int x2)] := hl
  have B65 : ∀ (K25 : Int32 → Int32 → Int32 → Int32 → HI → HL → Prop) (hK25 : ∀ (x1 : Int32) (x2 : Int32) (x3 : Int32) (x4 : Int32) (h : HI) (g : HL) (H : Heap) (locs : List Loc) (ls : Array Slot), K25 x1 x2 x3 x4 h g → gG D cy ad (gA ad s.heap.size) s.heap h g H locs → lv_has ls 5 [(0, .ref (ad 97)), (1, .int x1), (2, .int x2), (3, .int x3), (4, .int x4)] → W p l e ({ frames := 2, cells := 0, slots := 0, locals := 46 } : Room) s m args below meth c H locs 0 0 (MQ below (va_Qi (fun (r : Int32) (u : HI × HL) => Q r u.1 u.2) (gB D cy ad s.heap.size) (gA ad s.heap.size)) args s 0 0 (gA ad s.heap.size)) (F0 m 25 ls [])) (x1 : Int32) (x2 : Int32) (x3 : Int32) (x4 : Int32) (h : HI) (g : HL) (H : Heap) (locs : List Loc) (ls : Array Slot), j_X3_givenTo_65 Q K25 x1 x2 x3 x4 h g → gG D cy ad (gA ad s.heap.size) s.heap h g H locs → lv_has ls 5 [(0, .ref (ad 97)), (1, .int x1), (2, .int x2), (3, .int x3), (4, .int x4)] → W p l e ({ frames := 2, cells := 0, slots := 0, locals := 46 } : Room) s m args below meth c H locs 0 0 (MQ below (va_Qi (fun (r : Int32) (u : HI × HL) => Q r u.1 u.2) (gB D cy ad s.heap.size) (gA ad s.heap.size)) args s 0 0 (gA ad s.heap.size)) (F0 m 65 ls []) := by
    intro K25 hK25 x1 x2 x3 x4 h g H locs ls HW hG hl
    unfold j_X3_givenTo_65 at HW
    obtain ⟨x4_65, ex4_65⟩ : ∃ y : Int32, y = (x4 + 1) := ⟨_, rfl⟩
    replace HW := HW x4_65 ex4_65
    refine lv_iinc (v := x4_65) (lv' := [(4, .int x4_65), (0, .ref (ad 97)), (1, .int x1), (2, .int x2), (3, .int x3)]) hx hb dX3_givenTo_65 hl (k := 4) rfl (by rw [ex4_65]; rfl) (by decide) rfl (fun ls hl => ?_)
    refine lv_goto (tgt := 25) hx hb dX3_givenTo_68 (by decide) ?_
    exact hK25 x1 x2 x3 x4_65 h g _ _ _ HW hG (lv_sub hl [1, 2, 3, 4, 0] rfl)
  have L25 : ∀ (n : Nat) (x1 : Int32) (x2 : Int32) (x3 : Int32) (x4 : Int32) (h : HI) (g : HL) (H : Heap) (locs : List Loc) (ls : Array Slot), lpN (F_X3_givenTo_25 Q) n (x1, x2, x3, x4, h, g) → gG D cy ad (gA ad s.heap.size) s.heap h g H locs → lv_has ls 5 [(0, .ref (ad 97)), (1, .int x1), (2, .int x2), (3, .int x3), (4, .int x4)] → W p l e ({ frames := 2, cells := 0, slots := 0, locals := 46 } : Room) s m args below meth c H locs 0 0 (MQ below (va_Qi (fun (r : Int32) (u : HI × HL) => Q r u.1 u.2) (gB D cy ad s.heap.size) (gA ad s.heap.size)) args s 0 0 (gA ad s.heap.size)) (F0 m 25 ls []) := by
    intro n
    induction n with
    | zero => intro x1 x2 x3 x4 h g H locs ls HW; exact HW.elim
    | succ n ih =>
      intro x1 x2 x3 x4 h g H locs ls HW hG hl
      have HW : b_X3_givenTo_25 Q (fun x1 x2 x3 x4 h g => lpN (F_X3_givenTo_25 Q) n (x1, x2, x3, x4, h, g)) x1 x2 x3 x4 h g := HW
      generalize hKe : (fun (x1 : Int32) (x2 : Int32) (x3 : Int32) (x4 : Int32) (h : HI) (g : HL) => lpN (F_X3_givenTo_25 Q) n (x1, x2, x3, x4, h, g)) = K25 at HW
      have hK25 : ∀ (x1 : Int32) (x2 : Int32) (x3 : Int32) (x4 : Int32) (h : HI) (g : HL) (H : Heap) (locs : List Loc) (ls : Array Slot), K25 x1 x2 x3 x4 h g → gG D cy ad (gA ad s.heap.size) s.heap h g H locs → lv_has ls 5 [(0, .ref (ad 97)), (1, .int x1), (2, .int x2), (3, .int x3), (4, .int x4)] → W p l e ({ frames := 2, cells := 0, slots := 0, locals := 46 } : Room) s m args below meth c H locs 0 0 (MQ below (va_Qi (fun (r : Int32) (u : HI × HL) => Q r u.1 u.2) (gB D cy ad s.heap.size) (gA ad s.heap.size)) args s 0 0 (gA ad s.heap.size)) (F0 m 25 ls []) := by subst hKe; exact ih
      clear ih
      clear hKe
      unfold b_X3_givenTo_25 at HW
      refine lv_iload hx hb dX3_givenTo_25 (lv_at hl 4 rfl) ?_
      refine lv_aload_n hx hb dX3_givenTo_27 rfl (lv_at hl 0 rfl) ?_
      refine g_geti hx hb hw inG3 hown hK hG gl_97 rfl gk_97 (by decide) 5 (by decide) (by rw [gm_97]; decide) gr_97_5 lk51 dX3_givenTo_28 ?_
      refine lv_icmp_ge (tgt := 71) hx hb dX3_givenTo_31 (by decide) (fun c_31 => ?_) (fun c_31 => ?_)
      · replace HW := HW.1 c_31
        refine lv_iconst (v := (-1)) hx hb dX3_givenTo_71 (by decide) ?_
        exact W.iret (v := (-1 : Int32)) hx hb hr (fun t ht hW => ⟨⟨(-1 : Int32), (h, g), rfl, HW, g_B ht hG⟩, hG.2.2.F ht⟩) hG.2.2.2.2 dX3_givenTo_72
      · replace HW := HW.2 c_31
        refine lv_iload_n hx hb dX3_givenTo_34 rfl (lv_at hl 3 rfl) ?_
        refine lv_iload hx hb dX3_givenTo_35 (lv_at hl 4 rfl) ?_
        refine lv_ishr hx hb dX3_givenTo_37 ?_
        refine lv_iconst (v := 1) hx hb dX3_givenTo_38 (by decide) ?_
        refine lv_iand hx hb dX3_givenTo_39 ?_
        refine lv_iconst (v := 1) hx hb dX3_givenTo_40 (by decide) ?_
        refine lv_icmp_ne (tgt := 65) hx hb dX3_givenTo_41 (by decide) (fun c_41 => ?_) (fun c_41 => ?_)
        · replace HW := HW.1 c_41
          exact B65 K25 hK25 x1 x2 x3 x4 h g _ _ _ HW hG (lv_sub hl [0, 1, 2, 3, 4] rfl)
        · replace HW := HW.2 c_41
          refine lv_aload_n hx hb dX3_givenTo_44 rfl (lv_at hl 0 rfl) ?_
          refine lv_iload_n hx hb dX3_givenTo_45 rfl (lv_at hl 1 rfl) ?_
          refine lv_iload_n hx hb dX3_givenTo_46 rfl (lv_at hl 2 rfl) ?_
          refine lv_iconst (v := 1) hx hb dX3_givenTo_47 (by decide) ?_
          refine lv_iload hx hb dX3_givenTo_48 (lv_at hl 4 rfl) ?_
          refine lv_ishl hx hb dX3_givenTo_50 ?_
          refine lv_ior hx hb dX3_givenTo_51 ?_
          obtain ⟨P_52, HC_52, HW⟩ := HW
          refine g_calli (g_runV (As := [.int x1, .int (x2 ||| ((1 : Int32) <<< (x4 &&& 31)))]) (rest := []) ⟨hx, hb, hml, hown, hts⟩ (m_X3_after l D cy ad h g H.size x1 (x2 ||| ((1 : Int32) <<< (x4 &&& 31))) P_52 HC_52) (cwV 2 hts (gd_V (wm4 15 rfl rfl) (wm4 17 rfl rfl) (wmp2 (q := (yX3_after, 6)) 5 rfl) (wm1 9 rfl rfl) (wm4 18 rfl rfl)) rfl rfl rfl (by decide +kernel) ⟨Nat.le_of_ble_eq_true rfl, Nat.le_of_ble_eq_true rfl⟩) hK hNw hG gl_97 rfl gk_97 (by decide) rfl rfl hl.1 rfl (lv_room (Nat.le_of_ble_eq_true rfl)) dX3_givenTo_52 ⟨Nat.zero_le _, Nat.zero_le _⟩) hG (fun r_52 h_52 g_52 H locs hq hG => ?_)
          replace HW := HW r_52 h_52 g_52 hq
          refine lv_aload_n hx hb dX3_givenTo_55 rfl (lv_at hl 0 rfl) ?_
          obtain ⟨P_56, HC_56, HW⟩ := HW
          refine g_calli (g_runV (As := []) (rest := [.int r_52]) ⟨hx, hb, hml, hown, hts⟩ (m_X3_mostYears l D cy ad h_52 g_52 H.size  P_56 HC_56) (cwV 0 hts (gd_V (wm4 36 rfl rfl) (wm4 25 rfl rfl) (wm4 26 rfl rfl) (wm1 9 rfl rfl) (wm4 27 rfl rfl)) rfl rfl rfl (by decide +kernel) ⟨Nat.le_of_ble_eq_true rfl, Nat.le_of_ble_eq_true rfl⟩) hK hNw hG gl_97 rfl gk_97 (by decide) rfl rfl hl.1 rfl (lv_room (Nat.le_of_ble_eq_true rfl)) dX3_givenTo_56 ⟨Nat.zero_le _, Nat.zero_le _⟩) hG (fun r_56 h_56 g_56 H locs hq hG => ?_)
          replace HW := HW r_56 h_56 g_56 hq
          refine lv_icmp_ne (tgt := 65) hx hb dX3_givenTo_59 (by decide) (fun c_59 => ?_) (fun c_59 => ?_)
          · replace HW := HW.1 c_59
            exact B65 K25 hK25 x1 x2 x3 x4 h_56 g_56 _ _ _ HW hG (lv_sub hl [0, 1, 2, 3, 4] rfl)
          · replace HW := HW.2 c_59
            refine lv_iload hx hb dX3_givenTo_62 (lv_at hl 4 rfl) ?_
            exact W.iret (v := x4) hx hb hr (fun t ht hW => ⟨⟨x4, (h_56, g_56), rfl, HW, g_B ht hG⟩, hG.2.2.F ht⟩) hG.2.2.2.2 dX3_givenTo_64
  have E0 : ∀ (H : Heap) (locs : List Loc) (ls : Array Slot), gG D cy ad (gA ad s.heap.size) s.heap h g H locs → lv_has ls 5 [(0, .ref (ad 97)), (1, .int x1), (2, .int x2)] → W p l e ({ frames := 2, cells := 0, slots := 0, locals := 46 } : Room) s m args below meth c H locs 0 0 (MQ below (va_Qi (fun (r : Int32) (u : HI × HL) => Q r u.1 u.2) (gB D cy ad s.heap.size) (gA ad s.heap.size)) args s 0 0 (gA ad s.heap.size)) (F0 m 0 ls []) := by
    intro H locs ls hG hl
    unfold w_X3_givenTo at HW
    refine lv_aload_n hx hb dX3_givenTo_0 rfl (lv_at hl 0 rfl) ?_
    refine lv_iload_n hx hb dX3_givenTo_1 rfl (lv_at hl 1 rfl) ?_
    refine lv_iload_n hx hb dX3_givenTo_2 rfl (lv_at hl 2 rfl) ?_
    obtain ⟨P_3, HC_3, HW⟩ := HW
    refine g_calli (g_runV (As := [.int x1, .int x2]) (rest := []) ⟨hx, hb, hml, hown, hts⟩ (m_X3_after l D cy ad h g H.size x1 x2 P_3 HC_3) (cwV 2 hts (gd_V (wm4 15 rfl rfl) (wm4 17 rfl rfl) (wmp2 (q := (yX3_after, 6)) 5 rfl) (wm1 9 rfl rfl) (wm4 18 rfl rfl)) rfl rfl rfl (by decide +kernel) ⟨Nat.le_of_ble_eq_true rfl, Nat.le_of_ble_eq_true rfl⟩) hK hNw hG gl_97 rfl gk_97 (by decide) rfl rfl hl.1 rfl (lv_room (Nat.le_of_ble_eq_true rfl)) dX3_givenTo_3 ⟨Nat.zero_le _, Nat.zero_le _⟩) hG (fun r_3 h_3 g_3 H locs hq hG => ?_)
    replace HW := HW r_3 h_3 g_3 hq
    refine lv_aload_n hx hb dX3_givenTo_6 rfl (lv_at hl 0 rfl) ?_
    obtain ⟨P_7, HC_7, HW⟩ := HW
    refine g_calli (g_runV (As := []) (rest := [.int r_3]) ⟨hx, hb, hml, hown, hts⟩ (m_X3_mostYears l D cy ad h_3 g_3 H.size  P_7 HC_7) (cwV 0 hts (gd_V (wm4 36 rfl rfl) (wm4 25 rfl rfl) (wm4 26 rfl rfl) (wm1 9 rfl rfl) (wm4 27 rfl rfl)) rfl rfl rfl (by decide +kernel) ⟨Nat.le_of_ble_eq_true rfl, Nat.le_of_ble_eq_true rfl⟩) hK hNw hG gl_97 rfl gk_97 (by decide) rfl rfl hl.1 rfl (lv_room (Nat.le_of_ble_eq_true rfl)) dX3_givenTo_7 ⟨Nat.zero_le _, Nat.zero_le _⟩) hG (fun r_7 h_7 g_7 H locs hq hG => ?_)
    replace HW := HW r_7 h_7 g_7 hq
    refine lv_icmp_ne (tgt := 15) hx hb dX3_givenTo_10 (by decide) (fun c_10 => ?_) (fun c_10 => ?_)
    · replace HW := HW.1 c_10
      refine lv_aload_n hx hb dX3_givenTo_15 rfl (lv_at hl 0 rfl) ?_
      refine lv_iload_n hx hb dX3_givenTo_16 rfl (lv_at hl 1 rfl) ?_
      refine lv_iload_n hx hb dX3_givenTo_17 rfl (lv_at hl 2 rfl) ?_
      obtain ⟨P_18, HC_18, HW⟩ := HW
      refine g_calli (g_runV (As := [.int x1, .int x2]) (rest := []) ⟨hx, hb, hml, hown, hts⟩ (m_X3_open l D cy ad h_7 g_7 H.size x1 x2 P_18 HC_18) (cwV 2 hts (gd_V (wm4 19 rfl rfl) (wm4 21 rfl rfl) (wmp2 (q := (yX3_open, 6)) 6 rfl) (wm1 9 rfl rfl) (wm4 22 rfl rfl)) rfl rfl rfl (by decide +kernel) ⟨Nat.le_of_ble_eq_true rfl, Nat.le_of_ble_eq_true rfl⟩) hK hNw hG gl_97 rfl gk_97 (by decide) rfl rfl hl.1 rfl (lv_room (Nat.le_of_ble_eq_true rfl)) dX3_givenTo_18 ⟨Nat.zero_le _, Nat.zero_le _⟩) hG (fun r_18 h_18 g_18 H locs hq hG => ?_)
      replace HW := HW r_18 h_18 g_18 hq
      refine lv_istore_n (lv' := [(3, .int r_18), (0, .ref (ad 97)), (1, .int x1), (2, .int x2)]) hx hb dX3_givenTo_21 rfl hl (by decide) rfl (fun ls hl => ?_)
      refine lv_iconst (v := 0) hx hb dX3_givenTo_22 (by decide) ?_
      refine lv_istore (lv' := [(4, .int (0 : Int32)), (3, .int r_18), (0, .ref (ad 97)), (1, .int x1), (2, .int x2)]) hx hb dX3_givenTo_23 hl (by decide) rfl (fun ls hl => ?_)
      obtain ⟨n_25, HW⟩ := HW
      exact L25 n_25 x1 x2 r_18 (0 : Int32) h_18 g_18 _ _ _ HW hG (lv_sub hl [2, 3, 4, 1, 0] rfl)
    · replace HW := HW.2 c_10
      refine lv_iconst (v := (-1)) hx hb dX3_givenTo_13 (by decide) ?_
      exact W.iret (v := (-1 : Int32)) hx hb hr (fun t ht hW => ⟨⟨(-1 : Int32), (h_7, g_7), rfl, HW, g_B ht hG⟩, hG.2.2.F ht⟩) hG.2.2.2.2 dX3_givenTo_14
  exact E0 _ _ _ hG hl

def j_X3_spareOf_47 (Q : Int32 → HI → HL → Prop) (K4 : Int32 → Int32 → Int32 → HI → HL → Prop) (x1 : Int32) (x2 : Int32) (x3 : Int32) (h : HI) (g : HL) : Prop :=
  (∀ x3_47 : Int32, x3_47 = (x3 + 1) → K4 x1 x2 x3_47 h g)
def b_X3_spareOf_4 (Q : Int32 → HI → HL → Prop) (K4 : Int32 → Int32 → Int32 → HI → HL → Prop) (x1 : Int32) (x2 : Int32) (x3 : Int32) (h : HI) (g : HL) : Prop :=
  (∃ P_12 : Int32 → HI → HL → Prop, w_X8_rows 12 h g P_12 ∧ ∀ (r_12 : Int32) (h_12 : HI) (g_12 : HL), P_12 r_12 h_12 g_12 → ((r_12 ≤ x3 → Q (-1 : Int32) h_12 g_12) ∧ (¬ r_12 ≤ x3 → (∃ P_21 : Int32 → HI → HL → Prop, w_X3_givenTo x3 x2 h_12 g_12 P_21 ∧ ∀ (r_21 : Int32) (h_21 : HI) (g_21 : HL), P_21 r_21 h_21 g_21 → ((¬ x3 = x1 → ((r_21 = (-1 : Int32) → j_X3_spareOf_47 Q K4 x1 x2 x3 h_21 g_21) ∧ (¬ r_21 = (-1 : Int32) → (∀ x2_46 : Int32, x2_46 = (x2 ||| ((1 : Int32) <<< (r_21 &&& 31))) → j_X3_spareOf_47 Q K4 x1 x2_46 x3 h_21 g_21)))) ∧ (x3 = x1 → Q r_21 h_21 g_21))))))
def F_X3_spareOf_4 (Q : Int32 → HI → HL → Prop) (K : Int32 × Int32 × Int32 × HI × HL → Prop) (q : Int32 × Int32 × Int32 × HI × HL) : Prop := b_X3_spareOf_4 Q (fun x1 x2 x3 h g => K (x1, x2, x3, h, g)) q.1 q.2.1 q.2.2.1 q.2.2.2.1 q.2.2.2.2
def w_X3_spareOf (x1 : Int32) (h : HI) (g : HL) (Q : Int32 → HI → HL → Prop) : Prop :=
  lpE (F_X3_spareOf_4 Q) (x1, (0 : Int32), (0 : Int32), h, g)
set_option maxHeartbeats 8000000 in
set_option maxRecDepth 100000 in
theorem m_X3_spareOf (l : Launch) (D : va_G) (cy : Nat → ClassId) (ad : Nat → Nat) (h : HI) (g : HL) (sz : Nat) (x1 : Int32) (Q : Int32 → HI → HL → Prop) (HW : w_X3_spareOf x1 h g Q) : Met l yX3_spareOf (wa yX3_spareOf cX3_spareOf 5 (some .int)) ({ frames := 3, cells := 0, slots := 0, locals := 70 }) (va_Pc [.ref (ad 97), .int x1] (gI D cy ad h g sz)) (va_Qi (fun (r : Int32) (u : HI × HL) => Q r u.1 u.2) (gB D cy ad sz) (gA ad sz)) 0 0 (gA ad sz) := by
  refine Met.ofW (cc := cX3_spareOf) (maxL := 5) (ret := (some .int)) (by decide) rfl ?_
  intro p e s m args below meth c s₁ B hml hv
  obtain ⟨hav, hsz, hP, hK, hD0, hNw⟩ := hv
  have hx := B.exec
  have hb := B.bytes
  have hr := B.returns
  have hts := atoms_spec (ws := (wa yX3_spareOf cX3_spareOf 5 (some .int))) B.pre
  have hw := wa_hw hts
  have hown : s.vm.findClass RX3 = some m.cls := findClass_of_methodNamed B.named
  have hlocks := B.notSynchronized
  subst hsz
  have hG : gG D cy ad (gA ad s.heap.size) s.heap h g s.heap [] := ⟨hP, gA_self hD0, va_S.rf⟩
  clear hP hD0
  have lk26 := hw (.fieldLink RX3 26 "OldWorks$Givings" "shop" "LOldWorks$Shop;") (wm2 50 rfl rfl)
  have lk33 := hw (.fieldLink RX3 33 "OldWorks$Shop" "machines" "LOldWorks$Table;") (wm1 78 rfl rfl)
  rw [show (headSpec (wa yX3_spareOf cX3_spareOf 5 (some .int)) ({ frames := 3, cells := 0, slots := 0, locals := 70 } : Room)).room = ({ frames := 3, cells := 0, slots := 0, locals := 70 } : Room) from rfl]
  have hl := lv_entry ([.ref (ad 97), .int x1]) (n := 5) (Nat.le_of_ble_eq_true rfl)
  rw [show entryFrame m args 5 = entryFrame m ([.ref (ad 97), .int x1] : List Value).toArray 5 from by rw [hav], lg_entry_eq]
  generalize (lg_sl ([.ref (ad 97), .int x1]) ++ List.replicate (5 - (lg_sl ([.ref (ad 97), .int x1])).length) Slot.unset).toArray = ls at hl ⊢
  have hl : lv_has ls 5 [(0, .ref (ad 97)), (1, .int x1)] := hl
  have B47 : ∀ (K4 : Int32 → Int32 → Int32 → HI → HL → Prop) (hK4 : ∀ (x1 : Int32) (x2 : Int32) (x3 : Int32) (h : HI) (g : HL) (H : Heap) (locs : List Loc) (ls : Array Slot), K4 x1 x2 x3 h g → gG D cy ad (gA ad s.heap.size) s.heap h g H locs → lv_has ls 5 [(0, .ref (ad 97)), (1, .int x1), (2, .int x2), (3, .int x3)] → W p l e ({ frames := 3, cells := 0, slots := 0, locals := 70 } : Room) s m args below meth c H locs 0 0 (MQ below (va_Qi (fun (r : Int32) (u : HI × HL) => Q r u.1 u.2) (gB D cy ad s.heap.size) (gA ad s.heap.size)) args s 0 0 (gA ad s.heap.size)) (F0 m 4 ls [])) (x1 : Int32) (x2 : Int32) (x3 : Int32) (h : HI) (g : HL) (H : Heap) (locs : List Loc) (ls : Array Slot), j_X3_spareOf_47 Q K4 x1 x2 x3 h g → gG D cy ad (gA ad s.heap.size) s.heap h g H locs → lv_has ls 5 [(0, .ref (ad 97)), (1, .int x1), (2, .int x2), (3, .int x3)] → W p l e ({ frames := 3, cells := 0, slots := 0, locals := 70 } : Room) s m args below meth c H locs 0 0 (MQ below (va_Qi (fun (r : Int32) (u : HI × HL) => Q r u.1 u.2) (gB D cy ad s.heap.size) (gA ad s.heap.size)) args s 0 0 (gA ad s.heap.size)) (F0 m 47 ls []) := by
    intro K4 hK4 x1 x2 x3 h g H locs ls HW hG hl
    unfold j_X3_spareOf_47 at HW
    obtain ⟨x3_47, ex3_47⟩ : ∃ y : Int32, y = (x3 + 1) := ⟨_, rfl⟩
    replace HW := HW x3_47 ex3_47
    refine lv_iinc (v := x3_47) (lv' := [(3, .int x3_47), (0, .ref (ad 97)), (1, .int x1), (2, .int x2)]) hx hb dX3_spareOf_47 hl (k := 3) rfl (by rw [ex3_47]; rfl) (by decide) rfl (fun ls hl => ?_)
    refine lv_goto (tgt := 4) hx hb dX3_spareOf_50 (by decide) ?_
    exact hK4 x1 x2 x3_47 h g _ _ _ HW hG (lv_sub hl [1, 2, 3, 0] rfl)
  have L4 : ∀ (n : Nat) (x1 : Int32) (x2 : Int32) (x3 : Int32) (h : HI) (g : HL) (H : Heap) (locs : List Loc) (ls : Array Slot), lpN (F_X3_spareOf_4 Q) n (x1, x2, x3, h, g) → gG D cy ad (gA ad s.heap.size) s.heap h g H locs → lv_has ls 5 [(0, .ref (ad 97)), (1, .int x1), (2, .int x2), (3, .int x3)] → W p l e ({ frames := 3, cells := 0, slots := 0, locals := 70 } : Room) s m args below meth c H locs 0 0 (MQ below (va_Qi (fun (r : Int32) (u : HI × HL) => Q r u.1 u.2) (gB D cy ad s.heap.size) (gA ad s.heap.size)) args s 0 0 (gA ad s.heap.size)) (F0 m 4 ls []) := by
    intro n
    induction n with
    | zero => intro x1 x2 x3 h g H locs ls HW; exact HW.elim
    | succ n ih =>
      intro x1 x2 x3 h g H locs ls HW hG hl
      have HW : b_X3_spareOf_4 Q (fun x1 x2 x3 h g => lpN (F_X3_spareOf_4 Q) n (x1, x2, x3, h, g)) x1 x2 x3 h g := HW
      generalize hKe : (fun (x1 : Int32) (x2 : Int32) (x3 : Int32) (h : HI) (g : HL) => lpN (F_X3_spareOf_4 Q) n (x1, x2, x3, h, g)) = K4 at HW
      have hK4 : ∀ (x1 : Int32) (x2 : Int32) (x3 : Int32) (h : HI) (g : HL) (H : Heap) (locs : List Loc) (ls : Array Slot), K4 x1 x2 x3 h g → gG D cy ad (gA ad s.heap.size) s.heap h g H locs → lv_has ls 5 [(0, .ref (ad 97)), (1, .int x1), (2, .int x2), (3, .int x3)] → W p l e ({ frames := 3, cells := 0, slots := 0, locals := 70 } : Room) s m args below meth c H locs 0 0 (MQ below (va_Qi (fun (r : Int32) (u : HI × HL) => Q r u.1 u.2) (gB D cy ad s.heap.size) (gA ad s.heap.size)) args s 0 0 (gA ad s.heap.size)) (F0 m 4 ls []) := by subst hKe; exact ih
      clear ih
      clear hKe
      unfold b_X3_spareOf_4 at HW
      refine lv_iload_n hx hb dX3_spareOf_4 rfl (lv_at hl 3 rfl) ?_
      refine lv_aload_n hx hb dX3_spareOf_5 rfl (lv_at hl 0 rfl) ?_
      refine g_getr hx hb hw inG3 hown hK hG gl_97 rfl gk_97 (by decide) 0 (by decide) (by rw [gm_97]; decide) (r := 1) gr_97_0 lk26 dX3_spareOf_6 ?_
      refine g_getr hx hb hw inG6 hown hK hG gl_1 rfl gk_1 (by decide) 5 (by decide) (by rw [gm_1]; decide) (r := 12) gr_1_5 lk33 dX3_spareOf_9 ?_
      obtain ⟨P_12, HC_12, HW⟩ := HW
      refine g_calli (g_runV (As := []) (rest := [.int x3]) ⟨hx, hb, hml, hown, hts⟩ (m_X8_rows l D cy ad h g H.size 12 (gs_12) P_12 HC_12) (cwV 0 hts (gd_V (wm3 236 rfl rfl) (wm2 217 rfl rfl) (wm2 218 rfl rfl) (wm1 3 rfl rfl) (wm2 219 rfl rfl)) rfl rfl rfl (by decide +kernel) ⟨Nat.le_of_ble_eq_true rfl, Nat.le_of_ble_eq_true rfl⟩) hK hNw hG gl_12 rfl gk_12 (by decide) rfl rfl hl.1 rfl (lv_room (Nat.le_of_ble_eq_true rfl)) dX3_spareOf_12 ⟨Nat.zero_le _, Nat.zero_le _⟩) hG (fun r_12 h_12 g_12 H locs hq hG => ?_)
      replace HW := HW r_12 h_12 g_12 hq
      refine lv_icmp_ge (tgt := 53) hx hb dX3_spareOf_15 (by decide) (fun c_15 => ?_) (fun c_15 => ?_)
      · replace HW := HW.1 c_15
        refine lv_iconst (v := (-1)) hx hb dX3_spareOf_53 (by decide) ?_
        exact W.iret (v := (-1 : Int32)) hx hb hr (fun t ht hW => ⟨⟨(-1 : Int32), (h_12, g_12), rfl, HW, g_B ht hG⟩, hG.2.2.F ht⟩) hG.2.2.2.2 dX3_spareOf_54
      · replace HW := HW.2 c_15
        refine lv_aload_n hx hb dX3_spareOf_18 rfl (lv_at hl 0 rfl) ?_
        refine lv_iload_n hx hb dX3_spareOf_19 rfl (lv_at hl 3 rfl) ?_
        refine lv_iload_n hx hb dX3_spareOf_20 rfl (lv_at hl 2 rfl) ?_
        obtain ⟨P_21, HC_21, HW⟩ := HW
        refine g_calli (g_runV (As := [.int x3, .int x2]) (rest := []) ⟨hx, hb, hml, hown, hts⟩ (m_X3_givenTo l D cy ad h_12 g_12 H.size x3 x2 P_21 HC_21) (cwV 2 hts (gd_V (wm4 32 rfl rfl) (wm4 34 rfl rfl) (wmp2 (q := (yX3_givenTo, 6)) 7 rfl) (wm1 9 rfl rfl) (wm4 35 rfl rfl)) rfl rfl rfl (by decide +kernel) ⟨Nat.le_of_ble_eq_true rfl, Nat.le_of_ble_eq_true rfl⟩) hK hNw hG gl_97 rfl gk_97 (by decide) rfl rfl hl.1 rfl (lv_room (Nat.le_of_ble_eq_true rfl)) dX3_spareOf_21 ⟨Nat.zero_le _, Nat.zero_le _⟩) hG (fun r_21 h_21 g_21 H locs hq hG => ?_)
        replace HW := HW r_21 h_21 g_21 hq
        refine lv_istore (lv' := [(4, .int r_21), (0, .ref (ad 97)), (1, .int x1), (2, .int x2), (3, .int x3)]) hx hb dX3_spareOf_24 hl (by decide) rfl (fun ls hl => ?_)
        refine lv_iload_n hx hb dX3_spareOf_26 rfl (lv_at hl 4 rfl) ?_
        refine lv_iload_n hx hb dX3_spareOf_27 rfl (lv_at hl 2 rfl) ?_
        refine lv_icmp_ne (tgt := 34) hx hb dX3_spareOf_28 (by decide) (fun c_28 => ?_) (fun c_28 => ?_)
        · replace HW := HW.1 c_28
          refine lv_iload hx hb dX3_spareOf_34 (lv_at hl 0 rfl) ?_
          refine lv_iconst (v := (-1)) hx hb dX3_spareOf_36 (by decide) ?_
          refine lv_icmp_eq (tgt := 47) hx hb dX3_spareOf_37 (by decide) (fun c_37 => ?_) (fun c_37 => ?_)
          · replace HW := HW.1 c_37
            exact B47 K4 hK4 x1 x2 x3 h_21 g_21 _ _ _ HW hG (lv_sub hl [1, 2, 3, 4] rfl)
          · replace HW := HW.2 c_37
            refine lv_iload_n hx hb dX3_spareOf_40 rfl (lv_at hl 3 rfl) ?_
            refine lv_iconst (v := 1) hx hb dX3_spareOf_41 (by decide) ?_
            refine lv_iload hx hb dX3_spareOf_42 (lv_at hl 0 rfl) ?_
            refine lv_ishl hx hb dX3_spareOf_44 ?_
            refine lv_ior hx hb dX3_spareOf_45 ?_
            refine lv_topi (fun x2_46 ex2_46 => ?_)
            replace HW := HW x2_46 ex2_46
            refine lv_istore_n (lv' := [(2, .int x2_46), (4, .int r_21), (0, .ref (ad 97)), (1, .int x1), (3, .int x3)]) hx hb dX3_spareOf_46 rfl hl (by decide) rfl (fun ls hl => ?_)
            exact B47 K4 hK4 x1 x2_46 x3 h_21 g_21 _ _ _ HW hG (lv_sub hl [2, 3, 0, 4] rfl)
        · replace HW := HW.2 c_28
          refine lv_iload hx hb dX3_spareOf_31 (lv_at hl 0 rfl) ?_
          exact W.iret (v := r_21) hx hb hr (fun t ht hW => ⟨⟨r_21, (h_21, g_21), rfl, HW, g_B ht hG⟩, hG.2.2.F ht⟩) hG.2.2.2.2 dX3_spareOf_33
  have E0 : ∀ (H : Heap) (locs : List Loc) (ls : Array Slot), gG D cy ad (gA ad s.heap.size) s.heap h g H locs → lv_has ls 5 [(0, .ref (ad 97)), (1, .int x1)] → W p l e ({ frames := 3, cells := 0, slots := 0, locals := 70 } : Room) s m args below meth c H locs 0 0 (MQ below (va_Qi (fun (r : Int32) (u : HI × HL) => Q r u.1 u.2) (gB D cy ad s.heap.size) (gA ad s.heap.size)) args s 0 0 (gA ad s.heap.size)) (F0 m 0 ls []) := by
    intro H locs ls hG hl
    unfold w_X3_spareOf at HW
    refine lv_iconst (v := 0) hx hb dX3_spareOf_0 (by decide) ?_
    refine lv_istore_n (lv' := [(2, .int (0 : Int32)), (0, .ref (ad 97)), (1, .int x1)]) hx hb dX3_spareOf_1 rfl hl (by decide) rfl (fun ls hl => ?_)
    refine lv_iconst (v := 0) hx hb dX3_spareOf_2 (by decide) ?_
    refine lv_istore_n (lv' := [(3, .int (0 : Int32)), (2, .int (0 : Int32)), (0, .ref (ad 97)), (1, .int x1)]) hx hb dX3_spareOf_3 rfl hl (by decide) rfl (fun ls hl => ?_)
    obtain ⟨n_4, HW⟩ := HW
    exact L4 n_4 x1 (0 : Int32) (0 : Int32) h g _ _ _ HW hG (lv_sub hl [2, 3, 1, 0] rfl)
  exact E0 _ _ _ hG hl

def w_X4_flaw  (h : HI) (g : HL) (Q : Int32 → HI → HL → Prop) : Prop :=
  Q (h 77 9) h g
set_option maxHeartbeats 8000000 in
set_option maxRecDepth 100000 in
theorem m_X4_flaw (l : Launch) (D : va_G) (cy : Nat → ClassId) (ad : Nat → Nat) (h : HI) (g : HL) (sz : Nat)  (Q : Int32 → HI → HL → Prop) (HW : w_X4_flaw h g Q) : Met l yX4_flaw (wa yX4_flaw cX4_flaw 1 (some .int)) ({ frames := 0, cells := 0, slots := 0, locals := 0 }) (va_Pc [.ref (ad 77)] (gI D cy ad h g sz)) (va_Qi (fun (r : Int32) (u : HI × HL) => Q r u.1 u.2) (gB D cy ad sz) (gA ad sz)) 0 0 (gA ad sz) := by
  refine Met.ofW (cc := cX4_flaw) (maxL := 1) (ret := (some .int)) (by decide) rfl ?_
  intro p e s m args below meth c s₁ B hml hv
  obtain ⟨hav, hsz, hP, hK, hD0, hNw⟩ := hv
  have hx := B.exec
  have hb := B.bytes
  have hr := B.returns
  have hts := atoms_spec (ws := (wa yX4_flaw cX4_flaw 1 (some .int))) B.pre
  have hw := wa_hw hts
  have hown : s.vm.findClass RX4 = some m.cls := findClass_of_methodNamed B.named
  have hlocks := B.notSynchronized
  subst hsz
  have hG : gG D cy ad (gA ad s.heap.size) s.heap h g s.heap [] := ⟨hP, gA_self hD0, va_S.rf⟩
  clear hP hD0
  have lk26 := hw (.fieldLink RX4 26 "OldWorks$Law" "flaw" "I") (wm1 138 rfl rfl)
  rw [show (headSpec (wa yX4_flaw cX4_flaw 1 (some .int)) ({ frames := 0, cells := 0, slots := 0, locals := 0 } : Room)).room = ({ frames := 0, cells := 0, slots := 0, locals := 0 } : Room) from rfl]
  have hl := lv_entry ([.ref (ad 77)]) (n := 1) (Nat.le_of_ble_eq_true rfl)
  rw [show entryFrame m args 1 = entryFrame m ([.ref (ad 77)] : List Value).toArray 1 from by rw [hav], lg_entry_eq]
  generalize (lg_sl ([.ref (ad 77)]) ++ List.replicate (1 - (lg_sl ([.ref (ad 77)])).length) Slot.unset).toArray = ls at hl ⊢
  have hl : lv_has ls 1 [(0, .ref (ad 77))] := hl
  have E0 : ∀ (H : Heap) (locs : List Loc) (ls : Array Slot), gG D cy ad (gA ad s.heap.size) s.heap h g H locs → lv_has ls 1 [(0, .ref (ad 77))] → W p l e ({ frames := 0, cells := 0, slots := 0, locals := 0 } : Room) s m args below meth c H locs 0 0 (MQ below (va_Qi (fun (r : Int32) (u : HI × HL) => Q r u.1 u.2) (gB D cy ad s.heap.size) (gA ad s.heap.size)) args s 0 0 (gA ad s.heap.size)) (F0 m 0 ls []) := by
    intro H locs ls hG hl
    unfold w_X4_flaw at HW
    refine lv_aload_n hx hb dX4_flaw_0 rfl (lv_at hl 0 rfl) ?_
    refine g_geti hx hb hw inG4 hown hK hG gl_77 rfl gk_77 (by decide) 9 (by decide) (by rw [gm_77]; decide) gr_77_9 lk26 dX4_flaw_1 ?_
    exact W.iret (v := (h 77 9)) hx hb hr (fun t ht hW => ⟨⟨(h 77 9), (h, g), rfl, HW, g_B ht hG⟩, hG.2.2.F ht⟩) hG.2.2.2.2 dX4_flaw_4
  exact E0 _ _ _ hG hl

def w_X4_put (x1 : Int32) (h : HI) (g : HL) (Q : HI → HL → Prop) : Prop :=
  (((h 77 4) < 0 → Q h g) ∧ (¬ (h 77 4) < 0 → (((60 : Int32) ≤ (h 77 4) → Q h g) ∧ (¬ (60 : Int32) ≤ (h 77 4) → (vp_in (h 77 4) 60 ∧ ∀ h_28 : HI, h_28 = hu h 78 (h 77 4).toNatClampNeg x1 → (∀ h_36 : HI, h_36 = hu h_28 77 4 ((h_28 77 4) + (1 : Int32)) → Q h_36 g))))))
set_option maxHeartbeats 8000000 in
set_option maxRecDepth 100000 in
theorem m_X4_put (l : Launch) (D : va_G) (cy : Nat → ClassId) (ad : Nat → Nat) (h : HI) (g : HL) (sz : Nat) (x1 : Int32) (Q : HI → HL → Prop) (HW : w_X4_put x1 h g Q) : Met l yX4_put (wa yX4_put cX4_put 2 none) ({ frames := 0, cells := 0, slots := 0, locals := 0 }) (va_Pc [.ref (ad 77), .int x1] (gI D cy ad h g sz)) (va_Qv (fun (u : HI × HL) => Q u.1 u.2) (gB D cy ad sz) (gA ad sz)) 0 0 (gA ad sz) := by
  refine Met.ofW (cc := cX4_put) (maxL := 2) (ret := none) (by decide) rfl ?_
  intro p e s m args below meth c s₁ B hml hv
  obtain ⟨hav, hsz, hP, hK, hD0, hNw⟩ := hv
  have hx := B.exec
  have hb := B.bytes
  have hr := B.returns
  have hts := atoms_spec (ws := (wa yX4_put cX4_put 2 none)) B.pre
  have hw := wa_hw hts
  have hown : s.vm.findClass RX4 = some m.cls := findClass_of_methodNamed B.named
  have hlocks := B.notSynchronized
  subst hsz
  have hG : gG D cy ad (gA ad s.heap.size) s.heap h g s.heap [] := ⟨hP, gA_self hD0, va_S.rf⟩
  clear hP hD0
  have lk30 := hw (.fieldLink RX4 30 "OldWorks$Law" "written" "I") (wm1 133 rfl rfl)
  have lk11 := hw (.fieldLink RX4 11 "OldWorks$Law" "steps" "[I") (wm1 130 rfl rfl)
  rw [show (headSpec (wa yX4_put cX4_put 2 none) ({ frames := 0, cells := 0, slots := 0, locals := 0 } : Room)).room = ({ frames := 0, cells := 0, slots := 0, locals := 0 } : Room) from rfl]
  have hl := lv_entry ([.ref (ad 77), .int x1]) (n := 2) (Nat.le_of_ble_eq_true rfl)
  rw [show entryFrame m args 2 = entryFrame m ([.ref (ad 77), .int x1] : List Value).toArray 2 from by rw [hav], lg_entry_eq]
  generalize (lg_sl ([.ref (ad 77), .int x1]) ++ List.replicate (2 - (lg_sl ([.ref (ad 77), .int x1])).length) Slot.unset).toArray = ls at hl ⊢
  have hl : lv_has ls 2 [(0, .ref (ad 77)), (1, .int x1)] := hl
  have E0 : ∀ (H : Heap) (locs : List Loc) (ls : Array Slot), gG D cy ad (gA ad s.heap.size) s.heap h g H locs → lv_has ls 2 [(0, .ref (ad 77)), (1, .int x1)] → W p l e ({ frames := 0, cells := 0, slots := 0, locals := 0 } : Room) s m args below meth c H locs 0 0 (MQ below (va_Qv (fun (u : HI × HL) => Q u.1 u.2) (gB D cy ad s.heap.size) (gA ad s.heap.size)) args s 0 0 (gA ad s.heap.size)) (F0 m 0 ls []) := by
    intro H locs ls hG hl
    unfold w_X4_put at HW
    refine lv_aload_n hx hb dX4_put_0 rfl (lv_at hl 0 rfl) ?_
    refine g_geti hx hb hw inG4 hown hK hG gl_77 rfl gk_77 (by decide) 4 (by decide) (by rw [gm_77]; decide) gr_77_4 lk30 dX4_put_1 ?_
    refine lv_if_lt (tgt := 39) hx hb dX4_put_4 (by decide) (fun c_4 => ?_) (fun c_4 => ?_)
    · replace HW := HW.1 c_4
      exact W.vret hx hb hr (fun t ht hW => ⟨⟨(h, g), rfl, HW, g_B ht hG⟩, hG.2.2.F ht⟩) hG.2.2.2.2 dX4_put_39
    · replace HW := HW.2 c_4
      refine lv_aload_n hx hb dX4_put_7 rfl (lv_at hl 0 rfl) ?_
      refine g_geti hx hb hw inG4 hown hK hG gl_77 rfl gk_77 (by decide) 4 (by decide) (by rw [gm_77]; decide) gr_77_4 lk30 dX4_put_8 ?_
      refine lv_aload_n hx hb dX4_put_11 rfl (lv_at hl 0 rfl) ?_
      refine g_getr hx hb hw inG4 hown hK hG gl_77 rfl gk_77 (by decide) 1 (by decide) (by rw [gm_77]; decide) (r := 78) gr_77_1 lk11 dX4_put_12 ?_
      refine g_alen hx hb hK hG gl_78 gk_78 (v := (60 : Int32)) (by rw [gn_78]; decide) dX4_put_15 ?_
      refine lv_icmp_ge (tgt := 39) hx hb dX4_put_16 (by decide) (fun c_16 => ?_) (fun c_16 => ?_)
      · replace HW := HW.1 c_16
        exact W.vret hx hb hr (fun t ht hW => ⟨⟨(h, g), rfl, HW, g_B ht hG⟩, hG.2.2.F ht⟩) hG.2.2.2.2 dX4_put_39
      · replace HW := HW.2 c_16
        refine lv_aload_n hx hb dX4_put_19 rfl (lv_at hl 0 rfl) ?_
        refine g_getr hx hb hw inG4 hown hK hG gl_77 rfl gk_77 (by decide) 1 (by decide) (by rw [gm_77]; decide) (r := 78) gr_77_1 lk11 dX4_put_20 ?_
        refine lv_aload_n hx hb dX4_put_23 rfl (lv_at hl 0 rfl) ?_
        refine g_geti hx hb hw inG4 hown hK hG gl_77 rfl gk_77 (by decide) 4 (by decide) (by rw [gm_77]; decide) gr_77_4 lk30 dX4_put_24 ?_
        refine lv_iload_n hx hb dX4_put_27 rfl (lv_at hl 1 rfl) ?_
        refine g_iast hx hb hK hG gl_78 gk_78 gn_78 HW.1 dX4_put_28 (fun H locs hG => ?_)
        replace HW := HW.2
        obtain ⟨h_28, eh_28⟩ : ∃ y : HI, y = hu h 78 (h 77 4).toNatClampNeg x1 := ⟨_, rfl⟩
        rw [← eh_28] at hG
        replace HW := HW h_28 eh_28
        refine lv_aload_n hx hb dX4_put_29 rfl (lv_at hl 0 rfl) ?_
        refine lv_dup hx hb dX4_put_30 rfl ?_
        refine g_geti hx hb hw inG4 hown hK hG gl_77 rfl gk_77 (by decide) 4 (by decide) (by rw [gm_77]; decide) gr_77_4 lk30 dX4_put_31 ?_
        refine lv_iconst (v := 1) hx hb dX4_put_34 (by decide) ?_
        refine lv_iadd hx hb dX4_put_35 ?_
        refine g_put hx hb hw inG4 tyX4 tyX4_ok nmX4 hown hK hG gl_77 rfl gk_77 (by decide) 4 (by decide) (by rw [gm_77]; decide) gr_77_4 rfl (ty := .int) (by decide +kernel) rfl rfl lk30 dX4_put_36 (fun H locs hG => ?_)
        obtain ⟨h_36, eh_36⟩ : ∃ y : HI, y = hu h_28 77 4 ((h_28 77 4) + (1 : Int32)) := ⟨_, rfl⟩
        rw [← eh_36] at hG
        replace HW := HW h_36 eh_36
        exact W.vret hx hb hr (fun t ht hW => ⟨⟨(h_36, g), rfl, HW, g_B ht hG⟩, hG.2.2.F ht⟩) hG.2.2.2.2 dX4_put_39
  exact E0 _ _ _ hG hl

def j_X4_readDigit_102 (Q : HI → HL → Prop) (x1 : Int32) (x3 : Int32) (h : HI) (g : HL) : Prop :=
  (∃ P_109 : HI → HL → Prop, w_X4_put (((10 : Int32) * x3) + x1) h g P_109 ∧ ∀ (h_109 : HI) (g_109 : HL), P_109 h_109 g_109 → (∀ h_119 : HI, h_119 = hu h_109 77 7 ((h_109 77 7) + (1 : Int32)) → (∀ h_124 : HI, h_124 = hu h_119 77 8 (0 : Int32) → Q h_124 g_109)))
def j_X4_readDigit_27 (Q : HI → HL → Prop) (x1 : Int32) (x2 : Int32) (h : HI) (g : HL) : Prop :=
  (((h 77 7) < (6 : Int32) → (((h 77 7) ≤ 0 → j_X4_readDigit_102 Q x1 (0 : Int32) h g) ∧ (¬ (h 77 7) ≤ 0 → (((h 77 4) ≤ 0 → j_X4_readDigit_102 Q x1 (0 : Int32) h g) ∧ (¬ (h 77 4) ≤ 0 → (((60 : Int32) < (h 77 4) → j_X4_readDigit_102 Q x1 (0 : Int32) h g) ∧ (¬ (60 : Int32) < (h 77 4) → (∀ h_89 : HI, h_89 = hu h 77 4 ((h 77 4) - (1 : Int32)) → (vp_in (h_89 77 4) 60 ∧ (∀ x3_101 : Int32, x3_101 = (h_89 78 (h_89 77 4).toNatClampNeg) → j_X4_readDigit_102 Q x1 x3_101 h_89 g)))))))))) ∧ (¬ (h 77 7) < (6 : Int32) → (∀ h_48 : HI, h_48 = hu h 77 9 (((10 : Int32) * (x2 - (h 77 7))) + (2 : Int32)) → Q h_48 g)))
def w_X4_readDigit (x1 : Int32) (x2 : Int32) (h : HI) (g : HL) (Q : HI → HL → Prop) : Prop :=
  ((¬ (h 77 7) = 0 → j_X4_readDigit_27 Q x1 x2 h g) ∧ ((h 77 7) = 0 → ((¬ (h 77 8) = 0 → j_X4_readDigit_27 Q x1 x2 h g) ∧ ((h 77 8) = 0 → (∀ h_21 : HI, h_21 = hu h 77 9 (((10 : Int32) * x2) + (1 : Int32)) → Q h_21 g)))))
set_option maxHeartbeats 8000000 in
set_option maxRecDepth 100000 in
theorem m_X4_readDigit (l : Launch) (D : va_G) (cy : Nat → ClassId) (ad : Nat → Nat) (h : HI) (g : HL) (sz : Nat) (x1 : Int32) (x2 : Int32) (Q : HI → HL → Prop) (HW : w_X4_readDigit x1 x2 h g Q) : Met l yX4_readDigit (wa yX4_readDigit cX4_readDigit 4 none) ({ frames := 1, cells := 0, slots := 0, locals := 21 }) (va_Pc [.ref (ad 77), .int x1, .int x2] (gI D cy ad h g sz)) (va_Qv (fun (u : HI × HL) => Q u.1 u.2) (gB D cy ad sz) (gA ad sz)) 0 0 (gA ad sz) := by
  refine Met.ofW (cc := cX4_readDigit) (maxL := 4) (ret := none) (by decide) rfl ?_
  intro p e s m args below meth c s₁ B hml hv
  obtain ⟨hav, hsz, hP, hK, hD0, hNw⟩ := hv
  have hx := B.exec
  have hb := B.bytes
  have hr := B.returns
  have hts := atoms_spec (ws := (wa yX4_readDigit cX4_readDigit 4 none)) B.pre
  have hw := wa_hw hts
  have hown : s.vm.findClass RX4 = some m.cls := findClass_of_methodNamed B.named
  have hlocks := B.notSynchronized
  subst hsz
  have hG : gG D cy ad (gA ad s.heap.size) s.heap h g s.heap [] := ⟨hP, gA_self hD0, va_S.rf⟩
  clear hP hD0
  have lk39 := hw (.fieldLink RX4 39 "OldWorks$Law" "digits" "I") (wm1 136 rfl rfl)
  have lk42 := hw (.fieldLink RX4 42 "OldWorks$Law" "unitDue" "Z") (wm1 137 rfl rfl)
  have lk26 := hw (.fieldLink RX4 26 "OldWorks$Law" "flaw" "I") (wm1 138 rfl rfl)
  have lk30 := hw (.fieldLink RX4 30 "OldWorks$Law" "written" "I") (wm1 133 rfl rfl)
  have lk11 := hw (.fieldLink RX4 11 "OldWorks$Law" "steps" "[I") (wm1 130 rfl rfl)
  rw [show (headSpec (wa yX4_readDigit cX4_readDigit 4 none) ({ frames := 1, cells := 0, slots := 0, locals := 21 } : Room)).room = ({ frames := 1, cells := 0, slots := 0, locals := 21 } : Room) from rfl]
  have hl := lv_entry ([.ref (ad 77), .int x1, .int x2]) (n := 4) (Nat.le_of_ble_eq_true rfl)
  rw [show entryFrame m args 4 = entryFrame m ([.ref (ad 77), .int x1, .int x2] : List Value).toArray 4 from by rw [hav], lg_entry_eq]
  generalize (lg_sl ([.ref (ad 77), .int x1, .int x2]) ++ List.replicate (4 - (lg_sl ([.ref (ad 77), .int x1, .int x2])).length) Slot.unset).toArray = ls at hl ⊢
  have hl : lv_has ls 4 [(0, .ref (ad 77)), (1, .int x1), (2, .int x2)] := hl
  have B102 : ∀ (x1 : Int32) (x3 : Int32) (h : HI) (g : HL) (H : Heap) (locs : List Loc) (ls : Array Slot), j_X4_readDigit_102 Q x1 x3 h g → gG D cy ad (gA ad s.heap.size) s.heap h g H locs → lv_has ls 4 [(0, .ref (ad 77)), (1, .int x1), (3, .int x3)] → W p l e ({ frames := 1, cells := 0, slots := 0, locals := 21 } : Room) s m args below meth c H locs 0 0 (MQ below (va_Qv (fun (u : HI × HL) => Q u.1 u.2) (gB D cy ad s.heap.size) (gA ad s.heap.size)) args s 0 0 (gA ad s.heap.size)) (F0 m 102 ls []) := by
    intro x1 x3 h g H locs ls HW hG hl
    unfold j_X4_readDigit_102 at HW
    refine lv_aload_n hx hb dX4_readDigit_102 rfl (lv_at hl 0 rfl) ?_
    refine lv_bipush (v := 10) hx hb dX4_readDigit_103 (by decide) ?_
    refine lv_iload_n hx hb dX4_readDigit_105 rfl (lv_at hl 2 rfl) ?_
    refine lv_imul hx hb dX4_readDigit_106 ?_
    refine lv_iload_n hx hb dX4_readDigit_107 rfl (lv_at hl 1 rfl) ?_
    refine lv_iadd hx hb dX4_readDigit_108 ?_
    obtain ⟨P_109, HC_109, HW⟩ := HW
    refine g_callv (g_runV (As := [.int (((10 : Int32) * x3) + x1)]) (rest := []) ⟨hx, hb, hml, hown, hts⟩ (m_X4_put l D cy ad h g H.size (((10 : Int32) * x3) + x1) P_109 HC_109) (cwV 1 hts (gd_V (wm2 228 rfl rfl) (wm2 230 rfl rfl) (wmp1 (q := (yX4_put, 10)) 1 rfl) (wm1 4 rfl rfl) (wm2 231 rfl rfl)) rfl rfl rfl (by decide +kernel) ⟨Nat.le_of_ble_eq_true rfl, Nat.le_of_ble_eq_true rfl⟩) hK hNw hG gl_77 rfl gk_77 (by decide) rfl rfl hl.1 rfl (lv_room (Nat.le_of_ble_eq_true rfl)) dX4_readDigit_109 ⟨Nat.zero_le _, Nat.zero_le _⟩) hG (fun h_109 g_109 H locs hq hG => ?_)
    replace HW := HW h_109 g_109 hq
    refine lv_aload_n hx hb dX4_readDigit_112 rfl (lv_at hl 0 rfl) ?_
    refine lv_dup hx hb dX4_readDigit_113 rfl ?_
    refine g_geti hx hb hw inG4 hown hK hG gl_77 rfl gk_77 (by decide) 7 (by decide) (by rw [gm_77]; decide) gr_77_7 lk39 dX4_readDigit_114 ?_
    refine lv_iconst (v := 1) hx hb dX4_readDigit_117 (by decide) ?_
    refine lv_iadd hx hb dX4_readDigit_118 ?_
    refine g_put hx hb hw inG4 tyX4 tyX4_ok nmX4 hown hK hG gl_77 rfl gk_77 (by decide) 7 (by decide) (by rw [gm_77]; decide) gr_77_7 rfl (ty := .int) (by decide +kernel) rfl rfl lk39 dX4_readDigit_119 (fun H locs hG => ?_)
    obtain ⟨h_119, eh_119⟩ : ∃ y : HI, y = hu h_109 77 7 ((h_109 77 7) + (1 : Int32)) := ⟨_, rfl⟩
    rw [← eh_119] at hG
    replace HW := HW h_119 eh_119
    refine lv_aload_n hx hb dX4_readDigit_122 rfl (lv_at hl 0 rfl) ?_
    refine lv_iconst (v := 0) hx hb dX4_readDigit_123 (by decide) ?_
    refine g_put hx hb hw inG4 tyX4 tyX4_ok nmX4 hown hK hG gl_77 rfl gk_77 (by decide) 8 (by decide) (by rw [gm_77]; decide) gr_77_8 rfl (ty := .boolean) (by decide +kernel) rfl rfl lk42 dX4_readDigit_124 (fun H locs hG => ?_)
    obtain ⟨h_124, eh_124⟩ : ∃ y : HI, y = hu h_119 77 8 (0 : Int32) := ⟨_, rfl⟩
    rw [← eh_124] at hG
    replace HW := HW h_124 eh_124
    exact W.vret hx hb hr (fun t ht hW => ⟨⟨(h_124, g_109), rfl, HW, g_B ht hG⟩, hG.2.2.F ht⟩) hG.2.2.2.2 dX4_readDigit_127
  have B27 : ∀ (x1 : Int32) (x2 : Int32) (h : HI) (g : HL) (H : Heap) (locs : List Loc) (ls : Array Slot), j_X4_readDigit_27 Q x1 x2 h g → gG D cy ad (gA ad s.heap.size) s.heap h g H locs → lv_has ls 4 [(0, .ref (ad 77)), (1, .int x1), (2, .int x2)] → W p l e ({ frames := 1, cells := 0, slots := 0, locals := 21 } : Room) s m args below meth c H locs 0 0 (MQ below (va_Qv (fun (u : HI × HL) => Q u.1 u.2) (gB D cy ad s.heap.size) (gA ad s.heap.size)) args s 0 0 (gA ad s.heap.size)) (F0 m 27 ls []) := by
    intro x1 x2 h g H locs ls HW hG hl
    unfold j_X4_readDigit_27 at HW
    refine lv_aload_n hx hb dX4_readDigit_27 rfl (lv_at hl 0 rfl) ?_
    refine g_geti hx hb hw inG4 hown hK hG gl_77 rfl gk_77 (by decide) 7 (by decide) (by rw [gm_77]; decide) gr_77_7 lk39 dX4_readDigit_28 ?_
    refine lv_bipush (v := 6) hx hb dX4_readDigit_31 (by decide) ?_
    refine lv_icmp_lt (tgt := 54) hx hb dX4_readDigit_33 (by decide) (fun c_33 => ?_) (fun c_33 => ?_)
    · replace HW := HW.1 c_33
      refine lv_iconst (v := 0) hx hb dX4_readDigit_54 (by decide) ?_
      refine lv_istore_n (lv' := [(3, .int (0 : Int32)), (0, .ref (ad 77)), (1, .int x1), (2, .int x2)]) hx hb dX4_readDigit_55 rfl hl (by decide) rfl (fun ls hl => ?_)
      refine lv_aload_n hx hb dX4_readDigit_56 rfl (lv_at hl 1 rfl) ?_
      refine g_geti hx hb hw inG4 hown hK hG gl_77 rfl gk_77 (by decide) 7 (by decide) (by rw [gm_77]; decide) gr_77_7 lk39 dX4_readDigit_57 ?_
      refine lv_if_le (tgt := 102) hx hb dX4_readDigit_60 (by decide) (fun c_60 => ?_) (fun c_60 => ?_)
      · replace HW := HW.1 c_60
        exact B102 x1 (0 : Int32) h g _ _ _ HW hG (lv_sub hl [1, 2, 0] rfl)
      · replace HW := HW.2 c_60
        refine lv_aload_n hx hb dX4_readDigit_63 rfl (lv_at hl 1 rfl) ?_
        refine g_geti hx hb hw inG4 hown hK hG gl_77 rfl gk_77 (by decide) 4 (by decide) (by rw [gm_77]; decide) gr_77_4 lk30 dX4_readDigit_64 ?_
        refine lv_if_le (tgt := 102) hx hb dX4_readDigit_67 (by decide) (fun c_67 => ?_) (fun c_67 => ?_)
        · replace HW := HW.1 c_67
          exact B102 x1 (0 : Int32) h g _ _ _ HW hG (lv_sub hl [1, 2, 0] rfl)
        · replace HW := HW.2 c_67
          refine lv_aload_n hx hb dX4_readDigit_70 rfl (lv_at hl 1 rfl) ?_
          refine g_geti hx hb hw inG4 hown hK hG gl_77 rfl gk_77 (by decide) 4 (by decide) (by rw [gm_77]; decide) gr_77_4 lk30 dX4_readDigit_71 ?_
          refine lv_aload_n hx hb dX4_readDigit_74 rfl (lv_at hl 1 rfl) ?_
          refine g_getr hx hb hw inG4 hown hK hG gl_77 rfl gk_77 (by decide) 1 (by decide) (by rw [gm_77]; decide) (r := 78) gr_77_1 lk11 dX4_readDigit_75 ?_
          refine g_alen hx hb hK hG gl_78 gk_78 (v := (60 : Int32)) (by rw [gn_78]; decide) dX4_readDigit_78 ?_
          refine lv_icmp_gt (tgt := 102) hx hb dX4_readDigit_79 (by decide) (fun c_79 => ?_) (fun c_79 => ?_)
          · replace HW := HW.1 c_79
            exact B102 x1 (0 : Int32) h g _ _ _ HW hG (lv_sub hl [1, 2, 0] rfl)
          · replace HW := HW.2 c_79
            refine lv_aload_n hx hb dX4_readDigit_82 rfl (lv_at hl 1 rfl) ?_
            refine lv_dup hx hb dX4_readDigit_83 rfl ?_
            refine g_geti hx hb hw inG4 hown hK hG gl_77 rfl gk_77 (by decide) 4 (by decide) (by rw [gm_77]; decide) gr_77_4 lk30 dX4_readDigit_84 ?_
            refine lv_iconst (v := 1) hx hb dX4_readDigit_87 (by decide) ?_
            refine lv_isub hx hb dX4_readDigit_88 ?_
            refine g_put hx hb hw inG4 tyX4 tyX4_ok nmX4 hown hK hG gl_77 rfl gk_77 (by decide) 4 (by decide) (by rw [gm_77]; decide) gr_77_4 rfl (ty := .int) (by decide +kernel) rfl rfl lk30 dX4_readDigit_89 (fun H locs hG => ?_)
            obtain ⟨h_89, eh_89⟩ : ∃ y : HI, y = hu h 77 4 ((h 77 4) - (1 : Int32)) := ⟨_, rfl⟩
            rw [← eh_89] at hG
            replace HW := HW h_89 eh_89
            refine lv_aload_n hx hb dX4_readDigit_92 rfl (lv_at hl 1 rfl) ?_
            refine g_getr hx hb hw inG4 hown hK hG gl_77 rfl gk_77 (by decide) 1 (by decide) (by rw [gm_77]; decide) (r := 78) gr_77_1 lk11 dX4_readDigit_93 ?_
            refine lv_aload_n hx hb dX4_readDigit_96 rfl (lv_at hl 1 rfl) ?_
            refine g_geti hx hb hw inG4 hown hK hG gl_77 rfl gk_77 (by decide) 4 (by decide) (by rw [gm_77]; decide) gr_77_4 lk30 dX4_readDigit_97 ?_
            refine g_iald hx hb hK hG gl_78 gk_78 gn_78 HW.1 dX4_readDigit_100 ?_
            replace HW := HW.2
            refine lv_topi (fun x3_101 ex3_101 => ?_)
            replace HW := HW x3_101 ex3_101
            refine lv_istore_n (lv' := [(3, .int x3_101), (0, .ref (ad 77)), (1, .int x1), (2, .int x2)]) hx hb dX4_readDigit_101 rfl hl (by decide) rfl (fun ls hl => ?_)
            exact B102 x1 x3_101 h_89 g _ _ _ HW hG (lv_sub hl [1, 2, 0] rfl)
    · replace HW := HW.2 c_33
      refine lv_aload_n hx hb dX4_readDigit_36 rfl (lv_at hl 0 rfl) ?_
      refine lv_bipush (v := 10) hx hb dX4_readDigit_37 (by decide) ?_
      refine lv_iload_n hx hb dX4_readDigit_39 rfl (lv_at hl 2 rfl) ?_
      refine lv_aload_n hx hb dX4_readDigit_40 rfl (lv_at hl 0 rfl) ?_
      refine g_geti hx hb hw inG4 hown hK hG gl_77 rfl gk_77 (by decide) 7 (by decide) (by rw [gm_77]; decide) gr_77_7 lk39 dX4_readDigit_41 ?_
      refine lv_isub hx hb dX4_readDigit_44 ?_
      refine lv_imul hx hb dX4_readDigit_45 ?_
      refine lv_iconst (v := 2) hx hb dX4_readDigit_46 (by decide) ?_
      refine lv_iadd hx hb dX4_readDigit_47 ?_
      refine g_put hx hb hw inG4 tyX4 tyX4_ok nmX4 hown hK hG gl_77 rfl gk_77 (by decide) 9 (by decide) (by rw [gm_77]; decide) gr_77_9 rfl (ty := .int) (by decide +kernel) rfl rfl lk26 dX4_readDigit_48 (fun H locs hG => ?_)
      obtain ⟨h_48, eh_48⟩ : ∃ y : HI, y = hu h 77 9 (((10 : Int32) * (x2 - (h 77 7))) + (2 : Int32)) := ⟨_, rfl⟩
      rw [← eh_48] at hG
      replace HW := HW h_48 eh_48
      refine lv_goto (tgt := 127) hx hb dX4_readDigit_51 (by decide) ?_
      exact W.vret hx hb hr (fun t ht hW => ⟨⟨(h_48, g), rfl, HW, g_B ht hG⟩, hG.2.2.F ht⟩) hG.2.2.2.2 dX4_readDigit_127
  have E0 : ∀ (H : Heap) (locs : List Loc) (ls : Array Slot), gG D cy ad (gA ad s.heap.size) s.heap h g H locs → lv_has ls 4 [(0, .ref (ad 77)), (1, .int x1), (2, .int x2)] → W p l e ({ frames := 1, cells := 0, slots := 0, locals := 21 } : Room) s m args below meth c H locs 0 0 (MQ below (va_Qv (fun (u : HI × HL) => Q u.1 u.2) (gB D cy ad s.heap.size) (gA ad s.heap.size)) args s 0 0 (gA ad s.heap.size)) (F0 m 0 ls []) := by
    intro H locs ls hG hl
    unfold w_X4_readDigit at HW
    refine lv_aload_n hx hb dX4_readDigit_0 rfl (lv_at hl 0 rfl) ?_
    refine g_geti hx hb hw inG4 hown hK hG gl_77 rfl gk_77 (by decide) 7 (by decide) (by rw [gm_77]; decide) gr_77_7 lk39 dX4_readDigit_1 ?_
    refine lv_if_ne (tgt := 27) hx hb dX4_readDigit_4 (by decide) (fun c_4 => ?_) (fun c_4 => ?_)
    · replace HW := HW.1 c_4
      exact B27 x1 x2 h g _ _ _ HW hG (lv_sub hl [0, 1, 2] rfl)
    · replace HW := HW.2 c_4
      refine lv_aload_n hx hb dX4_readDigit_7 rfl (lv_at hl 0 rfl) ?_
      refine g_geti hx hb hw inG4 hown hK hG gl_77 rfl gk_77 (by decide) 8 (by decide) (by rw [gm_77]; decide) gr_77_8 lk42 dX4_readDigit_8 ?_
      refine lv_if_ne (tgt := 27) hx hb dX4_readDigit_11 (by decide) (fun c_11 => ?_) (fun c_11 => ?_)
      · replace HW := HW.1 c_11
        exact B27 x1 x2 h g _ _ _ HW hG (lv_sub hl [0, 1, 2] rfl)
      · replace HW := HW.2 c_11
        refine lv_aload_n hx hb dX4_readDigit_14 rfl (lv_at hl 0 rfl) ?_
        refine lv_bipush (v := 10) hx hb dX4_readDigit_15 (by decide) ?_
        refine lv_iload_n hx hb dX4_readDigit_17 rfl (lv_at hl 2 rfl) ?_
        refine lv_imul hx hb dX4_readDigit_18 ?_
        refine lv_iconst (v := 1) hx hb dX4_readDigit_19 (by decide) ?_
        refine lv_iadd hx hb dX4_readDigit_20 ?_
        refine g_put hx hb hw inG4 tyX4 tyX4_ok nmX4 hown hK hG gl_77 rfl gk_77 (by decide) 9 (by decide) (by rw [gm_77]; decide) gr_77_9 rfl (ty := .int) (by decide +kernel) rfl rfl lk26 dX4_readDigit_21 (fun H locs hG => ?_)
        obtain ⟨h_21, eh_21⟩ : ∃ y : HI, y = hu h 77 9 (((10 : Int32) * x2) + (1 : Int32)) := ⟨_, rfl⟩
        rw [← eh_21] at hG
        replace HW := HW h_21 eh_21
        refine lv_goto (tgt := 127) hx hb dX4_readDigit_24 (by decide) ?_
        exact W.vret hx hb hr (fun t ht hW => ⟨⟨(h_21, g), rfl, HW, g_B ht hG⟩, hG.2.2.F ht⟩) hG.2.2.2.2 dX4_readDigit_127
  exact E0 _ _ _ hG hl

def w_X4_await (x1 : Int32) (h : HI) (g : HL) (Q : HI → HL → Prop) : Prop :=
  (((h 77 5) < 0 → Q h g) ∧ (¬ (h 77 5) < 0 → (((60 : Int32) ≤ (h 77 5) → Q h g) ∧ (¬ (60 : Int32) ≤ (h 77 5) → (vp_in (h 77 5) 60 ∧ ∀ h_28 : HI, h_28 = hu h 79 (h 77 5).toNatClampNeg x1 → (∀ h_36 : HI, h_36 = hu h_28 77 5 ((h_28 77 5) + (1 : Int32)) → Q h_36 g))))))
set_option maxHeartbeats 8000000 in
set_option maxRecDepth 100000 in
theorem m_X4_await (l : Launch) (D : va_G) (cy : Nat → ClassId) (ad : Nat → Nat) (h : HI) (g : HL) (sz : Nat) (x1 : Int32) (Q : HI → HL → Prop) (HW : w_X4_await x1 h g Q) : Met l yX4_await (wa yX4_await cX4_await 2 none) ({ frames := 0, cells := 0, slots := 0, locals := 0 }) (va_Pc [.ref (ad 77), .int x1] (gI D cy ad h g sz)) (va_Qv (fun (u : HI × HL) => Q u.1 u.2) (gB D cy ad sz) (gA ad sz)) 0 0 (gA ad sz) := by
  refine Met.ofW (cc := cX4_await) (maxL := 2) (ret := none) (by decide) rfl ?_
  intro p e s m args below meth c s₁ B hml hv
  obtain ⟨hav, hsz, hP, hK, hD0, hNw⟩ := hv
  have hx := B.exec
  have hb := B.bytes
  have hr := B.returns
  have hts := atoms_spec (ws := (wa yX4_await cX4_await 2 none)) B.pre
  have hw := wa_hw hts
  have hown : s.vm.findClass RX4 = some m.cls := findClass_of_methodNamed B.named
  have hlocks := B.notSynchronized
  subst hsz
  have hG : gG D cy ad (gA ad s.heap.size) s.heap h g s.heap [] := ⟨hP, gA_self hD0, va_S.rf⟩
  clear hP hD0
  have lk33 := hw (.fieldLink RX4 33 "OldWorks$Law" "waits" "I") (wm1 134 rfl rfl)
  have lk15 := hw (.fieldLink RX4 15 "OldWorks$Law" "waiting" "[I") (wm1 131 rfl rfl)
  rw [show (headSpec (wa yX4_await cX4_await 2 none) ({ frames := 0, cells := 0, slots := 0, locals := 0 } : Room)).room = ({ frames := 0, cells := 0, slots := 0, locals := 0 } : Room) from rfl]
  have hl := lv_entry ([.ref (ad 77), .int x1]) (n := 2) (Nat.le_of_ble_eq_true rfl)
  rw [show entryFrame m args 2 = entryFrame m ([.ref (ad 77), .int x1] : List Value).toArray 2 from by rw [hav], lg_entry_eq]
  generalize (lg_sl ([.ref (ad 77), .int x1]) ++ List.replicate (2 - (lg_sl ([.ref (ad 77), .int x1])).length) Slot.unset).toArray = ls at hl ⊢
  have hl : lv_has ls 2 [(0, .ref (ad 77)), (1, .int x1)] := hl
  have E0 : ∀ (H : Heap) (locs : List Loc) (ls : Array Slot), gG D cy ad (gA ad s.heap.size) s.heap h g H locs → lv_has ls 2 [(0, .ref (ad 77)), (1, .int x1)] → W p l e ({ frames := 0, cells := 0, slots := 0, locals := 0 } : Room) s m args below meth c H locs 0 0 (MQ below (va_Qv (fun (u : HI × HL) => Q u.1 u.2) (gB D cy ad s.heap.size) (gA ad s.heap.size)) args s 0 0 (gA ad s.heap.size)) (F0 m 0 ls []) := by
    intro H locs ls hG hl
    unfold w_X4_await at HW
    refine lv_aload_n hx hb dX4_await_0 rfl (lv_at hl 0 rfl) ?_
    refine g_geti hx hb hw inG4 hown hK hG gl_77 rfl gk_77 (by decide) 5 (by decide) (by rw [gm_77]; decide) gr_77_5 lk33 dX4_await_1 ?_
    refine lv_if_lt (tgt := 39) hx hb dX4_await_4 (by decide) (fun c_4 => ?_) (fun c_4 => ?_)
    · replace HW := HW.1 c_4
      exact W.vret hx hb hr (fun t ht hW => ⟨⟨(h, g), rfl, HW, g_B ht hG⟩, hG.2.2.F ht⟩) hG.2.2.2.2 dX4_await_39
    · replace HW := HW.2 c_4
      refine lv_aload_n hx hb dX4_await_7 rfl (lv_at hl 0 rfl) ?_
      refine g_geti hx hb hw inG4 hown hK hG gl_77 rfl gk_77 (by decide) 5 (by decide) (by rw [gm_77]; decide) gr_77_5 lk33 dX4_await_8 ?_
      refine lv_aload_n hx hb dX4_await_11 rfl (lv_at hl 0 rfl) ?_
      refine g_getr hx hb hw inG4 hown hK hG gl_77 rfl gk_77 (by decide) 2 (by decide) (by rw [gm_77]; decide) (r := 79) gr_77_2 lk15 dX4_await_12 ?_
      refine g_alen hx hb hK hG gl_79 gk_79 (v := (60 : Int32)) (by rw [gn_79]; decide) dX4_await_15 ?_
      refine lv_icmp_ge (tgt := 39) hx hb dX4_await_16 (by decide) (fun c_16 => ?_) (fun c_16 => ?_)
      · replace HW := HW.1 c_16
        exact W.vret hx hb hr (fun t ht hW => ⟨⟨(h, g), rfl, HW, g_B ht hG⟩, hG.2.2.F ht⟩) hG.2.2.2.2 dX4_await_39
      · replace HW := HW.2 c_16
        refine lv_aload_n hx hb dX4_await_19 rfl (lv_at hl 0 rfl) ?_
        refine g_getr hx hb hw inG4 hown hK hG gl_77 rfl gk_77 (by decide) 2 (by decide) (by rw [gm_77]; decide) (r := 79) gr_77_2 lk15 dX4_await_20 ?_
        refine lv_aload_n hx hb dX4_await_23 rfl (lv_at hl 0 rfl) ?_
        refine g_geti hx hb hw inG4 hown hK hG gl_77 rfl gk_77 (by decide) 5 (by decide) (by rw [gm_77]; decide) gr_77_5 lk33 dX4_await_24 ?_
        refine lv_iload_n hx hb dX4_await_27 rfl (lv_at hl 1 rfl) ?_
        refine g_iast hx hb hK hG gl_79 gk_79 gn_79 HW.1 dX4_await_28 (fun H locs hG => ?_)
        replace HW := HW.2
        obtain ⟨h_28, eh_28⟩ : ∃ y : HI, y = hu h 79 (h 77 5).toNatClampNeg x1 := ⟨_, rfl⟩
        rw [← eh_28] at hG
        replace HW := HW h_28 eh_28
        refine lv_aload_n hx hb dX4_await_29 rfl (lv_at hl 0 rfl) ?_
        refine lv_dup hx hb dX4_await_30 rfl ?_
        refine g_geti hx hb hw inG4 hown hK hG gl_77 rfl gk_77 (by decide) 5 (by decide) (by rw [gm_77]; decide) gr_77_5 lk33 dX4_await_31 ?_
        refine lv_iconst (v := 1) hx hb dX4_await_34 (by decide) ?_
        refine lv_iadd hx hb dX4_await_35 ?_
        refine g_put hx hb hw inG4 tyX4 tyX4_ok nmX4 hown hK hG gl_77 rfl gk_77 (by decide) 5 (by decide) (by rw [gm_77]; decide) gr_77_5 rfl (ty := .int) (by decide +kernel) rfl rfl lk33 dX4_await_36 (fun H locs hG => ?_)
        obtain ⟨h_36, eh_36⟩ : ∃ y : HI, y = hu h_28 77 5 ((h_28 77 5) + (1 : Int32)) := ⟨_, rfl⟩
        rw [← eh_36] at hG
        replace HW := HW h_36 eh_36
        exact W.vret hx hb hr (fun t ht hW => ⟨⟨(h_36, g), rfl, HW, g_B ht hG⟩, hG.2.2.F ht⟩) hG.2.2.2.2 dX4_await_39
  exact E0 _ _ _ hG hl
