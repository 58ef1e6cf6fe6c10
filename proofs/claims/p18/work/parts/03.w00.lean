def w_X0_set (o : Nat) (x1 : Int32) (h : HI) (g : HL) (Q : HI → HL → Prop) : Prop :=
  (vp_in (0 : Int32) 70 ∧ ∀ h_6 : HI, h_6 = hu h (o + 1) (0 : Int32).toNatClampNeg x1 → (∀ h_9 : HI, h_9 = hu h_6 o 1 (1 : Int32) → Q h_9 g))
set_option maxHeartbeats 8000000 in
set_option maxRecDepth 100000 in
theorem m_X0_set (l : Launch) (D : va_G) (cy : Nat → ClassId) (ad : Nat → Nat) (h : HI) (g : HL) (sz : Nat) (o : Nat) (hT : isB o) (x1 : Int32) (Q : HI → HL → Prop) (HW : w_X0_set o x1 h g Q) : Met l yX0_set (wa yX0_set cX0_set 2 none) ({ frames := 0, cells := 0, slots := 0, locals := 0 }) (va_Pc [.ref (ad o), .int x1] (gI D cy ad h g sz)) (va_Qv (fun (u : HI × HL) => Q u.1 u.2) (gB D cy ad sz) (gA ad sz)) 0 0 (gA ad sz) := by
  refine Met.ofW (cc := cX0_set) (maxL := 2) (ret := none) (by decide) rfl ?_
  intro p e s m args below meth c s₁ B hml hv
  obtain ⟨hav, hsz, hP, hK, hD0, hNw⟩ := hv
  have hx := B.exec
  have hb := B.bytes
  have hr := B.returns
  have hts := atoms_spec (ws := (wa yX0_set cX0_set 2 none)) B.pre
  have hw := wa_hw hts
  have hown : s.vm.findClass RX0 = some m.cls := findClass_of_methodNamed B.named
  have hlocks := B.notSynchronized
  subst hsz
  have hG : gG D cy ad (gA ad s.heap.size) s.heap h g s.heap [] := ⟨hP, gA_self hD0, va_S.rf⟩
  clear hP hD0
  have lk11 := hw (.fieldLink RX0 11 "OldWorks$Big" "digits" "[I") (wm2 81 rfl rfl)
  have lk15 := hw (.fieldLink RX0 15 "OldWorks$Big" "many" "I") (wm2 82 rfl rfl)
  rw [show (headSpec (wa yX0_set cX0_set 2 none) ({ frames := 0, cells := 0, slots := 0, locals := 0 } : Room)).room = ({ frames := 0, cells := 0, slots := 0, locals := 0 } : Room) from rfl]
  have hl := lv_entry ([.ref (ad o), .int x1]) (n := 2) (Nat.le_of_ble_eq_true rfl)
  rw [show entryFrame m args 2 = entryFrame m ([.ref (ad o), .int x1] : List Value).toArray 2 from by rw [hav], lg_entry_eq]
  generalize (lg_sl ([.ref (ad o), .int x1]) ++ List.replicate (2 - (lg_sl ([.ref (ad o), .int x1])).length) Slot.unset).toArray = ls at hl ⊢
  have hl : lv_has ls 2 [(0, .ref (ad o)), (1, .int x1)] := hl
  have E0 : ∀ (H : Heap) (locs : List Loc) (ls : Array Slot), gG D cy ad (gA ad s.heap.size) s.heap h g H locs → lv_has ls 2 [(0, .ref (ad o)), (1, .int x1)] → W p l e ({ frames := 0, cells := 0, slots := 0, locals := 0 } : Room) s m args below meth c H locs 0 0 (MQ below (va_Qv (fun (u : HI × HL) => Q u.1 u.2) (gB D cy ad s.heap.size) (gA ad s.heap.size)) args s 0 0 (gA ad s.heap.size)) (F0 m 0 ls []) := by
    intro H locs ls hG hl
    unfold w_X0_set at HW
    refine lv_aload_n hx hb dX0_set_0 rfl (lv_at hl 0 rfl) ?_
    refine g_getr hx hb hw inG0 hown hK hG hT.lt rfl hT.k (by decide) 0 (by decide) (by rw [hT.m]; decide) (r := (o + 1)) hT.r.1 lk11 dX0_set_1 ?_
    refine lv_iconst (v := 0) hx hb dX0_set_4 (by decide) ?_
    refine lv_iload_n hx hb dX0_set_5 rfl (lv_at hl 1 rfl) ?_
    refine g_iast hx hb hK hG hT.a.2.1 hT.a.1 hT.a.2.2 HW.1 dX0_set_6 (fun H locs hG => ?_)
    replace HW := HW.2
    obtain ⟨h_6, eh_6⟩ : ∃ y : HI, y = hu h (o + 1) (0 : Int32).toNatClampNeg x1 := ⟨_, rfl⟩
    rw [← eh_6] at hG
    replace HW := HW h_6 eh_6
    refine lv_aload_n hx hb dX0_set_7 rfl (lv_at hl 0 rfl) ?_
    refine lv_iconst (v := 1) hx hb dX0_set_8 (by decide) ?_
    refine g_put hx hb hw inG0 tyX0 tyX0_ok nmX0 hown hK hG hT.lt rfl hT.k (by decide) 1 (by decide) (by rw [hT.m]; decide) hT.r.2 rfl (ty := .int) (by decide +kernel) rfl rfl lk15 dX0_set_9 (fun H locs hG => ?_)
    obtain ⟨h_9, eh_9⟩ : ∃ y : HI, y = hu h_6 o 1 (1 : Int32) := ⟨_, rfl⟩
    rw [← eh_9] at hG
    replace HW := HW h_9 eh_9
    exact W.vret hx hb hr (fun t ht hW => ⟨⟨(h_9, g), rfl, HW, g_B ht hG⟩, hG.2.2.F ht⟩) hG.2.2.2.2 dX0_set_12
  exact E0 _ _ _ hG hl

def w_X0_copy (o : Nat) (o1 : Nat) (h : HI) (g : HL) (Q : HI → HL → Prop) : Prop :=
  ((¬ (0 : Int32) < 0 ∧ ¬ (0 : Int32) < 0 ∧ ¬ (70 : Int32) < 0 ∧ (0 : Int32).toNatClampNeg + (70 : Int32).toNatClampNeg ≤ 70 ∧ (0 : Int32).toNatClampNeg + (70 : Int32).toNatClampNeg ≤ 70) ∧ ∀ h_12 : HI, h_12 = hua h (o + 1) (va_cpy (h (o1 + 1)) (h (o + 1)) (0 : Int32).toNatClampNeg (0 : Int32).toNatClampNeg (70 : Int32).toNatClampNeg) → (∀ h_20 : HI, h_20 = hu h_12 o 1 (h_12 o1 1) → Q h_20 g))
set_option maxHeartbeats 8000000 in
set_option maxRecDepth 100000 in
theorem m_X0_copy (l : Launch) (D : va_G) (cy : Nat → ClassId) (ad : Nat → Nat) (h : HI) (g : HL) (sz : Nat) (o : Nat) (hT : isB o) (o1 : Nat) (hT1 : isB o1) (Q : HI → HL → Prop) (HW : w_X0_copy o o1 h g Q) : Met l yX0_copy (wa yX0_copy cX0_copy 2 none) ({ frames := 1, cells := 0, slots := 0, locals := 60 }) (va_Pc [.ref (ad o), .ref (ad o1)] (gI D cy ad h g sz)) (va_Qv (fun (u : HI × HL) => Q u.1 u.2) (gB D cy ad sz) (gA ad sz)) 0 0 (gA ad sz) := by
  refine Met.ofW (cc := cX0_copy) (maxL := 2) (ret := none) (by decide) rfl ?_
  intro p e s m args below meth c s₁ B hml hv
  obtain ⟨hav, hsz, hP, hK, hD0, hNw⟩ := hv
  have hx := B.exec
  have hb := B.bytes
  have hr := B.returns
  have hts := atoms_spec (ws := (wa yX0_copy cX0_copy 2 none)) B.pre
  have hw := wa_hw hts
  have hown : s.vm.findClass RX0 = some m.cls := findClass_of_methodNamed B.named
  have hlocks := B.notSynchronized
  subst hsz
  have hG : gG D cy ad (gA ad s.heap.size) s.heap h g s.heap [] := ⟨hP, gA_self hD0, va_S.rf⟩
  clear hP hD0
  have lk11 := hw (.fieldLink RX0 11 "OldWorks$Big" "digits" "[I") (wm2 81 rfl rfl)
  have ml19 := hw (.methodLink RX0 19 arraycopyName) (wm4 123 rfl rfl)
  have mn19 := hw (.native arraycopyName) (wm4 125 rfl rfl)
  have ms19 := hw (.static arraycopyName) (wm4 124 rfl rfl)
  have mi19 := hw (.initialized "java/lang/System") (wm1 16 rfl rfl)
  have lk15 := hw (.fieldLink RX0 15 "OldWorks$Big" "many" "I") (wm2 82 rfl rfl)
  rw [show (headSpec (wa yX0_copy cX0_copy 2 none) ({ frames := 1, cells := 0, slots := 0, locals := 60 } : Room)).room = ({ frames := 1, cells := 0, slots := 0, locals := 60 } : Room) from rfl]
  have hl := lv_entry ([.ref (ad o), .ref (ad o1)]) (n := 2) (Nat.le_of_ble_eq_true rfl)
  rw [show entryFrame m args 2 = entryFrame m ([.ref (ad o), .ref (ad o1)] : List Value).toArray 2 from by rw [hav], lg_entry_eq]
  generalize (lg_sl ([.ref (ad o), .ref (ad o1)]) ++ List.replicate (2 - (lg_sl ([.ref (ad o), .ref (ad o1)])).length) Slot.unset).toArray = ls at hl ⊢
  have hl : lv_has ls 2 [(0, .ref (ad o)), (1, .ref (ad o1))] := hl
  have E0 : ∀ (H : Heap) (locs : List Loc) (ls : Array Slot), gG D cy ad (gA ad s.heap.size) s.heap h g H locs → lv_has ls 2 [(0, .ref (ad o)), (1, .ref (ad o1))] → W p l e ({ frames := 1, cells := 0, slots := 0, locals := 60 } : Room) s m args below meth c H locs 0 0 (MQ below (va_Qv (fun (u : HI × HL) => Q u.1 u.2) (gB D cy ad s.heap.size) (gA ad s.heap.size)) args s 0 0 (gA ad s.heap.size)) (F0 m 0 ls []) := by
    intro H locs ls hG hl
    unfold w_X0_copy at HW
    refine lv_aload_n hx hb dX0_copy_0 rfl (lv_at hl 1 rfl) ?_
    refine g_getr hx hb hw inG0 hown hK hG hT1.lt rfl hT1.k (by decide) 0 (by decide) (by rw [hT1.m]; decide) (r := (o1 + 1)) hT1.r.1 lk11 dX0_copy_1 ?_
    refine lv_iconst (v := 0) hx hb dX0_copy_4 (by decide) ?_
    refine lv_aload_n hx hb dX0_copy_5 rfl (lv_at hl 0 rfl) ?_
    refine g_getr hx hb hw inG0 hown hK hG hT.lt rfl hT.k (by decide) 0 (by decide) (by rw [hT.m]; decide) (r := (o + 1)) hT.r.1 lk11 dX0_copy_6 ?_
    refine lv_iconst (v := 0) hx hb dX0_copy_9 (by decide) ?_
    refine lv_bipush (v := 70) hx hb dX0_copy_10 (by decide) ?_
    refine g_copy hx hb (hml.trans hl.1.symm) hown ml19 mn19 ms19 mi19 hK hG hT1.a.2.1 hT1.a.1 hT1.a.2.2 hT.a.2.1 hT.a.1 hT.a.2.2 HW.1 (by decide) (Nat.le_of_ble_eq_true rfl) dX0_copy_12 (fun H locs hG => ?_)
    replace HW := HW.2
    obtain ⟨h_12, eh_12⟩ : ∃ y : HI, y = hua h (o + 1) (va_cpy (h (o1 + 1)) (h (o + 1)) (0 : Int32).toNatClampNeg (0 : Int32).toNatClampNeg (70 : Int32).toNatClampNeg) := ⟨_, rfl⟩
    rw [← eh_12] at hG
    replace HW := HW h_12 eh_12
    refine lv_aload_n hx hb dX0_copy_15 rfl (lv_at hl 0 rfl) ?_
    refine lv_aload_n hx hb dX0_copy_16 rfl (lv_at hl 1 rfl) ?_
    refine g_geti hx hb hw inG0 hown hK hG hT1.lt rfl hT1.k (by decide) 1 (by decide) (by rw [hT1.m]; decide) hT1.r.2 lk15 dX0_copy_17 ?_
    refine g_put hx hb hw inG0 tyX0 tyX0_ok nmX0 hown hK hG hT.lt rfl hT.k (by decide) 1 (by decide) (by rw [hT.m]; decide) hT.r.2 rfl (ty := .int) (by decide +kernel) rfl rfl lk15 dX0_copy_20 (fun H locs hG => ?_)
    obtain ⟨h_20, eh_20⟩ : ∃ y : HI, y = hu h_12 o 1 (h_12 o1 1) := ⟨_, rfl⟩
    rw [← eh_20] at hG
    replace HW := HW h_20 eh_20
    exact W.vret hx hb hr (fun t ht hW => ⟨⟨(h_20, g), rfl, HW, g_B ht hG⟩, hG.2.2.F ht⟩) hG.2.2.2.2 dX0_copy_23
  exact E0 _ _ _ hG hl

def w_X10_within (x0 : Int32) (x1 : Int32) (x2 : Int32) (h : HI) (g : HL) (Q : Int32 → HI → HL → Prop) : Prop :=
  ((x0 < x1 → Q (0 : Int32) h g) ∧ (¬ x0 < x1 → ((x2 < x0 → Q (0 : Int32) h g) ∧ (¬ x2 < x0 → Q (1 : Int32) h g))))
set_option maxHeartbeats 8000000 in
set_option maxRecDepth 100000 in
theorem m_X10_within (l : Launch) (D : va_G) (cy : Nat → ClassId) (ad : Nat → Nat) (h : HI) (g : HL) (sz : Nat) (x0 : Int32) (x1 : Int32) (x2 : Int32) (Q : Int32 → HI → HL → Prop) (HW : w_X10_within x0 x1 x2 h g Q) : Met l yX10_within (wa yX10_within cX10_within 3 (some .boolean)) ({ frames := 0, cells := 0, slots := 0, locals := 0 }) (va_Pc [.int x0, .int x1, .int x2] (gI D cy ad h g sz)) (va_Qi (fun (r : Int32) (u : HI × HL) => zb r ∧ Q r u.1 u.2) (gB D cy ad sz) (gA ad sz)) 0 0 (gA ad sz) := by
  refine Met.ofW (cc := cX10_within) (maxL := 3) (ret := (some .boolean)) (by decide) rfl ?_
  intro p e s m args below meth c s₁ B hml hv
  obtain ⟨hav, hsz, hP, hK, hD0, hNw⟩ := hv
  have hx := B.exec
  have hb := B.bytes
  have hr := B.returns
  have hts := atoms_spec (ws := (wa yX10_within cX10_within 3 (some .boolean))) B.pre
  have hw := wa_hw hts
  have hown : s.vm.findClass RX10 = some m.cls := findClass_of_methodNamed B.named
  have hlocks := B.notSynchronized
  subst hsz
  have hG : gG D cy ad (gA ad s.heap.size) s.heap h g s.heap [] := ⟨hP, gA_self hD0, va_S.rf⟩
  clear hP hD0
  rw [show (headSpec (wa yX10_within cX10_within 3 (some .boolean)) ({ frames := 0, cells := 0, slots := 0, locals := 0 } : Room)).room = ({ frames := 0, cells := 0, slots := 0, locals := 0 } : Room) from rfl]
  have hl := lv_entry ([.int x0, .int x1, .int x2]) (n := 3) (Nat.le_of_ble_eq_true rfl)
  rw [show entryFrame m args 3 = entryFrame m ([.int x0, .int x1, .int x2] : List Value).toArray 3 from by rw [hav], lg_entry_eq]
  generalize (lg_sl ([.int x0, .int x1, .int x2]) ++ List.replicate (3 - (lg_sl ([.int x0, .int x1, .int x2])).length) Slot.unset).toArray = ls at hl ⊢
  have hl : lv_has ls 3 [(0, .int x0), (1, .int x1), (2, .int x2)] := hl
  have E0 : ∀ (H : Heap) (locs : List Loc) (ls : Array Slot), gG D cy ad (gA ad s.heap.size) s.heap h g H locs → lv_has ls 3 [(0, .int x0), (1, .int x1), (2, .int x2)] → W p l e ({ frames := 0, cells := 0, slots := 0, locals := 0 } : Room) s m args below meth c H locs 0 0 (MQ below (va_Qi (fun (r : Int32) (u : HI × HL) => zb r ∧ Q r u.1 u.2) (gB D cy ad s.heap.size) (gA ad s.heap.size)) args s 0 0 (gA ad s.heap.size)) (F0 m 0 ls []) := by
    intro H locs ls hG hl
    unfold w_X10_within at HW
    refine lv_iload_n hx hb dX10_within_0 rfl (lv_at hl 1 rfl) ?_
    refine lv_iload_n hx hb dX10_within_1 rfl (lv_at hl 0 rfl) ?_
    refine lv_icmp_gt (tgt := 14) hx hb dX10_within_2 (by decide) (fun c_2 => ?_) (fun c_2 => ?_)
    · replace HW := HW.1 c_2
      refine lv_iconst (v := 0) hx hb dX10_within_14 (by decide) ?_
      exact W.zret (v := (0 : Int32)) hx hb hr rfl (fun t ht hW => ⟨⟨(0 : Int32), (h, g), rfl, ⟨Or.inl rfl, HW⟩, g_B ht hG⟩, hG.2.2.F ht⟩) hG.2.2.2.2 dX10_within_15
    · replace HW := HW.2 c_2
      refine lv_iload_n hx hb dX10_within_5 rfl (lv_at hl 0 rfl) ?_
      refine lv_iload_n hx hb dX10_within_6 rfl (lv_at hl 2 rfl) ?_
      refine lv_icmp_gt (tgt := 14) hx hb dX10_within_7 (by decide) (fun c_7 => ?_) (fun c_7 => ?_)
      · replace HW := HW.1 c_7
        refine lv_iconst (v := 0) hx hb dX10_within_14 (by decide) ?_
        exact W.zret (v := (0 : Int32)) hx hb hr rfl (fun t ht hW => ⟨⟨(0 : Int32), (h, g), rfl, ⟨Or.inl rfl, HW⟩, g_B ht hG⟩, hG.2.2.F ht⟩) hG.2.2.2.2 dX10_within_15
      · replace HW := HW.2 c_7
        refine lv_iconst (v := 1) hx hb dX10_within_10 (by decide) ?_
        refine lv_goto (tgt := 15) hx hb dX10_within_11 (by decide) ?_
        exact W.zret (v := (1 : Int32)) hx hb hr rfl (fun t ht hW => ⟨⟨(1 : Int32), (h, g), rfl, ⟨Or.inr rfl, HW⟩, g_B ht hG⟩, hG.2.2.F ht⟩) hG.2.2.2.2 dX10_within_15
  exact E0 _ _ _ hG hl

def j_X0_times_59 (o : Nat) (Q : HI → HL → Prop) (x2 : Int64) (h : HI) (g : HL) : Prop :=
  (((lg_cmp x2 (0 : Int64)) ≤ 0 → Q h g) ∧ (¬ (lg_cmp x2 (0 : Int64)) ≤ 0 → (∃ P_72 : Int32 → HI → HL → Prop, w_X10_within (h o 1) (0 : Int32) (69 : Int32) h g P_72 ∧ ∀ (r_72 : Int32) (h_72 : HI) (g_72 : HL), zb r_72 → P_72 r_72 h_72 g_72 → ((r_72 = 0 → Q h_72 g_72) ∧ (¬ r_72 = 0 → (vp_in (h_72 o 1) 70 ∧ ∀ h_88 : HI, h_88 = hu h_72 (o + 1) (h_72 o 1).toNatClampNeg ((x2).toInt32) → (∀ h_96 : HI, h_96 = hu h_88 o 1 ((h_88 o 1) + (1 : Int32)) → Q h_96 g_72)))))))
def b_X0_times_5 (o : Nat) (Q : HI → HL → Prop) (K5 : Int32 → Int64 → Int32 → HI → HL → Prop) (x1 : Int32) (x2 : Int64) (x4 : Int32) (h : HI) (g : HL) : Prop :=
  (((h o 1) ≤ x4 → j_X0_times_59 o Q x2 h g) ∧ (¬ (h o 1) ≤ x4 → (((70 : Int32) ≤ x4 → j_X0_times_59 o Q x2 h g) ∧ (¬ (70 : Int32) ≤ x4 → (vp_in x4 70 ∧ (∀ x2_34 : Int64, x2_34 = (x2 + ((((h (o + 1) x4.toNatClampNeg)).toInt64) * ((x1).toInt64))) → (vp_in x4 70 ∧ ∀ h_47 : HI, h_47 = hu h (o + 1) x4.toNatClampNeg (((x2_34 &&& (1073741823 : Int64))).toInt32) → (∀ x2_52 : Int64, x2_52 = (x2_34 >>> ((30 : Int32).toInt64 &&& 63)) → (∀ x4_53 : Int32, x4_53 = (x4 + 1) → K5 x1 x2_52 x4_53 h_47 g)))))))))
def F_X0_times_5 (o : Nat) (Q : HI → HL → Prop) (K : Int32 × Int64 × Int32 × HI × HL → Prop) (q : Int32 × Int64 × Int32 × HI × HL) : Prop := b_X0_times_5 o Q (fun x1 x2 x4 h g => K (x1, x2, x4, h, g)) q.1 q.2.1 q.2.2.1 q.2.2.2.1 q.2.2.2.2
def w_X0_times (o : Nat) (x1 : Int32) (h : HI) (g : HL) (Q : HI → HL → Prop) : Prop :=
  lpE (F_X0_times_5 o Q) (x1, (0 : Int64), (0 : Int32), h, g)
set_option maxHeartbeats 8000000 in
set_option maxRecDepth 100000 in
theorem m_X0_times (l : Launch) (D : va_G) (cy : Nat → ClassId) (ad : Nat → Nat) (h : HI) (g : HL) (sz : Nat) (o : Nat) (hT : isB o) (x1 : Int32) (Q : HI → HL → Prop) (HW : w_X0_times o x1 h g Q) : Met l yX0_times (wa yX0_times cX0_times 5 none) ({ frames := 1, cells := 0, slots := 0, locals := 22 }) (va_Pc [.ref (ad o), .int x1] (gI D cy ad h g sz)) (va_Qv (fun (u : HI × HL) => Q u.1 u.2) (gB D cy ad sz) (gA ad sz)) 0 0 (gA ad sz) := by
  refine Met.ofW (cc := cX0_times) (maxL := 5) (ret := none) (by decide) rfl ?_
  intro p e s m args below meth c s₁ B hml hv
  obtain ⟨hav, hsz, hP, hK, hD0, hNw⟩ := hv
  have hx := B.exec
  have hb := B.bytes
  have hr := B.returns
  have hts := atoms_spec (ws := (wa yX0_times cX0_times 5 none)) B.pre
  have hw := wa_hw hts
  have hown : s.vm.findClass RX0 = some m.cls := findClass_of_methodNamed B.named
  have hlocks := B.notSynchronized
  subst hsz
  have hG : gG D cy ad (gA ad s.heap.size) s.heap h g s.heap [] := ⟨hP, gA_self hD0, va_S.rf⟩
  clear hP hD0
  have lk15 := hw (.fieldLink RX0 15 "OldWorks$Big" "many" "I") (wm2 82 rfl rfl)
  have lk11 := hw (.fieldLink RX0 11 "OldWorks$Big" "digits" "[I") (wm2 81 rfl rfl)
  have cn25 := hw (.constantLong RX0 25 (1073741823)) (wm4 66 rfl rfl)
  rw [show (headSpec (wa yX0_times cX0_times 5 none) ({ frames := 1, cells := 0, slots := 0, locals := 22 } : Room)).room = ({ frames := 1, cells := 0, slots := 0, locals := 22 } : Room) from rfl]
  have hl := lv_entry ([.ref (ad o), .int x1]) (n := 5) (Nat.le_of_ble_eq_true rfl)
  rw [show entryFrame m args 5 = entryFrame m ([.ref (ad o), .int x1] : List Value).toArray 5 from by rw [hav], lg_entry_eq]
  generalize (lg_sl ([.ref (ad o), .int x1]) ++ List.replicate (5 - (lg_sl ([.ref (ad o), .int x1])).length) Slot.unset).toArray = ls at hl ⊢
  have hl : lv_has ls 5 [(0, .ref (ad o)), (1, .int x1)] := hl
  have B59 : ∀ (x2 : Int64) (h : HI) (g : HL) (H : Heap) (locs : List Loc) (ls : Array Slot), j_X0_times_59 o Q x2 h g → gG D cy ad (gA ad s.heap.size) s.heap h g H locs → lv_has ls 5 [(0, .ref (ad o)), (2, .long x2)] → W p l e ({ frames := 1, cells := 0, slots := 0, locals := 22 } : Room) s m args below meth c H locs 0 0 (MQ below (va_Qv (fun (u : HI × HL) => Q u.1 u.2) (gB D cy ad s.heap.size) (gA ad s.heap.size)) args s 0 0 (gA ad s.heap.size)) (F0 m 59 ls []) := by
    intro x2 h g H locs ls HW hG hl
    unfold j_X0_times_59 at HW
    refine lv_lload_n hx hb dX0_times_59 rfl (lv_at hl 1 rfl) ?_
    refine lv_lconst (v := 0) hx hb dX0_times_60 (by decide) ?_
    refine W.lcmp hx hb dX0_times_61 ?_
    refine lv_if_le (tgt := 99) hx hb dX0_times_62 (by decide) (fun c_62 => ?_) (fun c_62 => ?_)
    · replace HW := HW.1 c_62
      exact W.vret hx hb hr (fun t ht hW => ⟨⟨(h, g), rfl, HW, g_B ht hG⟩, hG.2.2.F ht⟩) hG.2.2.2.2 dX0_times_99
    · replace HW := HW.2 c_62
      refine lv_aload_n hx hb dX0_times_65 rfl (lv_at hl 0 rfl) ?_
      refine g_geti hx hb hw inG0 hown hK hG hT.lt rfl hT.k (by decide) 1 (by decide) (by rw [hT.m]; decide) hT.r.2 lk15 dX0_times_66 ?_
      refine lv_iconst (v := 0) hx hb dX0_times_69 (by decide) ?_
      refine lv_bipush (v := 69) hx hb dX0_times_70 (by decide) ?_
      obtain ⟨P_72, HC_72, HW⟩ := HW
      refine g_callz (g_runSN (As := [.int (h o 1), .int (0 : Int32), .int (69 : Int32)]) (rest := []) ⟨hx, hb, hml, hown, hts⟩ (m_X10_within l D cy ad h g H.size (h o 1) (0 : Int32) (69 : Int32) P_72 HC_72) ⟨va_cnB 3 hts (gd_w (wm2 195 rfl rfl)) rfl rfl rfl (hNw _ (List.mem_of_getElem? (i := 0) rfl)) (hw (.initialized RX10) (wm1 1 rfl rfl)) (by decide +kernel) ⟨Nat.le_of_ble_eq_true rfl, Nat.le_of_ble_eq_true rfl⟩, hw (.static yX10_within) (wm2 194 rfl rfl), trivial⟩ hK hNw hG rfl rfl hl.1 rfl (lv_room (Nat.le_of_ble_eq_true rfl)) dX0_times_72 ⟨Nat.zero_le _, Nat.zero_le _⟩) hG (fun r_72 h_72 g_72 H locs hz hq hG => ?_)
      replace HW := HW r_72 h_72 g_72 hz hq
      refine lv_if_eq (tgt := 99) hx hb dX0_times_75 (by decide) (fun c_75 => ?_) (fun c_75 => ?_)
      · replace HW := HW.1 c_75
        exact W.vret hx hb hr (fun t ht hW => ⟨⟨(h_72, g_72), rfl, HW, g_B ht hG⟩, hG.2.2.F ht⟩) hG.2.2.2.2 dX0_times_99
      · replace HW := HW.2 c_75
        refine lv_aload_n hx hb dX0_times_78 rfl (lv_at hl 0 rfl) ?_
        refine g_getr hx hb hw inG0 hown hK hG hT.lt rfl hT.k (by decide) 0 (by decide) (by rw [hT.m]; decide) (r := (o + 1)) hT.r.1 lk11 dX0_times_79 ?_
        refine lv_aload_n hx hb dX0_times_82 rfl (lv_at hl 0 rfl) ?_
        refine g_geti hx hb hw inG0 hown hK hG hT.lt rfl hT.k (by decide) 1 (by decide) (by rw [hT.m]; decide) hT.r.2 lk15 dX0_times_83 ?_
        refine lv_lload_n hx hb dX0_times_86 rfl (lv_at hl 1 rfl) ?_
        refine lv_l2i hx hb dX0_times_87 rfl ?_
        refine g_iast hx hb hK hG hT.a.2.1 hT.a.1 hT.a.2.2 HW.1 dX0_times_88 (fun H locs hG => ?_)
        replace HW := HW.2
        obtain ⟨h_88, eh_88⟩ : ∃ y : HI, y = hu h_72 (o + 1) (h_72 o 1).toNatClampNeg ((x2).toInt32) := ⟨_, rfl⟩
        rw [← eh_88] at hG
        replace HW := HW h_88 eh_88
        refine lv_aload_n hx hb dX0_times_89 rfl (lv_at hl 0 rfl) ?_
        refine lv_dup hx hb dX0_times_90 rfl ?_
        refine g_geti hx hb hw inG0 hown hK hG hT.lt rfl hT.k (by decide) 1 (by decide) (by rw [hT.m]; decide) hT.r.2 lk15 dX0_times_91 ?_
        refine lv_iconst (v := 1) hx hb dX0_times_94 (by decide) ?_
        refine lv_iadd hx hb dX0_times_95 ?_
        refine g_put hx hb hw inG0 tyX0 tyX0_ok nmX0 hown hK hG hT.lt rfl hT.k (by decide) 1 (by decide) (by rw [hT.m]; decide) hT.r.2 rfl (ty := .int) (by decide +kernel) rfl rfl lk15 dX0_times_96 (fun H locs hG => ?_)
        obtain ⟨h_96, eh_96⟩ : ∃ y : HI, y = hu h_88 o 1 ((h_88 o 1) + (1 : Int32)) := ⟨_, rfl⟩
        rw [← eh_96] at hG
        replace HW := HW h_96 eh_96
        exact W.vret hx hb hr (fun t ht hW => ⟨⟨(h_96, g_72), rfl, HW, g_B ht hG⟩, hG.2.2.F ht⟩) hG.2.2.2.2 dX0_times_99
  have L5 : ∀ (n : Nat) (x1 : Int32) (x2 : Int64) (x4 : Int32) (h : HI) (g : HL) (H : Heap) (locs : List Loc) (ls : Array Slot), lpN (F_X0_times_5 o Q) n (x1, x2, x4, h, g) → gG D cy ad (gA ad s.heap.size) s.heap h g H locs → lv_has ls 5 [(0, .ref (ad o)), (1, .int x1), (2, .long x2), (4, .int x4)] → W p l e ({ frames := 1, cells := 0, slots := 0, locals := 22 } : Room) s m args below meth c H locs 0 0 (MQ below (va_Qv (fun (u : HI × HL) => Q u.1 u.2) (gB D cy ad s.heap.size) (gA ad s.heap.size)) args s 0 0 (gA ad s.heap.size)) (F0 m 5 ls []) := by
    intro n
    induction n with
    | zero => intro x1 x2 x4 h g H locs ls HW; exact HW.elim
    | succ n ih =>
      intro x1 x2 x4 h g H locs ls HW hG hl
      have HW : b_X0_times_5 o Q (fun x1 x2 x4 h g => lpN (F_X0_times_5 o Q) n (x1, x2, x4, h, g)) x1 x2 x4 h g := HW
      generalize hKe : (fun (x1 : Int32) (x2 : Int64) (x4 : Int32) (h : HI) (g : HL) => lpN (F_X0_times_5 o Q) n (x1, x2, x4, h, g)) = K5 at HW
      have hK5 : ∀ (x1 : Int32) (x2 : Int64) (x4 : Int32) (h : HI) (g : HL) (H : Heap) (locs : List Loc) (ls : Array Slot), K5 x1 x2 x4 h g → gG D cy ad (gA ad s.heap.size) s.heap h g H locs → lv_has ls 5 [(0, .ref (ad o)), (1, .int x1), (2, .long x2), (4, .int x4)] → W p l e ({ frames := 1, cells := 0, slots := 0, locals := 22 } : Room) s m args below meth c H locs 0 0 (MQ below (va_Qv (fun (u : HI × HL) => Q u.1 u.2) (gB D cy ad s.heap.size) (gA ad s.heap.size)) args s 0 0 (gA ad s.heap.size)) (F0 m 5 ls []) := by subst hKe; exact ih
      clear ih
      clear hKe
      unfold b_X0_times_5 at HW
      refine lv_iload hx hb dX0_times_5 (lv_at hl 3 rfl) ?_
      refine lv_aload_n hx hb dX0_times_7 rfl (lv_at hl 0 rfl) ?_
      refine g_geti hx hb hw inG0 hown hK hG hT.lt rfl hT.k (by decide) 1 (by decide) (by rw [hT.m]; decide) hT.r.2 lk15 dX0_times_8 ?_
      refine lv_icmp_ge (tgt := 59) hx hb dX0_times_11 (by decide) (fun c_11 => ?_) (fun c_11 => ?_)
      · replace HW := HW.1 c_11
        exact B59 x2 h g _ _ _ HW hG (lv_sub hl [0, 2] rfl)
      · replace HW := HW.2 c_11
        refine lv_iload hx hb dX0_times_14 (lv_at hl 3 rfl) ?_
        refine lv_bipush (v := 70) hx hb dX0_times_16 (by decide) ?_
        refine lv_icmp_ge (tgt := 59) hx hb dX0_times_18 (by decide) (fun c_18 => ?_) (fun c_18 => ?_)
        · replace HW := HW.1 c_18
          exact B59 x2 h g _ _ _ HW hG (lv_sub hl [0, 2] rfl)
        · replace HW := HW.2 c_18
          refine lv_lload_n hx hb dX0_times_21 rfl (lv_at hl 2 rfl) ?_
          refine lv_aload_n hx hb dX0_times_22 rfl (lv_at hl 0 rfl) ?_
          refine g_getr hx hb hw inG0 hown hK hG hT.lt rfl hT.k (by decide) 0 (by decide) (by rw [hT.m]; decide) (r := (o + 1)) hT.r.1 lk11 dX0_times_23 ?_
          refine lv_iload hx hb dX0_times_26 (lv_at hl 3 rfl) ?_
          refine g_iald hx hb hK hG hT.a.2.1 hT.a.1 hT.a.2.2 HW.1 dX0_times_28 ?_
          replace HW := HW.2
          refine lv_i2l hx hb dX0_times_29 rfl ?_
          refine lv_iload_n hx hb dX0_times_30 rfl (lv_at hl 1 rfl) ?_
          refine lv_i2l hx hb dX0_times_31 rfl ?_
          refine lv_lmul hx hb dX0_times_32 ?_
          refine lv_ladd hx hb dX0_times_33 ?_
          refine lv_topl (fun x2_34 ex2_34 => ?_)
          replace HW := HW x2_34 ex2_34
          refine lv_lstore_n (lv' := [(2, .long x2_34), (0, .ref (ad o)), (1, .int x1), (4, .int x4)]) hx hb dX0_times_34 rfl hl (by decide) rfl (fun ls hl => ?_)
          refine lv_aload_n hx hb dX0_times_35 rfl (lv_at hl 1 rfl) ?_
          refine g_getr hx hb hw inG0 hown hK hG hT.lt rfl hT.k (by decide) 0 (by decide) (by rw [hT.m]; decide) (r := (o + 1)) hT.r.1 lk11 dX0_times_36 ?_
          refine lv_iload hx hb dX0_times_39 (lv_at hl 3 rfl) ?_
          refine lv_lload_n hx hb dX0_times_41 rfl (lv_at hl 0 rfl) ?_
          refine lv_ldc2 (v := 1073741823) hx hb hown cn25 dX0_times_42 ?_
          refine lv_land hx hb dX0_times_45 ?_
          refine lv_l2i hx hb dX0_times_46 rfl ?_
          refine g_iast hx hb hK hG hT.a.2.1 hT.a.1 hT.a.2.2 HW.1 dX0_times_47 (fun H locs hG => ?_)
          replace HW := HW.2
          obtain ⟨h_47, eh_47⟩ : ∃ y : HI, y = hu h (o + 1) x4.toNatClampNeg (((x2_34 &&& (1073741823 : Int64))).toInt32) := ⟨_, rfl⟩
          rw [← eh_47] at hG
          replace HW := HW h_47 eh_47
          refine lv_lload_n hx hb dX0_times_48 rfl (lv_at hl 0 rfl) ?_
          refine lv_bipush (v := 30) hx hb dX0_times_49 (by decide) ?_
          refine lv_lshr hx hb dX0_times_51 rfl ?_
          refine lv_topl (fun x2_52 ex2_52 => ?_)
          replace HW := HW x2_52 ex2_52
          refine lv_lstore_n (lv' := [(2, .long x2_52), (0, .ref (ad o)), (1, .int x1), (4, .int x4)]) hx hb dX0_times_52 rfl hl (by decide) rfl (fun ls hl => ?_)
          obtain ⟨x4_53, ex4_53⟩ : ∃ y : Int32, y = (x4 + 1) := ⟨_, rfl⟩
          replace HW := HW x4_53 ex4_53
          refine lv_iinc (v := x4_53) (lv' := [(4, .int x4_53), (2, .long x2_52), (0, .ref (ad o)), (1, .int x1)]) hx hb dX0_times_53 hl (k := 3) rfl (by rw [ex4_53]; rfl) (by decide) rfl (fun ls hl => ?_)
          refine lv_goto (tgt := 5) hx hb dX0_times_56 (by decide) ?_
          exact hK5 x1 x2_52 x4_53 h_47 g _ _ _ HW hG (lv_sub hl [2, 3, 1, 0] rfl)
  have E0 : ∀ (H : Heap) (locs : List Loc) (ls : Array Slot), gG D cy ad (gA ad s.heap.size) s.heap h g H locs → lv_has ls 5 [(0, .ref (ad o)), (1, .int x1)] → W p l e ({ frames := 1, cells := 0, slots := 0, locals := 22 } : Room) s m args below meth c H locs 0 0 (MQ below (va_Qv (fun (u : HI × HL) => Q u.1 u.2) (gB D cy ad s.heap.size) (gA ad s.heap.size)) args s 0 0 (gA ad s.heap.size)) (F0 m 0 ls []) := by
    intro H locs ls hG hl
    unfold w_X0_times at HW
    refine lv_lconst (v := 0) hx hb dX0_times_0 (by decide) ?_
    refine lv_lstore_n (lv' := [(2, .long (0 : Int64)), (0, .ref (ad o)), (1, .int x1)]) hx hb dX0_times_1 rfl hl (by decide) rfl (fun ls hl => ?_)
    refine lv_iconst (v := 0) hx hb dX0_times_2 (by decide) ?_
    refine lv_istore (lv' := [(4, .int (0 : Int32)), (2, .long (0 : Int64)), (0, .ref (ad o)), (1, .int x1)]) hx hb dX0_times_3 hl (by decide) rfl (fun ls hl => ?_)
    obtain ⟨n_5, HW⟩ := HW
    exact L5 n_5 x1 (0 : Int64) (0 : Int32) h g _ _ _ HW hG (lv_sub hl [2, 3, 1, 0] rfl)
  exact E0 _ _ _ hG hl

def b_X0_above_35 (o : Nat) (o1 : Nat) (Q : Int32 → HI → HL → Prop) (K35 : Int32 → HI → HL → Prop) (x2 : Int32) (h : HI) (g : HL) : Prop :=
  ((x2 < 0 → Q (0 : Int32) h g) ∧ (¬ x2 < 0 → (((70 : Int32) ≤ x2 → Q (0 : Int32) h g) ∧ (¬ (70 : Int32) ≤ x2 → (vp_in x2 70 ∧ (vp_in x2 70 ∧ (((h (o + 1) x2.toNatClampNeg) = (h (o1 + 1) x2.toNatClampNeg) → (∀ x2_81 : Int32, x2_81 = (x2 + (-1)) → K35 x2_81 h g)) ∧ (¬ (h (o + 1) x2.toNatClampNeg) = (h (o1 + 1) x2.toNatClampNeg) → (vp_in x2 70 ∧ (vp_in x2 70 ∧ (((h (o + 1) x2.toNatClampNeg) ≤ (h (o1 + 1) x2.toNatClampNeg) → Q (0 : Int32) h g) ∧ (¬ (h (o + 1) x2.toNatClampNeg) ≤ (h (o1 + 1) x2.toNatClampNeg) → Q (1 : Int32) h g))))))))))))
def F_X0_above_35 (o : Nat) (o1 : Nat) (Q : Int32 → HI → HL → Prop) (K : Int32 × HI × HL → Prop) (q : Int32 × HI × HL) : Prop := b_X0_above_35 o o1 Q (fun x2 h g => K (x2, h, g)) q.1 q.2.1 q.2.2
def w_X0_above (o : Nat) (o1 : Nat) (h : HI) (g : HL) (Q : Int32 → HI → HL → Prop) : Prop :=
  (((h o 1) = (h o1 1) → (∀ x2_34 : Int32, x2_34 = ((h o 1) - (1 : Int32)) → lpE (F_X0_above_35 o o1 Q) (x2_34, h, g))) ∧ (¬ (h o 1) = (h o1 1) → (((h o 1) ≤ (h o1 1) → Q (0 : Int32) h g) ∧ (¬ (h o 1) ≤ (h o1 1) → Q (1 : Int32) h g))))
set_option maxHeartbeats 8000000 in
set_option maxRecDepth 100000 in
theorem m_X0_above (l : Launch) (D : va_G) (cy : Nat → ClassId) (ad : Nat → Nat) (h : HI) (g : HL) (sz : Nat) (o : Nat) (hT : isB o) (o1 : Nat) (hT1 : isB o1) (Q : Int32 → HI → HL → Prop) (HW : w_X0_above o o1 h g Q) : Met l yX0_above (wa yX0_above cX0_above 3 (some .boolean)) ({ frames := 0, cells := 0, slots := 0, locals := 0 }) (va_Pc [.ref (ad o), .ref (ad o1)] (gI D cy ad h g sz)) (va_Qi (fun (r : Int32) (u : HI × HL) => zb r ∧ Q r u.1 u.2) (gB D cy ad sz) (gA ad sz)) 0 0 (gA ad sz) := by
  refine Met.ofW (cc := cX0_above) (maxL := 3) (ret := (some .boolean)) (by decide) rfl ?_
  intro p e s m args below meth c s₁ B hml hv
  obtain ⟨hav, hsz, hP, hK, hD0, hNw⟩ := hv
  have hx := B.exec
  have hb := B.bytes
  have hr := B.returns
  have hts := atoms_spec (ws := (wa yX0_above cX0_above 3 (some .boolean))) B.pre
  have hw := wa_hw hts
  have hown : s.vm.findClass RX0 = some m.cls := findClass_of_methodNamed B.named
  have hlocks := B.notSynchronized
  subst hsz
  have hG : gG D cy ad (gA ad s.heap.size) s.heap h g s.heap [] := ⟨hP, gA_self hD0, va_S.rf⟩
  clear hP hD0
  have lk15 := hw (.fieldLink RX0 15 "OldWorks$Big" "many" "I") (wm2 82 rfl rfl)
  have lk11 := hw (.fieldLink RX0 11 "OldWorks$Big" "digits" "[I") (wm2 81 rfl rfl)
  rw [show (headSpec (wa yX0_above cX0_above 3 (some .boolean)) ({ frames := 0, cells := 0, slots := 0, locals := 0 } : Room)).room = ({ frames := 0, cells := 0, slots := 0, locals := 0 } : Room) from rfl]
  have hl := lv_entry ([.ref (ad o), .ref (ad o1)]) (n := 3) (Nat.le_of_ble_eq_true rfl)
  rw [show entryFrame m args 3 = entryFrame m ([.ref (ad o), .ref (ad o1)] : List Value).toArray 3 from by rw [hav], lg_entry_eq]
  generalize (lg_sl ([.ref (ad o), .ref (ad o1)]) ++ List.replicate (3 - (lg_sl ([.ref (ad o), .ref (ad o1)])).length) Slot.unset).toArray = ls at hl ⊢
  have hl : lv_has ls 3 [(0, .ref (ad o)), (1, .ref (ad o1))] := hl
  have L35 : ∀ (n : Nat) (x2 : Int32) (h : HI) (g : HL) (H : Heap) (locs : List Loc) (ls : Array Slot), lpN (F_X0_above_35 o o1 Q) n (x2, h, g) → gG D cy ad (gA ad s.heap.size) s.heap h g H locs → lv_has ls 3 [(0, .ref (ad o)), (1, .ref (ad o1)), (2, .int x2)] → W p l e ({ frames := 0, cells := 0, slots := 0, locals := 0 } : Room) s m args below meth c H locs 0 0 (MQ below (va_Qi (fun (r : Int32) (u : HI × HL) => zb r ∧ Q r u.1 u.2) (gB D cy ad s.heap.size) (gA ad s.heap.size)) args s 0 0 (gA ad s.heap.size)) (F0 m 35 ls []) := by
    intro n
    induction n with
    | zero => intro x2 h g H locs ls HW; exact HW.elim
    | succ n ih =>
      intro x2 h g H locs ls HW hG hl
      have HW : b_X0_above_35 o o1 Q (fun x2 h g => lpN (F_X0_above_35 o o1 Q) n (x2, h, g)) x2 h g := HW
      generalize hKe : (fun (x2 : Int32) (h : HI) (g : HL) => lpN (F_X0_above_35 o o1 Q) n (x2, h, g)) = K35 at HW
      have hK35 : ∀ (x2 : Int32) (h : HI) (g : HL) (H : Heap) (locs : List Loc) (ls : Array Slot), K35 x2 h g → gG D cy ad (gA ad s.heap.size) s.heap h g H locs → lv_has ls 3 [(0, .ref (ad o)), (1, .ref (ad o1)), (2, .int x2)] → W p l e ({ frames := 0, cells := 0, slots := 0, locals := 0 } : Room) s m args below meth c H locs 0 0 (MQ below (va_Qi (fun (r : Int32) (u : HI × HL) => zb r ∧ Q r u.1 u.2) (gB D cy ad s.heap.size) (gA ad s.heap.size)) args s 0 0 (gA ad s.heap.size)) (F0 m 35 ls []) := by subst hKe; exact ih
      clear ih
      clear hKe
      unfold b_X0_above_35 at HW
      refine lv_iload_n hx hb dX0_above_35 rfl (lv_at hl 2 rfl) ?_
      refine lv_if_lt (tgt := 87) hx hb dX0_above_36 (by decide) (fun c_36 => ?_) (fun c_36 => ?_)
      · replace HW := HW.1 c_36
        refine lv_iconst (v := 0) hx hb dX0_above_87 (by decide) ?_
        exact W.zret (v := (0 : Int32)) hx hb hr rfl (fun t ht hW => ⟨⟨(0 : Int32), (h, g), rfl, ⟨Or.inl rfl, HW⟩, g_B ht hG⟩, hG.2.2.F ht⟩) hG.2.2.2.2 dX0_above_88
      · replace HW := HW.2 c_36
        refine lv_iload_n hx hb dX0_above_39 rfl (lv_at hl 2 rfl) ?_
        refine lv_bipush (v := 70) hx hb dX0_above_40 (by decide) ?_
        refine lv_icmp_ge (tgt := 87) hx hb dX0_above_42 (by decide) (fun c_42 => ?_) (fun c_42 => ?_)
        · replace HW := HW.1 c_42
          refine lv_iconst (v := 0) hx hb dX0_above_87 (by decide) ?_
          exact W.zret (v := (0 : Int32)) hx hb hr rfl (fun t ht hW => ⟨⟨(0 : Int32), (h, g), rfl, ⟨Or.inl rfl, HW⟩, g_B ht hG⟩, hG.2.2.F ht⟩) hG.2.2.2.2 dX0_above_88
        · replace HW := HW.2 c_42
          refine lv_aload_n hx hb dX0_above_45 rfl (lv_at hl 0 rfl) ?_
          refine g_getr hx hb hw inG0 hown hK hG hT.lt rfl hT.k (by decide) 0 (by decide) (by rw [hT.m]; decide) (r := (o + 1)) hT.r.1 lk11 dX0_above_46 ?_
          refine lv_iload_n hx hb dX0_above_49 rfl (lv_at hl 2 rfl) ?_
          refine g_iald hx hb hK hG hT.a.2.1 hT.a.1 hT.a.2.2 HW.1 dX0_above_50 ?_
          replace HW := HW.2
          refine lv_aload_n hx hb dX0_above_51 rfl (lv_at hl 1 rfl) ?_
          refine g_getr hx hb hw inG0 hown hK hG hT1.lt rfl hT1.k (by decide) 0 (by decide) (by rw [hT1.m]; decide) (r := (o1 + 1)) hT1.r.1 lk11 dX0_above_52 ?_
          refine lv_iload_n hx hb dX0_above_55 rfl (lv_at hl 2 rfl) ?_
          refine g_iald hx hb hK hG hT1.a.2.1 hT1.a.1 hT1.a.2.2 HW.1 dX0_above_56 ?_
          replace HW := HW.2
          refine lv_icmp_eq (tgt := 81) hx hb dX0_above_57 (by decide) (fun c_57 => ?_) (fun c_57 => ?_)
          · replace HW := HW.1 c_57
            obtain ⟨x2_81, ex2_81⟩ : ∃ y : Int32, y = (x2 + (-1)) := ⟨_, rfl⟩
            replace HW := HW x2_81 ex2_81
            refine lv_iinc (v := x2_81) (lv' := [(2, .int x2_81), (0, .ref (ad o)), (1, .ref (ad o1))]) hx hb dX0_above_81 hl (k := 2) rfl (by rw [ex2_81]; rfl) (by decide) rfl (fun ls hl => ?_)
            refine lv_goto (tgt := 35) hx hb dX0_above_84 (by decide) ?_
            exact hK35 x2_81 h g _ _ _ HW hG (lv_sub hl [1, 2, 0] rfl)
          · replace HW := HW.2 c_57
            refine lv_aload_n hx hb dX0_above_60 rfl (lv_at hl 0 rfl) ?_
            refine g_getr hx hb hw inG0 hown hK hG hT.lt rfl hT.k (by decide) 0 (by decide) (by rw [hT.m]; decide) (r := (o + 1)) hT.r.1 lk11 dX0_above_61 ?_
            refine lv_iload_n hx hb dX0_above_64 rfl (lv_at hl 2 rfl) ?_
            refine g_iald hx hb hK hG hT.a.2.1 hT.a.1 hT.a.2.2 HW.1 dX0_above_65 ?_
            replace HW := HW.2
            refine lv_aload_n hx hb dX0_above_66 rfl (lv_at hl 1 rfl) ?_
            refine g_getr hx hb hw inG0 hown hK hG hT1.lt rfl hT1.k (by decide) 0 (by decide) (by rw [hT1.m]; decide) (r := (o1 + 1)) hT1.r.1 lk11 dX0_above_67 ?_
            refine lv_iload_n hx hb dX0_above_70 rfl (lv_at hl 2 rfl) ?_
            refine g_iald hx hb hK hG hT1.a.2.1 hT1.a.1 hT1.a.2.2 HW.1 dX0_above_71 ?_
            replace HW := HW.2
            refine lv_icmp_le (tgt := 79) hx hb dX0_above_72 (by decide) (fun c_72 => ?_) (fun c_72 => ?_)
            · replace HW := HW.1 c_72
              refine lv_iconst (v := 0) hx hb dX0_above_79 (by decide) ?_
              exact W.zret (v := (0 : Int32)) hx hb hr rfl (fun t ht hW => ⟨⟨(0 : Int32), (h, g), rfl, ⟨Or.inl rfl, HW⟩, g_B ht hG⟩, hG.2.2.F ht⟩) hG.2.2.2.2 dX0_above_80
            · replace HW := HW.2 c_72
              refine lv_iconst (v := 1) hx hb dX0_above_75 (by decide) ?_
              refine lv_goto (tgt := 80) hx hb dX0_above_76 (by decide) ?_
              exact W.zret (v := (1 : Int32)) hx hb hr rfl (fun t ht hW => ⟨⟨(1 : Int32), (h, g), rfl, ⟨Or.inr rfl, HW⟩, g_B ht hG⟩, hG.2.2.F ht⟩) hG.2.2.2.2 dX0_above_80
  have E0 : ∀ (H : Heap) (locs : List Loc) (ls : Array Slot), gG D cy ad (gA ad s.heap.size) s.heap h g H locs → lv_has ls 3 [(0, .ref (ad o)), (1, .ref (ad o1))] → W p l e ({ frames := 0, cells := 0, slots := 0, locals := 0 } : Room) s m args below meth c H locs 0 0 (MQ below (va_Qi (fun (r : Int32) (u : HI × HL) => zb r ∧ Q r u.1 u.2) (gB D cy ad s.heap.size) (gA ad s.heap.size)) args s 0 0 (gA ad s.heap.size)) (F0 m 0 ls []) := by
    intro H locs ls hG hl
    unfold w_X0_above at HW
    refine lv_aload_n hx hb dX0_above_0 rfl (lv_at hl 0 rfl) ?_
    refine g_geti hx hb hw inG0 hown hK hG hT.lt rfl hT.k (by decide) 1 (by decide) (by rw [hT.m]; decide) hT.r.2 lk15 dX0_above_1 ?_
    refine lv_aload_n hx hb dX0_above_4 rfl (lv_at hl 1 rfl) ?_
    refine g_geti hx hb hw inG0 hown hK hG hT1.lt rfl hT1.k (by decide) 1 (by decide) (by rw [hT1.m]; decide) hT1.r.2 lk15 dX0_above_5 ?_
    refine lv_icmp_eq (tgt := 28) hx hb dX0_above_8 (by decide) (fun c_8 => ?_) (fun c_8 => ?_)
    · replace HW := HW.1 c_8
      refine lv_aload_n hx hb dX0_above_28 rfl (lv_at hl 0 rfl) ?_
      refine g_geti hx hb hw inG0 hown hK hG hT.lt rfl hT.k (by decide) 1 (by decide) (by rw [hT.m]; decide) hT.r.2 lk15 dX0_above_29 ?_
      refine lv_iconst (v := 1) hx hb dX0_above_32 (by decide) ?_
      refine lv_isub hx hb dX0_above_33 ?_
      refine lv_topi (fun x2_34 ex2_34 => ?_)
      replace HW := HW x2_34 ex2_34
      refine lv_istore_n (lv' := [(2, .int x2_34), (0, .ref (ad o)), (1, .ref (ad o1))]) hx hb dX0_above_34 rfl hl (by decide) rfl (fun ls hl => ?_)
      obtain ⟨n_35, HW⟩ := HW
      exact L35 n_35 x2_34 h g _ _ _ HW hG (lv_sub hl [1, 2, 0] rfl)
    · replace HW := HW.2 c_8
      refine lv_aload_n hx hb dX0_above_11 rfl (lv_at hl 0 rfl) ?_
      refine g_geti hx hb hw inG0 hown hK hG hT.lt rfl hT.k (by decide) 1 (by decide) (by rw [hT.m]; decide) hT.r.2 lk15 dX0_above_12 ?_
      refine lv_aload_n hx hb dX0_above_15 rfl (lv_at hl 1 rfl) ?_
      refine g_geti hx hb hw inG0 hown hK hG hT1.lt rfl hT1.k (by decide) 1 (by decide) (by rw [hT1.m]; decide) hT1.r.2 lk15 dX0_above_16 ?_
      refine lv_icmp_le (tgt := 26) hx hb dX0_above_19 (by decide) (fun c_19 => ?_) (fun c_19 => ?_)
      · replace HW := HW.1 c_19
        refine lv_iconst (v := 0) hx hb dX0_above_26 (by decide) ?_
        exact W.zret (v := (0 : Int32)) hx hb hr rfl (fun t ht hW => ⟨⟨(0 : Int32), (h, g), rfl, ⟨Or.inl rfl, HW⟩, g_B ht hG⟩, hG.2.2.F ht⟩) hG.2.2.2.2 dX0_above_27
      · replace HW := HW.2 c_19
        refine lv_iconst (v := 1) hx hb dX0_above_22 (by decide) ?_
        refine lv_goto (tgt := 27) hx hb dX0_above_23 (by decide) ?_
        exact W.zret (v := (1 : Int32)) hx hb hr rfl (fun t ht hW => ⟨⟨(1 : Int32), (h, g), rfl, ⟨Or.inr rfl, HW⟩, g_B ht hG⟩, hG.2.2.F ht⟩) hG.2.2.2.2 dX0_above_27
  exact E0 _ _ _ hG hl

def w_X0_rows (o : Nat) (h : HI) (g : HL) (Q : Int32 → HI → HL → Prop) : Prop :=
  Q (h o 1) h g
set_option maxHeartbeats 8000000 in
set_option maxRecDepth 100000 in
theorem m_X0_rows (l : Launch) (D : va_G) (cy : Nat → ClassId) (ad : Nat → Nat) (h : HI) (g : HL) (sz : Nat) (o : Nat) (hT : isB o) (Q : Int32 → HI → HL → Prop) (HW : w_X0_rows o h g Q) : Met l yX0_rows (wa yX0_rows cX0_rows 1 (some .int)) ({ frames := 0, cells := 0, slots := 0, locals := 0 }) (va_Pc [.ref (ad o)] (gI D cy ad h g sz)) (va_Qi (fun (r : Int32) (u : HI × HL) => Q r u.1 u.2) (gB D cy ad sz) (gA ad sz)) 0 0 (gA ad sz) := by
  refine Met.ofW (cc := cX0_rows) (maxL := 1) (ret := (some .int)) (by decide) rfl ?_
  intro p e s m args below meth c s₁ B hml hv
  obtain ⟨hav, hsz, hP, hK, hD0, hNw⟩ := hv
  have hx := B.exec
  have hb := B.bytes
  have hr := B.returns
  have hts := atoms_spec (ws := (wa yX0_rows cX0_rows 1 (some .int))) B.pre
  have hw := wa_hw hts
  have hown : s.vm.findClass RX0 = some m.cls := findClass_of_methodNamed B.named
  have hlocks := B.notSynchronized
  subst hsz
  have hG : gG D cy ad (gA ad s.heap.size) s.heap h g s.heap [] := ⟨hP, gA_self hD0, va_S.rf⟩
  clear hP hD0
  have lk15 := hw (.fieldLink RX0 15 "OldWorks$Big" "many" "I") (wm2 82 rfl rfl)
  rw [show (headSpec (wa yX0_rows cX0_rows 1 (some .int)) ({ frames := 0, cells := 0, slots := 0, locals := 0 } : Room)).room = ({ frames := 0, cells := 0, slots := 0, locals := 0 } : Room) from rfl]
  have hl := lv_entry ([.ref (ad o)]) (n := 1) (Nat.le_of_ble_eq_true rfl)
  rw [show entryFrame m args 1 = entryFrame m ([.ref (ad o)] : List Value).toArray 1 from by rw [hav], lg_entry_eq]
  generalize (lg_sl ([.ref (ad o)]) ++ List.replicate (1 - (lg_sl ([.ref (ad o)])).length) Slot.unset).toArray = ls at hl ⊢
  have hl : lv_has ls 1 [(0, .ref (ad o))] := hl
  have E0 : ∀ (H : Heap) (locs : List Loc) (ls : Array Slot), gG D cy ad (gA ad s.heap.size) s.heap h g H locs → lv_has ls 1 [(0, .ref (ad o))] → W p l e ({ frames := 0, cells := 0, slots := 0, locals := 0 } : Room) s m args below meth c H locs 0 0 (MQ below (va_Qi (fun (r : Int32) (u : HI × HL) => Q r u.1 u.2) (gB D cy ad s.heap.size) (gA ad s.heap.size)) args s 0 0 (gA ad s.heap.size)) (F0 m 0 ls []) := by
    intro H locs ls hG hl
    unfold w_X0_rows at HW
    refine lv_aload_n hx hb dX0_rows_0 rfl (lv_at hl 0 rfl) ?_
    refine g_geti hx hb hw inG0 hown hK hG hT.lt rfl hT.k (by decide) 1 (by decide) (by rw [hT.m]; decide) hT.r.2 lk15 dX0_rows_1 ?_
    exact W.iret (v := (h o 1)) hx hb hr (fun t ht hW => ⟨⟨(h o 1), (h, g), rfl, HW, g_B ht hG⟩, hG.2.2.F ht⟩) hG.2.2.2.2 dX0_rows_4
  exact E0 _ _ _ hG hl

def w_X0_at (o : Nat) (x1 : Int32) (h : HI) (g : HL) (Q : Int32 → HI → HL → Prop) : Prop :=
  (∃ P_8 : Int32 → HI → HL → Prop, w_X10_within x1 (0 : Int32) ((h o 1) - (1 : Int32)) h g P_8 ∧ ∀ (r_8 : Int32) (h_8 : HI) (g_8 : HL), zb r_8 → P_8 r_8 h_8 g_8 → ((r_8 = 0 → Q (-1 : Int32) h_8 g_8) ∧ (¬ r_8 = 0 → (((70 : Int32) ≤ x1 → Q (-1 : Int32) h_8 g_8) ∧ (¬ (70 : Int32) ≤ x1 → (vp_in x1 70 ∧ Q (h_8 (o + 1) x1.toNatClampNeg) h_8 g_8))))))
set_option maxHeartbeats 8000000 in
set_option maxRecDepth 100000 in
theorem m_X0_at (l : Launch) (D : va_G) (cy : Nat → ClassId) (ad : Nat → Nat) (h : HI) (g : HL) (sz : Nat) (o : Nat) (hT : isB o) (x1 : Int32) (Q : Int32 → HI → HL → Prop) (HW : w_X0_at o x1 h g Q) : Met l yX0_at (wa yX0_at cX0_at 2 (some .int)) ({ frames := 1, cells := 0, slots := 0, locals := 22 }) (va_Pc [.ref (ad o), .int x1] (gI D cy ad h g sz)) (va_Qi (fun (r : Int32) (u : HI × HL) => Q r u.1 u.2) (gB D cy ad sz) (gA ad sz)) 0 0 (gA ad sz) := by
  refine Met.ofW (cc := cX0_at) (maxL := 2) (ret := (some .int)) (by decide) rfl ?_
  intro p e s m args below meth c s₁ B hml hv
  obtain ⟨hav, hsz, hP, hK, hD0, hNw⟩ := hv
  have hx := B.exec
  have hb := B.bytes
  have hr := B.returns
  have hts := atoms_spec (ws := (wa yX0_at cX0_at 2 (some .int))) B.pre
  have hw := wa_hw hts
  have hown : s.vm.findClass RX0 = some m.cls := findClass_of_methodNamed B.named
  have hlocks := B.notSynchronized
  subst hsz
  have hG : gG D cy ad (gA ad s.heap.size) s.heap h g s.heap [] := ⟨hP, gA_self hD0, va_S.rf⟩
  clear hP hD0
  have lk15 := hw (.fieldLink RX0 15 "OldWorks$Big" "many" "I") (wm2 82 rfl rfl)
  have lk11 := hw (.fieldLink RX0 11 "OldWorks$Big" "digits" "[I") (wm2 81 rfl rfl)
  rw [show (headSpec (wa yX0_at cX0_at 2 (some .int)) ({ frames := 1, cells := 0, slots := 0, locals := 22 } : Room)).room = ({ frames := 1, cells := 0, slots := 0, locals := 22 } : Room) from rfl]
  have hl := lv_entry ([.ref (ad o), .int x1]) (n := 2) (Nat.le_of_ble_eq_true rfl)
  rw [show entryFrame m args 2 = entryFrame m ([.ref (ad o), .int x1] : List Value).toArray 2 from by rw [hav], lg_entry_eq]
  generalize (lg_sl ([.ref (ad o), .int x1]) ++ List.replicate (2 - (lg_sl ([.ref (ad o), .int x1])).length) Slot.unset).toArray = ls at hl ⊢
  have hl : lv_has ls 2 [(0, .ref (ad o)), (1, .int x1)] := hl
  have E0 : ∀ (H : Heap) (locs : List Loc) (ls : Array Slot), gG D cy ad (gA ad s.heap.size) s.heap h g H locs → lv_has ls 2 [(0, .ref (ad o)), (1, .int x1)] → W p l e ({ frames := 1, cells := 0, slots := 0, locals := 22 } : Room) s m args below meth c H locs 0 0 (MQ below (va_Qi (fun (r : Int32) (u : HI × HL) => Q r u.1 u.2) (gB D cy ad s.heap.size) (gA ad s.heap.size)) args s 0 0 (gA ad s.heap.size)) (F0 m 0 ls []) := by
    intro H locs ls hG hl
    unfold w_X0_at at HW
    refine lv_iload_n hx hb dX0_at_0 rfl (lv_at hl 1 rfl) ?_
    refine lv_iconst (v := 0) hx hb dX0_at_1 (by decide) ?_
    refine lv_aload_n hx hb dX0_at_2 rfl (lv_at hl 0 rfl) ?_
    refine g_geti hx hb hw inG0 hown hK hG hT.lt rfl hT.k (by decide) 1 (by decide) (by rw [hT.m]; decide) hT.r.2 lk15 dX0_at_3 ?_
    refine lv_iconst (v := 1) hx hb dX0_at_6 (by decide) ?_
    refine lv_isub hx hb dX0_at_7 ?_
    obtain ⟨P_8, HC_8, HW⟩ := HW
    refine g_callz (g_runSN (As := [.int x1, .int (0 : Int32), .int ((h o 1) - (1 : Int32))]) (rest := []) ⟨hx, hb, hml, hown, hts⟩ (m_X10_within l D cy ad h g H.size x1 (0 : Int32) ((h o 1) - (1 : Int32)) P_8 HC_8) ⟨va_cnB 3 hts (gd_w (wm2 195 rfl rfl)) rfl rfl rfl (hNw _ (List.mem_of_getElem? (i := 0) rfl)) (hw (.initialized RX10) (wm1 1 rfl rfl)) (by decide +kernel) ⟨Nat.le_of_ble_eq_true rfl, Nat.le_of_ble_eq_true rfl⟩, hw (.static yX10_within) (wm2 194 rfl rfl), trivial⟩ hK hNw hG rfl rfl hl.1 rfl (lv_room (Nat.le_of_ble_eq_true rfl)) dX0_at_8 ⟨Nat.zero_le _, Nat.zero_le _⟩) hG (fun r_8 h_8 g_8 H locs hz hq hG => ?_)
    replace HW := HW r_8 h_8 g_8 hz hq
    refine lv_if_eq (tgt := 29) hx hb dX0_at_11 (by decide) (fun c_11 => ?_) (fun c_11 => ?_)
    · replace HW := HW.1 c_11
      refine lv_iconst (v := (-1)) hx hb dX0_at_29 (by decide) ?_
      exact W.iret (v := (-1 : Int32)) hx hb hr (fun t ht hW => ⟨⟨(-1 : Int32), (h_8, g_8), rfl, HW, g_B ht hG⟩, hG.2.2.F ht⟩) hG.2.2.2.2 dX0_at_30
    · replace HW := HW.2 c_11
      refine lv_iload_n hx hb dX0_at_14 rfl (lv_at hl 1 rfl) ?_
      refine lv_bipush (v := 70) hx hb dX0_at_15 (by decide) ?_
      refine lv_icmp_ge (tgt := 29) hx hb dX0_at_17 (by decide) (fun c_17 => ?_) (fun c_17 => ?_)
      · replace HW := HW.1 c_17
        refine lv_iconst (v := (-1)) hx hb dX0_at_29 (by decide) ?_
        exact W.iret (v := (-1 : Int32)) hx hb hr (fun t ht hW => ⟨⟨(-1 : Int32), (h_8, g_8), rfl, HW, g_B ht hG⟩, hG.2.2.F ht⟩) hG.2.2.2.2 dX0_at_30
      · replace HW := HW.2 c_17
        refine lv_aload_n hx hb dX0_at_20 rfl (lv_at hl 0 rfl) ?_
        refine g_getr hx hb hw inG0 hown hK hG hT.lt rfl hT.k (by decide) 0 (by decide) (by rw [hT.m]; decide) (r := (o + 1)) hT.r.1 lk11 dX0_at_21 ?_
        refine lv_iload_n hx hb dX0_at_24 rfl (lv_at hl 1 rfl) ?_
        refine g_iald hx hb hK hG hT.a.2.1 hT.a.1 hT.a.2.2 HW.1 dX0_at_25 ?_
        replace HW := HW.2
        refine lv_goto (tgt := 30) hx hb dX0_at_26 (by decide) ?_
        exact W.iret (v := (h_8 (o + 1) x1.toNatClampNeg)) hx hb hr (fun t ht hW => ⟨⟨(h_8 (o + 1) x1.toNatClampNeg), (h_8, g_8), rfl, HW, g_B ht hG⟩, hG.2.2.F ht⟩) hG.2.2.2.2 dX0_at_30
  exact E0 _ _ _ hG hl

def j_X1_side_15 (Q : Nat → HI → HL → Prop) (s0 : Nat) (h : HI) (g : HL) : Prop :=
  Q s0 h g
def w_X1_side (x1 : Int32) (h : HI) (g : HL) (Q : Nat → HI → HL → Prop) : Prop :=
  ((¬ x1 = 0 → j_X1_side_15 Q 112 h g) ∧ (x1 = 0 → j_X1_side_15 Q 110 h g))
set_option maxHeartbeats 8000000 in
set_option maxRecDepth 100000 in
theorem m_X1_side (l : Launch) (D : va_G) (cy : Nat → ClassId) (ad : Nat → Nat) (h : HI) (g : HL) (sz : Nat) (x1 : Int32) (Q : Nat → HI → HL → Prop) (HW : w_X1_side x1 h g Q) : Met l yX1_side (wa yX1_side cX1_side 2 (some (.object "OldWorks$Big"))) ({ frames := 0, cells := 0, slots := 0, locals := 0 }) (va_Pc [.ref (ad 109), .int x1] (gI D cy ad h g sz)) (va_Qr (fun (u : Nat × HI × HL) => Q u.1 u.2.1 u.2.2) (fun (u : Nat × HI × HL) (a : Nat) (t : State) => a = ad u.1 ∧ gB D cy ad sz u.2 t) (gA ad sz)) 0 0 (gA ad sz) := by
  refine Met.ofW (cc := cX1_side) (maxL := 2) (ret := (some (.object "OldWorks$Big"))) (by decide) rfl ?_
  intro p e s m args below meth c s₁ B hml hv
  obtain ⟨hav, hsz, hP, hK, hD0, hNw⟩ := hv
  have hx := B.exec
  have hb := B.bytes
  have hr := B.returns
  have hts := atoms_spec (ws := (wa yX1_side cX1_side 2 (some (.object "OldWorks$Big")))) B.pre
  have hw := wa_hw hts
  have hown : s.vm.findClass RX1 = some m.cls := findClass_of_methodNamed B.named
  have hlocks := B.notSynchronized
  subst hsz
  have hG : gG D cy ad (gA ad s.heap.size) s.heap h g s.heap [] := ⟨hP, gA_self hD0, va_S.rf⟩
  clear hP hD0
  have lk18 := hw (.fieldLink RX1 18 "OldWorks$Breaks" "below" "LOldWorks$Big;") (wm2 94 rfl rfl)
  have lk12 := hw (.fieldLink RX1 12 "OldWorks$Breaks" "above" "LOldWorks$Big;") (wm2 93 rfl rfl)
  rw [show (headSpec (wa yX1_side cX1_side 2 (some (.object "OldWorks$Big"))) ({ frames := 0, cells := 0, slots := 0, locals := 0 } : Room)).room = ({ frames := 0, cells := 0, slots := 0, locals := 0 } : Room) from rfl]
  have hl := lv_entry ([.ref (ad 109), .int x1]) (n := 2) (Nat.le_of_ble_eq_true rfl)
  rw [show entryFrame m args 2 = entryFrame m ([.ref (ad 109), .int x1] : List Value).toArray 2 from by rw [hav], lg_entry_eq]
  generalize (lg_sl ([.ref (ad 109), .int x1]) ++ List.replicate (2 - (lg_sl ([.ref (ad 109), .int x1])).length) Slot.unset).toArray = ls at hl ⊢
  have hl : lv_has ls 2 [(0, .ref (ad 109)), (1, .int x1)] := hl
  have B15 : ∀ (s0 : Nat) (h : HI) (g : HL) (H : Heap) (locs : List Loc) (ls : Array Slot) (hk_s0 : isB s0), j_X1_side_15 Q s0 h g → gG D cy ad (gA ad s.heap.size) s.heap h g H locs → lv_has ls 2 [] → W p l e ({ frames := 0, cells := 0, slots := 0, locals := 0 } : Room) s m args below meth c H locs 0 0 (MQ below (va_Qr (fun (u : Nat × HI × HL) => Q u.1 u.2.1 u.2.2) (fun (u : Nat × HI × HL) (a : Nat) (t : State) => a = ad u.1 ∧ gB D cy ad s.heap.size u.2 t) (gA ad s.heap.size)) args s 0 0 (gA ad s.heap.size)) (F0 m 15 ls [.ref (ad s0)]) := by
    intro s0 h g H locs ls hk_s0 HW hG hl
    unfold j_X1_side_15 at HW
    exact W.aret (v := .ref (ad s0)) hx hb hr (Or.inl ⟨_, rfl⟩) (Or.inr ⟨_, rfl⟩) (fun t ht hW => ⟨⟨(s0, h, g), ad s0, rfl, HW, rfl, g_B ht hG⟩, hG.2.2.F ht⟩) hG.2.2.2.2 dX1_side_15
  have E0 : ∀ (H : Heap) (locs : List Loc) (ls : Array Slot), gG D cy ad (gA ad s.heap.size) s.heap h g H locs → lv_has ls 2 [(0, .ref (ad 109)), (1, .int x1)] → W p l e ({ frames := 0, cells := 0, slots := 0, locals := 0 } : Room) s m args below meth c H locs 0 0 (MQ below (va_Qr (fun (u : Nat × HI × HL) => Q u.1 u.2.1 u.2.2) (fun (u : Nat × HI × HL) (a : Nat) (t : State) => a = ad u.1 ∧ gB D cy ad s.heap.size u.2 t) (gA ad s.heap.size)) args s 0 0 (gA ad s.heap.size)) (F0 m 0 ls []) := by
    intro H locs ls hG hl
    unfold w_X1_side at HW
    refine lv_iload_n hx hb dX1_side_0 rfl (lv_at hl 1 rfl) ?_
    refine lv_if_ne (tgt := 11) hx hb dX1_side_1 (by decide) (fun c_1 => ?_) (fun c_1 => ?_)
    · replace HW := HW.1 c_1
      refine lv_aload_n hx hb dX1_side_11 rfl (lv_at hl 0 rfl) ?_
      refine g_getr hx hb hw inG1 hown hK hG gl_109 rfl gk_109 (by decide) 2 (by decide) (by rw [gm_109]; decide) (r := 112) gr_109_2 lk18 dX1_side_12 ?_
      exact B15 112 h g _ _ _ gs_112 HW hG (lv_sub hl [] rfl)
    · replace HW := HW.2 c_1
      refine lv_aload_n hx hb dX1_side_4 rfl (lv_at hl 0 rfl) ?_
      refine g_getr hx hb hw inG1 hown hK hG gl_109 rfl gk_109 (by decide) 1 (by decide) (by rw [gm_109]; decide) (r := 110) gr_109_1 lk12 dX1_side_5 ?_
      refine lv_goto (tgt := 15) hx hb dX1_side_8 (by decide) ?_
      exact B15 110 h g _ _ _ gs_110 HW hG (lv_sub hl [] rfl)
  exact E0 _ _ _ hG hl

def w_X8_at (o : Nat) (x1 : Int32) (x2 : Int32) (h : HI) (g : HL) (Q : Int32 → HI → HL → Prop) : Prop :=
  ((x1 < 0 → Q (0 : Int32) h g) ∧ (¬ x1 < 0 → (((h o 3) ≤ x1 → Q (0 : Int32) h g) ∧ (¬ (h o 3) ≤ x1 → ((x2 < 0 → Q (0 : Int32) h g) ∧ (¬ x2 < 0 → ((x2 < (h o 1) → (∀ x3_34 : Int32, x3_34 = ((x1 * (h o 1)) + x2) → (((Int32.ofNat (gN (o + 1))) ≤ x3_34 → Q (0 : Int32) h g) ∧ (¬ (Int32.ofNat (gN (o + 1))) ≤ x3_34 → (vp_in x3_34 (gN (o + 1)) ∧ Q (h (o + 1) x3_34.toNatClampNeg) h g))))) ∧ (¬ x2 < (h o 1) → Q (0 : Int32) h g))))))))
set_option maxHeartbeats 8000000 in
set_option maxRecDepth 100000 in
theorem m_X8_at (l : Launch) (D : va_G) (cy : Nat → ClassId) (ad : Nat → Nat) (h : HI) (g : HL) (sz : Nat) (o : Nat) (hT : isT o) (x1 : Int32) (x2 : Int32) (Q : Int32 → HI → HL → Prop) (HW : w_X8_at o x1 x2 h g Q) : Met l yX8_at (wa yX8_at cX8_at 4 (some .int)) ({ frames := 0, cells := 0, slots := 0, locals := 0 }) (va_Pc [.ref (ad o), .int x1, .int x2] (gI D cy ad h g sz)) (va_Qi (fun (r : Int32) (u : HI × HL) => Q r u.1 u.2) (gB D cy ad sz) (gA ad sz)) 0 0 (gA ad sz) := by
  refine Met.ofW (cc := cX8_at) (maxL := 4) (ret := (some .int)) (by decide) rfl ?_
  intro p e s m args below meth c s₁ B hml hv
  obtain ⟨hav, hsz, hP, hK, hD0, hNw⟩ := hv
  have hx := B.exec
  have hb := B.bytes
  have hr := B.returns
  have hts := atoms_spec (ws := (wa yX8_at cX8_at 4 (some .int))) B.pre
  have hw := wa_hw hts
  have hown : s.vm.findClass RX8 = some m.cls := findClass_of_methodNamed B.named
  have hlocks := B.notSynchronized
  subst hsz
  have hG : gG D cy ad (gA ad s.heap.size) s.heap h g s.heap [] := ⟨hP, gA_self hD0, va_S.rf⟩
  clear hP hD0
  have lk22 := hw (.fieldLink RX8 22 "OldWorks$Table" "many" "I") (wm1 40 rfl rfl)
  have lk15 := hw (.fieldLink RX8 15 "OldWorks$Table" "width" "I") (wm1 38 rfl rfl)
  have lk18 := hw (.fieldLink RX8 18 "OldWorks$Table" "cells" "[I") (wm1 37 rfl rfl)
  rw [show (headSpec (wa yX8_at cX8_at 4 (some .int)) ({ frames := 0, cells := 0, slots := 0, locals := 0 } : Room)).room = ({ frames := 0, cells := 0, slots := 0, locals := 0 } : Room) from rfl]
  have hl := lv_entry ([.ref (ad o), .int x1, .int x2]) (n := 4) (Nat.le_of_ble_eq_true rfl)
  rw [show entryFrame m args 4 = entryFrame m ([.ref (ad o), .int x1, .int x2] : List Value).toArray 4 from by rw [hav], lg_entry_eq]
  generalize (lg_sl ([.ref (ad o), .int x1, .int x2]) ++ List.replicate (4 - (lg_sl ([.ref (ad o), .int x1, .int x2])).length) Slot.unset).toArray = ls at hl ⊢
  have hl : lv_has ls 4 [(0, .ref (ad o)), (1, .int x1), (2, .int x2)] := hl
  have E0 : ∀ (H : Heap) (locs : List Loc) (ls : Array Slot), gG D cy ad (gA ad s.heap.size) s.heap h g H locs → lv_has ls 4 [(0, .ref (ad o)), (1, .int x1), (2, .int x2)] → W p l e ({ frames := 0, cells := 0, slots := 0, locals := 0 } : Room) s m args below meth c H locs 0 0 (MQ below (va_Qi (fun (r : Int32) (u : HI × HL) => Q r u.1 u.2) (gB D cy ad s.heap.size) (gA ad s.heap.size)) args s 0 0 (gA ad s.heap.size)) (F0 m 0 ls []) := by
    intro H locs ls hG hl
    unfold w_X8_at at HW
    refine lv_iload_n hx hb dX8_at_0 rfl (lv_at hl 1 rfl) ?_
    refine lv_if_lt (tgt := 24) hx hb dX8_at_1 (by decide) (fun c_1 => ?_) (fun c_1 => ?_)
    · replace HW := HW.1 c_1
      refine lv_iconst (v := 0) hx hb dX8_at_24 (by decide) ?_
      exact W.iret (v := (0 : Int32)) hx hb hr (fun t ht hW => ⟨⟨(0 : Int32), (h, g), rfl, HW, g_B ht hG⟩, hG.2.2.F ht⟩) hG.2.2.2.2 dX8_at_25
    · replace HW := HW.2 c_1
      refine lv_iload_n hx hb dX8_at_4 rfl (lv_at hl 1 rfl) ?_
      refine lv_aload_n hx hb dX8_at_5 rfl (lv_at hl 0 rfl) ?_
      refine g_geti hx hb hw inG8 hown hK hG hT.lt rfl hT.k (by decide) 3 (by decide) (by rw [hT.m]; decide) hT.r.2.2.2 lk22 dX8_at_6 ?_
      refine lv_icmp_ge (tgt := 24) hx hb dX8_at_9 (by decide) (fun c_9 => ?_) (fun c_9 => ?_)
      · replace HW := HW.1 c_9
        refine lv_iconst (v := 0) hx hb dX8_at_24 (by decide) ?_
        exact W.iret (v := (0 : Int32)) hx hb hr (fun t ht hW => ⟨⟨(0 : Int32), (h, g), rfl, HW, g_B ht hG⟩, hG.2.2.F ht⟩) hG.2.2.2.2 dX8_at_25
      · replace HW := HW.2 c_9
        refine lv_iload_n hx hb dX8_at_12 rfl (lv_at hl 2 rfl) ?_
        refine lv_if_lt (tgt := 24) hx hb dX8_at_13 (by decide) (fun c_13 => ?_) (fun c_13 => ?_)
        · replace HW := HW.1 c_13
          refine lv_iconst (v := 0) hx hb dX8_at_24 (by decide) ?_
          exact W.iret (v := (0 : Int32)) hx hb hr (fun t ht hW => ⟨⟨(0 : Int32), (h, g), rfl, HW, g_B ht hG⟩, hG.2.2.F ht⟩) hG.2.2.2.2 dX8_at_25
        · replace HW := HW.2 c_13
          refine lv_iload_n hx hb dX8_at_16 rfl (lv_at hl 2 rfl) ?_
          refine lv_aload_n hx hb dX8_at_17 rfl (lv_at hl 0 rfl) ?_
          refine g_geti hx hb hw inG8 hown hK hG hT.lt rfl hT.k (by decide) 1 (by decide) (by rw [hT.m]; decide) hT.r.2.1 lk15 dX8_at_18 ?_
          refine lv_icmp_lt (tgt := 26) hx hb dX8_at_21 (by decide) (fun c_21 => ?_) (fun c_21 => ?_)
          · replace HW := HW.1 c_21
            refine lv_iload_n hx hb dX8_at_26 rfl (lv_at hl 1 rfl) ?_
            refine lv_aload_n hx hb dX8_at_27 rfl (lv_at hl 0 rfl) ?_
            refine g_geti hx hb hw inG8 hown hK hG hT.lt rfl hT.k (by decide) 1 (by decide) (by rw [hT.m]; decide) hT.r.2.1 lk15 dX8_at_28 ?_
            refine lv_imul hx hb dX8_at_31 ?_
            refine lv_iload_n hx hb dX8_at_32 rfl (lv_at hl 2 rfl) ?_
            refine lv_iadd hx hb dX8_at_33 ?_
            refine lv_topi (fun x3_34 ex3_34 => ?_)
            replace HW := HW x3_34 ex3_34
            refine lv_istore_n (lv' := [(3, .int x3_34), (0, .ref (ad o)), (1, .int x1), (2, .int x2)]) hx hb dX8_at_34 rfl hl (by decide) rfl (fun ls hl => ?_)
            refine lv_iload_n hx hb dX8_at_35 rfl (lv_at hl 0 rfl) ?_
            refine lv_aload_n hx hb dX8_at_36 rfl (lv_at hl 1 rfl) ?_
            refine g_getr hx hb hw inG8 hown hK hG hT.lt rfl hT.k (by decide) 0 (by decide) (by rw [hT.m]; decide) (r := (o + 1)) hT.r.1 lk18 dX8_at_37 ?_
            refine g_alen hx hb hK hG hT.a.2 hT.a.1 (v := (Int32.ofNat (gN (o + 1)))) rfl dX8_at_40 ?_
            refine lv_icmp_ge (tgt := 53) hx hb dX8_at_41 (by decide) (fun c_41 => ?_) (fun c_41 => ?_)
            · replace HW := HW.1 c_41
              refine lv_iconst (v := 0) hx hb dX8_at_53 (by decide) ?_
              exact W.iret (v := (0 : Int32)) hx hb hr (fun t ht hW => ⟨⟨(0 : Int32), (h, g), rfl, HW, g_B ht hG⟩, hG.2.2.F ht⟩) hG.2.2.2.2 dX8_at_54
            · replace HW := HW.2 c_41
              refine lv_aload_n hx hb dX8_at_44 rfl (lv_at hl 1 rfl) ?_
              refine g_getr hx hb hw inG8 hown hK hG hT.lt rfl hT.k (by decide) 0 (by decide) (by rw [hT.m]; decide) (r := (o + 1)) hT.r.1 lk18 dX8_at_45 ?_
              refine lv_iload_n hx hb dX8_at_48 rfl (lv_at hl 0 rfl) ?_
              refine g_iald hx hb hK hG hT.a.2 hT.a.1 rfl HW.1 dX8_at_49 ?_
              replace HW := HW.2
              refine lv_goto (tgt := 54) hx hb dX8_at_50 (by decide) ?_
              exact W.iret (v := (h (o + 1) x3_34.toNatClampNeg)) hx hb hr (fun t ht hW => ⟨⟨(h (o + 1) x3_34.toNatClampNeg), (h, g), rfl, HW, g_B ht hG⟩, hG.2.2.F ht⟩) hG.2.2.2.2 dX8_at_54
          · replace HW := HW.2 c_21
            refine lv_iconst (v := 0) hx hb dX8_at_24 (by decide) ?_
            exact W.iret (v := (0 : Int32)) hx hb hr (fun t ht hW => ⟨⟨(0 : Int32), (h, g), rfl, HW, g_B ht hG⟩, hG.2.2.F ht⟩) hG.2.2.2.2 dX8_at_25
  exact E0 _ _ _ hG hl

def w_X1_oddsOf (x0 : Int32) (x1 : Int32) (x2 : Int32) (h : HI) (g : HL) (Q : Int32 → HI → HL → Prop) : Prop :=
  Q (x0 + (x1 * x2)) h g
set_option maxHeartbeats 8000000 in
set_option maxRecDepth 100000 in
theorem m_X1_oddsOf (l : Launch) (D : va_G) (cy : Nat → ClassId) (ad : Nat → Nat) (h : HI) (g : HL) (sz : Nat) (x0 : Int32) (x1 : Int32) (x2 : Int32) (Q : Int32 → HI → HL → Prop) (HW : w_X1_oddsOf x0 x1 x2 h g Q) : Met l yX1_oddsOf (wa yX1_oddsOf cX1_oddsOf 3 (some .int)) ({ frames := 0, cells := 0, slots := 0, locals := 0 }) (va_Pc [.int x0, .int x1, .int x2] (gI D cy ad h g sz)) (va_Qi (fun (r : Int32) (u : HI × HL) => Q r u.1 u.2) (gB D cy ad sz) (gA ad sz)) 0 0 (gA ad sz) := by
  refine Met.ofW (cc := cX1_oddsOf) (maxL := 3) (ret := (some .int)) (by decide) rfl ?_
  intro p e s m args below meth c s₁ B hml hv
  obtain ⟨hav, hsz, hP, hK, hD0, hNw⟩ := hv
  have hx := B.exec
  have hb := B.bytes
  have hr := B.returns
  have hts := atoms_spec (ws := (wa yX1_oddsOf cX1_oddsOf 3 (some .int))) B.pre
  have hw := wa_hw hts
  have hown : s.vm.findClass RX1 = some m.cls := findClass_of_methodNamed B.named
  have hlocks := B.notSynchronized
  subst hsz
  have hG : gG D cy ad (gA ad s.heap.size) s.heap h g s.heap [] := ⟨hP, gA_self hD0, va_S.rf⟩
  clear hP hD0
  rw [show (headSpec (wa yX1_oddsOf cX1_oddsOf 3 (some .int)) ({ frames := 0, cells := 0, slots := 0, locals := 0 } : Room)).room = ({ frames := 0, cells := 0, slots := 0, locals := 0 } : Room) from rfl]
  have hl := lv_entry ([.int x0, .int x1, .int x2]) (n := 3) (Nat.le_of_ble_eq_true rfl)
  rw [show entryFrame m args 3 = entryFrame m ([.int x0, .int x1, .int x2] : List Value).toArray 3 from by rw [hav], lg_entry_eq]
  generalize (lg_sl ([.int x0, .int x1, .int x2]) ++ List.replicate (3 - (lg_sl ([.int x0, .int x1, .int x2])).length) Slot.unset).toArray = ls at hl ⊢
  have hl : lv_has ls 3 [(0, .int x0), (1, .int x1), (2, .int x2)] := hl
  have E0 : ∀ (H : Heap) (locs : List Loc) (ls : Array Slot), gG D cy ad (gA ad s.heap.size) s.heap h g H locs → lv_has ls 3 [(0, .int x0), (1, .int x1), (2, .int x2)] → W p l e ({ frames := 0, cells := 0, slots := 0, locals := 0 } : Room) s m args below meth c H locs 0 0 (MQ below (va_Qi (fun (r : Int32) (u : HI × HL) => Q r u.1 u.2) (gB D cy ad s.heap.size) (gA ad s.heap.size)) args s 0 0 (gA ad s.heap.size)) (F0 m 0 ls []) := by
    intro H locs ls hG hl
    unfold w_X1_oddsOf at HW
    refine lv_iload_n hx hb dX1_oddsOf_0 rfl (lv_at hl 0 rfl) ?_
    refine lv_iload_n hx hb dX1_oddsOf_1 rfl (lv_at hl 1 rfl) ?_
    refine lv_iload_n hx hb dX1_oddsOf_2 rfl (lv_at hl 2 rfl) ?_
    refine lv_imul hx hb dX1_oddsOf_3 ?_
    refine lv_iadd hx hb dX1_oddsOf_4 ?_
    exact W.iret (v := (x0 + (x1 * x2))) hx hb hr (fun t ht hW => ⟨⟨(x0 + (x1 * x2)), (h, g), rfl, HW, g_B ht hG⟩, hG.2.2.F ht⟩) hG.2.2.2.2 dX1_oddsOf_5
  exact E0 _ _ _ hG hl

def w_X1_shorten (x1 : Int32) (h : HI) (g : HL) (Q : HI → HL → Prop) : Prop :=
  ((x1 ≤ 0 → Q h g) ∧ (¬ x1 ≤ 0 → (¬ x1 = 0 ∧ ((¬ ((h 109 5) - (h 109 5) / x1 * x1) = 0 → Q h g) ∧ (((h 109 5) - (h 109 5) / x1 * x1) = 0 → (¬ x1 = 0 ∧ ((¬ ((h 109 6) - (h 109 6) / x1 * x1) = 0 → Q h g) ∧ (((h 109 6) - (h 109 6) / x1 * x1) = 0 → (¬ x1 = 0 ∧ (∀ h_29 : HI, h_29 = hu h 109 5 ((h 109 5) / x1) → (¬ x1 = 0 ∧ (∀ h_39 : HI, h_39 = hu h_29 109 6 ((h_29 109 6) / x1) → Q h_39 g))))))))))))
set_option maxHeartbeats 8000000 in
set_option maxRecDepth 100000 in
theorem m_X1_shorten (l : Launch) (D : va_G) (cy : Nat → ClassId) (ad : Nat → Nat) (h : HI) (g : HL) (sz : Nat) (x1 : Int32) (Q : HI → HL → Prop) (HW : w_X1_shorten x1 h g Q) : Met l yX1_shorten (wa yX1_shorten cX1_shorten 2 none) ({ frames := 0, cells := 0, slots := 0, locals := 0 }) (va_Pc [.ref (ad 109), .int x1] (gI D cy ad h g sz)) (va_Qv (fun (u : HI × HL) => Q u.1 u.2) (gB D cy ad sz) (gA ad sz)) 0 0 (gA ad sz) := by
  refine Met.ofW (cc := cX1_shorten) (maxL := 2) (ret := none) (by decide) rfl ?_
  intro p e s m args below meth c s₁ B hml hv
  obtain ⟨hav, hsz, hP, hK, hD0, hNw⟩ := hv
  have hx := B.exec
  have hb := B.bytes
  have hr := B.returns
  have hts := atoms_spec (ws := (wa yX1_shorten cX1_shorten 2 none)) B.pre
  have hw := wa_hw hts
  have hown : s.vm.findClass RX1 = some m.cls := findClass_of_methodNamed B.named
  have hlocks := B.notSynchronized
  subst hsz
  have hG : gG D cy ad (gA ad s.heap.size) s.heap h g s.heap [] := ⟨hP, gA_self hD0, va_S.rf⟩
  clear hP hD0
  have lk38 := hw (.fieldLink RX1 38 "OldWorks$Breaks" "keeps" "I") (wm2 97 rfl rfl)
  have lk45 := hw (.fieldLink RX1 45 "OldWorks$Breaks" "outOf" "I") (wm2 98 rfl rfl)
  rw [show (headSpec (wa yX1_shorten cX1_shorten 2 none) ({ frames := 0, cells := 0, slots := 0, locals := 0 } : Room)).room = ({ frames := 0, cells := 0, slots := 0, locals := 0 } : Room) from rfl]
  have hl := lv_entry ([.ref (ad 109), .int x1]) (n := 2) (Nat.le_of_ble_eq_true rfl)
  rw [show entryFrame m args 2 = entryFrame m ([.ref (ad 109), .int x1] : List Value).toArray 2 from by rw [hav], lg_entry_eq]
  generalize (lg_sl ([.ref (ad 109), .int x1]) ++ List.replicate (2 - (lg_sl ([.ref (ad 109), .int x1])).length) Slot.unset).toArray = ls at hl ⊢
  have hl : lv_has ls 2 [(0, .ref (ad 109)), (1, .int x1)] := hl
  have E0 : ∀ (H : Heap) (locs : List Loc) (ls : Array Slot), gG D cy ad (gA ad s.heap.size) s.heap h g H locs → lv_has ls 2 [(0, .ref (ad 109)), (1, .int x1)] → W p l e ({ frames := 0, cells := 0, slots := 0, locals := 0 } : Room) s m args below meth c H locs 0 0 (MQ below (va_Qv (fun (u : HI × HL) => Q u.1 u.2) (gB D cy ad s.heap.size) (gA ad s.heap.size)) args s 0 0 (gA ad s.heap.size)) (F0 m 0 ls []) := by
    intro H locs ls hG hl
    unfold w_X1_shorten at HW
    refine lv_iload_n hx hb dX1_shorten_0 rfl (lv_at hl 1 rfl) ?_
    refine lv_if_le (tgt := 42) hx hb dX1_shorten_1 (by decide) (fun c_1 => ?_) (fun c_1 => ?_)
    · replace HW := HW.1 c_1
      exact W.vret hx hb hr (fun t ht hW => ⟨⟨(h, g), rfl, HW, g_B ht hG⟩, hG.2.2.F ht⟩) hG.2.2.2.2 dX1_shorten_42
    · replace HW := HW.2 c_1
      refine lv_aload_n hx hb dX1_shorten_4 rfl (lv_at hl 0 rfl) ?_
      refine g_geti hx hb hw inG1 hown hK hG gl_109 rfl gk_109 (by decide) 5 (by decide) (by rw [gm_109]; decide) gr_109_5 lk38 dX1_shorten_5 ?_
      refine lv_iload_n hx hb dX1_shorten_8 rfl (lv_at hl 1 rfl) ?_
      refine lv_irem hx hb dX1_shorten_9 HW.1 ?_
      replace HW := HW.2
      refine lv_if_ne (tgt := 42) hx hb dX1_shorten_10 (by decide) (fun c_10 => ?_) (fun c_10 => ?_)
      · replace HW := HW.1 c_10
        exact W.vret hx hb hr (fun t ht hW => ⟨⟨(h, g), rfl, HW, g_B ht hG⟩, hG.2.2.F ht⟩) hG.2.2.2.2 dX1_shorten_42
      · replace HW := HW.2 c_10
        refine lv_aload_n hx hb dX1_shorten_13 rfl (lv_at hl 0 rfl) ?_
        refine g_geti hx hb hw inG1 hown hK hG gl_109 rfl gk_109 (by decide) 6 (by decide) (by rw [gm_109]; decide) gr_109_6 lk45 dX1_shorten_14 ?_
        refine lv_iload_n hx hb dX1_shorten_17 rfl (lv_at hl 1 rfl) ?_
        refine lv_irem hx hb dX1_shorten_18 HW.1 ?_
        replace HW := HW.2
        refine lv_if_ne (tgt := 42) hx hb dX1_shorten_19 (by decide) (fun c_19 => ?_) (fun c_19 => ?_)
        · replace HW := HW.1 c_19
          exact W.vret hx hb hr (fun t ht hW => ⟨⟨(h, g), rfl, HW, g_B ht hG⟩, hG.2.2.F ht⟩) hG.2.2.2.2 dX1_shorten_42
        · replace HW := HW.2 c_19
          refine lv_aload_n hx hb dX1_shorten_22 rfl (lv_at hl 0 rfl) ?_
          refine lv_dup hx hb dX1_shorten_23 rfl ?_
          refine g_geti hx hb hw inG1 hown hK hG gl_109 rfl gk_109 (by decide) 5 (by decide) (by rw [gm_109]; decide) gr_109_5 lk38 dX1_shorten_24 ?_
          refine lv_iload_n hx hb dX1_shorten_27 rfl (lv_at hl 1 rfl) ?_
          refine lv_idiv hx hb dX1_shorten_28 HW.1 ?_
          replace HW := HW.2
          refine g_put hx hb hw inG1 tyX1 tyX1_ok nmX1 hown hK hG gl_109 rfl gk_109 (by decide) 5 (by decide) (by rw [gm_109]; decide) gr_109_5 rfl (ty := .int) (by decide +kernel) rfl rfl lk38 dX1_shorten_29 (fun H locs hG => ?_)
          obtain ⟨h_29, eh_29⟩ : ∃ y : HI, y = hu h 109 5 ((h 109 5) / x1) := ⟨_, rfl⟩
          rw [← eh_29] at hG
          replace HW := HW h_29 eh_29
          refine lv_aload_n hx hb dX1_shorten_32 rfl (lv_at hl 0 rfl) ?_
          refine lv_dup hx hb dX1_shorten_33 rfl ?_
          refine g_geti hx hb hw inG1 hown hK hG gl_109 rfl gk_109 (by decide) 6 (by decide) (by rw [gm_109]; decide) gr_109_6 lk45 dX1_shorten_34 ?_
          refine lv_iload_n hx hb dX1_shorten_37 rfl (lv_at hl 1 rfl) ?_
          refine lv_idiv hx hb dX1_shorten_38 HW.1 ?_
          replace HW := HW.2
          refine g_put hx hb hw inG1 tyX1 tyX1_ok nmX1 hown hK hG gl_109 rfl gk_109 (by decide) 6 (by decide) (by rw [gm_109]; decide) gr_109_6 rfl (ty := .int) (by decide +kernel) rfl rfl lk45 dX1_shorten_39 (fun H locs hG => ?_)
          obtain ⟨h_39, eh_39⟩ : ∃ y : HI, y = hu h_29 109 6 ((h_29 109 6) / x1) := ⟨_, rfl⟩
          rw [← eh_39] at hG
          replace HW := HW h_39 eh_39
          exact W.vret hx hb hr (fun t ht hW => ⟨⟨(h_39, g), rfl, HW, g_B ht hG⟩, hG.2.2.F ht⟩) hG.2.2.2.2 dX1_shorten_42
  exact E0 _ _ _ hG hl

def b_X1_chooseYear_67 (Q : HI → HL → Prop) (K67 : Int32 → HI → HL → Prop) (x4 : Int32) (h : HI) (g : HL) : Prop :=
  (((3 : Int32) ≤ x4 → Q h g) ∧ (¬ (3 : Int32) ≤ x4 → (∃ P_75 : HI → HL → Prop, w_X1_shorten (2 : Int32) h g P_75 ∧ ∀ (h_75 : HI) (g_75 : HL), P_75 h_75 g_75 → (∃ P_80 : HI → HL → Prop, w_X1_shorten (5 : Int32) h_75 g_75 P_80 ∧ ∀ (h_80 : HI) (g_80 : HL), P_80 h_80 g_80 → (∀ x4_83 : Int32, x4_83 = (x4 + 1) → K67 x4_83 h_80 g_80)))))
def F_X1_chooseYear_67 (Q : HI → HL → Prop) (K : Int32 × HI × HL → Prop) (q : Int32 × HI × HL) : Prop := b_X1_chooseYear_67 Q (fun x4 h g => K (x4, h, g)) q.1 q.2.1 q.2.2
def w_X1_chooseYear (x1 : Int32) (h : HI) (g : HL) (Q : HI → HL → Prop) : Prop :=
  (∃ P_9 : Int32 → HI → HL → Prop, w_X8_at 16 (0 : Int32) (0 : Int32) h g P_9 ∧ ∀ (r_9 : Int32) (h_9 : HI) (g_9 : HL), P_9 r_9 h_9 g_9 → (∃ P_22 : Int32 → HI → HL → Prop, w_X8_at 16 (0 : Int32) (1 : Int32) h_9 g_9 P_22 ∧ ∀ (r_22 : Int32) (h_22 : HI) (g_22 : HL), P_22 r_22 h_22 g_22 → (∃ P_44 : Int32 → HI → HL → Prop, w_X8_at 2 x1 (0 : Int32) h_22 g_22 P_44 ∧ ∀ (r_44 : Int32) (h_44 : HI) (g_44 : HL), P_44 r_44 h_44 g_44 → (∃ P_47 : Int32 → HI → HL → Prop, w_X1_oddsOf r_9 r_22 r_44 h_44 g_44 P_47 ∧ ∀ (r_47 : Int32) (h_47 : HI) (g_47 : HL), P_47 r_47 h_47 g_47 → (∀ h_54 : HI, h_54 = hu h_47 109 5 ((1000 : Int32) - (if r_47 < (1000 : Int32) then r_47 else (1000 : Int32))) → (∀ h_61 : HI, h_61 = hu h_54 109 6 (1000 : Int32) → lpE (F_X1_chooseYear_67 Q) ((0 : Int32), h_61, g_47)))))))
set_option maxHeartbeats 8000000 in
set_option maxRecDepth 100000 in
theorem m_X1_chooseYear (l : Launch) (D : va_G) (cy : Nat → ClassId) (ad : Nat → Nat) (h : HI) (g : HL) (sz : Nat) (x1 : Int32) (Q : HI → HL → Prop) (HW : w_X1_chooseYear x1 h g Q) : Met l yX1_chooseYear (wa yX1_chooseYear cX1_chooseYear 5 none) ({ frames := 1, cells := 0, slots := 0, locals := 32 }) (va_Pc [.ref (ad 109), .int x1] (gI D cy ad h g sz)) (va_Qv (fun (u : HI × HL) => Q u.1 u.2) (gB D cy ad sz) (gA ad sz)) 0 0 (gA ad sz) := by
  refine Met.ofW (cc := cX1_chooseYear) (maxL := 5) (ret := none) (by decide) rfl ?_
  intro p e s m args below meth c s₁ B hml hv
  obtain ⟨hav, hsz, hP, hK, hD0, hNw⟩ := hv
  have hx := B.exec
  have hb := B.bytes
  have hr := B.returns
  have hts := atoms_spec (ws := (wa yX1_chooseYear cX1_chooseYear 5 none)) B.pre
  have hw := wa_hw hts
  have hown : s.vm.findClass RX1 = some m.cls := findClass_of_methodNamed B.named
  have hlocks := B.notSynchronized
  subst hsz
  have hG : gG D cy ad (gA ad s.heap.size) s.heap h g s.heap [] := ⟨hP, gA_self hD0, va_S.rf⟩
  clear hP hD0
  have lk27 := hw (.fieldLink RX1 27 "OldWorks$Breaks" "shop" "LOldWorks$Shop;") (wm2 92 rfl rfl)
  have lk51 := hw (.fieldLink RX1 51 "OldWorks$Shop" "odds" "LOldWorks$Table;") (wm1 84 rfl rfl)
  have lk63 := hw (.fieldLink RX1 63 "OldWorks$Shop" "parts" "LOldWorks$Table;") (wm1 63 rfl rfl)
  have ml70 := hw (.methodLink RX1 70 Lib.Math.min.name) (wm4 57 rfl rfl)
  have ms70 := hw (.static Lib.Math.min.name) (wm3 99 rfl rfl)
  have mi70 := hw (.initialized "java/lang/Math") (wm1 14 rfl rfl)
  have mc70 := hw (.code Lib.Math.min.name Lib.Math.min.code 2 (some .int)) (wm3 100 rfl rfl)
  have lk38 := hw (.fieldLink RX1 38 "OldWorks$Breaks" "keeps" "I") (wm2 97 rfl rfl)
  have lk45 := hw (.fieldLink RX1 45 "OldWorks$Breaks" "outOf" "I") (wm2 98 rfl rfl)
  rw [show (headSpec (wa yX1_chooseYear cX1_chooseYear 5 none) ({ frames := 1, cells := 0, slots := 0, locals := 32 } : Room)).room = ({ frames := 1, cells := 0, slots := 0, locals := 32 } : Room) from rfl]
  have hl := lv_entry ([.ref (ad 109), .int x1]) (n := 5) (Nat.le_of_ble_eq_true rfl)
  rw [show entryFrame m args 5 = entryFrame m ([.ref (ad 109), .int x1] : List Value).toArray 5 from by rw [hav], lg_entry_eq]
  generalize (lg_sl ([.ref (ad 109), .int x1]) ++ List.replicate (5 - (lg_sl ([.ref (ad 109), .int x1])).length) Slot.unset).toArray = ls at hl ⊢
  have hl : lv_has ls 5 [(0, .ref (ad 109)), (1, .int x1)] := hl
  have L67 : ∀ (n : Nat) (x4 : Int32) (h : HI) (g : HL) (H : Heap) (locs : List Loc) (ls : Array Slot), lpN (F_X1_chooseYear_67 Q) n (x4, h, g) → gG D cy ad (gA ad s.heap.size) s.heap h g H locs → lv_has ls 5 [(0, .ref (ad 109)), (4, .int x4)] → W p l e ({ frames := 1, cells := 0, slots := 0, locals := 32 } : Room) s m args below meth c H locs 0 0 (MQ below (va_Qv (fun (u : HI × HL) => Q u.1 u.2) (gB D cy ad s.heap.size) (gA ad s.heap.size)) args s 0 0 (gA ad s.heap.size)) (F0 m 67 ls []) := by
    intro n
    induction n with
    | zero => intro x4 h g H locs ls HW; exact HW.elim
    | succ n ih =>
      intro x4 h g H locs ls HW hG hl
      have HW : b_X1_chooseYear_67 Q (fun x4 h g => lpN (F_X1_chooseYear_67 Q) n (x4, h, g)) x4 h g := HW
      generalize hKe : (fun (x4 : Int32) (h : HI) (g : HL) => lpN (F_X1_chooseYear_67 Q) n (x4, h, g)) = K67 at HW
      have hK67 : ∀ (x4 : Int32) (h : HI) (g : HL) (H : Heap) (locs : List Loc) (ls : Array Slot), K67 x4 h g → gG D cy ad (gA ad s.heap.size) s.heap h g H locs → lv_has ls 5 [(0, .ref (ad 109)), (4, .int x4)] → W p l e ({ frames := 1, cells := 0, slots := 0, locals := 32 } : Room) s m args below meth c H locs 0 0 (MQ below (va_Qv (fun (u : HI × HL) => Q u.1 u.2) (gB D cy ad s.heap.size) (gA ad s.heap.size)) args s 0 0 (gA ad s.heap.size)) (F0 m 67 ls []) := by subst hKe; exact ih
      clear ih
      clear hKe
      unfold b_X1_chooseYear_67 at HW
      refine lv_iload hx hb dX1_chooseYear_67 (lv_at hl 1 rfl) ?_
      refine lv_iconst (v := 3) hx hb dX1_chooseYear_69 (by decide) ?_
      refine lv_icmp_ge (tgt := 89) hx hb dX1_chooseYear_70 (by decide) (fun c_70 => ?_) (fun c_70 => ?_)
      · replace HW := HW.1 c_70
        exact W.vret hx hb hr (fun t ht hW => ⟨⟨(h, g), rfl, HW, g_B ht hG⟩, hG.2.2.F ht⟩) hG.2.2.2.2 dX1_chooseYear_89
      · replace HW := HW.2 c_70
        refine lv_aload_n hx hb dX1_chooseYear_73 rfl (lv_at hl 0 rfl) ?_
        refine lv_iconst (v := 2) hx hb dX1_chooseYear_74 (by decide) ?_
        obtain ⟨P_75, HC_75, HW⟩ := HW
        refine g_callv (g_runV (As := [.int (2 : Int32)]) (rest := []) ⟨hx, hb, hml, hown, hts⟩ (m_X1_shorten l D cy ad h g H.size (2 : Int32) P_75 HC_75) (cwV 1 hts (gd_V (wm4 58 rfl rfl) (wm4 60 rfl rfl) (wmp2 (q := (yX1_shorten, 7)) 9 rfl) (wm1 10 rfl rfl) (wm4 61 rfl rfl)) rfl rfl rfl (by decide +kernel) ⟨Nat.le_of_ble_eq_true rfl, Nat.le_of_ble_eq_true rfl⟩) hK hNw hG gl_109 rfl gk_109 (by decide) rfl rfl hl.1 rfl (lv_room (Nat.le_of_ble_eq_true rfl)) dX1_chooseYear_75 ⟨Nat.zero_le _, Nat.zero_le _⟩) hG (fun h_75 g_75 H locs hq hG => ?_)
        replace HW := HW h_75 g_75 hq
        refine lv_aload_n hx hb dX1_chooseYear_78 rfl (lv_at hl 0 rfl) ?_
        refine lv_iconst (v := 5) hx hb dX1_chooseYear_79 (by decide) ?_
        obtain ⟨P_80, HC_80, HW⟩ := HW
        refine g_callv (g_runV (As := [.int (5 : Int32)]) (rest := []) ⟨hx, hb, hml, hown, hts⟩ (m_X1_shorten l D cy ad h_75 g_75 H.size (5 : Int32) P_80 HC_80) (cwV 1 hts (gd_V (wm4 58 rfl rfl) (wm4 60 rfl rfl) (wmp2 (q := (yX1_shorten, 7)) 9 rfl) (wm1 10 rfl rfl) (wm4 61 rfl rfl)) rfl rfl rfl (by decide +kernel) ⟨Nat.le_of_ble_eq_true rfl, Nat.le_of_ble_eq_true rfl⟩) hK hNw hG gl_109 rfl gk_109 (by decide) rfl rfl hl.1 rfl (lv_room (Nat.le_of_ble_eq_true rfl)) dX1_chooseYear_80 ⟨Nat.zero_le _, Nat.zero_le _⟩) hG (fun h_80 g_80 H locs hq hG => ?_)
        replace HW := HW h_80 g_80 hq
        obtain ⟨x4_83, ex4_83⟩ : ∃ y : Int32, y = (x4 + 1) := ⟨_, rfl⟩
        replace HW := HW x4_83 ex4_83
        refine lv_iinc (v := x4_83) (lv' := [(4, .int x4_83), (0, .ref (ad 109))]) hx hb dX1_chooseYear_83 hl (k := 1) rfl (by rw [ex4_83]; rfl) (by decide) rfl (fun ls hl => ?_)
        refine lv_goto (tgt := 67) hx hb dX1_chooseYear_86 (by decide) ?_
        exact hK67 x4_83 h_80 g_80 _ _ _ HW hG (lv_sub hl [1, 0] rfl)
  have E0 : ∀ (H : Heap) (locs : List Loc) (ls : Array Slot), gG D cy ad (gA ad s.heap.size) s.heap h g H locs → lv_has ls 5 [(0, .ref (ad 109)), (1, .int x1)] → W p l e ({ frames := 1, cells := 0, slots := 0, locals := 32 } : Room) s m args below meth c H locs 0 0 (MQ below (va_Qv (fun (u : HI × HL) => Q u.1 u.2) (gB D cy ad s.heap.size) (gA ad s.heap.size)) args s 0 0 (gA ad s.heap.size)) (F0 m 0 ls []) := by
    intro H locs ls hG hl
    unfold w_X1_chooseYear at HW
    refine lv_aload_n hx hb dX1_chooseYear_0 rfl (lv_at hl 0 rfl) ?_
    refine g_getr hx hb hw inG1 hown hK hG gl_109 rfl gk_109 (by decide) 0 (by decide) (by rw [gm_109]; decide) (r := 1) gr_109_0 lk27 dX1_chooseYear_1 ?_
    refine g_getr hx hb hw inG6 hown hK hG gl_1 rfl gk_1 (by decide) 7 (by decide) (by rw [gm_1]; decide) (r := 16) gr_1_7 lk51 dX1_chooseYear_4 ?_
    refine lv_iconst (v := 0) hx hb dX1_chooseYear_7 (by decide) ?_
    refine lv_iconst (v := 0) hx hb dX1_chooseYear_8 (by decide) ?_
    obtain ⟨P_9, HC_9, HW⟩ := HW
    refine g_calli (g_runV (As := [.int (0 : Int32), .int (0 : Int32)]) (rest := []) ⟨hx, hb, hml, hown, hts⟩ (m_X8_at l D cy ad h g H.size 16 (gs_16) (0 : Int32) (0 : Int32) P_9 HC_9) (cwV 2 hts (gd_V (wm4 53 rfl rfl) (wm2 221 rfl rfl) (wm2 222 rfl rfl) (wm1 3 rfl rfl) (wm2 223 rfl rfl)) rfl rfl rfl (by decide +kernel) ⟨Nat.le_of_ble_eq_true rfl, Nat.le_of_ble_eq_true rfl⟩) hK hNw hG gl_16 rfl gk_16 (by decide) rfl rfl hl.1 rfl (lv_room (Nat.le_of_ble_eq_true rfl)) dX1_chooseYear_9 ⟨Nat.zero_le _, Nat.zero_le _⟩) hG (fun r_9 h_9 g_9 H locs hq hG => ?_)
    replace HW := HW r_9 h_9 g_9 hq
    refine lv_istore_n (lv' := [(2, .int r_9), (0, .ref (ad 109)), (1, .int x1)]) hx hb dX1_chooseYear_12 rfl hl (by decide) rfl (fun ls hl => ?_)
    refine lv_aload_n hx hb dX1_chooseYear_13 rfl (lv_at hl 1 rfl) ?_
    refine g_getr hx hb hw inG1 hown hK hG gl_109 rfl gk_109 (by decide) 0 (by decide) (by rw [gm_109]; decide) (r := 1) gr_109_0 lk27 dX1_chooseYear_14 ?_
    refine g_getr hx hb hw inG6 hown hK hG gl_1 rfl gk_1 (by decide) 7 (by decide) (by rw [gm_1]; decide) (r := 16) gr_1_7 lk51 dX1_chooseYear_17 ?_
    refine lv_iconst (v := 0) hx hb dX1_chooseYear_20 (by decide) ?_
    refine lv_iconst (v := 1) hx hb dX1_chooseYear_21 (by decide) ?_
    obtain ⟨P_22, HC_22, HW⟩ := HW
    refine g_calli (g_runV (As := [.int (0 : Int32), .int (1 : Int32)]) (rest := []) ⟨hx, hb, hml, hown, hts⟩ (m_X8_at l D cy ad h_9 g_9 H.size 16 (gs_16) (0 : Int32) (1 : Int32) P_22 HC_22) (cwV 2 hts (gd_V (wm4 53 rfl rfl) (wm2 221 rfl rfl) (wm2 222 rfl rfl) (wm1 3 rfl rfl) (wm2 223 rfl rfl)) rfl rfl rfl (by decide +kernel) ⟨Nat.le_of_ble_eq_true rfl, Nat.le_of_ble_eq_true rfl⟩) hK hNw hG gl_16 rfl gk_16 (by decide) rfl rfl hl.1 rfl (lv_room (Nat.le_of_ble_eq_true rfl)) dX1_chooseYear_22 ⟨Nat.zero_le _, Nat.zero_le _⟩) hG (fun r_22 h_22 g_22 H locs hq hG => ?_)
    replace HW := HW r_22 h_22 g_22 hq
    refine lv_istore_n (lv' := [(3, .int r_22), (2, .int r_9), (0, .ref (ad 109)), (1, .int x1)]) hx hb dX1_chooseYear_25 rfl hl (by decide) rfl (fun ls hl => ?_)
    refine lv_aload_n hx hb dX1_chooseYear_26 rfl (lv_at hl 2 rfl) ?_
    refine lv_sipush (v := 1000) hx hb dX1_chooseYear_27 (by decide) ?_
    refine lv_sipush (v := 1000) hx hb dX1_chooseYear_30 (by decide) ?_
    refine lv_iload_n hx hb dX1_chooseYear_33 rfl (lv_at hl 1 rfl) ?_
    refine lv_iload_n hx hb dX1_chooseYear_34 rfl (lv_at hl 0 rfl) ?_
    refine lv_aload_n hx hb dX1_chooseYear_35 rfl (lv_at hl 2 rfl) ?_
    refine g_getr hx hb hw inG1 hown hK hG gl_109 rfl gk_109 (by decide) 0 (by decide) (by rw [gm_109]; decide) (r := 1) gr_109_0 lk27 dX1_chooseYear_36 ?_
    refine g_getr hx hb hw inG6 hown hK hG gl_1 rfl gk_1 (by decide) 0 (by decide) (by rw [gm_1]; decide) (r := 2) gr_1_0 lk63 dX1_chooseYear_39 ?_
    refine lv_iload_n hx hb dX1_chooseYear_42 rfl (lv_at hl 3 rfl) ?_
    refine lv_iconst (v := 0) hx hb dX1_chooseYear_43 (by decide) ?_
    obtain ⟨P_44, HC_44, HW⟩ := HW
    refine g_calli (g_runV (As := [.int x1, .int (0 : Int32)]) (rest := [.int r_22, .int r_9, .int (1000 : Int32), .int (1000 : Int32), .ref (ad 109)]) ⟨hx, hb, hml, hown, hts⟩ (m_X8_at l D cy ad h_22 g_22 H.size 2 (gs_2) x1 (0 : Int32) P_44 HC_44) (cwV 2 hts (gd_V (wm4 53 rfl rfl) (wm2 221 rfl rfl) (wm2 222 rfl rfl) (wm1 3 rfl rfl) (wm2 223 rfl rfl)) rfl rfl rfl (by decide +kernel) ⟨Nat.le_of_ble_eq_true rfl, Nat.le_of_ble_eq_true rfl⟩) hK hNw hG gl_2 rfl gk_2 (by decide) rfl rfl hl.1 rfl (lv_room (Nat.le_of_ble_eq_true rfl)) dX1_chooseYear_44 ⟨Nat.zero_le _, Nat.zero_le _⟩) hG (fun r_44 h_44 g_44 H locs hq hG => ?_)
    replace HW := HW r_44 h_44 g_44 hq
    obtain ⟨P_47, HC_47, HW⟩ := HW
    refine g_calli (g_runS (As := [.int r_9, .int r_22, .int r_44]) (rest := [.int (1000 : Int32), .int (1000 : Int32), .ref (ad 109)]) ⟨hx, hb, hml, hown, hts⟩ (m_X1_oddsOf l D cy ad h_44 g_44 H.size r_9 r_22 r_44 P_47 HC_47) (va_cwS 3 hts (gd_S (wm4 54 rfl rfl) (wm4 55 rfl rfl) (wm1 10 rfl rfl) (wm4 56 rfl rfl)) rfl rfl rfl (by decide +kernel) ⟨Nat.le_of_ble_eq_true rfl, Nat.le_of_ble_eq_true rfl⟩) hK hNw hG rfl rfl hl.1 rfl (lv_room (Nat.le_of_ble_eq_true rfl)) dX1_chooseYear_47 ⟨Nat.zero_le _, Nat.zero_le _⟩) hG (fun r_47 h_47 g_47 H locs hq hG => ?_)
    replace HW := HW r_47 h_47 g_47 hq
    refine va_mmin hx hb (hml.trans hl.1.symm) hown ml70 ms70 mi70 mc70 (by decide) (Nat.le_of_ble_eq_true rfl) (Nat.zero_le _) (Nat.zero_le _) dX1_chooseYear_50 ?_
    refine lv_isub hx hb dX1_chooseYear_53 ?_
    refine g_put hx hb hw inG1 tyX1 tyX1_ok nmX1 hown hK hG gl_109 rfl gk_109 (by decide) 5 (by decide) (by rw [gm_109]; decide) gr_109_5 rfl (ty := .int) (by decide +kernel) rfl rfl lk38 dX1_chooseYear_54 (fun H locs hG => ?_)
    obtain ⟨h_54, eh_54⟩ : ∃ y : HI, y = hu h_47 109 5 ((1000 : Int32) - (if r_47 < (1000 : Int32) then r_47 else (1000 : Int32))) := ⟨_, rfl⟩
    rw [← eh_54] at hG
    replace HW := HW h_54 eh_54
    refine lv_aload_n hx hb dX1_chooseYear_57 rfl (lv_at hl 2 rfl) ?_
    refine lv_sipush (v := 1000) hx hb dX1_chooseYear_58 (by decide) ?_
    refine g_put hx hb hw inG1 tyX1 tyX1_ok nmX1 hown hK hG gl_109 rfl gk_109 (by decide) 6 (by decide) (by rw [gm_109]; decide) gr_109_6 rfl (ty := .int) (by decide +kernel) rfl rfl lk45 dX1_chooseYear_61 (fun H locs hG => ?_)
    obtain ⟨h_61, eh_61⟩ : ∃ y : HI, y = hu h_54 109 6 (1000 : Int32) := ⟨_, rfl⟩
    rw [← eh_61] at hG
    replace HW := HW h_61 eh_61
    refine lv_iconst (v := 0) hx hb dX1_chooseYear_64 (by decide) ?_
    refine lv_istore (lv' := [(4, .int (0 : Int32)), (3, .int r_22), (2, .int r_9), (0, .ref (ad 109)), (1, .int x1)]) hx hb dX1_chooseYear_65 hl (by decide) rfl (fun ls hl => ?_)
    obtain ⟨n_67, HW⟩ := HW
    exact L67 n_67 (0 : Int32) h_61 g_47 _ _ _ HW hG (lv_sub hl [3, 0] rfl)
  exact E0 _ _ _ hG hl

def b_X1_last_23 (Q : HI → HL → Prop) (K23 : Int32 → Int32 → HI → HL → Prop) (x2 : Int32) (x3 : Int32) (h : HI) (g : HL) : Prop :=
  ((x2 ≤ x3 → Q h g) ∧ (¬ x2 ≤ x3 → (∃ P_36 : HI → HL → Prop, w_X0_times 110 (h 109 5) h g P_36 ∧ ∀ (h_36 : HI) (g_36 : HL), P_36 h_36 g_36 → (∃ P_47 : HI → HL → Prop, w_X0_times 112 (h_36 109 6) h_36 g_36 P_47 ∧ ∀ (h_47 : HI) (g_47 : HL), P_47 h_47 g_47 → (∀ x3_50 : Int32, x3_50 = (x3 + 1) → K23 x2 x3_50 h_47 g_47)))))
def F_X1_last_23 (Q : HI → HL → Prop) (K : Int32 × Int32 × HI × HL → Prop) (q : Int32 × Int32 × HI × HL) : Prop := b_X1_last_23 Q (fun x2 x3 h g => K (x2, x3, h, g)) q.1 q.2.1 q.2.2.1 q.2.2.2
def w_X1_last (x1 : Int32) (x2 : Int32) (h : HI) (g : HL) (Q : HI → HL → Prop) : Prop :=
  (∃ P_2 : HI → HL → Prop, w_X1_chooseYear x1 h g P_2 ∧ ∀ (h_2 : HI) (g_2 : HL), P_2 h_2 g_2 → (∃ P_10 : HI → HL → Prop, w_X0_set 110 (1 : Int32) h_2 g_2 P_10 ∧ ∀ (h_10 : HI) (g_10 : HL), P_10 h_10 g_10 → (∃ P_18 : HI → HL → Prop, w_X0_set 112 (1 : Int32) h_10 g_10 P_18 ∧ ∀ (h_18 : HI) (g_18 : HL), P_18 h_18 g_18 → lpE (F_X1_last_23 Q) (x2, (0 : Int32), h_18, g_18))))
set_option maxHeartbeats 8000000 in
set_option maxRecDepth 100000 in
theorem m_X1_last (l : Launch) (D : va_G) (cy : Nat → ClassId) (ad : Nat → Nat) (h : HI) (g : HL) (sz : Nat) (x1 : Int32) (x2 : Int32) (Q : HI → HL → Prop) (HW : w_X1_last x1 x2 h g Q) : Met l yX1_last (wa yX1_last cX1_last 4 none) ({ frames := 2, cells := 0, slots := 0, locals := 56 }) (va_Pc [.ref (ad 109), .int x1, .int x2] (gI D cy ad h g sz)) (va_Qv (fun (u : HI × HL) => Q u.1 u.2) (gB D cy ad sz) (gA ad sz)) 0 0 (gA ad sz) := by
  refine Met.ofW (cc := cX1_last) (maxL := 4) (ret := none) (by decide) rfl ?_
  intro p e s m args below meth c s₁ B hml hv
  obtain ⟨hav, hsz, hP, hK, hD0, hNw⟩ := hv
  have hx := B.exec
  have hb := B.bytes
  have hr := B.returns
  have hts := atoms_spec (ws := (wa yX1_last cX1_last 4 none)) B.pre
  have hw := wa_hw hts
  have hown : s.vm.findClass RX1 = some m.cls := findClass_of_methodNamed B.named
  have hlocks := B.notSynchronized
  subst hsz
  have hG : gG D cy ad (gA ad s.heap.size) s.heap h g s.heap [] := ⟨hP, gA_self hD0, va_S.rf⟩
  clear hP hD0
  have lk12 := hw (.fieldLink RX1 12 "OldWorks$Breaks" "above" "LOldWorks$Big;") (wm2 93 rfl rfl)
  have lk18 := hw (.fieldLink RX1 18 "OldWorks$Breaks" "below" "LOldWorks$Big;") (wm2 94 rfl rfl)
  have lk38 := hw (.fieldLink RX1 38 "OldWorks$Breaks" "keeps" "I") (wm2 97 rfl rfl)
  have lk45 := hw (.fieldLink RX1 45 "OldWorks$Breaks" "outOf" "I") (wm2 98 rfl rfl)
  rw [show (headSpec (wa yX1_last cX1_last 4 none) ({ frames := 2, cells := 0, slots := 0, locals := 56 } : Room)).room = ({ frames := 2, cells := 0, slots := 0, locals := 56 } : Room) from rfl]
  have hl := lv_entry ([.ref (ad 109), .int x1, .int x2]) (n := 4) (Nat.le_of_ble_eq_true rfl)
  rw [show entryFrame m args 4 = entryFrame m ([.ref (ad 109), .int x1, .int x2] : List Value).toArray 4 from by rw [hav], lg_entry_eq]
  generalize (lg_sl ([.ref (ad 109), .int x1, .int x2]) ++ List.replicate (4 - (lg_sl ([.ref (ad 109), .int x1, .int x2])).length) Slot.unset).toArray = ls at hl ⊢
  have hl : lv_has ls 4 [(0, .ref (ad 109)), (1, .int x1), (2, .int x2)] := hl
  have L23 : ∀ (n : Nat) (x2 : Int32) (x3 : Int32) (h : HI) (g : HL) (H : Heap) (locs : List Loc) (ls : Array Slot), lpN (F_X1_last_23 Q) n (x2, x3, h, g) → gG D cy ad (gA ad s.heap.size) s.heap h g H locs → lv_has ls 4 [(0, .ref (ad 109)), (2, .int x2), (3, .int x3)] → W p l e ({ frames := 2, cells := 0, slots := 0, locals := 56 } : Room) s m args below meth c H locs 0 0 (MQ below (va_Qv (fun (u : HI × HL) => Q u.1 u.2) (gB D cy ad s.heap.size) (gA ad s.heap.size)) args s 0 0 (gA ad s.heap.size)) (F0 m 23 ls []) := by
    intro n
    induction n with
    | zero => intro x2 x3 h g H locs ls HW; exact HW.elim
    | succ n ih =>
      intro x2 x3 h g H locs ls HW hG hl
      have HW : b_X1_last_23 Q (fun x2 x3 h g => lpN (F_X1_last_23 Q) n (x2, x3, h, g)) x2 x3 h g := HW
      generalize hKe : (fun (x2 : Int32) (x3 : Int32) (h : HI) (g : HL) => lpN (F_X1_last_23 Q) n (x2, x3, h, g)) = K23 at HW
      have hK23 : ∀ (x2 : Int32) (x3 : Int32) (h : HI) (g : HL) (H : Heap) (locs : List Loc) (ls : Array Slot), K23 x2 x3 h g → gG D cy ad (gA ad s.heap.size) s.heap h g H locs → lv_has ls 4 [(0, .ref (ad 109)), (2, .int x2), (3, .int x3)] → W p l e ({ frames := 2, cells := 0, slots := 0, locals := 56 } : Room) s m args below meth c H locs 0 0 (MQ below (va_Qv (fun (u : HI × HL) => Q u.1 u.2) (gB D cy ad s.heap.size) (gA ad s.heap.size)) args s 0 0 (gA ad s.heap.size)) (F0 m 23 ls []) := by subst hKe; exact ih
      clear ih
      clear hKe
      unfold b_X1_last_23 at HW
      refine lv_iload_n hx hb dX1_last_23 rfl (lv_at hl 2 rfl) ?_
      refine lv_iload_n hx hb dX1_last_24 rfl (lv_at hl 1 rfl) ?_
      refine lv_icmp_ge (tgt := 56) hx hb dX1_last_25 (by decide) (fun c_25 => ?_) (fun c_25 => ?_)
      · replace HW := HW.1 c_25
        exact W.vret hx hb hr (fun t ht hW => ⟨⟨(h, g), rfl, HW, g_B ht hG⟩, hG.2.2.F ht⟩) hG.2.2.2.2 dX1_last_56
      · replace HW := HW.2 c_25
        refine lv_aload_n hx hb dX1_last_28 rfl (lv_at hl 0 rfl) ?_
        refine g_getr hx hb hw inG1 hown hK hG gl_109 rfl gk_109 (by decide) 1 (by decide) (by rw [gm_109]; decide) (r := 110) gr_109_1 lk12 dX1_last_29 ?_
        refine lv_aload_n hx hb dX1_last_32 rfl (lv_at hl 0 rfl) ?_
        refine g_geti hx hb hw inG1 hown hK hG gl_109 rfl gk_109 (by decide) 5 (by decide) (by rw [gm_109]; decide) gr_109_5 lk38 dX1_last_33 ?_
        obtain ⟨P_36, HC_36, HW⟩ := HW
        refine g_callv (g_runV (As := [.int (h 109 5)]) (rest := []) ⟨hx, hb, hml, hown, hts⟩ (m_X0_times l D cy ad h g H.size 110 (gs_110) (h 109 5) P_36 HC_36) (cwV 1 hts (gd_V (wm4 62 rfl rfl) (wm4 63 rfl rfl) (wm4 64 rfl rfl) (wm1 11 rfl rfl) (wm4 65 rfl rfl)) rfl rfl rfl (by decide +kernel) ⟨Nat.le_of_ble_eq_true rfl, Nat.le_of_ble_eq_true rfl⟩) hK hNw hG gl_110 rfl gk_110 (by decide) rfl rfl hl.1 rfl (lv_room (Nat.le_of_ble_eq_true rfl)) dX1_last_36 ⟨Nat.zero_le _, Nat.zero_le _⟩) hG (fun h_36 g_36 H locs hq hG => ?_)
        replace HW := HW h_36 g_36 hq
        refine lv_aload_n hx hb dX1_last_39 rfl (lv_at hl 0 rfl) ?_
        refine g_getr hx hb hw inG1 hown hK hG gl_109 rfl gk_109 (by decide) 2 (by decide) (by rw [gm_109]; decide) (r := 112) gr_109_2 lk18 dX1_last_40 ?_
        refine lv_aload_n hx hb dX1_last_43 rfl (lv_at hl 0 rfl) ?_
        refine g_geti hx hb hw inG1 hown hK hG gl_109 rfl gk_109 (by decide) 6 (by decide) (by rw [gm_109]; decide) gr_109_6 lk45 dX1_last_44 ?_
        obtain ⟨P_47, HC_47, HW⟩ := HW
        refine g_callv (g_runV (As := [.int (h_36 109 6)]) (rest := []) ⟨hx, hb, hml, hown, hts⟩ (m_X0_times l D cy ad h_36 g_36 H.size 112 (gs_112) (h_36 109 6) P_47 HC_47) (cwV 1 hts (gd_V (wm4 62 rfl rfl) (wm4 63 rfl rfl) (wm4 64 rfl rfl) (wm1 11 rfl rfl) (wm4 65 rfl rfl)) rfl rfl rfl (by decide +kernel) ⟨Nat.le_of_ble_eq_true rfl, Nat.le_of_ble_eq_true rfl⟩) hK hNw hG gl_112 rfl gk_112 (by decide) rfl rfl hl.1 rfl (lv_room (Nat.le_of_ble_eq_true rfl)) dX1_last_47 ⟨Nat.zero_le _, Nat.zero_le _⟩) hG (fun h_47 g_47 H locs hq hG => ?_)
        replace HW := HW h_47 g_47 hq
        obtain ⟨x3_50, ex3_50⟩ : ∃ y : Int32, y = (x3 + 1) := ⟨_, rfl⟩
        replace HW := HW x3_50 ex3_50
        refine lv_iinc (v := x3_50) (lv' := [(3, .int x3_50), (0, .ref (ad 109)), (2, .int x2)]) hx hb dX1_last_50 hl (k := 2) rfl (by rw [ex3_50]; rfl) (by decide) rfl (fun ls hl => ?_)
        refine lv_goto (tgt := 23) hx hb dX1_last_53 (by decide) ?_
        exact hK23 x2 x3_50 h_47 g_47 _ _ _ HW hG (lv_sub hl [1, 2, 0] rfl)
  have E0 : ∀ (H : Heap) (locs : List Loc) (ls : Array Slot), gG D cy ad (gA ad s.heap.size) s.heap h g H locs → lv_has ls 4 [(0, .ref (ad 109)), (1, .int x1), (2, .int x2)] → W p l e ({ frames := 2, cells := 0, slots := 0, locals := 56 } : Room) s m args below meth c H locs 0 0 (MQ below (va_Qv (fun (u : HI × HL) => Q u.1 u.2) (gB D cy ad s.heap.size) (gA ad s.heap.size)) args s 0 0 (gA ad s.heap.size)) (F0 m 0 ls []) := by
    intro H locs ls hG hl
    unfold w_X1_last at HW
    refine lv_aload_n hx hb dX1_last_0 rfl (lv_at hl 0 rfl) ?_
    refine lv_iload_n hx hb dX1_last_1 rfl (lv_at hl 1 rfl) ?_
    obtain ⟨P_2, HC_2, HW⟩ := HW
    refine g_callv (g_runV (As := [.int x1]) (rest := []) ⟨hx, hb, hml, hown, hts⟩ (m_X1_chooseYear l D cy ad h g H.size x1 P_2 HC_2) (cwV 1 hts (gd_V (wm4 49 rfl rfl) (wm4 51 rfl rfl) (wmp2 (q := (yX1_chooseYear, 7)) 8 rfl) (wm1 10 rfl rfl) (wm4 52 rfl rfl)) rfl rfl rfl (by decide +kernel) ⟨Nat.le_of_ble_eq_true rfl, Nat.le_of_ble_eq_true rfl⟩) hK hNw hG gl_109 rfl gk_109 (by decide) rfl rfl hl.1 rfl (lv_room (Nat.le_of_ble_eq_true rfl)) dX1_last_2 ⟨Nat.zero_le _, Nat.zero_le _⟩) hG (fun h_2 g_2 H locs hq hG => ?_)
    replace HW := HW h_2 g_2 hq
    refine lv_aload_n hx hb dX1_last_5 rfl (lv_at hl 0 rfl) ?_
    refine g_getr hx hb hw inG1 hown hK hG gl_109 rfl gk_109 (by decide) 1 (by decide) (by rw [gm_109]; decide) (r := 110) gr_109_1 lk12 dX1_last_6 ?_
    refine lv_iconst (v := 1) hx hb dX1_last_9 (by decide) ?_
    obtain ⟨P_10, HC_10, HW⟩ := HW
    refine g_callv (g_runV (As := [.int (1 : Int32)]) (rest := []) ⟨hx, hb, hml, hown, hts⟩ (m_X0_set l D cy ad h_2 g_2 H.size 110 (gs_110) (1 : Int32) P_10 HC_10) (cwV 1 hts (gd_V (wm2 88 rfl rfl) (wm2 89 rfl rfl) (wm2 90 rfl rfl) (wm1 11 rfl rfl) (wm2 91 rfl rfl)) rfl rfl rfl (by decide +kernel) ⟨Nat.le_of_ble_eq_true rfl, Nat.le_of_ble_eq_true rfl⟩) hK hNw hG gl_110 rfl gk_110 (by decide) rfl rfl hl.1 rfl (lv_room (Nat.le_of_ble_eq_true rfl)) dX1_last_10 ⟨Nat.zero_le _, Nat.zero_le _⟩) hG (fun h_10 g_10 H locs hq hG => ?_)
    replace HW := HW h_10 g_10 hq
    refine lv_aload_n hx hb dX1_last_13 rfl (lv_at hl 0 rfl) ?_
    refine g_getr hx hb hw inG1 hown hK hG gl_109 rfl gk_109 (by decide) 2 (by decide) (by rw [gm_109]; decide) (r := 112) gr_109_2 lk18 dX1_last_14 ?_
    refine lv_iconst (v := 1) hx hb dX1_last_17 (by decide) ?_
    obtain ⟨P_18, HC_18, HW⟩ := HW
    refine g_callv (g_runV (As := [.int (1 : Int32)]) (rest := []) ⟨hx, hb, hml, hown, hts⟩ (m_X0_set l D cy ad h_10 g_10 H.size 112 (gs_112) (1 : Int32) P_18 HC_18) (cwV 1 hts (gd_V (wm2 88 rfl rfl) (wm2 89 rfl rfl) (wm2 90 rfl rfl) (wm1 11 rfl rfl) (wm2 91 rfl rfl)) rfl rfl rfl (by decide +kernel) ⟨Nat.le_of_ble_eq_true rfl, Nat.le_of_ble_eq_true rfl⟩) hK hNw hG gl_112 rfl gk_112 (by decide) rfl rfl hl.1 rfl (lv_room (Nat.le_of_ble_eq_true rfl)) dX1_last_18 ⟨Nat.zero_le _, Nat.zero_le _⟩) hG (fun h_18 g_18 H locs hq hG => ?_)
    replace HW := HW h_18 g_18 hq
    refine lv_iconst (v := 0) hx hb dX1_last_21 (by decide) ?_
    refine lv_istore_n (lv' := [(3, .int (0 : Int32)), (0, .ref (ad 109)), (1, .int x1), (2, .int x2)]) hx hb dX1_last_22 rfl hl (by decide) rfl (fun ls hl => ?_)
    obtain ⟨n_23, HW⟩ := HW
    exact L23 n_23 x2 (0 : Int32) h_18 g_18 _ _ _ HW hG (lv_sub hl [1, 3, 0] rfl)
  exact E0 _ _ _ hG hl
