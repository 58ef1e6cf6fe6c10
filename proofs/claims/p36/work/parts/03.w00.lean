section
-- 03.w00
def w_X0_set (o : Nat) (x1 : Int32) (h : HI) (g : HL) (Q : HI → HL → Prop) : Prop :=
  (vp_in (0 : Int32) 70 ∧ ∀ h_6 : HI, h_6 = hu h (o + 1) (0 : Int32).toNatClampNeg x1 → (∀ h_9 : HI, h_9 = hu h_6 o 1 (1 : Int32) → Q h_9 g))
set_option maxHeartbeats 8000000 in
set_option maxRecDepth 100000 in
theorem m_X0_set (l : Launch) (D : va_G) (cy : Nat → ClassId) (ad : Nat → Nat) (h : HI) (g : HL) (sz : Nat) (o : Nat) (hT : isB o) (x1 : Int32) (Q : HI → HL → Prop) (HW : w_X0_set o x1 h g Q) : Met l yX0_set (wa yX0_set cX0_set 2 none) ({ frames := 0, cells := 0, slots := 0, locals := 0 }) (va_Pc [.ref (ad o), .int x1] (gI D cy ad h g sz)) (va_Qv (fun (u : HI × HL) => Q u.1 u.2) (gB D cy ad sz) (gA ad sz)) 0 0 (gA ad sz) := by
  refine Met.ofW (cc := cX0_set) (maxL := 2) (ret := none) (by decide) rfl ?_
  intro p e s m args below meth c s₁ B hml hv
  obtain ⟨hav, hsz, hP, hK, hD0, hNw⟩ := hv
  have hx := B.exec
  have hb := B.bytes
  have hr := B.returns
  have hts := atoms_spec (ws := (wa yX0_set cX0_set 2 none)) B.pre
  have hw := wa_hw hts
  have hown : s.vm.findClass RX0 = some m.cls := findClass_of_methodNamed B.named
  have hlocks := B.notSynchronized
  subst hsz
  have hG : gG D cy ad (gA ad s.heap.size) s.heap h g s.heap [] := ⟨hP, gA_self hD0, va_S.rf⟩
  clear hP hD0
  have lk11 := hw (.fieldLink RX0 11 "OldWorks$Big" "digits" "[I") (wm2 81 rfl rfl)
  have lk15 := hw (.fieldLink RX0 15 "OldWorks$Big" "many" "I") (wm2 82 rfl rfl)
  rw [show (headSpec (wa yX0_set cX0_set 2 none) ({ frames := 0, cells := 0, slots := 0, locals := 0 } : Room)).room = ({ frames := 0, cells := 0, slots := 0, locals := 0 } : Room) from rfl]
  have hl := lv_entry ([.ref (ad o), .int x1]) (n := 2) (Nat.le_of_ble_eq_true rfl)
  rw [show entryFrame m args 2 = entryFrame m ([.ref (ad o), .int x1] : List Value).toArray 2 from by rw [hav], lg_entry_eq]
  generalize (lg_sl ([.ref (ad o), .int x1]) ++ List.replicate (2 - (lg_sl ([.ref (ad o), .int x1])).length) Slot.unset).toArray = ls at hl ⊢
  have hl : lv_has ls 2 [(0, .ref (ad o)), (1, .int x1)] := hl
  have E0 : ∀ (H : Heap) (locs : List Loc) (ls : Array Slot), gG D cy ad (gA ad s.heap.size) s.heap h g H locs → lv_has ls 2 [(0, .ref (ad o)), (1, .int x1)] → W p l e ({ frames := 0, cells := 0, slots := 0, locals := 0 } : Room) s m args below meth c H locs 0 0 (MQ below (va_Qv (fun (u : HI × HL) => Q u.1 u.2) (gB D cy ad s.heap.size) (gA ad s.heap.size)) args s 0 0 (gA ad s.heap.size)) (F0 m 0 ls []) := by
    intro H locs ls hG hl
    unfold w_X0_set at HW
    refine lv_aload_n hx hb dX0_set_0 rfl (lv_at hl 0 rfl) ?_
    refine g_getr hx hb hw inG0 hown hK hG hT.lt rfl hT.k (by decide) 0 (by decide) (by rw [hT.m]; decide) (r := (o + 1)) hT.r.1 lk11 dX0_set_1 ?_
    refine lv_iconst (v := 0) hx hb dX0_set_4 (by decide) ?_
    refine lv_iload_n hx hb dX0_set_5 rfl (lv_at hl 1 rfl) ?_
    refine g_iast hx hb hK hG hT.a.2.1 hT.a.1 hT.a.2.2 HW.1 dX0_set_6 (fun H locs hG => ?_)
    replace HW := HW.2
    obtain ⟨h_6, eh_6⟩ : ∃ y : HI, y = hu h (o + 1) (0 : Int32).toNatClampNeg x1 := ⟨_, rfl⟩
    rw [← eh_6] at hG
    replace HW := HW h_6 eh_6
    refine lv_aload_n hx hb dX0_set_7 rfl (lv_at hl 0 rfl) ?_
    refine lv_iconst (v := 1) hx hb dX0_set_8 (by decide) ?_
    refine g_put hx hb hw inG0 tyX0 tyX0_ok nmX0 hown hK hG hT.lt rfl hT.k (by decide) 1 (by decide) (by rw [hT.m]; decide) hT.r.2 rfl (ty := .int) (by decide +kernel) rfl rfl lk15 dX0_set_9 (fun H locs hG => ?_)
    obtain ⟨h_9, eh_9⟩ : ∃ y : HI, y = hu h_6 o 1 (1 : Int32) := ⟨_, rfl⟩
    rw [← eh_9] at hG
    replace HW := HW h_9 eh_9
    exact W.vret hx hb hr (fun t ht hW => ⟨⟨(h_9, g), rfl, HW, g_B ht hG⟩, hG.2.2.F ht⟩) hG.2.2.2.2 dX0_set_12
  exact E0 _ _ _ hG hl

def w_X0_copy (o : Nat) (o1 : Nat) (h : HI) (g : HL) (Q : HI → HL → Prop) : Prop :=
  ((¬ (0 : Int32) < 0 ∧ ¬ (0 : Int32) < 0 ∧ ¬ (70 : Int32) < 0 ∧ (0 : Int32).toNatClampNeg + (70 : Int32).toNatClampNeg ≤ 70 ∧ (0 : Int32).toNatClampNeg + (70 : Int32).toNatClampNeg ≤ 70) ∧ ∀ h_12 : HI, h_12 = hua h (o + 1) (va_cpy (h (o1 + 1)) (h (o + 1)) (0 : Int32).toNatClampNeg (0 : Int32).toNatClampNeg (70 : Int32).toNatClampNeg) → (∀ h_20 : HI, h_20 = hu h_12 o 1 (h_12 o1 1) → Q h_20 g))
set_option maxHeartbeats 8000000 in
set_option maxRecDepth 100000 in
theorem m_X0_copy (l : Launch) (D : va_G) (cy : Nat → ClassId) (ad : Nat → Nat) (h : HI) (g : HL) (sz : Nat) (o : Nat) (hT : isB o) (o1 : Nat) (hT1 : isB o1) (Q : HI → HL → Prop) (HW : w_X0_copy o o1 h g Q) : Met l yX0_copy (wa yX0_copy cX0_copy 2 none) ({ frames := 1, cells := 0, slots := 0, locals := 60 }) (va_Pc [.ref (ad o), .ref (ad o1)] (gI D cy ad h g sz)) (va_Qv (fun (u : HI × HL) => Q u.1 u.2) (gB D cy ad sz) (gA ad sz)) 0 0 (gA ad sz) := by
  refine Met.ofW (cc := cX0_copy) (maxL := 2) (ret := none) (by decide) rfl ?_
  intro p e s m args below meth c s₁ B hml hv
  obtain ⟨hav, hsz, hP, hK, hD0, hNw⟩ := hv
  have hx := B.exec
  have hb := B.bytes
  have hr := B.returns
  have hts := atoms_spec (ws := (wa yX0_copy cX0_copy 2 none)) B.pre
  have hw := wa_hw hts
  have hown : s.vm.findClass RX0 = some m.cls := findClass_of_methodNamed B.named
  have hlocks := B.notSynchronized
  subst hsz
  have hG : gG D cy ad (gA ad s.heap.size) s.heap h g s.heap [] := ⟨hP, gA_self hD0, va_S.rf⟩
  clear hP hD0
  have lk11 := hw (.fieldLink RX0 11 "OldWorks$Big" "digits" "[I") (wm2 81 rfl rfl)
  have ml19 := hw (.methodLink RX0 19 arraycopyName) (wm4 123 rfl rfl)
  have mn19 := hw (.native arraycopyName) (wm4 125 rfl rfl)
  have ms19 := hw (.static arraycopyName) (wm4 124 rfl rfl)
  have mi19 := hw (.initialized "java/lang/System") (wm1 16 rfl rfl)
  have lk15 := hw (.fieldLink RX0 15 "OldWorks$Big" "many" "I") (wm2 82 rfl rfl)
  rw [show (headSpec (wa yX0_copy cX0_copy 2 none) ({ frames := 1, cells := 0, slots := 0, locals := 60 } : Room)).room = ({ frames := 1, cells := 0, slots := 0, locals := 60 } : Room) from rfl]
  have hl := lv_entry ([.ref (ad o), .ref (ad o1)]) (n := 2) (Nat.le_of_ble_eq_true rfl)
  rw [show entryFrame m args 2 = entryFrame m ([.ref (ad o), .ref (ad o1)] : List Value).toArray 2 from by rw [hav], lg_entry_eq]
  generalize (lg_sl ([.ref (ad o), .ref (ad o1)]) ++ List.replicate (2 - (lg_sl ([.ref (ad o), .ref (ad o1)])).length) Slot.unset).toArray = ls at hl ⊢
  have hl : lv_has ls 2 [(0, .ref (ad o)), (1, .ref (ad o1))] := hl
  have E0 : ∀ (H : Heap) (locs : List Loc) (ls : Array Slot), gG D cy ad (gA ad s.heap.size) s.heap h g H locs → lv_has ls 2 [(0, .ref (ad o)), (1, .ref (ad o1))] → W p l e ({ frames := 1, cells := 0, slots := 0, locals := 60 } : Room) s m args below meth c H locs 0 0 (MQ below (va_Qv (fun (u : HI × HL) => Q u.1 u.2) (gB D cy ad s.heap.size) (gA ad s.heap.size)) args s 0 0 (gA ad s.heap.size)) (F0 m 0 ls []) := by
    intro H locs ls hG hl
    unfold w_X0_copy at HW
    refine lv_aload_n hx hb dX0_copy_0 rfl (lv_at hl 1 rfl) ?_
    refine g_getr hx hb hw inG0 hown hK hG hT1.lt rfl hT1.k (by decide) 0 (by decide) (by rw [hT1.m]; decide) (r := (o1 + 1)) hT1.r.1 lk11 dX0_copy_1 ?_
    refine lv_iconst (v := 0) hx hb dX0_copy_4 (by decide) ?_
    refine lv_aload_n hx hb dX0_copy_5 rfl (lv_at hl 0 rfl) ?_
    refine g_getr hx hb hw inG0 hown hK hG hT.lt rfl hT.k (by decide) 0 (by decide) (by rw [hT.m]; decide) (r := (o + 1)) hT.r.1 lk11 dX0_copy_6 ?_
    refine lv_iconst (v := 0) hx hb dX0_copy_9 (by decide) ?_
    refine lv_bipush (v := 70) hx hb dX0_copy_10 (by decide) ?_
    refine g_copy hx hb (hml.trans hl.1.symm) hown ml19 mn19 ms19 mi19 hK hG hT1.a.2.1 hT1.a.1 hT1.a.2.2 hT.a.2.1 hT.a.1 hT.a.2.2 HW.1 (by decide) (Nat.le_of_ble_eq_true rfl) dX0_copy_12 (fun H locs hG => ?_)
    replace HW := HW.2
    obtain ⟨h_12, eh_12⟩ : ∃ y : HI, y = hua h (o + 1) (va_cpy (h (o1 + 1)) (h (o + 1)) (0 : Int32).toNatClampNeg (0 : Int32).toNatClampNeg (70 : Int32).toNatClampNeg) := ⟨_, rfl⟩
    rw [← eh_12] at hG
    replace HW := HW h_12 eh_12
    refine lv_aload_n hx hb dX0_copy_15 rfl (lv_at hl 0 rfl) ?_
    refine lv_aload_n hx hb dX0_copy_16 rfl (lv_at hl 1 rfl) ?_
    refine g_geti hx hb hw inG0 hown hK hG hT1.lt rfl hT1.k (by decide) 1 (by decide) (by rw [hT1.m]; decide) hT1.r.2 lk15 dX0_copy_17 ?_
    refine g_put hx hb hw inG0 tyX0 tyX0_ok nmX0 hown hK hG hT.lt rfl hT.k (by decide) 1 (by decide) (by rw [hT.m]; decide) hT.r.2 rfl (ty := .int) (by decide +kernel) rfl rfl lk15 dX0_copy_20 (fun H locs hG => ?_)
    obtain ⟨h_20, eh_20⟩ : ∃ y : HI, y = hu h_12 o 1 (h_12 o1 1) := ⟨_, rfl⟩
    rw [← eh_20] at hG
    replace HW := HW h_20 eh_20
    exact W.vret hx hb hr (fun t ht hW => ⟨⟨(h_20, g), rfl, HW, g_B ht hG⟩, hG.2.2.F ht⟩) hG.2.2.2.2 dX0_copy_23
  exact E0 _ _ _ hG hl

def w_X10_within (x0 : Int32) (x1 : Int32) (x2 : Int32) (h : HI) (g : HL) (Q : Int32 → HI → HL → Prop) : Prop :=
  ((x0 < x1 → Q (0 : Int32) h g) ∧ (¬ x0 < x1 → ((x2 < x0 → Q (0 : Int32) h g) ∧ (¬ x2 < x0 → Q (1 : Int32) h g))))
set_option maxHeartbeats 8000000 in
set_option maxRecDepth 100000 in
theorem m_X10_within (l : Launch) (D : va_G) (cy : Nat → ClassId) (ad : Nat → Nat) (h : HI) (g : HL) (sz : Nat) (x0 : Int32) (x1 : Int32) (x2 : Int32) (Q : Int32 → HI → HL → Prop) (HW : w_X10_within x0 x1 x2 h g Q) : Met l yX10_within (wa yX10_within cX10_within 3 (some .boolean)) ({ frames := 0, cells := 0, slots := 0, locals := 0 }) (va_Pc [.int x0, .int x1, .int x2] (gI D cy ad h g sz)) (va_Qi (fun (r : Int32) (u : HI × HL) => zb r ∧ Q r u.1 u.2) (gB D cy ad sz) (gA ad sz)) 0 0 (gA ad sz) := by
  refine Met.ofW (cc := cX10_within) (maxL := 3) (ret := (some .boolean)) (by decide) rfl ?_
  intro p e s m args below meth c s₁ B hml hv
  obtain ⟨hav, hsz, hP, hK, hD0, hNw⟩ := hv
  have hx := B.exec
  have hb := B.bytes
  have hr := B.returns
  have hts := atoms_spec (ws := (wa yX10_within cX10_within 3 (some .boolean))) B.pre
  have hw := wa_hw hts
  have hown : s.vm.findClass RX10 = some m.cls := findClass_of_methodNamed B.named
  have hlocks := B.notSynchronized
  subst hsz
  have hG : gG D cy ad (gA ad s.heap.size) s.heap h g s.heap [] := ⟨hP, gA_self hD0, va_S.rf⟩
  clear hP hD0
  rw [show (headSpec (wa yX10_within cX10_within 3 (some .boolean)) ({ frames := 0, cells := 0, slots := 0, locals := 0 } : Room)).room = ({ frames := 0, cells := 0, slots := 0, locals := 0 } : Room) from rfl]
  have hl := lv_entry ([.int x0, .int x1, .int x2]) (n := 3) (Nat.le_of_ble_eq_true rfl)
  rw [show entryFrame m args 3 = entryFrame m ([.int x0, .int x1, .int x2] : List Value).toArray 3 from by rw [hav], lg_entry_eq]
  generalize (lg_sl ([.int x0, .int x1, .int x2]) ++ List.replicate (3 - (lg_sl ([.int x0, .int x1, .int x2])).length) Slot.unset).toArray = ls at hl ⊢
  have hl : lv_has ls 3 [(0, .int x0), (1, .int x1), (2, .int x2)] := hl
  have E0 : ∀ (H : Heap) (locs : List Loc) (ls : Array Slot), gG D cy ad (gA ad s.heap.size) s.heap h g H locs → lv_has ls 3 [(0, .int x0), (1, .int x1), (2, .int x2)] → W p l e ({ frames := 0, cells := 0, slots := 0, locals := 0 } : Room) s m args below meth c H locs 0 0 (MQ below (va_Qi (fun (r : Int32) (u : HI × HL) => zb r ∧ Q r u.1 u.2) (gB D cy ad s.heap.size) (gA ad s.heap.size)) args s 0 0 (gA ad s.heap.size)) (F0 m 0 ls []) := by
    intro H locs ls hG hl
    unfold w_X10_within at HW
    refine lv_iload_n hx hb dX10_within_0 rfl (lv_at hl 1 rfl) ?_
    refine lv_iload_n hx hb dX10_within_1 rfl (lv_at hl 0 rfl) ?_
    refine lv_icmp_gt (tgt := 14) hx hb dX10_within_2 (by decide) (fun c_2 => ?_) (fun c_2 => ?_)
    · replace HW := HW.1 c_2
      refine lv_iconst (v := 0) hx hb dX10_within_14 (by decide) ?_
      exact W.zret (v := (0 : Int32)) hx hb hr rfl (fun t ht hW => ⟨⟨(0 : Int32), (h, g), rfl, ⟨Or.inl rfl, HW⟩, g_B ht hG⟩, hG.2.2.F ht⟩) hG.2.2.2.2 dX10_within_15
    · replace HW := HW.2 c_2
      refine lv_iload_n hx hb dX10_within_5 rfl (lv_at hl 0 rfl) ?_
      refine lv_iload_n hx hb dX10_within_6 rfl (lv_at hl 2 rfl) ?_
      refine lv_icmp_gt (tgt := 14) hx hb dX10_within_7 (by decide) (fun c_7 => ?_) (fun c_7 => ?_)
      · replace HW := HW.1 c_7
        refine lv_iconst (v := 0) hx hb dX10_within_14 (by decide) ?_
        exact W.zret (v := (0 : Int32)) hx hb hr rfl (fun t ht hW => ⟨⟨(0 : Int32), (h, g), rfl, ⟨Or.inl rfl, HW⟩, g_B ht hG⟩, hG.2.2.F ht⟩) hG.2.2.2.2 dX10_within_15
      · replace HW := HW.2 c_7
        refine lv_iconst (v := 1) hx hb dX10_within_10 (by decide) ?_
        refine lv_goto (tgt := 15) hx hb dX10_within_11 (by decide) ?_
        exact W.zret (v := (1 : Int32)) hx hb hr rfl (fun t ht hW => ⟨⟨(1 : Int32), (h, g), rfl, ⟨Or.inr rfl, HW⟩, g_B ht hG⟩, hG.2.2.F ht⟩) hG.2.2.2.2 dX10_within_15
  exact E0 _ _ _ hG hl

def j_X0_times_59 (o : Nat) (Q : HI → HL → Prop) (x2 : Int64) (h : HI) (g : HL) : Prop :=
  (((lg_cmp x2 (0 : Int64)) ≤ 0 → Q h g) ∧ (¬ (lg_cmp x2 (0 : Int64)) ≤ 0 → (∃ P_72 : Int32 → HI → HL → Prop, w_X10_within (h o 1) (0 : Int32) (69 : Int32) h g P_72 ∧ ∀ (r_72 : Int32) (h_72 : HI) (g_72 : HL), zb r_72 → P_72 r_72 h_72 g_72 → ((r_72 = 0 → Q h_72 g_72) ∧ (¬ r_72 = 0 → (vp_in (h_72 o 1) 70 ∧ ∀ h_88 : HI, h_88 = hu h_72 (o + 1) (h_72 o 1).toNatClampNeg ((x2).toInt32) → (∀ h_96 : HI, h_96 = hu h_88 o 1 ((h_88 o 1) + (1 : Int32)) → Q h_96 g_72)))))))
def b_X0_times_5 (o : Nat) (Q : HI → HL → Prop) (K5 : Int32 → Int64 → Int32 → HI → HL → Prop) (x1 : Int32) (x2 : Int64) (x4 : Int32) (h : HI) (g : HL) : Prop :=
  (((h o 1) ≤ x4 → j_X0_times_59 o Q x2 h g) ∧ (¬ (h o 1) ≤ x4 → (((70 : Int32) ≤ x4 → j_X0_times_59 o Q x2 h g) ∧ (¬ (70 : Int32) ≤ x4 → (vp_in x4 70 ∧ (∀ x2_34 : Int64, x2_34 = (x2 + ((((h (o + 1) x4.toNatClampNeg)).toInt64) * ((x1).toInt64))) → (vp_in x4 70 ∧ ∀ h_47 : HI, h_47 = hu h (o + 1) x4.toNatClampNeg (((x2_34 &&& (1073741823 : Int64))).toInt32) → (∀ x2_52 : Int64, x2_52 = (x2_34 >>> ((30 : Int32).toInt64 &&& 63)) → (∀ x4_53 : Int32, x4_53 = (x4 + 1) → K5 x1 x2_52 x4_53 h_47 g)))))))))
def F_X0_times_5 (o : Nat) (Q : HI → HL → Prop) (K : Int32 × Int64 × Int32 × HI × HL → Prop) (q : Int32 × Int64 × Int32 × HI × HL) : Prop := b_X0_times_5 o Q (fun x1 x2 x4 h g => K (x1, x2, x4, h, g)) q.1 q.2.1 q.2.2.1 q.2.2.2.1 q.2.2.2.2
def w_X0_times (o : Nat) (x1 : Int32) (h : HI) (g : HL) (Q : HI → HL → Prop) : Prop :=
  lpE (F_X0_times_5 o Q) (x1, (0 : Int64), (0 : Int32), h, g)
set_option maxHeartbeats 8000000 in
set_option maxRecDepth 100000 in
theorem m_X0_times (l : Launch) (D : va_G) (cy : Nat → ClassId) (ad : Nat → Nat) (h : HI) (g : HL) (sz : Nat) (o : Nat) (hT : isB o) (x1 : Int32) (Q : HI → HL → Prop) (HW : w_X0_times o x1 h g Q) : Met l yX0_times (wa yX0_times cX0_times 5 none) ({ frames := 1, cells := 0, slots := 0, locals := 22 }) (va_Pc [.ref (ad o), .int x1] (gI D cy ad h g sz)) (va_Qv (fun (u : HI × HL) => Q u.1 u.2) (gB D cy ad sz) (gA ad sz)) 0 0 (gA ad sz) := by
  refine Met.ofW (cc := cX0_times) (maxL := 5) (ret := none) (by decide) rfl ?_
  intro p e s m args below meth c s₁ B hml hv
  obtain ⟨hav, hsz, hP, hK, hD0, hNw⟩ := hv
  have hx := B.exec
  have hb := B.bytes
  have hr := B.returns
  have hts := atoms_spec (ws := (wa yX0_times cX0_times 5 none)) B.pre
  have hw := wa_hw hts
  have hown : s.vm.findClass RX0 = some m.cls := findClass_of_methodNamed B.named
  have hlocks := B.notSynchronized
  subst hsz
  have hG : gG D cy ad (gA ad s.heap.size) s.heap h g s.heap [] := ⟨hP, gA_self hD0, va_S.rf⟩
  clear hP hD0
  have lk15 := hw (.fieldLink RX0 15 "OldWorks$Big" "many" "I") (wm2 82 rfl rfl)
  have lk11 := hw (.fieldLink RX0 11 "OldWorks$Big" "digits" "[I") (wm2 81 rfl rfl)
  have cn25 := hw (.constantLong RX0 25 (1073741823)) (wm4 66 rfl rfl)
  rw [show (headSpec (wa yX0_times cX0_times 5 none) ({ frames := 1, cells := 0, slots := 0, locals := 22 } : Room)).room = ({ frames := 1, cells := 0, slots := 0, locals := 22 } : Room) from rfl]
  have hl := lv_entry ([.ref (ad o), .int x1]) (n := 5) (Nat.le_of_ble_eq_true rfl)
  rw [show entryFrame m args 5 = entryFrame m ([.ref (ad o), .int x1] : List Value).toArray 5 from by rw [hav], lg_entry_eq]
  generalize (lg_sl ([.ref (ad o), .int x1]) ++ List.replicate (5 - (lg_sl ([.ref (ad o), .int x1])).length) Slot.unset).toArray = ls at hl ⊢
  have hl : lv_has ls 5 [(0, .ref (ad o)), (1, .int x1)] := hl
  have B59 : ∀ (x2 : Int64) (h : HI) (g : HL) (H : Heap) (locs : List Loc) (ls : Array Slot), j_X0_times_59 o Q x2 h g → gG D cy ad (gA ad s.heap.size) s.heap h g H locs → lv_has ls 5 [(0, .ref (ad o)), (2, .long x2)] → W p l e ({ frames := 1, cells := 0, slots := 0, locals := 22 } : Room) s m args below meth c H locs 0 0 (MQ below (va_Qv (fun (u : HI × HL) => Q u.1 u.2) (gB D cy ad s.heap.size) (gA ad s.heap.size)) args s 0 0 (gA ad s.heap.size)) (F0 m 59 ls []) := by
    intro x2 h g H locs ls HW hG hl
    unfold j_X0_times_59 at HW
    refine lv_lload_n hx hb dX0_times_59 rfl (lv_at hl 1 rfl) ?_
    refine lv_lconst (v := 0) hx hb dX0_times_60 (by decide) ?_
    refine W.lcmp hx hb dX0_times_61 ?_
    refine lv_if_le (tgt := 99) hx hb dX0_times_62 (by decide) (fun c_62 => ?_) (fun c_62 => ?_)
    · replace HW := HW.1 c_62
      exact W.vret hx hb hr (fun t ht hW => ⟨⟨(h, g), rfl, HW, g_B ht hG⟩, hG.2.2.F ht⟩) hG.2.2.2.2 dX0_times_99
    · replace HW := HW.2 c_62
      refine lv_aload_n hx hb dX0_times_65 rfl (lv_at hl 0 rfl) ?_
      refine g_geti hx hb hw inG0 hown hK hG hT.lt rfl hT.k (by decide) 1 (by decide) (by rw [hT.m]; decide) hT.r.2 lk15 dX0_times_66 ?_
      refine lv_iconst (v := 0) hx hb dX0_times_69 (by decide) ?_
      refine lv_bipush (v := 69) hx hb dX0_times_70 (by decide) ?_
      obtain ⟨P_72, HC_72, HW⟩ := HW
      refine g_callz (g_runSN (As := [.int (h o 1), .int (0 : Int32), .int (69 : Int32)]) (rest := []) ⟨hx, hb, hml, hown, hts⟩ (m_X10_within l D cy ad h g H.size (h o 1) (0 : Int32) (69 : Int32) P_72 HC_72) ⟨va_cnB 3 hts (gd_w (wm2 195 rfl rfl)) rfl rfl rfl (hNw _ (List.mem_of_getElem? (i := 0) rfl)) (hw (.initialized RX10) (wm1 1 rfl rfl)) (by decide +kernel) ⟨Nat.le_of_ble_eq_true rfl, Nat.le_of_ble_eq_true rfl⟩, hw (.static yX10_within) (wm2 194 rfl rfl), trivial⟩ hK hNw hG rfl rfl hl.1 rfl (lv_room (Nat.le_of_ble_eq_true rfl)) dX0_times_72 ⟨Nat.zero_le _, Nat.zero_le _⟩) hG (fun r_72 h_72 g_72 H locs hz hq hG => ?_)
      replace HW := HW r_72 h_72 g_72 hz hq
      refine lv_if_eq (tgt := 99) hx hb dX0_times_75 (by decide) (fun c_75 => ?_) (fun c_75 => ?_)
      · replace HW := HW.1 c_75
        exact W.vret hx hb hr (fun t ht hW => ⟨⟨(h_72, g_72), rfl, HW, g_B ht hG⟩, hG.2.2.F ht⟩) hG.2.2.2.2 dX0_times_99
      · replace HW := HW.2 c_75
        refine lv_aload_n hx hb dX0_times_78 rfl (lv_at hl 0 rfl) ?_
        refine g_getr hx hb hw inG0 hown hK hG hT.lt rfl hT.k (by decide) 0 (by decide) (by rw [hT.m]; decide) (r := (o + 1)) hT.r.1 lk11 dX0_times_79 ?_
        refine lv_aload_n hx hb dX0_times_82 rfl (lv_at hl 0 rfl) ?_
        refine g_geti hx hb hw inG0 hown hK hG hT.lt rfl hT.k (by decide) 1 (by decide) (by rw [hT.m]; decide) hT.r.2 lk15 dX0_times_83 ?_
        refine lv_lload_n hx hb dX0_times_86 rfl (lv_at hl 1 rfl) ?_
        refine lv_l2i hx hb dX0_times_87 rfl ?_
        refine g_iast hx hb hK hG hT.a.2.1 hT.a.1 hT.a.2.2 HW.1 dX0_times_88 (fun H locs hG => ?_)
        replace HW := HW.2
        obtain ⟨h_88, eh_88⟩ : ∃ y : HI, y = hu h_72 (o + 1) (h_72 o 1).toNatClampNeg ((x2).toInt32) := ⟨_, rfl⟩
        rw [← eh_88] at hG
        replace HW := HW h_88 eh_88
        refine lv_aload_n hx hb dX0_times_89 rfl (lv_at hl 0 rfl) ?_
        refine lv_dup hx hb dX0_times_90 rfl ?_
        refine g_geti hx hb hw inG0 hown hK hG hT.lt rfl hT.k (by decide) 1 (by decide) (by rw [hT.m]; decide) hT.r.2 lk15 dX0_times_91 ?_
        refine lv_iconst (v := 1) hx hb dX0_times_94 (by decide) ?_
        refine lv_iadd hx hb dX0_times_95 ?_
        refine g_put hx hb hw inG0 tyX0 tyX0_ok nmX0 hown hK hG hT.lt rfl hT.k (by decide) 1 (by decide) (by rw [hT.m]; decide) hT.r.2 rfl (ty := .int) (by decide +kernel) rfl rfl lk15 dX0_times_96 (fun H locs hG => ?_)
        obtain ⟨h_96, eh_96⟩ : ∃ y : HI, y = hu h_88 o 1 ((h_88 o 1) + (1 : Int32)) := ⟨_, rfl⟩
        rw [← eh_96] at hG
        replace HW := HW h_96 eh_96
        exact W.vret hx hb hr (fun t ht hW => ⟨⟨(h_96, g_72), rfl, HW, g_B ht hG⟩, hG.2.2.F ht⟩) hG.2.2.2.2 dX0_times_99
  have L5 : ∀ (n : Nat) (x1 : Int32) (x2 : Int64) (x4 : Int32) (h : HI) (g : HL) (H : Heap) (locs : List Loc) (ls : Array Slot), lpN (F_X0_times_5 o Q) n (x1, x2, x4, h, g) → gG D cy ad (gA ad s.heap.size) s.heap h g H locs → lv_has ls 5 [(0, .ref (ad o)), (1, .int x1), (2, .long x2), (4, .int x4)] → W p l e ({ frames := 1, cells := 0, slots := 0, locals := 22 } : Room) s m args below meth c H locs 0 0 (MQ below (va_Qv (fun (u : HI × HL) => Q u.1 u.2) (gB D cy ad s.heap.size) (gA ad s.heap.size)) args s 0 0 (gA ad s.heap.size)) (F0 m 5 ls []) := by
    intro n
    induction n with
    | zero => intro x1 x2 x4 h g H locs ls HW; exact HW.elim
    | succ n ih =>
      intro x1 x2 x4 h g H locs ls HW hG hl
      have HW : b_X0_times_5 o Q (fun x1 x2 x4 h g => lpN (F_X0_times_5 o Q) n (x1, x2, x4, h, g)) x1 x2 x4 h g := HW
      generalize hKe : (fun (x1 : Int32) (x2 : Int64) (x4 : Int32) (h : HI) (g : HL) => lpN (F_X0_times_5 o Q) n (x1, x2, x4, h, g)) = K5 at HW
      have hK5 : ∀ (x1 : Int32) (x2 : Int64) (x4 : Int32) (h : HI) (g : HL) (H : Heap) (locs : List Loc) (ls : Array Slot), K5 x1 x2 x4 h g → gG D cy ad (gA ad s.heap.size) s.heap h g H locs → lv_has ls 5 [(0, .ref (ad o)), (1, .int x1), (2, .long x2), (4, .int x4)] → W p l e ({ frames := 1, cells := 0, slots := 0, locals := 22 } : Room) s m args below meth c H locs 0 0 (MQ below (va_Qv (fun (u : HI × HL) => Q u.1 u.2) (gB D cy ad s.heap.size) (gA ad s.heap.size)) args s 0 0 (gA ad s.heap.size)) (F0 m 5 ls []) := by subst hKe; exact ih
      clear ih
      clear hKe
      unfold b_X0_times_5 at HW
      refine lv_iload hx hb dX0_times_5 (lv_at hl 3 rfl) ?_
      refine lv_aload_n hx hb dX0_times_7 rfl (lv_at hl 0 rfl) ?_
      refine g_geti hx hb hw inG0 hown hK hG hT.lt rfl hT.k (by decide) 1 (by decide) (by rw [hT.m]; decide) hT.r.2 lk15 dX0_times_8 ?_
      refine lv_icmp_ge (tgt := 59) hx hb dX0_times_11 (by decide) (fun c_11 => ?_) (fun c_11 => ?_)
      · replace HW := HW.1 c_11
        exact B59 x2 h g _ _ _ HW hG (lv_sub hl [0, 2] rfl)
      · replace HW := HW.2 c_11
        refine lv_iload hx hb dX0_times_14 (lv_at hl 3 rfl) ?_
        refine lv_bipush (v := 70) hx hb dX0_times_16 (by decide) ?_
        refine lv_icmp_ge (tgt := 59) hx hb dX0_times_18 (by decide) (fun c_18 => ?_) (fun c_18 => ?_)
        · replace HW := HW.1 c_18
          exact B59 x2 h g _ _ _ HW hG (lv_sub hl [0, 2] rfl)
        · replace HW := HW.2 c_18
          refine lv_lload_n hx hb dX0_times_21 rfl (lv_at hl 2 rfl) ?_
          refine lv_aload_n hx hb dX0_times_22 rfl (lv_at hl 0 rfl) ?_
          refine g_getr hx hb hw inG0 hown hK hG hT.lt rfl hT.k (by decide) 0 (by decide) (by rw [hT.m]; decide) (r := (o + 1)) hT.r.1 lk11 dX0_times_23 ?_
          refine lv_iload hx hb dX0_times_26 (lv_at hl 3 rfl) ?_
          refine g_iald hx hb hK hG hT.a.2.1 hT.a.1 hT.a.2.2 HW.1 dX0_times_28 ?_
          replace HW := HW.2
          refine lv_i2l hx hb dX0_times_29 rfl ?_
          refine lv_iload_n hx hb dX0_times_30 rfl (lv_at hl 1 rfl) ?_
          refine lv_i2l hx hb dX0_times_31 rfl ?_
          refine lv_lmul hx hb dX0_times_32 ?_
          refine lv_ladd hx hb dX0_times_33 ?_
          refine lv_topl (fun x2_34 ex2_34 => ?_)
          replace HW := HW x2_34 ex2_34
          refine lv_lstore_n (lv' := [(2, .long x2_34), (0, .ref (ad o)), (1, .int x1), (4, .int x4)]) hx hb dX0_times_34 rfl hl (by decide) rfl (fun ls hl => ?_)
          refine lv_aload_n hx hb dX0_times_35 rfl (lv_at hl 1 rfl) ?_
          refine g_getr hx hb hw inG0 hown hK hG hT.lt rfl hT.k (by decide) 0 (by decide) (by rw [hT.m]; decide) (r := (o + 1)) hT.r.1 lk11 dX0_times_36 ?_
          refine lv_iload hx hb dX0_times_39 (lv_at hl 3 rfl) ?_
          refine lv_lload_n hx hb dX0_times_41 rfl (lv_at hl 0 rfl) ?_
          refine lv_ldc2 (v := 1073741823) hx hb hown cn25 dX0_times_42 ?_
          refine lv_land hx hb dX0_times_45 ?_
          refine lv_l2i hx hb dX0_times_46 rfl ?_
          refine g_iast hx hb hK hG hT.a.2.1 hT.a.1 hT.a.2.2 HW.1 dX0_times_47 (fun H locs hG => ?_)
          replace HW := HW.2
          obtain ⟨h_47, eh_47⟩ : ∃ y : HI, y = hu h (o + 1) x4.toNatClampNeg (((x2_34 &&& (1073741823 : Int64))).toInt32) := ⟨_, rfl⟩
          rw [← eh_47] at hG
          replace HW := HW h_47 eh_47
          refine lv_lload_n hx hb dX0_times_48 rfl (lv_at hl 0 rfl) ?_
          refine lv_bipush (v := 30) hx hb dX0_times_49 (by decide) ?_
          refine lv_lshr hx hb dX0_times_51 rfl ?_
          refine lv_topl (fun x2_52 ex2_52 => ?_)
          replace HW := HW x2_52 ex2_52
          refine lv_lstore_n (lv' := [(2, .long x2_52), (0, .ref (ad o)), (1, .int x1), (4, .int x4)]) hx hb dX0_times_52 rfl hl (by decide) rfl (fun ls hl => ?_)
          obtain ⟨x4_53, ex4_53⟩ : ∃ y : Int32, y = (x4 + 1) := ⟨_, rfl⟩
          replace HW := HW x4_53 ex4_53
          refine lv_iinc (v := x4_53) (lv' := [(4, .int x4_53), (2, .long x2_52), (0, .ref (ad o)), (1, .int x1)]) hx hb dX0_times_53 hl (k := 3) rfl (by rw [ex4_53]; rfl) (by decide) rfl (fun ls hl => ?_)
          refine lv_goto (tgt := 5) hx hb dX0_times_56 (by decide) ?_
          exact hK5 x1 x2_52 x4_53 h_47 g _ _ _ HW hG (lv_sub hl [2, 3, 1, 0] rfl)
  have E0 : ∀ (H : Heap) (locs : List Loc) (ls : Array Slot), gG D cy ad (gA ad s.heap.size) s.heap h g H locs → lv_has ls 5 [(0, .ref (ad o)), (1, .int x1)] → W p l e ({ frames := 1, cells := 0, slots := 0, locals := 22 } : Room) s m args below meth c H locs 0 0 (MQ below (va_Qv (fun (u : HI × HL) => Q u.1 u.2) (gB D cy ad s.heap.size) (gA ad s.heap.size)) args s 0 0 (gA ad s.heap.size)) (F0 m 0 ls []) := by
    intro H locs ls hG hl
    unfold w_X0_times at HW
    refine lv_lconst (v := 0) hx hb dX0_times_0 (by decide) ?_
    refine lv_lstore_n (lv' := [(2, .long (0 : Int64)), (0, .ref (ad o)), (1, .int x1)]) hx hb dX0_times_1 rfl hl (by decide) rfl (fun ls hl => ?_)
    refine lv_iconst (v := 0) hx hb dX0_times_2 (by decide) ?_
    refine lv_istore (lv' := [(4, .int (0 : Int32)), (2, .long (0 : Int64)), (0, .ref (ad o)), (1, .int x1)]) hx hb dX0_times_3 hl (by decide) rfl (fun ls hl => ?_)
    obtain ⟨n_5, HW⟩ := HW
    exact L5 n_5 x1 (0 : Int64) (0 : Int32) h g _ _ _ HW hG (lv_sub hl [2, 3, 1, 0] rfl)
  exact E0 _ _ _ hG hl

def b_X0_above_35 (o : Nat) (o1 : Nat) (Q : Int32 → HI → HL → Prop) (K35 : Int32 → HI → HL → Prop) (x2 : Int32) (h : HI) (g : HL) : Prop :=
  ((x2 < 0 → Q (0 : Int32) h g) ∧ (¬ x2 < 0 → (((70 : Int32) ≤ x2 → Q (0 : Int32) h g) ∧ (¬ (70 : Int32) ≤ x2 → (vp_in x2 70 ∧ (vp_in x2 70 ∧ (((h (o + 1) x2.toNatClampNeg) = (h (o1 + 1) x2.toNatClampNeg) → (∀ x2_81 : Int32, x2_81 = (x2 + (-1)) → K35 x2_81 h g)) ∧ (¬ (h (o + 1) x2.toNatClampNeg) = (h (o1 + 1) x2.toNatClampNeg) → (vp_in x2 70 ∧ (vp_in x2 70 ∧ (((h (o + 1) x2.toNatClampNeg) ≤ (h (o1 + 1) x2.toNatClampNeg) → Q (0 : Int32) h g) ∧ (¬ (h (o + 1) x2.toNatClampNeg) ≤ (h (o1 + 1) x2.toNatClampNeg) → Q (1 : Int32) h g))))))))))))
def F_X0_above_35 (o : Nat) (o1 : Nat) (Q : Int32 → HI → HL → Prop) (K : Int32 × HI × HL → Prop) (q : Int32 × HI × HL) : Prop := b_X0_above_35 o o1 Q (fun x2 h g => K (x2, h, g)) q.1 q.2.1 q.2.2
def w_X0_above (o : Nat) (o1 : Nat) (h : HI) (g : HL) (Q : Int32 → HI → HL → Prop) : Prop :=
  (((h o 1) = (h o1 1) → (∀ x2_34 : Int32, x2_34 = ((h o 1) - (1 : Int32)) → lpE (F_X0_above_35 o o1 Q) (x2_34, h, g))) ∧ (¬ (h o 1) = (h o1 1) → (((h o 1) ≤ (h o1 1) → Q (0 : Int32) h g) ∧ (¬ (h o 1) ≤ (h o1 1) → Q (1 : Int32) h g))))
set_option maxHeartbeats 8000000 in
set_option maxRecDepth 100000 in
theorem m_X0_above (l : Launch) (D : va_G) (cy : Nat → ClassId) (ad : Nat → Nat) (h : HI) (g : HL) (sz : Nat) (o : Nat) (hT : isB o) (o1 : Nat) (hT1 : isB o1) (Q : Int32 → HI → HL → Prop) (HW : w_X0_above o o1 h g Q) : Met l yX0_above (wa yX0_above cX0_above 3 (some .boolean)) ({ frames := 0, cells := 0, slots := 0, locals := 0 }) (va_Pc [.ref (ad o), .ref (ad o1)] (gI D cy ad h g sz)) (va_Qi (fun (r : Int32) (u : HI × HL) => zb r ∧ Q r u.1 u.2) (gB D cy ad sz) (gA ad sz)) 0 0 (gA ad sz) := by
  refine Met.ofW (cc := cX0_above) (maxL := 3) (ret := (some .boolean)) (by decide) rfl ?_
  intro p e s m args below meth c s₁ B hml hv
  obtain ⟨hav, hsz, hP, hK, hD0, hNw⟩ := hv
  have hx := B.exec
  have hb := B.bytes
  have hr := B.returns
  have hts := atoms_spec (ws := (wa yX0_above cX0_above 3 (some .boolean))) B.pre
  have hw := wa_hw hts
  have hown : s.vm.findClass RX0 = some m.cls := findClass_of_methodNamed B.named
  have hlocks := B.notSynchronized
  subst hsz
  have hG : gG D cy ad (gA ad s.heap.size) s.heap h g s.heap [] := ⟨hP, gA_self hD0, va_S.rf⟩
  clear hP hD0
  have lk15 := hw (.fieldLink RX0 15 "OldWorks$Big" "many" "I") (wm2 82 rfl rfl)
  have lk11 := hw (.fieldLink RX0 11 "OldWorks$Big" "digits" "[I") (wm2 81 rfl rfl)
  rw [show (headSpec (wa yX0_above cX0_above 3 (some .boolean)) ({ frames := 0, cells := 0, slots := 0, locals := 0 } : Room)).room = ({ frames := 0, cells := 0, slots := 0, locals := 0 } : Room) from rfl]
  have hl := lv_entry ([.ref (ad o), .ref (ad o1)]) (n := 3) (Nat.le_of_ble_eq_true rfl)
  rw [show entryFrame m args 3 = entryFrame m ([.ref (ad o), .ref (ad o1)] : List Value).toArray 3 from by rw [hav], lg_entry_eq]
  generalize (lg_sl ([.ref (ad o), .ref (ad o1)]) ++ List.replicate (3 - (lg_sl ([.ref (ad o), .ref (ad o1)])).length) Slot.unset).toArray = ls at hl ⊢
  have hl : lv_has ls 3 [(0, .ref (ad o)), (1, .ref (ad o1))] := hl
  have L35 : ∀ (n : Nat) (x2 : Int32) (h : HI) (g : HL) (H : Heap) (locs : List Loc) (ls : Array Slot), lpN (F_X0_above_35 o o1 Q) n (x2, h, g) → gG D cy ad (gA ad s.heap.size) s.heap h g H locs → lv_has ls 3 [(0, .ref (ad o)), (1, .ref (ad o1)), (2, .int x2)] → W p l e ({ frames := 0, cells := 0, slots := 0, locals := 0 } : Room) s m args below meth c H locs 0 0 (MQ below (va_Qi (fun (r : Int32) (u : HI × HL) => zb r ∧ Q r u.1 u.2) (gB D cy ad s.heap.size) (gA ad s.heap.size)) args s 0 0 (gA ad s.heap.size)) (F0 m 35 ls []) := by
    intro n
    induction n with
    | zero => intro x2 h g H locs ls HW; exact HW.elim
    | succ n ih =>
      intro x2 h g H locs ls HW hG hl
      have HW : b_X0_above_35 o o1 Q (fun x2 h g => lpN (F_X0_above_35 o o1 Q) n (x2, h, g)) x2 h g := HW
      generalize hKe : (fun (x2 : Int32) (h : HI) (g : HL) => lpN (F_X0_above_35 o o1 Q) n (x2, h, g)) = K35 at HW
      have hK35 : ∀ (x2 : Int32) (h : HI) (g : HL) (H : Heap) (locs : List Loc) (ls : Array Slot), K35 x2 h g → gG D cy ad (gA ad s.heap.size) s.heap h g H locs → lv_has ls 3 [(0, .ref (ad o)), (1, .ref (ad o1)), (2, .int x2)] → W p l e ({ frames := 0, cells := 0, slots := 0, locals := 0 } : Room) s m args below meth c H locs 0 0 (MQ below (va_Qi (fun (r : Int32) (u : HI × HL) => zb r ∧ Q r u.1 u.2) (gB D cy ad s.heap.size) (gA ad s.heap.size)) args s 0 0 (gA ad s.heap.size)) (F0 m 35 ls []) := by subst hKe; exact ih
      clear ih
      clear hKe
      unfold b_X0_above_35 at HW
      refine lv_iload_n hx hb dX0_above_35 rfl (lv_at hl 2 rfl) ?_
      refine lv_if_lt (tgt := 87) hx hb dX0_above_36 (by decide) (fun c_36 => ?_) (fun c_36 => ?_)
      · replace HW := HW.1 c_36
        refine lv_iconst (v := 0) hx hb dX0_above_87 (by decide) ?_
        exact W.zret (v := (0 : Int32)) hx hb hr rfl (fun t ht hW => ⟨⟨(0 : Int32), (h, g), rfl, ⟨Or.inl rfl, HW⟩, g_B ht hG⟩, hG.2.2.F ht⟩) hG.2.2.2.2 dX0_above_88
      · replace HW := HW.2 c_36
        refine lv_iload_n hx hb dX0_above_39 rfl (lv_at hl 2 rfl) ?_
        refine lv_bipush (v := 70) hx hb dX0_above_40 (by decide) ?_
        refine lv_icmp_ge (tgt := 87) hx hb dX0_above_42 (by decide) (fun c_42 => ?_) (fun c_42 => ?_)
        · replace HW := HW.1 c_42
          refine lv_iconst (v := 0) hx hb dX0_above_87 (by decide) ?_
          exact W.zret (v := (0 : Int32)) hx hb hr rfl (fun t ht hW => ⟨⟨(0 : Int32), (h, g), rfl, ⟨Or.inl rfl, HW⟩, g_B ht hG⟩, hG.2.2.F ht⟩) hG.2.2.2.2 dX0_above_88
        · replace HW := HW.2 c_42
          refine lv_aload_n hx hb dX0_above_45 rfl (lv_at hl 0 rfl) ?_
          refine g_getr hx hb hw inG0 hown hK hG hT.lt rfl hT.k (by decide) 0 (by decide) (by rw [hT.m]; decide) (r := (o + 1)) hT.r.1 lk11 dX0_above_46 ?_
          refine lv_iload_n hx hb dX0_above_49 rfl (lv_at hl 2 rfl) ?_
          refine g_iald hx hb hK hG hT.a.2.1 hT.a.1 hT.a.2.2 HW.1 dX0_above_50 ?_
          replace HW := HW.2
          refine lv_aload_n hx hb dX0_above_51 rfl (lv_at hl 1 rfl) ?_
          refine g_getr hx hb hw inG0 hown hK hG hT1.lt rfl hT1.k (by decide) 0 (by decide) (by rw [hT1.m]; decide) (r := (o1 + 1)) hT1.r.1 lk11 dX0_above_52 ?_
          refine lv_iload_n hx hb dX0_above_55 rfl (lv_at hl 2 rfl) ?_
          refine g_iald hx hb hK hG hT1.a.2.1 hT1.a.1 hT1.a.2.2 HW.1 dX0_above_56 ?_
          replace HW := HW.2
          refine lv_icmp_eq (tgt := 81) hx hb dX0_above_57 (by decide) (fun c_57 => ?_) (fun c_57 => ?_)
          · replace HW := HW.1 c_57
            obtain ⟨x2_81, ex2_81⟩ : ∃ y : Int32, y = (x2 + (-1)) := ⟨_, rfl⟩
            replace HW := HW x2_81 ex2_81
            refine lv_iinc (v := x2_81) (lv' := [(2, .int x2_81), (0, .ref (ad o)), (1, .ref (ad o1))]) hx hb dX0_above_81 hl (k := 2) rfl (by rw [ex2_81]; rfl) (by decide) rfl (fun ls hl => ?_)
            refine lv_goto (tgt := 35) hx hb dX0_above_84 (by decide) ?_
            exact hK35 x2_81 h g _ _ _ HW hG (lv_sub hl [1, 2, 0] rfl)
          · replace HW := HW.2 c_57
            refine lv_aload_n hx hb dX0_above_60 rfl (lv_at hl 0 rfl) ?_
            refine g_getr hx hb hw inG0 hown hK hG hT.lt rfl hT.k (by decide) 0 (by decide) (by rw [hT.m]; decide) (r := (o + 1)) hT.r.1 lk11 dX0_above_61 ?_
            refine lv_iload_n hx hb dX0_above_64 rfl (lv_at hl 2 rfl) ?_
            refine g_iald hx hb hK hG hT.a.2.1 hT.a.1 hT.a.2.2 HW.1 dX0_above_65 ?_
            replace HW := HW.2
            refine lv_aload_n hx hb dX0_above_66 rfl (lv_at hl 1 rfl) ?_
            refine g_getr hx hb hw inG0 hown hK hG hT1.lt rfl hT1.k (by decide) 0 (by decide) (by rw [hT1.m]; decide) (r := (o1 + 1)) hT1.r.1 lk11 dX0_above_67 ?_
            refine lv_iload_n hx hb dX0_above_70 rfl (lv_at hl 2 rfl) ?_
            refine g_iald hx hb hK hG hT1.a.2.1 hT1.a.1 hT1.a.2.2 HW.1 dX0_above_71 ?_
            replace HW := HW.2
            refine lv_icmp_le (tgt := 79) hx hb dX0_above_72 (by decide) (fun c_72 => ?_) (fun c_72 => ?_)
            · replace HW := HW.1 c_72
              refine lv_iconst (v := 0) hx hb dX0_above_79 (by decide) ?_
              exact W.zret (v := (0 : Int32)) hx hb hr rfl (fun t ht hW => ⟨⟨(0 : Int32), (h, g), rfl, ⟨Or.inl rfl, HW⟩, g_B ht hG⟩, hG.2.2.F ht⟩) hG.2.2.2.2 dX0_above_80
            · replace HW := HW.2 c_72
              refine lv_iconst (v := 1) hx hb dX0_above_75 (by decide) ?_
              refine lv_goto (tgt := 80) hx hb dX0_above_76 (by decide) ?_
              exact W.zret (v := (1 : Int32)) hx hb hr rfl (fun t ht hW => ⟨⟨(1 : Int32), (h, g), rfl, ⟨Or.inr rfl, HW⟩, g_B ht hG⟩, hG.2.2.F ht⟩) hG.2.2.2.2 dX0_above_80
  have E0 : ∀ (H : Heap) (locs : List Loc) (ls : Array Slot), gG D cy ad (gA ad s.heap.size) s.heap h g H locs → lv_has ls 3 [(0, .ref (ad o)), (1, .ref (ad o1))] → W p l e ({ frames := 0, cells := 0, slots := 0, locals := 0 } : Room) s m args below meth c H locs 0 0 (MQ below (va_Qi (fun (r : Int32) (u : HI × HL) => zb r ∧ Q r u.1 u.2) (gB D cy ad s.heap.size) (gA ad s.heap.size)) args s 0 0 (gA ad s.heap.size)) (F0 m 0 ls []) := by
    intro H locs ls hG hl
    unfold w_X0_above at HW
    refine lv_aload_n hx hb dX0_above_0 rfl (lv_at hl 0 rfl) ?_
    refine g_geti hx hb hw inG0 hown hK hG hT.lt rfl hT.k (by decide) 1 (by decide) (by rw [hT.m]; decide) hT.r.2 lk15 dX0_above_1 ?_
    refine lv_aload_n hx hb dX0_above_4 rfl (lv_at hl 1 rfl) ?_
    refine g_geti hx hb hw inG0 hown hK hG hT1.lt rfl hT1.k (by decide) 1 (by decide) (by rw [hT1.m]; decide) hT1.r.2 lk15 dX0_above_5 ?_
    refine lv_icmp_eq (tgt := 28) hx hb dX0_above_8 (by decide) (fun c_8 => ?_) (fun c_8 => ?_)
    · replace HW := HW.1 c_8
      refine lv_aload_n hx hb dX0_above_28 rfl (lv_at hl 0 rfl) ?_
      refine g_geti hx hb hw inG0 hown hK hG hT.lt rfl hT.k (by decide) 1 (by decide) (by rw [hT.m]; decide) hT.r.2 lk15 dX0_above_29 ?_
      refine lv_iconst (v := 1) hx hb dX0_above_32 (by decide) ?_
      refine lv_isub hx hb dX0_above_33 ?_
      refine lv_topi (fun x2_34 ex2_34 => ?_)
      replace HW := HW x2_34 ex2_34
      refine lv_istore_n (lv' := [(2, .int x2_34), (0, .ref (ad o)), (1, .ref (ad o1))]) hx hb dX0_above_34 rfl hl (by decide) rfl (fun ls hl => ?_)
      obtain ⟨n_35, HW⟩ := HW
      exact L35 n_35 x2_34 h g _ _ _ HW hG (lv_sub hl [1, 2, 0] rfl)
    · replace HW := HW.2 c_8
      refine lv_aload_n hx hb dX0_above_11 rfl (lv_at hl 0 rfl) ?_
      refine g_geti hx hb hw inG0 hown hK hG hT.lt rfl hT.k (by decide) 1 (by decide) (by rw [hT.m]; decide) hT.r.2 lk15 dX0_above_12 ?_
      refine lv_aload_n hx hb dX0_above_15 rfl (lv_at hl 1 rfl) ?_
      refine g_geti hx hb hw inG0 hown hK hG hT1.lt rfl hT1.k (by decide) 1 (by decide) (by rw [hT1.m]; decide) hT1.r.2 lk15 dX0_above_16 ?_
      refine lv_icmp_le (tgt := 26) hx hb dX0_above_19 (by decide) (fun c_19 => ?_) (fun c_19 => ?_)
      · replace HW := HW.1 c_19
        refine lv_iconst (v := 0) hx hb dX0_above_26 (by decide) ?_
        exact W.zret (v := (0 : Int32)) hx hb hr rfl (fun t ht hW => ⟨⟨(0 : Int32), (h, g), rfl, ⟨Or.inl rfl, HW⟩, g_B ht hG⟩, hG.2.2.F ht⟩) hG.2.2.2.2 dX0_above_27
      · replace HW := HW.2 c_19
        refine lv_iconst (v := 1) hx hb dX0_above_22 (by decide) ?_
        refine lv_goto (tgt := 27) hx hb dX0_above_23 (by decide) ?_
        exact W.zret (v := (1 : Int32)) hx hb hr rfl (fun t ht hW => ⟨⟨(1 : Int32), (h, g), rfl, ⟨Or.inr rfl, HW⟩, g_B ht hG⟩, hG.2.2.F ht⟩) hG.2.2.2.2 dX0_above_27
  exact E0 _ _ _ hG hl

def w_X0_rows (o : Nat) (h : HI) (g : HL) (Q : Int32 → HI → HL → Prop) : Prop :=
  Q (h o 1) h g
set_option maxHeartbeats 8000000 in
set_option maxRecDepth 100000 in
theorem m_X0_rows (l : Launch) (D : va_G) (cy : Nat → ClassId) (ad : Nat → Nat) (h : HI) (g : HL) (sz : Nat) (o : Nat) (hT : isB o) (Q : Int32 → HI → HL → Prop) (HW : w_X0_rows o h g Q) : Met l yX0_rows (wa yX0_rows cX0_rows 1 (some .int)) ({ frames := 0, cells := 0, slots := 0, locals := 0 }) (va_Pc [.ref (ad o)] (gI D cy ad h g sz)) (va_Qi (fun (r : Int32) (u : HI × HL) => Q r u.1 u.2) (gB D cy ad sz) (gA ad sz)) 0 0 (gA ad sz) := by
  refine Met.ofW (cc := cX0_rows) (maxL := 1) (ret := (some .int)) (by decide) rfl ?_
  intro p e s m args below meth c s₁ B hml hv
  obtain ⟨hav, hsz, hP, hK, hD0, hNw⟩ := hv
  have hx := B.exec
  have hb := B.bytes
  have hr := B.returns
  have hts := atoms_spec (ws := (wa yX0_rows cX0_rows 1 (some .int))) B.pre
  have hw := wa_hw hts
  have hown : s.vm.findClass RX0 = some m.cls := findClass_of_methodNamed B.named
  have hlocks := B.notSynchronized
  subst hsz
  have hG : gG D cy ad (gA ad s.heap.size) s.heap h g s.heap [] := ⟨hP, gA_self hD0, va_S.rf⟩
  clear hP hD0
  have lk15 := hw (.fieldLink RX0 15 "OldWorks$Big" "many" "I") (wm2 82 rfl rfl)
  rw [show (headSpec (wa yX0_rows cX0_rows 1 (some .int)) ({ frames := 0, cells := 0, slots := 0, locals := 0 } : Room)).room = ({ frames := 0, cells := 0, slots := 0, locals := 0 } : Room) from rfl]
  have hl := lv_entry ([.ref (ad o)]) (n := 1) (Nat.le_of_ble_eq_true rfl)
  rw [show entryFrame m args 1 = entryFrame m ([.ref (ad o)] : List Value).toArray 1 from by rw [hav], lg_entry_eq]
  generalize (lg_sl ([.ref (ad o)]) ++ List.replicate (1 - (lg_sl ([.ref (ad o)])).length) Slot.unset).toArray = ls at hl ⊢
  have hl : lv_has ls 1 [(0, .ref (ad o))] := hl
  have E0 : ∀ (H : Heap) (locs : List Loc) (ls : Array Slot), gG D cy ad (gA ad s.heap.size) s.heap h g H locs → lv_has ls 1 [(0, .ref (ad o))] → W p l e ({ frames := 0, cells := 0, slots := 0, locals := 0 } : Room) s m args below meth c H locs 0 0 (MQ below (va_Qi (fun (r : Int32) (u : HI × HL) => Q r u.1 u.2) (gB D cy ad s.heap.size) (gA ad s.heap.size)) args s 0 0 (gA ad s.heap.size)) (F0 m 0 ls []) := by
    intro H locs ls hG hl
    unfold w_X0_rows at HW
    refine lv_aload_n hx hb dX0_rows_0 rfl (lv_at hl 0 rfl) ?_
    refine g_geti hx hb hw inG0 hown hK hG hT.lt rfl hT.k (by decide) 1 (by decide) (by rw [hT.m]; decide) hT.r.2 lk15 dX0_rows_1 ?_
    exact W.iret (v := (h o 1)) hx hb hr (fun t ht hW => ⟨⟨(h o 1), (h, g), rfl, HW, g_B ht hG⟩, hG.2.2.F ht⟩) hG.2.2.2.2 dX0_rows_4
  exact E0 _ _ _ hG hl

def w_X0_at (o : Nat) (x1 : Int32) (h : HI) (g : HL) (Q : Int32 → HI → HL → Prop) : Prop :=
  (∃ P_8 : Int32 → HI → HL → Prop, w_X10_within x1 (0 : Int32) ((h o 1) - (1 : Int32)) h g P_8 ∧ ∀ (r_8 : Int32) (h_8 : HI) (g_8 : HL), zb r_8 → P_8 r_8 h_8 g_8 → ((r_8 = 0 → Q (-1 : Int32) h_8 g_8) ∧ (¬ r_8 = 0 → (((70 : Int32) ≤ x1 → Q (-1 : Int32) h_8 g_8) ∧ (¬ (70 : Int32) ≤ x1 → (vp_in x1 70 ∧ Q (h_8 (o + 1) x1.toNatClampNeg) h_8 g_8))))))
set_option maxHeartbeats 8000000 in
set_option maxRecDepth 100000 in
theorem m_X0_at (l : Launch) (D : va_G) (cy : Nat → ClassId) (ad : Nat → Nat) (h : HI) (g : HL) (sz : Nat) (o : Nat) (hT : isB o) (x1 : Int32) (Q : Int32 → HI → HL → Prop) (HW : w_X0_at o x1 h g Q) : Met l yX0_at (wa yX0_at cX0_at 2 (some .int)) ({ frames := 1, cells := 0, slots := 0, locals := 22 }) (va_Pc [.ref (ad o), .int x1] (gI D cy ad h g sz)) (va_Qi (fun (r : Int32) (u : HI × HL) => Q r u.1 u.2) (gB D cy ad sz) (gA ad sz)) 0 0 (gA ad sz) := by
  refine Met.ofW (cc := cX0_at) (maxL := 2) (ret := (some .int)) (by decide) rfl ?_
  intro p e s m args below meth c s₁ B hml hv
  obtain ⟨hav, hsz, hP, hK, hD0, hNw⟩ := hv
  have hx := B.exec
  have hb := B.bytes
  have hr := B.returns
  have hts := atoms_spec (ws := (wa yX0_at cX0_at 2 (some .int))) B.pre
  have hw := wa_hw hts
  have hown : s.vm.findClass RX0 = some m.cls := findClass_of_methodNamed B.named
  have hlocks := B.notSynchronized
  subst hsz
  have hG : gG D cy ad (gA ad s.heap.size) s.heap h g s.heap [] := ⟨hP, gA_self hD0, va_S.rf⟩
  clear hP hD0
  have lk15 := hw (.fieldLink RX0 15 "OldWorks$Big" "many" "I") (wm2 82 rfl rfl)
  have lk11 := hw (.fieldLink RX0 11 "OldWorks$Big" "digits" "[I") (wm2 81 rfl rfl)
  rw [show (headSpec (wa yX0_at cX0_at 2 (some .int)) ({ frames := 1, cells := 0, slots := 0, locals := 22 } : Room)).room = ({ frames := 1, cells := 0, slots := 0, locals := 22 } : Room) from rfl]
  have hl := lv_entry ([.ref (ad o), .int x1]) (n := 2) (Nat.le_of_ble_eq_true rfl)
  rw [show entryFrame m args 2 = entryFrame m ([.ref (ad o), .int x1] : List Value).toArray 2 from by rw [hav], lg_entry_eq]
  generalize (lg_sl ([.ref (ad o), .int x1]) ++ List.replicate (2 - (lg_sl ([.ref (ad o), .int x1])).length) Slot.unset).toArray = ls at hl ⊢
  have hl : lv_has ls 2 [(0, .ref (ad o)), (1, .int x1)] := hl
  have E0 : ∀ (H : Heap) (locs : List Loc) (ls : Array Slot), gG D cy ad (gA ad s.heap.size) s.heap h g H locs → lv_has ls 2 [(0, .ref (ad o)), (1, .int x1)] → W p l e ({ frames := 1, cells := 0, slots := 0, locals := 22 } : Room) s m args below meth c H locs 0 0 (MQ below (va_Qi (fun (r : Int32) (u : HI × HL) => Q r u.1 u.2) (gB D cy ad s.heap.size) (gA ad s.heap.size)) args s 0 0 (gA ad s.heap.size)) (F0 m 0 ls []) := by
    intro H locs ls hG hl
    unfold w_X0_at at HW
    refine lv_iload_n hx hb dX0_at_0 rfl (lv_at hl 1 rfl) ?_
    refine lv_iconst (v := 0) hx hb dX0_at_1 (by decide) ?_
    refine lv_aload_n hx hb dX0_at_2 rfl (lv_at hl 0 rfl) ?_
    refine g_geti hx hb hw inG0 hown hK hG hT.lt rfl hT.k (by decide) 1 (by decide) (by rw [hT.m]; decide) hT.r.2 lk15 dX0_at_3 ?_
    refine lv_iconst (v := 1) hx hb dX0_at_6 (by decide) ?_
    refine lv_isub hx hb dX0_at_7 ?_
    obtain ⟨P_8, HC_8, HW⟩ := HW
    refine g_callz (g_runSN (As := [.int x1, .int (0 : Int32), .int ((h o 1) - (1 : Int32))]) (rest := []) ⟨hx, hb, hml, hown, hts⟩ (m_X10_within l D cy ad h g H.size x1 (0 : Int32) ((h o 1) - (1 : Int32)) P_8 HC_8) ⟨va_cnB 3 hts (gd_w (wm2 195 rfl rfl)) rfl rfl rfl (hNw _ (List.mem_of_getElem? (i := 0) rfl)) (hw (.initialized RX10) (wm1 1 rfl rfl)) (by decide +kernel) ⟨Nat.le_of_ble_eq_true rfl, Nat.le_of_ble_eq_true rfl⟩, hw (.static yX10_within) (wm2 194 rfl rfl), trivial⟩ hK hNw hG rfl rfl hl.1 rfl (lv_room (Nat.le_of_ble_eq_true rfl)) dX0_at_8 ⟨Nat.zero_le _, Nat.zero_le _⟩) hG (fun r_8 h_8 g_8 H locs hz hq hG => ?_)
    replace HW := HW r_8 h_8 g_8 hz hq
    refine lv_if_eq (tgt := 29) hx hb dX0_at_11 (by decide) (fun c_11 => ?_) (fun c_11 => ?_)
    · replace HW := HW.1 c_11
      refine lv_iconst (v := (-1)) hx hb dX0_at_29 (by decide) ?_
      exact W.iret (v := (-1 : Int32)) hx hb hr (fun t ht hW => ⟨⟨(-1 : Int32), (h_8, g_8), rfl, HW, g_B ht hG⟩, hG.2.2.F ht⟩) hG.2.2.2.2 dX0_at_30
    · replace HW := HW.2 c_11
      refine lv_iload_n hx hb dX0_at_14 rfl (lv_at hl 1 rfl) ?_
      refine lv_bipush (v := 70) hx hb dX0_at_15 (by decide) ?_
      refine lv_icmp_ge (tgt := 29) hx hb dX0_at_17 (by decide) (fun c_17 => ?_) (fun c_17 => ?_)
      · replace HW := HW.1 c_17
        refine lv_iconst (v := (-1)) hx hb dX0_at_29 (by decide) ?_
        exact W.iret (v := (-1 : Int32)) hx hb hr (fun t ht hW => ⟨⟨(-1 : Int32), (h_8, g_8), rfl, HW, g_B ht hG⟩, hG.2.2.F ht⟩) hG.2.2.2.2 dX0_at_30
      · replace HW := HW.2 c_17
        refine lv_aload_n hx hb dX0_at_20 rfl (lv_at hl 0 rfl) ?_
        refine g_getr hx hb hw inG0 hown hK hG hT.lt rfl hT.k (by decide) 0 (by decide) (by rw [hT.m]; decide) (r := (o + 1)) hT.r.1 lk11 dX0_at_21 ?_
        refine lv_iload_n hx hb dX0_at_24 rfl (lv_at hl 1 rfl) ?_
        refine g_iald hx hb hK hG hT.a.2.1 hT.a.1 hT.a.2.2 HW.1 dX0_at_25 ?_
        replace HW := HW.2
        refine lv_goto (tgt := 30) hx hb dX0_at_26 (by decide) ?_
        exact W.iret (v := (h_8 (o + 1) x1.toNatClampNeg)) hx hb hr (fun t ht hW => ⟨⟨(h_8 (o + 1) x1.toNatClampNeg), (h_8, g_8), rfl, HW, g_B ht hG⟩, hG.2.2.F ht⟩) hG.2.2.2.2 dX0_at_30
  exact E0 _ _ _ hG hl

def j_X1_side_15 (Q : Nat → HI → HL → Prop) (s0 : Nat) (h : HI) (g : HL) : Prop :=
  Q s0 h g
def w_X1_side (x1 : Int32) (h : HI) (g : HL) (Q : Nat → HI → HL → Prop) : Prop :=
  ((¬ x1 = 0 → j_X1_side_15 Q 112 h g) ∧ (x1 = 0 → j_X1_side_15 Q 110 h g))
set_option maxHeartbeats 8000000 in
set_option maxRecDepth 100000 in
theorem m_X1_side (l : Launch) (D : va_G) (cy : Nat → ClassId) (ad : Nat → Nat) (h : HI) (g : HL) (sz : Nat) (x1 : Int32) (Q : Nat → HI → HL → Prop) (HW : w_X1_side x1 h g Q) : Met l yX1_side (wa yX1_side cX1_side 2 (some (.object "OldWorks$Big"))) ({ frames := 0, cells := 0, slots := 0, locals := 0 }) (va_Pc [.ref (ad 109), .int x1] (gI D cy ad h g sz)) (va_Qr (fun (u : Nat × HI × HL) => Q u.1 u.2.1 u.2.2) (fun (u : Nat × HI × HL) (a : Nat) (t : State) => a = ad u.1 ∧ gB D cy ad sz u.2 t) (gA ad sz)) 0 0 (gA ad sz) := by
  refine Met.ofW (cc := cX1_side) (maxL := 2) (ret := (some (.object "OldWorks$Big"))) (by decide) rfl ?_
  intro p e s m args below meth c s₁ B hml hv
  obtain ⟨hav, hsz, hP, hK, hD0, hNw⟩ := hv
  have hx := B.exec
  have hb := B.bytes
  have hr := B.returns
  have hts := atoms_spec (ws := (wa yX1_side cX1_side 2 (some (.object "OldWorks$Big")))) B.pre
  have hw := wa_hw hts
  have hown : s.vm.findClass RX1 = some m.cls := findClass_of_methodNamed B.named
  have hlocks := B.notSynchronized
  subst hsz
  have hG : gG D cy ad (gA ad s.heap.size) s.heap h g s.heap [] := ⟨hP, gA_self hD0, va_S.rf⟩
  clear hP hD0
  have lk18 := hw (.fieldLink RX1 18 "OldWorks$Breaks" "below" "LOldWorks$Big;") (wm2 94 rfl rfl)
  have lk12 := hw (.fieldLink RX1 12 "OldWorks$Breaks" "above" "LOldWorks$Big;") (wm2 93 rfl rfl)
  rw [show (headSpec (wa yX1_side cX1_side 2 (some (.object "OldWorks$Big"))) ({ frames := 0, cells := 0, slots := 0, locals := 0 } : Room)).room = ({ frames := 0, cells := 0, slots := 0, locals := 0 } : Room) from rfl]
  have hl := lv_entry ([.ref (ad 109), .int x1]) (n := 2) (Nat.le_of_ble_eq_true rfl)
  rw [show entryFrame m args 2 = entryFrame m ([.ref (ad 109), .int x1] : List Value).toArray 2 from by rw [hav], lg_entry_eq]
  generalize (lg_sl ([.ref (ad 109), .int x1]) ++ List.replicate (2 - (lg_sl ([.ref (ad 109), .int x1])).length) Slot.unset).toArray = ls at hl ⊢
  have hl : lv_has ls 2 [(0, .ref (ad 109)), (1, .int x1)] := hl
  have B15 : ∀ (s0 : Nat) (h : HI) (g : HL) (H : Heap) (locs : List Loc) (ls : Array Slot) (hk_s0 : isB s0), j_X1_side_15 Q s0 h g → gG D cy ad (gA ad s.heap.size) s.heap h g H locs → lv_has ls 2 [] → W p l e ({ frames := 0, cells := 0, slots := 0, locals := 0 } : Room) s m args below meth c H locs 0 0 (MQ below (va_Qr (fun (u : Nat × HI × HL) => Q u.1 u.2.1 u.2.2) (fun (u : Nat × HI × HL) (a : Nat) (t : State) => a = ad u.1 ∧ gB D cy ad s.heap.size u.2 t) (gA ad s.heap.size)) args s 0 0 (gA ad s.heap.size)) (F0 m 15 ls [.ref (ad s0)]) := by
    intro s0 h g H locs ls hk_s0 HW hG hl
    unfold j_X1_side_15 at HW
    exact W.aret (v := .ref (ad s0)) hx hb hr (Or.inl ⟨_, rfl⟩) (Or.inr ⟨_, rfl⟩) (fun t ht hW => ⟨⟨(s0, h, g), ad s0, rfl, HW, rfl, g_B ht hG⟩, hG.2.2.F ht⟩) hG.2.2.2.2 dX1_side_15
  have E0 : ∀ (H : Heap) (locs : List Loc) (ls : Array Slot), gG D cy ad (gA ad s.heap.size) s.heap h g H locs → lv_has ls 2 [(0, .ref (ad 109)), (1, .int x1)] → W p l e ({ frames := 0, cells := 0, slots := 0, locals := 0 } : Room) s m args below meth c H locs 0 0 (MQ below (va_Qr (fun (u : Nat × HI × HL) => Q u.1 u.2.1 u.2.2) (fun (u : Nat × HI × HL) (a : Nat) (t : State) => a = ad u.1 ∧ gB D cy ad s.heap.size u.2 t) (gA ad s.heap.size)) args s 0 0 (gA ad s.heap.size)) (F0 m 0 ls []) := by
    intro H locs ls hG hl
    unfold w_X1_side at HW
    refine lv_iload_n hx hb dX1_side_0 rfl (lv_at hl 1 rfl) ?_
    refine lv_if_ne (tgt := 11) hx hb dX1_side_1 (by decide) (fun c_1 => ?_) (fun c_1 => ?_)
    · replace HW := HW.1 c_1
      refine lv_aload_n hx hb dX1_side_11 rfl (lv_at hl 0 rfl) ?_
      refine g_getr hx hb hw inG1 hown hK hG gl_109 rfl gk_109 (by decide) 2 (by decide) (by rw [gm_109]; decide) (r := 112) gr_109_2 lk18 dX1_side_12 ?_
      exact B15 112 h g _ _ _ gs_112 HW hG (lv_sub hl [] rfl)
    · replace HW := HW.2 c_1
      refine lv_aload_n hx hb dX1_side_4 rfl (lv_at hl 0 rfl) ?_
      refine g_getr hx hb hw inG1 hown hK hG gl_109 rfl gk_109 (by decide) 1 (by decide) (by rw [gm_109]; decide) (r := 110) gr_109_1 lk12 dX1_side_5 ?_
      refine lv_goto (tgt := 15) hx hb dX1_side_8 (by decide) ?_
      exact B15 110 h g _ _ _ gs_110 HW hG (lv_sub hl [] rfl)
  exact E0 _ _ _ hG hl

def w_X8_at (o : Nat) (x1 : Int32) (x2 : Int32) (h : HI) (g : HL) (Q : Int32 → HI → HL → Prop) : Prop :=
  ((x1 < 0 → Q (0 : Int32) h g) ∧ (¬ x1 < 0 → (((h o 3) ≤ x1 → Q (0 : Int32) h g) ∧ (¬ (h o 3) ≤ x1 → ((x2 < 0 → Q (0 : Int32) h g) ∧ (¬ x2 < 0 → ((x2 < (h o 1) → (∀ x3_34 : Int32, x3_34 = ((x1 * (h o 1)) + x2) → (((Int32.ofNat (gN (o + 1))) ≤ x3_34 → Q (0 : Int32) h g) ∧ (¬ (Int32.ofNat (gN (o + 1))) ≤ x3_34 → (vp_in x3_34 (gN (o + 1)) ∧ Q (h (o + 1) x3_34.toNatClampNeg) h g))))) ∧ (¬ x2 < (h o 1) → Q (0 : Int32) h g))))))))
set_option maxHeartbeats 8000000 in
set_option maxRecDepth 100000 in
theorem m_X8_at (l : Launch) (D : va_G) (cy : Nat → ClassId) (ad : Nat → Nat) (h : HI) (g : HL) (sz : Nat) (o : Nat) (hT : isT o) (x1 : Int32) (x2 : Int32) (Q : Int32 → HI → HL → Prop) (HW : w_X8_at o x1 x2 h g Q) : Met l yX8_at (wa yX8_at cX8_at 4 (some .int)) ({ frames := 0, cells := 0, slots := 0, locals := 0 }) (va_Pc [.ref (ad o), .int x1, .int x2] (gI D cy ad h g sz)) (va_Qi (fun (r : Int32) (u : HI × HL) => Q r u.1 u.2) (gB D cy ad sz) (gA ad sz)) 0 0 (gA ad sz) := by
  refine Met.ofW (cc := cX8_at) (maxL := 4) (ret := (some .int)) (by decide) rfl ?_
  intro p e s m args below meth c s₁ B hml hv
  obtain ⟨hav, hsz, hP, hK, hD0, hNw⟩ := hv
  have hx := B.exec
  have hb := B.bytes
  have hr := B.returns
  have hts := atoms_spec (ws := (wa yX8_at cX8_at 4 (some .int))) B.pre
  have hw := wa_hw hts
  have hown : s.vm.findClass RX8 = some m.cls := findClass_of_methodNamed B.named
  have hlocks := B.notSynchronized
  subst hsz
  have hG : gG D cy ad (gA ad s.heap.size) s.heap h g s.heap [] := ⟨hP, gA_self hD0, va_S.rf⟩
  clear hP hD0
  have lk22 := hw (.fieldLink RX8 22 "OldWorks$Table" "many" "I") (wm1 40 rfl rfl)
  have lk15 := hw (.fieldLink RX8 15 "OldWorks$Table" "width" "I") (wm1 38 rfl rfl)
  have lk18 := hw (.fieldLink RX8 18 "OldWorks$Table" "cells" "[I") (wm1 37 rfl rfl)
  rw [show (headSpec (wa yX8_at cX8_at 4 (some .int)) ({ frames := 0, cells := 0, slots := 0, locals := 0 } : Room)).room = ({ frames := 0, cells := 0, slots := 0, locals := 0 } : Room) from rfl]
  have hl := lv_entry ([.ref (ad o), .int x1, .int x2]) (n := 4) (Nat.le_of_ble_eq_true rfl)
  rw [show entryFrame m args 4 = entryFrame m ([.ref (ad o), .int x1, .int x2] : List Value).toArray 4 from by rw [hav], lg_entry_eq]
  generalize (lg_sl ([.ref (ad o), .int x1, .int x2]) ++ List.replicate (4 - (lg_sl ([.ref (ad o), .int x1, .int x2])).length) Slot.unset).toArray = ls at hl ⊢
  have hl : lv_has ls 4 [(0, .ref (ad o)), (1, .int x1), (2, .int x2)] := hl
  have E0 : ∀ (H : Heap) (locs : List Loc) (ls : Array Slot), gG D cy ad (gA ad s.heap.size) s.heap h g H locs → lv_has ls 4 [(0, .ref (ad o)), (1, .int x1), (2, .int x2)] → W p l e ({ frames := 0, cells := 0, slots := 0, locals := 0 } : Room) s m args below meth c H locs 0 0 (MQ below (va_Qi (fun (r : Int32) (u : HI × HL) => Q r u.1 u.2) (gB D cy ad s.heap.size) (gA ad s.heap.size)) args s 0 0 (gA ad s.heap.size)) (F0 m 0 ls []) := by
    intro H locs ls hG hl
    unfold w_X8_at at HW
    refine lv_iload_n hx hb dX8_at_0 rfl (lv_at hl 1 rfl) ?_
    refine lv_if_lt (tgt := 24) hx hb dX8_at_1 (by decide) (fun c_1 => ?_) (fun c_1 => ?_)
    · replace HW := HW.1 c_1
      refine lv_iconst (v := 0) hx hb dX8_at_24 (by decide) ?_
      exact W.iret (v := (0 : Int32)) hx hb hr (fun t ht hW => ⟨⟨(0 : Int32), (h, g), rfl, HW, g_B ht hG⟩, hG.2.2.F ht⟩) hG.2.2.2.2 dX8_at_25
    · replace HW := HW.2 c_1
      refine lv_iload_n hx hb dX8_at_4 rfl (lv_at hl 1 rfl) ?_
      refine lv_aload_n hx hb dX8_at_5 rfl (lv_at hl 0 rfl) ?_
      refine g_geti hx hb hw inG8 hown hK hG hT.lt rfl hT.k (by decide) 3 (by decide) (by rw [hT.m]; decide) hT.r.2.2.2 lk22 dX8_at_6 ?_
      refine lv_icmp_ge (tgt := 24) hx hb dX8_at_9 (by decide) (fun c_9 => ?_) (fun c_9 => ?_)
      · replace HW := HW.1 c_9
        refine lv_iconst (v := 0) hx hb dX8_at_24 (by decide) ?_
        exact W.iret (v := (0 : Int32)) hx hb hr (fun t ht hW => ⟨⟨(0 : Int32), (h, g), rfl, HW, g_B ht hG⟩, hG.2.2.F ht⟩) hG.2.2.2.2 dX8_at_25
      · replace HW := HW.2 c_9
        refine lv_iload_n hx hb dX8_at_12 rfl (lv_at hl 2 rfl) ?_
        refine lv_if_lt (tgt := 24) hx hb dX8_at_13 (by decide) (fun c_13 => ?_) (fun c_13 => ?_)
        · replace HW := HW.1 c_13
          refine lv_iconst (v := 0) hx hb dX8_at_24 (by decide) ?_
          exact W.iret (v := (0 : Int32)) hx hb hr (fun t ht hW => ⟨⟨(0 : Int32), (h, g), rfl, HW, g_B ht hG⟩, hG.2.2.F ht⟩) hG.2.2.2.2 dX8_at_25
        · replace HW := HW.2 c_13
          refine lv_iload_n hx hb dX8_at_16 rfl (lv_at hl 2 rfl) ?_
          refine lv_aload_n hx hb dX8_at_17 rfl (lv_at hl 0 rfl) ?_
          refine g_geti hx hb hw inG8 hown hK hG hT.lt rfl hT.k (by decide) 1 (by decide) (by rw [hT.m]; decide) hT.r.2.1 lk15 dX8_at_18 ?_
          refine lv_icmp_lt (tgt := 26) hx hb dX8_at_21 (by decide) (fun c_21 => ?_) (fun c_21 => ?_)
          · replace HW := HW.1 c_21
            refine lv_iload_n hx hb dX8_at_26 rfl (lv_at hl 1 rfl) ?_
            refine lv_aload_n hx hb dX8_at_27 rfl (lv_at hl 0 rfl) ?_
            refine g_geti hx hb hw inG8 hown hK hG hT.lt rfl hT.k (by decide) 1 (by decide) (by rw [hT.m]; decide) hT.r.2.1 lk15 dX8_at_28 ?_
            refine lv_imul hx hb dX8_at_31 ?_
            refine lv_iload_n hx hb dX8_at_32 rfl (lv_at hl 2 rfl) ?_
            refine lv_iadd hx hb dX8_at_33 ?_
            refine lv_topi (fun x3_34 ex3_34 => ?_)
            replace HW := HW x3_34 ex3_34
            refine lv_istore_n (lv' := [(3, .int x3_34), (0, .ref (ad o)), (1, .int x1), (2, .int x2)]) hx hb dX8_at_34 rfl hl (by decide) rfl (fun ls hl => ?_)
            refine lv_iload_n hx hb dX8_at_35 rfl (lv_at hl 0 rfl) ?_
            refine lv_aload_n hx hb dX8_at_36 rfl (lv_at hl 1 rfl) ?_
            refine g_getr hx hb hw inG8 hown hK hG hT.lt rfl hT.k (by decide) 0 (by decide) (by rw [hT.m]; decide) (r := (o + 1)) hT.r.1 lk18 dX8_at_37 ?_
            refine g_alen hx hb hK hG hT.a.2 hT.a.1 (v := (Int32.ofNat (gN (o + 1)))) rfl dX8_at_40 ?_
            refine lv_icmp_ge (tgt := 53) hx hb dX8_at_41 (by decide) (fun c_41 => ?_) (fun c_41 => ?_)
            · replace HW := HW.1 c_41
              refine lv_iconst (v := 0) hx hb dX8_at_53 (by decide) ?_
              exact W.iret (v := (0 : Int32)) hx hb hr (fun t ht hW => ⟨⟨(0 : Int32), (h, g), rfl, HW, g_B ht hG⟩, hG.2.2.F ht⟩) hG.2.2.2.2 dX8_at_54
            · replace HW := HW.2 c_41
              refine lv_aload_n hx hb dX8_at_44 rfl (lv_at hl 1 rfl) ?_
              refine g_getr hx hb hw inG8 hown hK hG hT.lt rfl hT.k (by decide) 0 (by decide) (by rw [hT.m]; decide) (r := (o + 1)) hT.r.1 lk18 dX8_at_45 ?_
              refine lv_iload_n hx hb dX8_at_48 rfl (lv_at hl 0 rfl) ?_
              refine g_iald hx hb hK hG hT.a.2 hT.a.1 rfl HW.1 dX8_at_49 ?_
              replace HW := HW.2
              refine lv_goto (tgt := 54) hx hb dX8_at_50 (by decide) ?_
              exact W.iret (v := (h (o + 1) x3_34.toNatClampNeg)) hx hb hr (fun t ht hW => ⟨⟨(h (o + 1) x3_34.toNatClampNeg), (h, g), rfl, HW, g_B ht hG⟩, hG.2.2.F ht⟩) hG.2.2.2.2 dX8_at_54
          · replace HW := HW.2 c_21
            refine lv_iconst (v := 0) hx hb dX8_at_24 (by decide) ?_
            exact W.iret (v := (0 : Int32)) hx hb hr (fun t ht hW => ⟨⟨(0 : Int32), (h, g), rfl, HW, g_B ht hG⟩, hG.2.2.F ht⟩) hG.2.2.2.2 dX8_at_25
  exact E0 _ _ _ hG hl

def w_X1_oddsOf (x0 : Int32) (x1 : Int32) (x2 : Int32) (h : HI) (g : HL) (Q : Int32 → HI → HL → Prop) : Prop :=
  Q (x0 + (x1 * x2)) h g
set_option maxHeartbeats 8000000 in
set_option maxRecDepth 100000 in
theorem m_X1_oddsOf (l : Launch) (D : va_G) (cy : Nat → ClassId) (ad : Nat → Nat) (h : HI) (g : HL) (sz : Nat) (x0 : Int32) (x1 : Int32) (x2 : Int32) (Q : Int32 → HI → HL → Prop) (HW : w_X1_oddsOf x0 x1 x2 h g Q) : Met l yX1_oddsOf (wa yX1_oddsOf cX1_oddsOf 3 (some .int)) ({ frames := 0, cells := 0, slots := 0, locals := 0 }) (va_Pc [.int x0, .int x1, .int x2] (gI D cy ad h g sz)) (va_Qi (fun (r : Int32) (u : HI × HL) => Q r u.1 u.2) (gB D cy ad sz) (gA ad sz)) 0 0 (gA ad sz) := by
  refine Met.ofW (cc := cX1_oddsOf) (maxL := 3) (ret := (some .int)) (by decide) rfl ?_
  intro p e s m args below meth c s₁ B hml hv
  obtain ⟨hav, hsz, hP, hK, hD0, hNw⟩ := hv
  have hx := B.exec
  have hb := B.bytes
  have hr := B.returns
  have hts := atoms_spec (ws := (wa yX1_oddsOf cX1_oddsOf 3 (some .int))) B.pre
  have hw := wa_hw hts
  have hown : s.vm.findClass RX1 = some m.cls := findClass_of_methodNamed B.named
  have hlocks := B.notSynchronized
  subst hsz
  have hG : gG D cy ad (gA ad s.heap.size) s.heap h g s.heap [] := ⟨hP, gA_self hD0, va_S.rf⟩
  clear hP hD0
  rw [show (headSpec (wa yX1_oddsOf cX1_oddsOf 3 (some .int)) ({ frames := 0, cells := 0, slots := 0, locals := 0 } : Room)).room = ({ frames := 0, cells := 0, slots := 0, locals := 0 } : Room) from rfl]
  have hl := lv_entry ([.int x0, .int x1, .int x2]) (n := 3) (Nat.le_of_ble_eq_true rfl)
  rw [show entryFrame m args 3 = entryFrame m ([.int x0, .int x1, .int x2] : List Value).toArray 3 from by rw [hav], lg_entry_eq]
  generalize (lg_sl ([.int x0, .int x1, .int x2]) ++ List.replicate (3 - (lg_sl ([.int x0, .int x1, .int x2])).length) Slot.unset).toArray = ls at hl ⊢
  have hl : lv_has ls 3 [(0, .int x0), (1, .int x1), (2, .int x2)] := hl
  have E0 : ∀ (H : Heap) (locs : List Loc) (ls : Array Slot), gG D cy ad (gA ad s.heap.size) s.heap h g H locs → lv_has ls 3 [(0, .int x0), (1, .int x1), (2, .int x2)] → W p l e ({ frames := 0, cells := 0, slots := 0, locals := 0 } : Room) s m args below meth c H locs 0 0 (MQ below (va_Qi (fun (r : Int32) (u : HI × HL) => Q r u.1 u.2) (gB D cy ad s.heap.size) (gA ad s.heap.size)) args s 0 0 (gA ad s.heap.size)) (F0 m 0 ls []) := by
    intro H locs ls hG hl
    unfold w_X1_oddsOf at HW
    refine lv_iload_n hx hb dX1_oddsOf_0 rfl (lv_at hl 0 rfl) ?_
    refine lv_iload_n hx hb dX1_oddsOf_1 rfl (lv_at hl 1 rfl) ?_
    refine lv_iload_n hx hb dX1_oddsOf_2 rfl (lv_at hl 2 rfl) ?_
    refine lv_imul hx hb dX1_oddsOf_3 ?_
    refine lv_iadd hx hb dX1_oddsOf_4 ?_
    exact W.iret (v := (x0 + (x1 * x2))) hx hb hr (fun t ht hW => ⟨⟨(x0 + (x1 * x2)), (h, g), rfl, HW, g_B ht hG⟩, hG.2.2.F ht⟩) hG.2.2.2.2 dX1_oddsOf_5
  exact E0 _ _ _ hG hl

def w_X1_shorten (x1 : Int32) (h : HI) (g : HL) (Q : HI → HL → Prop) : Prop :=
  ((x1 ≤ 0 → Q h g) ∧ (¬ x1 ≤ 0 → (¬ x1 = 0 ∧ ((¬ ((h 109 5) - (h 109 5) / x1 * x1) = 0 → Q h g) ∧ (((h 109 5) - (h 109 5) / x1 * x1) = 0 → (¬ x1 = 0 ∧ ((¬ ((h 109 6) - (h 109 6) / x1 * x1) = 0 → Q h g) ∧ (((h 109 6) - (h 109 6) / x1 * x1) = 0 → (¬ x1 = 0 ∧ (∀ h_29 : HI, h_29 = hu h 109 5 ((h 109 5) / x1) → (¬ x1 = 0 ∧ (∀ h_39 : HI, h_39 = hu h_29 109 6 ((h_29 109 6) / x1) → Q h_39 g))))))))))))
set_option maxHeartbeats 8000000 in
set_option maxRecDepth 100000 in
theorem m_X1_shorten (l : Launch) (D : va_G) (cy : Nat → ClassId) (ad : Nat → Nat) (h : HI) (g : HL) (sz : Nat) (x1 : Int32) (Q : HI → HL → Prop) (HW : w_X1_shorten x1 h g Q) : Met l yX1_shorten (wa yX1_shorten cX1_shorten 2 none) ({ frames := 0, cells := 0, slots := 0, locals := 0 }) (va_Pc [.ref (ad 109), .int x1] (gI D cy ad h g sz)) (va_Qv (fun (u : HI × HL) => Q u.1 u.2) (gB D cy ad sz) (gA ad sz)) 0 0 (gA ad sz) := by
  refine Met.ofW (cc := cX1_shorten) (maxL := 2) (ret := none) (by decide) rfl ?_
  intro p e s m args below meth c s₁ B hml hv
  obtain ⟨hav, hsz, hP, hK, hD0, hNw⟩ := hv
  have hx := B.exec
  have hb := B.bytes
  have hr := B.returns
  have hts := atoms_spec (ws := (wa yX1_shorten cX1_shorten 2 none)) B.pre
  have hw := wa_hw hts
  have hown : s.vm.findClass RX1 = some m.cls := findClass_of_methodNamed B.named
  have hlocks := B.notSynchronized
  subst hsz
  have hG : gG D cy ad (gA ad s.heap.size) s.heap h g s.heap [] := ⟨hP, gA_self hD0, va_S.rf⟩
  clear hP hD0
  have lk38 := hw (.fieldLink RX1 38 "OldWorks$Breaks" "keeps" "I") (wm2 97 rfl rfl)
  have lk45 := hw (.fieldLink RX1 45 "OldWorks$Breaks" "outOf" "I") (wm2 98 rfl rfl)
  rw [show (headSpec (wa yX1_shorten cX1_shorten 2 none) ({ frames := 0, cells := 0, slots := 0, locals := 0 } : Room)).room = ({ frames := 0, cells := 0, slots := 0, locals := 0 } : Room) from rfl]
  have hl := lv_entry ([.ref (ad 109), .int x1]) (n := 2) (Nat.le_of_ble_eq_true rfl)
  rw [show entryFrame m args 2 = entryFrame m ([.ref (ad 109), .int x1] : List Value).toArray 2 from by rw [hav], lg_entry_eq]
  generalize (lg_sl ([.ref (ad 109), .int x1]) ++ List.replicate (2 - (lg_sl ([.ref (ad 109), .int x1])).length) Slot.unset).toArray = ls at hl ⊢
  have hl : lv_has ls 2 [(0, .ref (ad 109)), (1, .int x1)] := hl
  have E0 : ∀ (H : Heap) (locs : List Loc) (ls : Array Slot), gG D cy ad (gA ad s.heap.size) s.heap h g H locs → lv_has ls 2 [(0, .ref (ad 109)), (1, .int x1)] → W p l e ({ frames := 0, cells := 0, slots := 0, locals := 0 } : Room) s m args below meth c H locs 0 0 (MQ below (va_Qv (fun (u : HI × HL) => Q u.1 u.2) (gB D cy ad s.heap.size) (gA ad s.heap.size)) args s 0 0 (gA ad s.heap.size)) (F0 m 0 ls []) := by
    intro H locs ls hG hl
    unfold w_X1_shorten at HW
    refine lv_iload_n hx hb dX1_shorten_0 rfl (lv_at hl 1 rfl) ?_
    refine lv_if_le (tgt := 42) hx hb dX1_shorten_1 (by decide) (fun c_1 => ?_) (fun c_1 => ?_)
    · replace HW := HW.1 c_1
      exact W.vret hx hb hr (fun t ht hW => ⟨⟨(h, g), rfl, HW, g_B ht hG⟩, hG.2.2.F ht⟩) hG.2.2.2.2 dX1_shorten_42
    · replace HW := HW.2 c_1
      refine lv_aload_n hx hb dX1_shorten_4 rfl (lv_at hl 0 rfl) ?_
      refine g_geti hx hb hw inG1 hown hK hG gl_109 rfl gk_109 (by decide) 5 (by decide) (by rw [gm_109]; decide) gr_109_5 lk38 dX1_shorten_5 ?_
      refine lv_iload_n hx hb dX1_shorten_8 rfl (lv_at hl 1 rfl) ?_
      refine lv_irem hx hb dX1_shorten_9 HW.1 ?_
      replace HW := HW.2
      refine lv_if_ne (tgt := 42) hx hb dX1_shorten_10 (by decide) (fun c_10 => ?_) (fun c_10 => ?_)
      · replace HW := HW.1 c_10
        exact W.vret hx hb hr (fun t ht hW => ⟨⟨(h, g), rfl, HW, g_B ht hG⟩, hG.2.2.F ht⟩) hG.2.2.2.2 dX1_shorten_42
      · replace HW := HW.2 c_10
        refine lv_aload_n hx hb dX1_shorten_13 rfl (lv_at hl 0 rfl) ?_
        refine g_geti hx hb hw inG1 hown hK hG gl_109 rfl gk_109 (by decide) 6 (by decide) (by rw [gm_109]; decide) gr_109_6 lk45 dX1_shorten_14 ?_
        refine lv_iload_n hx hb dX1_shorten_17 rfl (lv_at hl 1 rfl) ?_
        refine lv_irem hx hb dX1_shorten_18 HW.1 ?_
        replace HW := HW.2
        refine lv_if_ne (tgt := 42) hx hb dX1_shorten_19 (by decide) (fun c_19 => ?_) (fun c_19 => ?_)
        · replace HW := HW.1 c_19
          exact W.vret hx hb hr (fun t ht hW => ⟨⟨(h, g), rfl, HW, g_B ht hG⟩, hG.2.2.F ht⟩) hG.2.2.2.2 dX1_shorten_42
        · replace HW := HW.2 c_19
          refine lv_aload_n hx hb dX1_shorten_22 rfl (lv_at hl 0 rfl) ?_
          refine lv_dup hx hb dX1_shorten_23 rfl ?_
          refine g_geti hx hb hw inG1 hown hK hG gl_109 rfl gk_109 (by decide) 5 (by decide) (by rw [gm_109]; decide) gr_109_5 lk38 dX1_shorten_24 ?_
          refine lv_iload_n hx hb dX1_shorten_27 rfl (lv_at hl 1 rfl) ?_
          refine lv_idiv hx hb dX1_shorten_28 HW.1 ?_
          replace HW := HW.2
          refine g_put hx hb hw inG1 tyX1 tyX1_ok nmX1 hown hK hG gl_109 rfl gk_109 (by decide) 5 (by decide) (by rw [gm_109]; decide) gr_109_5 rfl (ty := .int) (by decide +kernel) rfl rfl lk38 dX1_shorten_29 (fun H locs hG => ?_)
          obtain ⟨h_29, eh_29⟩ : ∃ y : HI, y = hu h 109 5 ((h 109 5) / x1) := ⟨_, rfl⟩
          rw [← eh_29] at hG
          replace HW := HW h_29 eh_29
          refine lv_aload_n hx hb dX1_shorten_32 rfl (lv_at hl 0 rfl) ?_
          refine lv_dup hx hb dX1_shorten_33 rfl ?_
          refine g_geti hx hb hw inG1 hown hK hG gl_109 rfl gk_109 (by decide) 6 (by decide) (by rw [gm_109]; decide) gr_109_6 lk45 dX1_shorten_34 ?_
          refine lv_iload_n hx hb dX1_shorten_37 rfl (lv_at hl 1 rfl) ?_
          refine lv_idiv hx hb dX1_shorten_38 HW.1 ?_
          replace HW := HW.2
          refine g_put hx hb hw inG1 tyX1 tyX1_ok nmX1 hown hK hG gl_109 rfl gk_109 (by decide) 6 (by decide) (by rw [gm_109]; decide) gr_109_6 rfl (ty := .int) (by decide +kernel) rfl rfl lk45 dX1_shorten_39 (fun H locs hG => ?_)
          obtain ⟨h_39, eh_39⟩ : ∃ y : HI, y = hu h_29 109 6 ((h_29 109 6) / x1) := ⟨_, rfl⟩
          rw [← eh_39] at hG
          replace HW := HW h_39 eh_39
          exact W.vret hx hb hr (fun t ht hW => ⟨⟨(h_39, g), rfl, HW, g_B ht hG⟩, hG.2.2.F ht⟩) hG.2.2.2.2 dX1_shorten_42
  exact E0 _ _ _ hG hl

def b_X1_chooseYear_67 (Q : HI → HL → Prop) (K67 : Int32 → HI → HL → Prop) (x4 : Int32) (h : HI) (g : HL) : Prop :=
  (((3 : Int32) ≤ x4 → Q h g) ∧ (¬ (3 : Int32) ≤ x4 → (∃ P_75 : HI → HL → Prop, w_X1_shorten (2 : Int32) h g P_75 ∧ ∀ (h_75 : HI) (g_75 : HL), P_75 h_75 g_75 → (∃ P_80 : HI → HL → Prop, w_X1_shorten (5 : Int32) h_75 g_75 P_80 ∧ ∀ (h_80 : HI) (g_80 : HL), P_80 h_80 g_80 → (∀ x4_83 : Int32, x4_83 = (x4 + 1) → K67 x4_83 h_80 g_80)))))
def F_X1_chooseYear_67 (Q : HI → HL → Prop) (K : Int32 × HI × HL → Prop) (q : Int32 × HI × HL) : Prop := b_X1_chooseYear_67 Q (fun x4 h g => K (x4, h, g)) q.1 q.2.1 q.2.2
def w_X1_chooseYear (x1 : Int32) (h : HI) (g : HL) (Q : HI → HL → Prop) : Prop :=
  (∃ P_9 : Int32 → HI → HL → Prop, w_X8_at 16 (0 : Int32) (0 : Int32) h g P_9 ∧ ∀ (r_9 : Int32) (h_9 : HI) (g_9 : HL), P_9 r_9 h_9 g_9 → (∃ P_22 : Int32 → HI → HL → Prop, w_X8_at 16 (0 : Int32) (1 : Int32) h_9 g_9 P_22 ∧ ∀ (r_22 : Int32) (h_22 : HI) (g_22 : HL), P_22 r_22 h_22 g_22 → (∃ P_44 : Int32 → HI → HL → Prop, w_X8_at 2 x1 (0 : Int32) h_22 g_22 P_44 ∧ ∀ (r_44 : Int32) (h_44 : HI) (g_44 : HL), P_44 r_44 h_44 g_44 → (∃ P_47 : Int32 → HI → HL → Prop, w_X1_oddsOf r_9 r_22 r_44 h_44 g_44 P_47 ∧ ∀ (r_47 : Int32) (h_47 : HI) (g_47 : HL), P_47 r_47 h_47 g_47 → (∀ h_54 : HI, h_54 = hu h_47 109 5 ((1000 : Int32) - (if r_47 < (1000 : Int32) then r_47 else (1000 : Int32))) → (∀ h_61 : HI, h_61 = hu h_54 109 6 (1000 : Int32) → lpE (F_X1_chooseYear_67 Q) ((0 : Int32), h_61, g_47)))))))
set_option maxHeartbeats 8000000 in
set_option maxRecDepth 100000 in
theorem m_X1_chooseYear (l : Launch) (D : va_G) (cy : Nat → ClassId) (ad : Nat → Nat) (h : HI) (g : HL) (sz : Nat) (x1 : Int32) (Q : HI → HL → Prop) (HW : w_X1_chooseYear x1 h g Q) : Met l yX1_chooseYear (wa yX1_chooseYear cX1_chooseYear 5 none) ({ frames := 1, cells := 0, slots := 0, locals := 32 }) (va_Pc [.ref (ad 109), .int x1] (gI D cy ad h g sz)) (va_Qv (fun (u : HI × HL) => Q u.1 u.2) (gB D cy ad sz) (gA ad sz)) 0 0 (gA ad sz) := by
  refine Met.ofW (cc := cX1_chooseYear) (maxL := 5) (ret := none) (by decide) rfl ?_
  intro p e s m args below meth c s₁ B hml hv
  obtain ⟨hav, hsz, hP, hK, hD0, hNw⟩ := hv
  have hx := B.exec
  have hb := B.bytes
  have hr := B.returns
  have hts := atoms_spec (ws := (wa yX1_chooseYear cX1_chooseYear 5 none)) B.pre
  have hw := wa_hw hts
  have hown : s.vm.findClass RX1 = some m.cls := findClass_of_methodNamed B.named
  have hlocks := B.notSynchronized
  subst hsz
  have hG : gG D cy ad (gA ad s.heap.size) s.heap h g s.heap [] := ⟨hP, gA_self hD0, va_S.rf⟩
  clear hP hD0
  have lk27 := hw (.fieldLink RX1 27 "OldWorks$Breaks" "shop" "LOldWorks$Shop;") (wm2 92 rfl rfl)
  have lk51 := hw (.fieldLink RX1 51 "OldWorks$Shop" "odds" "LOldWorks$Table;") (wm1 84 rfl rfl)
  have lk63 := hw (.fieldLink RX1 63 "OldWorks$Shop" "parts" "LOldWorks$Table;") (wm1 63 rfl rfl)
  have ml70 := hw (.methodLink RX1 70 Lib.Math.min.name) (wm4 57 rfl rfl)
  have ms70 := hw (.static Lib.Math.min.name) (wm3 99 rfl rfl)
  have mi70 := hw (.initialized "java/lang/Math") (wm1 14 rfl rfl)
  have mc70 := hw (.code Lib.Math.min.name Lib.Math.min.code 2 (some .int)) (wm3 100 rfl rfl)
  have lk38 := hw (.fieldLink RX1 38 "OldWorks$Breaks" "keeps" "I") (wm2 97 rfl rfl)
  have lk45 := hw (.fieldLink RX1 45 "OldWorks$Breaks" "outOf" "I") (wm2 98 rfl rfl)
  rw [show (headSpec (wa yX1_chooseYear cX1_chooseYear 5 none) ({ frames := 1, cells := 0, slots := 0, locals := 32 } : Room)).room = ({ frames := 1, cells := 0, slots := 0, locals := 32 } : Room) from rfl]
  have hl := lv_entry ([.ref (ad 109), .int x1]) (n := 5) (Nat.le_of_ble_eq_true rfl)
  rw [show entryFrame m args 5 = entryFrame m ([.ref (ad 109), .int x1] : List Value).toArray 5 from by rw [hav], lg_entry_eq]
  generalize (lg_sl ([.ref (ad 109), .int x1]) ++ List.replicate (5 - (lg_sl ([.ref (ad 109), .int x1])).length) Slot.unset).toArray = ls at hl ⊢
  have hl : lv_has ls 5 [(0, .ref (ad 109)), (1, .int x1)] := hl
  have L67 : ∀ (n : Nat) (x4 : Int32) (h : HI) (g : HL) (H : Heap) (locs : List Loc) (ls : Array Slot), lpN (F_X1_chooseYear_67 Q) n (x4, h, g) → gG D cy ad (gA ad s.heap.size) s.heap h g H locs → lv_has ls 5 [(0, .ref (ad 109)), (4, .int x4)] → W p l e ({ frames := 1, cells := 0, slots := 0, locals := 32 } : Room) s m args below meth c H locs 0 0 (MQ below (va_Qv (fun (u : HI × HL) => Q u.1 u.2) (gB D cy ad s.heap.size) (gA ad s.heap.size)) args s 0 0 (gA ad s.heap.size)) (F0 m 67 ls []) := by
    intro n
    induction n with
    | zero => intro x4 h g H locs ls HW; exact HW.elim
    | succ n ih =>
      intro x4 h g H locs ls HW hG hl
      have HW : b_X1_chooseYear_67 Q (fun x4 h g => lpN (F_X1_chooseYear_67 Q) n (x4, h, g)) x4 h g := HW
      generalize hKe : (fun (x4 : Int32) (h : HI) (g : HL) => lpN (F_X1_chooseYear_67 Q) n (x4, h, g)) = K67 at HW
      have hK67 : ∀ (x4 : Int32) (h : HI) (g : HL) (H : Heap) (locs : List Loc) (ls : Array Slot), K67 x4 h g → gG D cy ad (gA ad s.heap.size) s.heap h g H locs → lv_has ls 5 [(0, .ref (ad 109)), (4, .int x4)] → W p l e ({ frames := 1, cells := 0, slots := 0, locals := 32 } : Room) s m args below meth c H locs 0 0 (MQ below (va_Qv (fun (u : HI × HL) => Q u.1 u.2) (gB D cy ad s.heap.size) (gA ad s.heap.size)) args s 0 0 (gA ad s.heap.size)) (F0 m 67 ls []) := by subst hKe; exact ih
      clear ih
      clear hKe
      unfold b_X1_chooseYear_67 at HW
      refine lv_iload hx hb dX1_chooseYear_67 (lv_at hl 1 rfl) ?_
      refine lv_iconst (v := 3) hx hb dX1_chooseYear_69 (by decide) ?_
      refine lv_icmp_ge (tgt := 89) hx hb dX1_chooseYear_70 (by decide) (fun c_70 => ?_) (fun c_70 => ?_)
      · replace HW := HW.1 c_70
        exact W.vret hx hb hr (fun t ht hW => ⟨⟨(h, g), rfl, HW, g_B ht hG⟩, hG.2.2.F ht⟩) hG.2.2.2.2 dX1_chooseYear_89
      · replace HW := HW.2 c_70
        refine lv_aload_n hx hb dX1_chooseYear_73 rfl (lv_at hl 0 rfl) ?_
        refine lv_iconst (v := 2) hx hb dX1_chooseYear_74 (by decide) ?_
        obtain ⟨P_75, HC_75, HW⟩ := HW
        refine g_callv (g_runV (As := [.int (2 : Int32)]) (rest := []) ⟨hx, hb, hml, hown, hts⟩ (m_X1_shorten l D cy ad h g H.size (2 : Int32) P_75 HC_75) (cwV 1 hts (gd_V (wm4 58 rfl rfl) (wm4 60 rfl rfl) (wmp2 (q := (yX1_shorten, 7)) 9 rfl) (wm1 10 rfl rfl) (wm4 61 rfl rfl)) rfl rfl rfl (by decide +kernel) ⟨Nat.le_of_ble_eq_true rfl, Nat.le_of_ble_eq_true rfl⟩) hK hNw hG gl_109 rfl gk_109 (by decide) rfl rfl hl.1 rfl (lv_room (Nat.le_of_ble_eq_true rfl)) dX1_chooseYear_75 ⟨Nat.zero_le _, Nat.zero_le _⟩) hG (fun h_75 g_75 H locs hq hG => ?_)
        replace HW := HW h_75 g_75 hq
        refine lv_aload_n hx hb dX1_chooseYear_78 rfl (lv_at hl 0 rfl) ?_
        refine lv_iconst (v := 5) hx hb dX1_chooseYear_79 (by decide) ?_
        obtain ⟨P_80, HC_80, HW⟩ := HW
        refine g_callv (g_runV (As := [.int (5 : Int32)]) (rest := []) ⟨hx, hb, hml, hown, hts⟩ (m_X1_shorten l D cy ad h_75 g_75 H.size (5 : Int32) P_80 HC_80) (cwV 1 hts (gd_V (wm4 58 rfl rfl) (wm4 60 rfl rfl) (wmp2 (q := (yX1_shorten, 7)) 9 rfl) (wm1 10 rfl rfl) (wm4 61 rfl rfl)) rfl rfl rfl (by decide +kernel) ⟨Nat.le_of_ble_eq_true rfl, Nat.le_of_ble_eq_true rfl⟩) hK hNw hG gl_109 rfl gk_109 (by decide) rfl rfl hl.1 rfl (lv_room (Nat.le_of_ble_eq_true rfl)) dX1_chooseYear_80 ⟨Nat.zero_le _, Nat.zero_le _⟩) hG (fun h_80 g_80 H locs hq hG => ?_)
        replace HW := HW h_80 g_80 hq
        obtain ⟨x4_83, ex4_83⟩ : ∃ y : Int32, y = (x4 + 1) := ⟨_, rfl⟩
        replace HW := HW x4_83 ex4_83
        refine lv_iinc (v := x4_83) (lv' := [(4, .int x4_83), (0, .ref (ad 109))]) hx hb dX1_chooseYear_83 hl (k := 1) rfl (by rw [ex4_83]; rfl) (by decide) rfl (fun ls hl => ?_)
        refine lv_goto (tgt := 67) hx hb dX1_chooseYear_86 (by decide) ?_
        exact hK67 x4_83 h_80 g_80 _ _ _ HW hG (lv_sub hl [1, 0] rfl)
  have E0 : ∀ (H : Heap) (locs : List Loc) (ls : Array Slot), gG D cy ad (gA ad s.heap.size) s.heap h g H locs → lv_has ls 5 [(0, .ref (ad 109)), (1, .int x1)] → W p l e ({ frames := 1, cells := 0, slots := 0, locals := 32 } : Room) s m args below meth c H locs 0 0 (MQ below (va_Qv (fun (u : HI × HL) => Q u.1 u.2) (gB D cy ad s.heap.size) (gA ad s.heap.size)) args s 0 0 (gA ad s.heap.size)) (F0 m 0 ls []) := by
    intro H locs ls hG hl
    unfold w_X1_chooseYear at HW
    refine lv_aload_n hx hb dX1_chooseYear_0 rfl (lv_at hl 0 rfl) ?_
    refine g_getr hx hb hw inG1 hown hK hG gl_109 rfl gk_109 (by decide) 0 (by decide) (by rw [gm_109]; decide) (r := 1) gr_109_0 lk27 dX1_chooseYear_1 ?_
    refine g_getr hx hb hw inG6 hown hK hG gl_1 rfl gk_1 (by decide) 7 (by decide) (by rw [gm_1]; decide) (r := 16) gr_1_7 lk51 dX1_chooseYear_4 ?_
    refine lv_iconst (v := 0) hx hb dX1_chooseYear_7 (by decide) ?_
    refine lv_iconst (v := 0) hx hb dX1_chooseYear_8 (by decide) ?_
    obtain ⟨P_9, HC_9, HW⟩ := HW
    refine g_calli (g_runV (As := [.int (0 : Int32), .int (0 : Int32)]) (rest := []) ⟨hx, hb, hml, hown, hts⟩ (m_X8_at l D cy ad h g H.size 16 (gs_16) (0 : Int32) (0 : Int32) P_9 HC_9) (cwV 2 hts (gd_V (wm4 53 rfl rfl) (wm2 221 rfl rfl) (wm2 222 rfl rfl) (wm1 3 rfl rfl) (wm2 223 rfl rfl)) rfl rfl rfl (by decide +kernel) ⟨Nat.le_of_ble_eq_true rfl, Nat.le_of_ble_eq_true rfl⟩) hK hNw hG gl_16 rfl gk_16 (by decide) rfl rfl hl.1 rfl (lv_room (Nat.le_of_ble_eq_true rfl)) dX1_chooseYear_9 ⟨Nat.zero_le _, Nat.zero_le _⟩) hG (fun r_9 h_9 g_9 H locs hq hG => ?_)
    replace HW := HW r_9 h_9 g_9 hq
    refine lv_istore_n (lv' := [(2, .int r_9), (0, .ref (ad 109)), (1, .int x1)]) hx hb dX1_chooseYear_12 rfl hl (by decide) rfl (fun ls hl => ?_)
    refine lv_aload_n hx hb dX1_chooseYear_13 rfl (lv_at hl 1 rfl) ?_
    refine g_getr hx hb hw inG1 hown hK hG gl_109 rfl gk_109 (by decide) 0 (by decide) (by rw [gm_109]; decide) (r := 1) gr_109_0 lk27 dX1_chooseYear_14 ?_
    refine g_getr hx hb hw inG6 hown hK hG gl_1 rfl gk_1 (by decide) 7 (by decide) (by rw [gm_1]; decide) (r := 16) gr_1_7 lk51 dX1_chooseYear_17 ?_
    refine lv_iconst (v := 0) hx hb dX1_chooseYear_20 (by decide) ?_
    refine lv_iconst (v := 1) hx hb dX1_chooseYear_21 (by decide) ?_
    obtain ⟨P_22, HC_22, HW⟩ := HW
    refine g_calli (g_runV (As := [.int (0 : Int32), .int (1 : Int32)]) (rest := []) ⟨hx, hb, hml, hown, hts⟩ (m_X8_at l D cy ad h_9 g_9 H.size 16 (gs_16) (0 : Int32) (1 : Int32) P_22 HC_22) (cwV 2 hts (gd_V (wm4 53 rfl rfl) (wm2 221 rfl rfl) (wm2 222 rfl rfl) (wm1 3 rfl rfl) (wm2 223 rfl rfl)) rfl rfl rfl (by decide +kernel) ⟨Nat.le_of_ble_eq_true rfl, Nat.le_of_ble_eq_true rfl⟩) hK hNw hG gl_16 rfl gk_16 (by decide) rfl rfl hl.1 rfl (lv_room (Nat.le_of_ble_eq_true rfl)) dX1_chooseYear_22 ⟨Nat.zero_le _, Nat.zero_le _⟩) hG (fun r_22 h_22 g_22 H locs hq hG => ?_)
    replace HW := HW r_22 h_22 g_22 hq
    refine lv_istore_n (lv' := [(3, .int r_22), (2, .int r_9), (0, .ref (ad 109)), (1, .int x1)]) hx hb dX1_chooseYear_25 rfl hl (by decide) rfl (fun ls hl => ?_)
    refine lv_aload_n hx hb dX1_chooseYear_26 rfl (lv_at hl 2 rfl) ?_
    refine lv_sipush (v := 1000) hx hb dX1_chooseYear_27 (by decide) ?_
    refine lv_sipush (v := 1000) hx hb dX1_chooseYear_30 (by decide) ?_
    refine lv_iload_n hx hb dX1_chooseYear_33 rfl (lv_at hl 1 rfl) ?_
    refine lv_iload_n hx hb dX1_chooseYear_34 rfl (lv_at hl 0 rfl) ?_
    refine lv_aload_n hx hb dX1_chooseYear_35 rfl (lv_at hl 2 rfl) ?_
    refine g_getr hx hb hw inG1 hown hK hG gl_109 rfl gk_109 (by decide) 0 (by decide) (by rw [gm_109]; decide) (r := 1) gr_109_0 lk27 dX1_chooseYear_36 ?_
    refine g_getr hx hb hw inG6 hown hK hG gl_1 rfl gk_1 (by decide) 0 (by decide) (by rw [gm_1]; decide) (r := 2) gr_1_0 lk63 dX1_chooseYear_39 ?_
    refine lv_iload_n hx hb dX1_chooseYear_42 rfl (lv_at hl 3 rfl) ?_
    refine lv_iconst (v := 0) hx hb dX1_chooseYear_43 (by decide) ?_
    obtain ⟨P_44, HC_44, HW⟩ := HW
    refine g_calli (g_runV (As := [.int x1, .int (0 : Int32)]) (rest := [.int r_22, .int r_9, .int (1000 : Int32), .int (1000 : Int32), .ref (ad 109)]) ⟨hx, hb, hml, hown, hts⟩ (m_X8_at l D cy ad h_22 g_22 H.size 2 (gs_2) x1 (0 : Int32) P_44 HC_44) (cwV 2 hts (gd_V (wm4 53 rfl rfl) (wm2 221 rfl rfl) (wm2 222 rfl rfl) (wm1 3 rfl rfl) (wm2 223 rfl rfl)) rfl rfl rfl (by decide +kernel) ⟨Nat.le_of_ble_eq_true rfl, Nat.le_of_ble_eq_true rfl⟩) hK hNw hG gl_2 rfl gk_2 (by decide) rfl rfl hl.1 rfl (lv_room (Nat.le_of_ble_eq_true rfl)) dX1_chooseYear_44 ⟨Nat.zero_le _, Nat.zero_le _⟩) hG (fun r_44 h_44 g_44 H locs hq hG => ?_)
    replace HW := HW r_44 h_44 g_44 hq
    obtain ⟨P_47, HC_47, HW⟩ := HW
    refine g_calli (g_runS (As := [.int r_9, .int r_22, .int r_44]) (rest := [.int (1000 : Int32), .int (1000 : Int32), .ref (ad 109)]) ⟨hx, hb, hml, hown, hts⟩ (m_X1_oddsOf l D cy ad h_44 g_44 H.size r_9 r_22 r_44 P_47 HC_47) (va_cwS 3 hts (gd_S (wm4 54 rfl rfl) (wm4 55 rfl rfl) (wm1 10 rfl rfl) (wm4 56 rfl rfl)) rfl rfl rfl (by decide +kernel) ⟨Nat.le_of_ble_eq_true rfl, Nat.le_of_ble_eq_true rfl⟩) hK hNw hG rfl rfl hl.1 rfl (lv_room (Nat.le_of_ble_eq_true rfl)) dX1_chooseYear_47 ⟨Nat.zero_le _, Nat.zero_le _⟩) hG (fun r_47 h_47 g_47 H locs hq hG => ?_)
    replace HW := HW r_47 h_47 g_47 hq
    refine va_mmin hx hb (hml.trans hl.1.symm) hown ml70 ms70 mi70 mc70 (by decide) (Nat.le_of_ble_eq_true rfl) (Nat.zero_le _) (Nat.zero_le _) dX1_chooseYear_50 ?_
    refine lv_isub hx hb dX1_chooseYear_53 ?_
    refine g_put hx hb hw inG1 tyX1 tyX1_ok nmX1 hown hK hG gl_109 rfl gk_109 (by decide) 5 (by decide) (by rw [gm_109]; decide) gr_109_5 rfl (ty := .int) (by decide +kernel) rfl rfl lk38 dX1_chooseYear_54 (fun H locs hG => ?_)
    obtain ⟨h_54, eh_54⟩ : ∃ y : HI, y = hu h_47 109 5 ((1000 : Int32) - (if r_47 < (1000 : Int32) then r_47 else (1000 : Int32))) := ⟨_, rfl⟩
    rw [← eh_54] at hG
    replace HW := HW h_54 eh_54
    refine lv_aload_n hx hb dX1_chooseYear_57 rfl (lv_at hl 2 rfl) ?_
    refine lv_sipush (v := 1000) hx hb dX1_chooseYear_58 (by decide) ?_
    refine g_put hx hb hw inG1 tyX1 tyX1_ok nmX1 hown hK hG gl_109 rfl gk_109 (by decide) 6 (by decide) (by rw [gm_109]; decide) gr_109_6 rfl (ty := .int) (by decide +kernel) rfl rfl lk45 dX1_chooseYear_61 (fun H locs hG => ?_)
    obtain ⟨h_61, eh_61⟩ : ∃ y : HI, y = hu h_54 109 6 (1000 : Int32) := ⟨_, rfl⟩
    rw [← eh_61] at hG
    replace HW := HW h_61 eh_61
    refine lv_iconst (v := 0) hx hb dX1_chooseYear_64 (by decide) ?_
    refine lv_istore (lv' := [(4, .int (0 : Int32)), (3, .int r_22), (2, .int r_9), (0, .ref (ad 109)), (1, .int x1)]) hx hb dX1_chooseYear_65 hl (by decide) rfl (fun ls hl => ?_)
    obtain ⟨n_67, HW⟩ := HW
    exact L67 n_67 (0 : Int32) h_61 g_47 _ _ _ HW hG (lv_sub hl [3, 0] rfl)
  exact E0 _ _ _ hG hl

def b_X1_last_23 (Q : HI → HL → Prop) (K23 : Int32 → Int32 → HI → HL → Prop) (x2 : Int32) (x3 : Int32) (h : HI) (g : HL) : Prop :=
  ((x2 ≤ x3 → Q h g) ∧ (¬ x2 ≤ x3 → (∃ P_36 : HI → HL → Prop, w_X0_times 110 (h 109 5) h g P_36 ∧ ∀ (h_36 : HI) (g_36 : HL), P_36 h_36 g_36 → (∃ P_47 : HI → HL → Prop, w_X0_times 112 (h_36 109 6) h_36 g_36 P_47 ∧ ∀ (h_47 : HI) (g_47 : HL), P_47 h_47 g_47 → (∀ x3_50 : Int32, x3_50 = (x3 + 1) → K23 x2 x3_50 h_47 g_47)))))
def F_X1_last_23 (Q : HI → HL → Prop) (K : Int32 × Int32 × HI × HL → Prop) (q : Int32 × Int32 × HI × HL) : Prop := b_X1_last_23 Q (fun x2 x3 h g => K (x2, x3, h, g)) q.1 q.2.1 q.2.2.1 q.2.2.2
def w_X1_last (x1 : Int32) (x2 : Int32) (h : HI) (g : HL) (Q : HI → HL → Prop) : Prop :=
  (∃ P_2 : HI → HL → Prop, w_X1_chooseYear x1 h g P_2 ∧ ∀ (h_2 : HI) (g_2 : HL), P_2 h_2 g_2 → (∃ P_10 : HI → HL → Prop, w_X0_set 110 (1 : Int32) h_2 g_2 P_10 ∧ ∀ (h_10 : HI) (g_10 : HL), P_10 h_10 g_10 → (∃ P_18 : HI → HL → Prop, w_X0_set 112 (1 : Int32) h_10 g_10 P_18 ∧ ∀ (h_18 : HI) (g_18 : HL), P_18 h_18 g_18 → lpE (F_X1_last_23 Q) (x2, (0 : Int32), h_18, g_18))))
set_option maxHeartbeats 8000000 in
set_option maxRecDepth 100000 in
theorem m_X1_last (l : Launch) (D : va_G) (cy : Nat → ClassId) (ad : Nat → Nat) (h : HI) (g : HL) (sz : Nat) (x1 : Int32) (x2 : Int32) (Q : HI → HL → Prop) (HW : w_X1_last x1 x2 h g Q) : Met l yX1_last (wa yX1_last cX1_last 4 none) ({ frames := 2, cells := 0, slots := 0, locals := 56 }) (va_Pc [.ref (ad 109), .int x1, .int x2] (gI D cy ad h g sz)) (va_Qv (fun (u : HI × HL) => Q u.1 u.2) (gB D cy ad sz) (gA ad sz)) 0 0 (gA ad sz) := by
  refine Met.ofW (cc := cX1_last) (maxL := 4) (ret := none) (by decide) rfl ?_
  intro p e s m args below meth c s₁ B hml hv
  obtain ⟨hav, hsz, hP, hK, hD0, hNw⟩ := hv
  have hx := B.exec
  have hb := B.bytes
  have hr := B.returns
  have hts := atoms_spec (ws := (wa yX1_last cX1_last 4 none)) B.pre
  have hw := wa_hw hts
  have hown : s.vm.findClass RX1 = some m.cls := findClass_of_methodNamed B.named
  have hlocks := B.notSynchronized
  subst hsz
  have hG : gG D cy ad (gA ad s.heap.size) s.heap h g s.heap [] := ⟨hP, gA_self hD0, va_S.rf⟩
  clear hP hD0
  have lk12 := hw (.fieldLink RX1 12 "OldWorks$Breaks" "above" "LOldWorks$Big;") (wm2 93 rfl rfl)
  have lk18 := hw (.fieldLink RX1 18 "OldWorks$Breaks" "below" "LOldWorks$Big;") (wm2 94 rfl rfl)
  have lk38 := hw (.fieldLink RX1 38 "OldWorks$Breaks" "keeps" "I") (wm2 97 rfl rfl)
  have lk45 := hw (.fieldLink RX1 45 "OldWorks$Breaks" "outOf" "I") (wm2 98 rfl rfl)
  rw [show (headSpec (wa yX1_last cX1_last 4 none) ({ frames := 2, cells := 0, slots := 0, locals := 56 } : Room)).room = ({ frames := 2, cells := 0, slots := 0, locals := 56 } : Room) from rfl]
  have hl := lv_entry ([.ref (ad 109), .int x1, .int x2]) (n := 4) (Nat.le_of_ble_eq_true rfl)
  rw [show entryFrame m args 4 = entryFrame m ([.ref (ad 109), .int x1, .int x2] : List Value).toArray 4 from by rw [hav], lg_entry_eq]
  generalize (lg_sl ([.ref (ad 109), .int x1, .int x2]) ++ List.replicate (4 - (lg_sl ([.ref (ad 109), .int x1, .int x2])).length) Slot.unset).toArray = ls at hl ⊢
  have hl : lv_has ls 4 [(0, .ref (ad 109)), (1, .int x1), (2, .int x2)] := hl
  have L23 : ∀ (n : Nat) (x2 : Int32) (x3 : Int32) (h : HI) (g : HL) (H : Heap) (locs : List Loc) (ls : Array Slot), lpN (F_X1_last_23 Q) n (x2, x3, h, g) → gG D cy ad (gA ad s.heap.size) s.heap h g H locs → lv_has ls 4 [(0, .ref (ad 109)), (2, .int x2), (3, .int x3)] → W p l e ({ frames := 2, cells := 0, slots := 0, locals := 56 } : Room) s m args below meth c H locs 0 0 (MQ below (va_Qv (fun (u : HI × HL) => Q u.1 u.2) (gB D cy ad s.heap.size) (gA ad s.heap.size)) args s 0 0 (gA ad s.heap.size)) (F0 m 23 ls []) := by
    intro n
    induction n with
    | zero => intro x2 x3 h g H locs ls HW; exact HW.elim
    | succ n ih =>
      intro x2 x3 h g H locs ls HW hG hl
      have HW : b_X1_last_23 Q (fun x2 x3 h g => lpN (F_X1_last_23 Q) n (x2, x3, h, g)) x2 x3 h g := HW
      generalize hKe : (fun (x2 : Int32) (x3 : Int32) (h : HI) (g : HL) => lpN (F_X1_last_23 Q) n (x2, x3, h, g)) = K23 at HW
      have hK23 : ∀ (x2 : Int32) (x3 : Int32) (h : HI) (g : HL) (H : Heap) (locs : List Loc) (ls : Array Slot), K23 x2 x3 h g → gG D cy ad (gA ad s.heap.size) s.heap h g H locs → lv_has ls 4 [(0, .ref (ad 109)), (2, .int x2), (3, .int x3)] → W p l e ({ frames := 2, cells := 0, slots := 0, locals := 56 } : Room) s m args below meth c H locs 0 0 (MQ below (va_Qv (fun (u : HI × HL) => Q u.1 u.2) (gB D cy ad s.heap.size) (gA ad s.heap.size)) args s 0 0 (gA ad s.heap.size)) (F0 m 23 ls []) := by subst hKe; exact ih
      clear ih
      clear hKe
      unfold b_X1_last_23 at HW
      refine lv_iload_n hx hb dX1_last_23 rfl (lv_at hl 2 rfl) ?_
      refine lv_iload_n hx hb dX1_last_24 rfl (lv_at hl 1 rfl) ?_
      refine lv_icmp_ge (tgt := 56) hx hb dX1_last_25 (by decide) (fun c_25 => ?_) (fun c_25 => ?_)
      · replace HW := HW.1 c_25
        exact W.vret hx hb hr (fun t ht hW => ⟨⟨(h, g), rfl, HW, g_B ht hG⟩, hG.2.2.F ht⟩) hG.2.2.2.2 dX1_last_56
      · replace HW := HW.2 c_25
        refine lv_aload_n hx hb dX1_last_28 rfl (lv_at hl 0 rfl) ?_
        refine g_getr hx hb hw inG1 hown hK hG gl_109 rfl gk_109 (by decide) 1 (by decide) (by rw [gm_109]; decide) (r := 110) gr_109_1 lk12 dX1_last_29 ?_
        refine lv_aload_n hx hb dX1_last_32 rfl (lv_at hl 0 rfl) ?_
        refine g_geti hx hb hw inG1 hown hK hG gl_109 rfl gk_109 (by decide) 5 (by decide) (by rw [gm_109]; decide) gr_109_5 lk38 dX1_last_33 ?_
        obtain ⟨P_36, HC_36, HW⟩ := HW
        refine g_callv (g_runV (As := [.int (h 109 5)]) (rest := []) ⟨hx, hb, hml, hown, hts⟩ (m_X0_times l D cy ad h g H.size 110 (gs_110) (h 109 5) P_36 HC_36) (cwV 1 hts (gd_V (wm4 62 rfl rfl) (wm4 63 rfl rfl) (wm4 64 rfl rfl) (wm1 11 rfl rfl) (wm4 65 rfl rfl)) rfl rfl rfl (by decide +kernel) ⟨Nat.le_of_ble_eq_true rfl, Nat.le_of_ble_eq_true rfl⟩) hK hNw hG gl_110 rfl gk_110 (by decide) rfl rfl hl.1 rfl (lv_room (Nat.le_of_ble_eq_true rfl)) dX1_last_36 ⟨Nat.zero_le _, Nat.zero_le _⟩) hG (fun h_36 g_36 H locs hq hG => ?_)
        replace HW := HW h_36 g_36 hq
        refine lv_aload_n hx hb dX1_last_39 rfl (lv_at hl 0 rfl) ?_
        refine g_getr hx hb hw inG1 hown hK hG gl_109 rfl gk_109 (by decide) 2 (by decide) (by rw [gm_109]; decide) (r := 112) gr_109_2 lk18 dX1_last_40 ?_
        refine lv_aload_n hx hb dX1_last_43 rfl (lv_at hl 0 rfl) ?_
        refine g_geti hx hb hw inG1 hown hK hG gl_109 rfl gk_109 (by decide) 6 (by decide) (by rw [gm_109]; decide) gr_109_6 lk45 dX1_last_44 ?_
        obtain ⟨P_47, HC_47, HW⟩ := HW
        refine g_callv (g_runV (As := [.int (h_36 109 6)]) (rest := []) ⟨hx, hb, hml, hown, hts⟩ (m_X0_times l D cy ad h_36 g_36 H.size 112 (gs_112) (h_36 109 6) P_47 HC_47) (cwV 1 hts (gd_V (wm4 62 rfl rfl) (wm4 63 rfl rfl) (wm4 64 rfl rfl) (wm1 11 rfl rfl) (wm4 65 rfl rfl)) rfl rfl rfl (by decide +kernel) ⟨Nat.le_of_ble_eq_true rfl, Nat.le_of_ble_eq_true rfl⟩) hK hNw hG gl_112 rfl gk_112 (by decide) rfl rfl hl.1 rfl (lv_room (Nat.le_of_ble_eq_true rfl)) dX1_last_47 ⟨Nat.zero_le _, Nat.zero_le _⟩) hG (fun h_47 g_47 H locs hq hG => ?_)
        replace HW := HW h_47 g_47 hq
        obtain ⟨x3_50, ex3_50⟩ : ∃ y : Int32, y = (x3 + 1) := ⟨_, rfl⟩
        replace HW := HW x3_50 ex3_50
        refine lv_iinc (v := x3_50) (lv' := [(3, .int x3_50), (0, .ref (ad 109)), (2, .int x2)]) hx hb dX1_last_50 hl (k := 2) rfl (by rw [ex3_50]; rfl) (by decide) rfl (fun ls hl => ?_)
        refine lv_goto (tgt := 23) hx hb dX1_last_53 (by decide) ?_
        exact hK23 x2 x3_50 h_47 g_47 _ _ _ HW hG (lv_sub hl [1, 2, 0] rfl)
  have E0 : ∀ (H : Heap) (locs : List Loc) (ls : Array Slot), gG D cy ad (gA ad s.heap.size) s.heap h g H locs → lv_has ls 4 [(0, .ref (ad 109)), (1, .int x1), (2, .int x2)] → W p l e ({ frames := 2, cells := 0, slots := 0, locals := 56 } : Room) s m args below meth c H locs 0 0 (MQ below (va_Qv (fun (u : HI × HL) => Q u.1 u.2) (gB D cy ad s.heap.size) (gA ad s.heap.size)) args s 0 0 (gA ad s.heap.size)) (F0 m 0 ls []) := by
    intro H locs ls hG hl
    unfold w_X1_last at HW
    refine lv_aload_n hx hb dX1_last_0 rfl (lv_at hl 0 rfl) ?_
    refine lv_iload_n hx hb dX1_last_1 rfl (lv_at hl 1 rfl) ?_
    obtain ⟨P_2, HC_2, HW⟩ := HW
    refine g_callv (g_runV (As := [.int x1]) (rest := []) ⟨hx, hb, hml, hown, hts⟩ (m_X1_chooseYear l D cy ad h g H.size x1 P_2 HC_2) (cwV 1 hts (gd_V (wm4 49 rfl rfl) (wm4 51 rfl rfl) (wmp2 (q := (yX1_chooseYear, 7)) 8 rfl) (wm1 10 rfl rfl) (wm4 52 rfl rfl)) rfl rfl rfl (by decide +kernel) ⟨Nat.le_of_ble_eq_true rfl, Nat.le_of_ble_eq_true rfl⟩) hK hNw hG gl_109 rfl gk_109 (by decide) rfl rfl hl.1 rfl (lv_room (Nat.le_of_ble_eq_true rfl)) dX1_last_2 ⟨Nat.zero_le _, Nat.zero_le _⟩) hG (fun h_2 g_2 H locs hq hG => ?_)
    replace HW := HW h_2 g_2 hq
    refine lv_aload_n hx hb dX1_last_5 rfl (lv_at hl 0 rfl) ?_
    refine g_getr hx hb hw inG1 hown hK hG gl_109 rfl gk_109 (by decide) 1 (by decide) (by rw [gm_109]; decide) (r := 110) gr_109_1 lk12 dX1_last_6 ?_
    refine lv_iconst (v := 1) hx hb dX1_last_9 (by decide) ?_
    obtain ⟨P_10, HC_10, HW⟩ := HW
    refine g_callv (g_runV (As := [.int (1 : Int32)]) (rest := []) ⟨hx, hb, hml, hown, hts⟩ (m_X0_set l D cy ad h_2 g_2 H.size 110 (gs_110) (1 : Int32) P_10 HC_10) (cwV 1 hts (gd_V (wm2 88 rfl rfl) (wm2 89 rfl rfl) (wm2 90 rfl rfl) (wm1 11 rfl rfl) (wm2 91 rfl rfl)) rfl rfl rfl (by decide +kernel) ⟨Nat.le_of_ble_eq_true rfl, Nat.le_of_ble_eq_true rfl⟩) hK hNw hG gl_110 rfl gk_110 (by decide) rfl rfl hl.1 rfl (lv_room (Nat.le_of_ble_eq_true rfl)) dX1_last_10 ⟨Nat.zero_le _, Nat.zero_le _⟩) hG (fun h_10 g_10 H locs hq hG => ?_)
    replace HW := HW h_10 g_10 hq
    refine lv_aload_n hx hb dX1_last_13 rfl (lv_at hl 0 rfl) ?_
    refine g_getr hx hb hw inG1 hown hK hG gl_109 rfl gk_109 (by decide) 2 (by decide) (by rw [gm_109]; decide) (r := 112) gr_109_2 lk18 dX1_last_14 ?_
    refine lv_iconst (v := 1) hx hb dX1_last_17 (by decide) ?_
    obtain ⟨P_18, HC_18, HW⟩ := HW
    refine g_callv (g_runV (As := [.int (1 : Int32)]) (rest := []) ⟨hx, hb, hml, hown, hts⟩ (m_X0_set l D cy ad h_10 g_10 H.size 112 (gs_112) (1 : Int32) P_18 HC_18) (cwV 1 hts (gd_V (wm2 88 rfl rfl) (wm2 89 rfl rfl) (wm2 90 rfl rfl) (wm1 11 rfl rfl) (wm2 91 rfl rfl)) rfl rfl rfl (by decide +kernel) ⟨Nat.le_of_ble_eq_true rfl, Nat.le_of_ble_eq_true rfl⟩) hK hNw hG gl_112 rfl gk_112 (by decide) rfl rfl hl.1 rfl (lv_room (Nat.le_of_ble_eq_true rfl)) dX1_last_18 ⟨Nat.zero_le _, Nat.zero_le _⟩) hG (fun h_18 g_18 H locs hq hG => ?_)
    replace HW := HW h_18 g_18 hq
    refine lv_iconst (v := 0) hx hb dX1_last_21 (by decide) ?_
    refine lv_istore_n (lv' := [(3, .int (0 : Int32)), (0, .ref (ad 109)), (1, .int x1), (2, .int x2)]) hx hb dX1_last_22 rfl hl (by decide) rfl (fun ls hl => ?_)
    obtain ⟨n_23, HW⟩ := HW
    exact L23 n_23 x2 (0 : Int32) h_18 g_18 _ _ _ HW hG (lv_sub hl [1, 3, 0] rfl)
  exact E0 _ _ _ hG hl
end
section
-- 03.w01
def b_X1_halved_23 (Q : Int32 → HI → HL → Prop) (K23 : Int32 → HI → HL → Prop) (x2 : Int32) (h : HI) (g : HL) : Prop :=
  (((200 : Int32) < x2 → Q (-1 : Int32) h g) ∧ (¬ (200 : Int32) < x2 → (∃ P_38 : HI → HL → Prop, w_X0_times 114 (h 109 5) h g P_38 ∧ ∀ (h_38 : HI) (g_38 : HL), P_38 h_38 g_38 → (∃ P_49 : HI → HL → Prop, w_X0_times 116 (h_38 109 6) h_38 g_38 P_49 ∧ ∀ (h_49 : HI) (g_49 : HL), P_49 h_49 g_49 → (∃ P_60 : Int32 → HI → HL → Prop, w_X0_above 114 116 h_49 g_49 P_60 ∧ ∀ (r_60 : Int32) (h_60 : HI) (g_60 : HL), zb r_60 → P_60 r_60 h_60 g_60 → ((¬ r_60 = 0 → (∀ x2_68 : Int32, x2_68 = (x2 + 1) → K23 x2_68 h_60 g_60)) ∧ (r_60 = 0 → Q x2 h_60 g_60)))))))
def F_X1_halved_23 (Q : Int32 → HI → HL → Prop) (K : Int32 × HI × HL → Prop) (q : Int32 × HI × HL) : Prop := b_X1_halved_23 Q (fun x2 h g => K (x2, h, g)) q.1 q.2.1 q.2.2
def w_X1_halved (x1 : Int32) (h : HI) (g : HL) (Q : Int32 → HI → HL → Prop) : Prop :=
  (∃ P_2 : HI → HL → Prop, w_X1_chooseYear x1 h g P_2 ∧ ∀ (h_2 : HI) (g_2 : HL), P_2 h_2 g_2 → (∃ P_10 : HI → HL → Prop, w_X0_set 114 (2 : Int32) h_2 g_2 P_10 ∧ ∀ (h_10 : HI) (g_10 : HL), P_10 h_10 g_10 → (∃ P_18 : HI → HL → Prop, w_X0_set 116 (1 : Int32) h_10 g_10 P_18 ∧ ∀ (h_18 : HI) (g_18 : HL), P_18 h_18 g_18 → lpE (F_X1_halved_23 Q) ((1 : Int32), h_18, g_18))))
set_option maxHeartbeats 8000000 in
set_option maxRecDepth 100000 in
theorem m_X1_halved (l : Launch) (D : va_G) (cy : Nat → ClassId) (ad : Nat → Nat) (h : HI) (g : HL) (sz : Nat) (x1 : Int32) (Q : Int32 → HI → HL → Prop) (HW : w_X1_halved x1 h g Q) : Met l yX1_halved (wa yX1_halved cX1_halved 3 (some .int)) ({ frames := 2, cells := 0, slots := 0, locals := 56 }) (va_Pc [.ref (ad 109), .int x1] (gI D cy ad h g sz)) (va_Qi (fun (r : Int32) (u : HI × HL) => Q r u.1 u.2) (gB D cy ad sz) (gA ad sz)) 0 0 (gA ad sz) := by
  refine Met.ofW (cc := cX1_halved) (maxL := 3) (ret := (some .int)) (by decide) rfl ?_
  intro p e s m args below meth c s₁ B hml hv
  obtain ⟨hav, hsz, hP, hK, hD0, hNw⟩ := hv
  have hx := B.exec
  have hb := B.bytes
  have hr := B.returns
  have hts := atoms_spec (ws := (wa yX1_halved cX1_halved 3 (some .int))) B.pre
  have hw := wa_hw hts
  have hown : s.vm.findClass RX1 = some m.cls := findClass_of_methodNamed B.named
  have hlocks := B.notSynchronized
  subst hsz
  have hG : gG D cy ad (gA ad s.heap.size) s.heap h g s.heap [] := ⟨hP, gA_self hD0, va_S.rf⟩
  clear hP hD0
  have lk21 := hw (.fieldLink RX1 21 "OldWorks$Breaks" "left" "LOldWorks$Big;") (wm2 95 rfl rfl)
  have lk24 := hw (.fieldLink RX1 24 "OldWorks$Breaks" "right" "LOldWorks$Big;") (wm2 96 rfl rfl)
  have lk38 := hw (.fieldLink RX1 38 "OldWorks$Breaks" "keeps" "I") (wm2 97 rfl rfl)
  have lk45 := hw (.fieldLink RX1 45 "OldWorks$Breaks" "outOf" "I") (wm2 98 rfl rfl)
  rw [show (headSpec (wa yX1_halved cX1_halved 3 (some .int)) ({ frames := 2, cells := 0, slots := 0, locals := 56 } : Room)).room = ({ frames := 2, cells := 0, slots := 0, locals := 56 } : Room) from rfl]
  have hl := lv_entry ([.ref (ad 109), .int x1]) (n := 3) (Nat.le_of_ble_eq_true rfl)
  rw [show entryFrame m args 3 = entryFrame m ([.ref (ad 109), .int x1] : List Value).toArray 3 from by rw [hav], lg_entry_eq]
  generalize (lg_sl ([.ref (ad 109), .int x1]) ++ List.replicate (3 - (lg_sl ([.ref (ad 109), .int x1])).length) Slot.unset).toArray = ls at hl ⊢
  have hl : lv_has ls 3 [(0, .ref (ad 109)), (1, .int x1)] := hl
  have L23 : ∀ (n : Nat) (x2 : Int32) (h : HI) (g : HL) (H : Heap) (locs : List Loc) (ls : Array Slot), lpN (F_X1_halved_23 Q) n (x2, h, g) → gG D cy ad (gA ad s.heap.size) s.heap h g H locs → lv_has ls 3 [(0, .ref (ad 109)), (2, .int x2)] → W p l e ({ frames := 2, cells := 0, slots := 0, locals := 56 } : Room) s m args below meth c H locs 0 0 (MQ below (va_Qi (fun (r : Int32) (u : HI × HL) => Q r u.1 u.2) (gB D cy ad s.heap.size) (gA ad s.heap.size)) args s 0 0 (gA ad s.heap.size)) (F0 m 23 ls []) := by
    intro n
    induction n with
    | zero => intro x2 h g H locs ls HW; exact HW.elim
    | succ n ih =>
      intro x2 h g H locs ls HW hG hl
      have HW : b_X1_halved_23 Q (fun x2 h g => lpN (F_X1_halved_23 Q) n (x2, h, g)) x2 h g := HW
      generalize hKe : (fun (x2 : Int32) (h : HI) (g : HL) => lpN (F_X1_halved_23 Q) n (x2, h, g)) = K23 at HW
      have hK23 : ∀ (x2 : Int32) (h : HI) (g : HL) (H : Heap) (locs : List Loc) (ls : Array Slot), K23 x2 h g → gG D cy ad (gA ad s.heap.size) s.heap h g H locs → lv_has ls 3 [(0, .ref (ad 109)), (2, .int x2)] → W p l e ({ frames := 2, cells := 0, slots := 0, locals := 56 } : Room) s m args below meth c H locs 0 0 (MQ below (va_Qi (fun (r : Int32) (u : HI × HL) => Q r u.1 u.2) (gB D cy ad s.heap.size) (gA ad s.heap.size)) args s 0 0 (gA ad s.heap.size)) (F0 m 23 ls []) := by subst hKe; exact ih
      clear ih
      clear hKe
      unfold b_X1_halved_23 at HW
      refine lv_iload_n hx hb dX1_halved_23 rfl (lv_at hl 1 rfl) ?_
      refine lv_sipush (v := 200) hx hb dX1_halved_24 (by decide) ?_
      refine lv_icmp_gt (tgt := 74) hx hb dX1_halved_27 (by decide) (fun c_27 => ?_) (fun c_27 => ?_)
      · replace HW := HW.1 c_27
        refine lv_iconst (v := (-1)) hx hb dX1_halved_74 (by decide) ?_
        exact W.iret (v := (-1 : Int32)) hx hb hr (fun t ht hW => ⟨⟨(-1 : Int32), (h, g), rfl, HW, g_B ht hG⟩, hG.2.2.F ht⟩) hG.2.2.2.2 dX1_halved_75
      · replace HW := HW.2 c_27
        refine lv_aload_n hx hb dX1_halved_30 rfl (lv_at hl 0 rfl) ?_
        refine g_getr hx hb hw inG1 hown hK hG gl_109 rfl gk_109 (by decide) 3 (by decide) (by rw [gm_109]; decide) (r := 114) gr_109_3 lk21 dX1_halved_31 ?_
        refine lv_aload_n hx hb dX1_halved_34 rfl (lv_at hl 0 rfl) ?_
        refine g_geti hx hb hw inG1 hown hK hG gl_109 rfl gk_109 (by decide) 5 (by decide) (by rw [gm_109]; decide) gr_109_5 lk38 dX1_halved_35 ?_
        obtain ⟨P_38, HC_38, HW⟩ := HW
        refine g_callv (g_runV (As := [.int (h 109 5)]) (rest := []) ⟨hx, hb, hml, hown, hts⟩ (m_X0_times l D cy ad h g H.size 114 (gs_114) (h 109 5) P_38 HC_38) (cwV 1 hts (gd_V (wm4 62 rfl rfl) (wm4 63 rfl rfl) (wm4 64 rfl rfl) (wm1 11 rfl rfl) (wm4 65 rfl rfl)) rfl rfl rfl (by decide +kernel) ⟨Nat.le_of_ble_eq_true rfl, Nat.le_of_ble_eq_true rfl⟩) hK hNw hG gl_114 rfl gk_114 (by decide) rfl rfl hl.1 rfl (lv_room (Nat.le_of_ble_eq_true rfl)) dX1_halved_38 ⟨Nat.zero_le _, Nat.zero_le _⟩) hG (fun h_38 g_38 H locs hq hG => ?_)
        replace HW := HW h_38 g_38 hq
        refine lv_aload_n hx hb dX1_halved_41 rfl (lv_at hl 0 rfl) ?_
        refine g_getr hx hb hw inG1 hown hK hG gl_109 rfl gk_109 (by decide) 4 (by decide) (by rw [gm_109]; decide) (r := 116) gr_109_4 lk24 dX1_halved_42 ?_
        refine lv_aload_n hx hb dX1_halved_45 rfl (lv_at hl 0 rfl) ?_
        refine g_geti hx hb hw inG1 hown hK hG gl_109 rfl gk_109 (by decide) 6 (by decide) (by rw [gm_109]; decide) gr_109_6 lk45 dX1_halved_46 ?_
        obtain ⟨P_49, HC_49, HW⟩ := HW
        refine g_callv (g_runV (As := [.int (h_38 109 6)]) (rest := []) ⟨hx, hb, hml, hown, hts⟩ (m_X0_times l D cy ad h_38 g_38 H.size 116 (gs_116) (h_38 109 6) P_49 HC_49) (cwV 1 hts (gd_V (wm4 62 rfl rfl) (wm4 63 rfl rfl) (wm4 64 rfl rfl) (wm1 11 rfl rfl) (wm4 65 rfl rfl)) rfl rfl rfl (by decide +kernel) ⟨Nat.le_of_ble_eq_true rfl, Nat.le_of_ble_eq_true rfl⟩) hK hNw hG gl_116 rfl gk_116 (by decide) rfl rfl hl.1 rfl (lv_room (Nat.le_of_ble_eq_true rfl)) dX1_halved_49 ⟨Nat.zero_le _, Nat.zero_le _⟩) hG (fun h_49 g_49 H locs hq hG => ?_)
        replace HW := HW h_49 g_49 hq
        refine lv_aload_n hx hb dX1_halved_52 rfl (lv_at hl 0 rfl) ?_
        refine g_getr hx hb hw inG1 hown hK hG gl_109 rfl gk_109 (by decide) 3 (by decide) (by rw [gm_109]; decide) (r := 114) gr_109_3 lk21 dX1_halved_53 ?_
        refine lv_aload_n hx hb dX1_halved_56 rfl (lv_at hl 0 rfl) ?_
        refine g_getr hx hb hw inG1 hown hK hG gl_109 rfl gk_109 (by decide) 4 (by decide) (by rw [gm_109]; decide) (r := 116) gr_109_4 lk24 dX1_halved_57 ?_
        obtain ⟨P_60, HC_60, HW⟩ := HW
        refine g_callz (g_runV (As := [.ref (ad 116)]) (rest := []) ⟨hx, hb, hml, hown, hts⟩ (m_X0_above l D cy ad h_49 g_49 H.size 114 (gs_114) 116 (gs_116) P_60 HC_60) (cwV 1 hts (gd_V (wm4 76 rfl rfl) (wm4 77 rfl rfl) (wm4 78 rfl rfl) (wm1 11 rfl rfl) (wm4 79 rfl rfl)) rfl rfl rfl (by decide +kernel) ⟨Nat.le_of_ble_eq_true rfl, Nat.le_of_ble_eq_true rfl⟩) hK hNw hG gl_114 rfl gk_114 (by decide) rfl rfl hl.1 rfl (lv_room (Nat.le_of_ble_eq_true rfl)) dX1_halved_60 ⟨Nat.zero_le _, Nat.zero_le _⟩) hG (fun r_60 h_60 g_60 H locs hz hq hG => ?_)
        replace HW := HW r_60 h_60 g_60 hz hq
        refine lv_if_ne (tgt := 68) hx hb dX1_halved_63 (by decide) (fun c_63 => ?_) (fun c_63 => ?_)
        · replace HW := HW.1 c_63
          obtain ⟨x2_68, ex2_68⟩ : ∃ y : Int32, y = (x2 + 1) := ⟨_, rfl⟩
          replace HW := HW x2_68 ex2_68
          refine lv_iinc (v := x2_68) (lv' := [(2, .int x2_68), (0, .ref (ad 109))]) hx hb dX1_halved_68 hl (k := 1) rfl (by rw [ex2_68]; rfl) (by decide) rfl (fun ls hl => ?_)
          refine lv_goto (tgt := 23) hx hb dX1_halved_71 (by decide) ?_
          exact hK23 x2_68 h_60 g_60 _ _ _ HW hG (lv_sub hl [1, 0] rfl)
        · replace HW := HW.2 c_63
          refine lv_iload_n hx hb dX1_halved_66 rfl (lv_at hl 1 rfl) ?_
          exact W.iret (v := x2) hx hb hr (fun t ht hW => ⟨⟨x2, (h_60, g_60), rfl, HW, g_B ht hG⟩, hG.2.2.F ht⟩) hG.2.2.2.2 dX1_halved_67
  have E0 : ∀ (H : Heap) (locs : List Loc) (ls : Array Slot), gG D cy ad (gA ad s.heap.size) s.heap h g H locs → lv_has ls 3 [(0, .ref (ad 109)), (1, .int x1)] → W p l e ({ frames := 2, cells := 0, slots := 0, locals := 56 } : Room) s m args below meth c H locs 0 0 (MQ below (va_Qi (fun (r : Int32) (u : HI × HL) => Q r u.1 u.2) (gB D cy ad s.heap.size) (gA ad s.heap.size)) args s 0 0 (gA ad s.heap.size)) (F0 m 0 ls []) := by
    intro H locs ls hG hl
    unfold w_X1_halved at HW
    refine lv_aload_n hx hb dX1_halved_0 rfl (lv_at hl 0 rfl) ?_
    refine lv_iload_n hx hb dX1_halved_1 rfl (lv_at hl 1 rfl) ?_
    obtain ⟨P_2, HC_2, HW⟩ := HW
    refine g_callv (g_runV (As := [.int x1]) (rest := []) ⟨hx, hb, hml, hown, hts⟩ (m_X1_chooseYear l D cy ad h g H.size x1 P_2 HC_2) (cwV 1 hts (gd_V (wm4 49 rfl rfl) (wm4 51 rfl rfl) (wmp2 (q := (yX1_chooseYear, 7)) 8 rfl) (wm1 10 rfl rfl) (wm4 52 rfl rfl)) rfl rfl rfl (by decide +kernel) ⟨Nat.le_of_ble_eq_true rfl, Nat.le_of_ble_eq_true rfl⟩) hK hNw hG gl_109 rfl gk_109 (by decide) rfl rfl hl.1 rfl (lv_room (Nat.le_of_ble_eq_true rfl)) dX1_halved_2 ⟨Nat.zero_le _, Nat.zero_le _⟩) hG (fun h_2 g_2 H locs hq hG => ?_)
    replace HW := HW h_2 g_2 hq
    refine lv_aload_n hx hb dX1_halved_5 rfl (lv_at hl 0 rfl) ?_
    refine g_getr hx hb hw inG1 hown hK hG gl_109 rfl gk_109 (by decide) 3 (by decide) (by rw [gm_109]; decide) (r := 114) gr_109_3 lk21 dX1_halved_6 ?_
    refine lv_iconst (v := 2) hx hb dX1_halved_9 (by decide) ?_
    obtain ⟨P_10, HC_10, HW⟩ := HW
    refine g_callv (g_runV (As := [.int (2 : Int32)]) (rest := []) ⟨hx, hb, hml, hown, hts⟩ (m_X0_set l D cy ad h_2 g_2 H.size 114 (gs_114) (2 : Int32) P_10 HC_10) (cwV 1 hts (gd_V (wm2 88 rfl rfl) (wm2 89 rfl rfl) (wm2 90 rfl rfl) (wm1 11 rfl rfl) (wm2 91 rfl rfl)) rfl rfl rfl (by decide +kernel) ⟨Nat.le_of_ble_eq_true rfl, Nat.le_of_ble_eq_true rfl⟩) hK hNw hG gl_114 rfl gk_114 (by decide) rfl rfl hl.1 rfl (lv_room (Nat.le_of_ble_eq_true rfl)) dX1_halved_10 ⟨Nat.zero_le _, Nat.zero_le _⟩) hG (fun h_10 g_10 H locs hq hG => ?_)
    replace HW := HW h_10 g_10 hq
    refine lv_aload_n hx hb dX1_halved_13 rfl (lv_at hl 0 rfl) ?_
    refine g_getr hx hb hw inG1 hown hK hG gl_109 rfl gk_109 (by decide) 4 (by decide) (by rw [gm_109]; decide) (r := 116) gr_109_4 lk24 dX1_halved_14 ?_
    refine lv_iconst (v := 1) hx hb dX1_halved_17 (by decide) ?_
    obtain ⟨P_18, HC_18, HW⟩ := HW
    refine g_callv (g_runV (As := [.int (1 : Int32)]) (rest := []) ⟨hx, hb, hml, hown, hts⟩ (m_X0_set l D cy ad h_10 g_10 H.size 116 (gs_116) (1 : Int32) P_18 HC_18) (cwV 1 hts (gd_V (wm2 88 rfl rfl) (wm2 89 rfl rfl) (wm2 90 rfl rfl) (wm1 11 rfl rfl) (wm2 91 rfl rfl)) rfl rfl rfl (by decide +kernel) ⟨Nat.le_of_ble_eq_true rfl, Nat.le_of_ble_eq_true rfl⟩) hK hNw hG gl_116 rfl gk_116 (by decide) rfl rfl hl.1 rfl (lv_room (Nat.le_of_ble_eq_true rfl)) dX1_halved_18 ⟨Nat.zero_le _, Nat.zero_le _⟩) hG (fun h_18 g_18 H locs hq hG => ?_)
    replace HW := HW h_18 g_18 hq
    refine lv_iconst (v := 1) hx hb dX1_halved_21 (by decide) ?_
    refine lv_istore_n (lv' := [(2, .int (1 : Int32)), (0, .ref (ad 109)), (1, .int x1)]) hx hb dX1_halved_22 rfl hl (by decide) rfl (fun ls hl => ?_)
    obtain ⟨n_23, HW⟩ := HW
    exact L23 n_23 (1 : Int32) h_18 g_18 _ _ _ HW hG (lv_sub hl [1, 0] rfl)
  exact E0 _ _ _ hG hl

def w_X8_rows (o : Nat) (h : HI) (g : HL) (Q : Int32 → HI → HL → Prop) : Prop :=
  Q (h o 3) h g
set_option maxHeartbeats 8000000 in
set_option maxRecDepth 100000 in
theorem m_X8_rows (l : Launch) (D : va_G) (cy : Nat → ClassId) (ad : Nat → Nat) (h : HI) (g : HL) (sz : Nat) (o : Nat) (hT : isT o) (Q : Int32 → HI → HL → Prop) (HW : w_X8_rows o h g Q) : Met l yX8_rows (wa yX8_rows cX8_rows 1 (some .int)) ({ frames := 0, cells := 0, slots := 0, locals := 0 }) (va_Pc [.ref (ad o)] (gI D cy ad h g sz)) (va_Qi (fun (r : Int32) (u : HI × HL) => Q r u.1 u.2) (gB D cy ad sz) (gA ad sz)) 0 0 (gA ad sz) := by
  refine Met.ofW (cc := cX8_rows) (maxL := 1) (ret := (some .int)) (by decide) rfl ?_
  intro p e s m args below meth c s₁ B hml hv
  obtain ⟨hav, hsz, hP, hK, hD0, hNw⟩ := hv
  have hx := B.exec
  have hb := B.bytes
  have hr := B.returns
  have hts := atoms_spec (ws := (wa yX8_rows cX8_rows 1 (some .int))) B.pre
  have hw := wa_hw hts
  have hown : s.vm.findClass RX8 = some m.cls := findClass_of_methodNamed B.named
  have hlocks := B.notSynchronized
  subst hsz
  have hG : gG D cy ad (gA ad s.heap.size) s.heap h g s.heap [] := ⟨hP, gA_self hD0, va_S.rf⟩
  clear hP hD0
  have lk22 := hw (.fieldLink RX8 22 "OldWorks$Table" "many" "I") (wm1 40 rfl rfl)
  rw [show (headSpec (wa yX8_rows cX8_rows 1 (some .int)) ({ frames := 0, cells := 0, slots := 0, locals := 0 } : Room)).room = ({ frames := 0, cells := 0, slots := 0, locals := 0 } : Room) from rfl]
  have hl := lv_entry ([.ref (ad o)]) (n := 1) (Nat.le_of_ble_eq_true rfl)
  rw [show entryFrame m args 1 = entryFrame m ([.ref (ad o)] : List Value).toArray 1 from by rw [hav], lg_entry_eq]
  generalize (lg_sl ([.ref (ad o)]) ++ List.replicate (1 - (lg_sl ([.ref (ad o)])).length) Slot.unset).toArray = ls at hl ⊢
  have hl : lv_has ls 1 [(0, .ref (ad o))] := hl
  have E0 : ∀ (H : Heap) (locs : List Loc) (ls : Array Slot), gG D cy ad (gA ad s.heap.size) s.heap h g H locs → lv_has ls 1 [(0, .ref (ad o))] → W p l e ({ frames := 0, cells := 0, slots := 0, locals := 0 } : Room) s m args below meth c H locs 0 0 (MQ below (va_Qi (fun (r : Int32) (u : HI × HL) => Q r u.1 u.2) (gB D cy ad s.heap.size) (gA ad s.heap.size)) args s 0 0 (gA ad s.heap.size)) (F0 m 0 ls []) := by
    intro H locs ls hG hl
    unfold w_X8_rows at HW
    refine lv_aload_n hx hb dX8_rows_0 rfl (lv_at hl 0 rfl) ?_
    refine g_geti hx hb hw inG8 hown hK hG hT.lt rfl hT.k (by decide) 3 (by decide) (by rw [hT.m]; decide) hT.r.2.2.2 lk22 dX8_rows_1 ?_
    exact W.iret (v := (h o 3)) hx hb hr (fun t ht hW => ⟨⟨(h o 3), (h, g), rfl, HW, g_B ht hG⟩, hG.2.2.F ht⟩) hG.2.2.2.2 dX8_rows_4
  exact E0 _ _ _ hG hl

def j_X1_weigh_109 (Q : Int32 → HI → HL → Prop) (K13 : Int32 → Int32 → Int32 → Int32 → HI → HL → Prop) (x1 : Int32) (x2 : Int32) (x3 : Int32) (x4 : Int32) (h : HI) (g : HL) : Prop :=
  (∀ x4_109 : Int32, x4_109 = (x4 + 1) → K13 x1 x2 x3 x4_109 h g)
def j_X1_weigh_91 (Q : Int32 → HI → HL → Prop) (K13 : Int32 → Int32 → Int32 → Int32 → HI → HL → Prop) (x1 : Int32) (x2 : Int32) (x4 : Int32) (s0 : Int32) (s1 : Int32) (h : HI) (g : HL) : Prop :=
  (∀ x3_92 : Int32, x3_92 = (s0 * s1) → ((x3_92 < (1073741 : Int32) → j_X1_weigh_109 Q K13 x1 x2 x3_92 x4 h g) ∧ (¬ x3_92 < (1073741 : Int32) → (∃ P_104 : HI → HL → Prop, w_X0_times 114 x3_92 h g P_104 ∧ ∀ (h_104 : HI) (g_104 : HL), P_104 h_104 g_104 → j_X1_weigh_109 Q K13 x1 x2 (1 : Int32) x4 h_104 g_104))))
def b_X1_weigh_13 (Q : Int32 → HI → HL → Prop) (K13 : Int32 → Int32 → Int32 → Int32 → HI → HL → Prop) (x1 : Int32) (x2 : Int32) (x3 : Int32) (x4 : Int32) (h : HI) (g : HL) : Prop :=
  (∃ P_22 : Int32 → HI → HL → Prop, w_X8_rows 18 h g P_22 ∧ ∀ (r_22 : Int32) (h_22 : HI) (g_22 : HL), P_22 r_22 h_22 g_22 → ((r_22 ≤ x4 → (∃ P_120 : HI → HL → Prop, w_X0_times 114 x3 h_22 g_22 P_120 ∧ ∀ (h_120 : HI) (g_120 : HL), P_120 h_120 g_120 → Q (1 : Int32) h_120 g_120)) ∧ (¬ r_22 ≤ x4 → (∃ P_40 : Int32 → HI → HL → Prop, w_X8_at 18 x4 (0 : Int32) h_22 g_22 P_40 ∧ ∀ (r_40 : Int32) (h_40 : HI) (g_40 : HL), P_40 r_40 h_40 g_40 → (∃ P_43 : Int32 → HI → HL → Prop, w_X1_oddsOf x1 x2 r_40 h_40 g_40 P_43 ∧ ∀ (r_43 : Int32) (h_43 : HI) (g_43 : HL), P_43 r_43 h_43 g_43 → (∃ P_54 : Int32 → HI → HL → Prop, w_X10_within r_43 (1 : Int32) (999 : Int32) h_43 g_43 P_54 ∧ ∀ (r_54 : Int32) (h_54 : HI) (g_54 : HL), zb r_54 → P_54 r_54 h_54 g_54 → ((¬ r_54 = 0 → (∃ P_73 : Int32 → HI → HL → Prop, w_X8_at 18 x4 (1 : Int32) h_54 g_54 P_73 ∧ ∀ (r_73 : Int32) (h_73 : HI) (g_73 : HL), P_73 r_73 h_73 g_73 → ((¬ r_73 = (1 : Int32) → j_X1_weigh_91 Q K13 x1 x2 x4 x3 ((1000 : Int32) - r_43) h_73 g_73) ∧ (r_73 = (1 : Int32) → j_X1_weigh_91 Q K13 x1 x2 x4 x3 r_43 h_73 g_73)))) ∧ (r_54 = 0 → Q (0 : Int32) h_54 g_54))))))))
def F_X1_weigh_13 (Q : Int32 → HI → HL → Prop) (K : Int32 × Int32 × Int32 × Int32 × HI × HL → Prop) (q : Int32 × Int32 × Int32 × Int32 × HI × HL) : Prop := b_X1_weigh_13 Q (fun x1 x2 x3 x4 h g => K (x1, x2, x3, x4, h, g)) q.1 q.2.1 q.2.2.1 q.2.2.2.1 q.2.2.2.2.1 q.2.2.2.2.2
def w_X1_weigh (x1 : Int32) (x2 : Int32) (h : HI) (g : HL) (Q : Int32 → HI → HL → Prop) : Prop :=
  (∃ P_5 : HI → HL → Prop, w_X0_set 114 (1 : Int32) h g P_5 ∧ ∀ (h_5 : HI) (g_5 : HL), P_5 h_5 g_5 → lpE (F_X1_weigh_13 Q) (x1, x2, (1 : Int32), (0 : Int32), h_5, g_5))
set_option maxHeartbeats 8000000 in
set_option maxRecDepth 100000 in
theorem m_X1_weigh (l : Launch) (D : va_G) (cy : Nat → ClassId) (ad : Nat → Nat) (h : HI) (g : HL) (sz : Nat) (x1 : Int32) (x2 : Int32) (Q : Int32 → HI → HL → Prop) (HW : w_X1_weigh x1 x2 h g Q) : Met l yX1_weigh (wa yX1_weigh cX1_weigh 6 (some .boolean)) ({ frames := 2, cells := 0, slots := 0, locals := 46 }) (va_Pc [.ref (ad 109), .int x1, .int x2] (gI D cy ad h g sz)) (va_Qi (fun (r : Int32) (u : HI × HL) => zb r ∧ Q r u.1 u.2) (gB D cy ad sz) (gA ad sz)) 0 0 (gA ad sz) := by
  refine Met.ofW (cc := cX1_weigh) (maxL := 6) (ret := (some .boolean)) (by decide) rfl ?_
  intro p e s m args below meth c s₁ B hml hv
  obtain ⟨hav, hsz, hP, hK, hD0, hNw⟩ := hv
  have hx := B.exec
  have hb := B.bytes
  have hr := B.returns
  have hts := atoms_spec (ws := (wa yX1_weigh cX1_weigh 6 (some .boolean))) B.pre
  have hw := wa_hw hts
  have hown : s.vm.findClass RX1 = some m.cls := findClass_of_methodNamed B.named
  have hlocks := B.notSynchronized
  subst hsz
  have hG : gG D cy ad (gA ad s.heap.size) s.heap h g s.heap [] := ⟨hP, gA_self hD0, va_S.rf⟩
  clear hP hD0
  have lk21 := hw (.fieldLink RX1 21 "OldWorks$Breaks" "left" "LOldWorks$Big;") (wm2 95 rfl rfl)
  have lk27 := hw (.fieldLink RX1 27 "OldWorks$Breaks" "shop" "LOldWorks$Shop;") (wm2 92 rfl rfl)
  have lk86 := hw (.fieldLink RX1 86 "OldWorks$Shop" "loads" "LOldWorks$Table;") (wm1 87 rfl rfl)
  have cn97 := hw (.constant RX1 97 (1073741)) (wm4 118 rfl rfl)
  rw [show (headSpec (wa yX1_weigh cX1_weigh 6 (some .boolean)) ({ frames := 2, cells := 0, slots := 0, locals := 46 } : Room)).room = ({ frames := 2, cells := 0, slots := 0, locals := 46 } : Room) from rfl]
  have hl := lv_entry ([.ref (ad 109), .int x1, .int x2]) (n := 6) (Nat.le_of_ble_eq_true rfl)
  rw [show entryFrame m args 6 = entryFrame m ([.ref (ad 109), .int x1, .int x2] : List Value).toArray 6 from by rw [hav], lg_entry_eq]
  generalize (lg_sl ([.ref (ad 109), .int x1, .int x2]) ++ List.replicate (6 - (lg_sl ([.ref (ad 109), .int x1, .int x2])).length) Slot.unset).toArray = ls at hl ⊢
  have hl : lv_has ls 6 [(0, .ref (ad 109)), (1, .int x1), (2, .int x2)] := hl
  have B109 : ∀ (K13 : Int32 → Int32 → Int32 → Int32 → HI → HL → Prop) (hK13 : ∀ (x1 : Int32) (x2 : Int32) (x3 : Int32) (x4 : Int32) (h : HI) (g : HL) (H : Heap) (locs : List Loc) (ls : Array Slot), K13 x1 x2 x3 x4 h g → gG D cy ad (gA ad s.heap.size) s.heap h g H locs → lv_has ls 6 [(0, .ref (ad 109)), (1, .int x1), (2, .int x2), (3, .int x3), (4, .int x4)] → W p l e ({ frames := 2, cells := 0, slots := 0, locals := 46 } : Room) s m args below meth c H locs 0 0 (MQ below (va_Qi (fun (r : Int32) (u : HI × HL) => zb r ∧ Q r u.1 u.2) (gB D cy ad s.heap.size) (gA ad s.heap.size)) args s 0 0 (gA ad s.heap.size)) (F0 m 13 ls [])) (x1 : Int32) (x2 : Int32) (x3 : Int32) (x4 : Int32) (h : HI) (g : HL) (H : Heap) (locs : List Loc) (ls : Array Slot), j_X1_weigh_109 Q K13 x1 x2 x3 x4 h g → gG D cy ad (gA ad s.heap.size) s.heap h g H locs → lv_has ls 6 [(0, .ref (ad 109)), (1, .int x1), (2, .int x2), (3, .int x3), (4, .int x4)] → W p l e ({ frames := 2, cells := 0, slots := 0, locals := 46 } : Room) s m args below meth c H locs 0 0 (MQ below (va_Qi (fun (r : Int32) (u : HI × HL) => zb r ∧ Q r u.1 u.2) (gB D cy ad s.heap.size) (gA ad s.heap.size)) args s 0 0 (gA ad s.heap.size)) (F0 m 109 ls []) := by
    intro K13 hK13 x1 x2 x3 x4 h g H locs ls HW hG hl
    unfold j_X1_weigh_109 at HW
    obtain ⟨x4_109, ex4_109⟩ : ∃ y : Int32, y = (x4 + 1) := ⟨_, rfl⟩
    replace HW := HW x4_109 ex4_109
    refine lv_iinc (v := x4_109) (lv' := [(4, .int x4_109), (0, .ref (ad 109)), (1, .int x1), (2, .int x2), (3, .int x3)]) hx hb dX1_weigh_109 hl (k := 4) rfl (by rw [ex4_109]; rfl) (by decide) rfl (fun ls hl => ?_)
    refine lv_goto (tgt := 13) hx hb dX1_weigh_112 (by decide) ?_
    exact hK13 x1 x2 x3 x4_109 h g _ _ _ HW hG (lv_sub hl [1, 2, 3, 4, 0] rfl)
  have B91 : ∀ (K13 : Int32 → Int32 → Int32 → Int32 → HI → HL → Prop) (hK13 : ∀ (x1 : Int32) (x2 : Int32) (x3 : Int32) (x4 : Int32) (h : HI) (g : HL) (H : Heap) (locs : List Loc) (ls : Array Slot), K13 x1 x2 x3 x4 h g → gG D cy ad (gA ad s.heap.size) s.heap h g H locs → lv_has ls 6 [(0, .ref (ad 109)), (1, .int x1), (2, .int x2), (3, .int x3), (4, .int x4)] → W p l e ({ frames := 2, cells := 0, slots := 0, locals := 46 } : Room) s m args below meth c H locs 0 0 (MQ below (va_Qi (fun (r : Int32) (u : HI × HL) => zb r ∧ Q r u.1 u.2) (gB D cy ad s.heap.size) (gA ad s.heap.size)) args s 0 0 (gA ad s.heap.size)) (F0 m 13 ls [])) (x1 : Int32) (x2 : Int32) (x4 : Int32) (s0 : Int32) (s1 : Int32) (h : HI) (g : HL) (H : Heap) (locs : List Loc) (ls : Array Slot), j_X1_weigh_91 Q K13 x1 x2 x4 s0 s1 h g → gG D cy ad (gA ad s.heap.size) s.heap h g H locs → lv_has ls 6 [(0, .ref (ad 109)), (1, .int x1), (2, .int x2), (4, .int x4)] → W p l e ({ frames := 2, cells := 0, slots := 0, locals := 46 } : Room) s m args below meth c H locs 0 0 (MQ below (va_Qi (fun (r : Int32) (u : HI × HL) => zb r ∧ Q r u.1 u.2) (gB D cy ad s.heap.size) (gA ad s.heap.size)) args s 0 0 (gA ad s.heap.size)) (F0 m 91 ls [.int s1, .int s0]) := by
    intro K13 hK13 x1 x2 x4 s0 s1 h g H locs ls HW hG hl
    unfold j_X1_weigh_91 at HW
    refine lv_imul hx hb dX1_weigh_91 ?_
    refine lv_topi (fun x3_92 ex3_92 => ?_)
    replace HW := HW x3_92 ex3_92
    refine lv_istore_n (lv' := [(3, .int x3_92), (0, .ref (ad 109)), (1, .int x1), (2, .int x2), (4, .int x4)]) hx hb dX1_weigh_92 rfl hl (by decide) rfl (fun ls hl => ?_)
    refine lv_iload_n hx hb dX1_weigh_93 rfl (lv_at hl 0 rfl) ?_
    refine lv_ldc (v := 1073741) hx hb hown cn97 dX1_weigh_94 ?_
    refine lv_icmp_lt (tgt := 109) hx hb dX1_weigh_96 (by decide) (fun c_96 => ?_) (fun c_96 => ?_)
    · replace HW := HW.1 c_96
      exact B109 K13 hK13 x1 x2 x3_92 x4 h g _ _ _ HW hG (lv_sub hl [1, 2, 3, 0, 4] rfl)
    · replace HW := HW.2 c_96
      refine lv_aload_n hx hb dX1_weigh_99 rfl (lv_at hl 1 rfl) ?_
      refine g_getr hx hb hw inG1 hown hK hG gl_109 rfl gk_109 (by decide) 3 (by decide) (by rw [gm_109]; decide) (r := 114) gr_109_3 lk21 dX1_weigh_100 ?_
      refine lv_iload_n hx hb dX1_weigh_103 rfl (lv_at hl 0 rfl) ?_
      obtain ⟨P_104, HC_104, HW⟩ := HW
      refine g_callv (g_runV (As := [.int x3_92]) (rest := []) ⟨hx, hb, hml, hown, hts⟩ (m_X0_times l D cy ad h g H.size 114 (gs_114) x3_92 P_104 HC_104) (cwV 1 hts (gd_V (wm4 62 rfl rfl) (wm4 63 rfl rfl) (wm4 64 rfl rfl) (wm1 11 rfl rfl) (wm4 65 rfl rfl)) rfl rfl rfl (by decide +kernel) ⟨Nat.le_of_ble_eq_true rfl, Nat.le_of_ble_eq_true rfl⟩) hK hNw hG gl_114 rfl gk_114 (by decide) rfl rfl hl.1 rfl (lv_room (Nat.le_of_ble_eq_true rfl)) dX1_weigh_104 ⟨Nat.zero_le _, Nat.zero_le _⟩) hG (fun h_104 g_104 H locs hq hG => ?_)
      replace HW := HW h_104 g_104 hq
      refine lv_iconst (v := 1) hx hb dX1_weigh_107 (by decide) ?_
      refine lv_istore_n (lv' := [(3, .int (1 : Int32)), (0, .ref (ad 109)), (1, .int x1), (2, .int x2), (4, .int x4)]) hx hb dX1_weigh_108 rfl hl (by decide) rfl (fun ls hl => ?_)
      exact B109 K13 hK13 x1 x2 (1 : Int32) x4 h_104 g_104 _ _ _ HW hG (lv_sub hl [1, 2, 3, 0, 4] rfl)
  have L13 : ∀ (n : Nat) (x1 : Int32) (x2 : Int32) (x3 : Int32) (x4 : Int32) (h : HI) (g : HL) (H : Heap) (locs : List Loc) (ls : Array Slot), lpN (F_X1_weigh_13 Q) n (x1, x2, x3, x4, h, g) → gG D cy ad (gA ad s.heap.size) s.heap h g H locs → lv_has ls 6 [(0, .ref (ad 109)), (1, .int x1), (2, .int x2), (3, .int x3), (4, .int x4)] → W p l e ({ frames := 2, cells := 0, slots := 0, locals := 46 } : Room) s m args below meth c H locs 0 0 (MQ below (va_Qi (fun (r : Int32) (u : HI × HL) => zb r ∧ Q r u.1 u.2) (gB D cy ad s.heap.size) (gA ad s.heap.size)) args s 0 0 (gA ad s.heap.size)) (F0 m 13 ls []) := by
    intro n
    induction n with
    | zero => intro x1 x2 x3 x4 h g H locs ls HW; exact HW.elim
    | succ n ih =>
      intro x1 x2 x3 x4 h g H locs ls HW hG hl
      have HW : b_X1_weigh_13 Q (fun x1 x2 x3 x4 h g => lpN (F_X1_weigh_13 Q) n (x1, x2, x3, x4, h, g)) x1 x2 x3 x4 h g := HW
      generalize hKe : (fun (x1 : Int32) (x2 : Int32) (x3 : Int32) (x4 : Int32) (h : HI) (g : HL) => lpN (F_X1_weigh_13 Q) n (x1, x2, x3, x4, h, g)) = K13 at HW
      have hK13 : ∀ (x1 : Int32) (x2 : Int32) (x3 : Int32) (x4 : Int32) (h : HI) (g : HL) (H : Heap) (locs : List Loc) (ls : Array Slot), K13 x1 x2 x3 x4 h g → gG D cy ad (gA ad s.heap.size) s.heap h g H locs → lv_has ls 6 [(0, .ref (ad 109)), (1, .int x1), (2, .int x2), (3, .int x3), (4, .int x4)] → W p l e ({ frames := 2, cells := 0, slots := 0, locals := 46 } : Room) s m args below meth c H locs 0 0 (MQ below (va_Qi (fun (r : Int32) (u : HI × HL) => zb r ∧ Q r u.1 u.2) (gB D cy ad s.heap.size) (gA ad s.heap.size)) args s 0 0 (gA ad s.heap.size)) (F0 m 13 ls []) := by subst hKe; exact ih
      clear ih
      clear hKe
      unfold b_X1_weigh_13 at HW
      refine lv_iload hx hb dX1_weigh_13 (lv_at hl 4 rfl) ?_
      refine lv_aload_n hx hb dX1_weigh_15 rfl (lv_at hl 0 rfl) ?_
      refine g_getr hx hb hw inG1 hown hK hG gl_109 rfl gk_109 (by decide) 0 (by decide) (by rw [gm_109]; decide) (r := 1) gr_109_0 lk27 dX1_weigh_16 ?_
      refine g_getr hx hb hw inG6 hown hK hG gl_1 rfl gk_1 (by decide) 8 (by decide) (by rw [gm_1]; decide) (r := 18) gr_1_8 lk86 dX1_weigh_19 ?_
      obtain ⟨P_22, HC_22, HW⟩ := HW
      refine g_calli (g_runV (As := []) (rest := [.int x4]) ⟨hx, hb, hml, hown, hts⟩ (m_X8_rows l D cy ad h g H.size 18 (gs_18) P_22 HC_22) (cwV 0 hts (gd_V (wm4 116 rfl rfl) (wm2 217 rfl rfl) (wm2 218 rfl rfl) (wm1 3 rfl rfl) (wm2 219 rfl rfl)) rfl rfl rfl (by decide +kernel) ⟨Nat.le_of_ble_eq_true rfl, Nat.le_of_ble_eq_true rfl⟩) hK hNw hG gl_18 rfl gk_18 (by decide) rfl rfl hl.1 rfl (lv_room (Nat.le_of_ble_eq_true rfl)) dX1_weigh_22 ⟨Nat.zero_le _, Nat.zero_le _⟩) hG (fun r_22 h_22 g_22 H locs hq hG => ?_)
      replace HW := HW r_22 h_22 g_22 hq
      refine lv_icmp_ge (tgt := 115) hx hb dX1_weigh_25 (by decide) (fun c_25 => ?_) (fun c_25 => ?_)
      · replace HW := HW.1 c_25
        refine lv_aload_n hx hb dX1_weigh_115 rfl (lv_at hl 0 rfl) ?_
        refine g_getr hx hb hw inG1 hown hK hG gl_109 rfl gk_109 (by decide) 3 (by decide) (by rw [gm_109]; decide) (r := 114) gr_109_3 lk21 dX1_weigh_116 ?_
        refine lv_iload_n hx hb dX1_weigh_119 rfl (lv_at hl 3 rfl) ?_
        obtain ⟨P_120, HC_120, HW⟩ := HW
        refine g_callv (g_runV (As := [.int x3]) (rest := []) ⟨hx, hb, hml, hown, hts⟩ (m_X0_times l D cy ad h_22 g_22 H.size 114 (gs_114) x3 P_120 HC_120) (cwV 1 hts (gd_V (wm4 62 rfl rfl) (wm4 63 rfl rfl) (wm4 64 rfl rfl) (wm1 11 rfl rfl) (wm4 65 rfl rfl)) rfl rfl rfl (by decide +kernel) ⟨Nat.le_of_ble_eq_true rfl, Nat.le_of_ble_eq_true rfl⟩) hK hNw hG gl_114 rfl gk_114 (by decide) rfl rfl hl.1 rfl (lv_room (Nat.le_of_ble_eq_true rfl)) dX1_weigh_120 ⟨Nat.zero_le _, Nat.zero_le _⟩) hG (fun h_120 g_120 H locs hq hG => ?_)
        replace HW := HW h_120 g_120 hq
        refine lv_iconst (v := 1) hx hb dX1_weigh_123 (by decide) ?_
        exact W.zret (v := (1 : Int32)) hx hb hr rfl (fun t ht hW => ⟨⟨(1 : Int32), (h_120, g_120), rfl, ⟨Or.inr rfl, HW⟩, g_B ht hG⟩, hG.2.2.F ht⟩) hG.2.2.2.2 dX1_weigh_124
      · replace HW := HW.2 c_25
        refine lv_iload_n hx hb dX1_weigh_28 rfl (lv_at hl 1 rfl) ?_
        refine lv_iload_n hx hb dX1_weigh_29 rfl (lv_at hl 2 rfl) ?_
        refine lv_aload_n hx hb dX1_weigh_30 rfl (lv_at hl 0 rfl) ?_
        refine g_getr hx hb hw inG1 hown hK hG gl_109 rfl gk_109 (by decide) 0 (by decide) (by rw [gm_109]; decide) (r := 1) gr_109_0 lk27 dX1_weigh_31 ?_
        refine g_getr hx hb hw inG6 hown hK hG gl_1 rfl gk_1 (by decide) 8 (by decide) (by rw [gm_1]; decide) (r := 18) gr_1_8 lk86 dX1_weigh_34 ?_
        refine lv_iload hx hb dX1_weigh_37 (lv_at hl 4 rfl) ?_
        refine lv_iconst (v := 0) hx hb dX1_weigh_39 (by decide) ?_
        obtain ⟨P_40, HC_40, HW⟩ := HW
        refine g_calli (g_runV (As := [.int x4, .int (0 : Int32)]) (rest := [.int x2, .int x1]) ⟨hx, hb, hml, hown, hts⟩ (m_X8_at l D cy ad h_22 g_22 H.size 18 (gs_18) x4 (0 : Int32) P_40 HC_40) (cwV 2 hts (gd_V (wm4 53 rfl rfl) (wm2 221 rfl rfl) (wm2 222 rfl rfl) (wm1 3 rfl rfl) (wm2 223 rfl rfl)) rfl rfl rfl (by decide +kernel) ⟨Nat.le_of_ble_eq_true rfl, Nat.le_of_ble_eq_true rfl⟩) hK hNw hG gl_18 rfl gk_18 (by decide) rfl rfl hl.1 rfl (lv_room (Nat.le_of_ble_eq_true rfl)) dX1_weigh_40 ⟨Nat.zero_le _, Nat.zero_le _⟩) hG (fun r_40 h_40 g_40 H locs hq hG => ?_)
        replace HW := HW r_40 h_40 g_40 hq
        obtain ⟨P_43, HC_43, HW⟩ := HW
        refine g_calli (g_runS (As := [.int x1, .int x2, .int r_40]) (rest := []) ⟨hx, hb, hml, hown, hts⟩ (m_X1_oddsOf l D cy ad h_40 g_40 H.size x1 x2 r_40 P_43 HC_43) (va_cwS 3 hts (gd_S (wm4 54 rfl rfl) (wm4 55 rfl rfl) (wm1 10 rfl rfl) (wm4 56 rfl rfl)) rfl rfl rfl (by decide +kernel) ⟨Nat.le_of_ble_eq_true rfl, Nat.le_of_ble_eq_true rfl⟩) hK hNw hG rfl rfl hl.1 rfl (lv_room (Nat.le_of_ble_eq_true rfl)) dX1_weigh_43 ⟨Nat.zero_le _, Nat.zero_le _⟩) hG (fun r_43 h_43 g_43 H locs hq hG => ?_)
        replace HW := HW r_43 h_43 g_43 hq
        refine lv_istore (lv' := [(5, .int r_43), (0, .ref (ad 109)), (1, .int x1), (2, .int x2), (3, .int x3), (4, .int x4)]) hx hb dX1_weigh_46 hl (by decide) rfl (fun ls hl => ?_)
        refine lv_iload hx hb dX1_weigh_48 (lv_at hl 0 rfl) ?_
        refine lv_iconst (v := 1) hx hb dX1_weigh_50 (by decide) ?_
        refine lv_sipush (v := 999) hx hb dX1_weigh_51 (by decide) ?_
        obtain ⟨P_54, HC_54, HW⟩ := HW
        refine g_callz (g_runSN (As := [.int r_43, .int (1 : Int32), .int (999 : Int32)]) (rest := []) ⟨hx, hb, hml, hown, hts⟩ (m_X10_within l D cy ad h_43 g_43 H.size r_43 (1 : Int32) (999 : Int32) P_54 HC_54) ⟨va_cnB 3 hts (gd_w (wm2 195 rfl rfl)) rfl rfl rfl (hNw _ (List.mem_of_getElem? (i := 2) rfl)) (hw (.initialized RX10) (wm1 1 rfl rfl)) (by decide +kernel) ⟨Nat.le_of_ble_eq_true rfl, Nat.le_of_ble_eq_true rfl⟩, hw (.static yX10_within) (wm2 194 rfl rfl), trivial⟩ hK hNw hG rfl rfl hl.1 rfl (lv_room (Nat.le_of_ble_eq_true rfl)) dX1_weigh_54 ⟨Nat.zero_le _, Nat.zero_le _⟩) hG (fun r_54 h_54 g_54 H locs hz hq hG => ?_)
        replace HW := HW r_54 h_54 g_54 hz hq
        refine lv_if_ne (tgt := 62) hx hb dX1_weigh_57 (by decide) (fun c_57 => ?_) (fun c_57 => ?_)
        · replace HW := HW.1 c_57
          refine lv_iload_n hx hb dX1_weigh_62 rfl (lv_at hl 4 rfl) ?_
          refine lv_aload_n hx hb dX1_weigh_63 rfl (lv_at hl 1 rfl) ?_
          refine g_getr hx hb hw inG1 hown hK hG gl_109 rfl gk_109 (by decide) 0 (by decide) (by rw [gm_109]; decide) (r := 1) gr_109_0 lk27 dX1_weigh_64 ?_
          refine g_getr hx hb hw inG6 hown hK hG gl_1 rfl gk_1 (by decide) 8 (by decide) (by rw [gm_1]; decide) (r := 18) gr_1_8 lk86 dX1_weigh_67 ?_
          refine lv_iload hx hb dX1_weigh_70 (lv_at hl 5 rfl) ?_
          refine lv_iconst (v := 1) hx hb dX1_weigh_72 (by decide) ?_
          obtain ⟨P_73, HC_73, HW⟩ := HW
          refine g_calli (g_runV (As := [.int x4, .int (1 : Int32)]) (rest := [.int x3]) ⟨hx, hb, hml, hown, hts⟩ (m_X8_at l D cy ad h_54 g_54 H.size 18 (gs_18) x4 (1 : Int32) P_73 HC_73) (cwV 2 hts (gd_V (wm4 53 rfl rfl) (wm2 221 rfl rfl) (wm2 222 rfl rfl) (wm1 3 rfl rfl) (wm2 223 rfl rfl)) rfl rfl rfl (by decide +kernel) ⟨Nat.le_of_ble_eq_true rfl, Nat.le_of_ble_eq_true rfl⟩) hK hNw hG gl_18 rfl gk_18 (by decide) rfl rfl hl.1 rfl (lv_room (Nat.le_of_ble_eq_true rfl)) dX1_weigh_73 ⟨Nat.zero_le _, Nat.zero_le _⟩) hG (fun r_73 h_73 g_73 H locs hq hG => ?_)
          replace HW := HW r_73 h_73 g_73 hq
          refine lv_iconst (v := 1) hx hb dX1_weigh_76 (by decide) ?_
          refine lv_icmp_ne (tgt := 85) hx hb dX1_weigh_77 (by decide) (fun c_77 => ?_) (fun c_77 => ?_)
          · replace HW := HW.1 c_77
            refine lv_sipush (v := 1000) hx hb dX1_weigh_85 (by decide) ?_
            refine lv_iload hx hb dX1_weigh_88 (lv_at hl 0 rfl) ?_
            refine lv_isub hx hb dX1_weigh_90 ?_
            exact B91 K13 hK13 x1 x2 x4 x3 ((1000 : Int32) - r_43) h_73 g_73 _ _ _ HW hG (lv_sub hl [1, 2, 3, 5] rfl)
          · replace HW := HW.2 c_77
            refine lv_iload hx hb dX1_weigh_80 (lv_at hl 0 rfl) ?_
            refine lv_goto (tgt := 91) hx hb dX1_weigh_82 (by decide) ?_
            exact B91 K13 hK13 x1 x2 x4 x3 r_43 h_73 g_73 _ _ _ HW hG (lv_sub hl [1, 2, 3, 5] rfl)
        · replace HW := HW.2 c_57
          refine lv_iconst (v := 0) hx hb dX1_weigh_60 (by decide) ?_
          exact W.zret (v := (0 : Int32)) hx hb hr rfl (fun t ht hW => ⟨⟨(0 : Int32), (h_54, g_54), rfl, ⟨Or.inl rfl, HW⟩, g_B ht hG⟩, hG.2.2.F ht⟩) hG.2.2.2.2 dX1_weigh_61
  have E0 : ∀ (H : Heap) (locs : List Loc) (ls : Array Slot), gG D cy ad (gA ad s.heap.size) s.heap h g H locs → lv_has ls 6 [(0, .ref (ad 109)), (1, .int x1), (2, .int x2)] → W p l e ({ frames := 2, cells := 0, slots := 0, locals := 46 } : Room) s m args below meth c H locs 0 0 (MQ below (va_Qi (fun (r : Int32) (u : HI × HL) => zb r ∧ Q r u.1 u.2) (gB D cy ad s.heap.size) (gA ad s.heap.size)) args s 0 0 (gA ad s.heap.size)) (F0 m 0 ls []) := by
    intro H locs ls hG hl
    unfold w_X1_weigh at HW
    refine lv_aload_n hx hb dX1_weigh_0 rfl (lv_at hl 0 rfl) ?_
    refine g_getr hx hb hw inG1 hown hK hG gl_109 rfl gk_109 (by decide) 3 (by decide) (by rw [gm_109]; decide) (r := 114) gr_109_3 lk21 dX1_weigh_1 ?_
    refine lv_iconst (v := 1) hx hb dX1_weigh_4 (by decide) ?_
    obtain ⟨P_5, HC_5, HW⟩ := HW
    refine g_callv (g_runV (As := [.int (1 : Int32)]) (rest := []) ⟨hx, hb, hml, hown, hts⟩ (m_X0_set l D cy ad h g H.size 114 (gs_114) (1 : Int32) P_5 HC_5) (cwV 1 hts (gd_V (wm2 88 rfl rfl) (wm2 89 rfl rfl) (wm2 90 rfl rfl) (wm1 11 rfl rfl) (wm2 91 rfl rfl)) rfl rfl rfl (by decide +kernel) ⟨Nat.le_of_ble_eq_true rfl, Nat.le_of_ble_eq_true rfl⟩) hK hNw hG gl_114 rfl gk_114 (by decide) rfl rfl hl.1 rfl (lv_room (Nat.le_of_ble_eq_true rfl)) dX1_weigh_5 ⟨Nat.zero_le _, Nat.zero_le _⟩) hG (fun h_5 g_5 H locs hq hG => ?_)
    replace HW := HW h_5 g_5 hq
    refine lv_iconst (v := 1) hx hb dX1_weigh_8 (by decide) ?_
    refine lv_istore_n (lv' := [(3, .int (1 : Int32)), (0, .ref (ad 109)), (1, .int x1), (2, .int x2)]) hx hb dX1_weigh_9 rfl hl (by decide) rfl (fun ls hl => ?_)
    refine lv_iconst (v := 0) hx hb dX1_weigh_10 (by decide) ?_
    refine lv_istore (lv' := [(4, .int (0 : Int32)), (3, .int (1 : Int32)), (0, .ref (ad 109)), (1, .int x1), (2, .int x2)]) hx hb dX1_weigh_11 hl (by decide) rfl (fun ls hl => ?_)
    obtain ⟨n_13, HW⟩ := HW
    exact L13 n_13 x1 x2 (1 : Int32) (0 : Int32) h_5 g_5 _ _ _ HW hG (lv_sub hl [2, 3, 4, 1, 0] rfl)
  exact E0 _ _ _ hG hl

def j_X1_fit_60 (Q : Int32 → HI → HL → Prop) (K4 : Int32 → Int32 → HI → HL → Prop) (x1 : Int32) (x2 : Int32) (h : HI) (g : HL) : Prop :=
  (∀ x2_60 : Int32, x2_60 = (x2 + 1) → K4 x1 x2_60 h g)
def j_X1_fit_47 (Q : Int32 → HI → HL → Prop) (K4 : Int32 → Int32 → HI → HL → Prop) (x2 : Int32) (h : HI) (g : HL) : Prop :=
  (∃ P_57 : HI → HL → Prop, w_X0_copy 116 114 h g P_57 ∧ ∀ (h_57 : HI) (g_57 : HL), P_57 h_57 g_57 → j_X1_fit_60 Q K4 x2 x2 h_57 g_57)
def b_X1_fit_4 (Q : Int32 → HI → HL → Prop) (K4 : Int32 → Int32 → HI → HL → Prop) (x1 : Int32) (x2 : Int32) (h : HI) (g : HL) : Prop :=
  (((100 : Int32) ≤ x2 → Q x1 h g) ∧ (¬ (100 : Int32) ≤ x2 → (∃ P_19 : Int32 → HI → HL → Prop, w_X1_weigh (x2 / (10 : Int32)) (x2 - x2 / (10 : Int32) * (10 : Int32)) h g P_19 ∧ ∀ (r_19 : Int32) (h_19 : HI) (g_19 : HL), zb r_19 → P_19 r_19 h_19 g_19 → ((¬ r_19 = 0 → ((x1 = (-1 : Int32) → j_X1_fit_47 Q K4 x2 h_19 g_19) ∧ (¬ x1 = (-1 : Int32) → (∃ P_41 : Int32 → HI → HL → Prop, w_X0_above 114 116 h_19 g_19 P_41 ∧ ∀ (r_41 : Int32) (h_41 : HI) (g_41 : HL), zb r_41 → P_41 r_41 h_41 g_41 → ((r_41 = 0 → j_X1_fit_60 Q K4 x1 x2 h_41 g_41) ∧ (¬ r_41 = 0 → j_X1_fit_47 Q K4 x2 h_41 g_41)))))) ∧ (r_19 = 0 → j_X1_fit_60 Q K4 x1 x2 h_19 g_19)))))
def F_X1_fit_4 (Q : Int32 → HI → HL → Prop) (K : Int32 × Int32 × HI × HL → Prop) (q : Int32 × Int32 × HI × HL) : Prop := b_X1_fit_4 Q (fun x1 x2 h g => K (x1, x2, h, g)) q.1 q.2.1 q.2.2.1 q.2.2.2
def w_X1_fit  (h : HI) (g : HL) (Q : Int32 → HI → HL → Prop) : Prop :=
  lpE (F_X1_fit_4 Q) ((-1 : Int32), (0 : Int32), h, g)
set_option maxHeartbeats 8000000 in
set_option maxRecDepth 100000 in
theorem m_X1_fit (l : Launch) (D : va_G) (cy : Nat → ClassId) (ad : Nat → Nat) (h : HI) (g : HL) (sz : Nat)  (Q : Int32 → HI → HL → Prop) (HW : w_X1_fit h g Q) : Met l yX1_fit (wa yX1_fit cX1_fit 3 (some .int)) ({ frames := 3, cells := 0, slots := 0, locals := 81 }) (va_Pc [.ref (ad 109)] (gI D cy ad h g sz)) (va_Qi (fun (r : Int32) (u : HI × HL) => Q r u.1 u.2) (gB D cy ad sz) (gA ad sz)) 0 0 (gA ad sz) := by
  refine Met.ofW (cc := cX1_fit) (maxL := 3) (ret := (some .int)) (by decide) rfl ?_
  intro p e s m args below meth c s₁ B hml hv
  obtain ⟨hav, hsz, hP, hK, hD0, hNw⟩ := hv
  have hx := B.exec
  have hb := B.bytes
  have hr := B.returns
  have hts := atoms_spec (ws := (wa yX1_fit cX1_fit 3 (some .int))) B.pre
  have hw := wa_hw hts
  have hown : s.vm.findClass RX1 = some m.cls := findClass_of_methodNamed B.named
  have hlocks := B.notSynchronized
  subst hsz
  have hG : gG D cy ad (gA ad s.heap.size) s.heap h g s.heap [] := ⟨hP, gA_self hD0, va_S.rf⟩
  clear hP hD0
  have lk21 := hw (.fieldLink RX1 21 "OldWorks$Breaks" "left" "LOldWorks$Big;") (wm2 95 rfl rfl)
  have lk24 := hw (.fieldLink RX1 24 "OldWorks$Breaks" "right" "LOldWorks$Big;") (wm2 96 rfl rfl)
  rw [show (headSpec (wa yX1_fit cX1_fit 3 (some .int)) ({ frames := 3, cells := 0, slots := 0, locals := 81 } : Room)).room = ({ frames := 3, cells := 0, slots := 0, locals := 81 } : Room) from rfl]
  have hl := lv_entry ([.ref (ad 109)]) (n := 3) (Nat.le_of_ble_eq_true rfl)
  rw [show entryFrame m args 3 = entryFrame m ([.ref (ad 109)] : List Value).toArray 3 from by rw [hav], lg_entry_eq]
  generalize (lg_sl ([.ref (ad 109)]) ++ List.replicate (3 - (lg_sl ([.ref (ad 109)])).length) Slot.unset).toArray = ls at hl ⊢
  have hl : lv_has ls 3 [(0, .ref (ad 109))] := hl
  have B60 : ∀ (K4 : Int32 → Int32 → HI → HL → Prop) (hK4 : ∀ (x1 : Int32) (x2 : Int32) (h : HI) (g : HL) (H : Heap) (locs : List Loc) (ls : Array Slot), K4 x1 x2 h g → gG D cy ad (gA ad s.heap.size) s.heap h g H locs → lv_has ls 3 [(0, .ref (ad 109)), (1, .int x1), (2, .int x2)] → W p l e ({ frames := 3, cells := 0, slots := 0, locals := 81 } : Room) s m args below meth c H locs 0 0 (MQ below (va_Qi (fun (r : Int32) (u : HI × HL) => Q r u.1 u.2) (gB D cy ad s.heap.size) (gA ad s.heap.size)) args s 0 0 (gA ad s.heap.size)) (F0 m 4 ls [])) (x1 : Int32) (x2 : Int32) (h : HI) (g : HL) (H : Heap) (locs : List Loc) (ls : Array Slot), j_X1_fit_60 Q K4 x1 x2 h g → gG D cy ad (gA ad s.heap.size) s.heap h g H locs → lv_has ls 3 [(0, .ref (ad 109)), (1, .int x1), (2, .int x2)] → W p l e ({ frames := 3, cells := 0, slots := 0, locals := 81 } : Room) s m args below meth c H locs 0 0 (MQ below (va_Qi (fun (r : Int32) (u : HI × HL) => Q r u.1 u.2) (gB D cy ad s.heap.size) (gA ad s.heap.size)) args s 0 0 (gA ad s.heap.size)) (F0 m 60 ls []) := by
    intro K4 hK4 x1 x2 h g H locs ls HW hG hl
    unfold j_X1_fit_60 at HW
    obtain ⟨x2_60, ex2_60⟩ : ∃ y : Int32, y = (x2 + 1) := ⟨_, rfl⟩
    replace HW := HW x2_60 ex2_60
    refine lv_iinc (v := x2_60) (lv' := [(2, .int x2_60), (0, .ref (ad 109)), (1, .int x1)]) hx hb dX1_fit_60 hl (k := 2) rfl (by rw [ex2_60]; rfl) (by decide) rfl (fun ls hl => ?_)
    refine lv_goto (tgt := 4) hx hb dX1_fit_63 (by decide) ?_
    exact hK4 x1 x2_60 h g _ _ _ HW hG (lv_sub hl [1, 2, 0] rfl)
  have B47 : ∀ (K4 : Int32 → Int32 → HI → HL → Prop) (hK4 : ∀ (x1 : Int32) (x2 : Int32) (h : HI) (g : HL) (H : Heap) (locs : List Loc) (ls : Array Slot), K4 x1 x2 h g → gG D cy ad (gA ad s.heap.size) s.heap h g H locs → lv_has ls 3 [(0, .ref (ad 109)), (1, .int x1), (2, .int x2)] → W p l e ({ frames := 3, cells := 0, slots := 0, locals := 81 } : Room) s m args below meth c H locs 0 0 (MQ below (va_Qi (fun (r : Int32) (u : HI × HL) => Q r u.1 u.2) (gB D cy ad s.heap.size) (gA ad s.heap.size)) args s 0 0 (gA ad s.heap.size)) (F0 m 4 ls [])) (x2 : Int32) (h : HI) (g : HL) (H : Heap) (locs : List Loc) (ls : Array Slot), j_X1_fit_47 Q K4 x2 h g → gG D cy ad (gA ad s.heap.size) s.heap h g H locs → lv_has ls 3 [(0, .ref (ad 109)), (2, .int x2)] → W p l e ({ frames := 3, cells := 0, slots := 0, locals := 81 } : Room) s m args below meth c H locs 0 0 (MQ below (va_Qi (fun (r : Int32) (u : HI × HL) => Q r u.1 u.2) (gB D cy ad s.heap.size) (gA ad s.heap.size)) args s 0 0 (gA ad s.heap.size)) (F0 m 47 ls []) := by
    intro K4 hK4 x2 h g H locs ls HW hG hl
    unfold j_X1_fit_47 at HW
    refine lv_iload_n hx hb dX1_fit_47 rfl (lv_at hl 1 rfl) ?_
    refine lv_istore_n (lv' := [(1, .int x2), (0, .ref (ad 109)), (2, .int x2)]) hx hb dX1_fit_48 rfl hl (by decide) rfl (fun ls hl => ?_)
    refine lv_aload_n hx hb dX1_fit_49 rfl (lv_at hl 1 rfl) ?_
    refine g_getr hx hb hw inG1 hown hK hG gl_109 rfl gk_109 (by decide) 4 (by decide) (by rw [gm_109]; decide) (r := 116) gr_109_4 lk24 dX1_fit_50 ?_
    refine lv_aload_n hx hb dX1_fit_53 rfl (lv_at hl 1 rfl) ?_
    refine g_getr hx hb hw inG1 hown hK hG gl_109 rfl gk_109 (by decide) 3 (by decide) (by rw [gm_109]; decide) (r := 114) gr_109_3 lk21 dX1_fit_54 ?_
    obtain ⟨P_57, HC_57, HW⟩ := HW
    refine g_callv (g_runV (As := [.ref (ad 114)]) (rest := []) ⟨hx, hb, hml, hown, hts⟩ (m_X0_copy l D cy ad h g H.size 116 (gs_116) 114 (gs_114) P_57 HC_57) (cwV 1 hts (gd_V (wm4 119 rfl rfl) (wm4 120 rfl rfl) (wm4 121 rfl rfl) (wm1 11 rfl rfl) (wm4 122 rfl rfl)) rfl rfl rfl (by decide +kernel) ⟨Nat.le_of_ble_eq_true rfl, Nat.le_of_ble_eq_true rfl⟩) hK hNw hG gl_116 rfl gk_116 (by decide) rfl rfl hl.1 rfl (lv_room (Nat.le_of_ble_eq_true rfl)) dX1_fit_57 ⟨Nat.zero_le _, Nat.zero_le _⟩) hG (fun h_57 g_57 H locs hq hG => ?_)
    replace HW := HW h_57 g_57 hq
    exact B60 K4 hK4 x2 x2 h_57 g_57 _ _ _ HW hG (lv_sub hl [1, 0, 2] rfl)
  have L4 : ∀ (n : Nat) (x1 : Int32) (x2 : Int32) (h : HI) (g : HL) (H : Heap) (locs : List Loc) (ls : Array Slot), lpN (F_X1_fit_4 Q) n (x1, x2, h, g) → gG D cy ad (gA ad s.heap.size) s.heap h g H locs → lv_has ls 3 [(0, .ref (ad 109)), (1, .int x1), (2, .int x2)] → W p l e ({ frames := 3, cells := 0, slots := 0, locals := 81 } : Room) s m args below meth c H locs 0 0 (MQ below (va_Qi (fun (r : Int32) (u : HI × HL) => Q r u.1 u.2) (gB D cy ad s.heap.size) (gA ad s.heap.size)) args s 0 0 (gA ad s.heap.size)) (F0 m 4 ls []) := by
    intro n
    induction n with
    | zero => intro x1 x2 h g H locs ls HW; exact HW.elim
    | succ n ih =>
      intro x1 x2 h g H locs ls HW hG hl
      have HW : b_X1_fit_4 Q (fun x1 x2 h g => lpN (F_X1_fit_4 Q) n (x1, x2, h, g)) x1 x2 h g := HW
      generalize hKe : (fun (x1 : Int32) (x2 : Int32) (h : HI) (g : HL) => lpN (F_X1_fit_4 Q) n (x1, x2, h, g)) = K4 at HW
      have hK4 : ∀ (x1 : Int32) (x2 : Int32) (h : HI) (g : HL) (H : Heap) (locs : List Loc) (ls : Array Slot), K4 x1 x2 h g → gG D cy ad (gA ad s.heap.size) s.heap h g H locs → lv_has ls 3 [(0, .ref (ad 109)), (1, .int x1), (2, .int x2)] → W p l e ({ frames := 3, cells := 0, slots := 0, locals := 81 } : Room) s m args below meth c H locs 0 0 (MQ below (va_Qi (fun (r : Int32) (u : HI × HL) => Q r u.1 u.2) (gB D cy ad s.heap.size) (gA ad s.heap.size)) args s 0 0 (gA ad s.heap.size)) (F0 m 4 ls []) := by subst hKe; exact ih
      clear ih
      clear hKe
      unfold b_X1_fit_4 at HW
      refine lv_iload_n hx hb dX1_fit_4 rfl (lv_at hl 2 rfl) ?_
      refine lv_bipush (v := 100) hx hb dX1_fit_5 (by decide) ?_
      refine lv_icmp_ge (tgt := 66) hx hb dX1_fit_7 (by decide) (fun c_7 => ?_) (fun c_7 => ?_)
      · replace HW := HW.1 c_7
        refine lv_iload_n hx hb dX1_fit_66 rfl (lv_at hl 1 rfl) ?_
        exact W.iret (v := x1) hx hb hr (fun t ht hW => ⟨⟨x1, (h, g), rfl, HW, g_B ht hG⟩, hG.2.2.F ht⟩) hG.2.2.2.2 dX1_fit_67
      · replace HW := HW.2 c_7
        refine lv_aload_n hx hb dX1_fit_10 rfl (lv_at hl 0 rfl) ?_
        refine lv_iload_n hx hb dX1_fit_11 rfl (lv_at hl 2 rfl) ?_
        refine lv_bipush (v := 10) hx hb dX1_fit_12 (by decide) ?_
        refine lv_idiv hx hb dX1_fit_14 (by decide) ?_
        refine lv_iload_n hx hb dX1_fit_15 rfl (lv_at hl 2 rfl) ?_
        refine lv_bipush (v := 10) hx hb dX1_fit_16 (by decide) ?_
        refine lv_irem hx hb dX1_fit_18 (by decide) ?_
        obtain ⟨P_19, HC_19, HW⟩ := HW
        refine g_callz (g_runV (As := [.int (x2 / (10 : Int32)), .int (x2 - x2 / (10 : Int32) * (10 : Int32))]) (rest := []) ⟨hx, hb, hml, hown, hts⟩ (m_X1_weigh l D cy ad h g H.size (x2 / (10 : Int32)) (x2 - x2 / (10 : Int32) * (10 : Int32)) P_19 HC_19) (cwV 2 hts (gd_V (wm4 112 rfl rfl) (wm4 114 rfl rfl) (wmp2 (q := (yX1_weigh, 7)) 10 rfl) (wm1 10 rfl rfl) (wm4 115 rfl rfl)) rfl rfl rfl (by decide +kernel) ⟨Nat.le_of_ble_eq_true rfl, Nat.le_of_ble_eq_true rfl⟩) hK hNw hG gl_109 rfl gk_109 (by decide) rfl rfl hl.1 rfl (lv_room (Nat.le_of_ble_eq_true rfl)) dX1_fit_19 ⟨Nat.zero_le _, Nat.zero_le _⟩) hG (fun r_19 h_19 g_19 H locs hz hq hG => ?_)
        replace HW := HW r_19 h_19 g_19 hz hq
        refine lv_if_ne (tgt := 28) hx hb dX1_fit_22 (by decide) (fun c_22 => ?_) (fun c_22 => ?_)
        · replace HW := HW.1 c_22
          refine lv_iload_n hx hb dX1_fit_28 rfl (lv_at hl 1 rfl) ?_
          refine lv_iconst (v := (-1)) hx hb dX1_fit_29 (by decide) ?_
          refine lv_icmp_eq (tgt := 47) hx hb dX1_fit_30 (by decide) (fun c_30 => ?_) (fun c_30 => ?_)
          · replace HW := HW.1 c_30
            exact B47 K4 hK4 x2 h_19 g_19 _ _ _ HW hG (lv_sub hl [0, 2] rfl)
          · replace HW := HW.2 c_30
            refine lv_aload_n hx hb dX1_fit_33 rfl (lv_at hl 0 rfl) ?_
            refine g_getr hx hb hw inG1 hown hK hG gl_109 rfl gk_109 (by decide) 3 (by decide) (by rw [gm_109]; decide) (r := 114) gr_109_3 lk21 dX1_fit_34 ?_
            refine lv_aload_n hx hb dX1_fit_37 rfl (lv_at hl 0 rfl) ?_
            refine g_getr hx hb hw inG1 hown hK hG gl_109 rfl gk_109 (by decide) 4 (by decide) (by rw [gm_109]; decide) (r := 116) gr_109_4 lk24 dX1_fit_38 ?_
            obtain ⟨P_41, HC_41, HW⟩ := HW
            refine g_callz (g_runV (As := [.ref (ad 116)]) (rest := []) ⟨hx, hb, hml, hown, hts⟩ (m_X0_above l D cy ad h_19 g_19 H.size 114 (gs_114) 116 (gs_116) P_41 HC_41) (cwV 1 hts (gd_V (wm4 76 rfl rfl) (wm4 77 rfl rfl) (wm4 78 rfl rfl) (wm1 11 rfl rfl) (wm4 79 rfl rfl)) rfl rfl rfl (by decide +kernel) ⟨Nat.le_of_ble_eq_true rfl, Nat.le_of_ble_eq_true rfl⟩) hK hNw hG gl_114 rfl gk_114 (by decide) rfl rfl hl.1 rfl (lv_room (Nat.le_of_ble_eq_true rfl)) dX1_fit_41 ⟨Nat.zero_le _, Nat.zero_le _⟩) hG (fun r_41 h_41 g_41 H locs hz hq hG => ?_)
            replace HW := HW r_41 h_41 g_41 hz hq
            refine lv_if_eq (tgt := 60) hx hb dX1_fit_44 (by decide) (fun c_44 => ?_) (fun c_44 => ?_)
            · replace HW := HW.1 c_44
              exact B60 K4 hK4 x1 x2 h_41 g_41 _ _ _ HW hG (lv_sub hl [0, 1, 2] rfl)
            · replace HW := HW.2 c_44
              exact B47 K4 hK4 x2 h_41 g_41 _ _ _ HW hG (lv_sub hl [0, 2] rfl)
        · replace HW := HW.2 c_22
          refine lv_goto (tgt := 60) hx hb dX1_fit_25 (by decide) ?_
          exact B60 K4 hK4 x1 x2 h_19 g_19 _ _ _ HW hG (lv_sub hl [0, 1, 2] rfl)
  have E0 : ∀ (H : Heap) (locs : List Loc) (ls : Array Slot), gG D cy ad (gA ad s.heap.size) s.heap h g H locs → lv_has ls 3 [(0, .ref (ad 109))] → W p l e ({ frames := 3, cells := 0, slots := 0, locals := 81 } : Room) s m args below meth c H locs 0 0 (MQ below (va_Qi (fun (r : Int32) (u : HI × HL) => Q r u.1 u.2) (gB D cy ad s.heap.size) (gA ad s.heap.size)) args s 0 0 (gA ad s.heap.size)) (F0 m 0 ls []) := by
    intro H locs ls hG hl
    unfold w_X1_fit at HW
    refine lv_iconst (v := (-1)) hx hb dX1_fit_0 (by decide) ?_
    refine lv_istore_n (lv' := [(1, .int (-1 : Int32)), (0, .ref (ad 109))]) hx hb dX1_fit_1 rfl hl (by decide) rfl (fun ls hl => ?_)
    refine lv_iconst (v := 0) hx hb dX1_fit_2 (by decide) ?_
    refine lv_istore_n (lv' := [(2, .int (0 : Int32)), (1, .int (-1 : Int32)), (0, .ref (ad 109))]) hx hb dX1_fit_3 rfl hl (by decide) rfl (fun ls hl => ?_)
    obtain ⟨n_4, HW⟩ := HW
    exact L4 n_4 (-1 : Int32) (0 : Int32) h g _ _ _ HW hG (lv_sub hl [2, 1, 0] rfl)
  exact E0 _ _ _ hG hl

def j_X1_reached_84 (Q : Int32 → HI → HL → Prop) (K18 : Int32 → Int32 → Int32 → HI → HL → Prop) (K43 : Int32 → Int32 → Int32 → Int32 → HI → HL → Prop) (x2 : Int32) (x3 : Int32) (x4 : Int32) (x5 : Int32) (h : HI) (g : HL) : Prop :=
  (∀ x5_84 : Int32, x5_84 = (x5 + 1) → K43 x2 x3 x4 x5_84 h g)
def b_X1_reached_43 (Q : Int32 → HI → HL → Prop) (K18 : Int32 → Int32 → Int32 → HI → HL → Prop) (K43 : Int32 → Int32 → Int32 → Int32 → HI → HL → Prop) (x2 : Int32) (x3 : Int32) (x4 : Int32) (x5 : Int32) (h : HI) (g : HL) : Prop :=
  (∃ P_52 : Int32 → HI → HL → Prop, w_X8_rows 2 h g P_52 ∧ ∀ (r_52 : Int32) (h_52 : HI) (g_52 : HL), P_52 r_52 h_52 g_52 → ((r_52 ≤ x5 → (∀ x4_90 : Int32, x4_90 = (x4 + 1) → K18 x2 x3 x4_90 h_52 g_52)) ∧ (¬ r_52 ≤ x5 → ((¬ ((x2 >>> (x5 &&& 31)) &&& (1 : Int32)) = (1 : Int32) → j_X1_reached_84 Q K18 K43 x2 x3 x4 x5 h_52 g_52) ∧ (((x2 >>> (x5 &&& 31)) &&& (1 : Int32)) = (1 : Int32) → (∃ P_79 : Int32 → HI → HL → Prop, w_X8_at 2 x5 (4 : Int32) h_52 g_52 P_79 ∧ ∀ (r_79 : Int32) (h_79 : HI) (g_79 : HL), P_79 r_79 h_79 g_79 → (∀ x2_83 : Int32, x2_83 = (x2 ||| r_79) → j_X1_reached_84 Q K18 K43 x2_83 x3 x4 x5 h_79 g_79)))))))
def F_X1_reached_43 (Q : Int32 → HI → HL → Prop) (K18 : Int32 → Int32 → Int32 → HI → HL → Prop) (K : Int32 × Int32 × Int32 × Int32 × HI × HL → Prop) (q : Int32 × Int32 × Int32 × Int32 × HI × HL) : Prop := b_X1_reached_43 Q K18 (fun x2 x3 x4 x5 h g => K (x2, x3, x4, x5, h, g)) q.1 q.2.1 q.2.2.1 q.2.2.2.1 q.2.2.2.2.1 q.2.2.2.2.2
def b_X1_reached_18 (Q : Int32 → HI → HL → Prop) (K18 : Int32 → Int32 → Int32 → HI → HL → Prop) (x2 : Int32) (x3 : Int32) (x4 : Int32) (h : HI) (g : HL) : Prop :=
  (∃ P_27 : Int32 → HI → HL → Prop, w_X8_rows 2 h g P_27 ∧ ∀ (r_27 : Int32) (h_27 : HI) (g_27 : HL), P_27 r_27 h_27 g_27 → ((r_27 ≤ x4 → Q x2 h_27 g_27) ∧ (¬ r_27 ≤ x4 → ((x2 = x3 → Q x2 h_27 g_27) ∧ (¬ x2 = x3 → lpE (F_X1_reached_43 Q K18) (x2, x2, x4, (0 : Int32), h_27, g_27))))))
def F_X1_reached_18 (Q : Int32 → HI → HL → Prop) (K : Int32 × Int32 × Int32 × HI × HL → Prop) (q : Int32 × Int32 × Int32 × HI × HL) : Prop := b_X1_reached_18 Q (fun x2 x3 x4 h g => K (x2, x3, x4, h, g)) q.1 q.2.1 q.2.2.1 q.2.2.2.1 q.2.2.2.2
def w_X1_reached (x1 : Int32) (h : HI) (g : HL) (Q : Int32 → HI → HL → Prop) : Prop :=
  (∃ P_9 : Int32 → HI → HL → Prop, w_X8_at 2 x1 (4 : Int32) h g P_9 ∧ ∀ (r_9 : Int32) (h_9 : HI) (g_9 : HL), P_9 r_9 h_9 g_9 → lpE (F_X1_reached_18 Q) (r_9, (0 : Int32), (0 : Int32), h_9, g_9))
set_option maxHeartbeats 8000000 in
set_option maxRecDepth 100000 in
theorem m_X1_reached (l : Launch) (D : va_G) (cy : Nat → ClassId) (ad : Nat → Nat) (h : HI) (g : HL) (sz : Nat) (x1 : Int32) (Q : Int32 → HI → HL → Prop) (HW : w_X1_reached x1 h g Q) : Met l yX1_reached (wa yX1_reached cX1_reached 6 (some .int)) ({ frames := 1, cells := 0, slots := 0, locals := 23 }) (va_Pc [.ref (ad 109), .int x1] (gI D cy ad h g sz)) (va_Qi (fun (r : Int32) (u : HI × HL) => Q r u.1 u.2) (gB D cy ad sz) (gA ad sz)) 0 0 (gA ad sz) := by
  refine Met.ofW (cc := cX1_reached) (maxL := 6) (ret := (some .int)) (by decide) rfl ?_
  intro p e s m args below meth c s₁ B hml hv
  obtain ⟨hav, hsz, hP, hK, hD0, hNw⟩ := hv
  have hx := B.exec
  have hb := B.bytes
  have hr := B.returns
  have hts := atoms_spec (ws := (wa yX1_reached cX1_reached 6 (some .int))) B.pre
  have hw := wa_hw hts
  have hown : s.vm.findClass RX1 = some m.cls := findClass_of_methodNamed B.named
  have hlocks := B.notSynchronized
  subst hsz
  have hG : gG D cy ad (gA ad s.heap.size) s.heap h g s.heap [] := ⟨hP, gA_self hD0, va_S.rf⟩
  clear hP hD0
  have lk27 := hw (.fieldLink RX1 27 "OldWorks$Breaks" "shop" "LOldWorks$Shop;") (wm2 92 rfl rfl)
  have lk63 := hw (.fieldLink RX1 63 "OldWorks$Shop" "parts" "LOldWorks$Table;") (wm1 63 rfl rfl)
  rw [show (headSpec (wa yX1_reached cX1_reached 6 (some .int)) ({ frames := 1, cells := 0, slots := 0, locals := 23 } : Room)).room = ({ frames := 1, cells := 0, slots := 0, locals := 23 } : Room) from rfl]
  have hl := lv_entry ([.ref (ad 109), .int x1]) (n := 6) (Nat.le_of_ble_eq_true rfl)
  rw [show entryFrame m args 6 = entryFrame m ([.ref (ad 109), .int x1] : List Value).toArray 6 from by rw [hav], lg_entry_eq]
  generalize (lg_sl ([.ref (ad 109), .int x1]) ++ List.replicate (6 - (lg_sl ([.ref (ad 109), .int x1])).length) Slot.unset).toArray = ls at hl ⊢
  have hl : lv_has ls 6 [(0, .ref (ad 109)), (1, .int x1)] := hl
  have B84 : ∀ (K18 : Int32 → Int32 → Int32 → HI → HL → Prop) (hK18 : ∀ (x2 : Int32) (x3 : Int32) (x4 : Int32) (h : HI) (g : HL) (H : Heap) (locs : List Loc) (ls : Array Slot), K18 x2 x3 x4 h g → gG D cy ad (gA ad s.heap.size) s.heap h g H locs → lv_has ls 6 [(0, .ref (ad 109)), (2, .int x2), (3, .int x3), (4, .int x4)] → W p l e ({ frames := 1, cells := 0, slots := 0, locals := 23 } : Room) s m args below meth c H locs 0 0 (MQ below (va_Qi (fun (r : Int32) (u : HI × HL) => Q r u.1 u.2) (gB D cy ad s.heap.size) (gA ad s.heap.size)) args s 0 0 (gA ad s.heap.size)) (F0 m 18 ls [])) (K43 : Int32 → Int32 → Int32 → Int32 → HI → HL → Prop) (hK43 : ∀ (x2 : Int32) (x3 : Int32) (x4 : Int32) (x5 : Int32) (h : HI) (g : HL) (H : Heap) (locs : List Loc) (ls : Array Slot), K43 x2 x3 x4 x5 h g → gG D cy ad (gA ad s.heap.size) s.heap h g H locs → lv_has ls 6 [(0, .ref (ad 109)), (2, .int x2), (3, .int x3), (4, .int x4), (5, .int x5)] → W p l e ({ frames := 1, cells := 0, slots := 0, locals := 23 } : Room) s m args below meth c H locs 0 0 (MQ below (va_Qi (fun (r : Int32) (u : HI × HL) => Q r u.1 u.2) (gB D cy ad s.heap.size) (gA ad s.heap.size)) args s 0 0 (gA ad s.heap.size)) (F0 m 43 ls [])) (x2 : Int32) (x3 : Int32) (x4 : Int32) (x5 : Int32) (h : HI) (g : HL) (H : Heap) (locs : List Loc) (ls : Array Slot), j_X1_reached_84 Q K18 K43 x2 x3 x4 x5 h g → gG D cy ad (gA ad s.heap.size) s.heap h g H locs → lv_has ls 6 [(0, .ref (ad 109)), (2, .int x2), (3, .int x3), (4, .int x4), (5, .int x5)] → W p l e ({ frames := 1, cells := 0, slots := 0, locals := 23 } : Room) s m args below meth c H locs 0 0 (MQ below (va_Qi (fun (r : Int32) (u : HI × HL) => Q r u.1 u.2) (gB D cy ad s.heap.size) (gA ad s.heap.size)) args s 0 0 (gA ad s.heap.size)) (F0 m 84 ls []) := by
    intro K18 hK18 K43 hK43 x2 x3 x4 x5 h g H locs ls HW hG hl
    unfold j_X1_reached_84 at HW
    obtain ⟨x5_84, ex5_84⟩ : ∃ y : Int32, y = (x5 + 1) := ⟨_, rfl⟩
    replace HW := HW x5_84 ex5_84
    refine lv_iinc (v := x5_84) (lv' := [(5, .int x5_84), (0, .ref (ad 109)), (2, .int x2), (3, .int x3), (4, .int x4)]) hx hb dX1_reached_84 hl (k := 4) rfl (by rw [ex5_84]; rfl) (by decide) rfl (fun ls hl => ?_)
    refine lv_goto (tgt := 43) hx hb dX1_reached_87 (by decide) ?_
    exact hK43 x2 x3 x4 x5_84 h g _ _ _ HW hG (lv_sub hl [1, 2, 3, 4, 0] rfl)
  have L43 : ∀ (K18 : Int32 → Int32 → Int32 → HI → HL → Prop) (hK18 : ∀ (x2 : Int32) (x3 : Int32) (x4 : Int32) (h : HI) (g : HL) (H : Heap) (locs : List Loc) (ls : Array Slot), K18 x2 x3 x4 h g → gG D cy ad (gA ad s.heap.size) s.heap h g H locs → lv_has ls 6 [(0, .ref (ad 109)), (2, .int x2), (3, .int x3), (4, .int x4)] → W p l e ({ frames := 1, cells := 0, slots := 0, locals := 23 } : Room) s m args below meth c H locs 0 0 (MQ below (va_Qi (fun (r : Int32) (u : HI × HL) => Q r u.1 u.2) (gB D cy ad s.heap.size) (gA ad s.heap.size)) args s 0 0 (gA ad s.heap.size)) (F0 m 18 ls [])) (n : Nat) (x2 : Int32) (x3 : Int32) (x4 : Int32) (x5 : Int32) (h : HI) (g : HL) (H : Heap) (locs : List Loc) (ls : Array Slot), lpN (F_X1_reached_43 Q K18) n (x2, x3, x4, x5, h, g) → gG D cy ad (gA ad s.heap.size) s.heap h g H locs → lv_has ls 6 [(0, .ref (ad 109)), (2, .int x2), (3, .int x3), (4, .int x4), (5, .int x5)] → W p l e ({ frames := 1, cells := 0, slots := 0, locals := 23 } : Room) s m args below meth c H locs 0 0 (MQ below (va_Qi (fun (r : Int32) (u : HI × HL) => Q r u.1 u.2) (gB D cy ad s.heap.size) (gA ad s.heap.size)) args s 0 0 (gA ad s.heap.size)) (F0 m 43 ls []) := by
    intro K18 hK18 n
    induction n with
    | zero => intro x2 x3 x4 x5 h g H locs ls HW; exact HW.elim
    | succ n ih =>
      intro x2 x3 x4 x5 h g H locs ls HW hG hl
      have HW : b_X1_reached_43 Q K18 (fun x2 x3 x4 x5 h g => lpN (F_X1_reached_43 Q K18) n (x2, x3, x4, x5, h, g)) x2 x3 x4 x5 h g := HW
      generalize hKe : (fun (x2 : Int32) (x3 : Int32) (x4 : Int32) (x5 : Int32) (h : HI) (g : HL) => lpN (F_X1_reached_43 Q K18) n (x2, x3, x4, x5, h, g)) = K43 at HW
      have hK43 : ∀ (x2 : Int32) (x3 : Int32) (x4 : Int32) (x5 : Int32) (h : HI) (g : HL) (H : Heap) (locs : List Loc) (ls : Array Slot), K43 x2 x3 x4 x5 h g → gG D cy ad (gA ad s.heap.size) s.heap h g H locs → lv_has ls 6 [(0, .ref (ad 109)), (2, .int x2), (3, .int x3), (4, .int x4), (5, .int x5)] → W p l e ({ frames := 1, cells := 0, slots := 0, locals := 23 } : Room) s m args below meth c H locs 0 0 (MQ below (va_Qi (fun (r : Int32) (u : HI × HL) => Q r u.1 u.2) (gB D cy ad s.heap.size) (gA ad s.heap.size)) args s 0 0 (gA ad s.heap.size)) (F0 m 43 ls []) := by subst hKe; exact ih
      clear ih
      clear hKe
      unfold b_X1_reached_43 at HW
      refine lv_iload hx hb dX1_reached_43 (lv_at hl 4 rfl) ?_
      refine lv_aload_n hx hb dX1_reached_45 rfl (lv_at hl 0 rfl) ?_
      refine g_getr hx hb hw inG1 hown hK hG gl_109 rfl gk_109 (by decide) 0 (by decide) (by rw [gm_109]; decide) (r := 1) gr_109_0 lk27 dX1_reached_46 ?_
      refine g_getr hx hb hw inG6 hown hK hG gl_1 rfl gk_1 (by decide) 0 (by decide) (by rw [gm_1]; decide) (r := 2) gr_1_0 lk63 dX1_reached_49 ?_
      obtain ⟨P_52, HC_52, HW⟩ := HW
      refine g_calli (g_runV (As := []) (rest := [.int x5]) ⟨hx, hb, hml, hown, hts⟩ (m_X8_rows l D cy ad h g H.size 2 (gs_2) P_52 HC_52) (cwV 0 hts (gd_V (wm4 116 rfl rfl) (wm2 217 rfl rfl) (wm2 218 rfl rfl) (wm1 3 rfl rfl) (wm2 219 rfl rfl)) rfl rfl rfl (by decide +kernel) ⟨Nat.le_of_ble_eq_true rfl, Nat.le_of_ble_eq_true rfl⟩) hK hNw hG gl_2 rfl gk_2 (by decide) rfl rfl hl.1 rfl (lv_room (Nat.le_of_ble_eq_true rfl)) dX1_reached_52 ⟨Nat.zero_le _, Nat.zero_le _⟩) hG (fun r_52 h_52 g_52 H locs hq hG => ?_)
      replace HW := HW r_52 h_52 g_52 hq
      refine lv_icmp_ge (tgt := 90) hx hb dX1_reached_55 (by decide) (fun c_55 => ?_) (fun c_55 => ?_)
      · replace HW := HW.1 c_55
        obtain ⟨x4_90, ex4_90⟩ : ∃ y : Int32, y = (x4 + 1) := ⟨_, rfl⟩
        replace HW := HW x4_90 ex4_90
        refine lv_iinc (v := x4_90) (lv' := [(4, .int x4_90), (0, .ref (ad 109)), (2, .int x2), (3, .int x3), (5, .int x5)]) hx hb dX1_reached_90 hl (k := 3) rfl (by rw [ex4_90]; rfl) (by decide) rfl (fun ls hl => ?_)
        refine lv_goto (tgt := 18) hx hb dX1_reached_93 (by decide) ?_
        exact hK18 x2 x3 x4_90 h_52 g_52 _ _ _ HW hG (lv_sub hl [1, 2, 3, 0] rfl)
      · replace HW := HW.2 c_55
        refine lv_iload_n hx hb dX1_reached_58 rfl (lv_at hl 1 rfl) ?_
        refine lv_iload hx hb dX1_reached_59 (lv_at hl 4 rfl) ?_
        refine lv_ishr hx hb dX1_reached_61 ?_
        refine lv_iconst (v := 1) hx hb dX1_reached_62 (by decide) ?_
        refine lv_iand hx hb dX1_reached_63 ?_
        refine lv_iconst (v := 1) hx hb dX1_reached_64 (by decide) ?_
        refine lv_icmp_ne (tgt := 84) hx hb dX1_reached_65 (by decide) (fun c_65 => ?_) (fun c_65 => ?_)
        · replace HW := HW.1 c_65
          exact B84 K18 hK18 K43 hK43 x2 x3 x4 x5 h_52 g_52 _ _ _ HW hG (lv_sub hl [0, 1, 2, 3, 4] rfl)
        · replace HW := HW.2 c_65
          refine lv_iload_n hx hb dX1_reached_68 rfl (lv_at hl 1 rfl) ?_
          refine lv_aload_n hx hb dX1_reached_69 rfl (lv_at hl 0 rfl) ?_
          refine g_getr hx hb hw inG1 hown hK hG gl_109 rfl gk_109 (by decide) 0 (by decide) (by rw [gm_109]; decide) (r := 1) gr_109_0 lk27 dX1_reached_70 ?_
          refine g_getr hx hb hw inG6 hown hK hG gl_1 rfl gk_1 (by decide) 0 (by decide) (by rw [gm_1]; decide) (r := 2) gr_1_0 lk63 dX1_reached_73 ?_
          refine lv_iload hx hb dX1_reached_76 (lv_at hl 4 rfl) ?_
          refine lv_iconst (v := 4) hx hb dX1_reached_78 (by decide) ?_
          obtain ⟨P_79, HC_79, HW⟩ := HW
          refine g_calli (g_runV (As := [.int x5, .int (4 : Int32)]) (rest := [.int x2]) ⟨hx, hb, hml, hown, hts⟩ (m_X8_at l D cy ad h_52 g_52 H.size 2 (gs_2) x5 (4 : Int32) P_79 HC_79) (cwV 2 hts (gd_V (wm4 53 rfl rfl) (wm2 221 rfl rfl) (wm2 222 rfl rfl) (wm1 3 rfl rfl) (wm2 223 rfl rfl)) rfl rfl rfl (by decide +kernel) ⟨Nat.le_of_ble_eq_true rfl, Nat.le_of_ble_eq_true rfl⟩) hK hNw hG gl_2 rfl gk_2 (by decide) rfl rfl hl.1 rfl (lv_room (Nat.le_of_ble_eq_true rfl)) dX1_reached_79 ⟨Nat.zero_le _, Nat.zero_le _⟩) hG (fun r_79 h_79 g_79 H locs hq hG => ?_)
          replace HW := HW r_79 h_79 g_79 hq
          refine lv_ior hx hb dX1_reached_82 ?_
          refine lv_topi (fun x2_83 ex2_83 => ?_)
          replace HW := HW x2_83 ex2_83
          refine lv_istore_n (lv' := [(2, .int x2_83), (0, .ref (ad 109)), (3, .int x3), (4, .int x4), (5, .int x5)]) hx hb dX1_reached_83 rfl hl (by decide) rfl (fun ls hl => ?_)
          exact B84 K18 hK18 K43 hK43 x2_83 x3 x4 x5 h_79 g_79 _ _ _ HW hG (lv_sub hl [1, 0, 2, 3, 4] rfl)
  have L18 : ∀ (n : Nat) (x2 : Int32) (x3 : Int32) (x4 : Int32) (h : HI) (g : HL) (H : Heap) (locs : List Loc) (ls : Array Slot), lpN (F_X1_reached_18 Q) n (x2, x3, x4, h, g) → gG D cy ad (gA ad s.heap.size) s.heap h g H locs → lv_has ls 6 [(0, .ref (ad 109)), (2, .int x2), (3, .int x3), (4, .int x4)] → W p l e ({ frames := 1, cells := 0, slots := 0, locals := 23 } : Room) s m args below meth c H locs 0 0 (MQ below (va_Qi (fun (r : Int32) (u : HI × HL) => Q r u.1 u.2) (gB D cy ad s.heap.size) (gA ad s.heap.size)) args s 0 0 (gA ad s.heap.size)) (F0 m 18 ls []) := by
    intro n
    induction n with
    | zero => intro x2 x3 x4 h g H locs ls HW; exact HW.elim
    | succ n ih =>
      intro x2 x3 x4 h g H locs ls HW hG hl
      have HW : b_X1_reached_18 Q (fun x2 x3 x4 h g => lpN (F_X1_reached_18 Q) n (x2, x3, x4, h, g)) x2 x3 x4 h g := HW
      generalize hKe : (fun (x2 : Int32) (x3 : Int32) (x4 : Int32) (h : HI) (g : HL) => lpN (F_X1_reached_18 Q) n (x2, x3, x4, h, g)) = K18 at HW
      have hK18 : ∀ (x2 : Int32) (x3 : Int32) (x4 : Int32) (h : HI) (g : HL) (H : Heap) (locs : List Loc) (ls : Array Slot), K18 x2 x3 x4 h g → gG D cy ad (gA ad s.heap.size) s.heap h g H locs → lv_has ls 6 [(0, .ref (ad 109)), (2, .int x2), (3, .int x3), (4, .int x4)] → W p l e ({ frames := 1, cells := 0, slots := 0, locals := 23 } : Room) s m args below meth c H locs 0 0 (MQ below (va_Qi (fun (r : Int32) (u : HI × HL) => Q r u.1 u.2) (gB D cy ad s.heap.size) (gA ad s.heap.size)) args s 0 0 (gA ad s.heap.size)) (F0 m 18 ls []) := by subst hKe; exact ih
      clear ih
      clear hKe
      unfold b_X1_reached_18 at HW
      refine lv_iload hx hb dX1_reached_18 (lv_at hl 3 rfl) ?_
      refine lv_aload_n hx hb dX1_reached_20 rfl (lv_at hl 0 rfl) ?_
      refine g_getr hx hb hw inG1 hown hK hG gl_109 rfl gk_109 (by decide) 0 (by decide) (by rw [gm_109]; decide) (r := 1) gr_109_0 lk27 dX1_reached_21 ?_
      refine g_getr hx hb hw inG6 hown hK hG gl_1 rfl gk_1 (by decide) 0 (by decide) (by rw [gm_1]; decide) (r := 2) gr_1_0 lk63 dX1_reached_24 ?_
      obtain ⟨P_27, HC_27, HW⟩ := HW
      refine g_calli (g_runV (As := []) (rest := [.int x4]) ⟨hx, hb, hml, hown, hts⟩ (m_X8_rows l D cy ad h g H.size 2 (gs_2) P_27 HC_27) (cwV 0 hts (gd_V (wm4 116 rfl rfl) (wm2 217 rfl rfl) (wm2 218 rfl rfl) (wm1 3 rfl rfl) (wm2 219 rfl rfl)) rfl rfl rfl (by decide +kernel) ⟨Nat.le_of_ble_eq_true rfl, Nat.le_of_ble_eq_true rfl⟩) hK hNw hG gl_2 rfl gk_2 (by decide) rfl rfl hl.1 rfl (lv_room (Nat.le_of_ble_eq_true rfl)) dX1_reached_27 ⟨Nat.zero_le _, Nat.zero_le _⟩) hG (fun r_27 h_27 g_27 H locs hq hG => ?_)
      replace HW := HW r_27 h_27 g_27 hq
      refine lv_icmp_ge (tgt := 96) hx hb dX1_reached_30 (by decide) (fun c_30 => ?_) (fun c_30 => ?_)
      · replace HW := HW.1 c_30
        refine lv_iload_n hx hb dX1_reached_96 rfl (lv_at hl 1 rfl) ?_
        exact W.iret (v := x2) hx hb hr (fun t ht hW => ⟨⟨x2, (h_27, g_27), rfl, HW, g_B ht hG⟩, hG.2.2.F ht⟩) hG.2.2.2.2 dX1_reached_97
      · replace HW := HW.2 c_30
        refine lv_iload_n hx hb dX1_reached_33 rfl (lv_at hl 1 rfl) ?_
        refine lv_iload_n hx hb dX1_reached_34 rfl (lv_at hl 2 rfl) ?_
        refine lv_icmp_eq (tgt := 96) hx hb dX1_reached_35 (by decide) (fun c_35 => ?_) (fun c_35 => ?_)
        · replace HW := HW.1 c_35
          refine lv_iload_n hx hb dX1_reached_96 rfl (lv_at hl 1 rfl) ?_
          exact W.iret (v := x2) hx hb hr (fun t ht hW => ⟨⟨x2, (h_27, g_27), rfl, HW, g_B ht hG⟩, hG.2.2.F ht⟩) hG.2.2.2.2 dX1_reached_97
        · replace HW := HW.2 c_35
          refine lv_iload_n hx hb dX1_reached_38 rfl (lv_at hl 1 rfl) ?_
          refine lv_istore_n (lv' := [(3, .int x2), (0, .ref (ad 109)), (2, .int x2), (4, .int x4)]) hx hb dX1_reached_39 rfl hl (by decide) rfl (fun ls hl => ?_)
          refine lv_iconst (v := 0) hx hb dX1_reached_40 (by decide) ?_
          refine lv_istore (lv' := [(5, .int (0 : Int32)), (3, .int x2), (0, .ref (ad 109)), (2, .int x2), (4, .int x4)]) hx hb dX1_reached_41 hl (by decide) rfl (fun ls hl => ?_)
          obtain ⟨n_43, HW⟩ := HW
          exact L43 K18 hK18 n_43 x2 x2 x4 (0 : Int32) h_27 g_27 _ _ _ HW hG (lv_sub hl [2, 3, 1, 4, 0] rfl)
  have E0 : ∀ (H : Heap) (locs : List Loc) (ls : Array Slot), gG D cy ad (gA ad s.heap.size) s.heap h g H locs → lv_has ls 6 [(0, .ref (ad 109)), (1, .int x1)] → W p l e ({ frames := 1, cells := 0, slots := 0, locals := 23 } : Room) s m args below meth c H locs 0 0 (MQ below (va_Qi (fun (r : Int32) (u : HI × HL) => Q r u.1 u.2) (gB D cy ad s.heap.size) (gA ad s.heap.size)) args s 0 0 (gA ad s.heap.size)) (F0 m 0 ls []) := by
    intro H locs ls hG hl
    unfold w_X1_reached at HW
    refine lv_aload_n hx hb dX1_reached_0 rfl (lv_at hl 0 rfl) ?_
    refine g_getr hx hb hw inG1 hown hK hG gl_109 rfl gk_109 (by decide) 0 (by decide) (by rw [gm_109]; decide) (r := 1) gr_109_0 lk27 dX1_reached_1 ?_
    refine g_getr hx hb hw inG6 hown hK hG gl_1 rfl gk_1 (by decide) 0 (by decide) (by rw [gm_1]; decide) (r := 2) gr_1_0 lk63 dX1_reached_4 ?_
    refine lv_iload_n hx hb dX1_reached_7 rfl (lv_at hl 1 rfl) ?_
    refine lv_iconst (v := 4) hx hb dX1_reached_8 (by decide) ?_
    obtain ⟨P_9, HC_9, HW⟩ := HW
    refine g_calli (g_runV (As := [.int x1, .int (4 : Int32)]) (rest := []) ⟨hx, hb, hml, hown, hts⟩ (m_X8_at l D cy ad h g H.size 2 (gs_2) x1 (4 : Int32) P_9 HC_9) (cwV 2 hts (gd_V (wm4 53 rfl rfl) (wm2 221 rfl rfl) (wm2 222 rfl rfl) (wm1 3 rfl rfl) (wm2 223 rfl rfl)) rfl rfl rfl (by decide +kernel) ⟨Nat.le_of_ble_eq_true rfl, Nat.le_of_ble_eq_true rfl⟩) hK hNw hG gl_2 rfl gk_2 (by decide) rfl rfl hl.1 rfl (lv_room (Nat.le_of_ble_eq_true rfl)) dX1_reached_9 ⟨Nat.zero_le _, Nat.zero_le _⟩) hG (fun r_9 h_9 g_9 H locs hq hG => ?_)
    replace HW := HW r_9 h_9 g_9 hq
    refine lv_istore_n (lv' := [(2, .int r_9), (0, .ref (ad 109)), (1, .int x1)]) hx hb dX1_reached_12 rfl hl (by decide) rfl (fun ls hl => ?_)
    refine lv_iconst (v := 0) hx hb dX1_reached_13 (by decide) ?_
    refine lv_istore_n (lv' := [(3, .int (0 : Int32)), (2, .int r_9), (0, .ref (ad 109)), (1, .int x1)]) hx hb dX1_reached_14 rfl hl (by decide) rfl (fun ls hl => ?_)
    refine lv_iconst (v := 0) hx hb dX1_reached_15 (by decide) ?_
    refine lv_istore (lv' := [(4, .int (0 : Int32)), (3, .int (0 : Int32)), (2, .int r_9), (0, .ref (ad 109)), (1, .int x1)]) hx hb dX1_reached_16 hl (by decide) rfl (fun ls hl => ?_)
    obtain ⟨n_18, HW⟩ := HW
    exact L18 n_18 r_9 (0 : Int32) (0 : Int32) h_9 g_9 _ _ _ HW hG (lv_sub hl [3, 2, 1, 0] rfl)
  exact E0 _ _ _ hG hl

def w_X8_has (o : Nat) (x1 : Int32) (h : HI) (g : HL) (Q : Int32 → HI → HL → Prop) : Prop :=
  ((x1 < (0 : Int32) → Q (0 : Int32) h g) ∧ (¬ x1 < (0 : Int32) → (((h o 3) ≤ x1 → Q (0 : Int32) h g) ∧ (¬ (h o 3) ≤ x1 → Q (1 : Int32) h g))))
set_option maxHeartbeats 8000000 in
set_option maxRecDepth 100000 in
theorem m_X8_has (l : Launch) (D : va_G) (cy : Nat → ClassId) (ad : Nat → Nat) (h : HI) (g : HL) (sz : Nat) (o : Nat) (hT : isT o) (x1 : Int32) (Q : Int32 → HI → HL → Prop) (HW : w_X8_has o x1 h g Q) : Met l yX8_has (wa yX8_has cX8_has 2 (some .boolean)) ({ frames := 0, cells := 0, slots := 0, locals := 0 }) (va_Pc [.ref (ad o), .int x1] (gI D cy ad h g sz)) (va_Qi (fun (r : Int32) (u : HI × HL) => zb r ∧ Q r u.1 u.2) (gB D cy ad sz) (gA ad sz)) 0 0 (gA ad sz) := by
  refine Met.ofW (cc := cX8_has) (maxL := 2) (ret := (some .boolean)) (by decide) rfl ?_
  intro p e s m args below meth c s₁ B hml hv
  obtain ⟨hav, hsz, hP, hK, hD0, hNw⟩ := hv
  have hx := B.exec
  have hb := B.bytes
  have hr := B.returns
  have hts := atoms_spec (ws := (wa yX8_has cX8_has 2 (some .boolean))) B.pre
  have hw := wa_hw hts
  have hown : s.vm.findClass RX8 = some m.cls := findClass_of_methodNamed B.named
  have hlocks := B.notSynchronized
  subst hsz
  have hG : gG D cy ad (gA ad s.heap.size) s.heap h g s.heap [] := ⟨hP, gA_self hD0, va_S.rf⟩
  clear hP hD0
  have lk22 := hw (.fieldLink RX8 22 "OldWorks$Table" "many" "I") (wm1 40 rfl rfl)
  rw [show (headSpec (wa yX8_has cX8_has 2 (some .boolean)) ({ frames := 0, cells := 0, slots := 0, locals := 0 } : Room)).room = ({ frames := 0, cells := 0, slots := 0, locals := 0 } : Room) from rfl]
  have hl := lv_entry ([.ref (ad o), .int x1]) (n := 2) (Nat.le_of_ble_eq_true rfl)
  rw [show entryFrame m args 2 = entryFrame m ([.ref (ad o), .int x1] : List Value).toArray 2 from by rw [hav], lg_entry_eq]
  generalize (lg_sl ([.ref (ad o), .int x1]) ++ List.replicate (2 - (lg_sl ([.ref (ad o), .int x1])).length) Slot.unset).toArray = ls at hl ⊢
  have hl : lv_has ls 2 [(0, .ref (ad o)), (1, .int x1)] := hl
  have E0 : ∀ (H : Heap) (locs : List Loc) (ls : Array Slot), gG D cy ad (gA ad s.heap.size) s.heap h g H locs → lv_has ls 2 [(0, .ref (ad o)), (1, .int x1)] → W p l e ({ frames := 0, cells := 0, slots := 0, locals := 0 } : Room) s m args below meth c H locs 0 0 (MQ below (va_Qi (fun (r : Int32) (u : HI × HL) => zb r ∧ Q r u.1 u.2) (gB D cy ad s.heap.size) (gA ad s.heap.size)) args s 0 0 (gA ad s.heap.size)) (F0 m 0 ls []) := by
    intro H locs ls hG hl
    unfold w_X8_has at HW
    refine lv_iconst (v := 0) hx hb dX8_has_0 (by decide) ?_
    refine lv_iload_n hx hb dX8_has_1 rfl (lv_at hl 1 rfl) ?_
    refine lv_icmp_gt (tgt := 17) hx hb dX8_has_2 (by decide) (fun c_2 => ?_) (fun c_2 => ?_)
    · replace HW := HW.1 c_2
      refine lv_iconst (v := 0) hx hb dX8_has_17 (by decide) ?_
      exact W.zret (v := (0 : Int32)) hx hb hr rfl (fun t ht hW => ⟨⟨(0 : Int32), (h, g), rfl, ⟨Or.inl rfl, HW⟩, g_B ht hG⟩, hG.2.2.F ht⟩) hG.2.2.2.2 dX8_has_18
    · replace HW := HW.2 c_2
      refine lv_iload_n hx hb dX8_has_5 rfl (lv_at hl 1 rfl) ?_
      refine lv_aload_n hx hb dX8_has_6 rfl (lv_at hl 0 rfl) ?_
      refine g_geti hx hb hw inG8 hown hK hG hT.lt rfl hT.k (by decide) 3 (by decide) (by rw [hT.m]; decide) hT.r.2.2.2 lk22 dX8_has_7 ?_
      refine lv_icmp_ge (tgt := 17) hx hb dX8_has_10 (by decide) (fun c_10 => ?_) (fun c_10 => ?_)
      · replace HW := HW.1 c_10
        refine lv_iconst (v := 0) hx hb dX8_has_17 (by decide) ?_
        exact W.zret (v := (0 : Int32)) hx hb hr rfl (fun t ht hW => ⟨⟨(0 : Int32), (h, g), rfl, ⟨Or.inl rfl, HW⟩, g_B ht hG⟩, hG.2.2.F ht⟩) hG.2.2.2.2 dX8_has_18
      · replace HW := HW.2 c_10
        refine lv_iconst (v := 1) hx hb dX8_has_13 (by decide) ?_
        refine lv_goto (tgt := 18) hx hb dX8_has_14 (by decide) ?_
        exact W.zret (v := (1 : Int32)) hx hb hr rfl (fun t ht hW => ⟨⟨(1 : Int32), (h, g), rfl, ⟨Or.inr rfl, HW⟩, g_B ht hG⟩, hG.2.2.F ht⟩) hG.2.2.2.2 dX8_has_18
  exact E0 _ _ _ hG hl

def j_X7_chooseFamily_86 (Q : HI → HL → Prop) (s1 : Int32) (h : HI) (g : HL) : Prop :=
  (∀ h_88 : HI, h_88 = hu h 81 8 (s1 - (1 : Int32)) → Q h_88 g)
def j_X7_chooseFamily_61 (Q : HI → HL → Prop) (x1 : Int32) (x2 : Int32) (s1 : Int32) (h : HI) (g : HL) : Prop :=
  (∀ h_61 : HI, h_61 = hu h 81 7 s1 → ((x2 = 0 → j_X7_chooseFamily_86 Q (100000 : Int32) h_61 g) ∧ (¬ x2 = 0 → (∃ P_78 : Int32 → HI → HL → Prop, w_X8_at 4 x1 (2 : Int32) h_61 g P_78 ∧ ∀ (r_78 : Int32) (h_78 : HI) (g_78 : HL), P_78 r_78 h_78 g_78 → j_X7_chooseFamily_86 Q r_78 h_78 g_78))))
def j_X7_chooseFamily_33 (Q : HI → HL → Prop) (x1 : Int32) (x2 : Int32) (s1 : Int32) (h : HI) (g : HL) : Prop :=
  (∀ h_33 : HI, h_33 = hu h 81 6 s1 → ((x2 = 0 → j_X7_chooseFamily_61 Q x1 x2 (1 : Int32) h_33 g) ∧ (¬ x2 = 0 → (∃ P_51 : Int32 → HI → HL → Prop, w_X8_at 4 x1 (1 : Int32) h_33 g P_51 ∧ ∀ (r_51 : Int32) (h_51 : HI) (g_51 : HL), P_51 r_51 h_51 g_51 → j_X7_chooseFamily_61 Q x1 x2 (if (1 : Int32) < r_51 then r_51 else (1 : Int32)) h_51 g_51))))
def w_X7_chooseFamily (x1 : Int32) (h : HI) (g : HL) (Q : HI → HL → Prop) : Prop :=
  (∃ P_8 : Int32 → HI → HL → Prop, w_X8_has 4 x1 h g P_8 ∧ ∀ (r_8 : Int32) (h_8 : HI) (g_8 : HL), zb r_8 → P_8 r_8 h_8 g_8 → ((r_8 = 0 → j_X7_chooseFamily_33 Q x1 r_8 (1 : Int32) h_8 g_8) ∧ (¬ r_8 = 0 → (∃ P_26 : Int32 → HI → HL → Prop, w_X8_at 4 x1 (0 : Int32) h_8 g_8 P_26 ∧ ∀ (r_26 : Int32) (h_26 : HI) (g_26 : HL), P_26 r_26 h_26 g_26 → j_X7_chooseFamily_33 Q x1 r_8 r_26 h_26 g_26))))
set_option maxHeartbeats 8000000 in
set_option maxRecDepth 100000 in
theorem m_X7_chooseFamily (l : Launch) (D : va_G) (cy : Nat → ClassId) (ad : Nat → Nat) (h : HI) (g : HL) (sz : Nat) (x1 : Int32) (Q : HI → HL → Prop) (HW : w_X7_chooseFamily x1 h g Q) : Met l yX7_chooseFamily (wa yX7_chooseFamily cX7_chooseFamily 3 none) ({ frames := 1, cells := 0, slots := 0, locals := 32 }) (va_Pc [.ref (ad 81), .int x1] (gI D cy ad h g sz)) (va_Qv (fun (u : HI × HL) => Q u.1 u.2) (gB D cy ad sz) (gA ad sz)) 0 0 (gA ad sz) := by
  refine Met.ofW (cc := cX7_chooseFamily) (maxL := 3) (ret := none) (by decide) rfl ?_
  intro p e s m args below meth c s₁ B hml hv
  obtain ⟨hav, hsz, hP, hK, hD0, hNw⟩ := hv
  have hx := B.exec
  have hb := B.bytes
  have hr := B.returns
  have hts := atoms_spec (ws := (wa yX7_chooseFamily cX7_chooseFamily 3 none)) B.pre
  have hw := wa_hw hts
  have hown : s.vm.findClass RX7 = some m.cls := findClass_of_methodNamed B.named
  have hlocks := B.notSynchronized
  subst hsz
  have hG : gG D cy ad (gA ad s.heap.size) s.heap h g s.heap [] := ⟨hP, gA_self hD0, va_S.rf⟩
  clear hP hD0
  have lk9 := hw (.fieldLink RX7 9 "OldWorks$Sizes" "shop" "LOldWorks$Shop;") (wm1 168 rfl rfl)
  have lk62 := hw (.fieldLink RX7 62 "OldWorks$Shop" "families" "LOldWorks$Table;") (wm1 67 rfl rfl)
  have lk69 := hw (.fieldLink RX7 69 "OldWorks$Sizes" "base" "I") (wm1 174 rfl rfl)
  have ml72 := hw (.methodLink RX7 72 Lib.Math.max.name) (wm3 84 rfl rfl)
  have ms72 := hw (.static Lib.Math.max.name) (wm3 45 rfl rfl)
  have mi72 := hw (.initialized "java/lang/Math") (wm1 14 rfl rfl)
  have mc72 := hw (.code Lib.Math.max.name Lib.Math.max.code 2 (some .int)) (wm3 46 rfl rfl)
  have lk77 := hw (.fieldLink RX7 77 "OldWorks$Sizes" "step" "I") (wm1 175 rfl rfl)
  have cn80 := hw (.constant RX7 80 (100000)) (wm3 85 rfl rfl)
  have lk81 := hw (.fieldLink RX7 81 "OldWorks$Sizes" "last" "I") (wm1 176 rfl rfl)
  rw [show (headSpec (wa yX7_chooseFamily cX7_chooseFamily 3 none) ({ frames := 1, cells := 0, slots := 0, locals := 32 } : Room)).room = ({ frames := 1, cells := 0, slots := 0, locals := 32 } : Room) from rfl]
  have hl := lv_entry ([.ref (ad 81), .int x1]) (n := 3) (Nat.le_of_ble_eq_true rfl)
  rw [show entryFrame m args 3 = entryFrame m ([.ref (ad 81), .int x1] : List Value).toArray 3 from by rw [hav], lg_entry_eq]
  generalize (lg_sl ([.ref (ad 81), .int x1]) ++ List.replicate (3 - (lg_sl ([.ref (ad 81), .int x1])).length) Slot.unset).toArray = ls at hl ⊢
  have hl : lv_has ls 3 [(0, .ref (ad 81)), (1, .int x1)] := hl
  have B86 : ∀ (s1 : Int32) (h : HI) (g : HL) (H : Heap) (locs : List Loc) (ls : Array Slot), j_X7_chooseFamily_86 Q s1 h g → gG D cy ad (gA ad s.heap.size) s.heap h g H locs → lv_has ls 3 [] → W p l e ({ frames := 1, cells := 0, slots := 0, locals := 32 } : Room) s m args below meth c H locs 0 0 (MQ below (va_Qv (fun (u : HI × HL) => Q u.1 u.2) (gB D cy ad s.heap.size) (gA ad s.heap.size)) args s 0 0 (gA ad s.heap.size)) (F0 m 86 ls [.int s1, .ref (ad 81)]) := by
    intro s1 h g H locs ls HW hG hl
    unfold j_X7_chooseFamily_86 at HW
    refine lv_iconst (v := 1) hx hb dX7_chooseFamily_86 (by decide) ?_
    refine lv_isub hx hb dX7_chooseFamily_87 ?_
    refine g_put hx hb hw inG7 tyX7 tyX7_ok nmX7 hown hK hG gl_81 rfl gk_81 (by decide) 8 (by decide) (by rw [gm_81]; decide) gr_81_8 rfl (ty := .int) (by decide +kernel) rfl rfl lk81 dX7_chooseFamily_88 (fun H locs hG => ?_)
    obtain ⟨h_88, eh_88⟩ : ∃ y : HI, y = hu h 81 8 (s1 - (1 : Int32)) := ⟨_, rfl⟩
    rw [← eh_88] at hG
    replace HW := HW h_88 eh_88
    exact W.vret hx hb hr (fun t ht hW => ⟨⟨(h_88, g), rfl, HW, g_B ht hG⟩, hG.2.2.F ht⟩) hG.2.2.2.2 dX7_chooseFamily_91
  have B61 : ∀ (x1 : Int32) (x2 : Int32) (s1 : Int32) (h : HI) (g : HL) (H : Heap) (locs : List Loc) (ls : Array Slot), j_X7_chooseFamily_61 Q x1 x2 s1 h g → gG D cy ad (gA ad s.heap.size) s.heap h g H locs → lv_has ls 3 [(0, .ref (ad 81)), (1, .int x1), (2, .int x2)] → W p l e ({ frames := 1, cells := 0, slots := 0, locals := 32 } : Room) s m args below meth c H locs 0 0 (MQ below (va_Qv (fun (u : HI × HL) => Q u.1 u.2) (gB D cy ad s.heap.size) (gA ad s.heap.size)) args s 0 0 (gA ad s.heap.size)) (F0 m 61 ls [.int s1, .ref (ad 81)]) := by
    intro x1 x2 s1 h g H locs ls HW hG hl
    unfold j_X7_chooseFamily_61 at HW
    refine g_put hx hb hw inG7 tyX7 tyX7_ok nmX7 hown hK hG gl_81 rfl gk_81 (by decide) 7 (by decide) (by rw [gm_81]; decide) gr_81_7 rfl (ty := .int) (by decide +kernel) rfl rfl lk77 dX7_chooseFamily_61 (fun H locs hG => ?_)
    obtain ⟨h_61, eh_61⟩ : ∃ y : HI, y = hu h 81 7 s1 := ⟨_, rfl⟩
    rw [← eh_61] at hG
    replace HW := HW h_61 eh_61
    refine lv_aload_n hx hb dX7_chooseFamily_64 rfl (lv_at hl 0 rfl) ?_
    refine lv_iload_n hx hb dX7_chooseFamily_65 rfl (lv_at hl 2 rfl) ?_
    refine lv_if_eq (tgt := 84) hx hb dX7_chooseFamily_66 (by decide) (fun c_66 => ?_) (fun c_66 => ?_)
    · replace HW := HW.1 c_66
      refine lv_ldc (v := 100000) hx hb hown cn80 dX7_chooseFamily_84 ?_
      exact B86 (100000 : Int32) h_61 g _ _ _ HW hG (lv_sub hl [] rfl)
    · replace HW := HW.2 c_66
      refine lv_aload_n hx hb dX7_chooseFamily_69 rfl (lv_at hl 0 rfl) ?_
      refine g_getr hx hb hw inG7 hown hK hG gl_81 rfl gk_81 (by decide) 0 (by decide) (by rw [gm_81]; decide) (r := 1) gr_81_0 lk9 dX7_chooseFamily_70 ?_
      refine g_getr hx hb hw inG6 hown hK hG gl_1 rfl gk_1 (by decide) 1 (by decide) (by rw [gm_1]; decide) (r := 4) gr_1_1 lk62 dX7_chooseFamily_73 ?_
      refine lv_iload_n hx hb dX7_chooseFamily_76 rfl (lv_at hl 1 rfl) ?_
      refine lv_iconst (v := 2) hx hb dX7_chooseFamily_77 (by decide) ?_
      obtain ⟨P_78, HC_78, HW⟩ := HW
      refine g_calli (g_runV (As := [.int x1, .int (2 : Int32)]) (rest := [.ref (ad 81)]) ⟨hx, hb, hml, hown, hts⟩ (m_X8_at l D cy ad h_61 g H.size 4 (gs_4) x1 (2 : Int32) P_78 HC_78) (cwV 2 hts (gd_V (wm3 78 rfl rfl) (wm2 221 rfl rfl) (wm2 222 rfl rfl) (wm1 3 rfl rfl) (wm2 223 rfl rfl)) rfl rfl rfl (by decide +kernel) ⟨Nat.le_of_ble_eq_true rfl, Nat.le_of_ble_eq_true rfl⟩) hK hNw hG gl_4 rfl gk_4 (by decide) rfl rfl hl.1 rfl (lv_room (Nat.le_of_ble_eq_true rfl)) dX7_chooseFamily_78 ⟨Nat.zero_le _, Nat.zero_le _⟩) hG (fun r_78 h_78 g_78 H locs hq hG => ?_)
      replace HW := HW r_78 h_78 g_78 hq
      refine lv_goto (tgt := 86) hx hb dX7_chooseFamily_81 (by decide) ?_
      exact B86 r_78 h_78 g_78 _ _ _ HW hG (lv_sub hl [] rfl)
  have B33 : ∀ (x1 : Int32) (x2 : Int32) (s1 : Int32) (h : HI) (g : HL) (H : Heap) (locs : List Loc) (ls : Array Slot), j_X7_chooseFamily_33 Q x1 x2 s1 h g → gG D cy ad (gA ad s.heap.size) s.heap h g H locs → lv_has ls 3 [(0, .ref (ad 81)), (1, .int x1), (2, .int x2)] → W p l e ({ frames := 1, cells := 0, slots := 0, locals := 32 } : Room) s m args below meth c H locs 0 0 (MQ below (va_Qv (fun (u : HI × HL) => Q u.1 u.2) (gB D cy ad s.heap.size) (gA ad s.heap.size)) args s 0 0 (gA ad s.heap.size)) (F0 m 33 ls [.int s1, .ref (ad 81)]) := by
    intro x1 x2 s1 h g H locs ls HW hG hl
    unfold j_X7_chooseFamily_33 at HW
    refine g_put hx hb hw inG7 tyX7 tyX7_ok nmX7 hown hK hG gl_81 rfl gk_81 (by decide) 6 (by decide) (by rw [gm_81]; decide) gr_81_6 rfl (ty := .int) (by decide +kernel) rfl rfl lk69 dX7_chooseFamily_33 (fun H locs hG => ?_)
    obtain ⟨h_33, eh_33⟩ : ∃ y : HI, y = hu h 81 6 s1 := ⟨_, rfl⟩
    rw [← eh_33] at hG
    replace HW := HW h_33 eh_33
    refine lv_aload_n hx hb dX7_chooseFamily_36 rfl (lv_at hl 0 rfl) ?_
    refine lv_iload_n hx hb dX7_chooseFamily_37 rfl (lv_at hl 2 rfl) ?_
    refine lv_if_eq (tgt := 60) hx hb dX7_chooseFamily_38 (by decide) (fun c_38 => ?_) (fun c_38 => ?_)
    · replace HW := HW.1 c_38
      refine lv_iconst (v := 1) hx hb dX7_chooseFamily_60 (by decide) ?_
      exact B61 x1 x2 (1 : Int32) h_33 g _ _ _ HW hG (lv_sub hl [0, 1, 2] rfl)
    · replace HW := HW.2 c_38
      refine lv_iconst (v := 1) hx hb dX7_chooseFamily_41 (by decide) ?_
      refine lv_aload_n hx hb dX7_chooseFamily_42 rfl (lv_at hl 0 rfl) ?_
      refine g_getr hx hb hw inG7 hown hK hG gl_81 rfl gk_81 (by decide) 0 (by decide) (by rw [gm_81]; decide) (r := 1) gr_81_0 lk9 dX7_chooseFamily_43 ?_
      refine g_getr hx hb hw inG6 hown hK hG gl_1 rfl gk_1 (by decide) 1 (by decide) (by rw [gm_1]; decide) (r := 4) gr_1_1 lk62 dX7_chooseFamily_46 ?_
      refine lv_iload_n hx hb dX7_chooseFamily_49 rfl (lv_at hl 1 rfl) ?_
      refine lv_iconst (v := 1) hx hb dX7_chooseFamily_50 (by decide) ?_
      obtain ⟨P_51, HC_51, HW⟩ := HW
      refine g_calli (g_runV (As := [.int x1, .int (1 : Int32)]) (rest := [.int (1 : Int32), .ref (ad 81)]) ⟨hx, hb, hml, hown, hts⟩ (m_X8_at l D cy ad h_33 g H.size 4 (gs_4) x1 (1 : Int32) P_51 HC_51) (cwV 2 hts (gd_V (wm3 78 rfl rfl) (wm2 221 rfl rfl) (wm2 222 rfl rfl) (wm1 3 rfl rfl) (wm2 223 rfl rfl)) rfl rfl rfl (by decide +kernel) ⟨Nat.le_of_ble_eq_true rfl, Nat.le_of_ble_eq_true rfl⟩) hK hNw hG gl_4 rfl gk_4 (by decide) rfl rfl hl.1 rfl (lv_room (Nat.le_of_ble_eq_true rfl)) dX7_chooseFamily_51 ⟨Nat.zero_le _, Nat.zero_le _⟩) hG (fun r_51 h_51 g_51 H locs hq hG => ?_)
      replace HW := HW r_51 h_51 g_51 hq
      refine va_mmax hx hb (hml.trans hl.1.symm) hown ml72 ms72 mi72 mc72 (by decide) (Nat.le_of_ble_eq_true rfl) (Nat.zero_le _) (Nat.zero_le _) dX7_chooseFamily_54 ?_
      refine lv_goto (tgt := 61) hx hb dX7_chooseFamily_57 (by decide) ?_
      exact B61 x1 x2 (if (1 : Int32) < r_51 then r_51 else (1 : Int32)) h_51 g_51 _ _ _ HW hG (lv_sub hl [0, 1, 2] rfl)
  have E0 : ∀ (H : Heap) (locs : List Loc) (ls : Array Slot), gG D cy ad (gA ad s.heap.size) s.heap h g H locs → lv_has ls 3 [(0, .ref (ad 81)), (1, .int x1)] → W p l e ({ frames := 1, cells := 0, slots := 0, locals := 32 } : Room) s m args below meth c H locs 0 0 (MQ below (va_Qv (fun (u : HI × HL) => Q u.1 u.2) (gB D cy ad s.heap.size) (gA ad s.heap.size)) args s 0 0 (gA ad s.heap.size)) (F0 m 0 ls []) := by
    intro H locs ls hG hl
    unfold w_X7_chooseFamily at HW
    refine lv_aload_n hx hb dX7_chooseFamily_0 rfl (lv_at hl 0 rfl) ?_
    refine g_getr hx hb hw inG7 hown hK hG gl_81 rfl gk_81 (by decide) 0 (by decide) (by rw [gm_81]; decide) (r := 1) gr_81_0 lk9 dX7_chooseFamily_1 ?_
    refine g_getr hx hb hw inG6 hown hK hG gl_1 rfl gk_1 (by decide) 1 (by decide) (by rw [gm_1]; decide) (r := 4) gr_1_1 lk62 dX7_chooseFamily_4 ?_
    refine lv_iload_n hx hb dX7_chooseFamily_7 rfl (lv_at hl 1 rfl) ?_
    obtain ⟨P_8, HC_8, HW⟩ := HW
    refine g_callz (g_runV (As := [.int x1]) (rest := []) ⟨hx, hb, hml, hown, hts⟩ (m_X8_has l D cy ad h g H.size 4 (gs_4) x1 P_8 HC_8) (cwV 1 hts (gd_V (wm3 83 rfl rfl) (wm2 202 rfl rfl) (wm2 203 rfl rfl) (wm1 3 rfl rfl) (wm2 204 rfl rfl)) rfl rfl rfl (by decide +kernel) ⟨Nat.le_of_ble_eq_true rfl, Nat.le_of_ble_eq_true rfl⟩) hK hNw hG gl_4 rfl gk_4 (by decide) rfl rfl hl.1 rfl (lv_room (Nat.le_of_ble_eq_true rfl)) dX7_chooseFamily_8 ⟨Nat.zero_le _, Nat.zero_le _⟩) hG (fun r_8 h_8 g_8 H locs hz hq hG => ?_)
    replace HW := HW r_8 h_8 g_8 hz hq
    refine lv_istore_n (lv' := [(2, .int r_8), (0, .ref (ad 81)), (1, .int x1)]) hx hb dX7_chooseFamily_11 rfl hl (by decide) rfl (fun ls hl => ?_)
    refine lv_aload_n hx hb dX7_chooseFamily_12 rfl (lv_at hl 1 rfl) ?_
    refine lv_iload_n hx hb dX7_chooseFamily_13 rfl (lv_at hl 0 rfl) ?_
    refine lv_if_eq (tgt := 32) hx hb dX7_chooseFamily_14 (by decide) (fun c_14 => ?_) (fun c_14 => ?_)
    · replace HW := HW.1 c_14
      refine lv_iconst (v := 1) hx hb dX7_chooseFamily_32 (by decide) ?_
      exact B33 x1 r_8 (1 : Int32) h_8 g_8 _ _ _ HW hG (lv_sub hl [1, 2, 0] rfl)
    · replace HW := HW.2 c_14
      refine lv_aload_n hx hb dX7_chooseFamily_17 rfl (lv_at hl 1 rfl) ?_
      refine g_getr hx hb hw inG7 hown hK hG gl_81 rfl gk_81 (by decide) 0 (by decide) (by rw [gm_81]; decide) (r := 1) gr_81_0 lk9 dX7_chooseFamily_18 ?_
      refine g_getr hx hb hw inG6 hown hK hG gl_1 rfl gk_1 (by decide) 1 (by decide) (by rw [gm_1]; decide) (r := 4) gr_1_1 lk62 dX7_chooseFamily_21 ?_
      refine lv_iload_n hx hb dX7_chooseFamily_24 rfl (lv_at hl 2 rfl) ?_
      refine lv_iconst (v := 0) hx hb dX7_chooseFamily_25 (by decide) ?_
      obtain ⟨P_26, HC_26, HW⟩ := HW
      refine g_calli (g_runV (As := [.int x1, .int (0 : Int32)]) (rest := [.ref (ad 81)]) ⟨hx, hb, hml, hown, hts⟩ (m_X8_at l D cy ad h_8 g_8 H.size 4 (gs_4) x1 (0 : Int32) P_26 HC_26) (cwV 2 hts (gd_V (wm3 78 rfl rfl) (wm2 221 rfl rfl) (wm2 222 rfl rfl) (wm1 3 rfl rfl) (wm2 223 rfl rfl)) rfl rfl rfl (by decide +kernel) ⟨Nat.le_of_ble_eq_true rfl, Nat.le_of_ble_eq_true rfl⟩) hK hNw hG gl_4 rfl gk_4 (by decide) rfl rfl hl.1 rfl (lv_room (Nat.le_of_ble_eq_true rfl)) dX7_chooseFamily_26 ⟨Nat.zero_le _, Nat.zero_le _⟩) hG (fun r_26 h_26 g_26 H locs hq hG => ?_)
      replace HW := HW r_26 h_26 g_26 hq
      refine lv_goto (tgt := 33) hx hb dX7_chooseFamily_29 (by decide) ?_
      exact B33 x1 r_8 r_26 h_26 g_26 _ _ _ HW hG (lv_sub hl [1, 2, 0] rfl)
  exact E0 _ _ _ hG hl

def j_X4_joined_96 (Q : Int64 → HI → HL → Prop) (h : HI) (g : HL) : Prop :=
  Q (1 : Int64) h g
def w_X4_joined (x0 : Int32) (x1 : Int64) (x3 : Int64) (h : HI) (g : HL) (Q : Int64 → HI → HL → Prop) : Prop :=
  ((x0 = 38 → (((lg_cmp x1 (0 : Int64)) = 0 → Q (0 : Int64) h g) ∧ (¬ (lg_cmp x1 (0 : Int64)) = 0 → (((lg_cmp x3 (0 : Int64)) = 0 → Q (0 : Int64) h g) ∧ (¬ (lg_cmp x3 (0 : Int64)) = 0 → Q (1 : Int64) h g))))) ∧ (x0 = 42 → Q (x1 * x3) h g) ∧ (x0 = 43 → Q (x1 + x3) h g) ∧ (x0 = 45 → Q (x1 - x3) h g) ∧ (x0 = 47 → ((¬ (lg_cmp x3 (0 : Int64)) = 0 → (¬ x3 = 0 ∧ Q (x1 / x3) h g)) ∧ ((lg_cmp x3 (0 : Int64)) = 0 → Q (0 : Int64) h g))) ∧ (x0 = 60 → ((0 ≤ (lg_cmp x1 x3) → Q (0 : Int64) h g) ∧ (¬ 0 ≤ (lg_cmp x1 x3) → Q (1 : Int64) h g))) ∧ (x0 = 61 → ((¬ (lg_cmp x1 x3) = 0 → Q (0 : Int64) h g) ∧ ((lg_cmp x1 x3) = 0 → Q (1 : Int64) h g))) ∧ (x0 = 62 → (((lg_cmp x1 x3) ≤ 0 → Q (0 : Int64) h g) ∧ (¬ (lg_cmp x1 x3) ≤ 0 → Q (1 : Int64) h g))) ∧ (x0 = 124 → ((¬ (lg_cmp x1 (0 : Int64)) = 0 → j_X4_joined_96 Q h g) ∧ ((lg_cmp x1 (0 : Int64)) = 0 → (((lg_cmp x3 (0 : Int64)) = 0 → Q (0 : Int64) h g) ∧ (¬ (lg_cmp x3 (0 : Int64)) = 0 → j_X4_joined_96 Q h g))))) ∧ (¬ x0 = 38 → ¬ x0 = 42 → ¬ x0 = 43 → ¬ x0 = 45 → ¬ x0 = 47 → ¬ x0 = 60 → ¬ x0 = 61 → ¬ x0 = 62 → ¬ x0 = 124 → Q (0 : Int64) h g))
set_option maxHeartbeats 8000000 in
set_option maxRecDepth 100000 in
theorem m_X4_joined (l : Launch) (D : va_G) (cy : Nat → ClassId) (ad : Nat → Nat) (h : HI) (g : HL) (sz : Nat) (x0 : Int32) (x1 : Int64) (x3 : Int64) (Q : Int64 → HI → HL → Prop) (HW : w_X4_joined x0 x1 x3 h g Q) : Met l yX4_joined (wa yX4_joined cX4_joined 5 (some .long)) ({ frames := 0, cells := 0, slots := 0, locals := 0 }) (va_Pc [.int x0, .long x1, .long x3] (gI D cy ad h g sz)) (va_Ql (fun (r : Int64) (u : HI × HL) => Q r u.1 u.2) (gB D cy ad sz) (gA ad sz)) 0 0 (gA ad sz) := by
  refine Met.ofW (cc := cX4_joined) (maxL := 5) (ret := (some .long)) (by decide) rfl ?_
  intro p e s m args below meth c s₁ B hml hv
  obtain ⟨hav, hsz, hP, hK, hD0, hNw⟩ := hv
  have hx := B.exec
  have hb := B.bytes
  have hr := B.returns
  have hts := atoms_spec (ws := (wa yX4_joined cX4_joined 5 (some .long))) B.pre
  have hw := wa_hw hts
  have hown : s.vm.findClass RX4 = some m.cls := findClass_of_methodNamed B.named
  have hlocks := B.notSynchronized
  subst hsz
  have hG : gG D cy ad (gA ad s.heap.size) s.heap h g s.heap [] := ⟨hP, gA_self hD0, va_S.rf⟩
  clear hP hD0
  rw [show (headSpec (wa yX4_joined cX4_joined 5 (some .long)) ({ frames := 0, cells := 0, slots := 0, locals := 0 } : Room)).room = ({ frames := 0, cells := 0, slots := 0, locals := 0 } : Room) from rfl]
  have hl := lv_entry ([.int x0, .long x1, .long x3]) (n := 5) (Nat.le_of_ble_eq_true rfl)
  rw [show entryFrame m args 5 = entryFrame m ([.int x0, .long x1, .long x3] : List Value).toArray 5 from by rw [hav], lg_entry_eq]
  generalize (lg_sl ([.int x0, .long x1, .long x3]) ++ List.replicate (5 - (lg_sl ([.int x0, .long x1, .long x3])).length) Slot.unset).toArray = ls at hl ⊢
  have hl : lv_has ls 5 [(0, .int x0), (1, .long x1), (3, .long x3)] := hl
  have B96 : ∀ (h : HI) (g : HL) (H : Heap) (locs : List Loc) (ls : Array Slot), j_X4_joined_96 Q h g → gG D cy ad (gA ad s.heap.size) s.heap h g H locs → lv_has ls 5 [] → W p l e ({ frames := 0, cells := 0, slots := 0, locals := 0 } : Room) s m args below meth c H locs 0 0 (MQ below (va_Ql (fun (r : Int64) (u : HI × HL) => Q r u.1 u.2) (gB D cy ad s.heap.size) (gA ad s.heap.size)) args s 0 0 (gA ad s.heap.size)) (F0 m 96 ls []) := by
    intro  h g H locs ls HW hG hl
    unfold j_X4_joined_96 at HW
    refine lv_lconst (v := 1) hx hb dX4_joined_96 (by decide) ?_
    refine lv_goto (tgt := 101) hx hb dX4_joined_97 (by decide) ?_
    exact W.lret (v := (1 : Int64)) hx hb hr (fun t ht hW => ⟨⟨(1 : Int64), (h, g), rfl, HW, g_B ht hG⟩, hG.2.2.F ht⟩) hG.2.2.2.2 dX4_joined_101
  have E0 : ∀ (H : Heap) (locs : List Loc) (ls : Array Slot), gG D cy ad (gA ad s.heap.size) s.heap h g H locs → lv_has ls 5 [(0, .int x0), (1, .long x1), (3, .long x3)] → W p l e ({ frames := 0, cells := 0, slots := 0, locals := 0 } : Room) s m args below meth c H locs 0 0 (MQ below (va_Ql (fun (r : Int64) (u : HI × HL) => Q r u.1 u.2) (gB D cy ad s.heap.size) (gA ad s.heap.size)) args s 0 0 (gA ad s.heap.size)) (F0 m 0 ls []) := by
    intro H locs ls hG hl
    unfold w_X4_joined at HW
    refine lv_iload_n hx hb dX4_joined_0 rfl (lv_at hl 0 rfl) ?_
    by_cases c_1_0 : x0 = 38
    · replace HW := HW.1 c_1_0
      refine lv_lookup (tgt := 102) hx hb dX4_joined_1 (by decide) (by rw [c_1_0]; first | done | decide) (by decide) ?_
      refine lv_lload_n hx hb dX4_joined_102 rfl (lv_at hl 1 rfl) ?_
      refine lv_lconst (v := 0) hx hb dX4_joined_103 (by decide) ?_
      refine W.lcmp hx hb dX4_joined_104 ?_
      refine lv_if_eq (tgt := 118) hx hb dX4_joined_105 (by decide) (fun c_105 => ?_) (fun c_105 => ?_)
      · replace HW := HW.1 c_105
        refine lv_lconst (v := 0) hx hb dX4_joined_118 (by decide) ?_
        exact W.lret (v := (0 : Int64)) hx hb hr (fun t ht hW => ⟨⟨(0 : Int64), (h, g), rfl, HW, g_B ht hG⟩, hG.2.2.F ht⟩) hG.2.2.2.2 dX4_joined_119
      · replace HW := HW.2 c_105
        refine lv_lload_n hx hb dX4_joined_108 rfl (lv_at hl 2 rfl) ?_
        refine lv_lconst (v := 0) hx hb dX4_joined_109 (by decide) ?_
        refine W.lcmp hx hb dX4_joined_110 ?_
        refine lv_if_eq (tgt := 118) hx hb dX4_joined_111 (by decide) (fun c_111 => ?_) (fun c_111 => ?_)
        · replace HW := HW.1 c_111
          refine lv_lconst (v := 0) hx hb dX4_joined_118 (by decide) ?_
          exact W.lret (v := (0 : Int64)) hx hb hr (fun t ht hW => ⟨⟨(0 : Int64), (h, g), rfl, HW, g_B ht hG⟩, hG.2.2.F ht⟩) hG.2.2.2.2 dX4_joined_119
        · replace HW := HW.2 c_111
          refine lv_lconst (v := 1) hx hb dX4_joined_114 (by decide) ?_
          refine lv_goto (tgt := 119) hx hb dX4_joined_115 (by decide) ?_
          exact W.lret (v := (1 : Int64)) hx hb hr (fun t ht hW => ⟨⟨(1 : Int64), (h, g), rfl, HW, g_B ht hG⟩, hG.2.2.F ht⟩) hG.2.2.2.2 dX4_joined_119
    · by_cases c_1_1 : x0 = 42
      · replace HW := HW.2.1 c_1_1
        refine lv_lookup (tgt := 164) hx hb dX4_joined_1 (by decide) (by rw [c_1_1]; first | done | decide) (by decide) ?_
        refine lv_lload_n hx hb dX4_joined_164 rfl (lv_at hl 1 rfl) ?_
        refine lv_lload_n hx hb dX4_joined_165 rfl (lv_at hl 2 rfl) ?_
        refine lv_lmul hx hb dX4_joined_166 ?_
        exact W.lret (v := (x1 * x3)) hx hb hr (fun t ht hW => ⟨⟨(x1 * x3), (h, g), rfl, HW, g_B ht hG⟩, hG.2.2.F ht⟩) hG.2.2.2.2 dX4_joined_167
      · by_cases c_1_2 : x0 = 43
        · replace HW := HW.2.2.1 c_1_2
          refine lv_lookup (tgt := 156) hx hb dX4_joined_1 (by decide) (by rw [c_1_2]; first | done | decide) (by decide) ?_
          refine lv_lload_n hx hb dX4_joined_156 rfl (lv_at hl 1 rfl) ?_
          refine lv_lload_n hx hb dX4_joined_157 rfl (lv_at hl 2 rfl) ?_
          refine lv_ladd hx hb dX4_joined_158 ?_
          exact W.lret (v := (x1 + x3)) hx hb hr (fun t ht hW => ⟨⟨(x1 + x3), (h, g), rfl, HW, g_B ht hG⟩, hG.2.2.F ht⟩) hG.2.2.2.2 dX4_joined_159
        · by_cases c_1_3 : x0 = 45
          · replace HW := HW.2.2.2.1 c_1_3
            refine lv_lookup (tgt := 160) hx hb dX4_joined_1 (by decide) (by rw [c_1_3]; first | done | decide) (by decide) ?_
            refine lv_lload_n hx hb dX4_joined_160 rfl (lv_at hl 1 rfl) ?_
            refine lv_lload_n hx hb dX4_joined_161 rfl (lv_at hl 2 rfl) ?_
            refine lv_lsub hx hb dX4_joined_162 ?_
            exact W.lret (v := (x1 - x3)) hx hb hr (fun t ht hW => ⟨⟨(x1 - x3), (h, g), rfl, HW, g_B ht hG⟩, hG.2.2.F ht⟩) hG.2.2.2.2 dX4_joined_163
          · by_cases c_1_4 : x0 = 47
            · replace HW := HW.2.2.2.2.1 c_1_4
              refine lv_lookup (tgt := 168) hx hb dX4_joined_1 (by decide) (by rw [c_1_4]; first | done | decide) (by decide) ?_
              refine lv_lload_n hx hb dX4_joined_168 rfl (lv_at hl 2 rfl) ?_
              refine lv_lconst (v := 0) hx hb dX4_joined_169 (by decide) ?_
              refine W.lcmp hx hb dX4_joined_170 ?_
              refine lv_if_ne (tgt := 178) hx hb dX4_joined_171 (by decide) (fun c_171 => ?_) (fun c_171 => ?_)
              · replace HW := HW.1 c_171
                refine lv_lload_n hx hb dX4_joined_178 rfl (lv_at hl 1 rfl) ?_
                refine lv_lload_n hx hb dX4_joined_179 rfl (lv_at hl 2 rfl) ?_
                refine lv_ldiv hx hb dX4_joined_180 HW.1 ?_
                replace HW := HW.2
                exact W.lret (v := (x1 / x3)) hx hb hr (fun t ht hW => ⟨⟨(x1 / x3), (h, g), rfl, HW, g_B ht hG⟩, hG.2.2.F ht⟩) hG.2.2.2.2 dX4_joined_181
              · replace HW := HW.2 c_171
                refine lv_lconst (v := 0) hx hb dX4_joined_174 (by decide) ?_
                refine lv_goto (tgt := 181) hx hb dX4_joined_175 (by decide) ?_
                exact W.lret (v := (0 : Int64)) hx hb hr (fun t ht hW => ⟨⟨(0 : Int64), (h, g), rfl, HW, g_B ht hG⟩, hG.2.2.F ht⟩) hG.2.2.2.2 dX4_joined_181
            · by_cases c_1_5 : x0 = 60
              · replace HW := HW.2.2.2.2.2.1 c_1_5
                refine lv_lookup (tgt := 120) hx hb dX4_joined_1 (by decide) (by rw [c_1_5]; first | done | decide) (by decide) ?_
                refine lv_lload_n hx hb dX4_joined_120 rfl (lv_at hl 1 rfl) ?_
                refine lv_lload_n hx hb dX4_joined_121 rfl (lv_at hl 2 rfl) ?_
                refine W.lcmp hx hb dX4_joined_122 ?_
                refine lv_if_ge (tgt := 130) hx hb dX4_joined_123 (by decide) (fun c_123 => ?_) (fun c_123 => ?_)
                · replace HW := HW.1 c_123
                  refine lv_lconst (v := 0) hx hb dX4_joined_130 (by decide) ?_
                  exact W.lret (v := (0 : Int64)) hx hb hr (fun t ht hW => ⟨⟨(0 : Int64), (h, g), rfl, HW, g_B ht hG⟩, hG.2.2.F ht⟩) hG.2.2.2.2 dX4_joined_131
                · replace HW := HW.2 c_123
                  refine lv_lconst (v := 1) hx hb dX4_joined_126 (by decide) ?_
                  refine lv_goto (tgt := 131) hx hb dX4_joined_127 (by decide) ?_
                  exact W.lret (v := (1 : Int64)) hx hb hr (fun t ht hW => ⟨⟨(1 : Int64), (h, g), rfl, HW, g_B ht hG⟩, hG.2.2.F ht⟩) hG.2.2.2.2 dX4_joined_131
              · by_cases c_1_6 : x0 = 61
                · replace HW := HW.2.2.2.2.2.2.1 c_1_6
                  refine lv_lookup (tgt := 144) hx hb dX4_joined_1 (by decide) (by rw [c_1_6]; first | done | decide) (by decide) ?_
                  refine lv_lload_n hx hb dX4_joined_144 rfl (lv_at hl 1 rfl) ?_
                  refine lv_lload_n hx hb dX4_joined_145 rfl (lv_at hl 2 rfl) ?_
                  refine W.lcmp hx hb dX4_joined_146 ?_
                  refine lv_if_ne (tgt := 154) hx hb dX4_joined_147 (by decide) (fun c_147 => ?_) (fun c_147 => ?_)
                  · replace HW := HW.1 c_147
                    refine lv_lconst (v := 0) hx hb dX4_joined_154 (by decide) ?_
                    exact W.lret (v := (0 : Int64)) hx hb hr (fun t ht hW => ⟨⟨(0 : Int64), (h, g), rfl, HW, g_B ht hG⟩, hG.2.2.F ht⟩) hG.2.2.2.2 dX4_joined_155
                  · replace HW := HW.2 c_147
                    refine lv_lconst (v := 1) hx hb dX4_joined_150 (by decide) ?_
                    refine lv_goto (tgt := 155) hx hb dX4_joined_151 (by decide) ?_
                    exact W.lret (v := (1 : Int64)) hx hb hr (fun t ht hW => ⟨⟨(1 : Int64), (h, g), rfl, HW, g_B ht hG⟩, hG.2.2.F ht⟩) hG.2.2.2.2 dX4_joined_155
                · by_cases c_1_7 : x0 = 62
                  · replace HW := HW.2.2.2.2.2.2.2.1 c_1_7
                    refine lv_lookup (tgt := 132) hx hb dX4_joined_1 (by decide) (by rw [c_1_7]; first | done | decide) (by decide) ?_
                    refine lv_lload_n hx hb dX4_joined_132 rfl (lv_at hl 1 rfl) ?_
                    refine lv_lload_n hx hb dX4_joined_133 rfl (lv_at hl 2 rfl) ?_
                    refine W.lcmp hx hb dX4_joined_134 ?_
                    refine lv_if_le (tgt := 142) hx hb dX4_joined_135 (by decide) (fun c_135 => ?_) (fun c_135 => ?_)
                    · replace HW := HW.1 c_135
                      refine lv_lconst (v := 0) hx hb dX4_joined_142 (by decide) ?_
                      exact W.lret (v := (0 : Int64)) hx hb hr (fun t ht hW => ⟨⟨(0 : Int64), (h, g), rfl, HW, g_B ht hG⟩, hG.2.2.F ht⟩) hG.2.2.2.2 dX4_joined_143
                    · replace HW := HW.2 c_135
                      refine lv_lconst (v := 1) hx hb dX4_joined_138 (by decide) ?_
                      refine lv_goto (tgt := 143) hx hb dX4_joined_139 (by decide) ?_
                      exact W.lret (v := (1 : Int64)) hx hb hr (fun t ht hW => ⟨⟨(1 : Int64), (h, g), rfl, HW, g_B ht hG⟩, hG.2.2.F ht⟩) hG.2.2.2.2 dX4_joined_143
                  · by_cases c_1_8 : x0 = 124
                    · replace HW := HW.2.2.2.2.2.2.2.2.1 c_1_8
                      refine lv_lookup (tgt := 84) hx hb dX4_joined_1 (by decide) (by rw [c_1_8]; first | done | decide) (by decide) ?_
                      refine lv_lload_n hx hb dX4_joined_84 rfl (lv_at hl 1 rfl) ?_
                      refine lv_lconst (v := 0) hx hb dX4_joined_85 (by decide) ?_
                      refine W.lcmp hx hb dX4_joined_86 ?_
                      refine lv_if_ne (tgt := 96) hx hb dX4_joined_87 (by decide) (fun c_87 => ?_) (fun c_87 => ?_)
                      · replace HW := HW.1 c_87
                        exact B96 h g _ _ _ HW hG (lv_sub hl [] rfl)
                      · replace HW := HW.2 c_87
                        refine lv_lload_n hx hb dX4_joined_90 rfl (lv_at hl 2 rfl) ?_
                        refine lv_lconst (v := 0) hx hb dX4_joined_91 (by decide) ?_
                        refine W.lcmp hx hb dX4_joined_92 ?_
                        refine lv_if_eq (tgt := 100) hx hb dX4_joined_93 (by decide) (fun c_93 => ?_) (fun c_93 => ?_)
                        · replace HW := HW.1 c_93
                          refine lv_lconst (v := 0) hx hb dX4_joined_100 (by decide) ?_
                          exact W.lret (v := (0 : Int64)) hx hb hr (fun t ht hW => ⟨⟨(0 : Int64), (h, g), rfl, HW, g_B ht hG⟩, hG.2.2.F ht⟩) hG.2.2.2.2 dX4_joined_101
                        · replace HW := HW.2 c_93
                          exact B96 h g _ _ _ HW hG (lv_sub hl [] rfl)
                    · replace HW := HW.2.2.2.2.2.2.2.2.2 c_1_0 c_1_1 c_1_2 c_1_3 c_1_4 c_1_5 c_1_6 c_1_7 c_1_8
                      have z_1_0 : ¬ ((38 : Int) = (x0).toInt) := fun q => g_ne c_1_0 (n := 38) (by decide) q.symm
                      have z_1_1 : ¬ ((42 : Int) = (x0).toInt) := fun q => g_ne c_1_1 (n := 42) (by decide) q.symm
                      have z_1_2 : ¬ ((43 : Int) = (x0).toInt) := fun q => g_ne c_1_2 (n := 43) (by decide) q.symm
                      have z_1_3 : ¬ ((45 : Int) = (x0).toInt) := fun q => g_ne c_1_3 (n := 45) (by decide) q.symm
                      have z_1_4 : ¬ ((47 : Int) = (x0).toInt) := fun q => g_ne c_1_4 (n := 47) (by decide) q.symm
                      have z_1_5 : ¬ ((60 : Int) = (x0).toInt) := fun q => g_ne c_1_5 (n := 60) (by decide) q.symm
                      have z_1_6 : ¬ ((61 : Int) = (x0).toInt) := fun q => g_ne c_1_6 (n := 61) (by decide) q.symm
                      have z_1_7 : ¬ ((62 : Int) = (x0).toInt) := fun q => g_ne c_1_7 (n := 62) (by decide) q.symm
                      have z_1_8 : ¬ ((124 : Int) = (x0).toInt) := fun q => g_ne c_1_8 (n := 124) (by decide) q.symm
                      refine lv_lookup (tgt := 182) (off := 181) hx hb dX4_joined_1 (by decide) (by show Op.lookupswitch.offset [(38, 101), (42, 163), (43, 155), (45, 159), (47, 167), (60, 119), (61, 143), (62, 131), (124, 83)] (181) (x0).toInt = 181; rw [Op.lookupswitch.offset_cons, if_neg z_1_0, Op.lookupswitch.offset_cons, if_neg z_1_1, Op.lookupswitch.offset_cons, if_neg z_1_2, Op.lookupswitch.offset_cons, if_neg z_1_3, Op.lookupswitch.offset_cons, if_neg z_1_4, Op.lookupswitch.offset_cons, if_neg z_1_5, Op.lookupswitch.offset_cons, if_neg z_1_6, Op.lookupswitch.offset_cons, if_neg z_1_7, Op.lookupswitch.offset_cons, if_neg z_1_8, Op.lookupswitch.offset_nil]) (by decide) ?_
                      refine lv_lconst (v := 0) hx hb dX4_joined_182 (by decide) ?_
                      exact W.lret (v := (0 : Int64)) hx hb hr (fun t ht hW => ⟨⟨(0 : Int64), (h, g), rfl, HW, g_B ht hG⟩, hG.2.2.F ht⟩) hG.2.2.2.2 dX4_joined_183
  exact E0 _ _ _ hG hl

def j_X4_tells_243 (Q : Int64 → HI → HL → Prop) (x4 : Int32) (h : HI) (g : HL) : Prop :=
  ((x4 ≤ 0 → Q (0 : Int64) h g) ∧ (¬ x4 ≤ 0 → (vp_in (x4 - (1 : Int32)) 60 ∧ Q (g 80 (x4 - (1 : Int32)).toNatClampNeg) h g)))
def j_X4_tells_237 (Q : Int64 → HI → HL → Prop) (K6 : Int32 → Int32 → Int32 → Int32 → Int32 → HI → HL → Prop) (x1 : Int32) (x2 : Int32) (x3 : Int32) (x4 : Int32) (x5 : Int32) (h : HI) (g : HL) : Prop :=
  (∀ x5_237 : Int32, x5_237 = (x5 + 1) → K6 x1 x2 x3 x4 x5_237 h g)
def j_X4_tells_115 (Q : Int64 → HI → HL → Prop) (K6 : Int32 → Int32 → Int32 → Int32 → Int32 → HI → HL → Prop) (x1 : Int32) (x2 : Int32) (x3 : Int32) (x4 : Int32) (x5 : Int32) (s1 : Int32) (s2 : Int64) (h : HI) (g : HL) : Prop :=
  (vp_in s1 60 ∧ ∀ g_115 : HL, g_115 = hul g 80 s1.toNatClampNeg s2 → (∀ x4_116 : Int32, x4_116 = (x4 + 1) → j_X4_tells_237 Q K6 x1 x2 x3 x4_116 x5 h g_115))
def j_X4_tells_60 (Q : Int64 → HI → HL → Prop) (K6 : Int32 → Int32 → Int32 → Int32 → Int32 → HI → HL → Prop) (x1 : Int32) (x2 : Int32) (x3 : Int32) (x4 : Int32) (x5 : Int32) (x6 : Int32) (h : HI) (g : HL) : Prop :=
  ((x4 < (60 : Int32) → ((x6 < 0 → ((¬ x6 = (-121 : Int32) → ((¬ x6 = (-108 : Int32) → j_X4_tells_115 Q K6 x1 x2 x3 x4 x5 x4 ((x3).toInt64) h g) ∧ (x6 = (-108 : Int32) → j_X4_tells_115 Q K6 x1 x2 x3 x4 x5 x4 ((x2).toInt64) h g))) ∧ (x6 = (-121 : Int32) → j_X4_tells_115 Q K6 x1 x2 x3 x4 x5 x4 ((x1).toInt64) h g))) ∧ (¬ x6 < 0 → j_X4_tells_115 Q K6 x1 x2 x3 x4 x5 x4 ((x6).toInt64) h g))) ∧ (¬ x4 < (60 : Int32) → Q (0 : Int64) h g))
def j_X4_tells_191 (Q : Int64 → HI → HL → Prop) (K6 : Int32 → Int32 → Int32 → Int32 → Int32 → HI → HL → Prop) (x1 : Int32) (x2 : Int32) (x3 : Int32) (x4 : Int32) (x5 : Int32) (s1 : Int32) (s2 : Int64) (h : HI) (g : HL) : Prop :=
  (vp_in s1 60 ∧ ∀ g_191 : HL, g_191 = hul g 80 s1.toNatClampNeg s2 → j_X4_tells_237 Q K6 x1 x2 x3 x4 x5 h g_191)
def j_X4_tells_136 (Q : Int64 → HI → HL → Prop) (K6 : Int32 → Int32 → Int32 → Int32 → Int32 → HI → HL → Prop) (x1 : Int32) (x2 : Int32) (x3 : Int32) (x4 : Int32) (x5 : Int32) (x6 : Int32) (h : HI) (g : HL) : Prop :=
  (((1 : Int32) ≤ x4 → ((¬ x6 = (-126 : Int32) → (vp_in (x4 - (1 : Int32)) 60 ∧ ((¬ (lg_cmp (g 80 (x4 - (1 : Int32)).toNatClampNeg) (0 : Int64)) = 0 → j_X4_tells_191 Q K6 x1 x2 x3 x4 x5 (x4 - (1 : Int32)) (0 : Int64) h g) ∧ ((lg_cmp (g 80 (x4 - (1 : Int32)).toNatClampNeg) (0 : Int64)) = 0 → j_X4_tells_191 Q K6 x1 x2 x3 x4 x5 (x4 - (1 : Int32)) (1 : Int64) h g)))) ∧ (x6 = (-126 : Int32) → (vp_in (x4 - (1 : Int32)) 60 ∧ j_X4_tells_191 Q K6 x1 x2 x3 x4 x5 (x4 - (1 : Int32)) (-(g 80 (x4 - (1 : Int32)).toNatClampNeg)) h g)))) ∧ (¬ (1 : Int32) ≤ x4 → Q (0 : Int64) h g))
def b_X4_tells_6 (Q : Int64 → HI → HL → Prop) (K6 : Int32 → Int32 → Int32 → Int32 → Int32 → HI → HL → Prop) (x1 : Int32) (x2 : Int32) (x3 : Int32) (x4 : Int32) (x5 : Int32) (h : HI) (g : HL) : Prop :=
  (((h 77 4) ≤ x5 → j_X4_tells_243 Q x4 h g) ∧ (¬ (h 77 4) ≤ x5 → (((60 : Int32) ≤ x5 → j_X4_tells_243 Q x4 h g) ∧ (¬ (60 : Int32) ≤ x5 → (vp_in x5 60 ∧ (∀ x6_32 : Int32, x6_32 = (h 78 x5.toNatClampNeg) → ((0 ≤ x6_32 → j_X4_tells_60 Q K6 x1 x2 x3 x4 x5 x6_32 h g) ∧ (¬ 0 ≤ x6_32 → ((x6_32 = (-121 : Int32) → j_X4_tells_60 Q K6 x1 x2 x3 x4 x5 x6_32 h g) ∧ (¬ x6_32 = (-121 : Int32) → ((x6_32 = (-108 : Int32) → j_X4_tells_60 Q K6 x1 x2 x3 x4 x5 x6_32 h g) ∧ (¬ x6_32 = (-108 : Int32) → ((¬ x6_32 = (-104 : Int32) → ((x6_32 = (-33 : Int32) → j_X4_tells_136 Q K6 x1 x2 x3 x4 x5 x6_32 h g) ∧ (¬ x6_32 = (-33 : Int32) → ((¬ x6_32 = (-126 : Int32) → (((2 : Int32) ≤ x4 → (∀ x4_203 : Int32, x4_203 = (x4 + (-1)) → (vp_in (x4_203 - (1 : Int32)) 60 ∧ (vp_in x4_203 60 ∧ (∃ P_233 : Int64 → HI → HL → Prop, w_X4_joined (-x6_32) (g 80 (x4_203 - (1 : Int32)).toNatClampNeg) (g 80 x4_203.toNatClampNeg) h g P_233 ∧ ∀ (r_233 : Int64) (h_233 : HI) (g_233 : HL), P_233 r_233 h_233 g_233 → (vp_in (x4_203 - (1 : Int32)) 60 ∧ ∀ g_236 : HL, g_236 = hul g_233 80 (x4_203 - (1 : Int32)).toNatClampNeg r_233 → j_X4_tells_237 Q K6 x1 x2 x3 x4_203 x5 h_233 g_236)))))) ∧ (¬ (2 : Int32) ≤ x4 → Q (0 : Int64) h g))) ∧ (x6_32 = (-126 : Int32) → j_X4_tells_136 Q K6 x1 x2 x3 x4 x5 x6_32 h g))))) ∧ (x6_32 = (-104 : Int32) → j_X4_tells_60 Q K6 x1 x2 x3 x4 x5 x6_32 h g))))))))))))))
def F_X4_tells_6 (Q : Int64 → HI → HL → Prop) (K : Int32 × Int32 × Int32 × Int32 × Int32 × HI × HL → Prop) (q : Int32 × Int32 × Int32 × Int32 × Int32 × HI × HL) : Prop := b_X4_tells_6 Q (fun x1 x2 x3 x4 x5 h g => K (x1, x2, x3, x4, x5, h, g)) q.1 q.2.1 q.2.2.1 q.2.2.2.1 q.2.2.2.2.1 q.2.2.2.2.2.1 q.2.2.2.2.2.2
def w_X4_tells (x1 : Int32) (x2 : Int32) (x3 : Int32) (h : HI) (g : HL) (Q : Int64 → HI → HL → Prop) : Prop :=
  lpE (F_X4_tells_6 Q) (x1, x2, x3, (0 : Int32), (0 : Int32), h, g)
set_option maxHeartbeats 8000000 in
set_option maxRecDepth 100000 in
theorem m_X4_tells (l : Launch) (D : va_G) (cy : Nat → ClassId) (ad : Nat → Nat) (h : HI) (g : HL) (sz : Nat) (x1 : Int32) (x2 : Int32) (x3 : Int32) (Q : Int64 → HI → HL → Prop) (HW : w_X4_tells x1 x2 x3 h g Q) : Met l yX4_tells (wa yX4_tells cX4_tells 7 (some .long)) ({ frames := 1, cells := 0, slots := 0, locals := 24 }) (va_Pc [.ref (ad 77), .int x1, .int x2, .int x3] (gI D cy ad h g sz)) (va_Ql (fun (r : Int64) (u : HI × HL) => Q r u.1 u.2) (gB D cy ad sz) (gA ad sz)) 0 0 (gA ad sz) := by
  refine Met.ofW (cc := cX4_tells) (maxL := 7) (ret := (some .long)) (by decide) rfl ?_
  intro p e s m args below meth c s₁ B hml hv
  obtain ⟨hav, hsz, hP, hK, hD0, hNw⟩ := hv
  have hx := B.exec
  have hb := B.bytes
  have hr := B.returns
  have hts := atoms_spec (ws := (wa yX4_tells cX4_tells 7 (some .long))) B.pre
  have hw := wa_hw hts
  have hown : s.vm.findClass RX4 = some m.cls := findClass_of_methodNamed B.named
  have hlocks := B.notSynchronized
  subst hsz
  have hG : gG D cy ad (gA ad s.heap.size) s.heap h g s.heap [] := ⟨hP, gA_self hD0, va_S.rf⟩
  clear hP hD0
  have lk30 := hw (.fieldLink RX4 30 "OldWorks$Law" "written" "I") (wm1 133 rfl rfl)
  have lk11 := hw (.fieldLink RX4 11 "OldWorks$Law" "steps" "[I") (wm1 130 rfl rfl)
  have lk18 := hw (.fieldLink RX4 18 "OldWorks$Law" "pile" "[J") (wm1 132 rfl rfl)
  rw [show (headSpec (wa yX4_tells cX4_tells 7 (some .long)) ({ frames := 1, cells := 0, slots := 0, locals := 24 } : Room)).room = ({ frames := 1, cells := 0, slots := 0, locals := 24 } : Room) from rfl]
  have hl := lv_entry ([.ref (ad 77), .int x1, .int x2, .int x3]) (n := 7) (Nat.le_of_ble_eq_true rfl)
  rw [show entryFrame m args 7 = entryFrame m ([.ref (ad 77), .int x1, .int x2, .int x3] : List Value).toArray 7 from by rw [hav], lg_entry_eq]
  generalize (lg_sl ([.ref (ad 77), .int x1, .int x2, .int x3]) ++ List.replicate (7 - (lg_sl ([.ref (ad 77), .int x1, .int x2, .int x3])).length) Slot.unset).toArray = ls at hl ⊢
  have hl : lv_has ls 7 [(0, .ref (ad 77)), (1, .int x1), (2, .int x2), (3, .int x3)] := hl
  have B243 : ∀ (x4 : Int32) (h : HI) (g : HL) (H : Heap) (locs : List Loc) (ls : Array Slot), j_X4_tells_243 Q x4 h g → gG D cy ad (gA ad s.heap.size) s.heap h g H locs → lv_has ls 7 [(0, .ref (ad 77)), (4, .int x4)] → W p l e ({ frames := 1, cells := 0, slots := 0, locals := 24 } : Room) s m args below meth c H locs 0 0 (MQ below (va_Ql (fun (r : Int64) (u : HI × HL) => Q r u.1 u.2) (gB D cy ad s.heap.size) (gA ad s.heap.size)) args s 0 0 (gA ad s.heap.size)) (F0 m 243 ls []) := by
    intro x4 h g H locs ls HW hG hl
    unfold j_X4_tells_243 at HW
    refine lv_iload hx hb dX4_tells_243 (lv_at hl 1 rfl) ?_
    refine lv_if_le (tgt := 260) hx hb dX4_tells_245 (by decide) (fun c_245 => ?_) (fun c_245 => ?_)
    · replace HW := HW.1 c_245
      refine lv_lconst (v := 0) hx hb dX4_tells_260 (by decide) ?_
      exact W.lret (v := (0 : Int64)) hx hb hr (fun t ht hW => ⟨⟨(0 : Int64), (h, g), rfl, HW, g_B ht hG⟩, hG.2.2.F ht⟩) hG.2.2.2.2 dX4_tells_261
    · replace HW := HW.2 c_245
      refine lv_aload_n hx hb dX4_tells_248 rfl (lv_at hl 0 rfl) ?_
      refine g_getr hx hb hw inG4 hown hK hG gl_77 rfl gk_77 (by decide) 3 (by decide) (by rw [gm_77]; decide) (r := 80) gr_77_3 lk18 dX4_tells_249 ?_
      refine lv_iload hx hb dX4_tells_252 (lv_at hl 1 rfl) ?_
      refine lv_iconst (v := 1) hx hb dX4_tells_254 (by decide) ?_
      refine lv_isub hx hb dX4_tells_255 ?_
      refine g_lald hx hb hK hG gl_80 gk_80 gn_80 HW.1 dX4_tells_256 ?_
      replace HW := HW.2
      refine lv_goto (tgt := 261) hx hb dX4_tells_257 (by decide) ?_
      exact W.lret (v := (g 80 (x4 - (1 : Int32)).toNatClampNeg)) hx hb hr (fun t ht hW => ⟨⟨(g 80 (x4 - (1 : Int32)).toNatClampNeg), (h, g), rfl, HW, g_B ht hG⟩, hG.2.2.F ht⟩) hG.2.2.2.2 dX4_tells_261
  have B237 : ∀ (K6 : Int32 → Int32 → Int32 → Int32 → Int32 → HI → HL → Prop) (hK6 : ∀ (x1 : Int32) (x2 : Int32) (x3 : Int32) (x4 : Int32) (x5 : Int32) (h : HI) (g : HL) (H : Heap) (locs : List Loc) (ls : Array Slot), K6 x1 x2 x3 x4 x5 h g → gG D cy ad (gA ad s.heap.size) s.heap h g H locs → lv_has ls 7 [(0, .ref (ad 77)), (1, .int x1), (2, .int x2), (3, .int x3), (4, .int x4), (5, .int x5)] → W p l e ({ frames := 1, cells := 0, slots := 0, locals := 24 } : Room) s m args below meth c H locs 0 0 (MQ below (va_Ql (fun (r : Int64) (u : HI × HL) => Q r u.1 u.2) (gB D cy ad s.heap.size) (gA ad s.heap.size)) args s 0 0 (gA ad s.heap.size)) (F0 m 6 ls [])) (x1 : Int32) (x2 : Int32) (x3 : Int32) (x4 : Int32) (x5 : Int32) (h : HI) (g : HL) (H : Heap) (locs : List Loc) (ls : Array Slot), j_X4_tells_237 Q K6 x1 x2 x3 x4 x5 h g → gG D cy ad (gA ad s.heap.size) s.heap h g H locs → lv_has ls 7 [(0, .ref (ad 77)), (1, .int x1), (2, .int x2), (3, .int x3), (4, .int x4), (5, .int x5)] → W p l e ({ frames := 1, cells := 0, slots := 0, locals := 24 } : Room) s m args below meth c H locs 0 0 (MQ below (va_Ql (fun (r : Int64) (u : HI × HL) => Q r u.1 u.2) (gB D cy ad s.heap.size) (gA ad s.heap.size)) args s 0 0 (gA ad s.heap.size)) (F0 m 237 ls []) := by
    intro K6 hK6 x1 x2 x3 x4 x5 h g H locs ls HW hG hl
    unfold j_X4_tells_237 at HW
    obtain ⟨x5_237, ex5_237⟩ : ∃ y : Int32, y = (x5 + 1) := ⟨_, rfl⟩
    replace HW := HW x5_237 ex5_237
    refine lv_iinc (v := x5_237) (lv' := [(5, .int x5_237), (0, .ref (ad 77)), (1, .int x1), (2, .int x2), (3, .int x3), (4, .int x4)]) hx hb dX4_tells_237 hl (k := 5) rfl (by rw [ex5_237]; rfl) (by decide) rfl (fun ls hl => ?_)
    refine lv_goto (tgt := 6) hx hb dX4_tells_240 (by decide) ?_
    exact hK6 x1 x2 x3 x4 x5_237 h g _ _ _ HW hG (lv_sub hl [1, 2, 3, 4, 5, 0] rfl)
  have B115 : ∀ (K6 : Int32 → Int32 → Int32 → Int32 → Int32 → HI → HL → Prop) (hK6 : ∀ (x1 : Int32) (x2 : Int32) (x3 : Int32) (x4 : Int32) (x5 : Int32) (h : HI) (g : HL) (H : Heap) (locs : List Loc) (ls : Array Slot), K6 x1 x2 x3 x4 x5 h g → gG D cy ad (gA ad s.heap.size) s.heap h g H locs → lv_has ls 7 [(0, .ref (ad 77)), (1, .int x1), (2, .int x2), (3, .int x3), (4, .int x4), (5, .int x5)] → W p l e ({ frames := 1, cells := 0, slots := 0, locals := 24 } : Room) s m args below meth c H locs 0 0 (MQ below (va_Ql (fun (r : Int64) (u : HI × HL) => Q r u.1 u.2) (gB D cy ad s.heap.size) (gA ad s.heap.size)) args s 0 0 (gA ad s.heap.size)) (F0 m 6 ls [])) (x1 : Int32) (x2 : Int32) (x3 : Int32) (x4 : Int32) (x5 : Int32) (s1 : Int32) (s2 : Int64) (h : HI) (g : HL) (H : Heap) (locs : List Loc) (ls : Array Slot), j_X4_tells_115 Q K6 x1 x2 x3 x4 x5 s1 s2 h g → gG D cy ad (gA ad s.heap.size) s.heap h g H locs → lv_has ls 7 [(0, .ref (ad 77)), (1, .int x1), (2, .int x2), (3, .int x3), (4, .int x4), (5, .int x5)] → W p l e ({ frames := 1, cells := 0, slots := 0, locals := 24 } : Room) s m args below meth c H locs 0 0 (MQ below (va_Ql (fun (r : Int64) (u : HI × HL) => Q r u.1 u.2) (gB D cy ad s.heap.size) (gA ad s.heap.size)) args s 0 0 (gA ad s.heap.size)) (F0 m 115 ls [.long s2, .int s1, .ref (ad 80)]) := by
    intro K6 hK6 x1 x2 x3 x4 x5 s1 s2 h g H locs ls HW hG hl
    unfold j_X4_tells_115 at HW
    refine g_last hx hb hK hG gl_80 gk_80 gn_80 HW.1 dX4_tells_115 (fun H locs hG => ?_)
    replace HW := HW.2
    obtain ⟨g_115, eg_115⟩ : ∃ y : HL, y = hul g 80 s1.toNatClampNeg s2 := ⟨_, rfl⟩
    rw [← eg_115] at hG
    replace HW := HW g_115 eg_115
    obtain ⟨x4_116, ex4_116⟩ : ∃ y : Int32, y = (x4 + 1) := ⟨_, rfl⟩
    replace HW := HW x4_116 ex4_116
    refine lv_iinc (v := x4_116) (lv' := [(4, .int x4_116), (0, .ref (ad 77)), (1, .int x1), (2, .int x2), (3, .int x3), (5, .int x5)]) hx hb dX4_tells_116 hl (k := 4) rfl (by rw [ex4_116]; rfl) (by decide) rfl (fun ls hl => ?_)
    refine lv_goto (tgt := 237) hx hb dX4_tells_119 (by decide) ?_
    exact B237 K6 hK6 x1 x2 x3 x4_116 x5 h g_115 _ _ _ HW hG (lv_sub hl [1, 2, 3, 4, 0, 5] rfl)
  have B60 : ∀ (K6 : Int32 → Int32 → Int32 → Int32 → Int32 → HI → HL → Prop) (hK6 : ∀ (x1 : Int32) (x2 : Int32) (x3 : Int32) (x4 : Int32) (x5 : Int32) (h : HI) (g : HL) (H : Heap) (locs : List Loc) (ls : Array Slot), K6 x1 x2 x3 x4 x5 h g → gG D cy ad (gA ad s.heap.size) s.heap h g H locs → lv_has ls 7 [(0, .ref (ad 77)), (1, .int x1), (2, .int x2), (3, .int x3), (4, .int x4), (5, .int x5)] → W p l e ({ frames := 1, cells := 0, slots := 0, locals := 24 } : Room) s m args below meth c H locs 0 0 (MQ below (va_Ql (fun (r : Int64) (u : HI × HL) => Q r u.1 u.2) (gB D cy ad s.heap.size) (gA ad s.heap.size)) args s 0 0 (gA ad s.heap.size)) (F0 m 6 ls [])) (x1 : Int32) (x2 : Int32) (x3 : Int32) (x4 : Int32) (x5 : Int32) (x6 : Int32) (h : HI) (g : HL) (H : Heap) (locs : List Loc) (ls : Array Slot), j_X4_tells_60 Q K6 x1 x2 x3 x4 x5 x6 h g → gG D cy ad (gA ad s.heap.size) s.heap h g H locs → lv_has ls 7 [(0, .ref (ad 77)), (1, .int x1), (2, .int x2), (3, .int x3), (4, .int x4), (5, .int x5), (6, .int x6)] → W p l e ({ frames := 1, cells := 0, slots := 0, locals := 24 } : Room) s m args below meth c H locs 0 0 (MQ below (va_Ql (fun (r : Int64) (u : HI × HL) => Q r u.1 u.2) (gB D cy ad s.heap.size) (gA ad s.heap.size)) args s 0 0 (gA ad s.heap.size)) (F0 m 60 ls []) := by
    intro K6 hK6 x1 x2 x3 x4 x5 x6 h g H locs ls HW hG hl
    unfold j_X4_tells_60 at HW
    refine lv_iload hx hb dX4_tells_60 (lv_at hl 4 rfl) ?_
    refine lv_aload_n hx hb dX4_tells_62 rfl (lv_at hl 0 rfl) ?_
    refine g_getr hx hb hw inG4 hown hK hG gl_77 rfl gk_77 (by decide) 3 (by decide) (by rw [gm_77]; decide) (r := 80) gr_77_3 lk18 dX4_tells_63 ?_
    refine g_alenj hx hb hK hG gl_80 gk_80 (v := (60 : Int32)) (by rw [gn_80]; decide) dX4_tells_66 ?_
    refine lv_icmp_lt (tgt := 72) hx hb dX4_tells_67 (by decide) (fun c_67 => ?_) (fun c_67 => ?_)
    · replace HW := HW.1 c_67
      refine lv_aload_n hx hb dX4_tells_72 rfl (lv_at hl 0 rfl) ?_
      refine g_getr hx hb hw inG4 hown hK hG gl_77 rfl gk_77 (by decide) 3 (by decide) (by rw [gm_77]; decide) (r := 80) gr_77_3 lk18 dX4_tells_73 ?_
      refine lv_iload hx hb dX4_tells_76 (lv_at hl 4 rfl) ?_
      refine lv_iload hx hb dX4_tells_78 (lv_at hl 6 rfl) ?_
      refine lv_if_lt (tgt := 89) hx hb dX4_tells_80 (by decide) (fun c_80 => ?_) (fun c_80 => ?_)
      · replace HW := HW.1 c_80
        refine lv_iload hx hb dX4_tells_89 (lv_at hl 6 rfl) ?_
        refine lv_bipush (v := (-121)) hx hb dX4_tells_91 (by decide) ?_
        refine lv_icmp_ne (tgt := 101) hx hb dX4_tells_93 (by decide) (fun c_93 => ?_) (fun c_93 => ?_)
        · replace HW := HW.1 c_93
          refine lv_iload hx hb dX4_tells_101 (lv_at hl 6 rfl) ?_
          refine lv_bipush (v := (-108)) hx hb dX4_tells_103 (by decide) ?_
          refine lv_icmp_ne (tgt := 113) hx hb dX4_tells_105 (by decide) (fun c_105 => ?_) (fun c_105 => ?_)
          · replace HW := HW.1 c_105
            refine lv_iload_n hx hb dX4_tells_113 rfl (lv_at hl 3 rfl) ?_
            refine lv_i2l hx hb dX4_tells_114 rfl ?_
            exact B115 K6 hK6 x1 x2 x3 x4 x5 x4 ((x3).toInt64) h g _ _ _ HW hG (lv_sub hl [0, 1, 2, 3, 4, 5] rfl)
          · replace HW := HW.2 c_105
            refine lv_iload_n hx hb dX4_tells_108 rfl (lv_at hl 2 rfl) ?_
            refine lv_i2l hx hb dX4_tells_109 rfl ?_
            refine lv_goto (tgt := 115) hx hb dX4_tells_110 (by decide) ?_
            exact B115 K6 hK6 x1 x2 x3 x4 x5 x4 ((x2).toInt64) h g _ _ _ HW hG (lv_sub hl [0, 1, 2, 3, 4, 5] rfl)
        · replace HW := HW.2 c_93
          refine lv_iload_n hx hb dX4_tells_96 rfl (lv_at hl 1 rfl) ?_
          refine lv_i2l hx hb dX4_tells_97 rfl ?_
          refine lv_goto (tgt := 115) hx hb dX4_tells_98 (by decide) ?_
          exact B115 K6 hK6 x1 x2 x3 x4 x5 x4 ((x1).toInt64) h g _ _ _ HW hG (lv_sub hl [0, 1, 2, 3, 4, 5] rfl)
      · replace HW := HW.2 c_80
        refine lv_iload hx hb dX4_tells_83 (lv_at hl 6 rfl) ?_
        refine lv_i2l hx hb dX4_tells_85 rfl ?_
        refine lv_goto (tgt := 115) hx hb dX4_tells_86 (by decide) ?_
        exact B115 K6 hK6 x1 x2 x3 x4 x5 x4 ((x6).toInt64) h g _ _ _ HW hG (lv_sub hl [0, 1, 2, 3, 4, 5] rfl)
    · replace HW := HW.2 c_67
      refine lv_lconst (v := 0) hx hb dX4_tells_70 (by decide) ?_
      exact W.lret (v := (0 : Int64)) hx hb hr (fun t ht hW => ⟨⟨(0 : Int64), (h, g), rfl, HW, g_B ht hG⟩, hG.2.2.F ht⟩) hG.2.2.2.2 dX4_tells_71
  have B191 : ∀ (K6 : Int32 → Int32 → Int32 → Int32 → Int32 → HI → HL → Prop) (hK6 : ∀ (x1 : Int32) (x2 : Int32) (x3 : Int32) (x4 : Int32) (x5 : Int32) (h : HI) (g : HL) (H : Heap) (locs : List Loc) (ls : Array Slot), K6 x1 x2 x3 x4 x5 h g → gG D cy ad (gA ad s.heap.size) s.heap h g H locs → lv_has ls 7 [(0, .ref (ad 77)), (1, .int x1), (2, .int x2), (3, .int x3), (4, .int x4), (5, .int x5)] → W p l e ({ frames := 1, cells := 0, slots := 0, locals := 24 } : Room) s m args below meth c H locs 0 0 (MQ below (va_Ql (fun (r : Int64) (u : HI × HL) => Q r u.1 u.2) (gB D cy ad s.heap.size) (gA ad s.heap.size)) args s 0 0 (gA ad s.heap.size)) (F0 m 6 ls [])) (x1 : Int32) (x2 : Int32) (x3 : Int32) (x4 : Int32) (x5 : Int32) (s1 : Int32) (s2 : Int64) (h : HI) (g : HL) (H : Heap) (locs : List Loc) (ls : Array Slot), j_X4_tells_191 Q K6 x1 x2 x3 x4 x5 s1 s2 h g → gG D cy ad (gA ad s.heap.size) s.heap h g H locs → lv_has ls 7 [(0, .ref (ad 77)), (1, .int x1), (2, .int x2), (3, .int x3), (4, .int x4), (5, .int x5)] → W p l e ({ frames := 1, cells := 0, slots := 0, locals := 24 } : Room) s m args below meth c H locs 0 0 (MQ below (va_Ql (fun (r : Int64) (u : HI × HL) => Q r u.1 u.2) (gB D cy ad s.heap.size) (gA ad s.heap.size)) args s 0 0 (gA ad s.heap.size)) (F0 m 191 ls [.long s2, .int s1, .ref (ad 80)]) := by
    intro K6 hK6 x1 x2 x3 x4 x5 s1 s2 h g H locs ls HW hG hl
    unfold j_X4_tells_191 at HW
    refine g_last hx hb hK hG gl_80 gk_80 gn_80 HW.1 dX4_tells_191 (fun H locs hG => ?_)
    replace HW := HW.2
    obtain ⟨g_191, eg_191⟩ : ∃ y : HL, y = hul g 80 s1.toNatClampNeg s2 := ⟨_, rfl⟩
    rw [← eg_191] at hG
    replace HW := HW g_191 eg_191
    refine lv_goto (tgt := 237) hx hb dX4_tells_192 (by decide) ?_
    exact B237 K6 hK6 x1 x2 x3 x4 x5 h g_191 _ _ _ HW hG (lv_sub hl [0, 1, 2, 3, 4, 5] rfl)
  have B136 : ∀ (K6 : Int32 → Int32 → Int32 → Int32 → Int32 → HI → HL → Prop) (hK6 : ∀ (x1 : Int32) (x2 : Int32) (x3 : Int32) (x4 : Int32) (x5 : Int32) (h : HI) (g : HL) (H : Heap) (locs : List Loc) (ls : Array Slot), K6 x1 x2 x3 x4 x5 h g → gG D cy ad (gA ad s.heap.size) s.heap h g H locs → lv_has ls 7 [(0, .ref (ad 77)), (1, .int x1), (2, .int x2), (3, .int x3), (4, .int x4), (5, .int x5)] → W p l e ({ frames := 1, cells := 0, slots := 0, locals := 24 } : Room) s m args below meth c H locs 0 0 (MQ below (va_Ql (fun (r : Int64) (u : HI × HL) => Q r u.1 u.2) (gB D cy ad s.heap.size) (gA ad s.heap.size)) args s 0 0 (gA ad s.heap.size)) (F0 m 6 ls [])) (x1 : Int32) (x2 : Int32) (x3 : Int32) (x4 : Int32) (x5 : Int32) (x6 : Int32) (h : HI) (g : HL) (H : Heap) (locs : List Loc) (ls : Array Slot), j_X4_tells_136 Q K6 x1 x2 x3 x4 x5 x6 h g → gG D cy ad (gA ad s.heap.size) s.heap h g H locs → lv_has ls 7 [(0, .ref (ad 77)), (1, .int x1), (2, .int x2), (3, .int x3), (4, .int x4), (5, .int x5), (6, .int x6)] → W p l e ({ frames := 1, cells := 0, slots := 0, locals := 24 } : Room) s m args below meth c H locs 0 0 (MQ below (va_Ql (fun (r : Int64) (u : HI × HL) => Q r u.1 u.2) (gB D cy ad s.heap.size) (gA ad s.heap.size)) args s 0 0 (gA ad s.heap.size)) (F0 m 136 ls []) := by
    intro K6 hK6 x1 x2 x3 x4 x5 x6 h g H locs ls HW hG hl
    unfold j_X4_tells_136 at HW
    refine lv_iload hx hb dX4_tells_136 (lv_at hl 4 rfl) ?_
    refine lv_iconst (v := 1) hx hb dX4_tells_138 (by decide) ?_
    refine lv_icmp_ge (tgt := 144) hx hb dX4_tells_139 (by decide) (fun c_139 => ?_) (fun c_139 => ?_)
    · replace HW := HW.1 c_139
      refine lv_aload_n hx hb dX4_tells_144 rfl (lv_at hl 0 rfl) ?_
      refine g_getr hx hb hw inG4 hown hK hG gl_77 rfl gk_77 (by decide) 3 (by decide) (by rw [gm_77]; decide) (r := 80) gr_77_3 lk18 dX4_tells_145 ?_
      refine lv_iload hx hb dX4_tells_148 (lv_at hl 4 rfl) ?_
      refine lv_iconst (v := 1) hx hb dX4_tells_150 (by decide) ?_
      refine lv_isub hx hb dX4_tells_151 ?_
      refine lv_iload hx hb dX4_tells_152 (lv_at hl 6 rfl) ?_
      refine lv_bipush (v := (-126)) hx hb dX4_tells_154 (by decide) ?_
      refine lv_icmp_ne (tgt := 172) hx hb dX4_tells_156 (by decide) (fun c_156 => ?_) (fun c_156 => ?_)
      · replace HW := HW.1 c_156
        refine lv_aload_n hx hb dX4_tells_172 rfl (lv_at hl 0 rfl) ?_
        refine g_getr hx hb hw inG4 hown hK hG gl_77 rfl gk_77 (by decide) 3 (by decide) (by rw [gm_77]; decide) (r := 80) gr_77_3 lk18 dX4_tells_173 ?_
        refine lv_iload hx hb dX4_tells_176 (lv_at hl 4 rfl) ?_
        refine lv_iconst (v := 1) hx hb dX4_tells_178 (by decide) ?_
        refine lv_isub hx hb dX4_tells_179 ?_
        refine g_lald hx hb hK hG gl_80 gk_80 gn_80 HW.1 dX4_tells_180 ?_
        replace HW := HW.2
        refine lv_lconst (v := 0) hx hb dX4_tells_181 (by decide) ?_
        refine W.lcmp hx hb dX4_tells_182 ?_
        refine lv_if_ne (tgt := 190) hx hb dX4_tells_183 (by decide) (fun c_183 => ?_) (fun c_183 => ?_)
        · replace HW := HW.1 c_183
          refine lv_lconst (v := 0) hx hb dX4_tells_190 (by decide) ?_
          exact B191 K6 hK6 x1 x2 x3 x4 x5 (x4 - (1 : Int32)) (0 : Int64) h g _ _ _ HW hG (lv_sub hl [0, 1, 2, 3, 4, 5] rfl)
        · replace HW := HW.2 c_183
          refine lv_lconst (v := 1) hx hb dX4_tells_186 (by decide) ?_
          refine lv_goto (tgt := 191) hx hb dX4_tells_187 (by decide) ?_
          exact B191 K6 hK6 x1 x2 x3 x4 x5 (x4 - (1 : Int32)) (1 : Int64) h g _ _ _ HW hG (lv_sub hl [0, 1, 2, 3, 4, 5] rfl)
      · replace HW := HW.2 c_156
        refine lv_aload_n hx hb dX4_tells_159 rfl (lv_at hl 0 rfl) ?_
        refine g_getr hx hb hw inG4 hown hK hG gl_77 rfl gk_77 (by decide) 3 (by decide) (by rw [gm_77]; decide) (r := 80) gr_77_3 lk18 dX4_tells_160 ?_
        refine lv_iload hx hb dX4_tells_163 (lv_at hl 4 rfl) ?_
        refine lv_iconst (v := 1) hx hb dX4_tells_165 (by decide) ?_
        refine lv_isub hx hb dX4_tells_166 ?_
        refine g_lald hx hb hK hG gl_80 gk_80 gn_80 HW.1 dX4_tells_167 ?_
        replace HW := HW.2
        refine lv_lneg hx hb dX4_tells_168 ?_
        refine lv_goto (tgt := 191) hx hb dX4_tells_169 (by decide) ?_
        exact B191 K6 hK6 x1 x2 x3 x4 x5 (x4 - (1 : Int32)) (-(g 80 (x4 - (1 : Int32)).toNatClampNeg)) h g _ _ _ HW hG (lv_sub hl [0, 1, 2, 3, 4, 5] rfl)
    · replace HW := HW.2 c_139
      refine lv_lconst (v := 0) hx hb dX4_tells_142 (by decide) ?_
      exact W.lret (v := (0 : Int64)) hx hb hr (fun t ht hW => ⟨⟨(0 : Int64), (h, g), rfl, HW, g_B ht hG⟩, hG.2.2.F ht⟩) hG.2.2.2.2 dX4_tells_143
  have L6 : ∀ (n : Nat) (x1 : Int32) (x2 : Int32) (x3 : Int32) (x4 : Int32) (x5 : Int32) (h : HI) (g : HL) (H : Heap) (locs : List Loc) (ls : Array Slot), lpN (F_X4_tells_6 Q) n (x1, x2, x3, x4, x5, h, g) → gG D cy ad (gA ad s.heap.size) s.heap h g H locs → lv_has ls 7 [(0, .ref (ad 77)), (1, .int x1), (2, .int x2), (3, .int x3), (4, .int x4), (5, .int x5)] → W p l e ({ frames := 1, cells := 0, slots := 0, locals := 24 } : Room) s m args below meth c H locs 0 0 (MQ below (va_Ql (fun (r : Int64) (u : HI × HL) => Q r u.1 u.2) (gB D cy ad s.heap.size) (gA ad s.heap.size)) args s 0 0 (gA ad s.heap.size)) (F0 m 6 ls []) := by
    intro n
    induction n with
    | zero => intro x1 x2 x3 x4 x5 h g H locs ls HW; exact HW.elim
    | succ n ih =>
      intro x1 x2 x3 x4 x5 h g H locs ls HW hG hl
      have HW : b_X4_tells_6 Q (fun x1 x2 x3 x4 x5 h g => lpN (F_X4_tells_6 Q) n (x1, x2, x3, x4, x5, h, g)) x1 x2 x3 x4 x5 h g := HW
      generalize hKe : (fun (x1 : Int32) (x2 : Int32) (x3 : Int32) (x4 : Int32) (x5 : Int32) (h : HI) (g : HL) => lpN (F_X4_tells_6 Q) n (x1, x2, x3, x4, x5, h, g)) = K6 at HW
      have hK6 : ∀ (x1 : Int32) (x2 : Int32) (x3 : Int32) (x4 : Int32) (x5 : Int32) (h : HI) (g : HL) (H : Heap) (locs : List Loc) (ls : Array Slot), K6 x1 x2 x3 x4 x5 h g → gG D cy ad (gA ad s.heap.size) s.heap h g H locs → lv_has ls 7 [(0, .ref (ad 77)), (1, .int x1), (2, .int x2), (3, .int x3), (4, .int x4), (5, .int x5)] → W p l e ({ frames := 1, cells := 0, slots := 0, locals := 24 } : Room) s m args below meth c H locs 0 0 (MQ below (va_Ql (fun (r : Int64) (u : HI × HL) => Q r u.1 u.2) (gB D cy ad s.heap.size) (gA ad s.heap.size)) args s 0 0 (gA ad s.heap.size)) (F0 m 6 ls []) := by subst hKe; exact ih
      clear ih
      clear hKe
      unfold b_X4_tells_6 at HW
      refine lv_iload hx hb dX4_tells_6 (lv_at hl 5 rfl) ?_
      refine lv_aload_n hx hb dX4_tells_8 rfl (lv_at hl 0 rfl) ?_
      refine g_geti hx hb hw inG4 hown hK hG gl_77 rfl gk_77 (by decide) 4 (by decide) (by rw [gm_77]; decide) gr_77_4 lk30 dX4_tells_9 ?_
      refine lv_icmp_ge (tgt := 243) hx hb dX4_tells_12 (by decide) (fun c_12 => ?_) (fun c_12 => ?_)
      · replace HW := HW.1 c_12
        exact B243 x4 h g _ _ _ HW hG (lv_sub hl [0, 4] rfl)
      · replace HW := HW.2 c_12
        refine lv_iload hx hb dX4_tells_15 (lv_at hl 5 rfl) ?_
        refine lv_aload_n hx hb dX4_tells_17 rfl (lv_at hl 0 rfl) ?_
        refine g_getr hx hb hw inG4 hown hK hG gl_77 rfl gk_77 (by decide) 1 (by decide) (by rw [gm_77]; decide) (r := 78) gr_77_1 lk11 dX4_tells_18 ?_
        refine g_alen hx hb hK hG gl_78 gk_78 (v := (60 : Int32)) (by rw [gn_78]; decide) dX4_tells_21 ?_
        refine lv_icmp_ge (tgt := 243) hx hb dX4_tells_22 (by decide) (fun c_22 => ?_) (fun c_22 => ?_)
        · replace HW := HW.1 c_22
          exact B243 x4 h g _ _ _ HW hG (lv_sub hl [0, 4] rfl)
        · replace HW := HW.2 c_22
          refine lv_aload_n hx hb dX4_tells_25 rfl (lv_at hl 0 rfl) ?_
          refine g_getr hx hb hw inG4 hown hK hG gl_77 rfl gk_77 (by decide) 1 (by decide) (by rw [gm_77]; decide) (r := 78) gr_77_1 lk11 dX4_tells_26 ?_
          refine lv_iload hx hb dX4_tells_29 (lv_at hl 5 rfl) ?_
          refine g_iald hx hb hK hG gl_78 gk_78 gn_78 HW.1 dX4_tells_31 ?_
          replace HW := HW.2
          refine lv_topi (fun x6_32 ex6_32 => ?_)
          replace HW := HW x6_32 ex6_32
          refine lv_istore (lv' := [(6, .int x6_32), (0, .ref (ad 77)), (1, .int x1), (2, .int x2), (3, .int x3), (4, .int x4), (5, .int x5)]) hx hb dX4_tells_32 hl (by decide) rfl (fun ls hl => ?_)
          refine lv_iload hx hb dX4_tells_34 (lv_at hl 0 rfl) ?_
          refine lv_if_ge (tgt := 60) hx hb dX4_tells_36 (by decide) (fun c_36 => ?_) (fun c_36 => ?_)
          · replace HW := HW.1 c_36
            exact B60 K6 hK6 x1 x2 x3 x4 x5 x6_32 h g _ _ _ HW hG (lv_sub hl [1, 2, 3, 4, 5, 6, 0] rfl)
          · replace HW := HW.2 c_36
            refine lv_iload hx hb dX4_tells_39 (lv_at hl 0 rfl) ?_
            refine lv_bipush (v := (-121)) hx hb dX4_tells_41 (by decide) ?_
            refine lv_icmp_eq (tgt := 60) hx hb dX4_tells_43 (by decide) (fun c_43 => ?_) (fun c_43 => ?_)
            · replace HW := HW.1 c_43
              exact B60 K6 hK6 x1 x2 x3 x4 x5 x6_32 h g _ _ _ HW hG (lv_sub hl [1, 2, 3, 4, 5, 6, 0] rfl)
            · replace HW := HW.2 c_43
              refine lv_iload hx hb dX4_tells_46 (lv_at hl 0 rfl) ?_
              refine lv_bipush (v := (-108)) hx hb dX4_tells_48 (by decide) ?_
              refine lv_icmp_eq (tgt := 60) hx hb dX4_tells_50 (by decide) (fun c_50 => ?_) (fun c_50 => ?_)
              · replace HW := HW.1 c_50
                exact B60 K6 hK6 x1 x2 x3 x4 x5 x6_32 h g _ _ _ HW hG (lv_sub hl [1, 2, 3, 4, 5, 6, 0] rfl)
              · replace HW := HW.2 c_50
                refine lv_iload hx hb dX4_tells_53 (lv_at hl 0 rfl) ?_
                refine lv_bipush (v := (-104)) hx hb dX4_tells_55 (by decide) ?_
                refine lv_icmp_ne (tgt := 122) hx hb dX4_tells_57 (by decide) (fun c_57 => ?_) (fun c_57 => ?_)
                · replace HW := HW.1 c_57
                  refine lv_iload hx hb dX4_tells_122 (lv_at hl 0 rfl) ?_
                  refine lv_bipush (v := (-33)) hx hb dX4_tells_124 (by decide) ?_
                  refine lv_icmp_eq (tgt := 136) hx hb dX4_tells_126 (by decide) (fun c_126 => ?_) (fun c_126 => ?_)
                  · replace HW := HW.1 c_126
                    exact B136 K6 hK6 x1 x2 x3 x4 x5 x6_32 h g _ _ _ HW hG (lv_sub hl [1, 2, 3, 4, 5, 6, 0] rfl)
                  · replace HW := HW.2 c_126
                    refine lv_iload hx hb dX4_tells_129 (lv_at hl 0 rfl) ?_
                    refine lv_bipush (v := (-126)) hx hb dX4_tells_131 (by decide) ?_
                    refine lv_icmp_ne (tgt := 195) hx hb dX4_tells_133 (by decide) (fun c_133 => ?_) (fun c_133 => ?_)
                    · replace HW := HW.1 c_133
                      refine lv_iload hx hb dX4_tells_195 (lv_at hl 5 rfl) ?_
                      refine lv_iconst (v := 2) hx hb dX4_tells_197 (by decide) ?_
                      refine lv_icmp_ge (tgt := 203) hx hb dX4_tells_198 (by decide) (fun c_198 => ?_) (fun c_198 => ?_)
                      · replace HW := HW.1 c_198
                        obtain ⟨x4_203, ex4_203⟩ : ∃ y : Int32, y = (x4 + (-1)) := ⟨_, rfl⟩
                        replace HW := HW x4_203 ex4_203
                        refine lv_iinc (v := x4_203) (lv' := [(4, .int x4_203), (6, .int x6_32), (0, .ref (ad 77)), (1, .int x1), (2, .int x2), (3, .int x3), (5, .int x5)]) hx hb dX4_tells_203 hl (k := 5) rfl (by rw [ex4_203]; rfl) (by decide) rfl (fun ls hl => ?_)
                        refine lv_aload_n hx hb dX4_tells_206 rfl (lv_at hl 2 rfl) ?_
                        refine g_getr hx hb hw inG4 hown hK hG gl_77 rfl gk_77 (by decide) 3 (by decide) (by rw [gm_77]; decide) (r := 80) gr_77_3 lk18 dX4_tells_207 ?_
                        refine lv_iload hx hb dX4_tells_210 (lv_at hl 0 rfl) ?_
                        refine lv_iconst (v := 1) hx hb dX4_tells_212 (by decide) ?_
                        refine lv_isub hx hb dX4_tells_213 ?_
                        refine lv_iload hx hb dX4_tells_214 (lv_at hl 1 rfl) ?_
                        refine lv_ineg hx hb dX4_tells_216 ?_
                        refine lv_aload_n hx hb dX4_tells_217 rfl (lv_at hl 2 rfl) ?_
                        refine g_getr hx hb hw inG4 hown hK hG gl_77 rfl gk_77 (by decide) 3 (by decide) (by rw [gm_77]; decide) (r := 80) gr_77_3 lk18 dX4_tells_218 ?_
                        refine lv_iload hx hb dX4_tells_221 (lv_at hl 0 rfl) ?_
                        refine lv_iconst (v := 1) hx hb dX4_tells_223 (by decide) ?_
                        refine lv_isub hx hb dX4_tells_224 ?_
                        refine g_lald hx hb hK hG gl_80 gk_80 gn_80 HW.1 dX4_tells_225 ?_
                        replace HW := HW.2
                        refine lv_aload_n hx hb dX4_tells_226 rfl (lv_at hl 2 rfl) ?_
                        refine g_getr hx hb hw inG4 hown hK hG gl_77 rfl gk_77 (by decide) 3 (by decide) (by rw [gm_77]; decide) (r := 80) gr_77_3 lk18 dX4_tells_227 ?_
                        refine lv_iload hx hb dX4_tells_230 (lv_at hl 0 rfl) ?_
                        refine g_lald hx hb hK hG gl_80 gk_80 gn_80 HW.1 dX4_tells_232 ?_
                        replace HW := HW.2
                        obtain ⟨P_233, HC_233, HW⟩ := HW
                        refine g_calll (g_runS (As := [.int (-x6_32), .long (g 80 (x4_203 - (1 : Int32)).toNatClampNeg), .long (g 80 x4_203.toNatClampNeg)]) (rest := [.int (x4_203 - (1 : Int32)), .ref (ad 80)]) ⟨hx, hb, hml, hown, hts⟩ (m_X4_joined l D cy ad h g H.size (-x6_32) (g 80 (x4_203 - (1 : Int32)).toNatClampNeg) (g 80 x4_203.toNatClampNeg) P_233 HC_233) (va_cwS 3 hts (gd_S (wm3 51 rfl rfl) (wm3 52 rfl rfl) (wm1 4 rfl rfl) (wm3 53 rfl rfl)) rfl rfl rfl (by decide +kernel) ⟨Nat.le_of_ble_eq_true rfl, Nat.le_of_ble_eq_true rfl⟩) hK hNw hG rfl rfl hl.1 rfl (lv_room (Nat.le_of_ble_eq_true rfl)) dX4_tells_233 ⟨Nat.zero_le _, Nat.zero_le _⟩) hG (fun r_233 h_233 g_233 H locs hq hG => ?_)
                        replace HW := HW r_233 h_233 g_233 hq
                        refine g_last hx hb hK hG gl_80 gk_80 gn_80 HW.1 dX4_tells_236 (fun H locs hG => ?_)
                        replace HW := HW.2
                        obtain ⟨g_236, eg_236⟩ : ∃ y : HL, y = hul g_233 80 (x4_203 - (1 : Int32)).toNatClampNeg r_233 := ⟨_, rfl⟩
                        rw [← eg_236] at hG
                        replace HW := HW g_236 eg_236
                        exact B237 K6 hK6 x1 x2 x3 x4_203 x5 h_233 g_236 _ _ _ HW hG (lv_sub hl [2, 3, 4, 5, 0, 6] rfl)
                      · replace HW := HW.2 c_198
                        refine lv_lconst (v := 0) hx hb dX4_tells_201 (by decide) ?_
                        exact W.lret (v := (0 : Int64)) hx hb hr (fun t ht hW => ⟨⟨(0 : Int64), (h, g), rfl, HW, g_B ht hG⟩, hG.2.2.F ht⟩) hG.2.2.2.2 dX4_tells_202
                    · replace HW := HW.2 c_133
                      exact B136 K6 hK6 x1 x2 x3 x4 x5 x6_32 h g _ _ _ HW hG (lv_sub hl [1, 2, 3, 4, 5, 6, 0] rfl)
                · replace HW := HW.2 c_57
                  exact B60 K6 hK6 x1 x2 x3 x4 x5 x6_32 h g _ _ _ HW hG (lv_sub hl [1, 2, 3, 4, 5, 6, 0] rfl)
  have E0 : ∀ (H : Heap) (locs : List Loc) (ls : Array Slot), gG D cy ad (gA ad s.heap.size) s.heap h g H locs → lv_has ls 7 [(0, .ref (ad 77)), (1, .int x1), (2, .int x2), (3, .int x3)] → W p l e ({ frames := 1, cells := 0, slots := 0, locals := 24 } : Room) s m args below meth c H locs 0 0 (MQ below (va_Ql (fun (r : Int64) (u : HI × HL) => Q r u.1 u.2) (gB D cy ad s.heap.size) (gA ad s.heap.size)) args s 0 0 (gA ad s.heap.size)) (F0 m 0 ls []) := by
    intro H locs ls hG hl
    unfold w_X4_tells at HW
    refine lv_iconst (v := 0) hx hb dX4_tells_0 (by decide) ?_
    refine lv_istore (lv' := [(4, .int (0 : Int32)), (0, .ref (ad 77)), (1, .int x1), (2, .int x2), (3, .int x3)]) hx hb dX4_tells_1 hl (by decide) rfl (fun ls hl => ?_)
    refine lv_iconst (v := 0) hx hb dX4_tells_3 (by decide) ?_
    refine lv_istore (lv' := [(5, .int (0 : Int32)), (4, .int (0 : Int32)), (0, .ref (ad 77)), (1, .int x1), (2, .int x2), (3, .int x3)]) hx hb dX4_tells_4 hl (by decide) rfl (fun ls hl => ?_)
    obtain ⟨n_6, HW⟩ := HW
    exact L6 n_6 x1 x2 x3 (0 : Int32) (0 : Int32) h g _ _ _ HW hG (lv_sub hl [2, 3, 4, 5, 1, 0] rfl)
  exact E0 _ _ _ hG hl
end
section
-- 03.w02
def w_X4_wornOf (x1 : Int32) (x2 : Int32) (h : HI) (g : HL) (Q : Int32 → HI → HL → Prop) : Prop :=
  (∃ P_11 : Int32 → HI → HL → Prop, w_X8_at 2 x1 (2 : Int32) h g P_11 ∧ ∀ (r_11 : Int32) (h_11 : HI) (g_11 : HL), P_11 r_11 h_11 g_11 → (∀ x3_18 : Int32, x3_18 = (if (0 : Int32) < (x2 - r_11) then (x2 - r_11) else (0 : Int32)) → (((h_11 77 9) = (-1 : Int32) → (∃ P_40 : Int32 → HI → HL → Prop, w_X8_at 2 x1 (0 : Int32) h_11 g_11 P_40 ∧ ∀ (r_40 : Int32) (h_40 : HI) (g_40 : HL), P_40 r_40 h_40 g_40 → (∃ P_52 : Int32 → HI → HL → Prop, w_X8_at 2 x1 (1 : Int32) h_40 g_40 P_52 ∧ ∀ (r_52 : Int32) (h_52 : HI) (g_52 : HL), P_52 r_52 h_52 g_52 → (∃ P_55 : Int64 → HI → HL → Prop, w_X4_tells x3_18 r_40 r_52 h_52 g_52 P_55 ∧ ∀ (r_55 : Int64) (h_55 : HI) (g_55 : HL), P_55 r_55 h_55 g_55 → Q (((if (if r_55 < (10000 : Int64) then r_55 else (10000 : Int64)) < (0 : Int64) then (0 : Int64) else (if r_55 < (10000 : Int64) then r_55 else (10000 : Int64)))).toInt32) h_55 g_55)))) ∧ (¬ (h_11 77 9) = (-1 : Int32) → Q x3_18 h_11 g_11))))
set_option maxHeartbeats 8000000 in
set_option maxRecDepth 100000 in
theorem m_X4_wornOf (l : Launch) (D : va_G) (cy : Nat → ClassId) (ad : Nat → Nat) (h : HI) (g : HL) (sz : Nat) (x1 : Int32) (x2 : Int32) (Q : Int32 → HI → HL → Prop) (HW : w_X4_wornOf x1 x2 h g Q) : Met l yX4_wornOf (wa yX4_wornOf cX4_wornOf 6 (some .int)) ({ frames := 2, cells := 0, slots := 0, locals := 50 }) (va_Pc [.ref (ad 77), .int x1, .int x2] (gI D cy ad h g sz)) (va_Qi (fun (r : Int32) (u : HI × HL) => Q r u.1 u.2) (gB D cy ad sz) (gA ad sz)) 0 0 (gA ad sz) := by
  refine Met.ofW (cc := cX4_wornOf) (maxL := 6) (ret := (some .int)) (by decide) rfl ?_
  intro p e s m args below meth c s₁ B hml hv
  obtain ⟨hav, hsz, hP, hK, hD0, hNw⟩ := hv
  have hx := B.exec
  have hb := B.bytes
  have hr := B.returns
  have hts := atoms_spec (ws := (wa yX4_wornOf cX4_wornOf 6 (some .int))) B.pre
  have hw := wa_hw hts
  have hown : s.vm.findClass RX4 = some m.cls := findClass_of_methodNamed B.named
  have hlocks := B.notSynchronized
  subst hsz
  have hG : gG D cy ad (gA ad s.heap.size) s.heap h g s.heap [] := ⟨hP, gA_self hD0, va_S.rf⟩
  clear hP hD0
  have lk22 := hw (.fieldLink RX4 22 "OldWorks$Law" "shop" "LOldWorks$Shop;") (wm1 129 rfl rfl)
  have lk93 := hw (.fieldLink RX4 93 "OldWorks$Shop" "parts" "LOldWorks$Table;") (wm1 64 rfl rfl)
  have ml96 := hw (.methodLink RX4 96 Lib.Math.max.name) (wm3 44 rfl rfl)
  have ms96 := hw (.static Lib.Math.max.name) (wm3 45 rfl rfl)
  have mi96 := hw (.initialized "java/lang/Math") (wm1 14 rfl rfl)
  have mc96 := hw (.code Lib.Math.max.name Lib.Math.max.code 2 (some .int)) (wm3 46 rfl rfl)
  have lk26 := hw (.fieldLink RX4 26 "OldWorks$Law" "flaw" "I") (wm1 138 rfl rfl)
  have cn105 := hw (.constantLong RX4 105 (10000)) (wm3 54 rfl rfl)
  have ml107 := hw (.methodLink RX4 107 Lib.MathLoose.min_long.x) (wm3 55 rfl rfl)
  have ms107 := hw (.static Lib.MathLoose.min_long.x) (wm3 56 rfl rfl)
  have mi107 := hw (.initialized "java/lang/Math") (wm1 14 rfl rfl)
  have mc107 := hw (.code Lib.MathLoose.min_long.x Lib.MathLoose.min_long.code 4 (some .long)) (wm3 57 rfl rfl)
  have ml111 := hw (.methodLink RX4 111 Lib.MathLoose.max_long.x) (wm3 58 rfl rfl)
  have ms111 := hw (.static Lib.MathLoose.max_long.x) (wm3 59 rfl rfl)
  have mi111 := hw (.initialized "java/lang/Math") (wm1 14 rfl rfl)
  have mc111 := hw (.code Lib.MathLoose.max_long.x Lib.MathLoose.max_long.code 4 (some .long)) (wm3 60 rfl rfl)
  rw [show (headSpec (wa yX4_wornOf cX4_wornOf 6 (some .int)) ({ frames := 2, cells := 0, slots := 0, locals := 50 } : Room)).room = ({ frames := 2, cells := 0, slots := 0, locals := 50 } : Room) from rfl]
  have hl := lv_entry ([.ref (ad 77), .int x1, .int x2]) (n := 6) (Nat.le_of_ble_eq_true rfl)
  rw [show entryFrame m args 6 = entryFrame m ([.ref (ad 77), .int x1, .int x2] : List Value).toArray 6 from by rw [hav], lg_entry_eq]
  generalize (lg_sl ([.ref (ad 77), .int x1, .int x2]) ++ List.replicate (6 - (lg_sl ([.ref (ad 77), .int x1, .int x2])).length) Slot.unset).toArray = ls at hl ⊢
  have hl : lv_has ls 6 [(0, .ref (ad 77)), (1, .int x1), (2, .int x2)] := hl
  have E0 : ∀ (H : Heap) (locs : List Loc) (ls : Array Slot), gG D cy ad (gA ad s.heap.size) s.heap h g H locs → lv_has ls 6 [(0, .ref (ad 77)), (1, .int x1), (2, .int x2)] → W p l e ({ frames := 2, cells := 0, slots := 0, locals := 50 } : Room) s m args below meth c H locs 0 0 (MQ below (va_Qi (fun (r : Int32) (u : HI × HL) => Q r u.1 u.2) (gB D cy ad s.heap.size) (gA ad s.heap.size)) args s 0 0 (gA ad s.heap.size)) (F0 m 0 ls []) := by
    intro H locs ls hG hl
    unfold w_X4_wornOf at HW
    refine lv_iconst (v := 0) hx hb dX4_wornOf_0 (by decide) ?_
    refine lv_iload_n hx hb dX4_wornOf_1 rfl (lv_at hl 2 rfl) ?_
    refine lv_aload_n hx hb dX4_wornOf_2 rfl (lv_at hl 0 rfl) ?_
    refine g_getr hx hb hw inG4 hown hK hG gl_77 rfl gk_77 (by decide) 0 (by decide) (by rw [gm_77]; decide) (r := 1) gr_77_0 lk22 dX4_wornOf_3 ?_
    refine g_getr hx hb hw inG6 hown hK hG gl_1 rfl gk_1 (by decide) 0 (by decide) (by rw [gm_1]; decide) (r := 2) gr_1_0 lk93 dX4_wornOf_6 ?_
    refine lv_iload_n hx hb dX4_wornOf_9 rfl (lv_at hl 1 rfl) ?_
    refine lv_iconst (v := 2) hx hb dX4_wornOf_10 (by decide) ?_
    obtain ⟨P_11, HC_11, HW⟩ := HW
    refine g_calli (g_runV (As := [.int x1, .int (2 : Int32)]) (rest := [.int x2, .int (0 : Int32)]) ⟨hx, hb, hml, hown, hts⟩ (m_X8_at l D cy ad h g H.size 2 (gs_2) x1 (2 : Int32) P_11 HC_11) (cwV 2 hts (gd_V (wm2 220 rfl rfl) (wm2 221 rfl rfl) (wm2 222 rfl rfl) (wm1 3 rfl rfl) (wm2 223 rfl rfl)) rfl rfl rfl (by decide +kernel) ⟨Nat.le_of_ble_eq_true rfl, Nat.le_of_ble_eq_true rfl⟩) hK hNw hG gl_2 rfl gk_2 (by decide) rfl rfl hl.1 rfl (lv_room (Nat.le_of_ble_eq_true rfl)) dX4_wornOf_11 ⟨Nat.zero_le _, Nat.zero_le _⟩) hG (fun r_11 h_11 g_11 H locs hq hG => ?_)
    replace HW := HW r_11 h_11 g_11 hq
    refine lv_isub hx hb dX4_wornOf_14 ?_
    refine va_mmax hx hb (hml.trans hl.1.symm) hown ml96 ms96 mi96 mc96 (by decide) (Nat.le_of_ble_eq_true rfl) (Nat.zero_le _) (Nat.zero_le _) dX4_wornOf_15 ?_
    refine lv_topi (fun x3_18 ex3_18 => ?_)
    replace HW := HW x3_18 ex3_18
    refine lv_istore_n (lv' := [(3, .int x3_18), (0, .ref (ad 77)), (1, .int x1), (2, .int x2)]) hx hb dX4_wornOf_18 rfl hl (by decide) rfl (fun ls hl => ?_)
    refine lv_aload_n hx hb dX4_wornOf_19 rfl (lv_at hl 1 rfl) ?_
    refine g_geti hx hb hw inG4 hown hK hG gl_77 rfl gk_77 (by decide) 9 (by decide) (by rw [gm_77]; decide) gr_77_9 lk26 dX4_wornOf_20 ?_
    refine lv_iconst (v := (-1)) hx hb dX4_wornOf_23 (by decide) ?_
    refine lv_icmp_eq (tgt := 29) hx hb dX4_wornOf_24 (by decide) (fun c_24 => ?_) (fun c_24 => ?_)
    · replace HW := HW.1 c_24
      refine lv_aload_n hx hb dX4_wornOf_29 rfl (lv_at hl 1 rfl) ?_
      refine lv_iload_n hx hb dX4_wornOf_30 rfl (lv_at hl 0 rfl) ?_
      refine lv_aload_n hx hb dX4_wornOf_31 rfl (lv_at hl 1 rfl) ?_
      refine g_getr hx hb hw inG4 hown hK hG gl_77 rfl gk_77 (by decide) 0 (by decide) (by rw [gm_77]; decide) (r := 1) gr_77_0 lk22 dX4_wornOf_32 ?_
      refine g_getr hx hb hw inG6 hown hK hG gl_1 rfl gk_1 (by decide) 0 (by decide) (by rw [gm_1]; decide) (r := 2) gr_1_0 lk93 dX4_wornOf_35 ?_
      refine lv_iload_n hx hb dX4_wornOf_38 rfl (lv_at hl 2 rfl) ?_
      refine lv_iconst (v := 0) hx hb dX4_wornOf_39 (by decide) ?_
      obtain ⟨P_40, HC_40, HW⟩ := HW
      refine g_calli (g_runV (As := [.int x1, .int (0 : Int32)]) (rest := [.int x3_18, .ref (ad 77)]) ⟨hx, hb, hml, hown, hts⟩ (m_X8_at l D cy ad h_11 g_11 H.size 2 (gs_2) x1 (0 : Int32) P_40 HC_40) (cwV 2 hts (gd_V (wm2 220 rfl rfl) (wm2 221 rfl rfl) (wm2 222 rfl rfl) (wm1 3 rfl rfl) (wm2 223 rfl rfl)) rfl rfl rfl (by decide +kernel) ⟨Nat.le_of_ble_eq_true rfl, Nat.le_of_ble_eq_true rfl⟩) hK hNw hG gl_2 rfl gk_2 (by decide) rfl rfl hl.1 rfl (lv_room (Nat.le_of_ble_eq_true rfl)) dX4_wornOf_40 ⟨Nat.zero_le _, Nat.zero_le _⟩) hG (fun r_40 h_40 g_40 H locs hq hG => ?_)
      replace HW := HW r_40 h_40 g_40 hq
      refine lv_aload_n hx hb dX4_wornOf_43 rfl (lv_at hl 1 rfl) ?_
      refine g_getr hx hb hw inG4 hown hK hG gl_77 rfl gk_77 (by decide) 0 (by decide) (by rw [gm_77]; decide) (r := 1) gr_77_0 lk22 dX4_wornOf_44 ?_
      refine g_getr hx hb hw inG6 hown hK hG gl_1 rfl gk_1 (by decide) 0 (by decide) (by rw [gm_1]; decide) (r := 2) gr_1_0 lk93 dX4_wornOf_47 ?_
      refine lv_iload_n hx hb dX4_wornOf_50 rfl (lv_at hl 2 rfl) ?_
      refine lv_iconst (v := 1) hx hb dX4_wornOf_51 (by decide) ?_
      obtain ⟨P_52, HC_52, HW⟩ := HW
      refine g_calli (g_runV (As := [.int x1, .int (1 : Int32)]) (rest := [.int r_40, .int x3_18, .ref (ad 77)]) ⟨hx, hb, hml, hown, hts⟩ (m_X8_at l D cy ad h_40 g_40 H.size 2 (gs_2) x1 (1 : Int32) P_52 HC_52) (cwV 2 hts (gd_V (wm2 220 rfl rfl) (wm2 221 rfl rfl) (wm2 222 rfl rfl) (wm1 3 rfl rfl) (wm2 223 rfl rfl)) rfl rfl rfl (by decide +kernel) ⟨Nat.le_of_ble_eq_true rfl, Nat.le_of_ble_eq_true rfl⟩) hK hNw hG gl_2 rfl gk_2 (by decide) rfl rfl hl.1 rfl (lv_room (Nat.le_of_ble_eq_true rfl)) dX4_wornOf_52 ⟨Nat.zero_le _, Nat.zero_le _⟩) hG (fun r_52 h_52 g_52 H locs hq hG => ?_)
      replace HW := HW r_52 h_52 g_52 hq
      obtain ⟨P_55, HC_55, HW⟩ := HW
      refine g_calll (g_runV (As := [.int x3_18, .int r_40, .int r_52]) (rest := []) ⟨hx, hb, hml, hown, hts⟩ (m_X4_tells l D cy ad h_52 g_52 H.size x3_18 r_40 r_52 P_55 HC_55) (cwV 3 hts (gd_V (wm3 47 rfl rfl) (wm3 49 rfl rfl) (wmp1 (q := (yX4_tells, 10)) 8 rfl) (wm1 4 rfl rfl) (wm3 50 rfl rfl)) rfl rfl rfl (by decide +kernel) ⟨Nat.le_of_ble_eq_true rfl, Nat.le_of_ble_eq_true rfl⟩) hK hNw hG gl_77 rfl gk_77 (by decide) rfl rfl hl.1 rfl (lv_room (Nat.le_of_ble_eq_true rfl)) dX4_wornOf_55 ⟨Nat.zero_le _, Nat.zero_le _⟩) hG (fun r_55 h_55 g_55 H locs hq hG => ?_)
      replace HW := HW r_55 h_55 g_55 hq
      refine lv_lstore (lv' := [(4, .long r_55), (3, .int x3_18), (0, .ref (ad 77)), (1, .int x1), (2, .int x2)]) hx hb dX4_wornOf_58 hl (by decide) rfl (fun ls hl => ?_)
      refine lv_lconst (v := 0) hx hb dX4_wornOf_60 (by decide) ?_
      refine lv_ldc2 (v := 10000) hx hb hown cn105 dX4_wornOf_61 ?_
      refine lv_lload hx hb dX4_wornOf_64 (lv_at hl 0 rfl) ?_
      refine va_mmin_long hx hb (hml.trans hl.1.symm) hown ml107 ms107 mi107 mc107 (by decide) (Nat.le_of_ble_eq_true rfl) (Nat.zero_le _) (Nat.zero_le _) dX4_wornOf_66 ?_
      refine va_mmax_long hx hb (hml.trans hl.1.symm) hown ml111 ms111 mi111 mc111 (by decide) (Nat.le_of_ble_eq_true rfl) (Nat.zero_le _) (Nat.zero_le _) dX4_wornOf_69 ?_
      refine lv_l2i hx hb dX4_wornOf_72 rfl ?_
      exact W.iret (v := (((if (if r_55 < (10000 : Int64) then r_55 else (10000 : Int64)) < (0 : Int64) then (0 : Int64) else (if r_55 < (10000 : Int64) then r_55 else (10000 : Int64)))).toInt32)) hx hb hr (fun t ht hW => ⟨⟨(((if (if r_55 < (10000 : Int64) then r_55 else (10000 : Int64)) < (0 : Int64) then (0 : Int64) else (if r_55 < (10000 : Int64) then r_55 else (10000 : Int64)))).toInt32), (h_55, g_55), rfl, HW, g_B ht hG⟩, hG.2.2.F ht⟩) hG.2.2.2.2 dX4_wornOf_73
    · replace HW := HW.2 c_24
      refine lv_iload_n hx hb dX4_wornOf_27 rfl (lv_at hl 0 rfl) ?_
      exact W.iret (v := x3_18) hx hb hr (fun t ht hW => ⟨⟨x3_18, (h_11, g_11), rfl, HW, g_B ht hG⟩, hG.2.2.F ht⟩) hG.2.2.2.2 dX4_wornOf_28
  exact E0 _ _ _ hG hl

def j_X7_allow_147 (Q : HI → HL → Prop) (x2 : Int32) (x3 : Int32) (s1 : Int32) (s2 : Int32) (h : HI) (g : HL) : Prop :=
  (vp_in s1 60 ∧ ∀ h_147 : HI, h_147 = hu h 83 s1.toNatClampNeg s2 → (vp_in x3 60 ∧ ∀ h_154 : HI, h_154 = hu h_147 84 x3.toNatClampNeg x2 → Q h_154 g))
def j_X7_allow_125 (Q : HI → HL → Prop) (x2 : Int32) (x3 : Int32) (x4 : Int32) (x5 : Int32) (x6 : Int32) (s1 : Int32) (s2 : Int32) (h : HI) (g : HL) : Prop :=
  (vp_in s1 60 ∧ ∀ h_125 : HI, h_125 = hu h 82 s1.toNatClampNeg s2 → ((¬ x4 = (3 : Int32) → j_X7_allow_147 Q x2 x3 x3 (x5 + x6) h_125 g) ∧ (x4 = (3 : Int32) → j_X7_allow_147 Q x2 x3 x3 (1000000 : Int32) h_125 g)))
def j_X7_allow_104 (Q : HI → HL → Prop) (x2 : Int32) (x3 : Int32) (x4 : Int32) (x5 : Int32) (x6 : Int32) (h : HI) (g : HL) : Prop :=
  ((¬ x4 = (2 : Int32) → j_X7_allow_125 Q x2 x3 x4 x5 x6 x3 (x5 - x6) h g) ∧ (x4 = (2 : Int32) → j_X7_allow_125 Q x2 x3 x4 x5 x6 x3 (-1000000 : Int32) h g))
def w_X7_allow (x1 : Int32) (x2 : Int32) (x3 : Int32) (h : HI) (g : HL) (Q : HI → HL → Prop) : Prop :=
  ((x3 < 0 → Q h g) ∧ (¬ x3 < 0 → (((60 : Int32) ≤ x3 → Q h g) ∧ (¬ (60 : Int32) ≤ x3 → (((60 : Int32) ≤ x3 → Q h g) ∧ (¬ (60 : Int32) ≤ x3 → ((x3 < (60 : Int32) → (∃ P_41 : Int32 → HI → HL → Prop, w_X8_at 6 x2 (1 : Int32) h g P_41 ∧ ∀ (r_41 : Int32) (h_41 : HI) (g_41 : HL), P_41 r_41 h_41 g_41 → (∃ P_55 : Int32 → HI → HL → Prop, w_X8_at 6 x2 (2 : Int32) h_41 g_41 P_55 ∧ ∀ (r_55 : Int32) (h_55 : HI) (g_55 : HL), P_55 r_55 h_55 g_55 → (∃ P_69 : Int32 → HI → HL → Prop, w_X8_at 6 x2 (3 : Int32) h_55 g_55 P_69 ∧ ∀ (r_69 : Int32) (h_69 : HI) (g_69 : HL), P_69 r_69 h_69 g_69 → ((¬ r_41 = 0 → j_X7_allow_104 Q x2 x3 r_41 r_55 r_69 h_69 g_69) ∧ (r_41 = 0 → (∃ P_95 : Int32 → HI → HL → Prop, w_X8_at 6 x2 (4 : Int32) h_69 g_69 P_95 ∧ ∀ (r_95 : Int32) (h_95 : HI) (g_95 : HL), P_95 r_95 h_95 g_95 → (∃ P_98 : Int32 → HI → HL → Prop, w_X4_wornOf x1 r_95 h_95 g_95 P_98 ∧ ∀ (r_98 : Int32) (h_98 : HI) (g_98 : HL), P_98 r_98 h_98 g_98 → (∀ x5_102 : Int32, x5_102 = (r_55 + r_98) → j_X7_allow_104 Q x2 x3 r_41 x5_102 r_69 h_98 g_98))))))))) ∧ (¬ x3 < (60 : Int32) → Q h g))))))))
set_option maxHeartbeats 8000000 in
set_option maxRecDepth 100000 in
theorem m_X7_allow (l : Launch) (D : va_G) (cy : Nat → ClassId) (ad : Nat → Nat) (h : HI) (g : HL) (sz : Nat) (x1 : Int32) (x2 : Int32) (x3 : Int32) (Q : HI → HL → Prop) (HW : w_X7_allow x1 x2 x3 h g Q) : Met l yX7_allow (wa yX7_allow cX7_allow 7 none) ({ frames := 3, cells := 0, slots := 0, locals := 75 }) (va_Pc [.ref (ad 81), .int x1, .int x2, .int x3] (gI D cy ad h g sz)) (va_Qv (fun (u : HI × HL) => Q u.1 u.2) (gB D cy ad sz) (gA ad sz)) 0 0 (gA ad sz) := by
  refine Met.ofW (cc := cX7_allow) (maxL := 7) (ret := none) (by decide) rfl ?_
  intro p e s m args below meth c s₁ B hml hv
  obtain ⟨hav, hsz, hP, hK, hD0, hNw⟩ := hv
  have hx := B.exec
  have hb := B.bytes
  have hr := B.returns
  have hts := atoms_spec (ws := (wa yX7_allow cX7_allow 7 none)) B.pre
  have hw := wa_hw hts
  have hown : s.vm.findClass RX7 = some m.cls := findClass_of_methodNamed B.named
  have hlocks := B.notSynchronized
  subst hsz
  have hG : gG D cy ad (gA ad s.heap.size) s.heap h g s.heap [] := ⟨hP, gA_self hD0, va_S.rf⟩
  clear hP hD0
  have lk19 := hw (.fieldLink RX7 19 "OldWorks$Sizes" "lows" "[I") (wm1 170 rfl rfl)
  have lk23 := hw (.fieldLink RX7 23 "OldWorks$Sizes" "highs" "[I") (wm1 171 rfl rfl)
  have lk26 := hw (.fieldLink RX7 26 "OldWorks$Sizes" "sayings" "[I") (wm1 172 rfl rfl)
  have lk9 := hw (.fieldLink RX7 9 "OldWorks$Sizes" "shop" "LOldWorks$Shop;") (wm1 168 rfl rfl)
  have lk49 := hw (.fieldLink RX7 49 "OldWorks$Shop" "sayings" "LOldWorks$Table;") (wm1 69 rfl rfl)
  have lk15 := hw (.fieldLink RX7 15 "OldWorks$Sizes" "law" "LOldWorks$Law;") (wm1 169 rfl rfl)
  have cn89 := hw (.constant RX7 89 (-1000000)) (wm3 92 rfl rfl)
  have cn90 := hw (.constant RX7 90 (1000000)) (wm3 93 rfl rfl)
  rw [show (headSpec (wa yX7_allow cX7_allow 7 none) ({ frames := 3, cells := 0, slots := 0, locals := 75 } : Room)).room = ({ frames := 3, cells := 0, slots := 0, locals := 75 } : Room) from rfl]
  have hl := lv_entry ([.ref (ad 81), .int x1, .int x2, .int x3]) (n := 7) (Nat.le_of_ble_eq_true rfl)
  rw [show entryFrame m args 7 = entryFrame m ([.ref (ad 81), .int x1, .int x2, .int x3] : List Value).toArray 7 from by rw [hav], lg_entry_eq]
  generalize (lg_sl ([.ref (ad 81), .int x1, .int x2, .int x3]) ++ List.replicate (7 - (lg_sl ([.ref (ad 81), .int x1, .int x2, .int x3])).length) Slot.unset).toArray = ls at hl ⊢
  have hl : lv_has ls 7 [(0, .ref (ad 81)), (1, .int x1), (2, .int x2), (3, .int x3)] := hl
  have B147 : ∀ (x2 : Int32) (x3 : Int32) (s1 : Int32) (s2 : Int32) (h : HI) (g : HL) (H : Heap) (locs : List Loc) (ls : Array Slot), j_X7_allow_147 Q x2 x3 s1 s2 h g → gG D cy ad (gA ad s.heap.size) s.heap h g H locs → lv_has ls 7 [(0, .ref (ad 81)), (2, .int x2), (3, .int x3)] → W p l e ({ frames := 3, cells := 0, slots := 0, locals := 75 } : Room) s m args below meth c H locs 0 0 (MQ below (va_Qv (fun (u : HI × HL) => Q u.1 u.2) (gB D cy ad s.heap.size) (gA ad s.heap.size)) args s 0 0 (gA ad s.heap.size)) (F0 m 147 ls [.int s2, .int s1, .ref (ad 83)]) := by
    intro x2 x3 s1 s2 h g H locs ls HW hG hl
    unfold j_X7_allow_147 at HW
    refine g_iast hx hb hK hG gl_83 gk_83 gn_83 HW.1 dX7_allow_147 (fun H locs hG => ?_)
    replace HW := HW.2
    obtain ⟨h_147, eh_147⟩ : ∃ y : HI, y = hu h 83 s1.toNatClampNeg s2 := ⟨_, rfl⟩
    rw [← eh_147] at hG
    replace HW := HW h_147 eh_147
    refine lv_aload_n hx hb dX7_allow_148 rfl (lv_at hl 0 rfl) ?_
    refine g_getr hx hb hw inG7 hown hK hG gl_81 rfl gk_81 (by decide) 4 (by decide) (by rw [gm_81]; decide) (r := 84) gr_81_4 lk26 dX7_allow_149 ?_
    refine lv_iload_n hx hb dX7_allow_152 rfl (lv_at hl 2 rfl) ?_
    refine lv_iload_n hx hb dX7_allow_153 rfl (lv_at hl 1 rfl) ?_
    refine g_iast hx hb hK hG gl_84 gk_84 gn_84 HW.1 dX7_allow_154 (fun H locs hG => ?_)
    replace HW := HW.2
    obtain ⟨h_154, eh_154⟩ : ∃ y : HI, y = hu h_147 84 x3.toNatClampNeg x2 := ⟨_, rfl⟩
    rw [← eh_154] at hG
    replace HW := HW h_154 eh_154
    exact W.vret hx hb hr (fun t ht hW => ⟨⟨(h_154, g), rfl, HW, g_B ht hG⟩, hG.2.2.F ht⟩) hG.2.2.2.2 dX7_allow_155
  have B125 : ∀ (x2 : Int32) (x3 : Int32) (x4 : Int32) (x5 : Int32) (x6 : Int32) (s1 : Int32) (s2 : Int32) (h : HI) (g : HL) (H : Heap) (locs : List Loc) (ls : Array Slot), j_X7_allow_125 Q x2 x3 x4 x5 x6 s1 s2 h g → gG D cy ad (gA ad s.heap.size) s.heap h g H locs → lv_has ls 7 [(0, .ref (ad 81)), (2, .int x2), (3, .int x3), (4, .int x4), (5, .int x5), (6, .int x6)] → W p l e ({ frames := 3, cells := 0, slots := 0, locals := 75 } : Room) s m args below meth c H locs 0 0 (MQ below (va_Qv (fun (u : HI × HL) => Q u.1 u.2) (gB D cy ad s.heap.size) (gA ad s.heap.size)) args s 0 0 (gA ad s.heap.size)) (F0 m 125 ls [.int s2, .int s1, .ref (ad 82)]) := by
    intro x2 x3 x4 x5 x6 s1 s2 h g H locs ls HW hG hl
    unfold j_X7_allow_125 at HW
    refine g_iast hx hb hK hG gl_82 gk_82 gn_82 HW.1 dX7_allow_125 (fun H locs hG => ?_)
    replace HW := HW.2
    obtain ⟨h_125, eh_125⟩ : ∃ y : HI, y = hu h 82 s1.toNatClampNeg s2 := ⟨_, rfl⟩
    rw [← eh_125] at hG
    replace HW := HW h_125 eh_125
    refine lv_aload_n hx hb dX7_allow_126 rfl (lv_at hl 0 rfl) ?_
    refine g_getr hx hb hw inG7 hown hK hG gl_81 rfl gk_81 (by decide) 3 (by decide) (by rw [gm_81]; decide) (r := 83) gr_81_3 lk23 dX7_allow_127 ?_
    refine lv_iload_n hx hb dX7_allow_130 rfl (lv_at hl 2 rfl) ?_
    refine lv_iload hx hb dX7_allow_131 (lv_at hl 3 rfl) ?_
    refine lv_iconst (v := 3) hx hb dX7_allow_133 (by decide) ?_
    refine lv_icmp_ne (tgt := 142) hx hb dX7_allow_134 (by decide) (fun c_134 => ?_) (fun c_134 => ?_)
    · replace HW := HW.1 c_134
      refine lv_iload hx hb dX7_allow_142 (lv_at hl 4 rfl) ?_
      refine lv_iload hx hb dX7_allow_144 (lv_at hl 5 rfl) ?_
      refine lv_iadd hx hb dX7_allow_146 ?_
      exact B147 x2 x3 x3 (x5 + x6) h_125 g _ _ _ HW hG (lv_sub hl [0, 1, 2] rfl)
    · replace HW := HW.2 c_134
      refine lv_ldc (v := 1000000) hx hb hown cn90 dX7_allow_137 ?_
      refine lv_goto (tgt := 147) hx hb dX7_allow_139 (by decide) ?_
      exact B147 x2 x3 x3 (1000000 : Int32) h_125 g _ _ _ HW hG (lv_sub hl [0, 1, 2] rfl)
  have B104 : ∀ (x2 : Int32) (x3 : Int32) (x4 : Int32) (x5 : Int32) (x6 : Int32) (h : HI) (g : HL) (H : Heap) (locs : List Loc) (ls : Array Slot), j_X7_allow_104 Q x2 x3 x4 x5 x6 h g → gG D cy ad (gA ad s.heap.size) s.heap h g H locs → lv_has ls 7 [(0, .ref (ad 81)), (2, .int x2), (3, .int x3), (4, .int x4), (5, .int x5), (6, .int x6)] → W p l e ({ frames := 3, cells := 0, slots := 0, locals := 75 } : Room) s m args below meth c H locs 0 0 (MQ below (va_Qv (fun (u : HI × HL) => Q u.1 u.2) (gB D cy ad s.heap.size) (gA ad s.heap.size)) args s 0 0 (gA ad s.heap.size)) (F0 m 104 ls []) := by
    intro x2 x3 x4 x5 x6 h g H locs ls HW hG hl
    unfold j_X7_allow_104 at HW
    refine lv_aload_n hx hb dX7_allow_104 rfl (lv_at hl 0 rfl) ?_
    refine g_getr hx hb hw inG7 hown hK hG gl_81 rfl gk_81 (by decide) 2 (by decide) (by rw [gm_81]; decide) (r := 82) gr_81_2 lk19 dX7_allow_105 ?_
    refine lv_iload_n hx hb dX7_allow_108 rfl (lv_at hl 2 rfl) ?_
    refine lv_iload hx hb dX7_allow_109 (lv_at hl 3 rfl) ?_
    refine lv_iconst (v := 2) hx hb dX7_allow_111 (by decide) ?_
    refine lv_icmp_ne (tgt := 120) hx hb dX7_allow_112 (by decide) (fun c_112 => ?_) (fun c_112 => ?_)
    · replace HW := HW.1 c_112
      refine lv_iload hx hb dX7_allow_120 (lv_at hl 4 rfl) ?_
      refine lv_iload hx hb dX7_allow_122 (lv_at hl 5 rfl) ?_
      refine lv_isub hx hb dX7_allow_124 ?_
      exact B125 x2 x3 x4 x5 x6 x3 (x5 - x6) h g _ _ _ HW hG (lv_sub hl [0, 1, 2, 3, 4, 5] rfl)
    · replace HW := HW.2 c_112
      refine lv_ldc (v := (-1000000)) hx hb hown cn89 dX7_allow_115 ?_
      refine lv_goto (tgt := 125) hx hb dX7_allow_117 (by decide) ?_
      exact B125 x2 x3 x4 x5 x6 x3 (-1000000 : Int32) h g _ _ _ HW hG (lv_sub hl [0, 1, 2, 3, 4, 5] rfl)
  have E0 : ∀ (H : Heap) (locs : List Loc) (ls : Array Slot), gG D cy ad (gA ad s.heap.size) s.heap h g H locs → lv_has ls 7 [(0, .ref (ad 81)), (1, .int x1), (2, .int x2), (3, .int x3)] → W p l e ({ frames := 3, cells := 0, slots := 0, locals := 75 } : Room) s m args below meth c H locs 0 0 (MQ below (va_Qv (fun (u : HI × HL) => Q u.1 u.2) (gB D cy ad s.heap.size) (gA ad s.heap.size)) args s 0 0 (gA ad s.heap.size)) (F0 m 0 ls []) := by
    intro H locs ls hG hl
    unfold w_X7_allow at HW
    refine lv_iload_n hx hb dX7_allow_0 rfl (lv_at hl 3 rfl) ?_
    refine lv_if_lt (tgt := 31) hx hb dX7_allow_1 (by decide) (fun c_1 => ?_) (fun c_1 => ?_)
    · replace HW := HW.1 c_1
      exact W.vret hx hb hr (fun t ht hW => ⟨⟨(h, g), rfl, HW, g_B ht hG⟩, hG.2.2.F ht⟩) hG.2.2.2.2 dX7_allow_31
    · replace HW := HW.2 c_1
      refine lv_iload_n hx hb dX7_allow_4 rfl (lv_at hl 3 rfl) ?_
      refine lv_aload_n hx hb dX7_allow_5 rfl (lv_at hl 0 rfl) ?_
      refine g_getr hx hb hw inG7 hown hK hG gl_81 rfl gk_81 (by decide) 2 (by decide) (by rw [gm_81]; decide) (r := 82) gr_81_2 lk19 dX7_allow_6 ?_
      refine g_alen hx hb hK hG gl_82 gk_82 (v := (60 : Int32)) (by rw [gn_82]; decide) dX7_allow_9 ?_
      refine lv_icmp_ge (tgt := 31) hx hb dX7_allow_10 (by decide) (fun c_10 => ?_) (fun c_10 => ?_)
      · replace HW := HW.1 c_10
        exact W.vret hx hb hr (fun t ht hW => ⟨⟨(h, g), rfl, HW, g_B ht hG⟩, hG.2.2.F ht⟩) hG.2.2.2.2 dX7_allow_31
      · replace HW := HW.2 c_10
        refine lv_iload_n hx hb dX7_allow_13 rfl (lv_at hl 3 rfl) ?_
        refine lv_aload_n hx hb dX7_allow_14 rfl (lv_at hl 0 rfl) ?_
        refine g_getr hx hb hw inG7 hown hK hG gl_81 rfl gk_81 (by decide) 3 (by decide) (by rw [gm_81]; decide) (r := 83) gr_81_3 lk23 dX7_allow_15 ?_
        refine g_alen hx hb hK hG gl_83 gk_83 (v := (60 : Int32)) (by rw [gn_83]; decide) dX7_allow_18 ?_
        refine lv_icmp_ge (tgt := 31) hx hb dX7_allow_19 (by decide) (fun c_19 => ?_) (fun c_19 => ?_)
        · replace HW := HW.1 c_19
          exact W.vret hx hb hr (fun t ht hW => ⟨⟨(h, g), rfl, HW, g_B ht hG⟩, hG.2.2.F ht⟩) hG.2.2.2.2 dX7_allow_31
        · replace HW := HW.2 c_19
          refine lv_iload_n hx hb dX7_allow_22 rfl (lv_at hl 3 rfl) ?_
          refine lv_aload_n hx hb dX7_allow_23 rfl (lv_at hl 0 rfl) ?_
          refine g_getr hx hb hw inG7 hown hK hG gl_81 rfl gk_81 (by decide) 4 (by decide) (by rw [gm_81]; decide) (r := 84) gr_81_4 lk26 dX7_allow_24 ?_
          refine g_alen hx hb hK hG gl_84 gk_84 (v := (60 : Int32)) (by rw [gn_84]; decide) dX7_allow_27 ?_
          refine lv_icmp_lt (tgt := 32) hx hb dX7_allow_28 (by decide) (fun c_28 => ?_) (fun c_28 => ?_)
          · replace HW := HW.1 c_28
            refine lv_aload_n hx hb dX7_allow_32 rfl (lv_at hl 0 rfl) ?_
            refine g_getr hx hb hw inG7 hown hK hG gl_81 rfl gk_81 (by decide) 0 (by decide) (by rw [gm_81]; decide) (r := 1) gr_81_0 lk9 dX7_allow_33 ?_
            refine g_getr hx hb hw inG6 hown hK hG gl_1 rfl gk_1 (by decide) 2 (by decide) (by rw [gm_1]; decide) (r := 6) gr_1_2 lk49 dX7_allow_36 ?_
            refine lv_iload_n hx hb dX7_allow_39 rfl (lv_at hl 2 rfl) ?_
            refine lv_iconst (v := 1) hx hb dX7_allow_40 (by decide) ?_
            obtain ⟨P_41, HC_41, HW⟩ := HW
            refine g_calli (g_runV (As := [.int x2, .int (1 : Int32)]) (rest := []) ⟨hx, hb, hml, hown, hts⟩ (m_X8_at l D cy ad h g H.size 6 (gs_6) x2 (1 : Int32) P_41 HC_41) (cwV 2 hts (gd_V (wm3 78 rfl rfl) (wm2 221 rfl rfl) (wm2 222 rfl rfl) (wm1 3 rfl rfl) (wm2 223 rfl rfl)) rfl rfl rfl (by decide +kernel) ⟨Nat.le_of_ble_eq_true rfl, Nat.le_of_ble_eq_true rfl⟩) hK hNw hG gl_6 rfl gk_6 (by decide) rfl rfl hl.1 rfl (lv_room (Nat.le_of_ble_eq_true rfl)) dX7_allow_41 ⟨Nat.zero_le _, Nat.zero_le _⟩) hG (fun r_41 h_41 g_41 H locs hq hG => ?_)
            replace HW := HW r_41 h_41 g_41 hq
            refine lv_istore (lv' := [(4, .int r_41), (0, .ref (ad 81)), (1, .int x1), (2, .int x2), (3, .int x3)]) hx hb dX7_allow_44 hl (by decide) rfl (fun ls hl => ?_)
            refine lv_aload_n hx hb dX7_allow_46 rfl (lv_at hl 1 rfl) ?_
            refine g_getr hx hb hw inG7 hown hK hG gl_81 rfl gk_81 (by decide) 0 (by decide) (by rw [gm_81]; decide) (r := 1) gr_81_0 lk9 dX7_allow_47 ?_
            refine g_getr hx hb hw inG6 hown hK hG gl_1 rfl gk_1 (by decide) 2 (by decide) (by rw [gm_1]; decide) (r := 6) gr_1_2 lk49 dX7_allow_50 ?_
            refine lv_iload_n hx hb dX7_allow_53 rfl (lv_at hl 3 rfl) ?_
            refine lv_iconst (v := 2) hx hb dX7_allow_54 (by decide) ?_
            obtain ⟨P_55, HC_55, HW⟩ := HW
            refine g_calli (g_runV (As := [.int x2, .int (2 : Int32)]) (rest := []) ⟨hx, hb, hml, hown, hts⟩ (m_X8_at l D cy ad h_41 g_41 H.size 6 (gs_6) x2 (2 : Int32) P_55 HC_55) (cwV 2 hts (gd_V (wm3 78 rfl rfl) (wm2 221 rfl rfl) (wm2 222 rfl rfl) (wm1 3 rfl rfl) (wm2 223 rfl rfl)) rfl rfl rfl (by decide +kernel) ⟨Nat.le_of_ble_eq_true rfl, Nat.le_of_ble_eq_true rfl⟩) hK hNw hG gl_6 rfl gk_6 (by decide) rfl rfl hl.1 rfl (lv_room (Nat.le_of_ble_eq_true rfl)) dX7_allow_55 ⟨Nat.zero_le _, Nat.zero_le _⟩) hG (fun r_55 h_55 g_55 H locs hq hG => ?_)
            replace HW := HW r_55 h_55 g_55 hq
            refine lv_istore (lv' := [(5, .int r_55), (4, .int r_41), (0, .ref (ad 81)), (1, .int x1), (2, .int x2), (3, .int x3)]) hx hb dX7_allow_58 hl (by decide) rfl (fun ls hl => ?_)
            refine lv_aload_n hx hb dX7_allow_60 rfl (lv_at hl 2 rfl) ?_
            refine g_getr hx hb hw inG7 hown hK hG gl_81 rfl gk_81 (by decide) 0 (by decide) (by rw [gm_81]; decide) (r := 1) gr_81_0 lk9 dX7_allow_61 ?_
            refine g_getr hx hb hw inG6 hown hK hG gl_1 rfl gk_1 (by decide) 2 (by decide) (by rw [gm_1]; decide) (r := 6) gr_1_2 lk49 dX7_allow_64 ?_
            refine lv_iload_n hx hb dX7_allow_67 rfl (lv_at hl 4 rfl) ?_
            refine lv_iconst (v := 3) hx hb dX7_allow_68 (by decide) ?_
            obtain ⟨P_69, HC_69, HW⟩ := HW
            refine g_calli (g_runV (As := [.int x2, .int (3 : Int32)]) (rest := []) ⟨hx, hb, hml, hown, hts⟩ (m_X8_at l D cy ad h_55 g_55 H.size 6 (gs_6) x2 (3 : Int32) P_69 HC_69) (cwV 2 hts (gd_V (wm3 78 rfl rfl) (wm2 221 rfl rfl) (wm2 222 rfl rfl) (wm1 3 rfl rfl) (wm2 223 rfl rfl)) rfl rfl rfl (by decide +kernel) ⟨Nat.le_of_ble_eq_true rfl, Nat.le_of_ble_eq_true rfl⟩) hK hNw hG gl_6 rfl gk_6 (by decide) rfl rfl hl.1 rfl (lv_room (Nat.le_of_ble_eq_true rfl)) dX7_allow_69 ⟨Nat.zero_le _, Nat.zero_le _⟩) hG (fun r_69 h_69 g_69 H locs hq hG => ?_)
            replace HW := HW r_69 h_69 g_69 hq
            refine lv_istore (lv' := [(6, .int r_69), (5, .int r_55), (4, .int r_41), (0, .ref (ad 81)), (1, .int x1), (2, .int x2), (3, .int x3)]) hx hb dX7_allow_72 hl (by decide) rfl (fun ls hl => ?_)
            refine lv_iload hx hb dX7_allow_74 (lv_at hl 2 rfl) ?_
            refine lv_if_ne (tgt := 104) hx hb dX7_allow_76 (by decide) (fun c_76 => ?_) (fun c_76 => ?_)
            · replace HW := HW.1 c_76
              exact B104 x2 x3 r_41 r_55 r_69 h_69 g_69 _ _ _ HW hG (lv_sub hl [3, 5, 6, 2, 1, 0] rfl)
            · replace HW := HW.2 c_76
              refine lv_iload hx hb dX7_allow_79 (lv_at hl 1 rfl) ?_
              refine lv_aload_n hx hb dX7_allow_81 rfl (lv_at hl 3 rfl) ?_
              refine g_getr hx hb hw inG7 hown hK hG gl_81 rfl gk_81 (by decide) 1 (by decide) (by rw [gm_81]; decide) (r := 77) gr_81_1 lk15 dX7_allow_82 ?_
              refine lv_iload_n hx hb dX7_allow_85 rfl (lv_at hl 4 rfl) ?_
              refine lv_aload_n hx hb dX7_allow_86 rfl (lv_at hl 3 rfl) ?_
              refine g_getr hx hb hw inG7 hown hK hG gl_81 rfl gk_81 (by decide) 0 (by decide) (by rw [gm_81]; decide) (r := 1) gr_81_0 lk9 dX7_allow_87 ?_
              refine g_getr hx hb hw inG6 hown hK hG gl_1 rfl gk_1 (by decide) 2 (by decide) (by rw [gm_1]; decide) (r := 6) gr_1_2 lk49 dX7_allow_90 ?_
              refine lv_iload_n hx hb dX7_allow_93 rfl (lv_at hl 5 rfl) ?_
              refine lv_iconst (v := 4) hx hb dX7_allow_94 (by decide) ?_
              obtain ⟨P_95, HC_95, HW⟩ := HW
              refine g_calli (g_runV (As := [.int x2, .int (4 : Int32)]) (rest := [.int x1, .ref (ad 77), .int r_55]) ⟨hx, hb, hml, hown, hts⟩ (m_X8_at l D cy ad h_69 g_69 H.size 6 (gs_6) x2 (4 : Int32) P_95 HC_95) (cwV 2 hts (gd_V (wm3 78 rfl rfl) (wm2 221 rfl rfl) (wm2 222 rfl rfl) (wm1 3 rfl rfl) (wm2 223 rfl rfl)) rfl rfl rfl (by decide +kernel) ⟨Nat.le_of_ble_eq_true rfl, Nat.le_of_ble_eq_true rfl⟩) hK hNw hG gl_6 rfl gk_6 (by decide) rfl rfl hl.1 rfl (lv_room (Nat.le_of_ble_eq_true rfl)) dX7_allow_95 ⟨Nat.zero_le _, Nat.zero_le _⟩) hG (fun r_95 h_95 g_95 H locs hq hG => ?_)
              replace HW := HW r_95 h_95 g_95 hq
              obtain ⟨P_98, HC_98, HW⟩ := HW
              refine g_calli (g_runV (As := [.int x1, .int r_95]) (rest := [.int r_55]) ⟨hx, hb, hml, hown, hts⟩ (m_X4_wornOf l D cy ad h_95 g_95 H.size x1 r_95 P_98 HC_98) (cwV 2 hts (gd_V (wm3 91 rfl rfl) (wm3 41 rfl rfl) (wm3 42 rfl rfl) (wm1 4 rfl rfl) (wm3 43 rfl rfl)) rfl rfl rfl (by decide +kernel) ⟨Nat.le_of_ble_eq_true rfl, Nat.le_of_ble_eq_true rfl⟩) hK hNw hG gl_77 rfl gk_77 (by decide) rfl rfl hl.1 rfl (lv_room (Nat.le_of_ble_eq_true rfl)) dX7_allow_98 ⟨Nat.zero_le _, Nat.zero_le _⟩) hG (fun r_98 h_98 g_98 H locs hq hG => ?_)
              replace HW := HW r_98 h_98 g_98 hq
              refine lv_iadd hx hb dX7_allow_101 ?_
              refine lv_topi (fun x5_102 ex5_102 => ?_)
              replace HW := HW x5_102 ex5_102
              refine lv_istore (lv' := [(5, .int x5_102), (6, .int r_69), (4, .int r_41), (0, .ref (ad 81)), (1, .int x1), (2, .int x2), (3, .int x3)]) hx hb dX7_allow_102 hl (by decide) rfl (fun ls hl => ?_)
              exact B104 x2 x3 r_41 x5_102 r_69 h_98 g_98 _ _ _ HW hG (lv_sub hl [3, 5, 6, 2, 0, 1] rfl)
          · replace HW := HW.2 c_28
            exact W.vret hx hb hr (fun t ht hW => ⟨⟨(h, g), rfl, HW, g_B ht hG⟩, hG.2.2.F ht⟩) hG.2.2.2.2 dX7_allow_31
  exact E0 _ _ _ hG hl

def j_X7_placeFrom_16 (Q : Int32 → HI → HL → Prop) (h : HI) (g : HL) : Prop :=
  Q (0 : Int32) h g
def w_X7_placeFrom (x1 : Int32) (h : HI) (g : HL) (Q : Int32 → HI → HL → Prop) : Prop :=
  ((x1 ≤ (h 81 6) → j_X7_placeFrom_16 Q h g) ∧ (¬ x1 ≤ (h 81 6) → (((1 : Int32) ≤ (h 81 7) → (¬ (h 81 7) = 0 ∧ Q ((((x1 - (h 81 6)) + (h 81 7)) - (1 : Int32)) / (h 81 7)) h g)) ∧ (¬ (1 : Int32) ≤ (h 81 7) → j_X7_placeFrom_16 Q h g))))
set_option maxHeartbeats 8000000 in
set_option maxRecDepth 100000 in
theorem m_X7_placeFrom (l : Launch) (D : va_G) (cy : Nat → ClassId) (ad : Nat → Nat) (h : HI) (g : HL) (sz : Nat) (x1 : Int32) (Q : Int32 → HI → HL → Prop) (HW : w_X7_placeFrom x1 h g Q) : Met l yX7_placeFrom (wa yX7_placeFrom cX7_placeFrom 2 (some .int)) ({ frames := 0, cells := 0, slots := 0, locals := 0 }) (va_Pc [.ref (ad 81), .int x1] (gI D cy ad h g sz)) (va_Qi (fun (r : Int32) (u : HI × HL) => Q r u.1 u.2) (gB D cy ad sz) (gA ad sz)) 0 0 (gA ad sz) := by
  refine Met.ofW (cc := cX7_placeFrom) (maxL := 2) (ret := (some .int)) (by decide) rfl ?_
  intro p e s m args below meth c s₁ B hml hv
  obtain ⟨hav, hsz, hP, hK, hD0, hNw⟩ := hv
  have hx := B.exec
  have hb := B.bytes
  have hr := B.returns
  have hts := atoms_spec (ws := (wa yX7_placeFrom cX7_placeFrom 2 (some .int))) B.pre
  have hw := wa_hw hts
  have hown : s.vm.findClass RX7 = some m.cls := findClass_of_methodNamed B.named
  have hlocks := B.notSynchronized
  subst hsz
  have hG : gG D cy ad (gA ad s.heap.size) s.heap h g s.heap [] := ⟨hP, gA_self hD0, va_S.rf⟩
  clear hP hD0
  have lk69 := hw (.fieldLink RX7 69 "OldWorks$Sizes" "base" "I") (wm1 174 rfl rfl)
  have lk77 := hw (.fieldLink RX7 77 "OldWorks$Sizes" "step" "I") (wm1 175 rfl rfl)
  rw [show (headSpec (wa yX7_placeFrom cX7_placeFrom 2 (some .int)) ({ frames := 0, cells := 0, slots := 0, locals := 0 } : Room)).room = ({ frames := 0, cells := 0, slots := 0, locals := 0 } : Room) from rfl]
  have hl := lv_entry ([.ref (ad 81), .int x1]) (n := 2) (Nat.le_of_ble_eq_true rfl)
  rw [show entryFrame m args 2 = entryFrame m ([.ref (ad 81), .int x1] : List Value).toArray 2 from by rw [hav], lg_entry_eq]
  generalize (lg_sl ([.ref (ad 81), .int x1]) ++ List.replicate (2 - (lg_sl ([.ref (ad 81), .int x1])).length) Slot.unset).toArray = ls at hl ⊢
  have hl : lv_has ls 2 [(0, .ref (ad 81)), (1, .int x1)] := hl
  have B16 : ∀ (h : HI) (g : HL) (H : Heap) (locs : List Loc) (ls : Array Slot), j_X7_placeFrom_16 Q h g → gG D cy ad (gA ad s.heap.size) s.heap h g H locs → lv_has ls 2 [] → W p l e ({ frames := 0, cells := 0, slots := 0, locals := 0 } : Room) s m args below meth c H locs 0 0 (MQ below (va_Qi (fun (r : Int32) (u : HI × HL) => Q r u.1 u.2) (gB D cy ad s.heap.size) (gA ad s.heap.size)) args s 0 0 (gA ad s.heap.size)) (F0 m 16 ls []) := by
    intro  h g H locs ls HW hG hl
    unfold j_X7_placeFrom_16 at HW
    refine lv_iconst (v := 0) hx hb dX7_placeFrom_16 (by decide) ?_
    refine lv_goto (tgt := 38) hx hb dX7_placeFrom_17 (by decide) ?_
    exact W.iret (v := (0 : Int32)) hx hb hr (fun t ht hW => ⟨⟨(0 : Int32), (h, g), rfl, HW, g_B ht hG⟩, hG.2.2.F ht⟩) hG.2.2.2.2 dX7_placeFrom_38
  have E0 : ∀ (H : Heap) (locs : List Loc) (ls : Array Slot), gG D cy ad (gA ad s.heap.size) s.heap h g H locs → lv_has ls 2 [(0, .ref (ad 81)), (1, .int x1)] → W p l e ({ frames := 0, cells := 0, slots := 0, locals := 0 } : Room) s m args below meth c H locs 0 0 (MQ below (va_Qi (fun (r : Int32) (u : HI × HL) => Q r u.1 u.2) (gB D cy ad s.heap.size) (gA ad s.heap.size)) args s 0 0 (gA ad s.heap.size)) (F0 m 0 ls []) := by
    intro H locs ls hG hl
    unfold w_X7_placeFrom at HW
    refine lv_iload_n hx hb dX7_placeFrom_0 rfl (lv_at hl 1 rfl) ?_
    refine lv_aload_n hx hb dX7_placeFrom_1 rfl (lv_at hl 0 rfl) ?_
    refine g_geti hx hb hw inG7 hown hK hG gl_81 rfl gk_81 (by decide) 6 (by decide) (by rw [gm_81]; decide) gr_81_6 lk69 dX7_placeFrom_2 ?_
    refine lv_icmp_le (tgt := 16) hx hb dX7_placeFrom_5 (by decide) (fun c_5 => ?_) (fun c_5 => ?_)
    · replace HW := HW.1 c_5
      exact B16 h g _ _ _ HW hG (lv_sub hl [] rfl)
    · replace HW := HW.2 c_5
      refine lv_aload_n hx hb dX7_placeFrom_8 rfl (lv_at hl 0 rfl) ?_
      refine g_geti hx hb hw inG7 hown hK hG gl_81 rfl gk_81 (by decide) 7 (by decide) (by rw [gm_81]; decide) gr_81_7 lk77 dX7_placeFrom_9 ?_
      refine lv_iconst (v := 1) hx hb dX7_placeFrom_12 (by decide) ?_
      refine lv_icmp_ge (tgt := 20) hx hb dX7_placeFrom_13 (by decide) (fun c_13 => ?_) (fun c_13 => ?_)
      · replace HW := HW.1 c_13
        refine lv_iload_n hx hb dX7_placeFrom_20 rfl (lv_at hl 1 rfl) ?_
        refine lv_aload_n hx hb dX7_placeFrom_21 rfl (lv_at hl 0 rfl) ?_
        refine g_geti hx hb hw inG7 hown hK hG gl_81 rfl gk_81 (by decide) 6 (by decide) (by rw [gm_81]; decide) gr_81_6 lk69 dX7_placeFrom_22 ?_
        refine lv_isub hx hb dX7_placeFrom_25 ?_
        refine lv_aload_n hx hb dX7_placeFrom_26 rfl (lv_at hl 0 rfl) ?_
        refine g_geti hx hb hw inG7 hown hK hG gl_81 rfl gk_81 (by decide) 7 (by decide) (by rw [gm_81]; decide) gr_81_7 lk77 dX7_placeFrom_27 ?_
        refine lv_iadd hx hb dX7_placeFrom_30 ?_
        refine lv_iconst (v := 1) hx hb dX7_placeFrom_31 (by decide) ?_
        refine lv_isub hx hb dX7_placeFrom_32 ?_
        refine lv_aload_n hx hb dX7_placeFrom_33 rfl (lv_at hl 0 rfl) ?_
        refine g_geti hx hb hw inG7 hown hK hG gl_81 rfl gk_81 (by decide) 7 (by decide) (by rw [gm_81]; decide) gr_81_7 lk77 dX7_placeFrom_34 ?_
        refine lv_idiv hx hb dX7_placeFrom_37 HW.1 ?_
        replace HW := HW.2
        exact W.iret (v := ((((x1 - (h 81 6)) + (h 81 7)) - (1 : Int32)) / (h 81 7))) hx hb hr (fun t ht hW => ⟨⟨((((x1 - (h 81 6)) + (h 81 7)) - (1 : Int32)) / (h 81 7)), (h, g), rfl, HW, g_B ht hG⟩, hG.2.2.F ht⟩) hG.2.2.2.2 dX7_placeFrom_38
      · replace HW := HW.2 c_13
        exact B16 h g _ _ _ HW hG (lv_sub hl [] rfl)
  exact E0 _ _ _ hG hl

def j_X7_chooseSizes_172 (Q : HI → HL → Prop) (s1 : Int32) (h : HI) (g : HL) : Prop :=
  (∀ h_172 : HI, h_172 = hu h 81 10 s1 → Q h_172 g)
def j_X7_chooseSizes_145 (Q : HI → HL → Prop) (x4 : Int32) (s1 : Int32) (h : HI) (g : HL) : Prop :=
  (∀ h_145 : HI, h_145 = hu h 81 9 s1 → (((h_145 81 11) ≤ 0 → j_X7_chooseSizes_172 Q (-1 : Int32) h_145 g) ∧ (¬ (h_145 81 11) ≤ 0 → j_X7_chooseSizes_172 Q ((h_145 81 6) + (x4 * (h_145 81 7))) h_145 g)))
def j_X7_chooseSizes_106 (Q : HI → HL → Prop) (x3 : Int32) (s0 : Int32) (h : HI) (g : HL) : Prop :=
  (∀ h_119 : HI, h_119 = hu h 81 11 (if (0 : Int32) < ((s0 - x3) + (1 : Int32)) then ((s0 - x3) + (1 : Int32)) else (0 : Int32)) → (((h_119 81 11) ≤ 0 → j_X7_chooseSizes_145 Q s0 (-1 : Int32) h_119 g) ∧ (¬ (h_119 81 11) ≤ 0 → j_X7_chooseSizes_145 Q s0 ((h_119 81 6) + (x3 * (h_119 81 7))) h_119 g)))
def j_X7_chooseSizes_84 (Q : HI → HL → Prop) (x3 : Int32) (h : HI) (g : HL) : Prop :=
  j_X7_chooseSizes_106 Q x3 (-1 : Int32) h g
def j_X7_chooseSizes_62 (Q : HI → HL → Prop) (x1 : Int32) (x2 : Int32) (h : HI) (g : HL) : Prop :=
  (∃ P_64 : Int32 → HI → HL → Prop, w_X7_placeFrom x1 h g P_64 ∧ ∀ (r_64 : Int32) (h_64 : HI) (g_64 : HL), P_64 r_64 h_64 g_64 → ((x2 < (h_64 81 6) → j_X7_chooseSizes_84 Q r_64 h_64 g_64) ∧ (¬ x2 < (h_64 81 6) → (((1 : Int32) ≤ (h_64 81 7) → (¬ (h_64 81 7) = 0 ∧ j_X7_chooseSizes_106 Q r_64 (if ((x2 - (h_64 81 6)) / (h_64 81 7)) < (h_64 81 8) then ((x2 - (h_64 81 6)) / (h_64 81 7)) else (h_64 81 8)) h_64 g_64)) ∧ (¬ (1 : Int32) ≤ (h_64 81 7) → j_X7_chooseSizes_84 Q r_64 h_64 g_64)))))
def b_X7_chooseSizes_8 (Q : HI → HL → Prop) (K8 : Int32 → Int32 → Int32 → HI → HL → Prop) (x1 : Int32) (x2 : Int32) (x3 : Int32) (h : HI) (g : HL) : Prop :=
  (((h 81 5) ≤ x3 → j_X7_chooseSizes_62 Q x1 x2 h g) ∧ (¬ (h 81 5) ≤ x3 → (((60 : Int32) ≤ x3 → j_X7_chooseSizes_62 Q x1 x2 h g) ∧ (¬ (60 : Int32) ≤ x3 → (((60 : Int32) ≤ x3 → j_X7_chooseSizes_62 Q x1 x2 h g) ∧ (¬ (60 : Int32) ≤ x3 → (vp_in x3 60 ∧ (∀ x1_44 : Int32, x1_44 = (if x1 < (h 82 x3.toNatClampNeg) then (h 82 x3.toNatClampNeg) else x1) → (vp_in x3 60 ∧ (∀ x2_55 : Int32, x2_55 = (if (h 83 x3.toNatClampNeg) < x2 then (h 83 x3.toNatClampNeg) else x2) → (∀ x3_56 : Int32, x3_56 = (x3 + 1) → K8 x1_44 x2_55 x3_56 h g)))))))))))
def F_X7_chooseSizes_8 (Q : HI → HL → Prop) (K : Int32 × Int32 × Int32 × HI × HL → Prop) (q : Int32 × Int32 × Int32 × HI × HL) : Prop := b_X7_chooseSizes_8 Q (fun x1 x2 x3 h g => K (x1, x2, x3, h, g)) q.1 q.2.1 q.2.2.1 q.2.2.2.1 q.2.2.2.2
def w_X7_chooseSizes  (h : HI) (g : HL) (Q : HI → HL → Prop) : Prop :=
  lpE (F_X7_chooseSizes_8 Q) ((-1000000 : Int32), (1000000 : Int32), (0 : Int32), h, g)
set_option maxHeartbeats 8000000 in
set_option maxRecDepth 100000 in
theorem m_X7_chooseSizes (l : Launch) (D : va_G) (cy : Nat → ClassId) (ad : Nat → Nat) (h : HI) (g : HL) (sz : Nat)  (Q : HI → HL → Prop) (HW : w_X7_chooseSizes h g Q) : Met l yX7_chooseSizes (wa yX7_chooseSizes cX7_chooseSizes 5 none) ({ frames := 1, cells := 0, slots := 0, locals := 32 }) (va_Pc [.ref (ad 81)] (gI D cy ad h g sz)) (va_Qv (fun (u : HI × HL) => Q u.1 u.2) (gB D cy ad sz) (gA ad sz)) 0 0 (gA ad sz) := by
  refine Met.ofW (cc := cX7_chooseSizes) (maxL := 5) (ret := none) (by decide) rfl ?_
  intro p e s m args below meth c s₁ B hml hv
  obtain ⟨hav, hsz, hP, hK, hD0, hNw⟩ := hv
  have hx := B.exec
  have hb := B.bytes
  have hr := B.returns
  have hts := atoms_spec (ws := (wa yX7_chooseSizes cX7_chooseSizes 5 none)) B.pre
  have hw := wa_hw hts
  have hown : s.vm.findClass RX7 = some m.cls := findClass_of_methodNamed B.named
  have hlocks := B.notSynchronized
  subst hsz
  have hG : gG D cy ad (gA ad s.heap.size) s.heap h g s.heap [] := ⟨hP, gA_self hD0, va_S.rf⟩
  clear hP hD0
  have cn89 := hw (.constant RX7 89 (-1000000)) (wm3 92 rfl rfl)
  have cn90 := hw (.constant RX7 90 (1000000)) (wm3 93 rfl rfl)
  have lk45 := hw (.fieldLink RX7 45 "OldWorks$Sizes" "said" "I") (wm1 173 rfl rfl)
  have lk19 := hw (.fieldLink RX7 19 "OldWorks$Sizes" "lows" "[I") (wm1 170 rfl rfl)
  have lk23 := hw (.fieldLink RX7 23 "OldWorks$Sizes" "highs" "[I") (wm1 171 rfl rfl)
  have ml72 := hw (.methodLink RX7 72 Lib.Math.max.name) (wm3 84 rfl rfl)
  have ms72 := hw (.static Lib.Math.max.name) (wm3 45 rfl rfl)
  have mi72 := hw (.initialized "java/lang/Math") (wm1 14 rfl rfl)
  have mc72 := hw (.code Lib.Math.max.name Lib.Math.max.code 2 (some .int)) (wm3 46 rfl rfl)
  have ml91 := hw (.methodLink RX7 91 Lib.Math.min.name) (wm3 98 rfl rfl)
  have ms91 := hw (.static Lib.Math.min.name) (wm3 99 rfl rfl)
  have mi91 := hw (.initialized "java/lang/Math") (wm1 14 rfl rfl)
  have mc91 := hw (.code Lib.Math.min.name Lib.Math.min.code 2 (some .int)) (wm3 100 rfl rfl)
  have lk69 := hw (.fieldLink RX7 69 "OldWorks$Sizes" "base" "I") (wm1 174 rfl rfl)
  have lk77 := hw (.fieldLink RX7 77 "OldWorks$Sizes" "step" "I") (wm1 175 rfl rfl)
  have lk81 := hw (.fieldLink RX7 81 "OldWorks$Sizes" "last" "I") (wm1 176 rfl rfl)
  have lk98 := hw (.fieldLink RX7 98 "OldWorks$Sizes" "many" "I") (wm1 182 rfl rfl)
  have lk101 := hw (.fieldLink RX7 101 "OldWorks$Sizes" "least" "I") (wm1 178 rfl rfl)
  have lk104 := hw (.fieldLink RX7 104 "OldWorks$Sizes" "greatest" "I") (wm1 180 rfl rfl)
  rw [show (headSpec (wa yX7_chooseSizes cX7_chooseSizes 5 none) ({ frames := 1, cells := 0, slots := 0, locals := 32 } : Room)).room = ({ frames := 1, cells := 0, slots := 0, locals := 32 } : Room) from rfl]
  have hl := lv_entry ([.ref (ad 81)]) (n := 5) (Nat.le_of_ble_eq_true rfl)
  rw [show entryFrame m args 5 = entryFrame m ([.ref (ad 81)] : List Value).toArray 5 from by rw [hav], lg_entry_eq]
  generalize (lg_sl ([.ref (ad 81)]) ++ List.replicate (5 - (lg_sl ([.ref (ad 81)])).length) Slot.unset).toArray = ls at hl ⊢
  have hl : lv_has ls 5 [(0, .ref (ad 81))] := hl
  have B172 : ∀ (s1 : Int32) (h : HI) (g : HL) (H : Heap) (locs : List Loc) (ls : Array Slot), j_X7_chooseSizes_172 Q s1 h g → gG D cy ad (gA ad s.heap.size) s.heap h g H locs → lv_has ls 5 [] → W p l e ({ frames := 1, cells := 0, slots := 0, locals := 32 } : Room) s m args below meth c H locs 0 0 (MQ below (va_Qv (fun (u : HI × HL) => Q u.1 u.2) (gB D cy ad s.heap.size) (gA ad s.heap.size)) args s 0 0 (gA ad s.heap.size)) (F0 m 172 ls [.int s1, .ref (ad 81)]) := by
    intro s1 h g H locs ls HW hG hl
    unfold j_X7_chooseSizes_172 at HW
    refine g_put hx hb hw inG7 tyX7 tyX7_ok nmX7 hown hK hG gl_81 rfl gk_81 (by decide) 10 (by decide) (by rw [gm_81]; decide) gr_81_10 rfl (ty := .int) (by decide +kernel) rfl rfl lk104 dX7_chooseSizes_172 (fun H locs hG => ?_)
    obtain ⟨h_172, eh_172⟩ : ∃ y : HI, y = hu h 81 10 s1 := ⟨_, rfl⟩
    rw [← eh_172] at hG
    replace HW := HW h_172 eh_172
    exact W.vret hx hb hr (fun t ht hW => ⟨⟨(h_172, g), rfl, HW, g_B ht hG⟩, hG.2.2.F ht⟩) hG.2.2.2.2 dX7_chooseSizes_175
  have B145 : ∀ (x4 : Int32) (s1 : Int32) (h : HI) (g : HL) (H : Heap) (locs : List Loc) (ls : Array Slot), j_X7_chooseSizes_145 Q x4 s1 h g → gG D cy ad (gA ad s.heap.size) s.heap h g H locs → lv_has ls 5 [(0, .ref (ad 81)), (4, .int x4)] → W p l e ({ frames := 1, cells := 0, slots := 0, locals := 32 } : Room) s m args below meth c H locs 0 0 (MQ below (va_Qv (fun (u : HI × HL) => Q u.1 u.2) (gB D cy ad s.heap.size) (gA ad s.heap.size)) args s 0 0 (gA ad s.heap.size)) (F0 m 145 ls [.int s1, .ref (ad 81)]) := by
    intro x4 s1 h g H locs ls HW hG hl
    unfold j_X7_chooseSizes_145 at HW
    refine g_put hx hb hw inG7 tyX7 tyX7_ok nmX7 hown hK hG gl_81 rfl gk_81 (by decide) 9 (by decide) (by rw [gm_81]; decide) gr_81_9 rfl (ty := .int) (by decide +kernel) rfl rfl lk101 dX7_chooseSizes_145 (fun H locs hG => ?_)
    obtain ⟨h_145, eh_145⟩ : ∃ y : HI, y = hu h 81 9 s1 := ⟨_, rfl⟩
    rw [← eh_145] at hG
    replace HW := HW h_145 eh_145
    refine lv_aload_n hx hb dX7_chooseSizes_148 rfl (lv_at hl 0 rfl) ?_
    refine lv_aload_n hx hb dX7_chooseSizes_149 rfl (lv_at hl 0 rfl) ?_
    refine g_geti hx hb hw inG7 hown hK hG gl_81 rfl gk_81 (by decide) 11 (by decide) (by rw [gm_81]; decide) gr_81_11 lk98 dX7_chooseSizes_150 ?_
    refine lv_if_le (tgt := 171) hx hb dX7_chooseSizes_153 (by decide) (fun c_153 => ?_) (fun c_153 => ?_)
    · replace HW := HW.1 c_153
      refine lv_iconst (v := (-1)) hx hb dX7_chooseSizes_171 (by decide) ?_
      exact B172 (-1 : Int32) h_145 g _ _ _ HW hG (lv_sub hl [] rfl)
    · replace HW := HW.2 c_153
      refine lv_aload_n hx hb dX7_chooseSizes_156 rfl (lv_at hl 0 rfl) ?_
      refine g_geti hx hb hw inG7 hown hK hG gl_81 rfl gk_81 (by decide) 6 (by decide) (by rw [gm_81]; decide) gr_81_6 lk69 dX7_chooseSizes_157 ?_
      refine lv_iload hx hb dX7_chooseSizes_160 (lv_at hl 1 rfl) ?_
      refine lv_aload_n hx hb dX7_chooseSizes_162 rfl (lv_at hl 0 rfl) ?_
      refine g_geti hx hb hw inG7 hown hK hG gl_81 rfl gk_81 (by decide) 7 (by decide) (by rw [gm_81]; decide) gr_81_7 lk77 dX7_chooseSizes_163 ?_
      refine lv_imul hx hb dX7_chooseSizes_166 ?_
      refine lv_iadd hx hb dX7_chooseSizes_167 ?_
      refine lv_goto (tgt := 172) hx hb dX7_chooseSizes_168 (by decide) ?_
      exact B172 ((h_145 81 6) + (x4 * (h_145 81 7))) h_145 g _ _ _ HW hG (lv_sub hl [] rfl)
  have B106 : ∀ (x3 : Int32) (s0 : Int32) (h : HI) (g : HL) (H : Heap) (locs : List Loc) (ls : Array Slot), j_X7_chooseSizes_106 Q x3 s0 h g → gG D cy ad (gA ad s.heap.size) s.heap h g H locs → lv_has ls 5 [(0, .ref (ad 81)), (3, .int x3)] → W p l e ({ frames := 1, cells := 0, slots := 0, locals := 32 } : Room) s m args below meth c H locs 0 0 (MQ below (va_Qv (fun (u : HI × HL) => Q u.1 u.2) (gB D cy ad s.heap.size) (gA ad s.heap.size)) args s 0 0 (gA ad s.heap.size)) (F0 m 106 ls [.int s0]) := by
    intro x3 s0 h g H locs ls HW hG hl
    unfold j_X7_chooseSizes_106 at HW
    refine lv_istore (lv' := [(4, .int s0), (0, .ref (ad 81)), (3, .int x3)]) hx hb dX7_chooseSizes_106 hl (by decide) rfl (fun ls hl => ?_)
    refine lv_aload_n hx hb dX7_chooseSizes_108 rfl (lv_at hl 1 rfl) ?_
    refine lv_iconst (v := 0) hx hb dX7_chooseSizes_109 (by decide) ?_
    refine lv_iload hx hb dX7_chooseSizes_110 (lv_at hl 0 rfl) ?_
    refine lv_iload_n hx hb dX7_chooseSizes_112 rfl (lv_at hl 2 rfl) ?_
    refine lv_isub hx hb dX7_chooseSizes_113 ?_
    refine lv_iconst (v := 1) hx hb dX7_chooseSizes_114 (by decide) ?_
    refine lv_iadd hx hb dX7_chooseSizes_115 ?_
    refine va_mmax hx hb (hml.trans hl.1.symm) hown ml72 ms72 mi72 mc72 (by decide) (Nat.le_of_ble_eq_true rfl) (Nat.zero_le _) (Nat.zero_le _) dX7_chooseSizes_116 ?_
    refine g_put hx hb hw inG7 tyX7 tyX7_ok nmX7 hown hK hG gl_81 rfl gk_81 (by decide) 11 (by decide) (by rw [gm_81]; decide) gr_81_11 rfl (ty := .int) (by decide +kernel) rfl rfl lk98 dX7_chooseSizes_119 (fun H locs hG => ?_)
    obtain ⟨h_119, eh_119⟩ : ∃ y : HI, y = hu h 81 11 (if (0 : Int32) < ((s0 - x3) + (1 : Int32)) then ((s0 - x3) + (1 : Int32)) else (0 : Int32)) := ⟨_, rfl⟩
    rw [← eh_119] at hG
    replace HW := HW h_119 eh_119
    refine lv_aload_n hx hb dX7_chooseSizes_122 rfl (lv_at hl 1 rfl) ?_
    refine lv_aload_n hx hb dX7_chooseSizes_123 rfl (lv_at hl 1 rfl) ?_
    refine g_geti hx hb hw inG7 hown hK hG gl_81 rfl gk_81 (by decide) 11 (by decide) (by rw [gm_81]; decide) gr_81_11 lk98 dX7_chooseSizes_124 ?_
    refine lv_if_le (tgt := 144) hx hb dX7_chooseSizes_127 (by decide) (fun c_127 => ?_) (fun c_127 => ?_)
    · replace HW := HW.1 c_127
      refine lv_iconst (v := (-1)) hx hb dX7_chooseSizes_144 (by decide) ?_
      exact B145 s0 (-1 : Int32) h_119 g _ _ _ HW hG (lv_sub hl [1, 0] rfl)
    · replace HW := HW.2 c_127
      refine lv_aload_n hx hb dX7_chooseSizes_130 rfl (lv_at hl 1 rfl) ?_
      refine g_geti hx hb hw inG7 hown hK hG gl_81 rfl gk_81 (by decide) 6 (by decide) (by rw [gm_81]; decide) gr_81_6 lk69 dX7_chooseSizes_131 ?_
      refine lv_iload_n hx hb dX7_chooseSizes_134 rfl (lv_at hl 2 rfl) ?_
      refine lv_aload_n hx hb dX7_chooseSizes_135 rfl (lv_at hl 1 rfl) ?_
      refine g_geti hx hb hw inG7 hown hK hG gl_81 rfl gk_81 (by decide) 7 (by decide) (by rw [gm_81]; decide) gr_81_7 lk77 dX7_chooseSizes_136 ?_
      refine lv_imul hx hb dX7_chooseSizes_139 ?_
      refine lv_iadd hx hb dX7_chooseSizes_140 ?_
      refine lv_goto (tgt := 145) hx hb dX7_chooseSizes_141 (by decide) ?_
      exact B145 s0 ((h_119 81 6) + (x3 * (h_119 81 7))) h_119 g _ _ _ HW hG (lv_sub hl [1, 0] rfl)
  have B84 : ∀ (x3 : Int32) (h : HI) (g : HL) (H : Heap) (locs : List Loc) (ls : Array Slot), j_X7_chooseSizes_84 Q x3 h g → gG D cy ad (gA ad s.heap.size) s.heap h g H locs → lv_has ls 5 [(0, .ref (ad 81)), (3, .int x3)] → W p l e ({ frames := 1, cells := 0, slots := 0, locals := 32 } : Room) s m args below meth c H locs 0 0 (MQ below (va_Qv (fun (u : HI × HL) => Q u.1 u.2) (gB D cy ad s.heap.size) (gA ad s.heap.size)) args s 0 0 (gA ad s.heap.size)) (F0 m 84 ls []) := by
    intro x3 h g H locs ls HW hG hl
    unfold j_X7_chooseSizes_84 at HW
    refine lv_iconst (v := (-1)) hx hb dX7_chooseSizes_84 (by decide) ?_
    refine lv_goto (tgt := 106) hx hb dX7_chooseSizes_85 (by decide) ?_
    exact B106 x3 (-1 : Int32) h g _ _ _ HW hG (lv_sub hl [0, 1] rfl)
  have B62 : ∀ (x1 : Int32) (x2 : Int32) (h : HI) (g : HL) (H : Heap) (locs : List Loc) (ls : Array Slot), j_X7_chooseSizes_62 Q x1 x2 h g → gG D cy ad (gA ad s.heap.size) s.heap h g H locs → lv_has ls 5 [(0, .ref (ad 81)), (1, .int x1), (2, .int x2)] → W p l e ({ frames := 1, cells := 0, slots := 0, locals := 32 } : Room) s m args below meth c H locs 0 0 (MQ below (va_Qv (fun (u : HI × HL) => Q u.1 u.2) (gB D cy ad s.heap.size) (gA ad s.heap.size)) args s 0 0 (gA ad s.heap.size)) (F0 m 62 ls []) := by
    intro x1 x2 h g H locs ls HW hG hl
    unfold j_X7_chooseSizes_62 at HW
    refine lv_aload_n hx hb dX7_chooseSizes_62 rfl (lv_at hl 0 rfl) ?_
    refine lv_iload_n hx hb dX7_chooseSizes_63 rfl (lv_at hl 1 rfl) ?_
    obtain ⟨P_64, HC_64, HW⟩ := HW
    refine g_calli (g_runV (As := [.int x1]) (rest := []) ⟨hx, hb, hml, hown, hts⟩ (m_X7_placeFrom l D cy ad h g H.size x1 P_64 HC_64) (cwV 1 hts (gd_V (wm3 101 rfl rfl) (wm3 103 rfl rfl) (wmp1 (q := (yX7_placeFrom, 12)) 12 rfl) (wm1 5 rfl rfl) (wm3 104 rfl rfl)) rfl rfl rfl (by decide +kernel) ⟨Nat.le_of_ble_eq_true rfl, Nat.le_of_ble_eq_true rfl⟩) hK hNw hG gl_81 rfl gk_81 (by decide) rfl rfl hl.1 rfl (lv_room (Nat.le_of_ble_eq_true rfl)) dX7_chooseSizes_64 ⟨Nat.zero_le _, Nat.zero_le _⟩) hG (fun r_64 h_64 g_64 H locs hq hG => ?_)
    replace HW := HW r_64 h_64 g_64 hq
    refine lv_istore_n (lv' := [(3, .int r_64), (0, .ref (ad 81)), (1, .int x1), (2, .int x2)]) hx hb dX7_chooseSizes_67 rfl hl (by decide) rfl (fun ls hl => ?_)
    refine lv_iload_n hx hb dX7_chooseSizes_68 rfl (lv_at hl 3 rfl) ?_
    refine lv_aload_n hx hb dX7_chooseSizes_69 rfl (lv_at hl 1 rfl) ?_
    refine g_geti hx hb hw inG7 hown hK hG gl_81 rfl gk_81 (by decide) 6 (by decide) (by rw [gm_81]; decide) gr_81_6 lk69 dX7_chooseSizes_70 ?_
    refine lv_icmp_lt (tgt := 84) hx hb dX7_chooseSizes_73 (by decide) (fun c_73 => ?_) (fun c_73 => ?_)
    · replace HW := HW.1 c_73
      exact B84 r_64 h_64 g_64 _ _ _ HW hG (lv_sub hl [1, 0] rfl)
    · replace HW := HW.2 c_73
      refine lv_aload_n hx hb dX7_chooseSizes_76 rfl (lv_at hl 1 rfl) ?_
      refine g_geti hx hb hw inG7 hown hK hG gl_81 rfl gk_81 (by decide) 7 (by decide) (by rw [gm_81]; decide) gr_81_7 lk77 dX7_chooseSizes_77 ?_
      refine lv_iconst (v := 1) hx hb dX7_chooseSizes_80 (by decide) ?_
      refine lv_icmp_ge (tgt := 88) hx hb dX7_chooseSizes_81 (by decide) (fun c_81 => ?_) (fun c_81 => ?_)
      · replace HW := HW.1 c_81
        refine lv_aload_n hx hb dX7_chooseSizes_88 rfl (lv_at hl 1 rfl) ?_
        refine g_geti hx hb hw inG7 hown hK hG gl_81 rfl gk_81 (by decide) 8 (by decide) (by rw [gm_81]; decide) gr_81_8 lk81 dX7_chooseSizes_89 ?_
        refine lv_iload_n hx hb dX7_chooseSizes_92 rfl (lv_at hl 3 rfl) ?_
        refine lv_aload_n hx hb dX7_chooseSizes_93 rfl (lv_at hl 1 rfl) ?_
        refine g_geti hx hb hw inG7 hown hK hG gl_81 rfl gk_81 (by decide) 6 (by decide) (by rw [gm_81]; decide) gr_81_6 lk69 dX7_chooseSizes_94 ?_
        refine lv_isub hx hb dX7_chooseSizes_97 ?_
        refine lv_aload_n hx hb dX7_chooseSizes_98 rfl (lv_at hl 1 rfl) ?_
        refine g_geti hx hb hw inG7 hown hK hG gl_81 rfl gk_81 (by decide) 7 (by decide) (by rw [gm_81]; decide) gr_81_7 lk77 dX7_chooseSizes_99 ?_
        refine lv_idiv hx hb dX7_chooseSizes_102 HW.1 ?_
        replace HW := HW.2
        refine va_mmin hx hb (hml.trans hl.1.symm) hown ml91 ms91 mi91 mc91 (by decide) (Nat.le_of_ble_eq_true rfl) (Nat.zero_le _) (Nat.zero_le _) dX7_chooseSizes_103 ?_
        exact B106 r_64 (if ((x2 - (h_64 81 6)) / (h_64 81 7)) < (h_64 81 8) then ((x2 - (h_64 81 6)) / (h_64 81 7)) else (h_64 81 8)) h_64 g_64 _ _ _ HW hG (lv_sub hl [1, 0] rfl)
      · replace HW := HW.2 c_81
        exact B84 r_64 h_64 g_64 _ _ _ HW hG (lv_sub hl [1, 0] rfl)
  have L8 : ∀ (n : Nat) (x1 : Int32) (x2 : Int32) (x3 : Int32) (h : HI) (g : HL) (H : Heap) (locs : List Loc) (ls : Array Slot), lpN (F_X7_chooseSizes_8 Q) n (x1, x2, x3, h, g) → gG D cy ad (gA ad s.heap.size) s.heap h g H locs → lv_has ls 5 [(0, .ref (ad 81)), (1, .int x1), (2, .int x2), (3, .int x3)] → W p l e ({ frames := 1, cells := 0, slots := 0, locals := 32 } : Room) s m args below meth c H locs 0 0 (MQ below (va_Qv (fun (u : HI × HL) => Q u.1 u.2) (gB D cy ad s.heap.size) (gA ad s.heap.size)) args s 0 0 (gA ad s.heap.size)) (F0 m 8 ls []) := by
    intro n
    induction n with
    | zero => intro x1 x2 x3 h g H locs ls HW; exact HW.elim
    | succ n ih =>
      intro x1 x2 x3 h g H locs ls HW hG hl
      have HW : b_X7_chooseSizes_8 Q (fun x1 x2 x3 h g => lpN (F_X7_chooseSizes_8 Q) n (x1, x2, x3, h, g)) x1 x2 x3 h g := HW
      generalize hKe : (fun (x1 : Int32) (x2 : Int32) (x3 : Int32) (h : HI) (g : HL) => lpN (F_X7_chooseSizes_8 Q) n (x1, x2, x3, h, g)) = K8 at HW
      have hK8 : ∀ (x1 : Int32) (x2 : Int32) (x3 : Int32) (h : HI) (g : HL) (H : Heap) (locs : List Loc) (ls : Array Slot), K8 x1 x2 x3 h g → gG D cy ad (gA ad s.heap.size) s.heap h g H locs → lv_has ls 5 [(0, .ref (ad 81)), (1, .int x1), (2, .int x2), (3, .int x3)] → W p l e ({ frames := 1, cells := 0, slots := 0, locals := 32 } : Room) s m args below meth c H locs 0 0 (MQ below (va_Qv (fun (u : HI × HL) => Q u.1 u.2) (gB D cy ad s.heap.size) (gA ad s.heap.size)) args s 0 0 (gA ad s.heap.size)) (F0 m 8 ls []) := by subst hKe; exact ih
      clear ih
      clear hKe
      unfold b_X7_chooseSizes_8 at HW
      refine lv_iload_n hx hb dX7_chooseSizes_8 rfl (lv_at hl 3 rfl) ?_
      refine lv_aload_n hx hb dX7_chooseSizes_9 rfl (lv_at hl 0 rfl) ?_
      refine g_geti hx hb hw inG7 hown hK hG gl_81 rfl gk_81 (by decide) 5 (by decide) (by rw [gm_81]; decide) gr_81_5 lk45 dX7_chooseSizes_10 ?_
      refine lv_icmp_ge (tgt := 62) hx hb dX7_chooseSizes_13 (by decide) (fun c_13 => ?_) (fun c_13 => ?_)
      · replace HW := HW.1 c_13
        exact B62 x1 x2 h g _ _ _ HW hG (lv_sub hl [0, 1, 2] rfl)
      · replace HW := HW.2 c_13
        refine lv_iload_n hx hb dX7_chooseSizes_16 rfl (lv_at hl 3 rfl) ?_
        refine lv_aload_n hx hb dX7_chooseSizes_17 rfl (lv_at hl 0 rfl) ?_
        refine g_getr hx hb hw inG7 hown hK hG gl_81 rfl gk_81 (by decide) 2 (by decide) (by rw [gm_81]; decide) (r := 82) gr_81_2 lk19 dX7_chooseSizes_18 ?_
        refine g_alen hx hb hK hG gl_82 gk_82 (v := (60 : Int32)) (by rw [gn_82]; decide) dX7_chooseSizes_21 ?_
        refine lv_icmp_ge (tgt := 62) hx hb dX7_chooseSizes_22 (by decide) (fun c_22 => ?_) (fun c_22 => ?_)
        · replace HW := HW.1 c_22
          exact B62 x1 x2 h g _ _ _ HW hG (lv_sub hl [0, 1, 2] rfl)
        · replace HW := HW.2 c_22
          refine lv_iload_n hx hb dX7_chooseSizes_25 rfl (lv_at hl 3 rfl) ?_
          refine lv_aload_n hx hb dX7_chooseSizes_26 rfl (lv_at hl 0 rfl) ?_
          refine g_getr hx hb hw inG7 hown hK hG gl_81 rfl gk_81 (by decide) 3 (by decide) (by rw [gm_81]; decide) (r := 83) gr_81_3 lk23 dX7_chooseSizes_27 ?_
          refine g_alen hx hb hK hG gl_83 gk_83 (v := (60 : Int32)) (by rw [gn_83]; decide) dX7_chooseSizes_30 ?_
          refine lv_icmp_ge (tgt := 62) hx hb dX7_chooseSizes_31 (by decide) (fun c_31 => ?_) (fun c_31 => ?_)
          · replace HW := HW.1 c_31
            exact B62 x1 x2 h g _ _ _ HW hG (lv_sub hl [0, 1, 2] rfl)
          · replace HW := HW.2 c_31
            refine lv_iload_n hx hb dX7_chooseSizes_34 rfl (lv_at hl 1 rfl) ?_
            refine lv_aload_n hx hb dX7_chooseSizes_35 rfl (lv_at hl 0 rfl) ?_
            refine g_getr hx hb hw inG7 hown hK hG gl_81 rfl gk_81 (by decide) 2 (by decide) (by rw [gm_81]; decide) (r := 82) gr_81_2 lk19 dX7_chooseSizes_36 ?_
            refine lv_iload_n hx hb dX7_chooseSizes_39 rfl (lv_at hl 3 rfl) ?_
            refine g_iald hx hb hK hG gl_82 gk_82 gn_82 HW.1 dX7_chooseSizes_40 ?_
            replace HW := HW.2
            refine va_mmax hx hb (hml.trans hl.1.symm) hown ml72 ms72 mi72 mc72 (by decide) (Nat.le_of_ble_eq_true rfl) (Nat.zero_le _) (Nat.zero_le _) dX7_chooseSizes_41 ?_
            refine lv_topi (fun x1_44 ex1_44 => ?_)
            replace HW := HW x1_44 ex1_44
            refine lv_istore_n (lv' := [(1, .int x1_44), (0, .ref (ad 81)), (2, .int x2), (3, .int x3)]) hx hb dX7_chooseSizes_44 rfl hl (by decide) rfl (fun ls hl => ?_)
            refine lv_iload_n hx hb dX7_chooseSizes_45 rfl (lv_at hl 2 rfl) ?_
            refine lv_aload_n hx hb dX7_chooseSizes_46 rfl (lv_at hl 1 rfl) ?_
            refine g_getr hx hb hw inG7 hown hK hG gl_81 rfl gk_81 (by decide) 3 (by decide) (by rw [gm_81]; decide) (r := 83) gr_81_3 lk23 dX7_chooseSizes_47 ?_
            refine lv_iload_n hx hb dX7_chooseSizes_50 rfl (lv_at hl 3 rfl) ?_
            refine g_iald hx hb hK hG gl_83 gk_83 gn_83 HW.1 dX7_chooseSizes_51 ?_
            replace HW := HW.2
            refine va_mmin hx hb (hml.trans hl.1.symm) hown ml91 ms91 mi91 mc91 (by decide) (Nat.le_of_ble_eq_true rfl) (Nat.zero_le _) (Nat.zero_le _) dX7_chooseSizes_52 ?_
            refine lv_topi (fun x2_55 ex2_55 => ?_)
            replace HW := HW x2_55 ex2_55
            refine lv_istore_n (lv' := [(2, .int x2_55), (1, .int x1_44), (0, .ref (ad 81)), (3, .int x3)]) hx hb dX7_chooseSizes_55 rfl hl (by decide) rfl (fun ls hl => ?_)
            obtain ⟨x3_56, ex3_56⟩ : ∃ y : Int32, y = (x3 + 1) := ⟨_, rfl⟩
            replace HW := HW x3_56 ex3_56
            refine lv_iinc (v := x3_56) (lv' := [(3, .int x3_56), (2, .int x2_55), (1, .int x1_44), (0, .ref (ad 81))]) hx hb dX7_chooseSizes_56 hl (k := 3) rfl (by rw [ex3_56]; rfl) (by decide) rfl (fun ls hl => ?_)
            refine lv_goto (tgt := 8) hx hb dX7_chooseSizes_59 (by decide) ?_
            exact hK8 x1_44 x2_55 x3_56 h g _ _ _ HW hG (lv_sub hl [3, 2, 1, 0] rfl)
  have E0 : ∀ (H : Heap) (locs : List Loc) (ls : Array Slot), gG D cy ad (gA ad s.heap.size) s.heap h g H locs → lv_has ls 5 [(0, .ref (ad 81))] → W p l e ({ frames := 1, cells := 0, slots := 0, locals := 32 } : Room) s m args below meth c H locs 0 0 (MQ below (va_Qv (fun (u : HI × HL) => Q u.1 u.2) (gB D cy ad s.heap.size) (gA ad s.heap.size)) args s 0 0 (gA ad s.heap.size)) (F0 m 0 ls []) := by
    intro H locs ls hG hl
    unfold w_X7_chooseSizes at HW
    refine lv_ldc (v := (-1000000)) hx hb hown cn89 dX7_chooseSizes_0 ?_
    refine lv_istore_n (lv' := [(1, .int (-1000000 : Int32)), (0, .ref (ad 81))]) hx hb dX7_chooseSizes_2 rfl hl (by decide) rfl (fun ls hl => ?_)
    refine lv_ldc (v := 1000000) hx hb hown cn90 dX7_chooseSizes_3 ?_
    refine lv_istore_n (lv' := [(2, .int (1000000 : Int32)), (1, .int (-1000000 : Int32)), (0, .ref (ad 81))]) hx hb dX7_chooseSizes_5 rfl hl (by decide) rfl (fun ls hl => ?_)
    refine lv_iconst (v := 0) hx hb dX7_chooseSizes_6 (by decide) ?_
    refine lv_istore_n (lv' := [(3, .int (0 : Int32)), (2, .int (1000000 : Int32)), (1, .int (-1000000 : Int32)), (0, .ref (ad 81))]) hx hb dX7_chooseSizes_7 rfl hl (by decide) rfl (fun ls hl => ?_)
    obtain ⟨n_8, HW⟩ := HW
    exact L8 n_8 (-1000000 : Int32) (1000000 : Int32) (0 : Int32) h g _ _ _ HW hG (lv_sub hl [3, 2, 1, 0] rfl)
  exact E0 _ _ _ hG hl

def j_X7_find_110 (Q : HI → HL → Prop) (K23 : Int32 → Int32 → HI → HL → Prop) (x1 : Int32) (x2 : Int32) (h : HI) (g : HL) : Prop :=
  (∀ x2_110 : Int32, x2_110 = (x2 + 1) → K23 x1 x2_110 h g)
def j_X7_find_73 (Q : HI → HL → Prop) (K23 : Int32 → Int32 → HI → HL → Prop) (x1 : Int32) (x2 : Int32) (s0 : Int32) (h : HI) (g : HL) : Prop :=
  ((s0 = 0 → j_X7_find_110 Q K23 x1 x2 h g) ∧ (¬ s0 = 0 → (((60 : Int32) ≤ (h 81 5) → j_X7_find_110 Q K23 x1 x2 h g) ∧ (¬ (60 : Int32) ≤ (h 81 5) → (∃ P_97 : HI → HL → Prop, w_X7_allow x1 x2 (h 81 5) h g P_97 ∧ ∀ (h_97 : HI) (g_97 : HL), P_97 h_97 g_97 → (∀ h_107 : HI, h_107 = hu h_97 81 5 ((h_97 81 5) + (1 : Int32)) → j_X7_find_110 Q K23 x1 x2 h_107 g_97))))))
def j_X7_find_72 (Q : HI → HL → Prop) (K23 : Int32 → Int32 → HI → HL → Prop) (x1 : Int32) (x2 : Int32) (h : HI) (g : HL) : Prop :=
  j_X7_find_73 Q K23 x1 x2 (0 : Int32) h g
def b_X7_find_23 (Q : HI → HL → Prop) (K23 : Int32 → Int32 → HI → HL → Prop) (x1 : Int32) (x2 : Int32) (h : HI) (g : HL) : Prop :=
  (∃ P_31 : Int32 → HI → HL → Prop, w_X8_rows 6 h g P_31 ∧ ∀ (r_31 : Int32) (h_31 : HI) (g_31 : HL), P_31 r_31 h_31 g_31 → ((r_31 ≤ x2 → (∃ P_117 : HI → HL → Prop, w_X7_chooseSizes h_31 g_31 P_117 ∧ ∀ (h_117 : HI) (g_117 : HL), P_117 h_117 g_117 → Q h_117 g_117)) ∧ (¬ r_31 ≤ x2 → (∃ P_46 : Int32 → HI → HL → Prop, w_X8_at 6 x2 (0 : Int32) h_31 g_31 P_46 ∧ ∀ (r_46 : Int32) (h_46 : HI) (g_46 : HL), P_46 r_46 h_46 g_46 → ((¬ r_46 = x1 → j_X7_find_72 Q K23 x1 x2 h_46 g_46) ∧ (r_46 = x1 → (∃ P_62 : Int32 → HI → HL → Prop, w_X8_at 6 x2 (5 : Int32) h_46 g_46 P_62 ∧ ∀ (r_62 : Int32) (h_62 : HI) (g_62 : HL), P_62 r_62 h_62 g_62 → ((¬ r_62 = 0 → j_X7_find_72 Q K23 x1 x2 h_62 g_62) ∧ (r_62 = 0 → j_X7_find_73 Q K23 x1 x2 (1 : Int32) h_62 g_62)))))))))
def F_X7_find_23 (Q : HI → HL → Prop) (K : Int32 × Int32 × HI × HL → Prop) (q : Int32 × Int32 × HI × HL) : Prop := b_X7_find_23 Q (fun x1 x2 h g => K (x1, x2, h, g)) q.1 q.2.1 q.2.2.1 q.2.2.2
def w_X7_find (x1 : Int32) (h : HI) (g : HL) (Q : HI → HL → Prop) : Prop :=
  (∃ P_10 : Int32 → HI → HL → Prop, w_X8_at 2 x1 (3 : Int32) h g P_10 ∧ ∀ (r_10 : Int32) (h_10 : HI) (g_10 : HL), P_10 r_10 h_10 g_10 → (∃ P_13 : HI → HL → Prop, w_X7_chooseFamily r_10 h_10 g_10 P_13 ∧ ∀ (h_13 : HI) (g_13 : HL), P_13 h_13 g_13 → (∀ h_18 : HI, h_18 = hu h_13 81 5 (0 : Int32) → lpE (F_X7_find_23 Q) (x1, (0 : Int32), h_18, g_13))))
set_option maxHeartbeats 8000000 in
set_option maxRecDepth 100000 in
theorem m_X7_find (l : Launch) (D : va_G) (cy : Nat → ClassId) (ad : Nat → Nat) (h : HI) (g : HL) (sz : Nat) (x1 : Int32) (Q : HI → HL → Prop) (HW : w_X7_find x1 h g Q) : Met l yX7_find (wa yX7_find cX7_find 4 none) ({ frames := 4, cells := 0, slots := 0, locals := 101 }) (va_Pc [.ref (ad 81), .int x1] (gI D cy ad h g sz)) (va_Qv (fun (u : HI × HL) => Q u.1 u.2) (gB D cy ad sz) (gA ad sz)) 0 0 (gA ad sz) := by
  refine Met.ofW (cc := cX7_find) (maxL := 4) (ret := none) (by decide) rfl ?_
  intro p e s m args below meth c s₁ B hml hv
  obtain ⟨hav, hsz, hP, hK, hD0, hNw⟩ := hv
  have hx := B.exec
  have hb := B.bytes
  have hr := B.returns
  have hts := atoms_spec (ws := (wa yX7_find cX7_find 4 none)) B.pre
  have hw := wa_hw hts
  have hown : s.vm.findClass RX7 = some m.cls := findClass_of_methodNamed B.named
  have hlocks := B.notSynchronized
  subst hsz
  have hG : gG D cy ad (gA ad s.heap.size) s.heap h g s.heap [] := ⟨hP, gA_self hD0, va_S.rf⟩
  clear hP hD0
  have lk9 := hw (.fieldLink RX7 9 "OldWorks$Sizes" "shop" "LOldWorks$Shop;") (wm1 168 rfl rfl)
  have lk29 := hw (.fieldLink RX7 29 "OldWorks$Shop" "parts" "LOldWorks$Table;") (wm1 61 rfl rfl)
  have lk45 := hw (.fieldLink RX7 45 "OldWorks$Sizes" "said" "I") (wm1 173 rfl rfl)
  have lk49 := hw (.fieldLink RX7 49 "OldWorks$Shop" "sayings" "LOldWorks$Table;") (wm1 69 rfl rfl)
  have lk26 := hw (.fieldLink RX7 26 "OldWorks$Sizes" "sayings" "[I") (wm1 172 rfl rfl)
  rw [show (headSpec (wa yX7_find cX7_find 4 none) ({ frames := 4, cells := 0, slots := 0, locals := 101 } : Room)).room = ({ frames := 4, cells := 0, slots := 0, locals := 101 } : Room) from rfl]
  have hl := lv_entry ([.ref (ad 81), .int x1]) (n := 4) (Nat.le_of_ble_eq_true rfl)
  rw [show entryFrame m args 4 = entryFrame m ([.ref (ad 81), .int x1] : List Value).toArray 4 from by rw [hav], lg_entry_eq]
  generalize (lg_sl ([.ref (ad 81), .int x1]) ++ List.replicate (4 - (lg_sl ([.ref (ad 81), .int x1])).length) Slot.unset).toArray = ls at hl ⊢
  have hl : lv_has ls 4 [(0, .ref (ad 81)), (1, .int x1)] := hl
  have B110 : ∀ (K23 : Int32 → Int32 → HI → HL → Prop) (hK23 : ∀ (x1 : Int32) (x2 : Int32) (h : HI) (g : HL) (H : Heap) (locs : List Loc) (ls : Array Slot), K23 x1 x2 h g → gG D cy ad (gA ad s.heap.size) s.heap h g H locs → lv_has ls 4 [(0, .ref (ad 81)), (1, .int x1), (2, .int x2)] → W p l e ({ frames := 4, cells := 0, slots := 0, locals := 101 } : Room) s m args below meth c H locs 0 0 (MQ below (va_Qv (fun (u : HI × HL) => Q u.1 u.2) (gB D cy ad s.heap.size) (gA ad s.heap.size)) args s 0 0 (gA ad s.heap.size)) (F0 m 23 ls [])) (x1 : Int32) (x2 : Int32) (h : HI) (g : HL) (H : Heap) (locs : List Loc) (ls : Array Slot), j_X7_find_110 Q K23 x1 x2 h g → gG D cy ad (gA ad s.heap.size) s.heap h g H locs → lv_has ls 4 [(0, .ref (ad 81)), (1, .int x1), (2, .int x2)] → W p l e ({ frames := 4, cells := 0, slots := 0, locals := 101 } : Room) s m args below meth c H locs 0 0 (MQ below (va_Qv (fun (u : HI × HL) => Q u.1 u.2) (gB D cy ad s.heap.size) (gA ad s.heap.size)) args s 0 0 (gA ad s.heap.size)) (F0 m 110 ls []) := by
    intro K23 hK23 x1 x2 h g H locs ls HW hG hl
    unfold j_X7_find_110 at HW
    obtain ⟨x2_110, ex2_110⟩ : ∃ y : Int32, y = (x2 + 1) := ⟨_, rfl⟩
    replace HW := HW x2_110 ex2_110
    refine lv_iinc (v := x2_110) (lv' := [(2, .int x2_110), (0, .ref (ad 81)), (1, .int x1)]) hx hb dX7_find_110 hl (k := 2) rfl (by rw [ex2_110]; rfl) (by decide) rfl (fun ls hl => ?_)
    refine lv_goto (tgt := 23) hx hb dX7_find_113 (by decide) ?_
    exact hK23 x1 x2_110 h g _ _ _ HW hG (lv_sub hl [1, 2, 0] rfl)
  have B73 : ∀ (K23 : Int32 → Int32 → HI → HL → Prop) (hK23 : ∀ (x1 : Int32) (x2 : Int32) (h : HI) (g : HL) (H : Heap) (locs : List Loc) (ls : Array Slot), K23 x1 x2 h g → gG D cy ad (gA ad s.heap.size) s.heap h g H locs → lv_has ls 4 [(0, .ref (ad 81)), (1, .int x1), (2, .int x2)] → W p l e ({ frames := 4, cells := 0, slots := 0, locals := 101 } : Room) s m args below meth c H locs 0 0 (MQ below (va_Qv (fun (u : HI × HL) => Q u.1 u.2) (gB D cy ad s.heap.size) (gA ad s.heap.size)) args s 0 0 (gA ad s.heap.size)) (F0 m 23 ls [])) (x1 : Int32) (x2 : Int32) (s0 : Int32) (h : HI) (g : HL) (H : Heap) (locs : List Loc) (ls : Array Slot), j_X7_find_73 Q K23 x1 x2 s0 h g → gG D cy ad (gA ad s.heap.size) s.heap h g H locs → lv_has ls 4 [(0, .ref (ad 81)), (1, .int x1), (2, .int x2)] → W p l e ({ frames := 4, cells := 0, slots := 0, locals := 101 } : Room) s m args below meth c H locs 0 0 (MQ below (va_Qv (fun (u : HI × HL) => Q u.1 u.2) (gB D cy ad s.heap.size) (gA ad s.heap.size)) args s 0 0 (gA ad s.heap.size)) (F0 m 73 ls [.int s0]) := by
    intro K23 hK23 x1 x2 s0 h g H locs ls HW hG hl
    unfold j_X7_find_73 at HW
    refine lv_istore_n (lv' := [(3, .int s0), (0, .ref (ad 81)), (1, .int x1), (2, .int x2)]) hx hb dX7_find_73 rfl hl (by decide) rfl (fun ls hl => ?_)
    refine lv_iload_n hx hb dX7_find_74 rfl (lv_at hl 0 rfl) ?_
    refine lv_if_eq (tgt := 110) hx hb dX7_find_75 (by decide) (fun c_75 => ?_) (fun c_75 => ?_)
    · replace HW := HW.1 c_75
      exact B110 K23 hK23 x1 x2 h g _ _ _ HW hG (lv_sub hl [1, 2, 3] rfl)
    · replace HW := HW.2 c_75
      refine lv_aload_n hx hb dX7_find_78 rfl (lv_at hl 1 rfl) ?_
      refine g_geti hx hb hw inG7 hown hK hG gl_81 rfl gk_81 (by decide) 5 (by decide) (by rw [gm_81]; decide) gr_81_5 lk45 dX7_find_79 ?_
      refine lv_aload_n hx hb dX7_find_82 rfl (lv_at hl 1 rfl) ?_
      refine g_getr hx hb hw inG7 hown hK hG gl_81 rfl gk_81 (by decide) 4 (by decide) (by rw [gm_81]; decide) (r := 84) gr_81_4 lk26 dX7_find_83 ?_
      refine g_alen hx hb hK hG gl_84 gk_84 (v := (60 : Int32)) (by rw [gn_84]; decide) dX7_find_86 ?_
      refine lv_icmp_ge (tgt := 110) hx hb dX7_find_87 (by decide) (fun c_87 => ?_) (fun c_87 => ?_)
      · replace HW := HW.1 c_87
        exact B110 K23 hK23 x1 x2 h g _ _ _ HW hG (lv_sub hl [1, 2, 3] rfl)
      · replace HW := HW.2 c_87
        refine lv_aload_n hx hb dX7_find_90 rfl (lv_at hl 1 rfl) ?_
        refine lv_iload_n hx hb dX7_find_91 rfl (lv_at hl 2 rfl) ?_
        refine lv_iload_n hx hb dX7_find_92 rfl (lv_at hl 3 rfl) ?_
        refine lv_aload_n hx hb dX7_find_93 rfl (lv_at hl 1 rfl) ?_
        refine g_geti hx hb hw inG7 hown hK hG gl_81 rfl gk_81 (by decide) 5 (by decide) (by rw [gm_81]; decide) gr_81_5 lk45 dX7_find_94 ?_
        obtain ⟨P_97, HC_97, HW⟩ := HW
        refine g_callv (g_runV (As := [.int x1, .int x2, .int (h 81 5)]) (rest := []) ⟨hx, hb, hml, hown, hts⟩ (m_X7_allow l D cy ad h g H.size x1 x2 (h 81 5) P_97 HC_97) (cwV 3 hts (gd_V (wm3 87 rfl rfl) (wm3 89 rfl rfl) (wmp1 (q := (yX7_allow, 12)) 10 rfl) (wm1 5 rfl rfl) (wm3 90 rfl rfl)) rfl rfl rfl (by decide +kernel) ⟨Nat.le_of_ble_eq_true rfl, Nat.le_of_ble_eq_true rfl⟩) hK hNw hG gl_81 rfl gk_81 (by decide) rfl rfl hl.1 rfl (lv_room (Nat.le_of_ble_eq_true rfl)) dX7_find_97 ⟨Nat.zero_le _, Nat.zero_le _⟩) hG (fun h_97 g_97 H locs hq hG => ?_)
        replace HW := HW h_97 g_97 hq
        refine lv_aload_n hx hb dX7_find_100 rfl (lv_at hl 1 rfl) ?_
        refine lv_dup hx hb dX7_find_101 rfl ?_
        refine g_geti hx hb hw inG7 hown hK hG gl_81 rfl gk_81 (by decide) 5 (by decide) (by rw [gm_81]; decide) gr_81_5 lk45 dX7_find_102 ?_
        refine lv_iconst (v := 1) hx hb dX7_find_105 (by decide) ?_
        refine lv_iadd hx hb dX7_find_106 ?_
        refine g_put hx hb hw inG7 tyX7 tyX7_ok nmX7 hown hK hG gl_81 rfl gk_81 (by decide) 5 (by decide) (by rw [gm_81]; decide) gr_81_5 rfl (ty := .int) (by decide +kernel) rfl rfl lk45 dX7_find_107 (fun H locs hG => ?_)
        obtain ⟨h_107, eh_107⟩ : ∃ y : HI, y = hu h_97 81 5 ((h_97 81 5) + (1 : Int32)) := ⟨_, rfl⟩
        rw [← eh_107] at hG
        replace HW := HW h_107 eh_107
        exact B110 K23 hK23 x1 x2 h_107 g_97 _ _ _ HW hG (lv_sub hl [1, 2, 3] rfl)
  have B72 : ∀ (K23 : Int32 → Int32 → HI → HL → Prop) (hK23 : ∀ (x1 : Int32) (x2 : Int32) (h : HI) (g : HL) (H : Heap) (locs : List Loc) (ls : Array Slot), K23 x1 x2 h g → gG D cy ad (gA ad s.heap.size) s.heap h g H locs → lv_has ls 4 [(0, .ref (ad 81)), (1, .int x1), (2, .int x2)] → W p l e ({ frames := 4, cells := 0, slots := 0, locals := 101 } : Room) s m args below meth c H locs 0 0 (MQ below (va_Qv (fun (u : HI × HL) => Q u.1 u.2) (gB D cy ad s.heap.size) (gA ad s.heap.size)) args s 0 0 (gA ad s.heap.size)) (F0 m 23 ls [])) (x1 : Int32) (x2 : Int32) (h : HI) (g : HL) (H : Heap) (locs : List Loc) (ls : Array Slot), j_X7_find_72 Q K23 x1 x2 h g → gG D cy ad (gA ad s.heap.size) s.heap h g H locs → lv_has ls 4 [(0, .ref (ad 81)), (1, .int x1), (2, .int x2)] → W p l e ({ frames := 4, cells := 0, slots := 0, locals := 101 } : Room) s m args below meth c H locs 0 0 (MQ below (va_Qv (fun (u : HI × HL) => Q u.1 u.2) (gB D cy ad s.heap.size) (gA ad s.heap.size)) args s 0 0 (gA ad s.heap.size)) (F0 m 72 ls []) := by
    intro K23 hK23 x1 x2 h g H locs ls HW hG hl
    unfold j_X7_find_72 at HW
    refine lv_iconst (v := 0) hx hb dX7_find_72 (by decide) ?_
    exact B73 K23 hK23 x1 x2 (0 : Int32) h g _ _ _ HW hG (lv_sub hl [0, 1, 2] rfl)
  have L23 : ∀ (n : Nat) (x1 : Int32) (x2 : Int32) (h : HI) (g : HL) (H : Heap) (locs : List Loc) (ls : Array Slot), lpN (F_X7_find_23 Q) n (x1, x2, h, g) → gG D cy ad (gA ad s.heap.size) s.heap h g H locs → lv_has ls 4 [(0, .ref (ad 81)), (1, .int x1), (2, .int x2)] → W p l e ({ frames := 4, cells := 0, slots := 0, locals := 101 } : Room) s m args below meth c H locs 0 0 (MQ below (va_Qv (fun (u : HI × HL) => Q u.1 u.2) (gB D cy ad s.heap.size) (gA ad s.heap.size)) args s 0 0 (gA ad s.heap.size)) (F0 m 23 ls []) := by
    intro n
    induction n with
    | zero => intro x1 x2 h g H locs ls HW; exact HW.elim
    | succ n ih =>
      intro x1 x2 h g H locs ls HW hG hl
      have HW : b_X7_find_23 Q (fun x1 x2 h g => lpN (F_X7_find_23 Q) n (x1, x2, h, g)) x1 x2 h g := HW
      generalize hKe : (fun (x1 : Int32) (x2 : Int32) (h : HI) (g : HL) => lpN (F_X7_find_23 Q) n (x1, x2, h, g)) = K23 at HW
      have hK23 : ∀ (x1 : Int32) (x2 : Int32) (h : HI) (g : HL) (H : Heap) (locs : List Loc) (ls : Array Slot), K23 x1 x2 h g → gG D cy ad (gA ad s.heap.size) s.heap h g H locs → lv_has ls 4 [(0, .ref (ad 81)), (1, .int x1), (2, .int x2)] → W p l e ({ frames := 4, cells := 0, slots := 0, locals := 101 } : Room) s m args below meth c H locs 0 0 (MQ below (va_Qv (fun (u : HI × HL) => Q u.1 u.2) (gB D cy ad s.heap.size) (gA ad s.heap.size)) args s 0 0 (gA ad s.heap.size)) (F0 m 23 ls []) := by subst hKe; exact ih
      clear ih
      clear hKe
      unfold b_X7_find_23 at HW
      refine lv_iload_n hx hb dX7_find_23 rfl (lv_at hl 2 rfl) ?_
      refine lv_aload_n hx hb dX7_find_24 rfl (lv_at hl 0 rfl) ?_
      refine g_getr hx hb hw inG7 hown hK hG gl_81 rfl gk_81 (by decide) 0 (by decide) (by rw [gm_81]; decide) (r := 1) gr_81_0 lk9 dX7_find_25 ?_
      refine g_getr hx hb hw inG6 hown hK hG gl_1 rfl gk_1 (by decide) 2 (by decide) (by rw [gm_1]; decide) (r := 6) gr_1_2 lk49 dX7_find_28 ?_
      obtain ⟨P_31, HC_31, HW⟩ := HW
      refine g_calli (g_runV (As := []) (rest := [.int x2]) ⟨hx, hb, hml, hown, hts⟩ (m_X8_rows l D cy ad h g H.size 6 (gs_6) P_31 HC_31) (cwV 0 hts (gd_V (wm3 86 rfl rfl) (wm2 217 rfl rfl) (wm2 218 rfl rfl) (wm1 3 rfl rfl) (wm2 219 rfl rfl)) rfl rfl rfl (by decide +kernel) ⟨Nat.le_of_ble_eq_true rfl, Nat.le_of_ble_eq_true rfl⟩) hK hNw hG gl_6 rfl gk_6 (by decide) rfl rfl hl.1 rfl (lv_room (Nat.le_of_ble_eq_true rfl)) dX7_find_31 ⟨Nat.zero_le _, Nat.zero_le _⟩) hG (fun r_31 h_31 g_31 H locs hq hG => ?_)
      replace HW := HW r_31 h_31 g_31 hq
      refine lv_icmp_ge (tgt := 116) hx hb dX7_find_34 (by decide) (fun c_34 => ?_) (fun c_34 => ?_)
      · replace HW := HW.1 c_34
        refine lv_aload_n hx hb dX7_find_116 rfl (lv_at hl 0 rfl) ?_
        obtain ⟨P_117, HC_117, HW⟩ := HW
        refine g_callv (g_runV (As := []) (rest := []) ⟨hx, hb, hml, hown, hts⟩ (m_X7_chooseSizes l D cy ad h_31 g_31 H.size  P_117 HC_117) (cwV 0 hts (gd_V (wm3 94 rfl rfl) (wm3 96 rfl rfl) (wmp1 (q := (yX7_chooseSizes, 12)) 11 rfl) (wm1 5 rfl rfl) (wm3 97 rfl rfl)) rfl rfl rfl (by decide +kernel) ⟨Nat.le_of_ble_eq_true rfl, Nat.le_of_ble_eq_true rfl⟩) hK hNw hG gl_81 rfl gk_81 (by decide) rfl rfl hl.1 rfl (lv_room (Nat.le_of_ble_eq_true rfl)) dX7_find_117 ⟨Nat.zero_le _, Nat.zero_le _⟩) hG (fun h_117 g_117 H locs hq hG => ?_)
        replace HW := HW h_117 g_117 hq
        exact W.vret hx hb hr (fun t ht hW => ⟨⟨(h_117, g_117), rfl, HW, g_B ht hG⟩, hG.2.2.F ht⟩) hG.2.2.2.2 dX7_find_120
      · replace HW := HW.2 c_34
        refine lv_aload_n hx hb dX7_find_37 rfl (lv_at hl 0 rfl) ?_
        refine g_getr hx hb hw inG7 hown hK hG gl_81 rfl gk_81 (by decide) 0 (by decide) (by rw [gm_81]; decide) (r := 1) gr_81_0 lk9 dX7_find_38 ?_
        refine g_getr hx hb hw inG6 hown hK hG gl_1 rfl gk_1 (by decide) 2 (by decide) (by rw [gm_1]; decide) (r := 6) gr_1_2 lk49 dX7_find_41 ?_
        refine lv_iload_n hx hb dX7_find_44 rfl (lv_at hl 2 rfl) ?_
        refine lv_iconst (v := 0) hx hb dX7_find_45 (by decide) ?_
        obtain ⟨P_46, HC_46, HW⟩ := HW
        refine g_calli (g_runV (As := [.int x2, .int (0 : Int32)]) (rest := []) ⟨hx, hb, hml, hown, hts⟩ (m_X8_at l D cy ad h_31 g_31 H.size 6 (gs_6) x2 (0 : Int32) P_46 HC_46) (cwV 2 hts (gd_V (wm3 78 rfl rfl) (wm2 221 rfl rfl) (wm2 222 rfl rfl) (wm1 3 rfl rfl) (wm2 223 rfl rfl)) rfl rfl rfl (by decide +kernel) ⟨Nat.le_of_ble_eq_true rfl, Nat.le_of_ble_eq_true rfl⟩) hK hNw hG gl_6 rfl gk_6 (by decide) rfl rfl hl.1 rfl (lv_room (Nat.le_of_ble_eq_true rfl)) dX7_find_46 ⟨Nat.zero_le _, Nat.zero_le _⟩) hG (fun r_46 h_46 g_46 H locs hq hG => ?_)
        replace HW := HW r_46 h_46 g_46 hq
        refine lv_iload_n hx hb dX7_find_49 rfl (lv_at hl 1 rfl) ?_
        refine lv_icmp_ne (tgt := 72) hx hb dX7_find_50 (by decide) (fun c_50 => ?_) (fun c_50 => ?_)
        · replace HW := HW.1 c_50
          exact B72 K23 hK23 x1 x2 h_46 g_46 _ _ _ HW hG (lv_sub hl [0, 1, 2] rfl)
        · replace HW := HW.2 c_50
          refine lv_aload_n hx hb dX7_find_53 rfl (lv_at hl 0 rfl) ?_
          refine g_getr hx hb hw inG7 hown hK hG gl_81 rfl gk_81 (by decide) 0 (by decide) (by rw [gm_81]; decide) (r := 1) gr_81_0 lk9 dX7_find_54 ?_
          refine g_getr hx hb hw inG6 hown hK hG gl_1 rfl gk_1 (by decide) 2 (by decide) (by rw [gm_1]; decide) (r := 6) gr_1_2 lk49 dX7_find_57 ?_
          refine lv_iload_n hx hb dX7_find_60 rfl (lv_at hl 2 rfl) ?_
          refine lv_iconst (v := 5) hx hb dX7_find_61 (by decide) ?_
          obtain ⟨P_62, HC_62, HW⟩ := HW
          refine g_calli (g_runV (As := [.int x2, .int (5 : Int32)]) (rest := []) ⟨hx, hb, hml, hown, hts⟩ (m_X8_at l D cy ad h_46 g_46 H.size 6 (gs_6) x2 (5 : Int32) P_62 HC_62) (cwV 2 hts (gd_V (wm3 78 rfl rfl) (wm2 221 rfl rfl) (wm2 222 rfl rfl) (wm1 3 rfl rfl) (wm2 223 rfl rfl)) rfl rfl rfl (by decide +kernel) ⟨Nat.le_of_ble_eq_true rfl, Nat.le_of_ble_eq_true rfl⟩) hK hNw hG gl_6 rfl gk_6 (by decide) rfl rfl hl.1 rfl (lv_room (Nat.le_of_ble_eq_true rfl)) dX7_find_62 ⟨Nat.zero_le _, Nat.zero_le _⟩) hG (fun r_62 h_62 g_62 H locs hq hG => ?_)
          replace HW := HW r_62 h_62 g_62 hq
          refine lv_if_ne (tgt := 72) hx hb dX7_find_65 (by decide) (fun c_65 => ?_) (fun c_65 => ?_)
          · replace HW := HW.1 c_65
            exact B72 K23 hK23 x1 x2 h_62 g_62 _ _ _ HW hG (lv_sub hl [0, 1, 2] rfl)
          · replace HW := HW.2 c_65
            refine lv_iconst (v := 1) hx hb dX7_find_68 (by decide) ?_
            refine lv_goto (tgt := 73) hx hb dX7_find_69 (by decide) ?_
            exact B73 K23 hK23 x1 x2 (1 : Int32) h_62 g_62 _ _ _ HW hG (lv_sub hl [0, 1, 2] rfl)
  have E0 : ∀ (H : Heap) (locs : List Loc) (ls : Array Slot), gG D cy ad (gA ad s.heap.size) s.heap h g H locs → lv_has ls 4 [(0, .ref (ad 81)), (1, .int x1)] → W p l e ({ frames := 4, cells := 0, slots := 0, locals := 101 } : Room) s m args below meth c H locs 0 0 (MQ below (va_Qv (fun (u : HI × HL) => Q u.1 u.2) (gB D cy ad s.heap.size) (gA ad s.heap.size)) args s 0 0 (gA ad s.heap.size)) (F0 m 0 ls []) := by
    intro H locs ls hG hl
    unfold w_X7_find at HW
    refine lv_aload_n hx hb dX7_find_0 rfl (lv_at hl 0 rfl) ?_
    refine lv_aload_n hx hb dX7_find_1 rfl (lv_at hl 0 rfl) ?_
    refine g_getr hx hb hw inG7 hown hK hG gl_81 rfl gk_81 (by decide) 0 (by decide) (by rw [gm_81]; decide) (r := 1) gr_81_0 lk9 dX7_find_2 ?_
    refine g_getr hx hb hw inG6 hown hK hG gl_1 rfl gk_1 (by decide) 0 (by decide) (by rw [gm_1]; decide) (r := 2) gr_1_0 lk29 dX7_find_5 ?_
    refine lv_iload_n hx hb dX7_find_8 rfl (lv_at hl 1 rfl) ?_
    refine lv_iconst (v := 3) hx hb dX7_find_9 (by decide) ?_
    obtain ⟨P_10, HC_10, HW⟩ := HW
    refine g_calli (g_runV (As := [.int x1, .int (3 : Int32)]) (rest := [.ref (ad 81)]) ⟨hx, hb, hml, hown, hts⟩ (m_X8_at l D cy ad h g H.size 2 (gs_2) x1 (3 : Int32) P_10 HC_10) (cwV 2 hts (gd_V (wm3 78 rfl rfl) (wm2 221 rfl rfl) (wm2 222 rfl rfl) (wm1 3 rfl rfl) (wm2 223 rfl rfl)) rfl rfl rfl (by decide +kernel) ⟨Nat.le_of_ble_eq_true rfl, Nat.le_of_ble_eq_true rfl⟩) hK hNw hG gl_2 rfl gk_2 (by decide) rfl rfl hl.1 rfl (lv_room (Nat.le_of_ble_eq_true rfl)) dX7_find_10 ⟨Nat.zero_le _, Nat.zero_le _⟩) hG (fun r_10 h_10 g_10 H locs hq hG => ?_)
    replace HW := HW r_10 h_10 g_10 hq
    obtain ⟨P_13, HC_13, HW⟩ := HW
    refine g_callv (g_runV (As := [.int r_10]) (rest := []) ⟨hx, hb, hml, hown, hts⟩ (m_X7_chooseFamily l D cy ad h_10 g_10 H.size r_10 P_13 HC_13) (cwV 1 hts (gd_V (wm3 79 rfl rfl) (wm3 81 rfl rfl) (wmp1 (q := (yX7_chooseFamily, 12)) 9 rfl) (wm1 5 rfl rfl) (wm3 82 rfl rfl)) rfl rfl rfl (by decide +kernel) ⟨Nat.le_of_ble_eq_true rfl, Nat.le_of_ble_eq_true rfl⟩) hK hNw hG gl_81 rfl gk_81 (by decide) rfl rfl hl.1 rfl (lv_room (Nat.le_of_ble_eq_true rfl)) dX7_find_13 ⟨Nat.zero_le _, Nat.zero_le _⟩) hG (fun h_13 g_13 H locs hq hG => ?_)
    replace HW := HW h_13 g_13 hq
    refine lv_aload_n hx hb dX7_find_16 rfl (lv_at hl 0 rfl) ?_
    refine lv_iconst (v := 0) hx hb dX7_find_17 (by decide) ?_
    refine g_put hx hb hw inG7 tyX7 tyX7_ok nmX7 hown hK hG gl_81 rfl gk_81 (by decide) 5 (by decide) (by rw [gm_81]; decide) gr_81_5 rfl (ty := .int) (by decide +kernel) rfl rfl lk45 dX7_find_18 (fun H locs hG => ?_)
    obtain ⟨h_18, eh_18⟩ : ∃ y : HI, y = hu h_13 81 5 (0 : Int32) := ⟨_, rfl⟩
    rw [← eh_18] at hG
    replace HW := HW h_18 eh_18
    refine lv_iconst (v := 0) hx hb dX7_find_21 (by decide) ?_
    refine lv_istore_n (lv' := [(2, .int (0 : Int32)), (0, .ref (ad 81)), (1, .int x1)]) hx hb dX7_find_22 rfl hl (by decide) rfl (fun ls hl => ?_)
    obtain ⟨n_23, HW⟩ := HW
    exact L23 n_23 x1 (0 : Int32) h_18 g_13 _ _ _ HW hG (lv_sub hl [1, 2, 0] rfl)
  exact E0 _ _ _ hG hl

def j_X2_take_114 (Q : HI → HL → Prop) (K30 : Int32 → Int32 → Int32 → Int32 → HI → HL → Prop) (x2 : Int32) (x3 : Int32) (x4 : Int32) (x5 : Int32) (h : HI) (g : HL) : Prop :=
  (vp_in x5 6 ∧ ∀ h_127 : HI, h_127 = hu h 87 x5.toNatClampNeg (h 81 9) → (vp_in x5 6 ∧ ∀ h_141 : HI, h_141 = hu h_127 88 x5.toNatClampNeg (h_127 81 10) → (∀ x5_142 : Int32, x5_142 = (x5 + 1) → K30 x2 x3 x4 x5_142 h_141 g)))
def j_X2_take_84 (Q : HI → HL → Prop) (K30 : Int32 → Int32 → Int32 → Int32 → HI → HL → Prop) (x2 : Int32) (x3 : Int32) (x4 : Int32) (x5 : Int32) (s1 : Int32) (s2 : Int32) (h : HI) (g : HL) : Prop :=
  (vp_in s1 6 ∧ ∀ h_84 : HI, h_84 = hu h 86 s1.toNatClampNeg s2 → (vp_in x5 6 ∧ (∃ P_96 : HI → HL → Prop, w_X7_find (h_84 86 x5.toNatClampNeg) h_84 g P_96 ∧ ∀ (h_96 : HI) (g_96 : HL), P_96 h_96 g_96 → ((¬ (h_96 81 11) = 0 → j_X2_take_114 Q K30 x2 x3 x4 x5 h_96 g_96) ∧ ((h_96 81 11) = 0 → (∀ h_111 : HI, h_111 = hu h_96 85 7 (0 : Int32) → j_X2_take_114 Q K30 x2 x3 x4 x5 h_111 g_96))))))
def b_X2_take_30 (Q : HI → HL → Prop) (K30 : Int32 → Int32 → Int32 → Int32 → HI → HL → Prop) (x2 : Int32) (x3 : Int32) (x4 : Int32) (x5 : Int32) (h : HI) (g : HL) : Prop :=
  ((x4 ≤ x5 → Q h g) ∧ (¬ x4 ≤ x5 → (((6 : Int32) ≤ x5 → Q h g) ∧ (¬ (6 : Int32) ≤ x5 → (∃ P_61 : Int32 → HI → HL → Prop, w_X8_at 8 (h 85 6) ((3 : Int32) + ((2 : Int32) * x5)) h g P_61 ∧ ∀ (r_61 : Int32) (h_61 : HI) (g_61 : HL), P_61 r_61 h_61 g_61 → ((¬ r_61 = x2 → j_X2_take_84 Q K30 x2 x3 x4 x5 x5 r_61 h_61 g_61) ∧ (r_61 = x2 → j_X2_take_84 Q K30 x2 x3 x4 x5 x5 x3 h_61 g_61)))))))
def F_X2_take_30 (Q : HI → HL → Prop) (K : Int32 × Int32 × Int32 × Int32 × HI × HL → Prop) (q : Int32 × Int32 × Int32 × Int32 × HI × HL) : Prop := b_X2_take_30 Q (fun x2 x3 x4 x5 h g => K (x2, x3, x4, x5, h, g)) q.1 q.2.1 q.2.2.1 q.2.2.2.1 q.2.2.2.2.1 q.2.2.2.2.2
def w_X2_take (x1 : Int32) (x2 : Int32) (x3 : Int32) (h : HI) (g : HL) (Q : HI → HL → Prop) : Prop :=
  (∀ h_2 : HI, h_2 = hu h 85 6 x1 → (∀ h_7 : HI, h_7 = hu h_2 85 7 (1 : Int32) → (∃ P_22 : Int32 → HI → HL → Prop, w_X8_at 8 (h_7 85 6) (2 : Int32) h_7 g P_22 ∧ ∀ (r_22 : Int32) (h_22 : HI) (g_22 : HL), P_22 r_22 h_22 g_22 → lpE (F_X2_take_30 Q) (x2, x3, r_22, (0 : Int32), h_22, g_22))))
set_option maxHeartbeats 8000000 in
set_option maxRecDepth 100000 in
theorem m_X2_take (l : Launch) (D : va_G) (cy : Nat → ClassId) (ad : Nat → Nat) (h : HI) (g : HL) (sz : Nat) (x1 : Int32) (x2 : Int32) (x3 : Int32) (Q : HI → HL → Prop) (HW : w_X2_take x1 x2 x3 h g Q) : Met l yX2_take (wa yX2_take cX2_take 7 none) ({ frames := 5, cells := 0, slots := 0, locals := 124 }) (va_Pc [.ref (ad 85), .int x1, .int x2, .int x3] (gI D cy ad h g sz)) (va_Qv (fun (u : HI × HL) => Q u.1 u.2) (gB D cy ad sz) (gA ad sz)) 0 0 (gA ad sz) := by
  refine Met.ofW (cc := cX2_take) (maxL := 7) (ret := none) (by decide) rfl ?_
  intro p e s m args below meth c s₁ B hml hv
  obtain ⟨hav, hsz, hP, hK, hD0, hNw⟩ := hv
  have hx := B.exec
  have hb := B.bytes
  have hr := B.returns
  have hts := atoms_spec (ws := (wa yX2_take cX2_take 7 none)) B.pre
  have hw := wa_hw hts
  have hown : s.vm.findClass RX2 = some m.cls := findClass_of_methodNamed B.named
  have hlocks := B.notSynchronized
  subst hsz
  have hG : gG D cy ad (gA ad s.heap.size) s.heap h g s.heap [] := ⟨hP, gA_self hD0, va_S.rf⟩
  clear hP hD0
  have lk33 := hw (.fieldLink RX2 33 "OldWorks$Fits" "chain" "I") (wm1 220 rfl rfl)
  have lk37 := hw (.fieldLink RX2 37 "OldWorks$Fits" "sized" "Z") (wm1 221 rfl rfl)
  have lk21 := hw (.fieldLink RX2 21 "OldWorks$Fits" "shop" "LOldWorks$Shop;") (wm1 214 rfl rfl)
  have lk41 := hw (.fieldLink RX2 41 "OldWorks$Shop" "chains" "LOldWorks$Table;") (wm1 72 rfl rfl)
  have lk9 := hw (.fieldLink RX2 9 "OldWorks$Fits" "parts" "[I") (wm1 217 rfl rfl)
  have lk29 := hw (.fieldLink RX2 29 "OldWorks$Fits" "sizes" "LOldWorks$Sizes;") (wm1 216 rfl rfl)
  have lk57 := hw (.fieldLink RX2 57 "OldWorks$Sizes" "many" "I") (wm1 181 rfl rfl)
  have lk15 := hw (.fieldLink RX2 15 "OldWorks$Fits" "leasts" "[I") (wm1 218 rfl rfl)
  have lk60 := hw (.fieldLink RX2 60 "OldWorks$Sizes" "least" "I") (wm1 177 rfl rfl)
  have lk18 := hw (.fieldLink RX2 18 "OldWorks$Fits" "greatests" "[I") (wm1 219 rfl rfl)
  have lk63 := hw (.fieldLink RX2 63 "OldWorks$Sizes" "greatest" "I") (wm1 179 rfl rfl)
  rw [show (headSpec (wa yX2_take cX2_take 7 none) ({ frames := 5, cells := 0, slots := 0, locals := 124 } : Room)).room = ({ frames := 5, cells := 0, slots := 0, locals := 124 } : Room) from rfl]
  have hl := lv_entry ([.ref (ad 85), .int x1, .int x2, .int x3]) (n := 7) (Nat.le_of_ble_eq_true rfl)
  rw [show entryFrame m args 7 = entryFrame m ([.ref (ad 85), .int x1, .int x2, .int x3] : List Value).toArray 7 from by rw [hav], lg_entry_eq]
  generalize (lg_sl ([.ref (ad 85), .int x1, .int x2, .int x3]) ++ List.replicate (7 - (lg_sl ([.ref (ad 85), .int x1, .int x2, .int x3])).length) Slot.unset).toArray = ls at hl ⊢
  have hl : lv_has ls 7 [(0, .ref (ad 85)), (1, .int x1), (2, .int x2), (3, .int x3)] := hl
  have B114 : ∀ (K30 : Int32 → Int32 → Int32 → Int32 → HI → HL → Prop) (hK30 : ∀ (x2 : Int32) (x3 : Int32) (x4 : Int32) (x5 : Int32) (h : HI) (g : HL) (H : Heap) (locs : List Loc) (ls : Array Slot), K30 x2 x3 x4 x5 h g → gG D cy ad (gA ad s.heap.size) s.heap h g H locs → lv_has ls 7 [(0, .ref (ad 85)), (2, .int x2), (3, .int x3), (4, .int x4), (5, .int x5)] → W p l e ({ frames := 5, cells := 0, slots := 0, locals := 124 } : Room) s m args below meth c H locs 0 0 (MQ below (va_Qv (fun (u : HI × HL) => Q u.1 u.2) (gB D cy ad s.heap.size) (gA ad s.heap.size)) args s 0 0 (gA ad s.heap.size)) (F0 m 30 ls [])) (x2 : Int32) (x3 : Int32) (x4 : Int32) (x5 : Int32) (h : HI) (g : HL) (H : Heap) (locs : List Loc) (ls : Array Slot), j_X2_take_114 Q K30 x2 x3 x4 x5 h g → gG D cy ad (gA ad s.heap.size) s.heap h g H locs → lv_has ls 7 [(0, .ref (ad 85)), (2, .int x2), (3, .int x3), (4, .int x4), (5, .int x5)] → W p l e ({ frames := 5, cells := 0, slots := 0, locals := 124 } : Room) s m args below meth c H locs 0 0 (MQ below (va_Qv (fun (u : HI × HL) => Q u.1 u.2) (gB D cy ad s.heap.size) (gA ad s.heap.size)) args s 0 0 (gA ad s.heap.size)) (F0 m 114 ls []) := by
    intro K30 hK30 x2 x3 x4 x5 h g H locs ls HW hG hl
    unfold j_X2_take_114 at HW
    refine lv_aload_n hx hb dX2_take_114 rfl (lv_at hl 0 rfl) ?_
    refine g_getr hx hb hw inG2 hown hK hG gl_85 rfl gk_85 (by decide) 4 (by decide) (by rw [gm_85]; decide) (r := 87) gr_85_4 lk15 dX2_take_115 ?_
    refine lv_iload hx hb dX2_take_118 (lv_at hl 4 rfl) ?_
    refine lv_aload_n hx hb dX2_take_120 rfl (lv_at hl 0 rfl) ?_
    refine g_getr hx hb hw inG2 hown hK hG gl_85 rfl gk_85 (by decide) 2 (by decide) (by rw [gm_85]; decide) (r := 81) gr_85_2 lk29 dX2_take_121 ?_
    refine g_geti hx hb hw inG7 hown hK hG gl_81 rfl gk_81 (by decide) 9 (by decide) (by rw [gm_81]; decide) gr_81_9 lk60 dX2_take_124 ?_
    refine g_iast hx hb hK hG gl_87 gk_87 gn_87 HW.1 dX2_take_127 (fun H locs hG => ?_)
    replace HW := HW.2
    obtain ⟨h_127, eh_127⟩ : ∃ y : HI, y = hu h 87 x5.toNatClampNeg (h 81 9) := ⟨_, rfl⟩
    rw [← eh_127] at hG
    replace HW := HW h_127 eh_127
    refine lv_aload_n hx hb dX2_take_128 rfl (lv_at hl 0 rfl) ?_
    refine g_getr hx hb hw inG2 hown hK hG gl_85 rfl gk_85 (by decide) 5 (by decide) (by rw [gm_85]; decide) (r := 88) gr_85_5 lk18 dX2_take_129 ?_
    refine lv_iload hx hb dX2_take_132 (lv_at hl 4 rfl) ?_
    refine lv_aload_n hx hb dX2_take_134 rfl (lv_at hl 0 rfl) ?_
    refine g_getr hx hb hw inG2 hown hK hG gl_85 rfl gk_85 (by decide) 2 (by decide) (by rw [gm_85]; decide) (r := 81) gr_85_2 lk29 dX2_take_135 ?_
    refine g_geti hx hb hw inG7 hown hK hG gl_81 rfl gk_81 (by decide) 10 (by decide) (by rw [gm_81]; decide) gr_81_10 lk63 dX2_take_138 ?_
    refine g_iast hx hb hK hG gl_88 gk_88 gn_88 HW.1 dX2_take_141 (fun H locs hG => ?_)
    replace HW := HW.2
    obtain ⟨h_141, eh_141⟩ : ∃ y : HI, y = hu h_127 88 x5.toNatClampNeg (h_127 81 10) := ⟨_, rfl⟩
    rw [← eh_141] at hG
    replace HW := HW h_141 eh_141
    obtain ⟨x5_142, ex5_142⟩ : ∃ y : Int32, y = (x5 + 1) := ⟨_, rfl⟩
    replace HW := HW x5_142 ex5_142
    refine lv_iinc (v := x5_142) (lv' := [(5, .int x5_142), (0, .ref (ad 85)), (2, .int x2), (3, .int x3), (4, .int x4)]) hx hb dX2_take_142 hl (k := 4) rfl (by rw [ex5_142]; rfl) (by decide) rfl (fun ls hl => ?_)
    refine lv_goto (tgt := 30) hx hb dX2_take_145 (by decide) ?_
    exact hK30 x2 x3 x4 x5_142 h_141 g _ _ _ HW hG (lv_sub hl [1, 2, 3, 4, 0] rfl)
  have B84 : ∀ (K30 : Int32 → Int32 → Int32 → Int32 → HI → HL → Prop) (hK30 : ∀ (x2 : Int32) (x3 : Int32) (x4 : Int32) (x5 : Int32) (h : HI) (g : HL) (H : Heap) (locs : List Loc) (ls : Array Slot), K30 x2 x3 x4 x5 h g → gG D cy ad (gA ad s.heap.size) s.heap h g H locs → lv_has ls 7 [(0, .ref (ad 85)), (2, .int x2), (3, .int x3), (4, .int x4), (5, .int x5)] → W p l e ({ frames := 5, cells := 0, slots := 0, locals := 124 } : Room) s m args below meth c H locs 0 0 (MQ below (va_Qv (fun (u : HI × HL) => Q u.1 u.2) (gB D cy ad s.heap.size) (gA ad s.heap.size)) args s 0 0 (gA ad s.heap.size)) (F0 m 30 ls [])) (x2 : Int32) (x3 : Int32) (x4 : Int32) (x5 : Int32) (s1 : Int32) (s2 : Int32) (h : HI) (g : HL) (H : Heap) (locs : List Loc) (ls : Array Slot), j_X2_take_84 Q K30 x2 x3 x4 x5 s1 s2 h g → gG D cy ad (gA ad s.heap.size) s.heap h g H locs → lv_has ls 7 [(0, .ref (ad 85)), (2, .int x2), (3, .int x3), (4, .int x4), (5, .int x5)] → W p l e ({ frames := 5, cells := 0, slots := 0, locals := 124 } : Room) s m args below meth c H locs 0 0 (MQ below (va_Qv (fun (u : HI × HL) => Q u.1 u.2) (gB D cy ad s.heap.size) (gA ad s.heap.size)) args s 0 0 (gA ad s.heap.size)) (F0 m 84 ls [.int s2, .int s1, .ref (ad 86)]) := by
    intro K30 hK30 x2 x3 x4 x5 s1 s2 h g H locs ls HW hG hl
    unfold j_X2_take_84 at HW
    refine g_iast hx hb hK hG gl_86 gk_86 gn_86 HW.1 dX2_take_84 (fun H locs hG => ?_)
    replace HW := HW.2
    obtain ⟨h_84, eh_84⟩ : ∃ y : HI, y = hu h 86 s1.toNatClampNeg s2 := ⟨_, rfl⟩
    rw [← eh_84] at hG
    replace HW := HW h_84 eh_84
    refine lv_aload_n hx hb dX2_take_85 rfl (lv_at hl 0 rfl) ?_
    refine g_getr hx hb hw inG2 hown hK hG gl_85 rfl gk_85 (by decide) 2 (by decide) (by rw [gm_85]; decide) (r := 81) gr_85_2 lk29 dX2_take_86 ?_
    refine lv_aload_n hx hb dX2_take_89 rfl (lv_at hl 0 rfl) ?_
    refine g_getr hx hb hw inG2 hown hK hG gl_85 rfl gk_85 (by decide) 3 (by decide) (by rw [gm_85]; decide) (r := 86) gr_85_3 lk9 dX2_take_90 ?_
    refine lv_iload hx hb dX2_take_93 (lv_at hl 4 rfl) ?_
    refine g_iald hx hb hK hG gl_86 gk_86 gn_86 HW.1 dX2_take_95 ?_
    replace HW := HW.2
    obtain ⟨P_96, HC_96, HW⟩ := HW
    refine g_callv (g_runV (As := [.int (h_84 86 x5.toNatClampNeg)]) (rest := []) ⟨hx, hb, hml, hown, hts⟩ (m_X7_find l D cy ad h_84 g H.size (h_84 86 x5.toNatClampNeg) P_96 HC_96) (cwV 1 hts (gd_V (wm3 154 rfl rfl) (wm3 75 rfl rfl) (wm3 76 rfl rfl) (wm1 5 rfl rfl) (wm3 77 rfl rfl)) rfl rfl rfl (by decide +kernel) ⟨Nat.le_of_ble_eq_true rfl, Nat.le_of_ble_eq_true rfl⟩) hK hNw hG gl_81 rfl gk_81 (by decide) rfl rfl hl.1 rfl (lv_room (Nat.le_of_ble_eq_true rfl)) dX2_take_96 ⟨Nat.zero_le _, Nat.zero_le _⟩) hG (fun h_96 g_96 H locs hq hG => ?_)
    replace HW := HW h_96 g_96 hq
    refine lv_aload_n hx hb dX2_take_99 rfl (lv_at hl 0 rfl) ?_
    refine g_getr hx hb hw inG2 hown hK hG gl_85 rfl gk_85 (by decide) 2 (by decide) (by rw [gm_85]; decide) (r := 81) gr_85_2 lk29 dX2_take_100 ?_
    refine g_geti hx hb hw inG7 hown hK hG gl_81 rfl gk_81 (by decide) 11 (by decide) (by rw [gm_81]; decide) gr_81_11 lk57 dX2_take_103 ?_
    refine lv_if_ne (tgt := 114) hx hb dX2_take_106 (by decide) (fun c_106 => ?_) (fun c_106 => ?_)
    · replace HW := HW.1 c_106
      exact B114 K30 hK30 x2 x3 x4 x5 h_96 g_96 _ _ _ HW hG (lv_sub hl [0, 1, 2, 3, 4] rfl)
    · replace HW := HW.2 c_106
      refine lv_aload_n hx hb dX2_take_109 rfl (lv_at hl 0 rfl) ?_
      refine lv_iconst (v := 0) hx hb dX2_take_110 (by decide) ?_
      refine g_put hx hb hw inG2 tyX2 tyX2_ok nmX2 hown hK hG gl_85 rfl gk_85 (by decide) 7 (by decide) (by rw [gm_85]; decide) gr_85_7 rfl (ty := .boolean) (by decide +kernel) rfl rfl lk37 dX2_take_111 (fun H locs hG => ?_)
      obtain ⟨h_111, eh_111⟩ : ∃ y : HI, y = hu h_96 85 7 (0 : Int32) := ⟨_, rfl⟩
      rw [← eh_111] at hG
      replace HW := HW h_111 eh_111
      exact B114 K30 hK30 x2 x3 x4 x5 h_111 g_96 _ _ _ HW hG (lv_sub hl [0, 1, 2, 3, 4] rfl)
  have L30 : ∀ (n : Nat) (x2 : Int32) (x3 : Int32) (x4 : Int32) (x5 : Int32) (h : HI) (g : HL) (H : Heap) (locs : List Loc) (ls : Array Slot), lpN (F_X2_take_30 Q) n (x2, x3, x4, x5, h, g) → gG D cy ad (gA ad s.heap.size) s.heap h g H locs → lv_has ls 7 [(0, .ref (ad 85)), (2, .int x2), (3, .int x3), (4, .int x4), (5, .int x5)] → W p l e ({ frames := 5, cells := 0, slots := 0, locals := 124 } : Room) s m args below meth c H locs 0 0 (MQ below (va_Qv (fun (u : HI × HL) => Q u.1 u.2) (gB D cy ad s.heap.size) (gA ad s.heap.size)) args s 0 0 (gA ad s.heap.size)) (F0 m 30 ls []) := by
    intro n
    induction n with
    | zero => intro x2 x3 x4 x5 h g H locs ls HW; exact HW.elim
    | succ n ih =>
      intro x2 x3 x4 x5 h g H locs ls HW hG hl
      have HW : b_X2_take_30 Q (fun x2 x3 x4 x5 h g => lpN (F_X2_take_30 Q) n (x2, x3, x4, x5, h, g)) x2 x3 x4 x5 h g := HW
      generalize hKe : (fun (x2 : Int32) (x3 : Int32) (x4 : Int32) (x5 : Int32) (h : HI) (g : HL) => lpN (F_X2_take_30 Q) n (x2, x3, x4, x5, h, g)) = K30 at HW
      have hK30 : ∀ (x2 : Int32) (x3 : Int32) (x4 : Int32) (x5 : Int32) (h : HI) (g : HL) (H : Heap) (locs : List Loc) (ls : Array Slot), K30 x2 x3 x4 x5 h g → gG D cy ad (gA ad s.heap.size) s.heap h g H locs → lv_has ls 7 [(0, .ref (ad 85)), (2, .int x2), (3, .int x3), (4, .int x4), (5, .int x5)] → W p l e ({ frames := 5, cells := 0, slots := 0, locals := 124 } : Room) s m args below meth c H locs 0 0 (MQ below (va_Qv (fun (u : HI × HL) => Q u.1 u.2) (gB D cy ad s.heap.size) (gA ad s.heap.size)) args s 0 0 (gA ad s.heap.size)) (F0 m 30 ls []) := by subst hKe; exact ih
      clear ih
      clear hKe
      unfold b_X2_take_30 at HW
      refine lv_iload hx hb dX2_take_30 (lv_at hl 4 rfl) ?_
      refine lv_iload hx hb dX2_take_32 (lv_at hl 3 rfl) ?_
      refine lv_icmp_ge (tgt := 148) hx hb dX2_take_34 (by decide) (fun c_34 => ?_) (fun c_34 => ?_)
      · replace HW := HW.1 c_34
        exact W.vret hx hb hr (fun t ht hW => ⟨⟨(h, g), rfl, HW, g_B ht hG⟩, hG.2.2.F ht⟩) hG.2.2.2.2 dX2_take_148
      · replace HW := HW.2 c_34
        refine lv_iload hx hb dX2_take_37 (lv_at hl 4 rfl) ?_
        refine lv_bipush (v := 6) hx hb dX2_take_39 (by decide) ?_
        refine lv_icmp_ge (tgt := 148) hx hb dX2_take_41 (by decide) (fun c_41 => ?_) (fun c_41 => ?_)
        · replace HW := HW.1 c_41
          exact W.vret hx hb hr (fun t ht hW => ⟨⟨(h, g), rfl, HW, g_B ht hG⟩, hG.2.2.F ht⟩) hG.2.2.2.2 dX2_take_148
        · replace HW := HW.2 c_41
          refine lv_aload_n hx hb dX2_take_44 rfl (lv_at hl 0 rfl) ?_
          refine g_getr hx hb hw inG2 hown hK hG gl_85 rfl gk_85 (by decide) 0 (by decide) (by rw [gm_85]; decide) (r := 1) gr_85_0 lk21 dX2_take_45 ?_
          refine g_getr hx hb hw inG6 hown hK hG gl_1 rfl gk_1 (by decide) 3 (by decide) (by rw [gm_1]; decide) (r := 8) gr_1_3 lk41 dX2_take_48 ?_
          refine lv_aload_n hx hb dX2_take_51 rfl (lv_at hl 0 rfl) ?_
          refine g_geti hx hb hw inG2 hown hK hG gl_85 rfl gk_85 (by decide) 6 (by decide) (by rw [gm_85]; decide) gr_85_6 lk33 dX2_take_52 ?_
          refine lv_iconst (v := 3) hx hb dX2_take_55 (by decide) ?_
          refine lv_iconst (v := 2) hx hb dX2_take_56 (by decide) ?_
          refine lv_iload hx hb dX2_take_57 (lv_at hl 4 rfl) ?_
          refine lv_imul hx hb dX2_take_59 ?_
          refine lv_iadd hx hb dX2_take_60 ?_
          obtain ⟨P_61, HC_61, HW⟩ := HW
          refine g_calli (g_runV (As := [.int (h 85 6), .int ((3 : Int32) + ((2 : Int32) * x5))]) (rest := []) ⟨hx, hb, hml, hown, hts⟩ (m_X8_at l D cy ad h g H.size 8 (gs_8) (h 85 6) ((3 : Int32) + ((2 : Int32) * x5)) P_61 HC_61) (cwV 2 hts (gd_V (wm3 153 rfl rfl) (wm2 221 rfl rfl) (wm2 222 rfl rfl) (wm1 3 rfl rfl) (wm2 223 rfl rfl)) rfl rfl rfl (by decide +kernel) ⟨Nat.le_of_ble_eq_true rfl, Nat.le_of_ble_eq_true rfl⟩) hK hNw hG gl_8 rfl gk_8 (by decide) rfl rfl hl.1 rfl (lv_room (Nat.le_of_ble_eq_true rfl)) dX2_take_61 ⟨Nat.zero_le _, Nat.zero_le _⟩) hG (fun r_61 h_61 g_61 H locs hq hG => ?_)
          replace HW := HW r_61 h_61 g_61 hq
          refine lv_istore (lv' := [(6, .int r_61), (0, .ref (ad 85)), (2, .int x2), (3, .int x3), (4, .int x4), (5, .int x5)]) hx hb dX2_take_64 hl (by decide) rfl (fun ls hl => ?_)
          refine lv_aload_n hx hb dX2_take_66 rfl (lv_at hl 1 rfl) ?_
          refine g_getr hx hb hw inG2 hown hK hG gl_85 rfl gk_85 (by decide) 3 (by decide) (by rw [gm_85]; decide) (r := 86) gr_85_3 lk9 dX2_take_67 ?_
          refine lv_iload hx hb dX2_take_70 (lv_at hl 5 rfl) ?_
          refine lv_iload hx hb dX2_take_72 (lv_at hl 0 rfl) ?_
          refine lv_iload_n hx hb dX2_take_74 rfl (lv_at hl 2 rfl) ?_
          refine lv_icmp_ne (tgt := 82) hx hb dX2_take_75 (by decide) (fun c_75 => ?_) (fun c_75 => ?_)
          · replace HW := HW.1 c_75
            refine lv_iload hx hb dX2_take_82 (lv_at hl 0 rfl) ?_
            exact B84 K30 hK30 x2 x3 x4 x5 x5 r_61 h_61 g_61 _ _ _ HW hG (lv_sub hl [1, 2, 3, 4, 5] rfl)
          · replace HW := HW.2 c_75
            refine lv_iload_n hx hb dX2_take_78 rfl (lv_at hl 3 rfl) ?_
            refine lv_goto (tgt := 84) hx hb dX2_take_79 (by decide) ?_
            exact B84 K30 hK30 x2 x3 x4 x5 x5 x3 h_61 g_61 _ _ _ HW hG (lv_sub hl [1, 2, 3, 4, 5] rfl)
  have E0 : ∀ (H : Heap) (locs : List Loc) (ls : Array Slot), gG D cy ad (gA ad s.heap.size) s.heap h g H locs → lv_has ls 7 [(0, .ref (ad 85)), (1, .int x1), (2, .int x2), (3, .int x3)] → W p l e ({ frames := 5, cells := 0, slots := 0, locals := 124 } : Room) s m args below meth c H locs 0 0 (MQ below (va_Qv (fun (u : HI × HL) => Q u.1 u.2) (gB D cy ad s.heap.size) (gA ad s.heap.size)) args s 0 0 (gA ad s.heap.size)) (F0 m 0 ls []) := by
    intro H locs ls hG hl
    unfold w_X2_take at HW
    refine lv_aload_n hx hb dX2_take_0 rfl (lv_at hl 0 rfl) ?_
    refine lv_iload_n hx hb dX2_take_1 rfl (lv_at hl 1 rfl) ?_
    refine g_put hx hb hw inG2 tyX2 tyX2_ok nmX2 hown hK hG gl_85 rfl gk_85 (by decide) 6 (by decide) (by rw [gm_85]; decide) gr_85_6 rfl (ty := .int) (by decide +kernel) rfl rfl lk33 dX2_take_2 (fun H locs hG => ?_)
    obtain ⟨h_2, eh_2⟩ : ∃ y : HI, y = hu h 85 6 x1 := ⟨_, rfl⟩
    rw [← eh_2] at hG
    replace HW := HW h_2 eh_2
    refine lv_aload_n hx hb dX2_take_5 rfl (lv_at hl 0 rfl) ?_
    refine lv_iconst (v := 1) hx hb dX2_take_6 (by decide) ?_
    refine g_put hx hb hw inG2 tyX2 tyX2_ok nmX2 hown hK hG gl_85 rfl gk_85 (by decide) 7 (by decide) (by rw [gm_85]; decide) gr_85_7 rfl (ty := .boolean) (by decide +kernel) rfl rfl lk37 dX2_take_7 (fun H locs hG => ?_)
    obtain ⟨h_7, eh_7⟩ : ∃ y : HI, y = hu h_2 85 7 (1 : Int32) := ⟨_, rfl⟩
    rw [← eh_7] at hG
    replace HW := HW h_7 eh_7
    refine lv_aload_n hx hb dX2_take_10 rfl (lv_at hl 0 rfl) ?_
    refine g_getr hx hb hw inG2 hown hK hG gl_85 rfl gk_85 (by decide) 0 (by decide) (by rw [gm_85]; decide) (r := 1) gr_85_0 lk21 dX2_take_11 ?_
    refine g_getr hx hb hw inG6 hown hK hG gl_1 rfl gk_1 (by decide) 3 (by decide) (by rw [gm_1]; decide) (r := 8) gr_1_3 lk41 dX2_take_14 ?_
    refine lv_aload_n hx hb dX2_take_17 rfl (lv_at hl 0 rfl) ?_
    refine g_geti hx hb hw inG2 hown hK hG gl_85 rfl gk_85 (by decide) 6 (by decide) (by rw [gm_85]; decide) gr_85_6 lk33 dX2_take_18 ?_
    refine lv_iconst (v := 2) hx hb dX2_take_21 (by decide) ?_
    obtain ⟨P_22, HC_22, HW⟩ := HW
    refine g_calli (g_runV (As := [.int (h_7 85 6), .int (2 : Int32)]) (rest := []) ⟨hx, hb, hml, hown, hts⟩ (m_X8_at l D cy ad h_7 g H.size 8 (gs_8) (h_7 85 6) (2 : Int32) P_22 HC_22) (cwV 2 hts (gd_V (wm3 153 rfl rfl) (wm2 221 rfl rfl) (wm2 222 rfl rfl) (wm1 3 rfl rfl) (wm2 223 rfl rfl)) rfl rfl rfl (by decide +kernel) ⟨Nat.le_of_ble_eq_true rfl, Nat.le_of_ble_eq_true rfl⟩) hK hNw hG gl_8 rfl gk_8 (by decide) rfl rfl hl.1 rfl (lv_room (Nat.le_of_ble_eq_true rfl)) dX2_take_22 ⟨Nat.zero_le _, Nat.zero_le _⟩) hG (fun r_22 h_22 g_22 H locs hq hG => ?_)
    replace HW := HW r_22 h_22 g_22 hq
    refine lv_istore (lv' := [(4, .int r_22), (0, .ref (ad 85)), (1, .int x1), (2, .int x2), (3, .int x3)]) hx hb dX2_take_25 hl (by decide) rfl (fun ls hl => ?_)
    refine lv_iconst (v := 0) hx hb dX2_take_27 (by decide) ?_
    refine lv_istore (lv' := [(5, .int (0 : Int32)), (4, .int r_22), (0, .ref (ad 85)), (1, .int x1), (2, .int x2), (3, .int x3)]) hx hb dX2_take_28 hl (by decide) rfl (fun ls hl => ?_)
    obtain ⟨n_30, HW⟩ := HW
    exact L30 n_30 x2 x3 r_22 (0 : Int32) h_22 g_22 _ _ _ HW hG (lv_sub hl [2, 4, 5, 1, 0] rfl)
  exact E0 _ _ _ hG hl
end
