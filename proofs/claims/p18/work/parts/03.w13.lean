def b_X10_withRow_6 (o2 : Nat) (Q : Int64 → HI → HL → Prop) (K6 : Int32 → Int32 → Int64 → Int32 → HI → HL → Prop) (x3 : Int32) (x4 : Int32) (x5 : Int64) (x7 : Int32) (h : HI) (g : HL) : Prop :=
  ((x4 ≤ x7 → Q x5 h g) ∧ (¬ x4 ≤ x7 → (∃ P_23 : Int32 → HI → HL → Prop, w_X8_at o2 x3 x7 h g P_23 ∧ ∀ (r_23 : Int32) (h_23 : HI) (g_23 : HL), P_23 r_23 h_23 g_23 → (∀ x5_28 : Int64, x5_28 = (((31 : Int64) * x5) + ((r_23).toInt64)) → (∀ x7_30 : Int32, x7_30 = (x7 + 1) → K6 x3 x4 x5_28 x7_30 h_23 g_23)))))
def F_X10_withRow_6 (o2 : Nat) (Q : Int64 → HI → HL → Prop) (K : Int32 × Int32 × Int64 × Int32 × HI × HL → Prop) (q : Int32 × Int32 × Int64 × Int32 × HI × HL) : Prop := b_X10_withRow_6 o2 Q (fun x3 x4 x5 x7 h g => K (x3, x4, x5, x7, h, g)) q.1 q.2.1 q.2.2.1 q.2.2.2.1 q.2.2.2.2.1 q.2.2.2.2.2
def w_X10_withRow (x0 : Int64) (o2 : Nat) (x3 : Int32) (x4 : Int32) (h : HI) (g : HL) (Q : Int64 → HI → HL → Prop) : Prop :=
  lpE (F_X10_withRow_6 o2 Q) (x3, x4, x0, (0 : Int32), h, g)
set_option maxHeartbeats 8000000 in
set_option maxRecDepth 100000 in
theorem m_X10_withRow (l : Launch) (D : va_G) (cy : Nat → ClassId) (ad : Nat → Nat) (h : HI) (g : HL) (sz : Nat) (x0 : Int64) (o2 : Nat) (hT2 : isT o2) (x3 : Int32) (x4 : Int32) (Q : Int64 → HI → HL → Prop) (HW : w_X10_withRow x0 o2 x3 x4 h g Q) : Met l yX10_withRow (wa yX10_withRow cX10_withRow 8 (some .long)) ({ frames := 1, cells := 0, slots := 0, locals := 23 }) (va_Pc [.long x0, .ref (ad o2), .int x3, .int x4] (gI D cy ad h g sz)) (va_Ql (fun (r : Int64) (u : HI × HL) => Q r u.1 u.2) (gB D cy ad sz) (gA ad sz)) 0 0 (gA ad sz) := by
  refine Met.ofW (cc := cX10_withRow) (maxL := 8) (ret := (some .long)) (by decide) rfl ?_
  intro p e s m args below meth c s₁ B hml hv
  obtain ⟨hav, hsz, hP, hK, hD0, hNw⟩ := hv
  have hx := B.exec
  have hb := B.bytes
  have hr := B.returns
  have hts := atoms_spec (ws := (wa yX10_withRow cX10_withRow 8 (some .long))) B.pre
  have hw := wa_hw hts
  have hown : s.vm.findClass RX10 = some m.cls := findClass_of_methodNamed B.named
  have hlocks := B.notSynchronized
  subst hsz
  have hG : gG D cy ad (gA ad s.heap.size) s.heap h g s.heap [] := ⟨hP, gA_self hD0, va_S.rf⟩
  clear hP hD0
  have cn263 := hw (.constantLong RX10 263 (31)) (wm5 3 rfl rfl)
  rw [show (headSpec (wa yX10_withRow cX10_withRow 8 (some .long)) ({ frames := 1, cells := 0, slots := 0, locals := 23 } : Room)).room = ({ frames := 1, cells := 0, slots := 0, locals := 23 } : Room) from rfl]
  have hl := lv_entry ([.long x0, .ref (ad o2), .int x3, .int x4]) (n := 8) (Nat.le_of_ble_eq_true rfl)
  rw [show entryFrame m args 8 = entryFrame m ([.long x0, .ref (ad o2), .int x3, .int x4] : List Value).toArray 8 from by rw [hav], lg_entry_eq]
  generalize (lg_sl ([.long x0, .ref (ad o2), .int x3, .int x4]) ++ List.replicate (8 - (lg_sl ([.long x0, .ref (ad o2), .int x3, .int x4])).length) Slot.unset).toArray = ls at hl ⊢
  have hl : lv_has ls 8 [(0, .long x0), (2, .ref (ad o2)), (3, .int x3), (4, .int x4)] := hl
  have L6 : ∀ (n : Nat) (x3 : Int32) (x4 : Int32) (x5 : Int64) (x7 : Int32) (h : HI) (g : HL) (H : Heap) (locs : List Loc) (ls : Array Slot), lpN (F_X10_withRow_6 o2 Q) n (x3, x4, x5, x7, h, g) → gG D cy ad (gA ad s.heap.size) s.heap h g H locs → lv_has ls 8 [(2, .ref (ad o2)), (3, .int x3), (4, .int x4), (5, .long x5), (7, .int x7)] → W p l e ({ frames := 1, cells := 0, slots := 0, locals := 23 } : Room) s m args below meth c H locs 0 0 (MQ below (va_Ql (fun (r : Int64) (u : HI × HL) => Q r u.1 u.2) (gB D cy ad s.heap.size) (gA ad s.heap.size)) args s 0 0 (gA ad s.heap.size)) (F0 m 6 ls []) := by
    intro n
    induction n with
    | zero => intro x3 x4 x5 x7 h g H locs ls HW; exact HW.elim
    | succ n ih =>
      intro x3 x4 x5 x7 h g H locs ls HW hG hl
      have HW : b_X10_withRow_6 o2 Q (fun x3 x4 x5 x7 h g => lpN (F_X10_withRow_6 o2 Q) n (x3, x4, x5, x7, h, g)) x3 x4 x5 x7 h g := HW
      generalize hKe : (fun (x3 : Int32) (x4 : Int32) (x5 : Int64) (x7 : Int32) (h : HI) (g : HL) => lpN (F_X10_withRow_6 o2 Q) n (x3, x4, x5, x7, h, g)) = K6 at HW
      have hK6 : ∀ (x3 : Int32) (x4 : Int32) (x5 : Int64) (x7 : Int32) (h : HI) (g : HL) (H : Heap) (locs : List Loc) (ls : Array Slot), K6 x3 x4 x5 x7 h g → gG D cy ad (gA ad s.heap.size) s.heap h g H locs → lv_has ls 8 [(2, .ref (ad o2)), (3, .int x3), (4, .int x4), (5, .long x5), (7, .int x7)] → W p l e ({ frames := 1, cells := 0, slots := 0, locals := 23 } : Room) s m args below meth c H locs 0 0 (MQ below (va_Ql (fun (r : Int64) (u : HI × HL) => Q r u.1 u.2) (gB D cy ad s.heap.size) (gA ad s.heap.size)) args s 0 0 (gA ad s.heap.size)) (F0 m 6 ls []) := by subst hKe; exact ih
      clear ih
      clear hKe
      unfold b_X10_withRow_6 at HW
      refine lv_iload hx hb dX10_withRow_6 (lv_at hl 4 rfl) ?_
      refine lv_iload hx hb dX10_withRow_8 (lv_at hl 2 rfl) ?_
      refine lv_icmp_ge (tgt := 36) hx hb dX10_withRow_10 (by decide) (fun c_10 => ?_) (fun c_10 => ?_)
      · replace HW := HW.1 c_10
        refine lv_lload hx hb dX10_withRow_36 (lv_at hl 3 rfl) ?_
        exact W.lret (v := x5) hx hb hr (fun t ht hW => ⟨⟨x5, (h, g), rfl, HW, g_B ht hG⟩, hG.2.2.F ht⟩) hG.2.2.2.2 dX10_withRow_38
      · replace HW := HW.2 c_10
        refine lv_ldc2 (v := 31) hx hb hown cn263 dX10_withRow_13 ?_
        refine lv_lload hx hb dX10_withRow_16 (lv_at hl 3 rfl) ?_
        refine lv_lmul hx hb dX10_withRow_18 ?_
        refine lv_aload_n hx hb dX10_withRow_19 rfl (lv_at hl 0 rfl) ?_
        refine lv_iload_n hx hb dX10_withRow_20 rfl (lv_at hl 1 rfl) ?_
        refine lv_iload hx hb dX10_withRow_21 (lv_at hl 4 rfl) ?_
        obtain ⟨P_23, HC_23, HW⟩ := HW
        refine g_calli (g_runV (As := [.int x3, .int x7]) (rest := [.long ((31 : Int64) * x5)]) ⟨hx, hb, hml, hown, hts⟩ (m_X8_at l D cy ad h g H.size o2 hT2 x3 x7 P_23 HC_23) (cwV 2 hts (gd_V (wm3 69 rfl rfl) (wm2 221 rfl rfl) (wm2 222 rfl rfl) (wm1 3 rfl rfl) (wm2 223 rfl rfl)) rfl rfl rfl (by decide +kernel) ⟨Nat.le_of_ble_eq_true rfl, Nat.le_of_ble_eq_true rfl⟩) hK hNw hG hT2.lt rfl hT2.k (by decide) rfl rfl hl.1 rfl (lv_room (Nat.le_of_ble_eq_true rfl)) dX10_withRow_23 ⟨Nat.zero_le _, Nat.zero_le _⟩) hG (fun r_23 h_23 g_23 H locs hq hG => ?_)
        replace HW := HW r_23 h_23 g_23 hq
        refine lv_i2l hx hb dX10_withRow_26 rfl ?_
        refine lv_ladd hx hb dX10_withRow_27 ?_
        refine lv_topl (fun x5_28 ex5_28 => ?_)
        replace HW := HW x5_28 ex5_28
        refine lv_lstore (lv' := [(5, .long x5_28), (2, .ref (ad o2)), (3, .int x3), (4, .int x4), (7, .int x7)]) hx hb dX10_withRow_28 hl (by decide) rfl (fun ls hl => ?_)
        obtain ⟨x7_30, ex7_30⟩ : ∃ y : Int32, y = (x7 + 1) := ⟨_, rfl⟩
        replace HW := HW x7_30 ex7_30
        refine lv_iinc (v := x7_30) (lv' := [(7, .int x7_30), (5, .long x5_28), (2, .ref (ad o2)), (3, .int x3), (4, .int x4)]) hx hb dX10_withRow_30 hl (k := 4) rfl (by rw [ex7_30]; rfl) (by decide) rfl (fun ls hl => ?_)
        refine lv_goto (tgt := 6) hx hb dX10_withRow_33 (by decide) ?_
        exact hK6 x3 x4 x5_28 x7_30 h_23 g_23 _ _ _ HW hG (lv_sub hl [2, 3, 4, 1, 0] rfl)
  have E0 : ∀ (H : Heap) (locs : List Loc) (ls : Array Slot), gG D cy ad (gA ad s.heap.size) s.heap h g H locs → lv_has ls 8 [(0, .long x0), (2, .ref (ad o2)), (3, .int x3), (4, .int x4)] → W p l e ({ frames := 1, cells := 0, slots := 0, locals := 23 } : Room) s m args below meth c H locs 0 0 (MQ below (va_Ql (fun (r : Int64) (u : HI × HL) => Q r u.1 u.2) (gB D cy ad s.heap.size) (gA ad s.heap.size)) args s 0 0 (gA ad s.heap.size)) (F0 m 0 ls []) := by
    intro H locs ls hG hl
    unfold w_X10_withRow at HW
    refine lv_lload_n hx hb dX10_withRow_0 rfl (lv_at hl 0 rfl) ?_
    refine lv_lstore (lv' := [(5, .long x0), (0, .long x0), (2, .ref (ad o2)), (3, .int x3), (4, .int x4)]) hx hb dX10_withRow_1 hl (by decide) rfl (fun ls hl => ?_)
    refine lv_iconst (v := 0) hx hb dX10_withRow_3 (by decide) ?_
    refine lv_istore (lv' := [(7, .int (0 : Int32)), (5, .long x0), (0, .long x0), (2, .ref (ad o2)), (3, .int x3), (4, .int x4)]) hx hb dX10_withRow_4 hl (by decide) rfl (fun ls hl => ?_)
    obtain ⟨n_6, HW⟩ := HW
    exact L6 n_6 x3 x4 x0 (0 : Int32) h g _ _ _ HW hG (lv_sub hl [3, 4, 5, 1, 0] rfl)
  exact E0 _ _ _ hG hl

def b_X10_withParts_47 (Q : Int64 → HI → HL → Prop) (K5 : Int64 → Int32 → HI → HL → Prop) (K47 : Int64 → Int32 → Int32 → HI → HL → Prop) (x3 : Int64) (x5 : Int32) (x6 : Int32) (h : HI) (g : HL) : Prop :=
  (((3 : Int32) ≤ x6 → (∃ P_87 : Int32 → HI → HL → Prop, w_X1_reached x5 h g P_87 ∧ ∀ (r_87 : Int32) (h_87 : HI) (g_87 : HL), P_87 r_87 h_87 g_87 → (∀ x3_92 : Int64, x3_92 = (((31 : Int64) * x3) + ((r_87).toInt64)) → (∀ x5_93 : Int32, x5_93 = (x5 + 1) → K5 x3_92 x5_93 h_87 g_87)))) ∧ (¬ (3 : Int32) ≤ x6 → (∃ P_64 : Int32 → HI → HL → Prop, w_X7_answer x6 h g P_64 ∧ ∀ (r_64 : Int32) (h_64 : HI) (g_64 : HL), P_64 r_64 h_64 g_64 → (∀ x3_69 : Int64, x3_69 = (((31 : Int64) * x3) + ((r_64).toInt64)) → (∀ x6_70 : Int32, x6_70 = (x6 + 1) → K47 x3_69 x5 x6_70 h_64 g_64)))))
def F_X10_withParts_47 (Q : Int64 → HI → HL → Prop) (K5 : Int64 → Int32 → HI → HL → Prop) (K : Int64 × Int32 × Int32 × HI × HL → Prop) (q : Int64 × Int32 × Int32 × HI × HL) : Prop := b_X10_withParts_47 Q K5 (fun x3 x5 x6 h g => K (x3, x5, x6, h, g)) q.1 q.2.1 q.2.2.1 q.2.2.2.1 q.2.2.2.2
def b_X10_withParts_5 (Q : Int64 → HI → HL → Prop) (K5 : Int64 → Int32 → HI → HL → Prop) (x3 : Int64) (x5 : Int32) (h : HI) (g : HL) : Prop :=
  (∃ P_14 : Int32 → HI → HL → Prop, w_X8_rows 2 h g P_14 ∧ ∀ (r_14 : Int32) (h_14 : HI) (g_14 : HL), P_14 r_14 h_14 g_14 → ((r_14 ≤ x5 → Q x3 h_14 g_14) ∧ (¬ r_14 ≤ x5 → (∃ P_31 : Int64 → HI → HL → Prop, w_X10_withRow x3 2 x5 (4 : Int32) h_14 g_14 P_31 ∧ ∀ (r_31 : Int64) (h_31 : HI) (g_31 : HL), P_31 r_31 h_31 g_31 → (∃ P_41 : HI → HL → Prop, w_X7_find x5 h_31 g_31 P_41 ∧ ∀ (h_41 : HI) (g_41 : HL), P_41 h_41 g_41 → lpE (F_X10_withParts_47 Q K5) (r_31, x5, (0 : Int32), h_41, g_41))))))
def F_X10_withParts_5 (Q : Int64 → HI → HL → Prop) (K : Int64 × Int32 × HI × HL → Prop) (q : Int64 × Int32 × HI × HL) : Prop := b_X10_withParts_5 Q (fun x3 x5 h g => K (x3, x5, h, g)) q.1 q.2.1 q.2.2.1 q.2.2.2
def w_X10_withParts (x1 : Int64) (h : HI) (g : HL) (Q : Int64 → HI → HL → Prop) : Prop :=
  lpE (F_X10_withParts_5 Q) (x1, (0 : Int32), h, g)
set_option maxHeartbeats 8000000 in
set_option maxRecDepth 100000 in
theorem m_X10_withParts (l : Launch) (D : va_G) (cy : Nat → ClassId) (ad : Nat → Nat) (h : HI) (g : HL) (sz : Nat) (x1 : Int64) (Q : Int64 → HI → HL → Prop) (HW : w_X10_withParts x1 h g Q) : Met l yX10_withParts (wa yX10_withParts cX10_withParts 7 (some .long)) ({ frames := 5, cells := 0, slots := 0, locals := 124 }) (va_Pc [.ref (ad 0), .long x1] (gI D cy ad h g sz)) (va_Ql (fun (r : Int64) (u : HI × HL) => Q r u.1 u.2) (gB D cy ad sz) (gA ad sz)) 0 0 (gA ad sz) := by
  refine Met.ofW (cc := cX10_withParts) (maxL := 7) (ret := (some .long)) (by decide) rfl ?_
  intro p e s m args below meth c s₁ B hml hv
  obtain ⟨hav, hsz, hP, hK, hD0, hNw⟩ := hv
  have hx := B.exec
  have hb := B.bytes
  have hr := B.returns
  have hts := atoms_spec (ws := (wa yX10_withParts cX10_withParts 7 (some .long))) B.pre
  have hw := wa_hw hts
  have hown : s.vm.findClass RX10 = some m.cls := findClass_of_methodNamed B.named
  have hlocks := B.notSynchronized
  subst hsz
  have hG : gG D cy ad (gA ad s.heap.size) s.heap h g s.heap [] := ⟨hP, gA_self hD0, va_S.rf⟩
  clear hP hD0
  have lk10 := hw (.fieldLink RX10 10 "OldWorks" "shop" "LOldWorks$Shop;") (wm2 155 rfl rfl)
  have lk85 := hw (.fieldLink RX10 85 "OldWorks$Shop" "parts" "LOldWorks$Table;") (wm1 62 rfl rfl)
  have lk40 := hw (.fieldLink RX10 40 "OldWorks" "sizes" "LOldWorks$Sizes;") (wm2 160 rfl rfl)
  have cn263 := hw (.constantLong RX10 263 (31)) (wm5 3 rfl rfl)
  have lk70 := hw (.fieldLink RX10 70 "OldWorks" "breaks" "LOldWorks$Breaks;") (wm2 164 rfl rfl)
  rw [show (headSpec (wa yX10_withParts cX10_withParts 7 (some .long)) ({ frames := 5, cells := 0, slots := 0, locals := 124 } : Room)).room = ({ frames := 5, cells := 0, slots := 0, locals := 124 } : Room) from rfl]
  have hl := lv_entry ([.ref (ad 0), .long x1]) (n := 7) (Nat.le_of_ble_eq_true rfl)
  rw [show entryFrame m args 7 = entryFrame m ([.ref (ad 0), .long x1] : List Value).toArray 7 from by rw [hav], lg_entry_eq]
  generalize (lg_sl ([.ref (ad 0), .long x1]) ++ List.replicate (7 - (lg_sl ([.ref (ad 0), .long x1])).length) Slot.unset).toArray = ls at hl ⊢
  have hl : lv_has ls 7 [(0, .ref (ad 0)), (1, .long x1)] := hl
  have L47 : ∀ (K5 : Int64 → Int32 → HI → HL → Prop) (hK5 : ∀ (x3 : Int64) (x5 : Int32) (h : HI) (g : HL) (H : Heap) (locs : List Loc) (ls : Array Slot), K5 x3 x5 h g → gG D cy ad (gA ad s.heap.size) s.heap h g H locs → lv_has ls 7 [(0, .ref (ad 0)), (3, .long x3), (5, .int x5)] → W p l e ({ frames := 5, cells := 0, slots := 0, locals := 124 } : Room) s m args below meth c H locs 0 0 (MQ below (va_Ql (fun (r : Int64) (u : HI × HL) => Q r u.1 u.2) (gB D cy ad s.heap.size) (gA ad s.heap.size)) args s 0 0 (gA ad s.heap.size)) (F0 m 5 ls [])) (n : Nat) (x3 : Int64) (x5 : Int32) (x6 : Int32) (h : HI) (g : HL) (H : Heap) (locs : List Loc) (ls : Array Slot), lpN (F_X10_withParts_47 Q K5) n (x3, x5, x6, h, g) → gG D cy ad (gA ad s.heap.size) s.heap h g H locs → lv_has ls 7 [(0, .ref (ad 0)), (3, .long x3), (5, .int x5), (6, .int x6)] → W p l e ({ frames := 5, cells := 0, slots := 0, locals := 124 } : Room) s m args below meth c H locs 0 0 (MQ below (va_Ql (fun (r : Int64) (u : HI × HL) => Q r u.1 u.2) (gB D cy ad s.heap.size) (gA ad s.heap.size)) args s 0 0 (gA ad s.heap.size)) (F0 m 47 ls []) := by
    intro K5 hK5 n
    induction n with
    | zero => intro x3 x5 x6 h g H locs ls HW; exact HW.elim
    | succ n ih =>
      intro x3 x5 x6 h g H locs ls HW hG hl
      have HW : b_X10_withParts_47 Q K5 (fun x3 x5 x6 h g => lpN (F_X10_withParts_47 Q K5) n (x3, x5, x6, h, g)) x3 x5 x6 h g := HW
      generalize hKe : (fun (x3 : Int64) (x5 : Int32) (x6 : Int32) (h : HI) (g : HL) => lpN (F_X10_withParts_47 Q K5) n (x3, x5, x6, h, g)) = K47 at HW
      have hK47 : ∀ (x3 : Int64) (x5 : Int32) (x6 : Int32) (h : HI) (g : HL) (H : Heap) (locs : List Loc) (ls : Array Slot), K47 x3 x5 x6 h g → gG D cy ad (gA ad s.heap.size) s.heap h g H locs → lv_has ls 7 [(0, .ref (ad 0)), (3, .long x3), (5, .int x5), (6, .int x6)] → W p l e ({ frames := 5, cells := 0, slots := 0, locals := 124 } : Room) s m args below meth c H locs 0 0 (MQ below (va_Ql (fun (r : Int64) (u : HI × HL) => Q r u.1 u.2) (gB D cy ad s.heap.size) (gA ad s.heap.size)) args s 0 0 (gA ad s.heap.size)) (F0 m 47 ls []) := by subst hKe; exact ih
      clear ih
      clear hKe
      unfold b_X10_withParts_47 at HW
      refine lv_iload hx hb dX10_withParts_47 (lv_at hl 3 rfl) ?_
      refine lv_iconst (v := 3) hx hb dX10_withParts_49 (by decide) ?_
      refine lv_icmp_ge (tgt := 76) hx hb dX10_withParts_50 (by decide) (fun c_50 => ?_) (fun c_50 => ?_)
      · replace HW := HW.1 c_50
        refine lv_ldc2 (v := 31) hx hb hown cn263 dX10_withParts_76 ?_
        refine lv_lload_n hx hb dX10_withParts_79 rfl (lv_at hl 1 rfl) ?_
        refine lv_lmul hx hb dX10_withParts_80 ?_
        refine lv_aload_n hx hb dX10_withParts_81 rfl (lv_at hl 0 rfl) ?_
        refine g_getr hx hb hw inG10 hown hK hG gl_0 rfl gk_0 (by decide) 9 (by decide) (by rw [gm_0]; decide) (r := 109) gr_0_9 lk70 dX10_withParts_82 ?_
        refine lv_iload hx hb dX10_withParts_85 (lv_at hl 2 rfl) ?_
        obtain ⟨P_87, HC_87, HW⟩ := HW
        refine g_calli (g_runV (As := [.int x5]) (rest := [.long ((31 : Int64) * x3)]) ⟨hx, hb, hml, hown, hts⟩ (m_X1_reached l D cy ad h g H.size x5 P_87 HC_87) (cwV 1 hts (gd_V (wm4 134 rfl rfl) (wm4 135 rfl rfl) (wm4 136 rfl rfl) (wm1 10 rfl rfl) (wm4 137 rfl rfl)) rfl rfl rfl (by decide +kernel) ⟨Nat.le_of_ble_eq_true rfl, Nat.le_of_ble_eq_true rfl⟩) hK hNw hG gl_109 rfl gk_109 (by decide) rfl rfl hl.1 rfl (lv_room (Nat.le_of_ble_eq_true rfl)) dX10_withParts_87 ⟨Nat.zero_le _, Nat.zero_le _⟩) hG (fun r_87 h_87 g_87 H locs hq hG => ?_)
        replace HW := HW r_87 h_87 g_87 hq
        refine lv_i2l hx hb dX10_withParts_90 rfl ?_
        refine lv_ladd hx hb dX10_withParts_91 ?_
        refine lv_topl (fun x3_92 ex3_92 => ?_)
        replace HW := HW x3_92 ex3_92
        refine lv_lstore_n (lv' := [(3, .long x3_92), (0, .ref (ad 0)), (5, .int x5), (6, .int x6)]) hx hb dX10_withParts_92 rfl hl (by decide) rfl (fun ls hl => ?_)
        obtain ⟨x5_93, ex5_93⟩ : ∃ y : Int32, y = (x5 + 1) := ⟨_, rfl⟩
        replace HW := HW x5_93 ex5_93
        refine lv_iinc (v := x5_93) (lv' := [(5, .int x5_93), (3, .long x3_92), (0, .ref (ad 0)), (6, .int x6)]) hx hb dX10_withParts_93 hl (k := 2) rfl (by rw [ex5_93]; rfl) (by decide) rfl (fun ls hl => ?_)
        refine lv_goto (tgt := 5) hx hb dX10_withParts_96 (by decide) ?_
        exact hK5 x3_92 x5_93 h_87 g_87 _ _ _ HW hG (lv_sub hl [2, 1, 0] rfl)
      · replace HW := HW.2 c_50
        refine lv_ldc2 (v := 31) hx hb hown cn263 dX10_withParts_53 ?_
        refine lv_lload_n hx hb dX10_withParts_56 rfl (lv_at hl 1 rfl) ?_
        refine lv_lmul hx hb dX10_withParts_57 ?_
        refine lv_aload_n hx hb dX10_withParts_58 rfl (lv_at hl 0 rfl) ?_
        refine g_getr hx hb hw inG10 hown hK hG gl_0 rfl gk_0 (by decide) 5 (by decide) (by rw [gm_0]; decide) (r := 81) gr_0_5 lk40 dX10_withParts_59 ?_
        refine lv_iload hx hb dX10_withParts_62 (lv_at hl 3 rfl) ?_
        obtain ⟨P_64, HC_64, HW⟩ := HW
        refine g_calli (g_runV (As := [.int x6]) (rest := [.long ((31 : Int64) * x3)]) ⟨hx, hb, hml, hown, hts⟩ (m_X7_answer l D cy ad h g H.size x6 P_64 HC_64) (cwV 1 hts (gd_V (wm3 105 rfl rfl) (wm3 106 rfl rfl) (wm3 107 rfl rfl) (wm1 5 rfl rfl) (wm3 108 rfl rfl)) rfl rfl rfl (by decide +kernel) ⟨Nat.le_of_ble_eq_true rfl, Nat.le_of_ble_eq_true rfl⟩) hK hNw hG gl_81 rfl gk_81 (by decide) rfl rfl hl.1 rfl (lv_room (Nat.le_of_ble_eq_true rfl)) dX10_withParts_64 ⟨Nat.zero_le _, Nat.zero_le _⟩) hG (fun r_64 h_64 g_64 H locs hq hG => ?_)
        replace HW := HW r_64 h_64 g_64 hq
        refine lv_i2l hx hb dX10_withParts_67 rfl ?_
        refine lv_ladd hx hb dX10_withParts_68 ?_
        refine lv_topl (fun x3_69 ex3_69 => ?_)
        replace HW := HW x3_69 ex3_69
        refine lv_lstore_n (lv' := [(3, .long x3_69), (0, .ref (ad 0)), (5, .int x5), (6, .int x6)]) hx hb dX10_withParts_69 rfl hl (by decide) rfl (fun ls hl => ?_)
        obtain ⟨x6_70, ex6_70⟩ : ∃ y : Int32, y = (x6 + 1) := ⟨_, rfl⟩
        replace HW := HW x6_70 ex6_70
        refine lv_iinc (v := x6_70) (lv' := [(6, .int x6_70), (3, .long x3_69), (0, .ref (ad 0)), (5, .int x5)]) hx hb dX10_withParts_70 hl (k := 3) rfl (by rw [ex6_70]; rfl) (by decide) rfl (fun ls hl => ?_)
        refine lv_goto (tgt := 47) hx hb dX10_withParts_73 (by decide) ?_
        exact hK47 x3_69 x5 x6_70 h_64 g_64 _ _ _ HW hG (lv_sub hl [2, 1, 3, 0] rfl)
  have L5 : ∀ (n : Nat) (x3 : Int64) (x5 : Int32) (h : HI) (g : HL) (H : Heap) (locs : List Loc) (ls : Array Slot), lpN (F_X10_withParts_5 Q) n (x3, x5, h, g) → gG D cy ad (gA ad s.heap.size) s.heap h g H locs → lv_has ls 7 [(0, .ref (ad 0)), (3, .long x3), (5, .int x5)] → W p l e ({ frames := 5, cells := 0, slots := 0, locals := 124 } : Room) s m args below meth c H locs 0 0 (MQ below (va_Ql (fun (r : Int64) (u : HI × HL) => Q r u.1 u.2) (gB D cy ad s.heap.size) (gA ad s.heap.size)) args s 0 0 (gA ad s.heap.size)) (F0 m 5 ls []) := by
    intro n
    induction n with
    | zero => intro x3 x5 h g H locs ls HW; exact HW.elim
    | succ n ih =>
      intro x3 x5 h g H locs ls HW hG hl
      have HW : b_X10_withParts_5 Q (fun x3 x5 h g => lpN (F_X10_withParts_5 Q) n (x3, x5, h, g)) x3 x5 h g := HW
      generalize hKe : (fun (x3 : Int64) (x5 : Int32) (h : HI) (g : HL) => lpN (F_X10_withParts_5 Q) n (x3, x5, h, g)) = K5 at HW
      have hK5 : ∀ (x3 : Int64) (x5 : Int32) (h : HI) (g : HL) (H : Heap) (locs : List Loc) (ls : Array Slot), K5 x3 x5 h g → gG D cy ad (gA ad s.heap.size) s.heap h g H locs → lv_has ls 7 [(0, .ref (ad 0)), (3, .long x3), (5, .int x5)] → W p l e ({ frames := 5, cells := 0, slots := 0, locals := 124 } : Room) s m args below meth c H locs 0 0 (MQ below (va_Ql (fun (r : Int64) (u : HI × HL) => Q r u.1 u.2) (gB D cy ad s.heap.size) (gA ad s.heap.size)) args s 0 0 (gA ad s.heap.size)) (F0 m 5 ls []) := by subst hKe; exact ih
      clear ih
      clear hKe
      unfold b_X10_withParts_5 at HW
      refine lv_iload hx hb dX10_withParts_5 (lv_at hl 2 rfl) ?_
      refine lv_aload_n hx hb dX10_withParts_7 rfl (lv_at hl 0 rfl) ?_
      refine g_getr hx hb hw inG10 hown hK hG gl_0 rfl gk_0 (by decide) 0 (by decide) (by rw [gm_0]; decide) (r := 1) gr_0_0 lk10 dX10_withParts_8 ?_
      refine g_getr hx hb hw inG6 hown hK hG gl_1 rfl gk_1 (by decide) 0 (by decide) (by rw [gm_1]; decide) (r := 2) gr_1_0 lk85 dX10_withParts_11 ?_
      obtain ⟨P_14, HC_14, HW⟩ := HW
      refine g_calli (g_runV (As := []) (rest := [.int x5]) ⟨hx, hb, hml, hown, hts⟩ (m_X8_rows l D cy ad h g H.size 2 (gs_2) P_14 HC_14) (cwV 0 hts (gd_V (wm3 19 rfl rfl) (wm2 217 rfl rfl) (wm2 218 rfl rfl) (wm1 3 rfl rfl) (wm2 219 rfl rfl)) rfl rfl rfl (by decide +kernel) ⟨Nat.le_of_ble_eq_true rfl, Nat.le_of_ble_eq_true rfl⟩) hK hNw hG gl_2 rfl gk_2 (by decide) rfl rfl hl.1 rfl (lv_room (Nat.le_of_ble_eq_true rfl)) dX10_withParts_14 ⟨Nat.zero_le _, Nat.zero_le _⟩) hG (fun r_14 h_14 g_14 H locs hq hG => ?_)
      replace HW := HW r_14 h_14 g_14 hq
      refine lv_icmp_ge (tgt := 99) hx hb dX10_withParts_17 (by decide) (fun c_17 => ?_) (fun c_17 => ?_)
      · replace HW := HW.1 c_17
        refine lv_lload_n hx hb dX10_withParts_99 rfl (lv_at hl 1 rfl) ?_
        exact W.lret (v := x3) hx hb hr (fun t ht hW => ⟨⟨x3, (h_14, g_14), rfl, HW, g_B ht hG⟩, hG.2.2.F ht⟩) hG.2.2.2.2 dX10_withParts_100
      · replace HW := HW.2 c_17
        refine lv_lload_n hx hb dX10_withParts_20 rfl (lv_at hl 1 rfl) ?_
        refine lv_aload_n hx hb dX10_withParts_21 rfl (lv_at hl 0 rfl) ?_
        refine g_getr hx hb hw inG10 hown hK hG gl_0 rfl gk_0 (by decide) 0 (by decide) (by rw [gm_0]; decide) (r := 1) gr_0_0 lk10 dX10_withParts_22 ?_
        refine g_getr hx hb hw inG6 hown hK hG gl_1 rfl gk_1 (by decide) 0 (by decide) (by rw [gm_1]; decide) (r := 2) gr_1_0 lk85 dX10_withParts_25 ?_
        refine lv_iload hx hb dX10_withParts_28 (lv_at hl 2 rfl) ?_
        refine lv_iconst (v := 4) hx hb dX10_withParts_30 (by decide) ?_
        obtain ⟨P_31, HC_31, HW⟩ := HW
        refine g_calll (g_runS (As := [.long x3, .ref (ad 2), .int x5, .int (4 : Int32)]) (rest := []) ⟨hx, hb, hml, hown, hts⟩ (m_X10_withRow l D cy ad h_14 g_14 H.size x3 2 (gs_2) x5 (4 : Int32) P_31 HC_31) (va_cwS 4 hts (gd_S (wm5 9 rfl rfl) (wm5 10 rfl rfl) (wm1 1 rfl rfl) (wm5 11 rfl rfl)) rfl rfl rfl (by decide +kernel) ⟨Nat.le_of_ble_eq_true rfl, Nat.le_of_ble_eq_true rfl⟩) hK hNw hG rfl rfl hl.1 rfl (lv_room (Nat.le_of_ble_eq_true rfl)) dX10_withParts_31 ⟨Nat.zero_le _, Nat.zero_le _⟩) hG (fun r_31 h_31 g_31 H locs hq hG => ?_)
        replace HW := HW r_31 h_31 g_31 hq
        refine lv_lstore_n (lv' := [(3, .long r_31), (0, .ref (ad 0)), (5, .int x5)]) hx hb dX10_withParts_34 rfl hl (by decide) rfl (fun ls hl => ?_)
        refine lv_aload_n hx hb dX10_withParts_35 rfl (lv_at hl 1 rfl) ?_
        refine g_getr hx hb hw inG10 hown hK hG gl_0 rfl gk_0 (by decide) 5 (by decide) (by rw [gm_0]; decide) (r := 81) gr_0_5 lk40 dX10_withParts_36 ?_
        refine lv_iload hx hb dX10_withParts_39 (lv_at hl 2 rfl) ?_
        obtain ⟨P_41, HC_41, HW⟩ := HW
        refine g_callv (g_runV (As := [.int x5]) (rest := []) ⟨hx, hb, hml, hown, hts⟩ (m_X7_find l D cy ad h_31 g_31 H.size x5 P_41 HC_41) (cwV 1 hts (gd_V (wm3 74 rfl rfl) (wm3 75 rfl rfl) (wm3 76 rfl rfl) (wm1 5 rfl rfl) (wm3 77 rfl rfl)) rfl rfl rfl (by decide +kernel) ⟨Nat.le_of_ble_eq_true rfl, Nat.le_of_ble_eq_true rfl⟩) hK hNw hG gl_81 rfl gk_81 (by decide) rfl rfl hl.1 rfl (lv_room (Nat.le_of_ble_eq_true rfl)) dX10_withParts_41 ⟨Nat.zero_le _, Nat.zero_le _⟩) hG (fun h_41 g_41 H locs hq hG => ?_)
        replace HW := HW h_41 g_41 hq
        refine lv_iconst (v := 0) hx hb dX10_withParts_44 (by decide) ?_
        refine lv_istore (lv' := [(6, .int (0 : Int32)), (3, .long r_31), (0, .ref (ad 0)), (5, .int x5)]) hx hb dX10_withParts_45 hl (by decide) rfl (fun ls hl => ?_)
        obtain ⟨n_47, HW⟩ := HW
        exact L47 K5 hK5 n_47 r_31 x5 (0 : Int32) h_41 g_41 _ _ _ HW hG (lv_sub hl [2, 1, 3, 0] rfl)
  have E0 : ∀ (H : Heap) (locs : List Loc) (ls : Array Slot), gG D cy ad (gA ad s.heap.size) s.heap h g H locs → lv_has ls 7 [(0, .ref (ad 0)), (1, .long x1)] → W p l e ({ frames := 5, cells := 0, slots := 0, locals := 124 } : Room) s m args below meth c H locs 0 0 (MQ below (va_Ql (fun (r : Int64) (u : HI × HL) => Q r u.1 u.2) (gB D cy ad s.heap.size) (gA ad s.heap.size)) args s 0 0 (gA ad s.heap.size)) (F0 m 0 ls []) := by
    intro H locs ls hG hl
    unfold w_X10_withParts at HW
    refine lv_lload_n hx hb dX10_withParts_0 rfl (lv_at hl 1 rfl) ?_
    refine lv_lstore_n (lv' := [(3, .long x1), (0, .ref (ad 0)), (1, .long x1)]) hx hb dX10_withParts_1 rfl hl (by decide) rfl (fun ls hl => ?_)
    refine lv_iconst (v := 0) hx hb dX10_withParts_2 (by decide) ?_
    refine lv_istore (lv' := [(5, .int (0 : Int32)), (3, .long x1), (0, .ref (ad 0)), (1, .long x1)]) hx hb dX10_withParts_3 hl (by decide) rfl (fun ls hl => ?_)
    obtain ⟨n_5, HW⟩ := HW
    exact L5 n_5 x1 (0 : Int32) h g _ _ _ HW hG (lv_sub hl [2, 1, 0] rfl)
  exact E0 _ _ _ hG hl

def b_X10_withTable_6 (o2 : Nat) (Q : Int64 → HI → HL → Prop) (K6 : Int32 → Int64 → Int32 → HI → HL → Prop) (x3 : Int32) (x4 : Int64) (x6 : Int32) (h : HI) (g : HL) : Prop :=
  (∃ P_9 : Int32 → HI → HL → Prop, w_X8_rows o2 h g P_9 ∧ ∀ (r_9 : Int32) (h_9 : HI) (g_9 : HL), P_9 r_9 h_9 g_9 → ((r_9 ≤ x6 → Q x4 h_9 g_9) ∧ (¬ r_9 ≤ x6 → (∃ P_21 : Int64 → HI → HL → Prop, w_X10_withRow x4 o2 x6 x3 h_9 g_9 P_21 ∧ ∀ (r_21 : Int64) (h_21 : HI) (g_21 : HL), P_21 r_21 h_21 g_21 → (∀ x6_26 : Int32, x6_26 = (x6 + 1) → K6 x3 r_21 x6_26 h_21 g_21)))))
def F_X10_withTable_6 (o2 : Nat) (Q : Int64 → HI → HL → Prop) (K : Int32 × Int64 × Int32 × HI × HL → Prop) (q : Int32 × Int64 × Int32 × HI × HL) : Prop := b_X10_withTable_6 o2 Q (fun x3 x4 x6 h g => K (x3, x4, x6, h, g)) q.1 q.2.1 q.2.2.1 q.2.2.2.1 q.2.2.2.2
def w_X10_withTable (x0 : Int64) (o2 : Nat) (x3 : Int32) (h : HI) (g : HL) (Q : Int64 → HI → HL → Prop) : Prop :=
  lpE (F_X10_withTable_6 o2 Q) (x3, x0, (0 : Int32), h, g)
set_option maxHeartbeats 8000000 in
set_option maxRecDepth 100000 in
theorem m_X10_withTable (l : Launch) (D : va_G) (cy : Nat → ClassId) (ad : Nat → Nat) (h : HI) (g : HL) (sz : Nat) (x0 : Int64) (o2 : Nat) (hT2 : isT o2) (x3 : Int32) (Q : Int64 → HI → HL → Prop) (HW : w_X10_withTable x0 o2 x3 h g Q) : Met l yX10_withTable (wa yX10_withTable cX10_withTable 7 (some .long)) ({ frames := 2, cells := 0, slots := 0, locals := 50 }) (va_Pc [.long x0, .ref (ad o2), .int x3] (gI D cy ad h g sz)) (va_Ql (fun (r : Int64) (u : HI × HL) => Q r u.1 u.2) (gB D cy ad sz) (gA ad sz)) 0 0 (gA ad sz) := by
  refine Met.ofW (cc := cX10_withTable) (maxL := 7) (ret := (some .long)) (by decide) rfl ?_
  intro p e s m args below meth c s₁ B hml hv
  obtain ⟨hav, hsz, hP, hK, hD0, hNw⟩ := hv
  have hx := B.exec
  have hb := B.bytes
  have hr := B.returns
  have hts := atoms_spec (ws := (wa yX10_withTable cX10_withTable 7 (some .long))) B.pre
  have hw := wa_hw hts
  have hown : s.vm.findClass RX10 = some m.cls := findClass_of_methodNamed B.named
  have hlocks := B.notSynchronized
  subst hsz
  have hG : gG D cy ad (gA ad s.heap.size) s.heap h g s.heap [] := ⟨hP, gA_self hD0, va_S.rf⟩
  clear hP hD0
  rw [show (headSpec (wa yX10_withTable cX10_withTable 7 (some .long)) ({ frames := 2, cells := 0, slots := 0, locals := 50 } : Room)).room = ({ frames := 2, cells := 0, slots := 0, locals := 50 } : Room) from rfl]
  have hl := lv_entry ([.long x0, .ref (ad o2), .int x3]) (n := 7) (Nat.le_of_ble_eq_true rfl)
  rw [show entryFrame m args 7 = entryFrame m ([.long x0, .ref (ad o2), .int x3] : List Value).toArray 7 from by rw [hav], lg_entry_eq]
  generalize (lg_sl ([.long x0, .ref (ad o2), .int x3]) ++ List.replicate (7 - (lg_sl ([.long x0, .ref (ad o2), .int x3])).length) Slot.unset).toArray = ls at hl ⊢
  have hl : lv_has ls 7 [(0, .long x0), (2, .ref (ad o2)), (3, .int x3)] := hl
  have L6 : ∀ (n : Nat) (x3 : Int32) (x4 : Int64) (x6 : Int32) (h : HI) (g : HL) (H : Heap) (locs : List Loc) (ls : Array Slot), lpN (F_X10_withTable_6 o2 Q) n (x3, x4, x6, h, g) → gG D cy ad (gA ad s.heap.size) s.heap h g H locs → lv_has ls 7 [(2, .ref (ad o2)), (3, .int x3), (4, .long x4), (6, .int x6)] → W p l e ({ frames := 2, cells := 0, slots := 0, locals := 50 } : Room) s m args below meth c H locs 0 0 (MQ below (va_Ql (fun (r : Int64) (u : HI × HL) => Q r u.1 u.2) (gB D cy ad s.heap.size) (gA ad s.heap.size)) args s 0 0 (gA ad s.heap.size)) (F0 m 6 ls []) := by
    intro n
    induction n with
    | zero => intro x3 x4 x6 h g H locs ls HW; exact HW.elim
    | succ n ih =>
      intro x3 x4 x6 h g H locs ls HW hG hl
      have HW : b_X10_withTable_6 o2 Q (fun x3 x4 x6 h g => lpN (F_X10_withTable_6 o2 Q) n (x3, x4, x6, h, g)) x3 x4 x6 h g := HW
      generalize hKe : (fun (x3 : Int32) (x4 : Int64) (x6 : Int32) (h : HI) (g : HL) => lpN (F_X10_withTable_6 o2 Q) n (x3, x4, x6, h, g)) = K6 at HW
      have hK6 : ∀ (x3 : Int32) (x4 : Int64) (x6 : Int32) (h : HI) (g : HL) (H : Heap) (locs : List Loc) (ls : Array Slot), K6 x3 x4 x6 h g → gG D cy ad (gA ad s.heap.size) s.heap h g H locs → lv_has ls 7 [(2, .ref (ad o2)), (3, .int x3), (4, .long x4), (6, .int x6)] → W p l e ({ frames := 2, cells := 0, slots := 0, locals := 50 } : Room) s m args below meth c H locs 0 0 (MQ below (va_Ql (fun (r : Int64) (u : HI × HL) => Q r u.1 u.2) (gB D cy ad s.heap.size) (gA ad s.heap.size)) args s 0 0 (gA ad s.heap.size)) (F0 m 6 ls []) := by subst hKe; exact ih
      clear ih
      clear hKe
      unfold b_X10_withTable_6 at HW
      refine lv_iload hx hb dX10_withTable_6 (lv_at hl 3 rfl) ?_
      refine lv_aload_n hx hb dX10_withTable_8 rfl (lv_at hl 0 rfl) ?_
      obtain ⟨P_9, HC_9, HW⟩ := HW
      refine g_calli (g_runV (As := []) (rest := [.int x6]) ⟨hx, hb, hml, hown, hts⟩ (m_X8_rows l D cy ad h g H.size o2 hT2 P_9 HC_9) (cwV 0 hts (gd_V (wm3 19 rfl rfl) (wm2 217 rfl rfl) (wm2 218 rfl rfl) (wm1 3 rfl rfl) (wm2 219 rfl rfl)) rfl rfl rfl (by decide +kernel) ⟨Nat.le_of_ble_eq_true rfl, Nat.le_of_ble_eq_true rfl⟩) hK hNw hG hT2.lt rfl hT2.k (by decide) rfl rfl hl.1 rfl (lv_room (Nat.le_of_ble_eq_true rfl)) dX10_withTable_9 ⟨Nat.zero_le _, Nat.zero_le _⟩) hG (fun r_9 h_9 g_9 H locs hq hG => ?_)
      replace HW := HW r_9 h_9 g_9 hq
      refine lv_icmp_ge (tgt := 32) hx hb dX10_withTable_12 (by decide) (fun c_12 => ?_) (fun c_12 => ?_)
      · replace HW := HW.1 c_12
        refine lv_lload hx hb dX10_withTable_32 (lv_at hl 2 rfl) ?_
        exact W.lret (v := x4) hx hb hr (fun t ht hW => ⟨⟨x4, (h_9, g_9), rfl, HW, g_B ht hG⟩, hG.2.2.F ht⟩) hG.2.2.2.2 dX10_withTable_34
      · replace HW := HW.2 c_12
        refine lv_lload hx hb dX10_withTable_15 (lv_at hl 2 rfl) ?_
        refine lv_aload_n hx hb dX10_withTable_17 rfl (lv_at hl 0 rfl) ?_
        refine lv_iload hx hb dX10_withTable_18 (lv_at hl 3 rfl) ?_
        refine lv_iload_n hx hb dX10_withTable_20 rfl (lv_at hl 1 rfl) ?_
        obtain ⟨P_21, HC_21, HW⟩ := HW
        refine g_calll (g_runS (As := [.long x4, .ref (ad o2), .int x6, .int x3]) (rest := []) ⟨hx, hb, hml, hown, hts⟩ (m_X10_withRow l D cy ad h_9 g_9 H.size x4 o2 hT2 x6 x3 P_21 HC_21) (va_cwS 4 hts (gd_S (wm5 9 rfl rfl) (wm5 10 rfl rfl) (wm1 1 rfl rfl) (wm5 11 rfl rfl)) rfl rfl rfl (by decide +kernel) ⟨Nat.le_of_ble_eq_true rfl, Nat.le_of_ble_eq_true rfl⟩) hK hNw hG rfl rfl hl.1 rfl (lv_room (Nat.le_of_ble_eq_true rfl)) dX10_withTable_21 ⟨Nat.zero_le _, Nat.zero_le _⟩) hG (fun r_21 h_21 g_21 H locs hq hG => ?_)
        replace HW := HW r_21 h_21 g_21 hq
        refine lv_lstore (lv' := [(4, .long r_21), (2, .ref (ad o2)), (3, .int x3), (6, .int x6)]) hx hb dX10_withTable_24 hl (by decide) rfl (fun ls hl => ?_)
        obtain ⟨x6_26, ex6_26⟩ : ∃ y : Int32, y = (x6 + 1) := ⟨_, rfl⟩
        replace HW := HW x6_26 ex6_26
        refine lv_iinc (v := x6_26) (lv' := [(6, .int x6_26), (4, .long r_21), (2, .ref (ad o2)), (3, .int x3)]) hx hb dX10_withTable_26 hl (k := 3) rfl (by rw [ex6_26]; rfl) (by decide) rfl (fun ls hl => ?_)
        refine lv_goto (tgt := 6) hx hb dX10_withTable_29 (by decide) ?_
        exact hK6 x3 r_21 x6_26 h_21 g_21 _ _ _ HW hG (lv_sub hl [2, 3, 1, 0] rfl)
  have E0 : ∀ (H : Heap) (locs : List Loc) (ls : Array Slot), gG D cy ad (gA ad s.heap.size) s.heap h g H locs → lv_has ls 7 [(0, .long x0), (2, .ref (ad o2)), (3, .int x3)] → W p l e ({ frames := 2, cells := 0, slots := 0, locals := 50 } : Room) s m args below meth c H locs 0 0 (MQ below (va_Ql (fun (r : Int64) (u : HI × HL) => Q r u.1 u.2) (gB D cy ad s.heap.size) (gA ad s.heap.size)) args s 0 0 (gA ad s.heap.size)) (F0 m 0 ls []) := by
    intro H locs ls hG hl
    unfold w_X10_withTable at HW
    refine lv_lload_n hx hb dX10_withTable_0 rfl (lv_at hl 0 rfl) ?_
    refine lv_lstore (lv' := [(4, .long x0), (0, .long x0), (2, .ref (ad o2)), (3, .int x3)]) hx hb dX10_withTable_1 hl (by decide) rfl (fun ls hl => ?_)
    refine lv_iconst (v := 0) hx hb dX10_withTable_3 (by decide) ?_
    refine lv_istore (lv' := [(6, .int (0 : Int32)), (4, .long x0), (0, .long x0), (2, .ref (ad o2)), (3, .int x3)]) hx hb dX10_withTable_4 hl (by decide) rfl (fun ls hl => ?_)
    obtain ⟨n_6, HW⟩ := HW
    exact L6 n_6 x3 x0 (0 : Int32) h g _ _ _ HW hG (lv_sub hl [3, 4, 1, 0] rfl)
  exact E0 _ _ _ hG hl

def b_X10_withChains_5 (Q : Int64 → HI → HL → Prop) (K5 : Int64 → Int32 → HI → HL → Prop) (x3 : Int64) (x5 : Int32) (h : HI) (g : HL) : Prop :=
  (∃ P_14 : Int32 → HI → HL → Prop, w_X8_rows 8 h g P_14 ∧ ∀ (r_14 : Int32) (h_14 : HI) (g_14 : HL), P_14 r_14 h_14 g_14 → ((r_14 ≤ x5 → Q x3 h_14 g_14) ∧ (¬ r_14 ≤ x5 → (∃ P_42 : Int32 → HI → HL → Prop, w_X8_at 8 x5 (2 : Int32) h_14 g_14 P_42 ∧ ∀ (r_42 : Int32) (h_42 : HI) (g_42 : HL), P_42 r_42 h_42 g_42 → (∃ P_47 : Int64 → HI → HL → Prop, w_X10_withRow x3 8 x5 ((3 : Int32) + ((2 : Int32) * r_42)) h_42 g_42 P_47 ∧ ∀ (r_47 : Int64) (h_47 : HI) (g_47 : HL), P_47 r_47 h_47 g_47 → (∀ x5_51 : Int32, x5_51 = (x5 + 1) → K5 r_47 x5_51 h_47 g_47))))))
def F_X10_withChains_5 (Q : Int64 → HI → HL → Prop) (K : Int64 × Int32 × HI × HL → Prop) (q : Int64 × Int32 × HI × HL) : Prop := b_X10_withChains_5 Q (fun x3 x5 h g => K (x3, x5, h, g)) q.1 q.2.1 q.2.2.1 q.2.2.2
def w_X10_withChains (x1 : Int64) (h : HI) (g : HL) (Q : Int64 → HI → HL → Prop) : Prop :=
  lpE (F_X10_withChains_5 Q) (x1, (0 : Int32), h, g)
set_option maxHeartbeats 8000000 in
set_option maxRecDepth 100000 in
theorem m_X10_withChains (l : Launch) (D : va_G) (cy : Nat → ClassId) (ad : Nat → Nat) (h : HI) (g : HL) (sz : Nat) (x1 : Int64) (Q : Int64 → HI → HL → Prop) (HW : w_X10_withChains x1 h g Q) : Met l yX10_withChains (wa yX10_withChains cX10_withChains 6 (some .long)) ({ frames := 2, cells := 0, slots := 0, locals := 50 }) (va_Pc [.ref (ad 0), .long x1] (gI D cy ad h g sz)) (va_Ql (fun (r : Int64) (u : HI × HL) => Q r u.1 u.2) (gB D cy ad sz) (gA ad sz)) 0 0 (gA ad sz) := by
  refine Met.ofW (cc := cX10_withChains) (maxL := 6) (ret := (some .long)) (by decide) rfl ?_
  intro p e s m args below meth c s₁ B hml hv
  obtain ⟨hav, hsz, hP, hK, hD0, hNw⟩ := hv
  have hx := B.exec
  have hb := B.bytes
  have hr := B.returns
  have hts := atoms_spec (ws := (wa yX10_withChains cX10_withChains 6 (some .long))) B.pre
  have hw := wa_hw hts
  have hown : s.vm.findClass RX10 = some m.cls := findClass_of_methodNamed B.named
  have hlocks := B.notSynchronized
  subst hsz
  have hG : gG D cy ad (gA ad s.heap.size) s.heap h g s.heap [] := ⟨hP, gA_self hD0, va_S.rf⟩
  clear hP hD0
  have lk10 := hw (.fieldLink RX10 10 "OldWorks" "shop" "LOldWorks$Shop;") (wm2 155 rfl rfl)
  have lk153 := hw (.fieldLink RX10 153 "OldWorks$Shop" "chains" "LOldWorks$Table;") (wm1 73 rfl rfl)
  rw [show (headSpec (wa yX10_withChains cX10_withChains 6 (some .long)) ({ frames := 2, cells := 0, slots := 0, locals := 50 } : Room)).room = ({ frames := 2, cells := 0, slots := 0, locals := 50 } : Room) from rfl]
  have hl := lv_entry ([.ref (ad 0), .long x1]) (n := 6) (Nat.le_of_ble_eq_true rfl)
  rw [show entryFrame m args 6 = entryFrame m ([.ref (ad 0), .long x1] : List Value).toArray 6 from by rw [hav], lg_entry_eq]
  generalize (lg_sl ([.ref (ad 0), .long x1]) ++ List.replicate (6 - (lg_sl ([.ref (ad 0), .long x1])).length) Slot.unset).toArray = ls at hl ⊢
  have hl : lv_has ls 6 [(0, .ref (ad 0)), (1, .long x1)] := hl
  have L5 : ∀ (n : Nat) (x3 : Int64) (x5 : Int32) (h : HI) (g : HL) (H : Heap) (locs : List Loc) (ls : Array Slot), lpN (F_X10_withChains_5 Q) n (x3, x5, h, g) → gG D cy ad (gA ad s.heap.size) s.heap h g H locs → lv_has ls 6 [(0, .ref (ad 0)), (3, .long x3), (5, .int x5)] → W p l e ({ frames := 2, cells := 0, slots := 0, locals := 50 } : Room) s m args below meth c H locs 0 0 (MQ below (va_Ql (fun (r : Int64) (u : HI × HL) => Q r u.1 u.2) (gB D cy ad s.heap.size) (gA ad s.heap.size)) args s 0 0 (gA ad s.heap.size)) (F0 m 5 ls []) := by
    intro n
    induction n with
    | zero => intro x3 x5 h g H locs ls HW; exact HW.elim
    | succ n ih =>
      intro x3 x5 h g H locs ls HW hG hl
      have HW : b_X10_withChains_5 Q (fun x3 x5 h g => lpN (F_X10_withChains_5 Q) n (x3, x5, h, g)) x3 x5 h g := HW
      generalize hKe : (fun (x3 : Int64) (x5 : Int32) (h : HI) (g : HL) => lpN (F_X10_withChains_5 Q) n (x3, x5, h, g)) = K5 at HW
      have hK5 : ∀ (x3 : Int64) (x5 : Int32) (h : HI) (g : HL) (H : Heap) (locs : List Loc) (ls : Array Slot), K5 x3 x5 h g → gG D cy ad (gA ad s.heap.size) s.heap h g H locs → lv_has ls 6 [(0, .ref (ad 0)), (3, .long x3), (5, .int x5)] → W p l e ({ frames := 2, cells := 0, slots := 0, locals := 50 } : Room) s m args below meth c H locs 0 0 (MQ below (va_Ql (fun (r : Int64) (u : HI × HL) => Q r u.1 u.2) (gB D cy ad s.heap.size) (gA ad s.heap.size)) args s 0 0 (gA ad s.heap.size)) (F0 m 5 ls []) := by subst hKe; exact ih
      clear ih
      clear hKe
      unfold b_X10_withChains_5 at HW
      refine lv_iload hx hb dX10_withChains_5 (lv_at hl 2 rfl) ?_
      refine lv_aload_n hx hb dX10_withChains_7 rfl (lv_at hl 0 rfl) ?_
      refine g_getr hx hb hw inG10 hown hK hG gl_0 rfl gk_0 (by decide) 0 (by decide) (by rw [gm_0]; decide) (r := 1) gr_0_0 lk10 dX10_withChains_8 ?_
      refine g_getr hx hb hw inG6 hown hK hG gl_1 rfl gk_1 (by decide) 3 (by decide) (by rw [gm_1]; decide) (r := 8) gr_1_3 lk153 dX10_withChains_11 ?_
      obtain ⟨P_14, HC_14, HW⟩ := HW
      refine g_calli (g_runV (As := []) (rest := [.int x5]) ⟨hx, hb, hml, hown, hts⟩ (m_X8_rows l D cy ad h g H.size 8 (gs_8) P_14 HC_14) (cwV 0 hts (gd_V (wm3 19 rfl rfl) (wm2 217 rfl rfl) (wm2 218 rfl rfl) (wm1 3 rfl rfl) (wm2 219 rfl rfl)) rfl rfl rfl (by decide +kernel) ⟨Nat.le_of_ble_eq_true rfl, Nat.le_of_ble_eq_true rfl⟩) hK hNw hG gl_8 rfl gk_8 (by decide) rfl rfl hl.1 rfl (lv_room (Nat.le_of_ble_eq_true rfl)) dX10_withChains_14 ⟨Nat.zero_le _, Nat.zero_le _⟩) hG (fun r_14 h_14 g_14 H locs hq hG => ?_)
      replace HW := HW r_14 h_14 g_14 hq
      refine lv_icmp_ge (tgt := 57) hx hb dX10_withChains_17 (by decide) (fun c_17 => ?_) (fun c_17 => ?_)
      · replace HW := HW.1 c_17
        refine lv_lload_n hx hb dX10_withChains_57 rfl (lv_at hl 1 rfl) ?_
        exact W.lret (v := x3) hx hb hr (fun t ht hW => ⟨⟨x3, (h_14, g_14), rfl, HW, g_B ht hG⟩, hG.2.2.F ht⟩) hG.2.2.2.2 dX10_withChains_58
      · replace HW := HW.2 c_17
        refine lv_lload_n hx hb dX10_withChains_20 rfl (lv_at hl 1 rfl) ?_
        refine lv_aload_n hx hb dX10_withChains_21 rfl (lv_at hl 0 rfl) ?_
        refine g_getr hx hb hw inG10 hown hK hG gl_0 rfl gk_0 (by decide) 0 (by decide) (by rw [gm_0]; decide) (r := 1) gr_0_0 lk10 dX10_withChains_22 ?_
        refine g_getr hx hb hw inG6 hown hK hG gl_1 rfl gk_1 (by decide) 3 (by decide) (by rw [gm_1]; decide) (r := 8) gr_1_3 lk153 dX10_withChains_25 ?_
        refine lv_iload hx hb dX10_withChains_28 (lv_at hl 2 rfl) ?_
        refine lv_iconst (v := 3) hx hb dX10_withChains_30 (by decide) ?_
        refine lv_iconst (v := 2) hx hb dX10_withChains_31 (by decide) ?_
        refine lv_aload_n hx hb dX10_withChains_32 rfl (lv_at hl 0 rfl) ?_
        refine g_getr hx hb hw inG10 hown hK hG gl_0 rfl gk_0 (by decide) 0 (by decide) (by rw [gm_0]; decide) (r := 1) gr_0_0 lk10 dX10_withChains_33 ?_
        refine g_getr hx hb hw inG6 hown hK hG gl_1 rfl gk_1 (by decide) 3 (by decide) (by rw [gm_1]; decide) (r := 8) gr_1_3 lk153 dX10_withChains_36 ?_
        refine lv_iload hx hb dX10_withChains_39 (lv_at hl 2 rfl) ?_
        refine lv_iconst (v := 2) hx hb dX10_withChains_41 (by decide) ?_
        obtain ⟨P_42, HC_42, HW⟩ := HW
        refine g_calli (g_runV (As := [.int x5, .int (2 : Int32)]) (rest := [.int (2 : Int32), .int (3 : Int32), .int x5, .ref (ad 8), .long x3]) ⟨hx, hb, hml, hown, hts⟩ (m_X8_at l D cy ad h_14 g_14 H.size 8 (gs_8) x5 (2 : Int32) P_42 HC_42) (cwV 2 hts (gd_V (wm3 69 rfl rfl) (wm2 221 rfl rfl) (wm2 222 rfl rfl) (wm1 3 rfl rfl) (wm2 223 rfl rfl)) rfl rfl rfl (by decide +kernel) ⟨Nat.le_of_ble_eq_true rfl, Nat.le_of_ble_eq_true rfl⟩) hK hNw hG gl_8 rfl gk_8 (by decide) rfl rfl hl.1 rfl (lv_room (Nat.le_of_ble_eq_true rfl)) dX10_withChains_42 ⟨Nat.zero_le _, Nat.zero_le _⟩) hG (fun r_42 h_42 g_42 H locs hq hG => ?_)
        replace HW := HW r_42 h_42 g_42 hq
        refine lv_imul hx hb dX10_withChains_45 ?_
        refine lv_iadd hx hb dX10_withChains_46 ?_
        obtain ⟨P_47, HC_47, HW⟩ := HW
        refine g_calll (g_runS (As := [.long x3, .ref (ad 8), .int x5, .int ((3 : Int32) + ((2 : Int32) * r_42))]) (rest := []) ⟨hx, hb, hml, hown, hts⟩ (m_X10_withRow l D cy ad h_42 g_42 H.size x3 8 (gs_8) x5 ((3 : Int32) + ((2 : Int32) * r_42)) P_47 HC_47) (va_cwS 4 hts (gd_S (wm5 9 rfl rfl) (wm5 10 rfl rfl) (wm1 1 rfl rfl) (wm5 11 rfl rfl)) rfl rfl rfl (by decide +kernel) ⟨Nat.le_of_ble_eq_true rfl, Nat.le_of_ble_eq_true rfl⟩) hK hNw hG rfl rfl hl.1 rfl (lv_room (Nat.le_of_ble_eq_true rfl)) dX10_withChains_47 ⟨Nat.zero_le _, Nat.zero_le _⟩) hG (fun r_47 h_47 g_47 H locs hq hG => ?_)
        replace HW := HW r_47 h_47 g_47 hq
        refine lv_lstore_n (lv' := [(3, .long r_47), (0, .ref (ad 0)), (5, .int x5)]) hx hb dX10_withChains_50 rfl hl (by decide) rfl (fun ls hl => ?_)
        obtain ⟨x5_51, ex5_51⟩ : ∃ y : Int32, y = (x5 + 1) := ⟨_, rfl⟩
        replace HW := HW x5_51 ex5_51
        refine lv_iinc (v := x5_51) (lv' := [(5, .int x5_51), (3, .long r_47), (0, .ref (ad 0))]) hx hb dX10_withChains_51 hl (k := 2) rfl (by rw [ex5_51]; rfl) (by decide) rfl (fun ls hl => ?_)
        refine lv_goto (tgt := 5) hx hb dX10_withChains_54 (by decide) ?_
        exact hK5 r_47 x5_51 h_47 g_47 _ _ _ HW hG (lv_sub hl [2, 1, 0] rfl)
  have E0 : ∀ (H : Heap) (locs : List Loc) (ls : Array Slot), gG D cy ad (gA ad s.heap.size) s.heap h g H locs → lv_has ls 6 [(0, .ref (ad 0)), (1, .long x1)] → W p l e ({ frames := 2, cells := 0, slots := 0, locals := 50 } : Room) s m args below meth c H locs 0 0 (MQ below (va_Ql (fun (r : Int64) (u : HI × HL) => Q r u.1 u.2) (gB D cy ad s.heap.size) (gA ad s.heap.size)) args s 0 0 (gA ad s.heap.size)) (F0 m 0 ls []) := by
    intro H locs ls hG hl
    unfold w_X10_withChains at HW
    refine lv_lload_n hx hb dX10_withChains_0 rfl (lv_at hl 1 rfl) ?_
    refine lv_lstore_n (lv' := [(3, .long x1), (0, .ref (ad 0)), (1, .long x1)]) hx hb dX10_withChains_1 rfl hl (by decide) rfl (fun ls hl => ?_)
    refine lv_iconst (v := 0) hx hb dX10_withChains_2 (by decide) ?_
    refine lv_istore (lv' := [(5, .int (0 : Int32)), (3, .long x1), (0, .ref (ad 0)), (1, .long x1)]) hx hb dX10_withChains_3 hl (by decide) rfl (fun ls hl => ?_)
    obtain ⟨n_5, HW⟩ := HW
    exact L5 n_5 x1 (0 : Int32) h g _ _ _ HW hG (lv_sub hl [2, 1, 0] rfl)
  exact E0 _ _ _ hG hl

def b_X10_digest_6 (Q : Int64 → HI → HL → Prop) (K6 : Int64 → Int32 → HI → HL → Prop) (x1 : Int64) (x3 : Int32) (h : HI) (g : HL) : Prop :=
  (((10 : Int32) ≤ x3 → (∃ P_33 : Int64 → HI → HL → Prop, w_X10_withParts x1 h g P_33 ∧ ∀ (r_33 : Int64) (h_33 : HI) (g_33 : HL), P_33 r_33 h_33 g_33 → (∃ P_46 : Int64 → HI → HL → Prop, w_X10_withTable r_33 4 (3 : Int32) h_33 g_33 P_46 ∧ ∀ (r_46 : Int64) (h_46 : HI) (g_46 : HL), P_46 r_46 h_46 g_46 → (∃ P_60 : Int64 → HI → HL → Prop, w_X10_withTable r_46 6 (6 : Int32) h_46 g_46 P_60 ∧ ∀ (r_60 : Int64) (h_60 : HI) (g_60 : HL), P_60 r_60 h_60 g_60 → (∃ P_66 : Int64 → HI → HL → Prop, w_X10_withChains r_60 h_60 g_60 P_66 ∧ ∀ (r_66 : Int64) (h_66 : HI) (g_66 : HL), P_66 r_66 h_66 g_66 → (∃ P_79 : Int64 → HI → HL → Prop, w_X10_withTable r_66 10 (4 : Int32) h_66 g_66 P_79 ∧ ∀ (r_79 : Int64) (h_79 : HI) (g_79 : HL), P_79 r_79 h_79 g_79 → (∃ P_92 : Int64 → HI → HL → Prop, w_X10_withTable r_79 12 (1 : Int32) h_79 g_79 P_92 ∧ ∀ (r_92 : Int64) (h_92 : HI) (g_92 : HL), P_92 r_92 h_92 g_92 → (∃ P_105 : Int64 → HI → HL → Prop, w_X10_withTable r_92 14 (3 : Int32) h_92 g_92 P_105 ∧ ∀ (r_105 : Int64) (h_105 : HI) (g_105 : HL), P_105 r_105 h_105 g_105 → (∃ P_118 : Int64 → HI → HL → Prop, w_X10_withTable r_105 16 (2 : Int32) h_105 g_105 P_118 ∧ ∀ (r_118 : Int64) (h_118 : HI) (g_118 : HL), P_118 r_118 h_118 g_118 → (∃ P_131 : Int64 → HI → HL → Prop, w_X10_withTable r_118 18 (2 : Int32) h_118 g_118 P_131 ∧ ∀ (r_131 : Int64) (h_131 : HI) (g_131 : HL), P_131 r_131 h_131 g_131 → (∃ P_144 : Int64 → HI → HL → Prop, w_X10_withTable r_131 20 (2 : Int32) h_131 g_131 P_144 ∧ ∀ (r_144 : Int64) (h_144 : HI) (g_144 : HL), P_144 r_144 h_144 g_144 → (∃ P_157 : Int64 → HI → HL → Prop, w_X10_withTable r_144 22 (1 : Int32) h_144 g_144 P_157 ∧ ∀ (r_157 : Int64) (h_157 : HI) (g_157 : HL), P_157 r_157 h_157 g_157 → (∃ P_170 : Int64 → HI → HL → Prop, w_X10_withTable r_157 24 (1 : Int32) h_157 g_157 P_170 ∧ ∀ (r_170 : Int64) (h_170 : HI) (g_170 : HL), P_170 r_170 h_170 g_170 → Q r_170 h_170 g_170))))))))))))) ∧ (¬ (10 : Int32) ≤ x3 → (∃ P_19 : Int32 → HI → HL → Prop, w_X10_count x3 h g P_19 ∧ ∀ (r_19 : Int32) (h_19 : HI) (g_19 : HL), P_19 r_19 h_19 g_19 → (∀ x1_24 : Int64, x1_24 = (((31 : Int64) * x1) + ((r_19).toInt64)) → (∀ x3_25 : Int32, x3_25 = (x3 + 1) → K6 x1_24 x3_25 h_19 g_19)))))
def F_X10_digest_6 (Q : Int64 → HI → HL → Prop) (K : Int64 × Int32 × HI × HL → Prop) (q : Int64 × Int32 × HI × HL) : Prop := b_X10_digest_6 Q (fun x1 x3 h g => K (x1, x3, h, g)) q.1 q.2.1 q.2.2.1 q.2.2.2
def w_X10_digest  (h : HI) (g : HL) (Q : Int64 → HI → HL → Prop) : Prop :=
  lpE (F_X10_digest_6 Q) ((383 : Int64), (0 : Int32), h, g)
set_option maxHeartbeats 8000000 in
set_option maxRecDepth 100000 in
theorem m_X10_digest (l : Launch) (D : va_G) (cy : Nat → ClassId) (ad : Nat → Nat) (h : HI) (g : HL) (sz : Nat)  (Q : Int64 → HI → HL → Prop) (HW : w_X10_digest h g Q) : Met l yX10_digest (wa yX10_digest cX10_digest 4 (some .long)) ({ frames := 6, cells := 0, slots := 0, locals := 150 }) (va_Pc [.ref (ad 0)] (gI D cy ad h g sz)) (va_Ql (fun (r : Int64) (u : HI × HL) => Q r u.1 u.2) (gB D cy ad sz) (gA ad sz)) 0 0 (gA ad sz) := by
  refine Met.ofW (cc := cX10_digest) (maxL := 4) (ret := (some .long)) (by decide) rfl ?_
  intro p e s m args below meth c s₁ B hml hv
  obtain ⟨hav, hsz, hP, hK, hD0, hNw⟩ := hv
  have hx := B.exec
  have hb := B.bytes
  have hr := B.returns
  have hts := atoms_spec (ws := (wa yX10_digest cX10_digest 4 (some .long))) B.pre
  have hw := wa_hw hts
  have hown : s.vm.findClass RX10 = some m.cls := findClass_of_methodNamed B.named
  have hlocks := B.notSynchronized
  subst hsz
  have hG : gG D cy ad (gA ad s.heap.size) s.heap h g s.heap [] := ⟨hP, gA_self hD0, va_S.rf⟩
  clear hP hD0
  have cn261 := hw (.constantLong RX10 261 (383)) (wm5 2 rfl rfl)
  have lk10 := hw (.fieldLink RX10 10 "OldWorks" "shop" "LOldWorks$Shop;") (wm2 155 rfl rfl)
  have lk95 := hw (.fieldLink RX10 95 "OldWorks$Shop" "families" "LOldWorks$Table;") (wm1 66 rfl rfl)
  have lk129 := hw (.fieldLink RX10 129 "OldWorks$Shop" "sayings" "LOldWorks$Table;") (wm1 70 rfl rfl)
  have lk182 := hw (.fieldLink RX10 182 "OldWorks$Shop" "works" "LOldWorks$Table;") (wm1 76 rfl rfl)
  have lk196 := hw (.fieldLink RX10 196 "OldWorks$Shop" "machines" "LOldWorks$Table;") (wm1 79 rfl rfl)
  have lk199 := hw (.fieldLink RX10 199 "OldWorks$Shop" "spares" "LOldWorks$Table;") (wm1 82 rfl rfl)
  have lk210 := hw (.fieldLink RX10 210 "OldWorks$Shop" "odds" "LOldWorks$Table;") (wm1 85 rfl rfl)
  have lk229 := hw (.fieldLink RX10 229 "OldWorks$Shop" "loads" "LOldWorks$Table;") (wm1 88 rfl rfl)
  have lk238 := hw (.fieldLink RX10 238 "OldWorks$Shop" "hands" "LOldWorks$Table;") (wm1 91 rfl rfl)
  have lk241 := hw (.fieldLink RX10 241 "OldWorks$Shop" "runs" "LOldWorks$Table;") (wm1 94 rfl rfl)
  have lk109 := hw (.fieldLink RX10 109 "OldWorks$Shop" "signs" "LOldWorks$Table;") (wm1 97 rfl rfl)
  have cn263 := hw (.constantLong RX10 263 (31)) (wm5 3 rfl rfl)
  rw [show (headSpec (wa yX10_digest cX10_digest 4 (some .long)) ({ frames := 6, cells := 0, slots := 0, locals := 150 } : Room)).room = ({ frames := 6, cells := 0, slots := 0, locals := 150 } : Room) from rfl]
  have hl := lv_entry ([.ref (ad 0)]) (n := 4) (Nat.le_of_ble_eq_true rfl)
  rw [show entryFrame m args 4 = entryFrame m ([.ref (ad 0)] : List Value).toArray 4 from by rw [hav], lg_entry_eq]
  generalize (lg_sl ([.ref (ad 0)]) ++ List.replicate (4 - (lg_sl ([.ref (ad 0)])).length) Slot.unset).toArray = ls at hl ⊢
  have hl : lv_has ls 4 [(0, .ref (ad 0))] := hl
  have L6 : ∀ (n : Nat) (x1 : Int64) (x3 : Int32) (h : HI) (g : HL) (H : Heap) (locs : List Loc) (ls : Array Slot), lpN (F_X10_digest_6 Q) n (x1, x3, h, g) → gG D cy ad (gA ad s.heap.size) s.heap h g H locs → lv_has ls 4 [(0, .ref (ad 0)), (1, .long x1), (3, .int x3)] → W p l e ({ frames := 6, cells := 0, slots := 0, locals := 150 } : Room) s m args below meth c H locs 0 0 (MQ below (va_Ql (fun (r : Int64) (u : HI × HL) => Q r u.1 u.2) (gB D cy ad s.heap.size) (gA ad s.heap.size)) args s 0 0 (gA ad s.heap.size)) (F0 m 6 ls []) := by
    intro n
    induction n with
    | zero => intro x1 x3 h g H locs ls HW; exact HW.elim
    | succ n ih =>
      intro x1 x3 h g H locs ls HW hG hl
      have HW : b_X10_digest_6 Q (fun x1 x3 h g => lpN (F_X10_digest_6 Q) n (x1, x3, h, g)) x1 x3 h g := HW
      generalize hKe : (fun (x1 : Int64) (x3 : Int32) (h : HI) (g : HL) => lpN (F_X10_digest_6 Q) n (x1, x3, h, g)) = K6 at HW
      have hK6 : ∀ (x1 : Int64) (x3 : Int32) (h : HI) (g : HL) (H : Heap) (locs : List Loc) (ls : Array Slot), K6 x1 x3 h g → gG D cy ad (gA ad s.heap.size) s.heap h g H locs → lv_has ls 4 [(0, .ref (ad 0)), (1, .long x1), (3, .int x3)] → W p l e ({ frames := 6, cells := 0, slots := 0, locals := 150 } : Room) s m args below meth c H locs 0 0 (MQ below (va_Ql (fun (r : Int64) (u : HI × HL) => Q r u.1 u.2) (gB D cy ad s.heap.size) (gA ad s.heap.size)) args s 0 0 (gA ad s.heap.size)) (F0 m 6 ls []) := by subst hKe; exact ih
      clear ih
      clear hKe
      unfold b_X10_digest_6 at HW
      refine lv_iload_n hx hb dX10_digest_6 rfl (lv_at hl 2 rfl) ?_
      refine lv_bipush (v := 10) hx hb dX10_digest_7 (by decide) ?_
      refine lv_icmp_ge (tgt := 31) hx hb dX10_digest_9 (by decide) (fun c_9 => ?_) (fun c_9 => ?_)
      · replace HW := HW.1 c_9
        refine lv_aload_n hx hb dX10_digest_31 rfl (lv_at hl 0 rfl) ?_
        refine lv_lload_n hx hb dX10_digest_32 rfl (lv_at hl 1 rfl) ?_
        obtain ⟨P_33, HC_33, HW⟩ := HW
        refine g_calll (g_runV (As := [.long x1]) (rest := []) ⟨hx, hb, hml, hown, hts⟩ (m_X10_withParts l D cy ad h g H.size x1 P_33 HC_33) (cwV 1 hts (gd_V (wm5 5 rfl rfl) (wm5 7 rfl rfl) (wmp3 (q := (yX10_withParts, 11)) 5 rfl) (wm1 1 rfl rfl) (wm5 8 rfl rfl)) rfl rfl rfl (by decide +kernel) ⟨Nat.le_of_ble_eq_true rfl, Nat.le_of_ble_eq_true rfl⟩) hK hNw hG gl_0 rfl gk_0 (by decide) rfl rfl hl.1 rfl (lv_room (Nat.le_of_ble_eq_true rfl)) dX10_digest_33 ⟨Nat.zero_le _, Nat.zero_le _⟩) hG (fun r_33 h_33 g_33 H locs hq hG => ?_)
        replace HW := HW r_33 h_33 g_33 hq
        refine lv_lstore_n (lv' := [(1, .long r_33), (0, .ref (ad 0)), (3, .int x3)]) hx hb dX10_digest_36 rfl hl (by decide) rfl (fun ls hl => ?_)
        refine lv_lload_n hx hb dX10_digest_37 rfl (lv_at hl 0 rfl) ?_
        refine lv_aload_n hx hb dX10_digest_38 rfl (lv_at hl 1 rfl) ?_
        refine g_getr hx hb hw inG10 hown hK hG gl_0 rfl gk_0 (by decide) 0 (by decide) (by rw [gm_0]; decide) (r := 1) gr_0_0 lk10 dX10_digest_39 ?_
        refine g_getr hx hb hw inG6 hown hK hG gl_1 rfl gk_1 (by decide) 1 (by decide) (by rw [gm_1]; decide) (r := 4) gr_1_1 lk95 dX10_digest_42 ?_
        refine lv_iconst (v := 3) hx hb dX10_digest_45 (by decide) ?_
        obtain ⟨P_46, HC_46, HW⟩ := HW
        refine g_calll (g_runS (As := [.long r_33, .ref (ad 4), .int (3 : Int32)]) (rest := []) ⟨hx, hb, hml, hown, hts⟩ (m_X10_withTable l D cy ad h_33 g_33 H.size r_33 4 (gs_4) (3 : Int32) P_46 HC_46) (va_cwS 3 hts (gd_S (wm5 12 rfl rfl) (wm5 13 rfl rfl) (wm1 1 rfl rfl) (wm5 14 rfl rfl)) rfl rfl rfl (by decide +kernel) ⟨Nat.le_of_ble_eq_true rfl, Nat.le_of_ble_eq_true rfl⟩) hK hNw hG rfl rfl hl.1 rfl (lv_room (Nat.le_of_ble_eq_true rfl)) dX10_digest_46 ⟨Nat.zero_le _, Nat.zero_le _⟩) hG (fun r_46 h_46 g_46 H locs hq hG => ?_)
        replace HW := HW r_46 h_46 g_46 hq
        refine lv_lstore_n (lv' := [(1, .long r_46), (0, .ref (ad 0)), (3, .int x3)]) hx hb dX10_digest_49 rfl hl (by decide) rfl (fun ls hl => ?_)
        refine lv_lload_n hx hb dX10_digest_50 rfl (lv_at hl 0 rfl) ?_
        refine lv_aload_n hx hb dX10_digest_51 rfl (lv_at hl 1 rfl) ?_
        refine g_getr hx hb hw inG10 hown hK hG gl_0 rfl gk_0 (by decide) 0 (by decide) (by rw [gm_0]; decide) (r := 1) gr_0_0 lk10 dX10_digest_52 ?_
        refine g_getr hx hb hw inG6 hown hK hG gl_1 rfl gk_1 (by decide) 2 (by decide) (by rw [gm_1]; decide) (r := 6) gr_1_2 lk129 dX10_digest_55 ?_
        refine lv_bipush (v := 6) hx hb dX10_digest_58 (by decide) ?_
        obtain ⟨P_60, HC_60, HW⟩ := HW
        refine g_calll (g_runS (As := [.long r_46, .ref (ad 6), .int (6 : Int32)]) (rest := []) ⟨hx, hb, hml, hown, hts⟩ (m_X10_withTable l D cy ad h_46 g_46 H.size r_46 6 (gs_6) (6 : Int32) P_60 HC_60) (va_cwS 3 hts (gd_S (wm5 12 rfl rfl) (wm5 13 rfl rfl) (wm1 1 rfl rfl) (wm5 14 rfl rfl)) rfl rfl rfl (by decide +kernel) ⟨Nat.le_of_ble_eq_true rfl, Nat.le_of_ble_eq_true rfl⟩) hK hNw hG rfl rfl hl.1 rfl (lv_room (Nat.le_of_ble_eq_true rfl)) dX10_digest_60 ⟨Nat.zero_le _, Nat.zero_le _⟩) hG (fun r_60 h_60 g_60 H locs hq hG => ?_)
        replace HW := HW r_60 h_60 g_60 hq
        refine lv_lstore_n (lv' := [(1, .long r_60), (0, .ref (ad 0)), (3, .int x3)]) hx hb dX10_digest_63 rfl hl (by decide) rfl (fun ls hl => ?_)
        refine lv_aload_n hx hb dX10_digest_64 rfl (lv_at hl 1 rfl) ?_
        refine lv_lload_n hx hb dX10_digest_65 rfl (lv_at hl 0 rfl) ?_
        obtain ⟨P_66, HC_66, HW⟩ := HW
        refine g_calll (g_runV (As := [.long r_60]) (rest := []) ⟨hx, hb, hml, hown, hts⟩ (m_X10_withChains l D cy ad h_60 g_60 H.size r_60 P_66 HC_66) (cwV 1 hts (gd_V (wm5 15 rfl rfl) (wm5 17 rfl rfl) (wmp3 (q := (yX10_withChains, 11)) 6 rfl) (wm1 1 rfl rfl) (wm5 18 rfl rfl)) rfl rfl rfl (by decide +kernel) ⟨Nat.le_of_ble_eq_true rfl, Nat.le_of_ble_eq_true rfl⟩) hK hNw hG gl_0 rfl gk_0 (by decide) rfl rfl hl.1 rfl (lv_room (Nat.le_of_ble_eq_true rfl)) dX10_digest_66 ⟨Nat.zero_le _, Nat.zero_le _⟩) hG (fun r_66 h_66 g_66 H locs hq hG => ?_)
        replace HW := HW r_66 h_66 g_66 hq
        refine lv_lstore_n (lv' := [(1, .long r_66), (0, .ref (ad 0)), (3, .int x3)]) hx hb dX10_digest_69 rfl hl (by decide) rfl (fun ls hl => ?_)
        refine lv_lload_n hx hb dX10_digest_70 rfl (lv_at hl 0 rfl) ?_
        refine lv_aload_n hx hb dX10_digest_71 rfl (lv_at hl 1 rfl) ?_
        refine g_getr hx hb hw inG10 hown hK hG gl_0 rfl gk_0 (by decide) 0 (by decide) (by rw [gm_0]; decide) (r := 1) gr_0_0 lk10 dX10_digest_72 ?_
        refine g_getr hx hb hw inG6 hown hK hG gl_1 rfl gk_1 (by decide) 4 (by decide) (by rw [gm_1]; decide) (r := 10) gr_1_4 lk182 dX10_digest_75 ?_
        refine lv_iconst (v := 4) hx hb dX10_digest_78 (by decide) ?_
        obtain ⟨P_79, HC_79, HW⟩ := HW
        refine g_calll (g_runS (As := [.long r_66, .ref (ad 10), .int (4 : Int32)]) (rest := []) ⟨hx, hb, hml, hown, hts⟩ (m_X10_withTable l D cy ad h_66 g_66 H.size r_66 10 (gs_10) (4 : Int32) P_79 HC_79) (va_cwS 3 hts (gd_S (wm5 12 rfl rfl) (wm5 13 rfl rfl) (wm1 1 rfl rfl) (wm5 14 rfl rfl)) rfl rfl rfl (by decide +kernel) ⟨Nat.le_of_ble_eq_true rfl, Nat.le_of_ble_eq_true rfl⟩) hK hNw hG rfl rfl hl.1 rfl (lv_room (Nat.le_of_ble_eq_true rfl)) dX10_digest_79 ⟨Nat.zero_le _, Nat.zero_le _⟩) hG (fun r_79 h_79 g_79 H locs hq hG => ?_)
        replace HW := HW r_79 h_79 g_79 hq
        refine lv_lstore_n (lv' := [(1, .long r_79), (0, .ref (ad 0)), (3, .int x3)]) hx hb dX10_digest_82 rfl hl (by decide) rfl (fun ls hl => ?_)
        refine lv_lload_n hx hb dX10_digest_83 rfl (lv_at hl 0 rfl) ?_
        refine lv_aload_n hx hb dX10_digest_84 rfl (lv_at hl 1 rfl) ?_
        refine g_getr hx hb hw inG10 hown hK hG gl_0 rfl gk_0 (by decide) 0 (by decide) (by rw [gm_0]; decide) (r := 1) gr_0_0 lk10 dX10_digest_85 ?_
        refine g_getr hx hb hw inG6 hown hK hG gl_1 rfl gk_1 (by decide) 5 (by decide) (by rw [gm_1]; decide) (r := 12) gr_1_5 lk196 dX10_digest_88 ?_
        refine lv_iconst (v := 1) hx hb dX10_digest_91 (by decide) ?_
        obtain ⟨P_92, HC_92, HW⟩ := HW
        refine g_calll (g_runS (As := [.long r_79, .ref (ad 12), .int (1 : Int32)]) (rest := []) ⟨hx, hb, hml, hown, hts⟩ (m_X10_withTable l D cy ad h_79 g_79 H.size r_79 12 (gs_12) (1 : Int32) P_92 HC_92) (va_cwS 3 hts (gd_S (wm5 12 rfl rfl) (wm5 13 rfl rfl) (wm1 1 rfl rfl) (wm5 14 rfl rfl)) rfl rfl rfl (by decide +kernel) ⟨Nat.le_of_ble_eq_true rfl, Nat.le_of_ble_eq_true rfl⟩) hK hNw hG rfl rfl hl.1 rfl (lv_room (Nat.le_of_ble_eq_true rfl)) dX10_digest_92 ⟨Nat.zero_le _, Nat.zero_le _⟩) hG (fun r_92 h_92 g_92 H locs hq hG => ?_)
        replace HW := HW r_92 h_92 g_92 hq
        refine lv_lstore_n (lv' := [(1, .long r_92), (0, .ref (ad 0)), (3, .int x3)]) hx hb dX10_digest_95 rfl hl (by decide) rfl (fun ls hl => ?_)
        refine lv_lload_n hx hb dX10_digest_96 rfl (lv_at hl 0 rfl) ?_
        refine lv_aload_n hx hb dX10_digest_97 rfl (lv_at hl 1 rfl) ?_
        refine g_getr hx hb hw inG10 hown hK hG gl_0 rfl gk_0 (by decide) 0 (by decide) (by rw [gm_0]; decide) (r := 1) gr_0_0 lk10 dX10_digest_98 ?_
        refine g_getr hx hb hw inG6 hown hK hG gl_1 rfl gk_1 (by decide) 6 (by decide) (by rw [gm_1]; decide) (r := 14) gr_1_6 lk199 dX10_digest_101 ?_
        refine lv_iconst (v := 3) hx hb dX10_digest_104 (by decide) ?_
        obtain ⟨P_105, HC_105, HW⟩ := HW
        refine g_calll (g_runS (As := [.long r_92, .ref (ad 14), .int (3 : Int32)]) (rest := []) ⟨hx, hb, hml, hown, hts⟩ (m_X10_withTable l D cy ad h_92 g_92 H.size r_92 14 (gs_14) (3 : Int32) P_105 HC_105) (va_cwS 3 hts (gd_S (wm5 12 rfl rfl) (wm5 13 rfl rfl) (wm1 1 rfl rfl) (wm5 14 rfl rfl)) rfl rfl rfl (by decide +kernel) ⟨Nat.le_of_ble_eq_true rfl, Nat.le_of_ble_eq_true rfl⟩) hK hNw hG rfl rfl hl.1 rfl (lv_room (Nat.le_of_ble_eq_true rfl)) dX10_digest_105 ⟨Nat.zero_le _, Nat.zero_le _⟩) hG (fun r_105 h_105 g_105 H locs hq hG => ?_)
        replace HW := HW r_105 h_105 g_105 hq
        refine lv_lstore_n (lv' := [(1, .long r_105), (0, .ref (ad 0)), (3, .int x3)]) hx hb dX10_digest_108 rfl hl (by decide) rfl (fun ls hl => ?_)
        refine lv_lload_n hx hb dX10_digest_109 rfl (lv_at hl 0 rfl) ?_
        refine lv_aload_n hx hb dX10_digest_110 rfl (lv_at hl 1 rfl) ?_
        refine g_getr hx hb hw inG10 hown hK hG gl_0 rfl gk_0 (by decide) 0 (by decide) (by rw [gm_0]; decide) (r := 1) gr_0_0 lk10 dX10_digest_111 ?_
        refine g_getr hx hb hw inG6 hown hK hG gl_1 rfl gk_1 (by decide) 7 (by decide) (by rw [gm_1]; decide) (r := 16) gr_1_7 lk210 dX10_digest_114 ?_
        refine lv_iconst (v := 2) hx hb dX10_digest_117 (by decide) ?_
        obtain ⟨P_118, HC_118, HW⟩ := HW
        refine g_calll (g_runS (As := [.long r_105, .ref (ad 16), .int (2 : Int32)]) (rest := []) ⟨hx, hb, hml, hown, hts⟩ (m_X10_withTable l D cy ad h_105 g_105 H.size r_105 16 (gs_16) (2 : Int32) P_118 HC_118) (va_cwS 3 hts (gd_S (wm5 12 rfl rfl) (wm5 13 rfl rfl) (wm1 1 rfl rfl) (wm5 14 rfl rfl)) rfl rfl rfl (by decide +kernel) ⟨Nat.le_of_ble_eq_true rfl, Nat.le_of_ble_eq_true rfl⟩) hK hNw hG rfl rfl hl.1 rfl (lv_room (Nat.le_of_ble_eq_true rfl)) dX10_digest_118 ⟨Nat.zero_le _, Nat.zero_le _⟩) hG (fun r_118 h_118 g_118 H locs hq hG => ?_)
        replace HW := HW r_118 h_118 g_118 hq
        refine lv_lstore_n (lv' := [(1, .long r_118), (0, .ref (ad 0)), (3, .int x3)]) hx hb dX10_digest_121 rfl hl (by decide) rfl (fun ls hl => ?_)
        refine lv_lload_n hx hb dX10_digest_122 rfl (lv_at hl 0 rfl) ?_
        refine lv_aload_n hx hb dX10_digest_123 rfl (lv_at hl 1 rfl) ?_
        refine g_getr hx hb hw inG10 hown hK hG gl_0 rfl gk_0 (by decide) 0 (by decide) (by rw [gm_0]; decide) (r := 1) gr_0_0 lk10 dX10_digest_124 ?_
        refine g_getr hx hb hw inG6 hown hK hG gl_1 rfl gk_1 (by decide) 8 (by decide) (by rw [gm_1]; decide) (r := 18) gr_1_8 lk229 dX10_digest_127 ?_
        refine lv_iconst (v := 2) hx hb dX10_digest_130 (by decide) ?_
        obtain ⟨P_131, HC_131, HW⟩ := HW
        refine g_calll (g_runS (As := [.long r_118, .ref (ad 18), .int (2 : Int32)]) (rest := []) ⟨hx, hb, hml, hown, hts⟩ (m_X10_withTable l D cy ad h_118 g_118 H.size r_118 18 (gs_18) (2 : Int32) P_131 HC_131) (va_cwS 3 hts (gd_S (wm5 12 rfl rfl) (wm5 13 rfl rfl) (wm1 1 rfl rfl) (wm5 14 rfl rfl)) rfl rfl rfl (by decide +kernel) ⟨Nat.le_of_ble_eq_true rfl, Nat.le_of_ble_eq_true rfl⟩) hK hNw hG rfl rfl hl.1 rfl (lv_room (Nat.le_of_ble_eq_true rfl)) dX10_digest_131 ⟨Nat.zero_le _, Nat.zero_le _⟩) hG (fun r_131 h_131 g_131 H locs hq hG => ?_)
        replace HW := HW r_131 h_131 g_131 hq
        refine lv_lstore_n (lv' := [(1, .long r_131), (0, .ref (ad 0)), (3, .int x3)]) hx hb dX10_digest_134 rfl hl (by decide) rfl (fun ls hl => ?_)
        refine lv_lload_n hx hb dX10_digest_135 rfl (lv_at hl 0 rfl) ?_
        refine lv_aload_n hx hb dX10_digest_136 rfl (lv_at hl 1 rfl) ?_
        refine g_getr hx hb hw inG10 hown hK hG gl_0 rfl gk_0 (by decide) 0 (by decide) (by rw [gm_0]; decide) (r := 1) gr_0_0 lk10 dX10_digest_137 ?_
        refine g_getr hx hb hw inG6 hown hK hG gl_1 rfl gk_1 (by decide) 9 (by decide) (by rw [gm_1]; decide) (r := 20) gr_1_9 lk238 dX10_digest_140 ?_
        refine lv_iconst (v := 2) hx hb dX10_digest_143 (by decide) ?_
        obtain ⟨P_144, HC_144, HW⟩ := HW
        refine g_calll (g_runS (As := [.long r_131, .ref (ad 20), .int (2 : Int32)]) (rest := []) ⟨hx, hb, hml, hown, hts⟩ (m_X10_withTable l D cy ad h_131 g_131 H.size r_131 20 (gs_20) (2 : Int32) P_144 HC_144) (va_cwS 3 hts (gd_S (wm5 12 rfl rfl) (wm5 13 rfl rfl) (wm1 1 rfl rfl) (wm5 14 rfl rfl)) rfl rfl rfl (by decide +kernel) ⟨Nat.le_of_ble_eq_true rfl, Nat.le_of_ble_eq_true rfl⟩) hK hNw hG rfl rfl hl.1 rfl (lv_room (Nat.le_of_ble_eq_true rfl)) dX10_digest_144 ⟨Nat.zero_le _, Nat.zero_le _⟩) hG (fun r_144 h_144 g_144 H locs hq hG => ?_)
        replace HW := HW r_144 h_144 g_144 hq
        refine lv_lstore_n (lv' := [(1, .long r_144), (0, .ref (ad 0)), (3, .int x3)]) hx hb dX10_digest_147 rfl hl (by decide) rfl (fun ls hl => ?_)
        refine lv_lload_n hx hb dX10_digest_148 rfl (lv_at hl 0 rfl) ?_
        refine lv_aload_n hx hb dX10_digest_149 rfl (lv_at hl 1 rfl) ?_
        refine g_getr hx hb hw inG10 hown hK hG gl_0 rfl gk_0 (by decide) 0 (by decide) (by rw [gm_0]; decide) (r := 1) gr_0_0 lk10 dX10_digest_150 ?_
        refine g_getr hx hb hw inG6 hown hK hG gl_1 rfl gk_1 (by decide) 10 (by decide) (by rw [gm_1]; decide) (r := 22) gr_1_10 lk241 dX10_digest_153 ?_
        refine lv_iconst (v := 1) hx hb dX10_digest_156 (by decide) ?_
        obtain ⟨P_157, HC_157, HW⟩ := HW
        refine g_calll (g_runS (As := [.long r_144, .ref (ad 22), .int (1 : Int32)]) (rest := []) ⟨hx, hb, hml, hown, hts⟩ (m_X10_withTable l D cy ad h_144 g_144 H.size r_144 22 (gs_22) (1 : Int32) P_157 HC_157) (va_cwS 3 hts (gd_S (wm5 12 rfl rfl) (wm5 13 rfl rfl) (wm1 1 rfl rfl) (wm5 14 rfl rfl)) rfl rfl rfl (by decide +kernel) ⟨Nat.le_of_ble_eq_true rfl, Nat.le_of_ble_eq_true rfl⟩) hK hNw hG rfl rfl hl.1 rfl (lv_room (Nat.le_of_ble_eq_true rfl)) dX10_digest_157 ⟨Nat.zero_le _, Nat.zero_le _⟩) hG (fun r_157 h_157 g_157 H locs hq hG => ?_)
        replace HW := HW r_157 h_157 g_157 hq
        refine lv_lstore_n (lv' := [(1, .long r_157), (0, .ref (ad 0)), (3, .int x3)]) hx hb dX10_digest_160 rfl hl (by decide) rfl (fun ls hl => ?_)
        refine lv_lload_n hx hb dX10_digest_161 rfl (lv_at hl 0 rfl) ?_
        refine lv_aload_n hx hb dX10_digest_162 rfl (lv_at hl 1 rfl) ?_
        refine g_getr hx hb hw inG10 hown hK hG gl_0 rfl gk_0 (by decide) 0 (by decide) (by rw [gm_0]; decide) (r := 1) gr_0_0 lk10 dX10_digest_163 ?_
        refine g_getr hx hb hw inG6 hown hK hG gl_1 rfl gk_1 (by decide) 11 (by decide) (by rw [gm_1]; decide) (r := 24) gr_1_11 lk109 dX10_digest_166 ?_
        refine lv_iconst (v := 1) hx hb dX10_digest_169 (by decide) ?_
        obtain ⟨P_170, HC_170, HW⟩ := HW
        refine g_calll (g_runS (As := [.long r_157, .ref (ad 24), .int (1 : Int32)]) (rest := []) ⟨hx, hb, hml, hown, hts⟩ (m_X10_withTable l D cy ad h_157 g_157 H.size r_157 24 (gs_24) (1 : Int32) P_170 HC_170) (va_cwS 3 hts (gd_S (wm5 12 rfl rfl) (wm5 13 rfl rfl) (wm1 1 rfl rfl) (wm5 14 rfl rfl)) rfl rfl rfl (by decide +kernel) ⟨Nat.le_of_ble_eq_true rfl, Nat.le_of_ble_eq_true rfl⟩) hK hNw hG rfl rfl hl.1 rfl (lv_room (Nat.le_of_ble_eq_true rfl)) dX10_digest_170 ⟨Nat.zero_le _, Nat.zero_le _⟩) hG (fun r_170 h_170 g_170 H locs hq hG => ?_)
        replace HW := HW r_170 h_170 g_170 hq
        exact W.lret (v := r_170) hx hb hr (fun t ht hW => ⟨⟨r_170, (h_170, g_170), rfl, HW, g_B ht hG⟩, hG.2.2.F ht⟩) hG.2.2.2.2 dX10_digest_173
      · replace HW := HW.2 c_9
        refine lv_ldc2 (v := 31) hx hb hown cn263 dX10_digest_12 ?_
        refine lv_lload_n hx hb dX10_digest_15 rfl (lv_at hl 1 rfl) ?_
        refine lv_lmul hx hb dX10_digest_16 ?_
        refine lv_aload_n hx hb dX10_digest_17 rfl (lv_at hl 0 rfl) ?_
        refine lv_iload_n hx hb dX10_digest_18 rfl (lv_at hl 2 rfl) ?_
        obtain ⟨P_19, HC_19, HW⟩ := HW
        refine g_calli (g_runV (As := [.int x3]) (rest := [.long ((31 : Int64) * x1)]) ⟨hx, hb, hml, hown, hts⟩ (m_X10_count l D cy ad h g H.size x3 P_19 HC_19) (cwV 1 hts (gd_V (wm5 4 rfl rfl) (wm4 230 rfl rfl) (wm4 231 rfl rfl) (wm1 1 rfl rfl) (wm4 232 rfl rfl)) rfl rfl rfl (by decide +kernel) ⟨Nat.le_of_ble_eq_true rfl, Nat.le_of_ble_eq_true rfl⟩) hK hNw hG gl_0 rfl gk_0 (by decide) rfl rfl hl.1 rfl (lv_room (Nat.le_of_ble_eq_true rfl)) dX10_digest_19 ⟨Nat.zero_le _, Nat.zero_le _⟩) hG (fun r_19 h_19 g_19 H locs hq hG => ?_)
        replace HW := HW r_19 h_19 g_19 hq
        refine lv_i2l hx hb dX10_digest_22 rfl ?_
        refine lv_ladd hx hb dX10_digest_23 ?_
        refine lv_topl (fun x1_24 ex1_24 => ?_)
        replace HW := HW x1_24 ex1_24
        refine lv_lstore_n (lv' := [(1, .long x1_24), (0, .ref (ad 0)), (3, .int x3)]) hx hb dX10_digest_24 rfl hl (by decide) rfl (fun ls hl => ?_)
        obtain ⟨x3_25, ex3_25⟩ : ∃ y : Int32, y = (x3 + 1) := ⟨_, rfl⟩
        replace HW := HW x3_25 ex3_25
        refine lv_iinc (v := x3_25) (lv' := [(3, .int x3_25), (1, .long x1_24), (0, .ref (ad 0))]) hx hb dX10_digest_25 hl (k := 2) rfl (by rw [ex3_25]; rfl) (by decide) rfl (fun ls hl => ?_)
        refine lv_goto (tgt := 6) hx hb dX10_digest_28 (by decide) ?_
        exact hK6 x1_24 x3_25 h_19 g_19 _ _ _ HW hG (lv_sub hl [2, 1, 0] rfl)
  have E0 : ∀ (H : Heap) (locs : List Loc) (ls : Array Slot), gG D cy ad (gA ad s.heap.size) s.heap h g H locs → lv_has ls 4 [(0, .ref (ad 0))] → W p l e ({ frames := 6, cells := 0, slots := 0, locals := 150 } : Room) s m args below meth c H locs 0 0 (MQ below (va_Ql (fun (r : Int64) (u : HI × HL) => Q r u.1 u.2) (gB D cy ad s.heap.size) (gA ad s.heap.size)) args s 0 0 (gA ad s.heap.size)) (F0 m 0 ls []) := by
    intro H locs ls hG hl
    unfold w_X10_digest at HW
    refine lv_ldc2 (v := 383) hx hb hown cn261 dX10_digest_0 ?_
    refine lv_lstore_n (lv' := [(1, .long (383 : Int64)), (0, .ref (ad 0))]) hx hb dX10_digest_3 rfl hl (by decide) rfl (fun ls hl => ?_)
    refine lv_iconst (v := 0) hx hb dX10_digest_4 (by decide) ?_
    refine lv_istore_n (lv' := [(3, .int (0 : Int32)), (1, .long (383 : Int64)), (0, .ref (ad 0))]) hx hb dX10_digest_5 rfl hl (by decide) rfl (fun ls hl => ?_)
    obtain ⟨n_6, HW⟩ := HW
    exact L6 n_6 (383 : Int64) (0 : Int32) h g _ _ _ HW hG (lv_sub hl [2, 1, 0] rfl)
  exact E0 _ _ _ hG hl

def w_X11_in (x0 : Int64) (x2 : Int64) (x4 : Int64) (h : HI) (g : HL) (Q : Int32 → HI → HL → Prop) : Prop :=
  (((lg_cmp x0 x2) < 0 → Q (0 : Int32) h g) ∧ (¬ (lg_cmp x0 x2) < 0 → ((0 < (lg_cmp x0 x4) → Q (0 : Int32) h g) ∧ (¬ 0 < (lg_cmp x0 x4) → Q (1 : Int32) h g))))
set_option maxHeartbeats 8000000 in
set_option maxRecDepth 100000 in
theorem m_X11_in (l : Launch) (D : va_G) (cy : Nat → ClassId) (ad : Nat → Nat) (h : HI) (g : HL) (sz : Nat) (x0 : Int64) (x2 : Int64) (x4 : Int64) (Q : Int32 → HI → HL → Prop) (HW : w_X11_in x0 x2 x4 h g Q) : Met l yX11_in (wa yX11_in cX11_in 6 (some .boolean)) ({ frames := 0, cells := 0, slots := 0, locals := 0 }) (va_Pc [.long x0, .long x2, .long x4] (gI D cy ad h g sz)) (va_Qi (fun (r : Int32) (u : HI × HL) => zb r ∧ Q r u.1 u.2) (gB D cy ad sz) (gA ad sz)) 0 0 (gA ad sz) := by
  refine Met.ofW (cc := cX11_in) (maxL := 6) (ret := (some .boolean)) (by decide) rfl ?_
  intro p e s m args below meth c s₁ B hml hv
  obtain ⟨hav, hsz, hP, hK, hD0, hNw⟩ := hv
  have hx := B.exec
  have hb := B.bytes
  have hr := B.returns
  have hts := atoms_spec (ws := (wa yX11_in cX11_in 6 (some .boolean))) B.pre
  have hw := wa_hw hts
  have hown : s.vm.findClass RX11 = some m.cls := findClass_of_methodNamed B.named
  have hlocks := B.notSynchronized
  subst hsz
  have hG : gG D cy ad (gA ad s.heap.size) s.heap h g s.heap [] := ⟨hP, gA_self hD0, va_S.rf⟩
  clear hP hD0
  rw [show (headSpec (wa yX11_in cX11_in 6 (some .boolean)) ({ frames := 0, cells := 0, slots := 0, locals := 0 } : Room)).room = ({ frames := 0, cells := 0, slots := 0, locals := 0 } : Room) from rfl]
  have hl := lv_entry ([.long x0, .long x2, .long x4]) (n := 6) (Nat.le_of_ble_eq_true rfl)
  rw [show entryFrame m args 6 = entryFrame m ([.long x0, .long x2, .long x4] : List Value).toArray 6 from by rw [hav], lg_entry_eq]
  generalize (lg_sl ([.long x0, .long x2, .long x4]) ++ List.replicate (6 - (lg_sl ([.long x0, .long x2, .long x4])).length) Slot.unset).toArray = ls at hl ⊢
  have hl : lv_has ls 6 [(0, .long x0), (2, .long x2), (4, .long x4)] := hl
  have E0 : ∀ (H : Heap) (locs : List Loc) (ls : Array Slot), gG D cy ad (gA ad s.heap.size) s.heap h g H locs → lv_has ls 6 [(0, .long x0), (2, .long x2), (4, .long x4)] → W p l e ({ frames := 0, cells := 0, slots := 0, locals := 0 } : Room) s m args below meth c H locs 0 0 (MQ below (va_Qi (fun (r : Int32) (u : HI × HL) => zb r ∧ Q r u.1 u.2) (gB D cy ad s.heap.size) (gA ad s.heap.size)) args s 0 0 (gA ad s.heap.size)) (F0 m 0 ls []) := by
    intro H locs ls hG hl
    unfold w_X11_in at HW
    refine lv_lload_n hx hb dX11_in_0 rfl (lv_at hl 0 rfl) ?_
    refine lv_lload_n hx hb dX11_in_1 rfl (lv_at hl 1 rfl) ?_
    refine W.lcmp hx hb dX11_in_2 ?_
    refine lv_if_lt (tgt := 17) hx hb dX11_in_3 (by decide) (fun c_3 => ?_) (fun c_3 => ?_)
    · replace HW := HW.1 c_3
      refine lv_iconst (v := 0) hx hb dX11_in_17 (by decide) ?_
      exact W.zret (v := (0 : Int32)) hx hb hr rfl (fun t ht hW => ⟨⟨(0 : Int32), (h, g), rfl, ⟨Or.inl rfl, HW⟩, g_B ht hG⟩, hG.2.2.F ht⟩) hG.2.2.2.2 dX11_in_18
    · replace HW := HW.2 c_3
      refine lv_lload_n hx hb dX11_in_6 rfl (lv_at hl 0 rfl) ?_
      refine lv_lload hx hb dX11_in_7 (lv_at hl 2 rfl) ?_
      refine W.lcmp hx hb dX11_in_9 ?_
      refine lv_if_gt (tgt := 17) hx hb dX11_in_10 (by decide) (fun c_10 => ?_) (fun c_10 => ?_)
      · replace HW := HW.1 c_10
        refine lv_iconst (v := 0) hx hb dX11_in_17 (by decide) ?_
        exact W.zret (v := (0 : Int32)) hx hb hr rfl (fun t ht hW => ⟨⟨(0 : Int32), (h, g), rfl, ⟨Or.inl rfl, HW⟩, g_B ht hG⟩, hG.2.2.F ht⟩) hG.2.2.2.2 dX11_in_18
      · replace HW := HW.2 c_10
        refine lv_iconst (v := 1) hx hb dX11_in_13 (by decide) ?_
        refine lv_goto (tgt := 18) hx hb dX11_in_14 (by decide) ?_
        exact W.zret (v := (1 : Int32)) hx hb hr rfl (fun t ht hW => ⟨⟨(1 : Int32), (h, g), rfl, ⟨Or.inr rfl, HW⟩, g_B ht hG⟩, hG.2.2.F ht⟩) hG.2.2.2.2 dX11_in_18
  exact E0 _ _ _ hG hl

def w_X11_is (x1 : Int32) (x2 : Int32) (h : HI) (g : HL) (Q : Int32 → HI → HL → Prop) : Prop :=
  (vp_in x1 887 ∧ (∃ P_12 : Int32 → HI → HL → Prop, w_X11_in ((x2).toInt64) (0 : Int64) ((((h 136 x1.toNatClampNeg) - (1 : Int32))).toInt64) h g P_12 ∧ ∀ (r_12 : Int32) (h_12 : HI) (g_12 : HL), zb r_12 → P_12 r_12 h_12 g_12 → (zb r_12 ∧ Q r_12 h_12 g_12)))
set_option maxHeartbeats 8000000 in
set_option maxRecDepth 100000 in
theorem m_X11_is (l : Launch) (D : va_G) (cy : Nat → ClassId) (ad : Nat → Nat) (h : HI) (g : HL) (sz : Nat) (x1 : Int32) (x2 : Int32) (Q : Int32 → HI → HL → Prop) (HW : w_X11_is x1 x2 h g Q) : Met l yX11_is (wa yX11_is cX11_is 3 (some .boolean)) ({ frames := 1, cells := 0, slots := 0, locals := 25 }) (va_Pc [.ref (ad 135), .int x1, .int x2] (gI D cy ad h g sz)) (va_Qi (fun (r : Int32) (u : HI × HL) => zb r ∧ Q r u.1 u.2) (gB D cy ad sz) (gA ad sz)) 0 0 (gA ad sz) := by
  refine Met.ofW (cc := cX11_is) (maxL := 3) (ret := (some .boolean)) (by decide) rfl ?_
  intro p e s m args below meth c s₁ B hml hv
  obtain ⟨hav, hsz, hP, hK, hD0, hNw⟩ := hv
  have hx := B.exec
  have hb := B.bytes
  have hr := B.returns
  have hts := atoms_spec (ws := (wa yX11_is cX11_is 3 (some .boolean))) B.pre
  have hw := wa_hw hts
  have hown : s.vm.findClass RX11 = some m.cls := findClass_of_methodNamed B.named
  have hlocks := B.notSynchronized
  subst hsz
  have hG : gG D cy ad (gA ad s.heap.size) s.heap h g s.heap [] := ⟨hP, gA_self hD0, va_S.rf⟩
  clear hP hD0
  have lk7 := hw (.fieldLink RX11 7 "OldWorksModel" "st" "[I") (wm5 27 rfl rfl)
  rw [show (headSpec (wa yX11_is cX11_is 3 (some .boolean)) ({ frames := 1, cells := 0, slots := 0, locals := 25 } : Room)).room = ({ frames := 1, cells := 0, slots := 0, locals := 25 } : Room) from rfl]
  have hl := lv_entry ([.ref (ad 135), .int x1, .int x2]) (n := 3) (Nat.le_of_ble_eq_true rfl)
  rw [show entryFrame m args 3 = entryFrame m ([.ref (ad 135), .int x1, .int x2] : List Value).toArray 3 from by rw [hav], lg_entry_eq]
  generalize (lg_sl ([.ref (ad 135), .int x1, .int x2]) ++ List.replicate (3 - (lg_sl ([.ref (ad 135), .int x1, .int x2])).length) Slot.unset).toArray = ls at hl ⊢
  have hl : lv_has ls 3 [(0, .ref (ad 135)), (1, .int x1), (2, .int x2)] := hl
  have E0 : ∀ (H : Heap) (locs : List Loc) (ls : Array Slot), gG D cy ad (gA ad s.heap.size) s.heap h g H locs → lv_has ls 3 [(0, .ref (ad 135)), (1, .int x1), (2, .int x2)] → W p l e ({ frames := 1, cells := 0, slots := 0, locals := 25 } : Room) s m args below meth c H locs 0 0 (MQ below (va_Qi (fun (r : Int32) (u : HI × HL) => zb r ∧ Q r u.1 u.2) (gB D cy ad s.heap.size) (gA ad s.heap.size)) args s 0 0 (gA ad s.heap.size)) (F0 m 0 ls []) := by
    intro H locs ls hG hl
    unfold w_X11_is at HW
    refine lv_iload_n hx hb dX11_is_0 rfl (lv_at hl 2 rfl) ?_
    refine lv_i2l hx hb dX11_is_1 rfl ?_
    refine lv_lconst (v := 0) hx hb dX11_is_2 (by decide) ?_
    refine lv_aload_n hx hb dX11_is_3 rfl (lv_at hl 0 rfl) ?_
    refine g_getr hx hb hw inG11 hown hK hG gl_135 rfl gk_135 (by decide) 0 (by decide) (by rw [gm_135]; decide) (r := 136) gr_135_0 lk7 dX11_is_4 ?_
    refine lv_iload_n hx hb dX11_is_7 rfl (lv_at hl 1 rfl) ?_
    refine g_iald hx hb hK hG gl_136 gk_136 gn_136 HW.1 dX11_is_8 ?_
    replace HW := HW.2
    refine lv_iconst (v := 1) hx hb dX11_is_9 (by decide) ?_
    refine lv_isub hx hb dX11_is_10 ?_
    refine lv_i2l hx hb dX11_is_11 rfl ?_
    obtain ⟨P_12, HC_12, HW⟩ := HW
    refine g_callz (g_runS (As := [.long ((x2).toInt64), .long (0 : Int64), .long ((((h 136 x1.toNatClampNeg) - (1 : Int32))).toInt64)]) (rest := []) ⟨hx, hb, hml, hown, hts⟩ (m_X11_in l D cy ad h g H.size ((x2).toInt64) (0 : Int64) ((((h 136 x1.toNatClampNeg) - (1 : Int32))).toInt64) P_12 HC_12) (va_cwS 3 hts (gd_S (wm5 111 rfl rfl) (wm5 112 rfl rfl) (wm1 13 rfl rfl) (wm5 113 rfl rfl)) rfl rfl rfl (by decide +kernel) ⟨Nat.le_of_ble_eq_true rfl, Nat.le_of_ble_eq_true rfl⟩) hK hNw hG rfl rfl hl.1 rfl (lv_room (Nat.le_of_ble_eq_true rfl)) dX11_is_12 ⟨Nat.zero_le _, Nat.zero_le _⟩) hG (fun r_12 h_12 g_12 H locs hz hq hG => ?_)
    replace HW := HW r_12 h_12 g_12 hz hq
    exact W.zret (v := r_12) hx hb hr (zb_n HW.1) (fun t ht hW => ⟨⟨r_12, (h_12, g_12), rfl, HW, g_B ht hG⟩, hG.2.2.F ht⟩) hG.2.2.2.2 dX11_is_15
  exact E0 _ _ _ hG hl

def w_X11_one (x1 : Int32) (h : HI) (g : HL) (Q : Int32 → HI → HL → Prop) : Prop :=
  (vp_in x1 887 ∧ (vp_in x1 887 ∧ ∀ h_9 : HI, h_9 = hu h 136 x1.toNatClampNeg ((h 136 x1.toNatClampNeg) + (1 : Int32)) → (vp_in x1 887 ∧ Q ((h_9 136 x1.toNatClampNeg) - (1 : Int32)) h_9 g)))
set_option maxHeartbeats 8000000 in
set_option maxRecDepth 100000 in
theorem m_X11_one (l : Launch) (D : va_G) (cy : Nat → ClassId) (ad : Nat → Nat) (h : HI) (g : HL) (sz : Nat) (x1 : Int32) (Q : Int32 → HI → HL → Prop) (HW : w_X11_one x1 h g Q) : Met l yX11_one (wa yX11_one cX11_one 2 (some .int)) ({ frames := 0, cells := 0, slots := 0, locals := 0 }) (va_Pc [.ref (ad 135), .int x1] (gI D cy ad h g sz)) (va_Qi (fun (r : Int32) (u : HI × HL) => Q r u.1 u.2) (gB D cy ad sz) (gA ad sz)) 0 0 (gA ad sz) := by
  refine Met.ofW (cc := cX11_one) (maxL := 2) (ret := (some .int)) (by decide) rfl ?_
  intro p e s m args below meth c s₁ B hml hv
  obtain ⟨hav, hsz, hP, hK, hD0, hNw⟩ := hv
  have hx := B.exec
  have hb := B.bytes
  have hr := B.returns
  have hts := atoms_spec (ws := (wa yX11_one cX11_one 2 (some .int))) B.pre
  have hw := wa_hw hts
  have hown : s.vm.findClass RX11 = some m.cls := findClass_of_methodNamed B.named
  have hlocks := B.notSynchronized
  subst hsz
  have hG : gG D cy ad (gA ad s.heap.size) s.heap h g s.heap [] := ⟨hP, gA_self hD0, va_S.rf⟩
  clear hP hD0
  have lk7 := hw (.fieldLink RX11 7 "OldWorksModel" "st" "[I") (wm5 27 rfl rfl)
  rw [show (headSpec (wa yX11_one cX11_one 2 (some .int)) ({ frames := 0, cells := 0, slots := 0, locals := 0 } : Room)).room = ({ frames := 0, cells := 0, slots := 0, locals := 0 } : Room) from rfl]
  have hl := lv_entry ([.ref (ad 135), .int x1]) (n := 2) (Nat.le_of_ble_eq_true rfl)
  rw [show entryFrame m args 2 = entryFrame m ([.ref (ad 135), .int x1] : List Value).toArray 2 from by rw [hav], lg_entry_eq]
  generalize (lg_sl ([.ref (ad 135), .int x1]) ++ List.replicate (2 - (lg_sl ([.ref (ad 135), .int x1])).length) Slot.unset).toArray = ls at hl ⊢
  have hl : lv_has ls 2 [(0, .ref (ad 135)), (1, .int x1)] := hl
  have E0 : ∀ (H : Heap) (locs : List Loc) (ls : Array Slot), gG D cy ad (gA ad s.heap.size) s.heap h g H locs → lv_has ls 2 [(0, .ref (ad 135)), (1, .int x1)] → W p l e ({ frames := 0, cells := 0, slots := 0, locals := 0 } : Room) s m args below meth c H locs 0 0 (MQ below (va_Qi (fun (r : Int32) (u : HI × HL) => Q r u.1 u.2) (gB D cy ad s.heap.size) (gA ad s.heap.size)) args s 0 0 (gA ad s.heap.size)) (F0 m 0 ls []) := by
    intro H locs ls hG hl
    unfold w_X11_one at HW
    refine lv_aload_n hx hb dX11_one_0 rfl (lv_at hl 0 rfl) ?_
    refine g_getr hx hb hw inG11 hown hK hG gl_135 rfl gk_135 (by decide) 0 (by decide) (by rw [gm_135]; decide) (r := 136) gr_135_0 lk7 dX11_one_1 ?_
    refine lv_iload_n hx hb dX11_one_4 rfl (lv_at hl 1 rfl) ?_
    refine lv_dup2_11 hx hb dX11_one_5 rfl rfl ?_
    refine g_iald hx hb hK hG gl_136 gk_136 gn_136 HW.1 dX11_one_6 ?_
    replace HW := HW.2
    refine lv_iconst (v := 1) hx hb dX11_one_7 (by decide) ?_
    refine lv_iadd hx hb dX11_one_8 ?_
    refine g_iast hx hb hK hG gl_136 gk_136 gn_136 HW.1 dX11_one_9 (fun H locs hG => ?_)
    replace HW := HW.2
    obtain ⟨h_9, eh_9⟩ : ∃ y : HI, y = hu h 136 x1.toNatClampNeg ((h 136 x1.toNatClampNeg) + (1 : Int32)) := ⟨_, rfl⟩
    rw [← eh_9] at hG
    replace HW := HW h_9 eh_9
    refine lv_aload_n hx hb dX11_one_10 rfl (lv_at hl 0 rfl) ?_
    refine g_getr hx hb hw inG11 hown hK hG gl_135 rfl gk_135 (by decide) 0 (by decide) (by rw [gm_135]; decide) (r := 136) gr_135_0 lk7 dX11_one_11 ?_
    refine lv_iload_n hx hb dX11_one_14 rfl (lv_at hl 1 rfl) ?_
    refine g_iald hx hb hK hG gl_136 gk_136 gn_136 HW.1 dX11_one_15 ?_
    replace HW := HW.2
    refine lv_iconst (v := 1) hx hb dX11_one_16 (by decide) ?_
    refine lv_isub hx hb dX11_one_17 ?_
    exact W.iret (v := ((h_9 136 x1.toNatClampNeg) - (1 : Int32))) hx hb hr (fun t ht hW => ⟨⟨((h_9 136 x1.toNatClampNeg) - (1 : Int32)), (h_9, g), rfl, HW, g_B ht hG⟩, hG.2.2.F ht⟩) hG.2.2.2.2 dX11_one_18
  exact E0 _ _ _ hG hl

def w_X11_puts (x1 : Int32) (x2 : Int32) (h : HI) (g : HL) (Q : Int32 → HI → HL → Prop) : Prop :=
  (vp_in x1 887 ∧ (∀ x3_6 : Int32, x3_6 = (h 136 x1.toNatClampNeg) → (vp_in x1 887 ∧ ∀ h_13 : HI, h_13 = hu h 136 x1.toNatClampNeg x2 → Q x3_6 h_13 g)))
set_option maxHeartbeats 8000000 in
set_option maxRecDepth 100000 in
theorem m_X11_puts (l : Launch) (D : va_G) (cy : Nat → ClassId) (ad : Nat → Nat) (h : HI) (g : HL) (sz : Nat) (x1 : Int32) (x2 : Int32) (Q : Int32 → HI → HL → Prop) (HW : w_X11_puts x1 x2 h g Q) : Met l yX11_puts (wa yX11_puts cX11_puts 4 (some .int)) ({ frames := 0, cells := 0, slots := 0, locals := 0 }) (va_Pc [.ref (ad 135), .int x1, .int x2] (gI D cy ad h g sz)) (va_Qi (fun (r : Int32) (u : HI × HL) => Q r u.1 u.2) (gB D cy ad sz) (gA ad sz)) 0 0 (gA ad sz) := by
  refine Met.ofW (cc := cX11_puts) (maxL := 4) (ret := (some .int)) (by decide) rfl ?_
  intro p e s m args below meth c s₁ B hml hv
  obtain ⟨hav, hsz, hP, hK, hD0, hNw⟩ := hv
  have hx := B.exec
  have hb := B.bytes
  have hr := B.returns
  have hts := atoms_spec (ws := (wa yX11_puts cX11_puts 4 (some .int))) B.pre
  have hw := wa_hw hts
  have hown : s.vm.findClass RX11 = some m.cls := findClass_of_methodNamed B.named
  have hlocks := B.notSynchronized
  subst hsz
  have hG : gG D cy ad (gA ad s.heap.size) s.heap h g s.heap [] := ⟨hP, gA_self hD0, va_S.rf⟩
  clear hP hD0
  have lk7 := hw (.fieldLink RX11 7 "OldWorksModel" "st" "[I") (wm5 27 rfl rfl)
  rw [show (headSpec (wa yX11_puts cX11_puts 4 (some .int)) ({ frames := 0, cells := 0, slots := 0, locals := 0 } : Room)).room = ({ frames := 0, cells := 0, slots := 0, locals := 0 } : Room) from rfl]
  have hl := lv_entry ([.ref (ad 135), .int x1, .int x2]) (n := 4) (Nat.le_of_ble_eq_true rfl)
  rw [show entryFrame m args 4 = entryFrame m ([.ref (ad 135), .int x1, .int x2] : List Value).toArray 4 from by rw [hav], lg_entry_eq]
  generalize (lg_sl ([.ref (ad 135), .int x1, .int x2]) ++ List.replicate (4 - (lg_sl ([.ref (ad 135), .int x1, .int x2])).length) Slot.unset).toArray = ls at hl ⊢
  have hl : lv_has ls 4 [(0, .ref (ad 135)), (1, .int x1), (2, .int x2)] := hl
  have E0 : ∀ (H : Heap) (locs : List Loc) (ls : Array Slot), gG D cy ad (gA ad s.heap.size) s.heap h g H locs → lv_has ls 4 [(0, .ref (ad 135)), (1, .int x1), (2, .int x2)] → W p l e ({ frames := 0, cells := 0, slots := 0, locals := 0 } : Room) s m args below meth c H locs 0 0 (MQ below (va_Qi (fun (r : Int32) (u : HI × HL) => Q r u.1 u.2) (gB D cy ad s.heap.size) (gA ad s.heap.size)) args s 0 0 (gA ad s.heap.size)) (F0 m 0 ls []) := by
    intro H locs ls hG hl
    unfold w_X11_puts at HW
    refine lv_aload_n hx hb dX11_puts_0 rfl (lv_at hl 0 rfl) ?_
    refine g_getr hx hb hw inG11 hown hK hG gl_135 rfl gk_135 (by decide) 0 (by decide) (by rw [gm_135]; decide) (r := 136) gr_135_0 lk7 dX11_puts_1 ?_
    refine lv_iload_n hx hb dX11_puts_4 rfl (lv_at hl 1 rfl) ?_
    refine g_iald hx hb hK hG gl_136 gk_136 gn_136 HW.1 dX11_puts_5 ?_
    replace HW := HW.2
    refine lv_topi (fun x3_6 ex3_6 => ?_)
    replace HW := HW x3_6 ex3_6
    refine lv_istore_n (lv' := [(3, .int x3_6), (0, .ref (ad 135)), (1, .int x1), (2, .int x2)]) hx hb dX11_puts_6 rfl hl (by decide) rfl (fun ls hl => ?_)
    refine lv_aload_n hx hb dX11_puts_7 rfl (lv_at hl 1 rfl) ?_
    refine g_getr hx hb hw inG11 hown hK hG gl_135 rfl gk_135 (by decide) 0 (by decide) (by rw [gm_135]; decide) (r := 136) gr_135_0 lk7 dX11_puts_8 ?_
    refine lv_iload_n hx hb dX11_puts_11 rfl (lv_at hl 2 rfl) ?_
    refine lv_iload_n hx hb dX11_puts_12 rfl (lv_at hl 3 rfl) ?_
    refine g_iast hx hb hK hG gl_136 gk_136 gn_136 HW.1 dX11_puts_13 (fun H locs hG => ?_)
    replace HW := HW.2
    obtain ⟨h_13, eh_13⟩ : ∃ y : HI, y = hu h 136 x1.toNatClampNeg x2 := ⟨_, rfl⟩
    rw [← eh_13] at hG
    replace HW := HW h_13 eh_13
    refine lv_iload_n hx hb dX11_puts_14 rfl (lv_at hl 0 rfl) ?_
    exact W.iret (v := x3_6) hx hb hr (fun t ht hW => ⟨⟨x3_6, (h_13, g), rfl, HW, g_B ht hG⟩, hG.2.2.F ht⟩) hG.2.2.2.2 dX11_puts_15
  exact E0 _ _ _ hG hl

def w_X11_isYear (x0 : Int32) (h : HI) (g : HL) (Q : Int32 → HI → HL → Prop) : Prop :=
  (∃ P_6 : Int32 → HI → HL → Prop, w_X11_in ((x0).toInt64) (0 : Int64) (99 : Int64) h g P_6 ∧ ∀ (r_6 : Int32) (h_6 : HI) (g_6 : HL), zb r_6 → P_6 r_6 h_6 g_6 → (zb r_6 ∧ Q r_6 h_6 g_6))
set_option maxHeartbeats 8000000 in
set_option maxRecDepth 100000 in
theorem m_X11_isYear (l : Launch) (D : va_G) (cy : Nat → ClassId) (ad : Nat → Nat) (h : HI) (g : HL) (sz : Nat) (x0 : Int32) (Q : Int32 → HI → HL → Prop) (HW : w_X11_isYear x0 h g Q) : Met l yX11_isYear (wa yX11_isYear cX11_isYear 1 (some .boolean)) ({ frames := 1, cells := 0, slots := 0, locals := 25 }) (va_Pc [.int x0] (gI D cy ad h g sz)) (va_Qi (fun (r : Int32) (u : HI × HL) => zb r ∧ Q r u.1 u.2) (gB D cy ad sz) (gA ad sz)) 0 0 (gA ad sz) := by
  refine Met.ofW (cc := cX11_isYear) (maxL := 1) (ret := (some .boolean)) (by decide) rfl ?_
  intro p e s m args below meth c s₁ B hml hv
  obtain ⟨hav, hsz, hP, hK, hD0, hNw⟩ := hv
  have hx := B.exec
  have hb := B.bytes
  have hr := B.returns
  have hts := atoms_spec (ws := (wa yX11_isYear cX11_isYear 1 (some .boolean))) B.pre
  have hw := wa_hw hts
  have hown : s.vm.findClass RX11 = some m.cls := findClass_of_methodNamed B.named
  have hlocks := B.notSynchronized
  subst hsz
  have hG : gG D cy ad (gA ad s.heap.size) s.heap h g s.heap [] := ⟨hP, gA_self hD0, va_S.rf⟩
  clear hP hD0
  have cn57 := hw (.constantLong RX11 57 (99)) (wm5 117 rfl rfl)
  rw [show (headSpec (wa yX11_isYear cX11_isYear 1 (some .boolean)) ({ frames := 1, cells := 0, slots := 0, locals := 25 } : Room)).room = ({ frames := 1, cells := 0, slots := 0, locals := 25 } : Room) from rfl]
  have hl := lv_entry ([.int x0]) (n := 1) (Nat.le_of_ble_eq_true rfl)
  rw [show entryFrame m args 1 = entryFrame m ([.int x0] : List Value).toArray 1 from by rw [hav], lg_entry_eq]
  generalize (lg_sl ([.int x0]) ++ List.replicate (1 - (lg_sl ([.int x0])).length) Slot.unset).toArray = ls at hl ⊢
  have hl : lv_has ls 1 [(0, .int x0)] := hl
  have E0 : ∀ (H : Heap) (locs : List Loc) (ls : Array Slot), gG D cy ad (gA ad s.heap.size) s.heap h g H locs → lv_has ls 1 [(0, .int x0)] → W p l e ({ frames := 1, cells := 0, slots := 0, locals := 25 } : Room) s m args below meth c H locs 0 0 (MQ below (va_Qi (fun (r : Int32) (u : HI × HL) => zb r ∧ Q r u.1 u.2) (gB D cy ad s.heap.size) (gA ad s.heap.size)) args s 0 0 (gA ad s.heap.size)) (F0 m 0 ls []) := by
    intro H locs ls hG hl
    unfold w_X11_isYear at HW
    refine lv_iload_n hx hb dX11_isYear_0 rfl (lv_at hl 0 rfl) ?_
    refine lv_i2l hx hb dX11_isYear_1 rfl ?_
    refine lv_lconst (v := 0) hx hb dX11_isYear_2 (by decide) ?_
    refine lv_ldc2 (v := 99) hx hb hown cn57 dX11_isYear_3 ?_
    obtain ⟨P_6, HC_6, HW⟩ := HW
    refine g_callz (g_runS (As := [.long ((x0).toInt64), .long (0 : Int64), .long (99 : Int64)]) (rest := []) ⟨hx, hb, hml, hown, hts⟩ (m_X11_in l D cy ad h g H.size ((x0).toInt64) (0 : Int64) (99 : Int64) P_6 HC_6) (va_cwS 3 hts (gd_S (wm5 111 rfl rfl) (wm5 112 rfl rfl) (wm1 13 rfl rfl) (wm5 113 rfl rfl)) rfl rfl rfl (by decide +kernel) ⟨Nat.le_of_ble_eq_true rfl, Nat.le_of_ble_eq_true rfl⟩) hK hNw hG rfl rfl hl.1 rfl (lv_room (Nat.le_of_ble_eq_true rfl)) dX11_isYear_6 ⟨Nat.zero_le _, Nat.zero_le _⟩) hG (fun r_6 h_6 g_6 H locs hz hq hG => ?_)
    replace HW := HW r_6 h_6 g_6 hz hq
    exact W.zret (v := r_6) hx hb hr (zb_n HW.1) (fun t ht hW => ⟨⟨r_6, (h_6, g_6), rfl, HW, g_B ht hG⟩, hG.2.2.F ht⟩) hG.2.2.2.2 dX11_isYear_9
  exact E0 _ _ _ hG hl

def w_X11_partOf (x1 : Int32) (x2 : Int32) (h : HI) (g : HL) (Q : Int32 → HI → HL → Prop) : Prop :=
  (vp_in (((20 : Int32) + ((5 : Int32) * x1)) + x2) 887 ∧ Q (h 136 (((20 : Int32) + ((5 : Int32) * x1)) + x2).toNatClampNeg) h g)
set_option maxHeartbeats 8000000 in
set_option maxRecDepth 100000 in
theorem m_X11_partOf (l : Launch) (D : va_G) (cy : Nat → ClassId) (ad : Nat → Nat) (h : HI) (g : HL) (sz : Nat) (x1 : Int32) (x2 : Int32) (Q : Int32 → HI → HL → Prop) (HW : w_X11_partOf x1 x2 h g Q) : Met l yX11_partOf (wa yX11_partOf cX11_partOf 3 (some .int)) ({ frames := 0, cells := 0, slots := 0, locals := 0 }) (va_Pc [.ref (ad 135), .int x1, .int x2] (gI D cy ad h g sz)) (va_Qi (fun (r : Int32) (u : HI × HL) => Q r u.1 u.2) (gB D cy ad sz) (gA ad sz)) 0 0 (gA ad sz) := by
  refine Met.ofW (cc := cX11_partOf) (maxL := 3) (ret := (some .int)) (by decide) rfl ?_
  intro p e s m args below meth c s₁ B hml hv
  obtain ⟨hav, hsz, hP, hK, hD0, hNw⟩ := hv
  have hx := B.exec
  have hb := B.bytes
  have hr := B.returns
  have hts := atoms_spec (ws := (wa yX11_partOf cX11_partOf 3 (some .int))) B.pre
  have hw := wa_hw hts
  have hown : s.vm.findClass RX11 = some m.cls := findClass_of_methodNamed B.named
  have hlocks := B.notSynchronized
  subst hsz
  have hG : gG D cy ad (gA ad s.heap.size) s.heap h g s.heap [] := ⟨hP, gA_self hD0, va_S.rf⟩
  clear hP hD0
  have lk7 := hw (.fieldLink RX11 7 "OldWorksModel" "st" "[I") (wm5 27 rfl rfl)
  rw [show (headSpec (wa yX11_partOf cX11_partOf 3 (some .int)) ({ frames := 0, cells := 0, slots := 0, locals := 0 } : Room)).room = ({ frames := 0, cells := 0, slots := 0, locals := 0 } : Room) from rfl]
  have hl := lv_entry ([.ref (ad 135), .int x1, .int x2]) (n := 3) (Nat.le_of_ble_eq_true rfl)
  rw [show entryFrame m args 3 = entryFrame m ([.ref (ad 135), .int x1, .int x2] : List Value).toArray 3 from by rw [hav], lg_entry_eq]
  generalize (lg_sl ([.ref (ad 135), .int x1, .int x2]) ++ List.replicate (3 - (lg_sl ([.ref (ad 135), .int x1, .int x2])).length) Slot.unset).toArray = ls at hl ⊢
  have hl : lv_has ls 3 [(0, .ref (ad 135)), (1, .int x1), (2, .int x2)] := hl
  have E0 : ∀ (H : Heap) (locs : List Loc) (ls : Array Slot), gG D cy ad (gA ad s.heap.size) s.heap h g H locs → lv_has ls 3 [(0, .ref (ad 135)), (1, .int x1), (2, .int x2)] → W p l e ({ frames := 0, cells := 0, slots := 0, locals := 0 } : Room) s m args below meth c H locs 0 0 (MQ below (va_Qi (fun (r : Int32) (u : HI × HL) => Q r u.1 u.2) (gB D cy ad s.heap.size) (gA ad s.heap.size)) args s 0 0 (gA ad s.heap.size)) (F0 m 0 ls []) := by
    intro H locs ls hG hl
    unfold w_X11_partOf at HW
    refine lv_aload_n hx hb dX11_partOf_0 rfl (lv_at hl 0 rfl) ?_
    refine g_getr hx hb hw inG11 hown hK hG gl_135 rfl gk_135 (by decide) 0 (by decide) (by rw [gm_135]; decide) (r := 136) gr_135_0 lk7 dX11_partOf_1 ?_
    refine lv_bipush (v := 20) hx hb dX11_partOf_4 (by decide) ?_
    refine lv_iconst (v := 5) hx hb dX11_partOf_6 (by decide) ?_
    refine lv_iload_n hx hb dX11_partOf_7 rfl (lv_at hl 1 rfl) ?_
    refine lv_imul hx hb dX11_partOf_8 ?_
    refine lv_iadd hx hb dX11_partOf_9 ?_
    refine lv_iload_n hx hb dX11_partOf_10 rfl (lv_at hl 2 rfl) ?_
    refine lv_iadd hx hb dX11_partOf_11 ?_
    refine g_iald hx hb hK hG gl_136 gk_136 gn_136 HW.1 dX11_partOf_12 ?_
    replace HW := HW.2
    exact W.iret (v := (h 136 (((20 : Int32) + ((5 : Int32) * x1)) + x2).toNatClampNeg)) hx hb hr (fun t ht hW => ⟨⟨(h 136 (((20 : Int32) + ((5 : Int32) * x1)) + x2).toNatClampNeg), (h, g), rfl, HW, g_B ht hG⟩, hG.2.2.F ht⟩) hG.2.2.2.2 dX11_partOf_13
  exact E0 _ _ _ hG hl

def w_X11_part (x1 : Int32) (x2 : Int32) (x3 : Int32) (x4 : Int32) (h : HI) (g : HL) (Q : Int32 → HI → HL → Prop) : Prop :=
  (∃ P_6 : Int32 → HI → HL → Prop, w_X11_in ((x1).toInt64) (0 : Int64) (100 : Int64) h g P_6 ∧ ∀ (r_6 : Int32) (h_6 : HI) (g_6 : HL), zb r_6 → P_6 r_6 h_6 g_6 → ((r_6 = 0 → Q (-2 : Int32) h_6 g_6) ∧ (¬ r_6 = 0 → (∃ P_18 : Int32 → HI → HL → Prop, w_X11_in ((x2).toInt64) (1 : Int64) (100 : Int64) h_6 g_6 P_18 ∧ ∀ (r_18 : Int32) (h_18 : HI) (g_18 : HL), zb r_18 → P_18 r_18 h_18 g_18 → ((r_18 = 0 → Q (-2 : Int32) h_18 g_18) ∧ (¬ r_18 = 0 → (∃ P_25 : Int32 → HI → HL → Prop, w_X11_isYear x3 h_18 g_18 P_25 ∧ ∀ (r_25 : Int32) (h_25 : HI) (g_25 : HL), zb r_25 → P_25 r_25 h_25 g_25 → ((r_25 = 0 → Q (-2 : Int32) h_25 g_25) ∧ (¬ r_25 = 0 → (∃ P_40 : Int32 → HI → HL → Prop, w_X11_in ((x4).toInt64) (-1 : Int64) (3 : Int64) h_25 g_25 P_40 ∧ ∀ (r_40 : Int32) (h_40 : HI) (g_40 : HL), zb r_40 → P_40 r_40 h_40 g_40 → ((¬ r_40 = 0 → (vp_in (0 : Int32) 887 ∧ ((¬ (h_40 136 (0 : Int32).toNatClampNeg) = (24 : Int32) → (vp_in (0 : Int32) 887 ∧ (∀ x5_74 : Int32, x5_74 = ((20 : Int32) + ((5 : Int32) * (h_40 136 (0 : Int32).toNatClampNeg))) → (vp_in x5_74 887 ∧ ∀ h_83 : HI, h_83 = hu h_40 136 x5_74.toNatClampNeg x1 → (vp_in (x5_74 + (1 : Int32)) 887 ∧ ∀ h_93 : HI, h_93 = hu h_83 136 (x5_74 + (1 : Int32)).toNatClampNeg x2 → (vp_in (x5_74 + (2 : Int32)) 887 ∧ ∀ h_103 : HI, h_103 = hu h_93 136 (x5_74 + (2 : Int32)).toNatClampNeg x3 → (vp_in (x5_74 + (3 : Int32)) 887 ∧ ∀ h_114 : HI, h_114 = hu h_103 136 (x5_74 + (3 : Int32)).toNatClampNeg x4 → (vp_in (x5_74 + (4 : Int32)) 887 ∧ ∀ h_124 : HI, h_124 = hu h_114 136 (x5_74 + (4 : Int32)).toNatClampNeg (0 : Int32) → (∃ P_127 : Int32 → HI → HL → Prop, w_X11_one (0 : Int32) h_124 g_40 P_127 ∧ ∀ (r_127 : Int32) (h_127 : HI) (g_127 : HL), P_127 r_127 h_127 g_127 → Q r_127 h_127 g_127))))))))) ∧ ((h_40 136 (0 : Int32).toNatClampNeg) = (24 : Int32) → Q (-4 : Int32) h_40 g_40)))) ∧ (r_40 = 0 → Q (-2 : Int32) h_40 g_40))))))))))))
set_option maxHeartbeats 8000000 in
set_option maxRecDepth 100000 in
theorem m_X11_part (l : Launch) (D : va_G) (cy : Nat → ClassId) (ad : Nat → Nat) (h : HI) (g : HL) (sz : Nat) (x1 : Int32) (x2 : Int32) (x3 : Int32) (x4 : Int32) (Q : Int32 → HI → HL → Prop) (HW : w_X11_part x1 x2 x3 x4 h g Q) : Met l yX11_part (wa yX11_part cX11_part 6 (some .int)) ({ frames := 2, cells := 0, slots := 0, locals := 45 }) (va_Pc [.ref (ad 135), .int x1, .int x2, .int x3, .int x4] (gI D cy ad h g sz)) (va_Qi (fun (r : Int32) (u : HI × HL) => Q r u.1 u.2) (gB D cy ad sz) (gA ad sz)) 0 0 (gA ad sz) := by
  refine Met.ofW (cc := cX11_part) (maxL := 6) (ret := (some .int)) (by decide) rfl ?_
  intro p e s m args below meth c s₁ B hml hv
  obtain ⟨hav, hsz, hP, hK, hD0, hNw⟩ := hv
  have hx := B.exec
  have hb := B.bytes
  have hr := B.returns
  have hts := atoms_spec (ws := (wa yX11_part cX11_part 6 (some .int))) B.pre
  have hw := wa_hw hts
  have hown : s.vm.findClass RX11 = some m.cls := findClass_of_methodNamed B.named
  have hlocks := B.notSynchronized
  subst hsz
  have hG : gG D cy ad (gA ad s.heap.size) s.heap h g s.heap [] := ⟨hP, gA_self hD0, va_S.rf⟩
  clear hP hD0
  have cn59 := hw (.constantLong RX11 59 (100)) (wm5 110 rfl rfl)
  have cn65 := hw (.constantLong RX11 65 (-1)) (wm5 118 rfl rfl)
  have cn67 := hw (.constantLong RX11 67 (3)) (wm5 119 rfl rfl)
  have lk7 := hw (.fieldLink RX11 7 "OldWorksModel" "st" "[I") (wm5 27 rfl rfl)
  rw [show (headSpec (wa yX11_part cX11_part 6 (some .int)) ({ frames := 2, cells := 0, slots := 0, locals := 45 } : Room)).room = ({ frames := 2, cells := 0, slots := 0, locals := 45 } : Room) from rfl]
  have hl := lv_entry ([.ref (ad 135), .int x1, .int x2, .int x3, .int x4]) (n := 6) (Nat.le_of_ble_eq_true rfl)
  rw [show entryFrame m args 6 = entryFrame m ([.ref (ad 135), .int x1, .int x2, .int x3, .int x4] : List Value).toArray 6 from by rw [hav], lg_entry_eq]
  generalize (lg_sl ([.ref (ad 135), .int x1, .int x2, .int x3, .int x4]) ++ List.replicate (6 - (lg_sl ([.ref (ad 135), .int x1, .int x2, .int x3, .int x4])).length) Slot.unset).toArray = ls at hl ⊢
  have hl : lv_has ls 6 [(0, .ref (ad 135)), (1, .int x1), (2, .int x2), (3, .int x3), (4, .int x4)] := hl
  have E0 : ∀ (H : Heap) (locs : List Loc) (ls : Array Slot), gG D cy ad (gA ad s.heap.size) s.heap h g H locs → lv_has ls 6 [(0, .ref (ad 135)), (1, .int x1), (2, .int x2), (3, .int x3), (4, .int x4)] → W p l e ({ frames := 2, cells := 0, slots := 0, locals := 45 } : Room) s m args below meth c H locs 0 0 (MQ below (va_Qi (fun (r : Int32) (u : HI × HL) => Q r u.1 u.2) (gB D cy ad s.heap.size) (gA ad s.heap.size)) args s 0 0 (gA ad s.heap.size)) (F0 m 0 ls []) := by
    intro H locs ls hG hl
    unfold w_X11_part at HW
    refine lv_iload_n hx hb dX11_part_0 rfl (lv_at hl 1 rfl) ?_
    refine lv_i2l hx hb dX11_part_1 rfl ?_
    refine lv_lconst (v := 0) hx hb dX11_part_2 (by decide) ?_
    refine lv_ldc2 (v := 100) hx hb hown cn59 dX11_part_3 ?_
    obtain ⟨P_6, HC_6, HW⟩ := HW
    refine g_callz (g_runS (As := [.long ((x1).toInt64), .long (0 : Int64), .long (100 : Int64)]) (rest := []) ⟨hx, hb, hml, hown, hts⟩ (m_X11_in l D cy ad h g H.size ((x1).toInt64) (0 : Int64) (100 : Int64) P_6 HC_6) (va_cwS 3 hts (gd_S (wm5 111 rfl rfl) (wm5 112 rfl rfl) (wm1 13 rfl rfl) (wm5 113 rfl rfl)) rfl rfl rfl (by decide +kernel) ⟨Nat.le_of_ble_eq_true rfl, Nat.le_of_ble_eq_true rfl⟩) hK hNw hG rfl rfl hl.1 rfl (lv_room (Nat.le_of_ble_eq_true rfl)) dX11_part_6 ⟨Nat.zero_le _, Nat.zero_le _⟩) hG (fun r_6 h_6 g_6 H locs hz hq hG => ?_)
    replace HW := HW r_6 h_6 g_6 hz hq
    refine lv_if_eq (tgt := 46) hx hb dX11_part_9 (by decide) (fun c_9 => ?_) (fun c_9 => ?_)
    · replace HW := HW.1 c_9
      refine lv_bipush (v := (-2)) hx hb dX11_part_46 (by decide) ?_
      exact W.iret (v := (-2 : Int32)) hx hb hr (fun t ht hW => ⟨⟨(-2 : Int32), (h_6, g_6), rfl, HW, g_B ht hG⟩, hG.2.2.F ht⟩) hG.2.2.2.2 dX11_part_48
    · replace HW := HW.2 c_9
      refine lv_iload_n hx hb dX11_part_12 rfl (lv_at hl 2 rfl) ?_
      refine lv_i2l hx hb dX11_part_13 rfl ?_
      refine lv_lconst (v := 1) hx hb dX11_part_14 (by decide) ?_
      refine lv_ldc2 (v := 100) hx hb hown cn59 dX11_part_15 ?_
      obtain ⟨P_18, HC_18, HW⟩ := HW
      refine g_callz (g_runS (As := [.long ((x2).toInt64), .long (1 : Int64), .long (100 : Int64)]) (rest := []) ⟨hx, hb, hml, hown, hts⟩ (m_X11_in l D cy ad h_6 g_6 H.size ((x2).toInt64) (1 : Int64) (100 : Int64) P_18 HC_18) (va_cwS 3 hts (gd_S (wm5 111 rfl rfl) (wm5 112 rfl rfl) (wm1 13 rfl rfl) (wm5 113 rfl rfl)) rfl rfl rfl (by decide +kernel) ⟨Nat.le_of_ble_eq_true rfl, Nat.le_of_ble_eq_true rfl⟩) hK hNw hG rfl rfl hl.1 rfl (lv_room (Nat.le_of_ble_eq_true rfl)) dX11_part_18 ⟨Nat.zero_le _, Nat.zero_le _⟩) hG (fun r_18 h_18 g_18 H locs hz hq hG => ?_)
      replace HW := HW r_18 h_18 g_18 hz hq
      refine lv_if_eq (tgt := 46) hx hb dX11_part_21 (by decide) (fun c_21 => ?_) (fun c_21 => ?_)
      · replace HW := HW.1 c_21
        refine lv_bipush (v := (-2)) hx hb dX11_part_46 (by decide) ?_
        exact W.iret (v := (-2 : Int32)) hx hb hr (fun t ht hW => ⟨⟨(-2 : Int32), (h_18, g_18), rfl, HW, g_B ht hG⟩, hG.2.2.F ht⟩) hG.2.2.2.2 dX11_part_48
      · replace HW := HW.2 c_21
        refine lv_iload_n hx hb dX11_part_24 rfl (lv_at hl 3 rfl) ?_
        obtain ⟨P_25, HC_25, HW⟩ := HW
        refine g_callz (g_runS (As := [.int x3]) (rest := []) ⟨hx, hb, hml, hown, hts⟩ (m_X11_isYear l D cy ad h_18 g_18 H.size x3 P_25 HC_25) (va_cwS 1 hts (gd_S (wm5 114 rfl rfl) (wm5 115 rfl rfl) (wm1 13 rfl rfl) (wm5 116 rfl rfl)) rfl rfl rfl (by decide +kernel) ⟨Nat.le_of_ble_eq_true rfl, Nat.le_of_ble_eq_true rfl⟩) hK hNw hG rfl rfl hl.1 rfl (lv_room (Nat.le_of_ble_eq_true rfl)) dX11_part_25 ⟨Nat.zero_le _, Nat.zero_le _⟩) hG (fun r_25 h_25 g_25 H locs hz hq hG => ?_)
        replace HW := HW r_25 h_25 g_25 hz hq
        refine lv_if_eq (tgt := 46) hx hb dX11_part_28 (by decide) (fun c_28 => ?_) (fun c_28 => ?_)
        · replace HW := HW.1 c_28
          refine lv_bipush (v := (-2)) hx hb dX11_part_46 (by decide) ?_
          exact W.iret (v := (-2 : Int32)) hx hb hr (fun t ht hW => ⟨⟨(-2 : Int32), (h_25, g_25), rfl, HW, g_B ht hG⟩, hG.2.2.F ht⟩) hG.2.2.2.2 dX11_part_48
        · replace HW := HW.2 c_28
          refine lv_iload hx hb dX11_part_31 (lv_at hl 4 rfl) ?_
          refine lv_i2l hx hb dX11_part_33 rfl ?_
          refine lv_ldc2 (v := (-1)) hx hb hown cn65 dX11_part_34 ?_
          refine lv_ldc2 (v := 3) hx hb hown cn67 dX11_part_37 ?_
          obtain ⟨P_40, HC_40, HW⟩ := HW
          refine g_callz (g_runS (As := [.long ((x4).toInt64), .long (-1 : Int64), .long (3 : Int64)]) (rest := []) ⟨hx, hb, hml, hown, hts⟩ (m_X11_in l D cy ad h_25 g_25 H.size ((x4).toInt64) (-1 : Int64) (3 : Int64) P_40 HC_40) (va_cwS 3 hts (gd_S (wm5 111 rfl rfl) (wm5 112 rfl rfl) (wm1 13 rfl rfl) (wm5 113 rfl rfl)) rfl rfl rfl (by decide +kernel) ⟨Nat.le_of_ble_eq_true rfl, Nat.le_of_ble_eq_true rfl⟩) hK hNw hG rfl rfl hl.1 rfl (lv_room (Nat.le_of_ble_eq_true rfl)) dX11_part_40 ⟨Nat.zero_le _, Nat.zero_le _⟩) hG (fun r_40 h_40 g_40 H locs hz hq hG => ?_)
          replace HW := HW r_40 h_40 g_40 hz hq
          refine lv_if_ne (tgt := 49) hx hb dX11_part_43 (by decide) (fun c_43 => ?_) (fun c_43 => ?_)
          · replace HW := HW.1 c_43
            refine lv_aload_n hx hb dX11_part_49 rfl (lv_at hl 0 rfl) ?_
            refine g_getr hx hb hw inG11 hown hK hG gl_135 rfl gk_135 (by decide) 0 (by decide) (by rw [gm_135]; decide) (r := 136) gr_135_0 lk7 dX11_part_50 ?_
            refine lv_iconst (v := 0) hx hb dX11_part_53 (by decide) ?_
            refine g_iald hx hb hK hG gl_136 gk_136 gn_136 HW.1 dX11_part_54 ?_
            replace HW := HW.2
            refine lv_bipush (v := 24) hx hb dX11_part_55 (by decide) ?_
            refine lv_icmp_ne (tgt := 63) hx hb dX11_part_57 (by decide) (fun c_57 => ?_) (fun c_57 => ?_)
            · replace HW := HW.1 c_57
              refine lv_bipush (v := 20) hx hb dX11_part_63 (by decide) ?_
              refine lv_iconst (v := 5) hx hb dX11_part_65 (by decide) ?_
              refine lv_aload_n hx hb dX11_part_66 rfl (lv_at hl 0 rfl) ?_
              refine g_getr hx hb hw inG11 hown hK hG gl_135 rfl gk_135 (by decide) 0 (by decide) (by rw [gm_135]; decide) (r := 136) gr_135_0 lk7 dX11_part_67 ?_
              refine lv_iconst (v := 0) hx hb dX11_part_70 (by decide) ?_
              refine g_iald hx hb hK hG gl_136 gk_136 gn_136 HW.1 dX11_part_71 ?_
              replace HW := HW.2
              refine lv_imul hx hb dX11_part_72 ?_
              refine lv_iadd hx hb dX11_part_73 ?_
              refine lv_topi (fun x5_74 ex5_74 => ?_)
              replace HW := HW x5_74 ex5_74
              refine lv_istore (lv' := [(5, .int x5_74), (0, .ref (ad 135)), (1, .int x1), (2, .int x2), (3, .int x3), (4, .int x4)]) hx hb dX11_part_74 hl (by decide) rfl (fun ls hl => ?_)
              refine lv_aload_n hx hb dX11_part_76 rfl (lv_at hl 1 rfl) ?_
              refine g_getr hx hb hw inG11 hown hK hG gl_135 rfl gk_135 (by decide) 0 (by decide) (by rw [gm_135]; decide) (r := 136) gr_135_0 lk7 dX11_part_77 ?_
              refine lv_iload hx hb dX11_part_80 (lv_at hl 0 rfl) ?_
              refine lv_iload_n hx hb dX11_part_82 rfl (lv_at hl 2 rfl) ?_
              refine g_iast hx hb hK hG gl_136 gk_136 gn_136 HW.1 dX11_part_83 (fun H locs hG => ?_)
              replace HW := HW.2
              obtain ⟨h_83, eh_83⟩ : ∃ y : HI, y = hu h_40 136 x5_74.toNatClampNeg x1 := ⟨_, rfl⟩
              rw [← eh_83] at hG
              replace HW := HW h_83 eh_83
              refine lv_aload_n hx hb dX11_part_84 rfl (lv_at hl 1 rfl) ?_
              refine g_getr hx hb hw inG11 hown hK hG gl_135 rfl gk_135 (by decide) 0 (by decide) (by rw [gm_135]; decide) (r := 136) gr_135_0 lk7 dX11_part_85 ?_
              refine lv_iload hx hb dX11_part_88 (lv_at hl 0 rfl) ?_
              refine lv_iconst (v := 1) hx hb dX11_part_90 (by decide) ?_
              refine lv_iadd hx hb dX11_part_91 ?_
              refine lv_iload_n hx hb dX11_part_92 rfl (lv_at hl 3 rfl) ?_
              refine g_iast hx hb hK hG gl_136 gk_136 gn_136 HW.1 dX11_part_93 (fun H locs hG => ?_)
              replace HW := HW.2
              obtain ⟨h_93, eh_93⟩ : ∃ y : HI, y = hu h_83 136 (x5_74 + (1 : Int32)).toNatClampNeg x2 := ⟨_, rfl⟩
              rw [← eh_93] at hG
              replace HW := HW h_93 eh_93
              refine lv_aload_n hx hb dX11_part_94 rfl (lv_at hl 1 rfl) ?_
              refine g_getr hx hb hw inG11 hown hK hG gl_135 rfl gk_135 (by decide) 0 (by decide) (by rw [gm_135]; decide) (r := 136) gr_135_0 lk7 dX11_part_95 ?_
              refine lv_iload hx hb dX11_part_98 (lv_at hl 0 rfl) ?_
              refine lv_iconst (v := 2) hx hb dX11_part_100 (by decide) ?_
              refine lv_iadd hx hb dX11_part_101 ?_
              refine lv_iload_n hx hb dX11_part_102 rfl (lv_at hl 4 rfl) ?_
              refine g_iast hx hb hK hG gl_136 gk_136 gn_136 HW.1 dX11_part_103 (fun H locs hG => ?_)
              replace HW := HW.2
              obtain ⟨h_103, eh_103⟩ : ∃ y : HI, y = hu h_93 136 (x5_74 + (2 : Int32)).toNatClampNeg x3 := ⟨_, rfl⟩
              rw [← eh_103] at hG
              replace HW := HW h_103 eh_103
              refine lv_aload_n hx hb dX11_part_104 rfl (lv_at hl 1 rfl) ?_
              refine g_getr hx hb hw inG11 hown hK hG gl_135 rfl gk_135 (by decide) 0 (by decide) (by rw [gm_135]; decide) (r := 136) gr_135_0 lk7 dX11_part_105 ?_
              refine lv_iload hx hb dX11_part_108 (lv_at hl 0 rfl) ?_
              refine lv_iconst (v := 3) hx hb dX11_part_110 (by decide) ?_
              refine lv_iadd hx hb dX11_part_111 ?_
              refine lv_iload hx hb dX11_part_112 (lv_at hl 5 rfl) ?_
              refine g_iast hx hb hK hG gl_136 gk_136 gn_136 HW.1 dX11_part_114 (fun H locs hG => ?_)
              replace HW := HW.2
              obtain ⟨h_114, eh_114⟩ : ∃ y : HI, y = hu h_103 136 (x5_74 + (3 : Int32)).toNatClampNeg x4 := ⟨_, rfl⟩
              rw [← eh_114] at hG
              replace HW := HW h_114 eh_114
              refine lv_aload_n hx hb dX11_part_115 rfl (lv_at hl 1 rfl) ?_
              refine g_getr hx hb hw inG11 hown hK hG gl_135 rfl gk_135 (by decide) 0 (by decide) (by rw [gm_135]; decide) (r := 136) gr_135_0 lk7 dX11_part_116 ?_
              refine lv_iload hx hb dX11_part_119 (lv_at hl 0 rfl) ?_
              refine lv_iconst (v := 4) hx hb dX11_part_121 (by decide) ?_
              refine lv_iadd hx hb dX11_part_122 ?_
              refine lv_iconst (v := 0) hx hb dX11_part_123 (by decide) ?_
              refine g_iast hx hb hK hG gl_136 gk_136 gn_136 HW.1 dX11_part_124 (fun H locs hG => ?_)
              replace HW := HW.2
              obtain ⟨h_124, eh_124⟩ : ∃ y : HI, y = hu h_114 136 (x5_74 + (4 : Int32)).toNatClampNeg (0 : Int32) := ⟨_, rfl⟩
              rw [← eh_124] at hG
              replace HW := HW h_124 eh_124
              refine lv_aload_n hx hb dX11_part_125 rfl (lv_at hl 1 rfl) ?_
              refine lv_iconst (v := 0) hx hb dX11_part_126 (by decide) ?_
              obtain ⟨P_127, HC_127, HW⟩ := HW
              refine g_calli (g_runV (As := [.int (0 : Int32)]) (rest := []) ⟨hx, hb, hml, hown, hts⟩ (m_X11_one l D cy ad h_124 g_40 H.size (0 : Int32) P_127 HC_127) (cwV 1 hts (gd_V (wm5 120 rfl rfl) (wm5 122 rfl rfl) (wmp3 (q := (yX11_one, 26)) 7 rfl) (wm1 13 rfl rfl) (wm5 123 rfl rfl)) rfl rfl rfl (by decide +kernel) ⟨Nat.le_of_ble_eq_true rfl, Nat.le_of_ble_eq_true rfl⟩) hK hNw hG gl_135 rfl gk_135 (by decide) rfl rfl hl.1 rfl (lv_room (Nat.le_of_ble_eq_true rfl)) dX11_part_127 ⟨Nat.zero_le _, Nat.zero_le _⟩) hG (fun r_127 h_127 g_127 H locs hq hG => ?_)
              replace HW := HW r_127 h_127 g_127 hq
              exact W.iret (v := r_127) hx hb hr (fun t ht hW => ⟨⟨r_127, (h_127, g_127), rfl, HW, g_B ht hG⟩, hG.2.2.F ht⟩) hG.2.2.2.2 dX11_part_130
            · replace HW := HW.2 c_57
              refine lv_bipush (v := (-4)) hx hb dX11_part_60 (by decide) ?_
              exact W.iret (v := (-4 : Int32)) hx hb hr (fun t ht hW => ⟨⟨(-4 : Int32), (h_40, g_40), rfl, HW, g_B ht hG⟩, hG.2.2.F ht⟩) hG.2.2.2.2 dX11_part_62
          · replace HW := HW.2 c_43
            refine lv_bipush (v := (-2)) hx hb dX11_part_46 (by decide) ?_
            exact W.iret (v := (-2 : Int32)) hx hb hr (fun t ht hW => ⟨⟨(-2 : Int32), (h_40, g_40), rfl, HW, g_B ht hG⟩, hG.2.2.F ht⟩) hG.2.2.2.2 dX11_part_48
  exact E0 _ _ _ hG hl
