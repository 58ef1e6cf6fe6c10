def b_X6_deniedSayings_4 (o : Nat) (Q : Int32 → HI → HL → Prop) (K4 : Int32 → Int32 → HI → HL → Prop) (x1 : Int32) (x2 : Int32) (h : HI) (g : HL) : Prop :=
  (∃ P_9 : Int32 → HI → HL → Prop, w_X8_rows (o + 5) h g P_9 ∧ ∀ (r_9 : Int32) (h_9 : HI) (g_9 : HL), P_9 r_9 h_9 g_9 → ((r_9 ≤ x2 → Q x1 h_9 g_9) ∧ (¬ r_9 ≤ x2 → (∃ P_22 : Int32 → HI → HL → Prop, w_X8_at (o + 5) x2 (5 : Int32) h_9 g_9 P_22 ∧ ∀ (r_22 : Int32) (h_22 : HI) (g_22 : HL), P_22 r_22 h_22 g_22 → (∀ x1_26 : Int32, x1_26 = (x1 + r_22) → (∀ x2_27 : Int32, x2_27 = (x2 + 1) → K4 x1_26 x2_27 h_22 g_22))))))
def F_X6_deniedSayings_4 (o : Nat) (Q : Int32 → HI → HL → Prop) (K : Int32 × Int32 × HI × HL → Prop) (q : Int32 × Int32 × HI × HL) : Prop := b_X6_deniedSayings_4 o Q (fun x1 x2 h g => K (x1, x2, h, g)) q.1 q.2.1 q.2.2.1 q.2.2.2
def w_X6_deniedSayings (o : Nat) (h : HI) (g : HL) (Q : Int32 → HI → HL → Prop) : Prop :=
  lpE (F_X6_deniedSayings_4 o Q) ((0 : Int32), (0 : Int32), h, g)
set_option maxHeartbeats 8000000 in
set_option maxRecDepth 100000 in
theorem m_X6_deniedSayings (l : Launch) (D : va_G) (cy : Nat → ClassId) (ad : Nat → Nat) (h : HI) (g : HL) (sz : Nat) (o : Nat) (hT : isS o) (Q : Int32 → HI → HL → Prop) (HW : w_X6_deniedSayings o h g Q) : Met l yX6_deniedSayings (wa yX6_deniedSayings cX6_deniedSayings 3 (some .int)) ({ frames := 1, cells := 0, slots := 0, locals := 23 }) (va_Pc [.ref (ad o)] (gI D cy ad h g sz)) (va_Qi (fun (r : Int32) (u : HI × HL) => Q r u.1 u.2) (gB D cy ad sz) (gA ad sz)) 0 0 (gA ad sz) := by
  refine Met.ofW (cc := cX6_deniedSayings) (maxL := 3) (ret := (some .int)) (by decide) rfl ?_
  intro p e s m args below meth c s₁ B hml hv
  obtain ⟨hav, hsz, hP, hK, hD0, hNw⟩ := hv
  have hx := B.exec
  have hb := B.bytes
  have hr := B.returns
  have hts := atoms_spec (ws := (wa yX6_deniedSayings cX6_deniedSayings 3 (some .int))) B.pre
  have hw := wa_hw hts
  have hown : s.vm.findClass RX6 = some m.cls := findClass_of_methodNamed B.named
  have hlocks := B.notSynchronized
  subst hsz
  have hG : gG D cy ad (gA ad s.heap.size) s.heap h g s.heap [] := ⟨hP, gA_self hD0, va_S.rf⟩
  clear hP hD0
  have lk23 := hw (.fieldLink RX6 23 "OldWorks$Shop" "sayings" "LOldWorks$Table;") (wm1 68 rfl rfl)
  rw [show (headSpec (wa yX6_deniedSayings cX6_deniedSayings 3 (some .int)) ({ frames := 1, cells := 0, slots := 0, locals := 23 } : Room)).room = ({ frames := 1, cells := 0, slots := 0, locals := 23 } : Room) from rfl]
  have hl := lv_entry ([.ref (ad o)]) (n := 3) (Nat.le_of_ble_eq_true rfl)
  rw [show entryFrame m args 3 = entryFrame m ([.ref (ad o)] : List Value).toArray 3 from by rw [hav], lg_entry_eq]
  generalize (lg_sl ([.ref (ad o)]) ++ List.replicate (3 - (lg_sl ([.ref (ad o)])).length) Slot.unset).toArray = ls at hl ⊢
  have hl : lv_has ls 3 [(0, .ref (ad o))] := hl
  have L4 : ∀ (n : Nat) (x1 : Int32) (x2 : Int32) (h : HI) (g : HL) (H : Heap) (locs : List Loc) (ls : Array Slot), lpN (F_X6_deniedSayings_4 o Q) n (x1, x2, h, g) → gG D cy ad (gA ad s.heap.size) s.heap h g H locs → lv_has ls 3 [(0, .ref (ad o)), (1, .int x1), (2, .int x2)] → W p l e ({ frames := 1, cells := 0, slots := 0, locals := 23 } : Room) s m args below meth c H locs 0 0 (MQ below (va_Qi (fun (r : Int32) (u : HI × HL) => Q r u.1 u.2) (gB D cy ad s.heap.size) (gA ad s.heap.size)) args s 0 0 (gA ad s.heap.size)) (F0 m 4 ls []) := by
    intro n
    induction n with
    | zero => intro x1 x2 h g H locs ls HW; exact HW.elim
    | succ n ih =>
      intro x1 x2 h g H locs ls HW hG hl
      have HW : b_X6_deniedSayings_4 o Q (fun x1 x2 h g => lpN (F_X6_deniedSayings_4 o Q) n (x1, x2, h, g)) x1 x2 h g := HW
      generalize hKe : (fun (x1 : Int32) (x2 : Int32) (h : HI) (g : HL) => lpN (F_X6_deniedSayings_4 o Q) n (x1, x2, h, g)) = K4 at HW
      have hK4 : ∀ (x1 : Int32) (x2 : Int32) (h : HI) (g : HL) (H : Heap) (locs : List Loc) (ls : Array Slot), K4 x1 x2 h g → gG D cy ad (gA ad s.heap.size) s.heap h g H locs → lv_has ls 3 [(0, .ref (ad o)), (1, .int x1), (2, .int x2)] → W p l e ({ frames := 1, cells := 0, slots := 0, locals := 23 } : Room) s m args below meth c H locs 0 0 (MQ below (va_Qi (fun (r : Int32) (u : HI × HL) => Q r u.1 u.2) (gB D cy ad s.heap.size) (gA ad s.heap.size)) args s 0 0 (gA ad s.heap.size)) (F0 m 4 ls []) := by subst hKe; exact ih
      clear ih
      clear hKe
      unfold b_X6_deniedSayings_4 at HW
      refine lv_iload_n hx hb dX6_deniedSayings_4 rfl (lv_at hl 2 rfl) ?_
      refine lv_aload_n hx hb dX6_deniedSayings_5 rfl (lv_at hl 0 rfl) ?_
      refine g_getr hx hb hw inG6 hown hK hG hT.lt rfl hT.k (by decide) 2 (by decide) (by rw [hT.m]; decide) (r := (o + 5)) (show gR o 2 = some (o + 5) from (hT.r 2 (by decide)).1) lk23 dX6_deniedSayings_6 ?_
      obtain ⟨P_9, HC_9, HW⟩ := HW
      refine g_calli (g_runV (As := []) (rest := [.int x2]) ⟨hx, hb, hml, hown, hts⟩ (m_X8_rows l D cy ad h g H.size (o + 5) (show isT (o + 5) from (hT.r 2 (by decide)).2) P_9 HC_9) (cwV 0 hts (gd_V (wm4 237 rfl rfl) (wm2 217 rfl rfl) (wm2 218 rfl rfl) (wm1 3 rfl rfl) (wm2 219 rfl rfl)) rfl rfl rfl (by decide +kernel) ⟨Nat.le_of_ble_eq_true rfl, Nat.le_of_ble_eq_true rfl⟩) hK hNw hG ((show isT (o + 5) from (hT.r 2 (by decide)).2).lt) rfl ((show isT (o + 5) from (hT.r 2 (by decide)).2).k) (by decide) rfl rfl hl.1 rfl (lv_room (Nat.le_of_ble_eq_true rfl)) dX6_deniedSayings_9 ⟨Nat.zero_le _, Nat.zero_le _⟩) hG (fun r_9 h_9 g_9 H locs hq hG => ?_)
      replace HW := HW r_9 h_9 g_9 hq
      refine lv_icmp_ge (tgt := 33) hx hb dX6_deniedSayings_12 (by decide) (fun c_12 => ?_) (fun c_12 => ?_)
      · replace HW := HW.1 c_12
        refine lv_iload_n hx hb dX6_deniedSayings_33 rfl (lv_at hl 1 rfl) ?_
        exact W.iret (v := x1) hx hb hr (fun t ht hW => ⟨⟨x1, (h_9, g_9), rfl, HW, g_B ht hG⟩, hG.2.2.F ht⟩) hG.2.2.2.2 dX6_deniedSayings_34
      · replace HW := HW.2 c_12
        refine lv_iload_n hx hb dX6_deniedSayings_15 rfl (lv_at hl 1 rfl) ?_
        refine lv_aload_n hx hb dX6_deniedSayings_16 rfl (lv_at hl 0 rfl) ?_
        refine g_getr hx hb hw inG6 hown hK hG hT.lt rfl hT.k (by decide) 2 (by decide) (by rw [hT.m]; decide) (r := (o + 5)) (show gR o 2 = some (o + 5) from (hT.r 2 (by decide)).1) lk23 dX6_deniedSayings_17 ?_
        refine lv_iload_n hx hb dX6_deniedSayings_20 rfl (lv_at hl 2 rfl) ?_
        refine lv_iconst (v := 5) hx hb dX6_deniedSayings_21 (by decide) ?_
        obtain ⟨P_22, HC_22, HW⟩ := HW
        refine g_calli (g_runV (As := [.int x2, .int (5 : Int32)]) (rest := [.int x1]) ⟨hx, hb, hml, hown, hts⟩ (m_X8_at l D cy ad h_9 g_9 H.size (o + 5) (show isT (o + 5) from (hT.r 2 (by decide)).2) x2 (5 : Int32) P_22 HC_22) (cwV 2 hts (gd_V (wm3 143 rfl rfl) (wm2 221 rfl rfl) (wm2 222 rfl rfl) (wm1 3 rfl rfl) (wm2 223 rfl rfl)) rfl rfl rfl (by decide +kernel) ⟨Nat.le_of_ble_eq_true rfl, Nat.le_of_ble_eq_true rfl⟩) hK hNw hG ((show isT (o + 5) from (hT.r 2 (by decide)).2).lt) rfl ((show isT (o + 5) from (hT.r 2 (by decide)).2).k) (by decide) rfl rfl hl.1 rfl (lv_room (Nat.le_of_ble_eq_true rfl)) dX6_deniedSayings_22 ⟨Nat.zero_le _, Nat.zero_le _⟩) hG (fun r_22 h_22 g_22 H locs hq hG => ?_)
        replace HW := HW r_22 h_22 g_22 hq
        refine lv_iadd hx hb dX6_deniedSayings_25 ?_
        refine lv_topi (fun x1_26 ex1_26 => ?_)
        replace HW := HW x1_26 ex1_26
        refine lv_istore_n (lv' := [(1, .int x1_26), (0, .ref (ad o)), (2, .int x2)]) hx hb dX6_deniedSayings_26 rfl hl (by decide) rfl (fun ls hl => ?_)
        obtain ⟨x2_27, ex2_27⟩ : ∃ y : Int32, y = (x2 + 1) := ⟨_, rfl⟩
        replace HW := HW x2_27 ex2_27
        refine lv_iinc (v := x2_27) (lv' := [(2, .int x2_27), (1, .int x1_26), (0, .ref (ad o))]) hx hb dX6_deniedSayings_27 hl (k := 2) rfl (by rw [ex2_27]; rfl) (by decide) rfl (fun ls hl => ?_)
        refine lv_goto (tgt := 4) hx hb dX6_deniedSayings_30 (by decide) ?_
        exact hK4 x1_26 x2_27 h_22 g_22 _ _ _ HW hG (lv_sub hl [2, 1, 0] rfl)
  have E0 : ∀ (H : Heap) (locs : List Loc) (ls : Array Slot), gG D cy ad (gA ad s.heap.size) s.heap h g H locs → lv_has ls 3 [(0, .ref (ad o))] → W p l e ({ frames := 1, cells := 0, slots := 0, locals := 23 } : Room) s m args below meth c H locs 0 0 (MQ below (va_Qi (fun (r : Int32) (u : HI × HL) => Q r u.1 u.2) (gB D cy ad s.heap.size) (gA ad s.heap.size)) args s 0 0 (gA ad s.heap.size)) (F0 m 0 ls []) := by
    intro H locs ls hG hl
    unfold w_X6_deniedSayings at HW
    refine lv_iconst (v := 0) hx hb dX6_deniedSayings_0 (by decide) ?_
    refine lv_istore_n (lv' := [(1, .int (0 : Int32)), (0, .ref (ad o))]) hx hb dX6_deniedSayings_1 rfl hl (by decide) rfl (fun ls hl => ?_)
    refine lv_iconst (v := 0) hx hb dX6_deniedSayings_2 (by decide) ?_
    refine lv_istore_n (lv' := [(2, .int (0 : Int32)), (1, .int (0 : Int32)), (0, .ref (ad o))]) hx hb dX6_deniedSayings_3 rfl hl (by decide) rfl (fun ls hl => ?_)
    obtain ⟨n_4, HW⟩ := HW
    exact L4 n_4 (0 : Int32) (0 : Int32) h g _ _ _ HW hG (lv_sub hl [2, 1, 0] rfl)
  exact E0 _ _ _ hG hl

def b_X6_isIn_13 (o : Nat) (Q : Int32 → HI → HL → Prop) (K13 : Int32 → Int32 → Int32 → Int32 → HI → HL → Prop) (x1 : Int32) (x2 : Int32) (x3 : Int32) (x4 : Int32) (h : HI) (g : HL) : Prop :=
  ((x3 ≤ x4 → Q (0 : Int32) h g) ∧ (¬ x3 ≤ x4 → (∃ P_30 : Int32 → HI → HL → Prop, w_X8_at (o + 7) x1 ((3 : Int32) + ((2 : Int32) * x4)) h g P_30 ∧ ∀ (r_30 : Int32) (h_30 : HI) (g_30 : HL), P_30 r_30 h_30 g_30 → ((¬ r_30 = x2 → (∀ x4_39 : Int32, x4_39 = (x4 + 1) → K13 x1 x2 x3 x4_39 h_30 g_30)) ∧ (r_30 = x2 → Q (1 : Int32) h_30 g_30)))))
def F_X6_isIn_13 (o : Nat) (Q : Int32 → HI → HL → Prop) (K : Int32 × Int32 × Int32 × Int32 × HI × HL → Prop) (q : Int32 × Int32 × Int32 × Int32 × HI × HL) : Prop := b_X6_isIn_13 o Q (fun x1 x2 x3 x4 h g => K (x1, x2, x3, x4, h, g)) q.1 q.2.1 q.2.2.1 q.2.2.2.1 q.2.2.2.2.1 q.2.2.2.2.2
def w_X6_isIn (o : Nat) (x1 : Int32) (x2 : Int32) (h : HI) (g : HL) (Q : Int32 → HI → HL → Prop) : Prop :=
  (∃ P_6 : Int32 → HI → HL → Prop, w_X8_at (o + 7) x1 (2 : Int32) h g P_6 ∧ ∀ (r_6 : Int32) (h_6 : HI) (g_6 : HL), P_6 r_6 h_6 g_6 → lpE (F_X6_isIn_13 o Q) (x1, x2, r_6, (0 : Int32), h_6, g_6))
set_option maxHeartbeats 8000000 in
set_option maxRecDepth 100000 in
theorem m_X6_isIn (l : Launch) (D : va_G) (cy : Nat → ClassId) (ad : Nat → Nat) (h : HI) (g : HL) (sz : Nat) (o : Nat) (hT : isS o) (x1 : Int32) (x2 : Int32) (Q : Int32 → HI → HL → Prop) (HW : w_X6_isIn o x1 x2 h g Q) : Met l yX6_isIn (wa yX6_isIn cX6_isIn 5 (some .boolean)) ({ frames := 1, cells := 0, slots := 0, locals := 23 }) (va_Pc [.ref (ad o), .int x1, .int x2] (gI D cy ad h g sz)) (va_Qi (fun (r : Int32) (u : HI × HL) => zb r ∧ Q r u.1 u.2) (gB D cy ad sz) (gA ad sz)) 0 0 (gA ad sz) := by
  refine Met.ofW (cc := cX6_isIn) (maxL := 5) (ret := (some .boolean)) (by decide) rfl ?_
  intro p e s m args below meth c s₁ B hml hv
  obtain ⟨hav, hsz, hP, hK, hD0, hNw⟩ := hv
  have hx := B.exec
  have hb := B.bytes
  have hr := B.returns
  have hts := atoms_spec (ws := (wa yX6_isIn cX6_isIn 5 (some .boolean))) B.pre
  have hw := wa_hw hts
  have hown : s.vm.findClass RX6 = some m.cls := findClass_of_methodNamed B.named
  have hlocks := B.notSynchronized
  subst hsz
  have hG : gG D cy ad (gA ad s.heap.size) s.heap h g s.heap [] := ⟨hP, gA_self hD0, va_S.rf⟩
  clear hP hD0
  have lk26 := hw (.fieldLink RX6 26 "OldWorks$Shop" "chains" "LOldWorks$Table;") (wm1 71 rfl rfl)
  rw [show (headSpec (wa yX6_isIn cX6_isIn 5 (some .boolean)) ({ frames := 1, cells := 0, slots := 0, locals := 23 } : Room)).room = ({ frames := 1, cells := 0, slots := 0, locals := 23 } : Room) from rfl]
  have hl := lv_entry ([.ref (ad o), .int x1, .int x2]) (n := 5) (Nat.le_of_ble_eq_true rfl)
  rw [show entryFrame m args 5 = entryFrame m ([.ref (ad o), .int x1, .int x2] : List Value).toArray 5 from by rw [hav], lg_entry_eq]
  generalize (lg_sl ([.ref (ad o), .int x1, .int x2]) ++ List.replicate (5 - (lg_sl ([.ref (ad o), .int x1, .int x2])).length) Slot.unset).toArray = ls at hl ⊢
  have hl : lv_has ls 5 [(0, .ref (ad o)), (1, .int x1), (2, .int x2)] := hl
  have L13 : ∀ (n : Nat) (x1 : Int32) (x2 : Int32) (x3 : Int32) (x4 : Int32) (h : HI) (g : HL) (H : Heap) (locs : List Loc) (ls : Array Slot), lpN (F_X6_isIn_13 o Q) n (x1, x2, x3, x4, h, g) → gG D cy ad (gA ad s.heap.size) s.heap h g H locs → lv_has ls 5 [(0, .ref (ad o)), (1, .int x1), (2, .int x2), (3, .int x3), (4, .int x4)] → W p l e ({ frames := 1, cells := 0, slots := 0, locals := 23 } : Room) s m args below meth c H locs 0 0 (MQ below (va_Qi (fun (r : Int32) (u : HI × HL) => zb r ∧ Q r u.1 u.2) (gB D cy ad s.heap.size) (gA ad s.heap.size)) args s 0 0 (gA ad s.heap.size)) (F0 m 13 ls []) := by
    intro n
    induction n with
    | zero => intro x1 x2 x3 x4 h g H locs ls HW; exact HW.elim
    | succ n ih =>
      intro x1 x2 x3 x4 h g H locs ls HW hG hl
      have HW : b_X6_isIn_13 o Q (fun x1 x2 x3 x4 h g => lpN (F_X6_isIn_13 o Q) n (x1, x2, x3, x4, h, g)) x1 x2 x3 x4 h g := HW
      generalize hKe : (fun (x1 : Int32) (x2 : Int32) (x3 : Int32) (x4 : Int32) (h : HI) (g : HL) => lpN (F_X6_isIn_13 o Q) n (x1, x2, x3, x4, h, g)) = K13 at HW
      have hK13 : ∀ (x1 : Int32) (x2 : Int32) (x3 : Int32) (x4 : Int32) (h : HI) (g : HL) (H : Heap) (locs : List Loc) (ls : Array Slot), K13 x1 x2 x3 x4 h g → gG D cy ad (gA ad s.heap.size) s.heap h g H locs → lv_has ls 5 [(0, .ref (ad o)), (1, .int x1), (2, .int x2), (3, .int x3), (4, .int x4)] → W p l e ({ frames := 1, cells := 0, slots := 0, locals := 23 } : Room) s m args below meth c H locs 0 0 (MQ below (va_Qi (fun (r : Int32) (u : HI × HL) => zb r ∧ Q r u.1 u.2) (gB D cy ad s.heap.size) (gA ad s.heap.size)) args s 0 0 (gA ad s.heap.size)) (F0 m 13 ls []) := by subst hKe; exact ih
      clear ih
      clear hKe
      unfold b_X6_isIn_13 at HW
      refine lv_iload hx hb dX6_isIn_13 (lv_at hl 4 rfl) ?_
      refine lv_iload_n hx hb dX6_isIn_15 rfl (lv_at hl 3 rfl) ?_
      refine lv_icmp_ge (tgt := 45) hx hb dX6_isIn_16 (by decide) (fun c_16 => ?_) (fun c_16 => ?_)
      · replace HW := HW.1 c_16
        refine lv_iconst (v := 0) hx hb dX6_isIn_45 (by decide) ?_
        exact W.zret (v := (0 : Int32)) hx hb hr rfl (fun t ht hW => ⟨⟨(0 : Int32), (h, g), rfl, ⟨Or.inl rfl, HW⟩, g_B ht hG⟩, hG.2.2.F ht⟩) hG.2.2.2.2 dX6_isIn_46
      · replace HW := HW.2 c_16
        refine lv_aload_n hx hb dX6_isIn_19 rfl (lv_at hl 0 rfl) ?_
        refine g_getr hx hb hw inG6 hown hK hG hT.lt rfl hT.k (by decide) 3 (by decide) (by rw [hT.m]; decide) (r := (o + 7)) (show gR o 3 = some (o + 7) from (hT.r 3 (by decide)).1) lk26 dX6_isIn_20 ?_
        refine lv_iload_n hx hb dX6_isIn_23 rfl (lv_at hl 1 rfl) ?_
        refine lv_iconst (v := 3) hx hb dX6_isIn_24 (by decide) ?_
        refine lv_iconst (v := 2) hx hb dX6_isIn_25 (by decide) ?_
        refine lv_iload hx hb dX6_isIn_26 (lv_at hl 4 rfl) ?_
        refine lv_imul hx hb dX6_isIn_28 ?_
        refine lv_iadd hx hb dX6_isIn_29 ?_
        obtain ⟨P_30, HC_30, HW⟩ := HW
        refine g_calli (g_runV (As := [.int x1, .int ((3 : Int32) + ((2 : Int32) * x4))]) (rest := []) ⟨hx, hb, hml, hown, hts⟩ (m_X8_at l D cy ad h g H.size (o + 7) (show isT (o + 7) from (hT.r 3 (by decide)).2) x1 ((3 : Int32) + ((2 : Int32) * x4)) P_30 HC_30) (cwV 2 hts (gd_V (wm3 143 rfl rfl) (wm2 221 rfl rfl) (wm2 222 rfl rfl) (wm1 3 rfl rfl) (wm2 223 rfl rfl)) rfl rfl rfl (by decide +kernel) ⟨Nat.le_of_ble_eq_true rfl, Nat.le_of_ble_eq_true rfl⟩) hK hNw hG ((show isT (o + 7) from (hT.r 3 (by decide)).2).lt) rfl ((show isT (o + 7) from (hT.r 3 (by decide)).2).k) (by decide) rfl rfl hl.1 rfl (lv_room (Nat.le_of_ble_eq_true rfl)) dX6_isIn_30 ⟨Nat.zero_le _, Nat.zero_le _⟩) hG (fun r_30 h_30 g_30 H locs hq hG => ?_)
        replace HW := HW r_30 h_30 g_30 hq
        refine lv_iload_n hx hb dX6_isIn_33 rfl (lv_at hl 2 rfl) ?_
        refine lv_icmp_ne (tgt := 39) hx hb dX6_isIn_34 (by decide) (fun c_34 => ?_) (fun c_34 => ?_)
        · replace HW := HW.1 c_34
          obtain ⟨x4_39, ex4_39⟩ : ∃ y : Int32, y = (x4 + 1) := ⟨_, rfl⟩
          replace HW := HW x4_39 ex4_39
          refine lv_iinc (v := x4_39) (lv' := [(4, .int x4_39), (0, .ref (ad o)), (1, .int x1), (2, .int x2), (3, .int x3)]) hx hb dX6_isIn_39 hl (k := 4) rfl (by rw [ex4_39]; rfl) (by decide) rfl (fun ls hl => ?_)
          refine lv_goto (tgt := 13) hx hb dX6_isIn_42 (by decide) ?_
          exact hK13 x1 x2 x3 x4_39 h_30 g_30 _ _ _ HW hG (lv_sub hl [1, 2, 3, 4, 0] rfl)
        · replace HW := HW.2 c_34
          refine lv_iconst (v := 1) hx hb dX6_isIn_37 (by decide) ?_
          exact W.zret (v := (1 : Int32)) hx hb hr rfl (fun t ht hW => ⟨⟨(1 : Int32), (h_30, g_30), rfl, ⟨Or.inr rfl, HW⟩, g_B ht hG⟩, hG.2.2.F ht⟩) hG.2.2.2.2 dX6_isIn_38
  have E0 : ∀ (H : Heap) (locs : List Loc) (ls : Array Slot), gG D cy ad (gA ad s.heap.size) s.heap h g H locs → lv_has ls 5 [(0, .ref (ad o)), (1, .int x1), (2, .int x2)] → W p l e ({ frames := 1, cells := 0, slots := 0, locals := 23 } : Room) s m args below meth c H locs 0 0 (MQ below (va_Qi (fun (r : Int32) (u : HI × HL) => zb r ∧ Q r u.1 u.2) (gB D cy ad s.heap.size) (gA ad s.heap.size)) args s 0 0 (gA ad s.heap.size)) (F0 m 0 ls []) := by
    intro H locs ls hG hl
    unfold w_X6_isIn at HW
    refine lv_aload_n hx hb dX6_isIn_0 rfl (lv_at hl 0 rfl) ?_
    refine g_getr hx hb hw inG6 hown hK hG hT.lt rfl hT.k (by decide) 3 (by decide) (by rw [hT.m]; decide) (r := (o + 7)) (show gR o 3 = some (o + 7) from (hT.r 3 (by decide)).1) lk26 dX6_isIn_1 ?_
    refine lv_iload_n hx hb dX6_isIn_4 rfl (lv_at hl 1 rfl) ?_
    refine lv_iconst (v := 2) hx hb dX6_isIn_5 (by decide) ?_
    obtain ⟨P_6, HC_6, HW⟩ := HW
    refine g_calli (g_runV (As := [.int x1, .int (2 : Int32)]) (rest := []) ⟨hx, hb, hml, hown, hts⟩ (m_X8_at l D cy ad h g H.size (o + 7) (show isT (o + 7) from (hT.r 3 (by decide)).2) x1 (2 : Int32) P_6 HC_6) (cwV 2 hts (gd_V (wm3 143 rfl rfl) (wm2 221 rfl rfl) (wm2 222 rfl rfl) (wm1 3 rfl rfl) (wm2 223 rfl rfl)) rfl rfl rfl (by decide +kernel) ⟨Nat.le_of_ble_eq_true rfl, Nat.le_of_ble_eq_true rfl⟩) hK hNw hG ((show isT (o + 7) from (hT.r 3 (by decide)).2).lt) rfl ((show isT (o + 7) from (hT.r 3 (by decide)).2).k) (by decide) rfl rfl hl.1 rfl (lv_room (Nat.le_of_ble_eq_true rfl)) dX6_isIn_6 ⟨Nat.zero_le _, Nat.zero_le _⟩) hG (fun r_6 h_6 g_6 H locs hq hG => ?_)
    replace HW := HW r_6 h_6 g_6 hq
    refine lv_istore_n (lv' := [(3, .int r_6), (0, .ref (ad o)), (1, .int x1), (2, .int x2)]) hx hb dX6_isIn_9 rfl hl (by decide) rfl (fun ls hl => ?_)
    refine lv_iconst (v := 0) hx hb dX6_isIn_10 (by decide) ?_
    refine lv_istore (lv' := [(4, .int (0 : Int32)), (3, .int r_6), (0, .ref (ad o)), (1, .int x1), (2, .int x2)]) hx hb dX6_isIn_11 hl (by decide) rfl (fun ls hl => ?_)
    obtain ⟨n_13, HW⟩ := HW
    exact L13 n_13 x1 x2 r_6 (0 : Int32) h_6 g_6 _ _ _ HW hG (lv_sub hl [2, 3, 4, 1, 0] rfl)
  exact E0 _ _ _ hG hl

def w_X7_answer (x1 : Int32) (h : HI) (g : HL) (Q : Int32 → HI → HL → Prop) : Prop :=
  ((¬ x1 = 0 → ((¬ x1 = (1 : Int32) → Q (h 81 11) h g) ∧ (x1 = (1 : Int32) → Q (h 81 10) h g))) ∧ (x1 = 0 → Q (h 81 9) h g))
set_option maxHeartbeats 8000000 in
set_option maxRecDepth 100000 in
theorem m_X7_answer (l : Launch) (D : va_G) (cy : Nat → ClassId) (ad : Nat → Nat) (h : HI) (g : HL) (sz : Nat) (x1 : Int32) (Q : Int32 → HI → HL → Prop) (HW : w_X7_answer x1 h g Q) : Met l yX7_answer (wa yX7_answer cX7_answer 2 (some .int)) ({ frames := 0, cells := 0, slots := 0, locals := 0 }) (va_Pc [.ref (ad 81), .int x1] (gI D cy ad h g sz)) (va_Qi (fun (r : Int32) (u : HI × HL) => Q r u.1 u.2) (gB D cy ad sz) (gA ad sz)) 0 0 (gA ad sz) := by
  refine Met.ofW (cc := cX7_answer) (maxL := 2) (ret := (some .int)) (by decide) rfl ?_
  intro p e s m args below meth c s₁ B hml hv
  obtain ⟨hav, hsz, hP, hK, hD0, hNw⟩ := hv
  have hx := B.exec
  have hb := B.bytes
  have hr := B.returns
  have hts := atoms_spec (ws := (wa yX7_answer cX7_answer 2 (some .int))) B.pre
  have hw := wa_hw hts
  have hown : s.vm.findClass RX7 = some m.cls := findClass_of_methodNamed B.named
  have hlocks := B.notSynchronized
  subst hsz
  have hG : gG D cy ad (gA ad s.heap.size) s.heap h g s.heap [] := ⟨hP, gA_self hD0, va_S.rf⟩
  clear hP hD0
  have lk98 := hw (.fieldLink RX7 98 "OldWorks$Sizes" "many" "I") (wm1 182 rfl rfl)
  have lk104 := hw (.fieldLink RX7 104 "OldWorks$Sizes" "greatest" "I") (wm1 180 rfl rfl)
  have lk101 := hw (.fieldLink RX7 101 "OldWorks$Sizes" "least" "I") (wm1 178 rfl rfl)
  rw [show (headSpec (wa yX7_answer cX7_answer 2 (some .int)) ({ frames := 0, cells := 0, slots := 0, locals := 0 } : Room)).room = ({ frames := 0, cells := 0, slots := 0, locals := 0 } : Room) from rfl]
  have hl := lv_entry ([.ref (ad 81), .int x1]) (n := 2) (Nat.le_of_ble_eq_true rfl)
  rw [show entryFrame m args 2 = entryFrame m ([.ref (ad 81), .int x1] : List Value).toArray 2 from by rw [hav], lg_entry_eq]
  generalize (lg_sl ([.ref (ad 81), .int x1]) ++ List.replicate (2 - (lg_sl ([.ref (ad 81), .int x1])).length) Slot.unset).toArray = ls at hl ⊢
  have hl : lv_has ls 2 [(0, .ref (ad 81)), (1, .int x1)] := hl
  have E0 : ∀ (H : Heap) (locs : List Loc) (ls : Array Slot), gG D cy ad (gA ad s.heap.size) s.heap h g H locs → lv_has ls 2 [(0, .ref (ad 81)), (1, .int x1)] → W p l e ({ frames := 0, cells := 0, slots := 0, locals := 0 } : Room) s m args below meth c H locs 0 0 (MQ below (va_Qi (fun (r : Int32) (u : HI × HL) => Q r u.1 u.2) (gB D cy ad s.heap.size) (gA ad s.heap.size)) args s 0 0 (gA ad s.heap.size)) (F0 m 0 ls []) := by
    intro H locs ls hG hl
    unfold w_X7_answer at HW
    refine lv_iload_n hx hb dX7_answer_0 rfl (lv_at hl 1 rfl) ?_
    refine lv_if_ne (tgt := 11) hx hb dX7_answer_1 (by decide) (fun c_1 => ?_) (fun c_1 => ?_)
    · replace HW := HW.1 c_1
      refine lv_iload_n hx hb dX7_answer_11 rfl (lv_at hl 1 rfl) ?_
      refine lv_iconst (v := 1) hx hb dX7_answer_12 (by decide) ?_
      refine lv_icmp_ne (tgt := 23) hx hb dX7_answer_13 (by decide) (fun c_13 => ?_) (fun c_13 => ?_)
      · replace HW := HW.1 c_13
        refine lv_aload_n hx hb dX7_answer_23 rfl (lv_at hl 0 rfl) ?_
        refine g_geti hx hb hw inG7 hown hK hG gl_81 rfl gk_81 (by decide) 11 (by decide) (by rw [gm_81]; decide) gr_81_11 lk98 dX7_answer_24 ?_
        exact W.iret (v := (h 81 11)) hx hb hr (fun t ht hW => ⟨⟨(h 81 11), (h, g), rfl, HW, g_B ht hG⟩, hG.2.2.F ht⟩) hG.2.2.2.2 dX7_answer_27
      · replace HW := HW.2 c_13
        refine lv_aload_n hx hb dX7_answer_16 rfl (lv_at hl 0 rfl) ?_
        refine g_geti hx hb hw inG7 hown hK hG gl_81 rfl gk_81 (by decide) 10 (by decide) (by rw [gm_81]; decide) gr_81_10 lk104 dX7_answer_17 ?_
        refine lv_goto (tgt := 27) hx hb dX7_answer_20 (by decide) ?_
        exact W.iret (v := (h 81 10)) hx hb hr (fun t ht hW => ⟨⟨(h 81 10), (h, g), rfl, HW, g_B ht hG⟩, hG.2.2.F ht⟩) hG.2.2.2.2 dX7_answer_27
    · replace HW := HW.2 c_1
      refine lv_aload_n hx hb dX7_answer_4 rfl (lv_at hl 0 rfl) ?_
      refine g_geti hx hb hw inG7 hown hK hG gl_81 rfl gk_81 (by decide) 9 (by decide) (by rw [gm_81]; decide) gr_81_9 lk101 dX7_answer_5 ?_
      refine lv_goto (tgt := 27) hx hb dX7_answer_8 (by decide) ?_
      exact W.iret (v := (h 81 9)) hx hb hr (fun t ht hW => ⟨⟨(h 81 9), (h, g), rfl, HW, g_B ht hG⟩, hG.2.2.F ht⟩) hG.2.2.2.2 dX7_answer_27
  exact E0 _ _ _ hG hl

def j_X7_denies_42 (Q : Int32 → HI → HL → Prop) (h : HI) (g : HL) : Prop :=
  Q (1 : Int32) h g
def w_X7_denies (x1 : Int32) (x2 : Int32) (h : HI) (g : HL) (Q : Int32 → HI → HL → Prop) : Prop :=
  ((x1 < 0 → Q (0 : Int32) h g) ∧ (¬ x1 < 0 → (((60 : Int32) ≤ x1 → Q (0 : Int32) h g) ∧ (¬ (60 : Int32) ≤ x1 → (((60 : Int32) ≤ x1 → Q (0 : Int32) h g) ∧ (¬ (60 : Int32) ≤ x1 → (vp_in x1 60 ∧ ((x2 < (h 82 x1.toNatClampNeg) → j_X7_denies_42 Q h g) ∧ (¬ x2 < (h 82 x1.toNatClampNeg) → (vp_in x1 60 ∧ ((x2 ≤ (h 83 x1.toNatClampNeg) → Q (0 : Int32) h g) ∧ (¬ x2 ≤ (h 83 x1.toNatClampNeg) → j_X7_denies_42 Q h g))))))))))))
set_option maxHeartbeats 8000000 in
set_option maxRecDepth 100000 in
theorem m_X7_denies (l : Launch) (D : va_G) (cy : Nat → ClassId) (ad : Nat → Nat) (h : HI) (g : HL) (sz : Nat) (x1 : Int32) (x2 : Int32) (Q : Int32 → HI → HL → Prop) (HW : w_X7_denies x1 x2 h g Q) : Met l yX7_denies (wa yX7_denies cX7_denies 3 (some .boolean)) ({ frames := 0, cells := 0, slots := 0, locals := 0 }) (va_Pc [.ref (ad 81), .int x1, .int x2] (gI D cy ad h g sz)) (va_Qi (fun (r : Int32) (u : HI × HL) => zb r ∧ Q r u.1 u.2) (gB D cy ad sz) (gA ad sz)) 0 0 (gA ad sz) := by
  refine Met.ofW (cc := cX7_denies) (maxL := 3) (ret := (some .boolean)) (by decide) rfl ?_
  intro p e s m args below meth c s₁ B hml hv
  obtain ⟨hav, hsz, hP, hK, hD0, hNw⟩ := hv
  have hx := B.exec
  have hb := B.bytes
  have hr := B.returns
  have hts := atoms_spec (ws := (wa yX7_denies cX7_denies 3 (some .boolean))) B.pre
  have hw := wa_hw hts
  have hown : s.vm.findClass RX7 = some m.cls := findClass_of_methodNamed B.named
  have hlocks := B.notSynchronized
  subst hsz
  have hG : gG D cy ad (gA ad s.heap.size) s.heap h g s.heap [] := ⟨hP, gA_self hD0, va_S.rf⟩
  clear hP hD0
  have lk19 := hw (.fieldLink RX7 19 "OldWorks$Sizes" "lows" "[I") (wm1 170 rfl rfl)
  have lk23 := hw (.fieldLink RX7 23 "OldWorks$Sizes" "highs" "[I") (wm1 171 rfl rfl)
  rw [show (headSpec (wa yX7_denies cX7_denies 3 (some .boolean)) ({ frames := 0, cells := 0, slots := 0, locals := 0 } : Room)).room = ({ frames := 0, cells := 0, slots := 0, locals := 0 } : Room) from rfl]
  have hl := lv_entry ([.ref (ad 81), .int x1, .int x2]) (n := 3) (Nat.le_of_ble_eq_true rfl)
  rw [show entryFrame m args 3 = entryFrame m ([.ref (ad 81), .int x1, .int x2] : List Value).toArray 3 from by rw [hav], lg_entry_eq]
  generalize (lg_sl ([.ref (ad 81), .int x1, .int x2]) ++ List.replicate (3 - (lg_sl ([.ref (ad 81), .int x1, .int x2])).length) Slot.unset).toArray = ls at hl ⊢
  have hl : lv_has ls 3 [(0, .ref (ad 81)), (1, .int x1), (2, .int x2)] := hl
  have B42 : ∀ (h : HI) (g : HL) (H : Heap) (locs : List Loc) (ls : Array Slot), j_X7_denies_42 Q h g → gG D cy ad (gA ad s.heap.size) s.heap h g H locs → lv_has ls 3 [] → W p l e ({ frames := 0, cells := 0, slots := 0, locals := 0 } : Room) s m args below meth c H locs 0 0 (MQ below (va_Qi (fun (r : Int32) (u : HI × HL) => zb r ∧ Q r u.1 u.2) (gB D cy ad s.heap.size) (gA ad s.heap.size)) args s 0 0 (gA ad s.heap.size)) (F0 m 42 ls []) := by
    intro  h g H locs ls HW hG hl
    unfold j_X7_denies_42 at HW
    refine lv_iconst (v := 1) hx hb dX7_denies_42 (by decide) ?_
    refine lv_goto (tgt := 47) hx hb dX7_denies_43 (by decide) ?_
    exact W.zret (v := (1 : Int32)) hx hb hr rfl (fun t ht hW => ⟨⟨(1 : Int32), (h, g), rfl, ⟨Or.inr rfl, HW⟩, g_B ht hG⟩, hG.2.2.F ht⟩) hG.2.2.2.2 dX7_denies_47
  have E0 : ∀ (H : Heap) (locs : List Loc) (ls : Array Slot), gG D cy ad (gA ad s.heap.size) s.heap h g H locs → lv_has ls 3 [(0, .ref (ad 81)), (1, .int x1), (2, .int x2)] → W p l e ({ frames := 0, cells := 0, slots := 0, locals := 0 } : Room) s m args below meth c H locs 0 0 (MQ below (va_Qi (fun (r : Int32) (u : HI × HL) => zb r ∧ Q r u.1 u.2) (gB D cy ad s.heap.size) (gA ad s.heap.size)) args s 0 0 (gA ad s.heap.size)) (F0 m 0 ls []) := by
    intro H locs ls hG hl
    unfold w_X7_denies at HW
    refine lv_iload_n hx hb dX7_denies_0 rfl (lv_at hl 1 rfl) ?_
    refine lv_if_lt (tgt := 46) hx hb dX7_denies_1 (by decide) (fun c_1 => ?_) (fun c_1 => ?_)
    · replace HW := HW.1 c_1
      refine lv_iconst (v := 0) hx hb dX7_denies_46 (by decide) ?_
      exact W.zret (v := (0 : Int32)) hx hb hr rfl (fun t ht hW => ⟨⟨(0 : Int32), (h, g), rfl, ⟨Or.inl rfl, HW⟩, g_B ht hG⟩, hG.2.2.F ht⟩) hG.2.2.2.2 dX7_denies_47
    · replace HW := HW.2 c_1
      refine lv_iload_n hx hb dX7_denies_4 rfl (lv_at hl 1 rfl) ?_
      refine lv_aload_n hx hb dX7_denies_5 rfl (lv_at hl 0 rfl) ?_
      refine g_getr hx hb hw inG7 hown hK hG gl_81 rfl gk_81 (by decide) 2 (by decide) (by rw [gm_81]; decide) (r := 82) gr_81_2 lk19 dX7_denies_6 ?_
      refine g_alen hx hb hK hG gl_82 gk_82 (v := (60 : Int32)) (by rw [gn_82]; decide) dX7_denies_9 ?_
      refine lv_icmp_ge (tgt := 46) hx hb dX7_denies_10 (by decide) (fun c_10 => ?_) (fun c_10 => ?_)
      · replace HW := HW.1 c_10
        refine lv_iconst (v := 0) hx hb dX7_denies_46 (by decide) ?_
        exact W.zret (v := (0 : Int32)) hx hb hr rfl (fun t ht hW => ⟨⟨(0 : Int32), (h, g), rfl, ⟨Or.inl rfl, HW⟩, g_B ht hG⟩, hG.2.2.F ht⟩) hG.2.2.2.2 dX7_denies_47
      · replace HW := HW.2 c_10
        refine lv_iload_n hx hb dX7_denies_13 rfl (lv_at hl 1 rfl) ?_
        refine lv_aload_n hx hb dX7_denies_14 rfl (lv_at hl 0 rfl) ?_
        refine g_getr hx hb hw inG7 hown hK hG gl_81 rfl gk_81 (by decide) 3 (by decide) (by rw [gm_81]; decide) (r := 83) gr_81_3 lk23 dX7_denies_15 ?_
        refine g_alen hx hb hK hG gl_83 gk_83 (v := (60 : Int32)) (by rw [gn_83]; decide) dX7_denies_18 ?_
        refine lv_icmp_ge (tgt := 46) hx hb dX7_denies_19 (by decide) (fun c_19 => ?_) (fun c_19 => ?_)
        · replace HW := HW.1 c_19
          refine lv_iconst (v := 0) hx hb dX7_denies_46 (by decide) ?_
          exact W.zret (v := (0 : Int32)) hx hb hr rfl (fun t ht hW => ⟨⟨(0 : Int32), (h, g), rfl, ⟨Or.inl rfl, HW⟩, g_B ht hG⟩, hG.2.2.F ht⟩) hG.2.2.2.2 dX7_denies_47
        · replace HW := HW.2 c_19
          refine lv_iload_n hx hb dX7_denies_22 rfl (lv_at hl 2 rfl) ?_
          refine lv_aload_n hx hb dX7_denies_23 rfl (lv_at hl 0 rfl) ?_
          refine g_getr hx hb hw inG7 hown hK hG gl_81 rfl gk_81 (by decide) 2 (by decide) (by rw [gm_81]; decide) (r := 82) gr_81_2 lk19 dX7_denies_24 ?_
          refine lv_iload_n hx hb dX7_denies_27 rfl (lv_at hl 1 rfl) ?_
          refine g_iald hx hb hK hG gl_82 gk_82 gn_82 HW.1 dX7_denies_28 ?_
          replace HW := HW.2
          refine lv_icmp_lt (tgt := 42) hx hb dX7_denies_29 (by decide) (fun c_29 => ?_) (fun c_29 => ?_)
          · replace HW := HW.1 c_29
            exact B42 h g _ _ _ HW hG (lv_sub hl [] rfl)
          · replace HW := HW.2 c_29
            refine lv_iload_n hx hb dX7_denies_32 rfl (lv_at hl 2 rfl) ?_
            refine lv_aload_n hx hb dX7_denies_33 rfl (lv_at hl 0 rfl) ?_
            refine g_getr hx hb hw inG7 hown hK hG gl_81 rfl gk_81 (by decide) 3 (by decide) (by rw [gm_81]; decide) (r := 83) gr_81_3 lk23 dX7_denies_34 ?_
            refine lv_iload_n hx hb dX7_denies_37 rfl (lv_at hl 1 rfl) ?_
            refine g_iald hx hb hK hG gl_83 gk_83 gn_83 HW.1 dX7_denies_38 ?_
            replace HW := HW.2
            refine lv_icmp_le (tgt := 46) hx hb dX7_denies_39 (by decide) (fun c_39 => ?_) (fun c_39 => ?_)
            · replace HW := HW.1 c_39
              refine lv_iconst (v := 0) hx hb dX7_denies_46 (by decide) ?_
              exact W.zret (v := (0 : Int32)) hx hb hr rfl (fun t ht hW => ⟨⟨(0 : Int32), (h, g), rfl, ⟨Or.inl rfl, HW⟩, g_B ht hG⟩, hG.2.2.F ht⟩) hG.2.2.2.2 dX7_denies_47
            · replace HW := HW.2 c_39
              exact B42 h g _ _ _ HW hG (lv_sub hl [] rfl)
  exact E0 _ _ _ hG hl

def j_X7_against_24 (Q : Int32 → HI → HL → Prop) (K4 : Int32 → Int32 → Int32 → HI → HL → Prop) (x1 : Int32) (x2 : Int32) (x3 : Int32) (h : HI) (g : HL) : Prop :=
  (∀ x3_24 : Int32, x3_24 = (x3 + 1) → K4 x1 x2 x3_24 h g)
def b_X7_against_4 (Q : Int32 → HI → HL → Prop) (K4 : Int32 → Int32 → Int32 → HI → HL → Prop) (x1 : Int32) (x2 : Int32) (x3 : Int32) (h : HI) (g : HL) : Prop :=
  (((h 81 5) ≤ x3 → Q x2 h g) ∧ (¬ (h 81 5) ≤ x3 → (∃ P_15 : Int32 → HI → HL → Prop, w_X7_denies x3 x1 h g P_15 ∧ ∀ (r_15 : Int32) (h_15 : HI) (g_15 : HL), zb r_15 → P_15 r_15 h_15 g_15 → ((r_15 = 0 → j_X7_against_24 Q K4 x1 x2 x3 h_15 g_15) ∧ (¬ r_15 = 0 → (∀ x2_21 : Int32, x2_21 = (x2 + 1) → j_X7_against_24 Q K4 x1 x2_21 x3 h_15 g_15))))))
def F_X7_against_4 (Q : Int32 → HI → HL → Prop) (K : Int32 × Int32 × Int32 × HI × HL → Prop) (q : Int32 × Int32 × Int32 × HI × HL) : Prop := b_X7_against_4 Q (fun x1 x2 x3 h g => K (x1, x2, x3, h, g)) q.1 q.2.1 q.2.2.1 q.2.2.2.1 q.2.2.2.2
def w_X7_against (x1 : Int32) (h : HI) (g : HL) (Q : Int32 → HI → HL → Prop) : Prop :=
  lpE (F_X7_against_4 Q) (x1, (0 : Int32), (0 : Int32), h, g)
set_option maxHeartbeats 8000000 in
set_option maxRecDepth 100000 in
theorem m_X7_against (l : Launch) (D : va_G) (cy : Nat → ClassId) (ad : Nat → Nat) (h : HI) (g : HL) (sz : Nat) (x1 : Int32) (Q : Int32 → HI → HL → Prop) (HW : w_X7_against x1 h g Q) : Met l yX7_against (wa yX7_against cX7_against 4 (some .int)) ({ frames := 1, cells := 0, slots := 0, locals := 22 }) (va_Pc [.ref (ad 81), .int x1] (gI D cy ad h g sz)) (va_Qi (fun (r : Int32) (u : HI × HL) => Q r u.1 u.2) (gB D cy ad sz) (gA ad sz)) 0 0 (gA ad sz) := by
  refine Met.ofW (cc := cX7_against) (maxL := 4) (ret := (some .int)) (by decide) rfl ?_
  intro p e s m args below meth c s₁ B hml hv
  obtain ⟨hav, hsz, hP, hK, hD0, hNw⟩ := hv
  have hx := B.exec
  have hb := B.bytes
  have hr := B.returns
  have hts := atoms_spec (ws := (wa yX7_against cX7_against 4 (some .int))) B.pre
  have hw := wa_hw hts
  have hown : s.vm.findClass RX7 = some m.cls := findClass_of_methodNamed B.named
  have hlocks := B.notSynchronized
  subst hsz
  have hG : gG D cy ad (gA ad s.heap.size) s.heap h g s.heap [] := ⟨hP, gA_self hD0, va_S.rf⟩
  clear hP hD0
  have lk45 := hw (.fieldLink RX7 45 "OldWorks$Sizes" "said" "I") (wm1 173 rfl rfl)
  rw [show (headSpec (wa yX7_against cX7_against 4 (some .int)) ({ frames := 1, cells := 0, slots := 0, locals := 22 } : Room)).room = ({ frames := 1, cells := 0, slots := 0, locals := 22 } : Room) from rfl]
  have hl := lv_entry ([.ref (ad 81), .int x1]) (n := 4) (Nat.le_of_ble_eq_true rfl)
  rw [show entryFrame m args 4 = entryFrame m ([.ref (ad 81), .int x1] : List Value).toArray 4 from by rw [hav], lg_entry_eq]
  generalize (lg_sl ([.ref (ad 81), .int x1]) ++ List.replicate (4 - (lg_sl ([.ref (ad 81), .int x1])).length) Slot.unset).toArray = ls at hl ⊢
  have hl : lv_has ls 4 [(0, .ref (ad 81)), (1, .int x1)] := hl
  have B24 : ∀ (K4 : Int32 → Int32 → Int32 → HI → HL → Prop) (hK4 : ∀ (x1 : Int32) (x2 : Int32) (x3 : Int32) (h : HI) (g : HL) (H : Heap) (locs : List Loc) (ls : Array Slot), K4 x1 x2 x3 h g → gG D cy ad (gA ad s.heap.size) s.heap h g H locs → lv_has ls 4 [(0, .ref (ad 81)), (1, .int x1), (2, .int x2), (3, .int x3)] → W p l e ({ frames := 1, cells := 0, slots := 0, locals := 22 } : Room) s m args below meth c H locs 0 0 (MQ below (va_Qi (fun (r : Int32) (u : HI × HL) => Q r u.1 u.2) (gB D cy ad s.heap.size) (gA ad s.heap.size)) args s 0 0 (gA ad s.heap.size)) (F0 m 4 ls [])) (x1 : Int32) (x2 : Int32) (x3 : Int32) (h : HI) (g : HL) (H : Heap) (locs : List Loc) (ls : Array Slot), j_X7_against_24 Q K4 x1 x2 x3 h g → gG D cy ad (gA ad s.heap.size) s.heap h g H locs → lv_has ls 4 [(0, .ref (ad 81)), (1, .int x1), (2, .int x2), (3, .int x3)] → W p l e ({ frames := 1, cells := 0, slots := 0, locals := 22 } : Room) s m args below meth c H locs 0 0 (MQ below (va_Qi (fun (r : Int32) (u : HI × HL) => Q r u.1 u.2) (gB D cy ad s.heap.size) (gA ad s.heap.size)) args s 0 0 (gA ad s.heap.size)) (F0 m 24 ls []) := by
    intro K4 hK4 x1 x2 x3 h g H locs ls HW hG hl
    unfold j_X7_against_24 at HW
    obtain ⟨x3_24, ex3_24⟩ : ∃ y : Int32, y = (x3 + 1) := ⟨_, rfl⟩
    replace HW := HW x3_24 ex3_24
    refine lv_iinc (v := x3_24) (lv' := [(3, .int x3_24), (0, .ref (ad 81)), (1, .int x1), (2, .int x2)]) hx hb dX7_against_24 hl (k := 3) rfl (by rw [ex3_24]; rfl) (by decide) rfl (fun ls hl => ?_)
    refine lv_goto (tgt := 4) hx hb dX7_against_27 (by decide) ?_
    exact hK4 x1 x2 x3_24 h g _ _ _ HW hG (lv_sub hl [1, 2, 3, 0] rfl)
  have L4 : ∀ (n : Nat) (x1 : Int32) (x2 : Int32) (x3 : Int32) (h : HI) (g : HL) (H : Heap) (locs : List Loc) (ls : Array Slot), lpN (F_X7_against_4 Q) n (x1, x2, x3, h, g) → gG D cy ad (gA ad s.heap.size) s.heap h g H locs → lv_has ls 4 [(0, .ref (ad 81)), (1, .int x1), (2, .int x2), (3, .int x3)] → W p l e ({ frames := 1, cells := 0, slots := 0, locals := 22 } : Room) s m args below meth c H locs 0 0 (MQ below (va_Qi (fun (r : Int32) (u : HI × HL) => Q r u.1 u.2) (gB D cy ad s.heap.size) (gA ad s.heap.size)) args s 0 0 (gA ad s.heap.size)) (F0 m 4 ls []) := by
    intro n
    induction n with
    | zero => intro x1 x2 x3 h g H locs ls HW; exact HW.elim
    | succ n ih =>
      intro x1 x2 x3 h g H locs ls HW hG hl
      have HW : b_X7_against_4 Q (fun x1 x2 x3 h g => lpN (F_X7_against_4 Q) n (x1, x2, x3, h, g)) x1 x2 x3 h g := HW
      generalize hKe : (fun (x1 : Int32) (x2 : Int32) (x3 : Int32) (h : HI) (g : HL) => lpN (F_X7_against_4 Q) n (x1, x2, x3, h, g)) = K4 at HW
      have hK4 : ∀ (x1 : Int32) (x2 : Int32) (x3 : Int32) (h : HI) (g : HL) (H : Heap) (locs : List Loc) (ls : Array Slot), K4 x1 x2 x3 h g → gG D cy ad (gA ad s.heap.size) s.heap h g H locs → lv_has ls 4 [(0, .ref (ad 81)), (1, .int x1), (2, .int x2), (3, .int x3)] → W p l e ({ frames := 1, cells := 0, slots := 0, locals := 22 } : Room) s m args below meth c H locs 0 0 (MQ below (va_Qi (fun (r : Int32) (u : HI × HL) => Q r u.1 u.2) (gB D cy ad s.heap.size) (gA ad s.heap.size)) args s 0 0 (gA ad s.heap.size)) (F0 m 4 ls []) := by subst hKe; exact ih
      clear ih
      clear hKe
      unfold b_X7_against_4 at HW
      refine lv_iload_n hx hb dX7_against_4 rfl (lv_at hl 3 rfl) ?_
      refine lv_aload_n hx hb dX7_against_5 rfl (lv_at hl 0 rfl) ?_
      refine g_geti hx hb hw inG7 hown hK hG gl_81 rfl gk_81 (by decide) 5 (by decide) (by rw [gm_81]; decide) gr_81_5 lk45 dX7_against_6 ?_
      refine lv_icmp_ge (tgt := 30) hx hb dX7_against_9 (by decide) (fun c_9 => ?_) (fun c_9 => ?_)
      · replace HW := HW.1 c_9
        refine lv_iload_n hx hb dX7_against_30 rfl (lv_at hl 2 rfl) ?_
        exact W.iret (v := x2) hx hb hr (fun t ht hW => ⟨⟨x2, (h, g), rfl, HW, g_B ht hG⟩, hG.2.2.F ht⟩) hG.2.2.2.2 dX7_against_31
      · replace HW := HW.2 c_9
        refine lv_aload_n hx hb dX7_against_12 rfl (lv_at hl 0 rfl) ?_
        refine lv_iload_n hx hb dX7_against_13 rfl (lv_at hl 3 rfl) ?_
        refine lv_iload_n hx hb dX7_against_14 rfl (lv_at hl 1 rfl) ?_
        obtain ⟨P_15, HC_15, HW⟩ := HW
        refine g_callz (g_runV (As := [.int x3, .int x1]) (rest := []) ⟨hx, hb, hml, hown, hts⟩ (m_X7_denies l D cy ad h g H.size x3 x1 P_15 HC_15) (cwV 2 hts (gd_V (wm3 121 rfl rfl) (wm3 123 rfl rfl) (wmp1 (q := (yX7_denies, 12)) 13 rfl) (wm1 5 rfl rfl) (wm3 124 rfl rfl)) rfl rfl rfl (by decide +kernel) ⟨Nat.le_of_ble_eq_true rfl, Nat.le_of_ble_eq_true rfl⟩) hK hNw hG gl_81 rfl gk_81 (by decide) rfl rfl hl.1 rfl (lv_room (Nat.le_of_ble_eq_true rfl)) dX7_against_15 ⟨Nat.zero_le _, Nat.zero_le _⟩) hG (fun r_15 h_15 g_15 H locs hz hq hG => ?_)
        replace HW := HW r_15 h_15 g_15 hz hq
        refine lv_if_eq (tgt := 24) hx hb dX7_against_18 (by decide) (fun c_18 => ?_) (fun c_18 => ?_)
        · replace HW := HW.1 c_18
          exact B24 K4 hK4 x1 x2 x3 h_15 g_15 _ _ _ HW hG (lv_sub hl [0, 1, 2, 3] rfl)
        · replace HW := HW.2 c_18
          obtain ⟨x2_21, ex2_21⟩ : ∃ y : Int32, y = (x2 + 1) := ⟨_, rfl⟩
          replace HW := HW x2_21 ex2_21
          refine lv_iinc (v := x2_21) (lv' := [(2, .int x2_21), (0, .ref (ad 81)), (1, .int x1), (3, .int x3)]) hx hb dX7_against_21 hl (k := 2) rfl (by rw [ex2_21]; rfl) (by decide) rfl (fun ls hl => ?_)
          exact B24 K4 hK4 x1 x2_21 x3 h_15 g_15 _ _ _ HW hG (lv_sub hl [1, 2, 0, 3] rfl)
  have E0 : ∀ (H : Heap) (locs : List Loc) (ls : Array Slot), gG D cy ad (gA ad s.heap.size) s.heap h g H locs → lv_has ls 4 [(0, .ref (ad 81)), (1, .int x1)] → W p l e ({ frames := 1, cells := 0, slots := 0, locals := 22 } : Room) s m args below meth c H locs 0 0 (MQ below (va_Qi (fun (r : Int32) (u : HI × HL) => Q r u.1 u.2) (gB D cy ad s.heap.size) (gA ad s.heap.size)) args s 0 0 (gA ad s.heap.size)) (F0 m 0 ls []) := by
    intro H locs ls hG hl
    unfold w_X7_against at HW
    refine lv_iconst (v := 0) hx hb dX7_against_0 (by decide) ?_
    refine lv_istore_n (lv' := [(2, .int (0 : Int32)), (0, .ref (ad 81)), (1, .int x1)]) hx hb dX7_against_1 rfl hl (by decide) rfl (fun ls hl => ?_)
    refine lv_iconst (v := 0) hx hb dX7_against_2 (by decide) ?_
    refine lv_istore_n (lv' := [(3, .int (0 : Int32)), (2, .int (0 : Int32)), (0, .ref (ad 81)), (1, .int x1)]) hx hb dX7_against_3 rfl hl (by decide) rfl (fun ls hl => ?_)
    obtain ⟨n_4, HW⟩ := HW
    exact L4 n_4 x1 (0 : Int32) (0 : Int32) h g _ _ _ HW hG (lv_sub hl [2, 3, 1, 0] rfl)
  exact E0 _ _ _ hG hl

def j_X7_leastDisputed_103 (Q : Int32 → HI → HL → Prop) (K16 : Int32 → Int32 → Int32 → HI → HL → Prop) (x1 : Int32) (x2 : Int32) (x3 : Int32) (h : HI) (g : HL) : Prop :=
  (∀ x3_103 : Int32, x3_103 = (x3 + 1) → K16 x1 x2 x3_103 h g)
def j_X7_leastDisputed_97 (Q : Int32 → HI → HL → Prop) (K16 : Int32 → Int32 → Int32 → HI → HL → Prop) (x3 : Int32) (x5 : Int32) (x6 : Int32) (h : HI) (g : HL) : Prop :=
  j_X7_leastDisputed_103 Q K16 x5 x6 x3 h g
def b_X7_leastDisputed_16 (Q : Int32 → HI → HL → Prop) (K16 : Int32 → Int32 → Int32 → HI → HL → Prop) (x1 : Int32) (x2 : Int32) (x3 : Int32) (h : HI) (g : HL) : Prop :=
  (((h 81 5) ≤ x3 → Q x1 h g) ∧ (¬ (h 81 5) ≤ x3 → (((60 : Int32) ≤ x3 → Q x1 h g) ∧ (¬ (60 : Int32) ≤ x3 → (vp_in x3 60 ∧ (∃ P_40 : Int32 → HI → HL → Prop, w_X7_placeFrom (h 82 x3.toNatClampNeg) h g P_40 ∧ ∀ (r_40 : Int32) (h_40 : HI) (g_40 : HL), P_40 r_40 h_40 g_40 → ((r_40 ≤ (h_40 81 8) → (∀ x5_69 : Int32, x5_69 = ((h_40 81 6) + (r_40 * (h_40 81 7))) → (∃ P_74 : Int32 → HI → HL → Prop, w_X7_against x5_69 h_40 g_40 P_74 ∧ ∀ (r_74 : Int32) (h_74 : HI) (g_74 : HL), P_74 r_74 h_74 g_74 → ((r_74 < x2 → j_X7_leastDisputed_97 Q K16 x3 x5_69 r_74 h_74 g_74) ∧ (¬ r_74 < x2 → ((¬ r_74 = x2 → j_X7_leastDisputed_103 Q K16 x1 x2 x3 h_74 g_74) ∧ (r_74 = x2 → ((x1 ≤ x5_69 → j_X7_leastDisputed_103 Q K16 x1 x2 x3 h_74 g_74) ∧ (¬ x1 ≤ x5_69 → j_X7_leastDisputed_97 Q K16 x3 x5_69 r_74 h_74 g_74))))))))) ∧ (¬ r_40 ≤ (h_40 81 8) → j_X7_leastDisputed_103 Q K16 x1 x2 x3 h_40 g_40))))))))
def F_X7_leastDisputed_16 (Q : Int32 → HI → HL → Prop) (K : Int32 × Int32 × Int32 × HI × HL → Prop) (q : Int32 × Int32 × Int32 × HI × HL) : Prop := b_X7_leastDisputed_16 Q (fun x1 x2 x3 h g => K (x1, x2, x3, h, g)) q.1 q.2.1 q.2.2.1 q.2.2.2.1 q.2.2.2.2
def w_X7_leastDisputed  (h : HI) (g : HL) (Q : Int32 → HI → HL → Prop) : Prop :=
  (∀ x1_4 : Int32, x1_4 = (h 81 6) → (∃ P_10 : Int32 → HI → HL → Prop, w_X7_against (h 81 6) h g P_10 ∧ ∀ (r_10 : Int32) (h_10 : HI) (g_10 : HL), P_10 r_10 h_10 g_10 → lpE (F_X7_leastDisputed_16 Q) (x1_4, r_10, (0 : Int32), h_10, g_10)))
set_option maxHeartbeats 8000000 in
set_option maxRecDepth 100000 in
theorem m_X7_leastDisputed (l : Launch) (D : va_G) (cy : Nat → ClassId) (ad : Nat → Nat) (h : HI) (g : HL) (sz : Nat)  (Q : Int32 → HI → HL → Prop) (HW : w_X7_leastDisputed h g Q) : Met l yX7_leastDisputed (wa yX7_leastDisputed cX7_leastDisputed 7 (some .int)) ({ frames := 2, cells := 0, slots := 0, locals := 45 }) (va_Pc [.ref (ad 81)] (gI D cy ad h g sz)) (va_Qi (fun (r : Int32) (u : HI × HL) => Q r u.1 u.2) (gB D cy ad sz) (gA ad sz)) 0 0 (gA ad sz) := by
  refine Met.ofW (cc := cX7_leastDisputed) (maxL := 7) (ret := (some .int)) (by decide) rfl ?_
  intro p e s m args below meth c s₁ B hml hv
  obtain ⟨hav, hsz, hP, hK, hD0, hNw⟩ := hv
  have hx := B.exec
  have hb := B.bytes
  have hr := B.returns
  have hts := atoms_spec (ws := (wa yX7_leastDisputed cX7_leastDisputed 7 (some .int))) B.pre
  have hw := wa_hw hts
  have hown : s.vm.findClass RX7 = some m.cls := findClass_of_methodNamed B.named
  have hlocks := B.notSynchronized
  subst hsz
  have hG : gG D cy ad (gA ad s.heap.size) s.heap h g s.heap [] := ⟨hP, gA_self hD0, va_S.rf⟩
  clear hP hD0
  have lk69 := hw (.fieldLink RX7 69 "OldWorks$Sizes" "base" "I") (wm1 174 rfl rfl)
  have lk45 := hw (.fieldLink RX7 45 "OldWorks$Sizes" "said" "I") (wm1 173 rfl rfl)
  have lk19 := hw (.fieldLink RX7 19 "OldWorks$Sizes" "lows" "[I") (wm1 170 rfl rfl)
  have lk81 := hw (.fieldLink RX7 81 "OldWorks$Sizes" "last" "I") (wm1 176 rfl rfl)
  have lk77 := hw (.fieldLink RX7 77 "OldWorks$Sizes" "step" "I") (wm1 175 rfl rfl)
  rw [show (headSpec (wa yX7_leastDisputed cX7_leastDisputed 7 (some .int)) ({ frames := 2, cells := 0, slots := 0, locals := 45 } : Room)).room = ({ frames := 2, cells := 0, slots := 0, locals := 45 } : Room) from rfl]
  have hl := lv_entry ([.ref (ad 81)]) (n := 7) (Nat.le_of_ble_eq_true rfl)
  rw [show entryFrame m args 7 = entryFrame m ([.ref (ad 81)] : List Value).toArray 7 from by rw [hav], lg_entry_eq]
  generalize (lg_sl ([.ref (ad 81)]) ++ List.replicate (7 - (lg_sl ([.ref (ad 81)])).length) Slot.unset).toArray = ls at hl ⊢
  have hl : lv_has ls 7 [(0, .ref (ad 81))] := hl
  have B103 : ∀ (K16 : Int32 → Int32 → Int32 → HI → HL → Prop) (hK16 : ∀ (x1 : Int32) (x2 : Int32) (x3 : Int32) (h : HI) (g : HL) (H : Heap) (locs : List Loc) (ls : Array Slot), K16 x1 x2 x3 h g → gG D cy ad (gA ad s.heap.size) s.heap h g H locs → lv_has ls 7 [(0, .ref (ad 81)), (1, .int x1), (2, .int x2), (3, .int x3)] → W p l e ({ frames := 2, cells := 0, slots := 0, locals := 45 } : Room) s m args below meth c H locs 0 0 (MQ below (va_Qi (fun (r : Int32) (u : HI × HL) => Q r u.1 u.2) (gB D cy ad s.heap.size) (gA ad s.heap.size)) args s 0 0 (gA ad s.heap.size)) (F0 m 16 ls [])) (x1 : Int32) (x2 : Int32) (x3 : Int32) (h : HI) (g : HL) (H : Heap) (locs : List Loc) (ls : Array Slot), j_X7_leastDisputed_103 Q K16 x1 x2 x3 h g → gG D cy ad (gA ad s.heap.size) s.heap h g H locs → lv_has ls 7 [(0, .ref (ad 81)), (1, .int x1), (2, .int x2), (3, .int x3)] → W p l e ({ frames := 2, cells := 0, slots := 0, locals := 45 } : Room) s m args below meth c H locs 0 0 (MQ below (va_Qi (fun (r : Int32) (u : HI × HL) => Q r u.1 u.2) (gB D cy ad s.heap.size) (gA ad s.heap.size)) args s 0 0 (gA ad s.heap.size)) (F0 m 103 ls []) := by
    intro K16 hK16 x1 x2 x3 h g H locs ls HW hG hl
    unfold j_X7_leastDisputed_103 at HW
    obtain ⟨x3_103, ex3_103⟩ : ∃ y : Int32, y = (x3 + 1) := ⟨_, rfl⟩
    replace HW := HW x3_103 ex3_103
    refine lv_iinc (v := x3_103) (lv' := [(3, .int x3_103), (0, .ref (ad 81)), (1, .int x1), (2, .int x2)]) hx hb dX7_leastDisputed_103 hl (k := 3) rfl (by rw [ex3_103]; rfl) (by decide) rfl (fun ls hl => ?_)
    refine lv_goto (tgt := 16) hx hb dX7_leastDisputed_106 (by decide) ?_
    exact hK16 x1 x2 x3_103 h g _ _ _ HW hG (lv_sub hl [1, 2, 3, 0] rfl)
  have B97 : ∀ (K16 : Int32 → Int32 → Int32 → HI → HL → Prop) (hK16 : ∀ (x1 : Int32) (x2 : Int32) (x3 : Int32) (h : HI) (g : HL) (H : Heap) (locs : List Loc) (ls : Array Slot), K16 x1 x2 x3 h g → gG D cy ad (gA ad s.heap.size) s.heap h g H locs → lv_has ls 7 [(0, .ref (ad 81)), (1, .int x1), (2, .int x2), (3, .int x3)] → W p l e ({ frames := 2, cells := 0, slots := 0, locals := 45 } : Room) s m args below meth c H locs 0 0 (MQ below (va_Qi (fun (r : Int32) (u : HI × HL) => Q r u.1 u.2) (gB D cy ad s.heap.size) (gA ad s.heap.size)) args s 0 0 (gA ad s.heap.size)) (F0 m 16 ls [])) (x3 : Int32) (x5 : Int32) (x6 : Int32) (h : HI) (g : HL) (H : Heap) (locs : List Loc) (ls : Array Slot), j_X7_leastDisputed_97 Q K16 x3 x5 x6 h g → gG D cy ad (gA ad s.heap.size) s.heap h g H locs → lv_has ls 7 [(0, .ref (ad 81)), (3, .int x3), (5, .int x5), (6, .int x6)] → W p l e ({ frames := 2, cells := 0, slots := 0, locals := 45 } : Room) s m args below meth c H locs 0 0 (MQ below (va_Qi (fun (r : Int32) (u : HI × HL) => Q r u.1 u.2) (gB D cy ad s.heap.size) (gA ad s.heap.size)) args s 0 0 (gA ad s.heap.size)) (F0 m 97 ls []) := by
    intro K16 hK16 x3 x5 x6 h g H locs ls HW hG hl
    unfold j_X7_leastDisputed_97 at HW
    refine lv_iload hx hb dX7_leastDisputed_97 (lv_at hl 2 rfl) ?_
    refine lv_istore_n (lv' := [(1, .int x5), (0, .ref (ad 81)), (3, .int x3), (5, .int x5), (6, .int x6)]) hx hb dX7_leastDisputed_99 rfl hl (by decide) rfl (fun ls hl => ?_)
    refine lv_iload hx hb dX7_leastDisputed_100 (lv_at hl 4 rfl) ?_
    refine lv_istore_n (lv' := [(2, .int x6), (1, .int x5), (0, .ref (ad 81)), (3, .int x3), (5, .int x5), (6, .int x6)]) hx hb dX7_leastDisputed_102 rfl hl (by decide) rfl (fun ls hl => ?_)
    exact B103 K16 hK16 x5 x6 x3 h g _ _ _ HW hG (lv_sub hl [2, 1, 0, 3] rfl)
  have L16 : ∀ (n : Nat) (x1 : Int32) (x2 : Int32) (x3 : Int32) (h : HI) (g : HL) (H : Heap) (locs : List Loc) (ls : Array Slot), lpN (F_X7_leastDisputed_16 Q) n (x1, x2, x3, h, g) → gG D cy ad (gA ad s.heap.size) s.heap h g H locs → lv_has ls 7 [(0, .ref (ad 81)), (1, .int x1), (2, .int x2), (3, .int x3)] → W p l e ({ frames := 2, cells := 0, slots := 0, locals := 45 } : Room) s m args below meth c H locs 0 0 (MQ below (va_Qi (fun (r : Int32) (u : HI × HL) => Q r u.1 u.2) (gB D cy ad s.heap.size) (gA ad s.heap.size)) args s 0 0 (gA ad s.heap.size)) (F0 m 16 ls []) := by
    intro n
    induction n with
    | zero => intro x1 x2 x3 h g H locs ls HW; exact HW.elim
    | succ n ih =>
      intro x1 x2 x3 h g H locs ls HW hG hl
      have HW : b_X7_leastDisputed_16 Q (fun x1 x2 x3 h g => lpN (F_X7_leastDisputed_16 Q) n (x1, x2, x3, h, g)) x1 x2 x3 h g := HW
      generalize hKe : (fun (x1 : Int32) (x2 : Int32) (x3 : Int32) (h : HI) (g : HL) => lpN (F_X7_leastDisputed_16 Q) n (x1, x2, x3, h, g)) = K16 at HW
      have hK16 : ∀ (x1 : Int32) (x2 : Int32) (x3 : Int32) (h : HI) (g : HL) (H : Heap) (locs : List Loc) (ls : Array Slot), K16 x1 x2 x3 h g → gG D cy ad (gA ad s.heap.size) s.heap h g H locs → lv_has ls 7 [(0, .ref (ad 81)), (1, .int x1), (2, .int x2), (3, .int x3)] → W p l e ({ frames := 2, cells := 0, slots := 0, locals := 45 } : Room) s m args below meth c H locs 0 0 (MQ below (va_Qi (fun (r : Int32) (u : HI × HL) => Q r u.1 u.2) (gB D cy ad s.heap.size) (gA ad s.heap.size)) args s 0 0 (gA ad s.heap.size)) (F0 m 16 ls []) := by subst hKe; exact ih
      clear ih
      clear hKe
      unfold b_X7_leastDisputed_16 at HW
      refine lv_iload_n hx hb dX7_leastDisputed_16 rfl (lv_at hl 3 rfl) ?_
      refine lv_aload_n hx hb dX7_leastDisputed_17 rfl (lv_at hl 0 rfl) ?_
      refine g_geti hx hb hw inG7 hown hK hG gl_81 rfl gk_81 (by decide) 5 (by decide) (by rw [gm_81]; decide) gr_81_5 lk45 dX7_leastDisputed_18 ?_
      refine lv_icmp_ge (tgt := 109) hx hb dX7_leastDisputed_21 (by decide) (fun c_21 => ?_) (fun c_21 => ?_)
      · replace HW := HW.1 c_21
        refine lv_iload_n hx hb dX7_leastDisputed_109 rfl (lv_at hl 1 rfl) ?_
        exact W.iret (v := x1) hx hb hr (fun t ht hW => ⟨⟨x1, (h, g), rfl, HW, g_B ht hG⟩, hG.2.2.F ht⟩) hG.2.2.2.2 dX7_leastDisputed_110
      · replace HW := HW.2 c_21
        refine lv_iload_n hx hb dX7_leastDisputed_24 rfl (lv_at hl 3 rfl) ?_
        refine lv_aload_n hx hb dX7_leastDisputed_25 rfl (lv_at hl 0 rfl) ?_
        refine g_getr hx hb hw inG7 hown hK hG gl_81 rfl gk_81 (by decide) 2 (by decide) (by rw [gm_81]; decide) (r := 82) gr_81_2 lk19 dX7_leastDisputed_26 ?_
        refine g_alen hx hb hK hG gl_82 gk_82 (v := (60 : Int32)) (by rw [gn_82]; decide) dX7_leastDisputed_29 ?_
        refine lv_icmp_ge (tgt := 109) hx hb dX7_leastDisputed_30 (by decide) (fun c_30 => ?_) (fun c_30 => ?_)
        · replace HW := HW.1 c_30
          refine lv_iload_n hx hb dX7_leastDisputed_109 rfl (lv_at hl 1 rfl) ?_
          exact W.iret (v := x1) hx hb hr (fun t ht hW => ⟨⟨x1, (h, g), rfl, HW, g_B ht hG⟩, hG.2.2.F ht⟩) hG.2.2.2.2 dX7_leastDisputed_110
        · replace HW := HW.2 c_30
          refine lv_aload_n hx hb dX7_leastDisputed_33 rfl (lv_at hl 0 rfl) ?_
          refine lv_aload_n hx hb dX7_leastDisputed_34 rfl (lv_at hl 0 rfl) ?_
          refine g_getr hx hb hw inG7 hown hK hG gl_81 rfl gk_81 (by decide) 2 (by decide) (by rw [gm_81]; decide) (r := 82) gr_81_2 lk19 dX7_leastDisputed_35 ?_
          refine lv_iload_n hx hb dX7_leastDisputed_38 rfl (lv_at hl 3 rfl) ?_
          refine g_iald hx hb hK hG gl_82 gk_82 gn_82 HW.1 dX7_leastDisputed_39 ?_
          replace HW := HW.2
          obtain ⟨P_40, HC_40, HW⟩ := HW
          refine g_calli (g_runV (As := [.int (h 82 x3.toNatClampNeg)]) (rest := []) ⟨hx, hb, hml, hown, hts⟩ (m_X7_placeFrom l D cy ad h g H.size (h 82 x3.toNatClampNeg) P_40 HC_40) (cwV 1 hts (gd_V (wm3 101 rfl rfl) (wm3 103 rfl rfl) (wmp1 (q := (yX7_placeFrom, 12)) 12 rfl) (wm1 5 rfl rfl) (wm3 104 rfl rfl)) rfl rfl rfl (by decide +kernel) ⟨Nat.le_of_ble_eq_true rfl, Nat.le_of_ble_eq_true rfl⟩) hK hNw hG gl_81 rfl gk_81 (by decide) rfl rfl hl.1 rfl (lv_room (Nat.le_of_ble_eq_true rfl)) dX7_leastDisputed_40 ⟨Nat.zero_le _, Nat.zero_le _⟩) hG (fun r_40 h_40 g_40 H locs hq hG => ?_)
          replace HW := HW r_40 h_40 g_40 hq
          refine lv_istore (lv' := [(4, .int r_40), (0, .ref (ad 81)), (1, .int x1), (2, .int x2), (3, .int x3)]) hx hb dX7_leastDisputed_43 hl (by decide) rfl (fun ls hl => ?_)
          refine lv_iload hx hb dX7_leastDisputed_45 (lv_at hl 0 rfl) ?_
          refine lv_aload_n hx hb dX7_leastDisputed_47 rfl (lv_at hl 1 rfl) ?_
          refine g_geti hx hb hw inG7 hown hK hG gl_81 rfl gk_81 (by decide) 8 (by decide) (by rw [gm_81]; decide) gr_81_8 lk81 dX7_leastDisputed_48 ?_
          refine lv_icmp_le (tgt := 57) hx hb dX7_leastDisputed_51 (by decide) (fun c_51 => ?_) (fun c_51 => ?_)
          · replace HW := HW.1 c_51
            refine lv_aload_n hx hb dX7_leastDisputed_57 rfl (lv_at hl 1 rfl) ?_
            refine g_geti hx hb hw inG7 hown hK hG gl_81 rfl gk_81 (by decide) 6 (by decide) (by rw [gm_81]; decide) gr_81_6 lk69 dX7_leastDisputed_58 ?_
            refine lv_iload hx hb dX7_leastDisputed_61 (lv_at hl 0 rfl) ?_
            refine lv_aload_n hx hb dX7_leastDisputed_63 rfl (lv_at hl 1 rfl) ?_
            refine g_geti hx hb hw inG7 hown hK hG gl_81 rfl gk_81 (by decide) 7 (by decide) (by rw [gm_81]; decide) gr_81_7 lk77 dX7_leastDisputed_64 ?_
            refine lv_imul hx hb dX7_leastDisputed_67 ?_
            refine lv_iadd hx hb dX7_leastDisputed_68 ?_
            refine lv_topi (fun x5_69 ex5_69 => ?_)
            replace HW := HW x5_69 ex5_69
            refine lv_istore (lv' := [(5, .int x5_69), (4, .int r_40), (0, .ref (ad 81)), (1, .int x1), (2, .int x2), (3, .int x3)]) hx hb dX7_leastDisputed_69 hl (by decide) rfl (fun ls hl => ?_)
            refine lv_aload_n hx hb dX7_leastDisputed_71 rfl (lv_at hl 2 rfl) ?_
            refine lv_iload hx hb dX7_leastDisputed_72 (lv_at hl 0 rfl) ?_
            obtain ⟨P_74, HC_74, HW⟩ := HW
            refine g_calli (g_runV (As := [.int x5_69]) (rest := []) ⟨hx, hb, hml, hown, hts⟩ (m_X7_against l D cy ad h_40 g_40 H.size x5_69 P_74 HC_74) (cwV 1 hts (gd_V (wm3 117 rfl rfl) (wm3 118 rfl rfl) (wm3 119 rfl rfl) (wm1 5 rfl rfl) (wm3 120 rfl rfl)) rfl rfl rfl (by decide +kernel) ⟨Nat.le_of_ble_eq_true rfl, Nat.le_of_ble_eq_true rfl⟩) hK hNw hG gl_81 rfl gk_81 (by decide) rfl rfl hl.1 rfl (lv_room (Nat.le_of_ble_eq_true rfl)) dX7_leastDisputed_74 ⟨Nat.zero_le _, Nat.zero_le _⟩) hG (fun r_74 h_74 g_74 H locs hq hG => ?_)
            replace HW := HW r_74 h_74 g_74 hq
            refine lv_istore (lv' := [(6, .int r_74), (5, .int x5_69), (4, .int r_40), (0, .ref (ad 81)), (1, .int x1), (2, .int x2), (3, .int x3)]) hx hb dX7_leastDisputed_77 hl (by decide) rfl (fun ls hl => ?_)
            refine lv_iload hx hb dX7_leastDisputed_79 (lv_at hl 0 rfl) ?_
            refine lv_iload_n hx hb dX7_leastDisputed_81 rfl (lv_at hl 5 rfl) ?_
            refine lv_icmp_lt (tgt := 97) hx hb dX7_leastDisputed_82 (by decide) (fun c_82 => ?_) (fun c_82 => ?_)
            · replace HW := HW.1 c_82
              exact B97 K16 hK16 x3 x5_69 r_74 h_74 g_74 _ _ _ HW hG (lv_sub hl [3, 6, 1, 0] rfl)
            · replace HW := HW.2 c_82
              refine lv_iload hx hb dX7_leastDisputed_85 (lv_at hl 0 rfl) ?_
              refine lv_iload_n hx hb dX7_leastDisputed_87 rfl (lv_at hl 5 rfl) ?_
              refine lv_icmp_ne (tgt := 103) hx hb dX7_leastDisputed_88 (by decide) (fun c_88 => ?_) (fun c_88 => ?_)
              · replace HW := HW.1 c_88
                exact B103 K16 hK16 x1 x2 x3 h_74 g_74 _ _ _ HW hG (lv_sub hl [3, 4, 5, 6] rfl)
              · replace HW := HW.2 c_88
                refine lv_iload hx hb dX7_leastDisputed_91 (lv_at hl 1 rfl) ?_
                refine lv_iload_n hx hb dX7_leastDisputed_93 rfl (lv_at hl 4 rfl) ?_
                refine lv_icmp_ge (tgt := 103) hx hb dX7_leastDisputed_94 (by decide) (fun c_94 => ?_) (fun c_94 => ?_)
                · replace HW := HW.1 c_94
                  exact B103 K16 hK16 x1 x2 x3 h_74 g_74 _ _ _ HW hG (lv_sub hl [3, 4, 5, 6] rfl)
                · replace HW := HW.2 c_94
                  exact B97 K16 hK16 x3 x5_69 r_74 h_74 g_74 _ _ _ HW hG (lv_sub hl [3, 6, 1, 0] rfl)
          · replace HW := HW.2 c_51
            refine lv_goto (tgt := 103) hx hb dX7_leastDisputed_54 (by decide) ?_
            exact B103 K16 hK16 x1 x2 x3 h_40 g_40 _ _ _ HW hG (lv_sub hl [1, 2, 3, 4] rfl)
  have E0 : ∀ (H : Heap) (locs : List Loc) (ls : Array Slot), gG D cy ad (gA ad s.heap.size) s.heap h g H locs → lv_has ls 7 [(0, .ref (ad 81))] → W p l e ({ frames := 2, cells := 0, slots := 0, locals := 45 } : Room) s m args below meth c H locs 0 0 (MQ below (va_Qi (fun (r : Int32) (u : HI × HL) => Q r u.1 u.2) (gB D cy ad s.heap.size) (gA ad s.heap.size)) args s 0 0 (gA ad s.heap.size)) (F0 m 0 ls []) := by
    intro H locs ls hG hl
    unfold w_X7_leastDisputed at HW
    refine lv_aload_n hx hb dX7_leastDisputed_0 rfl (lv_at hl 0 rfl) ?_
    refine g_geti hx hb hw inG7 hown hK hG gl_81 rfl gk_81 (by decide) 6 (by decide) (by rw [gm_81]; decide) gr_81_6 lk69 dX7_leastDisputed_1 ?_
    refine lv_topi (fun x1_4 ex1_4 => ?_)
    replace HW := HW x1_4 ex1_4
    refine lv_istore_n (lv' := [(1, .int x1_4), (0, .ref (ad 81))]) hx hb dX7_leastDisputed_4 rfl hl (by decide) rfl (fun ls hl => ?_)
    refine lv_aload_n hx hb dX7_leastDisputed_5 rfl (lv_at hl 1 rfl) ?_
    refine lv_aload_n hx hb dX7_leastDisputed_6 rfl (lv_at hl 1 rfl) ?_
    refine g_geti hx hb hw inG7 hown hK hG gl_81 rfl gk_81 (by decide) 6 (by decide) (by rw [gm_81]; decide) gr_81_6 lk69 dX7_leastDisputed_7 ?_
    obtain ⟨P_10, HC_10, HW⟩ := HW
    refine g_calli (g_runV (As := [.int (h 81 6)]) (rest := []) ⟨hx, hb, hml, hown, hts⟩ (m_X7_against l D cy ad h g H.size (h 81 6) P_10 HC_10) (cwV 1 hts (gd_V (wm3 117 rfl rfl) (wm3 118 rfl rfl) (wm3 119 rfl rfl) (wm1 5 rfl rfl) (wm3 120 rfl rfl)) rfl rfl rfl (by decide +kernel) ⟨Nat.le_of_ble_eq_true rfl, Nat.le_of_ble_eq_true rfl⟩) hK hNw hG gl_81 rfl gk_81 (by decide) rfl rfl hl.1 rfl (lv_room (Nat.le_of_ble_eq_true rfl)) dX7_leastDisputed_10 ⟨Nat.zero_le _, Nat.zero_le _⟩) hG (fun r_10 h_10 g_10 H locs hq hG => ?_)
    replace HW := HW r_10 h_10 g_10 hq
    refine lv_istore_n (lv' := [(2, .int r_10), (1, .int x1_4), (0, .ref (ad 81))]) hx hb dX7_leastDisputed_13 rfl hl (by decide) rfl (fun ls hl => ?_)
    refine lv_iconst (v := 0) hx hb dX7_leastDisputed_14 (by decide) ?_
    refine lv_istore_n (lv' := [(3, .int (0 : Int32)), (2, .int r_10), (1, .int x1_4), (0, .ref (ad 81))]) hx hb dX7_leastDisputed_15 rfl hl (by decide) rfl (fun ls hl => ?_)
    obtain ⟨n_16, HW⟩ := HW
    exact L16 n_16 x1_4 r_10 (0 : Int32) h_10 g_10 _ _ _ HW hG (lv_sub hl [3, 2, 1, 0] rfl)
  exact E0 _ _ _ hG hl

def j_X7_objector_53 (Q : Int32 → HI → HL → Prop) (K5 : Int32 → Int32 → Int32 → Int32 → HI → HL → Prop) (x1 : Int32) (x2 : Int32) (x3 : Int32) (x4 : Int32) (h : HI) (g : HL) : Prop :=
  (∀ x4_53 : Int32, x4_53 = (x4 + 1) → K5 x1 x2 x3 x4_53 h g)
def b_X7_objector_5 (Q : Int32 → HI → HL → Prop) (K5 : Int32 → Int32 → Int32 → Int32 → HI → HL → Prop) (x1 : Int32) (x2 : Int32) (x3 : Int32) (x4 : Int32) (h : HI) (g : HL) : Prop :=
  (((h 81 5) ≤ x4 → Q (-1 : Int32) h g) ∧ (¬ (h 81 5) ≤ x4 → (((60 : Int32) ≤ x4 → Q (-1 : Int32) h g) ∧ (¬ (60 : Int32) ≤ x4 → (∃ P_28 : Int32 → HI → HL → Prop, w_X7_denies x4 x1 h g P_28 ∧ ∀ (r_28 : Int32) (h_28 : HI) (g_28 : HL), zb r_28 → P_28 r_28 h_28 g_28 → ((¬ r_28 = 0 → ((¬ x3 = x2 → (∀ x3_50 : Int32, x3_50 = (x3 + 1) → j_X7_objector_53 Q K5 x1 x2 x3_50 x4 h_28 g_28)) ∧ (x3 = x2 → (vp_in x4 60 ∧ Q (h_28 84 x4.toNatClampNeg) h_28 g_28)))) ∧ (r_28 = 0 → j_X7_objector_53 Q K5 x1 x2 x3 x4 h_28 g_28)))))))
def F_X7_objector_5 (Q : Int32 → HI → HL → Prop) (K : Int32 × Int32 × Int32 × Int32 × HI × HL → Prop) (q : Int32 × Int32 × Int32 × Int32 × HI × HL) : Prop := b_X7_objector_5 Q (fun x1 x2 x3 x4 h g => K (x1, x2, x3, x4, h, g)) q.1 q.2.1 q.2.2.1 q.2.2.2.1 q.2.2.2.2.1 q.2.2.2.2.2
def w_X7_objector (x1 : Int32) (x2 : Int32) (h : HI) (g : HL) (Q : Int32 → HI → HL → Prop) : Prop :=
  lpE (F_X7_objector_5 Q) (x1, x2, (0 : Int32), (0 : Int32), h, g)
set_option maxHeartbeats 8000000 in
set_option maxRecDepth 100000 in
theorem m_X7_objector (l : Launch) (D : va_G) (cy : Nat → ClassId) (ad : Nat → Nat) (h : HI) (g : HL) (sz : Nat) (x1 : Int32) (x2 : Int32) (Q : Int32 → HI → HL → Prop) (HW : w_X7_objector x1 x2 h g Q) : Met l yX7_objector (wa yX7_objector cX7_objector 5 (some .int)) ({ frames := 1, cells := 0, slots := 0, locals := 22 }) (va_Pc [.ref (ad 81), .int x1, .int x2] (gI D cy ad h g sz)) (va_Qi (fun (r : Int32) (u : HI × HL) => Q r u.1 u.2) (gB D cy ad sz) (gA ad sz)) 0 0 (gA ad sz) := by
  refine Met.ofW (cc := cX7_objector) (maxL := 5) (ret := (some .int)) (by decide) rfl ?_
  intro p e s m args below meth c s₁ B hml hv
  obtain ⟨hav, hsz, hP, hK, hD0, hNw⟩ := hv
  have hx := B.exec
  have hb := B.bytes
  have hr := B.returns
  have hts := atoms_spec (ws := (wa yX7_objector cX7_objector 5 (some .int))) B.pre
  have hw := wa_hw hts
  have hown : s.vm.findClass RX7 = some m.cls := findClass_of_methodNamed B.named
  have hlocks := B.notSynchronized
  subst hsz
  have hG : gG D cy ad (gA ad s.heap.size) s.heap h g s.heap [] := ⟨hP, gA_self hD0, va_S.rf⟩
  clear hP hD0
  have lk45 := hw (.fieldLink RX7 45 "OldWorks$Sizes" "said" "I") (wm1 173 rfl rfl)
  have lk26 := hw (.fieldLink RX7 26 "OldWorks$Sizes" "sayings" "[I") (wm1 172 rfl rfl)
  rw [show (headSpec (wa yX7_objector cX7_objector 5 (some .int)) ({ frames := 1, cells := 0, slots := 0, locals := 22 } : Room)).room = ({ frames := 1, cells := 0, slots := 0, locals := 22 } : Room) from rfl]
  have hl := lv_entry ([.ref (ad 81), .int x1, .int x2]) (n := 5) (Nat.le_of_ble_eq_true rfl)
  rw [show entryFrame m args 5 = entryFrame m ([.ref (ad 81), .int x1, .int x2] : List Value).toArray 5 from by rw [hav], lg_entry_eq]
  generalize (lg_sl ([.ref (ad 81), .int x1, .int x2]) ++ List.replicate (5 - (lg_sl ([.ref (ad 81), .int x1, .int x2])).length) Slot.unset).toArray = ls at hl ⊢
  have hl : lv_has ls 5 [(0, .ref (ad 81)), (1, .int x1), (2, .int x2)] := hl
  have B53 : ∀ (K5 : Int32 → Int32 → Int32 → Int32 → HI → HL → Prop) (hK5 : ∀ (x1 : Int32) (x2 : Int32) (x3 : Int32) (x4 : Int32) (h : HI) (g : HL) (H : Heap) (locs : List Loc) (ls : Array Slot), K5 x1 x2 x3 x4 h g → gG D cy ad (gA ad s.heap.size) s.heap h g H locs → lv_has ls 5 [(0, .ref (ad 81)), (1, .int x1), (2, .int x2), (3, .int x3), (4, .int x4)] → W p l e ({ frames := 1, cells := 0, slots := 0, locals := 22 } : Room) s m args below meth c H locs 0 0 (MQ below (va_Qi (fun (r : Int32) (u : HI × HL) => Q r u.1 u.2) (gB D cy ad s.heap.size) (gA ad s.heap.size)) args s 0 0 (gA ad s.heap.size)) (F0 m 5 ls [])) (x1 : Int32) (x2 : Int32) (x3 : Int32) (x4 : Int32) (h : HI) (g : HL) (H : Heap) (locs : List Loc) (ls : Array Slot), j_X7_objector_53 Q K5 x1 x2 x3 x4 h g → gG D cy ad (gA ad s.heap.size) s.heap h g H locs → lv_has ls 5 [(0, .ref (ad 81)), (1, .int x1), (2, .int x2), (3, .int x3), (4, .int x4)] → W p l e ({ frames := 1, cells := 0, slots := 0, locals := 22 } : Room) s m args below meth c H locs 0 0 (MQ below (va_Qi (fun (r : Int32) (u : HI × HL) => Q r u.1 u.2) (gB D cy ad s.heap.size) (gA ad s.heap.size)) args s 0 0 (gA ad s.heap.size)) (F0 m 53 ls []) := by
    intro K5 hK5 x1 x2 x3 x4 h g H locs ls HW hG hl
    unfold j_X7_objector_53 at HW
    obtain ⟨x4_53, ex4_53⟩ : ∃ y : Int32, y = (x4 + 1) := ⟨_, rfl⟩
    replace HW := HW x4_53 ex4_53
    refine lv_iinc (v := x4_53) (lv' := [(4, .int x4_53), (0, .ref (ad 81)), (1, .int x1), (2, .int x2), (3, .int x3)]) hx hb dX7_objector_53 hl (k := 4) rfl (by rw [ex4_53]; rfl) (by decide) rfl (fun ls hl => ?_)
    refine lv_goto (tgt := 5) hx hb dX7_objector_56 (by decide) ?_
    exact hK5 x1 x2 x3 x4_53 h g _ _ _ HW hG (lv_sub hl [1, 2, 3, 4, 0] rfl)
  have L5 : ∀ (n : Nat) (x1 : Int32) (x2 : Int32) (x3 : Int32) (x4 : Int32) (h : HI) (g : HL) (H : Heap) (locs : List Loc) (ls : Array Slot), lpN (F_X7_objector_5 Q) n (x1, x2, x3, x4, h, g) → gG D cy ad (gA ad s.heap.size) s.heap h g H locs → lv_has ls 5 [(0, .ref (ad 81)), (1, .int x1), (2, .int x2), (3, .int x3), (4, .int x4)] → W p l e ({ frames := 1, cells := 0, slots := 0, locals := 22 } : Room) s m args below meth c H locs 0 0 (MQ below (va_Qi (fun (r : Int32) (u : HI × HL) => Q r u.1 u.2) (gB D cy ad s.heap.size) (gA ad s.heap.size)) args s 0 0 (gA ad s.heap.size)) (F0 m 5 ls []) := by
    intro n
    induction n with
    | zero => intro x1 x2 x3 x4 h g H locs ls HW; exact HW.elim
    | succ n ih =>
      intro x1 x2 x3 x4 h g H locs ls HW hG hl
      have HW : b_X7_objector_5 Q (fun x1 x2 x3 x4 h g => lpN (F_X7_objector_5 Q) n (x1, x2, x3, x4, h, g)) x1 x2 x3 x4 h g := HW
      generalize hKe : (fun (x1 : Int32) (x2 : Int32) (x3 : Int32) (x4 : Int32) (h : HI) (g : HL) => lpN (F_X7_objector_5 Q) n (x1, x2, x3, x4, h, g)) = K5 at HW
      have hK5 : ∀ (x1 : Int32) (x2 : Int32) (x3 : Int32) (x4 : Int32) (h : HI) (g : HL) (H : Heap) (locs : List Loc) (ls : Array Slot), K5 x1 x2 x3 x4 h g → gG D cy ad (gA ad s.heap.size) s.heap h g H locs → lv_has ls 5 [(0, .ref (ad 81)), (1, .int x1), (2, .int x2), (3, .int x3), (4, .int x4)] → W p l e ({ frames := 1, cells := 0, slots := 0, locals := 22 } : Room) s m args below meth c H locs 0 0 (MQ below (va_Qi (fun (r : Int32) (u : HI × HL) => Q r u.1 u.2) (gB D cy ad s.heap.size) (gA ad s.heap.size)) args s 0 0 (gA ad s.heap.size)) (F0 m 5 ls []) := by subst hKe; exact ih
      clear ih
      clear hKe
      unfold b_X7_objector_5 at HW
      refine lv_iload hx hb dX7_objector_5 (lv_at hl 4 rfl) ?_
      refine lv_aload_n hx hb dX7_objector_7 rfl (lv_at hl 0 rfl) ?_
      refine g_geti hx hb hw inG7 hown hK hG gl_81 rfl gk_81 (by decide) 5 (by decide) (by rw [gm_81]; decide) gr_81_5 lk45 dX7_objector_8 ?_
      refine lv_icmp_ge (tgt := 59) hx hb dX7_objector_11 (by decide) (fun c_11 => ?_) (fun c_11 => ?_)
      · replace HW := HW.1 c_11
        refine lv_iconst (v := (-1)) hx hb dX7_objector_59 (by decide) ?_
        exact W.iret (v := (-1 : Int32)) hx hb hr (fun t ht hW => ⟨⟨(-1 : Int32), (h, g), rfl, HW, g_B ht hG⟩, hG.2.2.F ht⟩) hG.2.2.2.2 dX7_objector_60
      · replace HW := HW.2 c_11
        refine lv_iload hx hb dX7_objector_14 (lv_at hl 4 rfl) ?_
        refine lv_aload_n hx hb dX7_objector_16 rfl (lv_at hl 0 rfl) ?_
        refine g_getr hx hb hw inG7 hown hK hG gl_81 rfl gk_81 (by decide) 4 (by decide) (by rw [gm_81]; decide) (r := 84) gr_81_4 lk26 dX7_objector_17 ?_
        refine g_alen hx hb hK hG gl_84 gk_84 (v := (60 : Int32)) (by rw [gn_84]; decide) dX7_objector_20 ?_
        refine lv_icmp_ge (tgt := 59) hx hb dX7_objector_21 (by decide) (fun c_21 => ?_) (fun c_21 => ?_)
        · replace HW := HW.1 c_21
          refine lv_iconst (v := (-1)) hx hb dX7_objector_59 (by decide) ?_
          exact W.iret (v := (-1 : Int32)) hx hb hr (fun t ht hW => ⟨⟨(-1 : Int32), (h, g), rfl, HW, g_B ht hG⟩, hG.2.2.F ht⟩) hG.2.2.2.2 dX7_objector_60
        · replace HW := HW.2 c_21
          refine lv_aload_n hx hb dX7_objector_24 rfl (lv_at hl 0 rfl) ?_
          refine lv_iload hx hb dX7_objector_25 (lv_at hl 4 rfl) ?_
          refine lv_iload_n hx hb dX7_objector_27 rfl (lv_at hl 1 rfl) ?_
          obtain ⟨P_28, HC_28, HW⟩ := HW
          refine g_callz (g_runV (As := [.int x4, .int x1]) (rest := []) ⟨hx, hb, hml, hown, hts⟩ (m_X7_denies l D cy ad h g H.size x4 x1 P_28 HC_28) (cwV 2 hts (gd_V (wm3 121 rfl rfl) (wm3 123 rfl rfl) (wmp1 (q := (yX7_denies, 12)) 13 rfl) (wm1 5 rfl rfl) (wm3 124 rfl rfl)) rfl rfl rfl (by decide +kernel) ⟨Nat.le_of_ble_eq_true rfl, Nat.le_of_ble_eq_true rfl⟩) hK hNw hG gl_81 rfl gk_81 (by decide) rfl rfl hl.1 rfl (lv_room (Nat.le_of_ble_eq_true rfl)) dX7_objector_28 ⟨Nat.zero_le _, Nat.zero_le _⟩) hG (fun r_28 h_28 g_28 H locs hz hq hG => ?_)
          replace HW := HW r_28 h_28 g_28 hz hq
          refine lv_if_ne (tgt := 37) hx hb dX7_objector_31 (by decide) (fun c_31 => ?_) (fun c_31 => ?_)
          · replace HW := HW.1 c_31
            refine lv_iload_n hx hb dX7_objector_37 rfl (lv_at hl 3 rfl) ?_
            refine lv_iload_n hx hb dX7_objector_38 rfl (lv_at hl 2 rfl) ?_
            refine lv_icmp_ne (tgt := 50) hx hb dX7_objector_39 (by decide) (fun c_39 => ?_) (fun c_39 => ?_)
            · replace HW := HW.1 c_39
              obtain ⟨x3_50, ex3_50⟩ : ∃ y : Int32, y = (x3 + 1) := ⟨_, rfl⟩
              replace HW := HW x3_50 ex3_50
              refine lv_iinc (v := x3_50) (lv' := [(3, .int x3_50), (0, .ref (ad 81)), (1, .int x1), (2, .int x2), (4, .int x4)]) hx hb dX7_objector_50 hl (k := 3) rfl (by rw [ex3_50]; rfl) (by decide) rfl (fun ls hl => ?_)
              exact B53 K5 hK5 x1 x2 x3_50 x4 h_28 g_28 _ _ _ HW hG (lv_sub hl [1, 2, 3, 0, 4] rfl)
            · replace HW := HW.2 c_39
              refine lv_aload_n hx hb dX7_objector_42 rfl (lv_at hl 0 rfl) ?_
              refine g_getr hx hb hw inG7 hown hK hG gl_81 rfl gk_81 (by decide) 4 (by decide) (by rw [gm_81]; decide) (r := 84) gr_81_4 lk26 dX7_objector_43 ?_
              refine lv_iload hx hb dX7_objector_46 (lv_at hl 4 rfl) ?_
              refine g_iald hx hb hK hG gl_84 gk_84 gn_84 HW.1 dX7_objector_48 ?_
              replace HW := HW.2
              exact W.iret (v := (h_28 84 x4.toNatClampNeg)) hx hb hr (fun t ht hW => ⟨⟨(h_28 84 x4.toNatClampNeg), (h_28, g_28), rfl, HW, g_B ht hG⟩, hG.2.2.F ht⟩) hG.2.2.2.2 dX7_objector_49
          · replace HW := HW.2 c_31
            refine lv_goto (tgt := 53) hx hb dX7_objector_34 (by decide) ?_
            exact B53 K5 hK5 x1 x2 x3 x4 h_28 g_28 _ _ _ HW hG (lv_sub hl [0, 1, 2, 3, 4] rfl)
  have E0 : ∀ (H : Heap) (locs : List Loc) (ls : Array Slot), gG D cy ad (gA ad s.heap.size) s.heap h g H locs → lv_has ls 5 [(0, .ref (ad 81)), (1, .int x1), (2, .int x2)] → W p l e ({ frames := 1, cells := 0, slots := 0, locals := 22 } : Room) s m args below meth c H locs 0 0 (MQ below (va_Qi (fun (r : Int32) (u : HI × HL) => Q r u.1 u.2) (gB D cy ad s.heap.size) (gA ad s.heap.size)) args s 0 0 (gA ad s.heap.size)) (F0 m 0 ls []) := by
    intro H locs ls hG hl
    unfold w_X7_objector at HW
    refine lv_iconst (v := 0) hx hb dX7_objector_0 (by decide) ?_
    refine lv_istore_n (lv' := [(3, .int (0 : Int32)), (0, .ref (ad 81)), (1, .int x1), (2, .int x2)]) hx hb dX7_objector_1 rfl hl (by decide) rfl (fun ls hl => ?_)
    refine lv_iconst (v := 0) hx hb dX7_objector_2 (by decide) ?_
    refine lv_istore (lv' := [(4, .int (0 : Int32)), (3, .int (0 : Int32)), (0, .ref (ad 81)), (1, .int x1), (2, .int x2)]) hx hb dX7_objector_3 hl (by decide) rfl (fun ls hl => ?_)
    obtain ⟨n_5, HW⟩ := HW
    exact L5 n_5 x1 x2 (0 : Int32) (0 : Int32) h g _ _ _ HW hG (lv_sub hl [2, 3, 4, 1, 0] rfl)
  exact E0 _ _ _ hG hl

def w_X8_empty (o : Nat) (h : HI) (g : HL) (Q : HI → HL → Prop) : Prop :=
  (∀ h_2 : HI, h_2 = hu h o 3 (0 : Int32) → Q h_2 g)
set_option maxHeartbeats 8000000 in
set_option maxRecDepth 100000 in
theorem m_X8_empty (l : Launch) (D : va_G) (cy : Nat → ClassId) (ad : Nat → Nat) (h : HI) (g : HL) (sz : Nat) (o : Nat) (hT : isT o) (Q : HI → HL → Prop) (HW : w_X8_empty o h g Q) : Met l yX8_empty (wa yX8_empty cX8_empty 1 none) ({ frames := 0, cells := 0, slots := 0, locals := 0 }) (va_Pc [.ref (ad o)] (gI D cy ad h g sz)) (va_Qv (fun (u : HI × HL) => Q u.1 u.2) (gB D cy ad sz) (gA ad sz)) 0 0 (gA ad sz) := by
  refine Met.ofW (cc := cX8_empty) (maxL := 1) (ret := none) (by decide) rfl ?_
  intro p e s m args below meth c s₁ B hml hv
  obtain ⟨hav, hsz, hP, hK, hD0, hNw⟩ := hv
  have hx := B.exec
  have hb := B.bytes
  have hr := B.returns
  have hts := atoms_spec (ws := (wa yX8_empty cX8_empty 1 none)) B.pre
  have hw := wa_hw hts
  have hown : s.vm.findClass RX8 = some m.cls := findClass_of_methodNamed B.named
  have hlocks := B.notSynchronized
  subst hsz
  have hG : gG D cy ad (gA ad s.heap.size) s.heap h g s.heap [] := ⟨hP, gA_self hD0, va_S.rf⟩
  clear hP hD0
  have lk22 := hw (.fieldLink RX8 22 "OldWorks$Table" "many" "I") (wm1 40 rfl rfl)
  rw [show (headSpec (wa yX8_empty cX8_empty 1 none) ({ frames := 0, cells := 0, slots := 0, locals := 0 } : Room)).room = ({ frames := 0, cells := 0, slots := 0, locals := 0 } : Room) from rfl]
  have hl := lv_entry ([.ref (ad o)]) (n := 1) (Nat.le_of_ble_eq_true rfl)
  rw [show entryFrame m args 1 = entryFrame m ([.ref (ad o)] : List Value).toArray 1 from by rw [hav], lg_entry_eq]
  generalize (lg_sl ([.ref (ad o)]) ++ List.replicate (1 - (lg_sl ([.ref (ad o)])).length) Slot.unset).toArray = ls at hl ⊢
  have hl : lv_has ls 1 [(0, .ref (ad o))] := hl
  have E0 : ∀ (H : Heap) (locs : List Loc) (ls : Array Slot), gG D cy ad (gA ad s.heap.size) s.heap h g H locs → lv_has ls 1 [(0, .ref (ad o))] → W p l e ({ frames := 0, cells := 0, slots := 0, locals := 0 } : Room) s m args below meth c H locs 0 0 (MQ below (va_Qv (fun (u : HI × HL) => Q u.1 u.2) (gB D cy ad s.heap.size) (gA ad s.heap.size)) args s 0 0 (gA ad s.heap.size)) (F0 m 0 ls []) := by
    intro H locs ls hG hl
    unfold w_X8_empty at HW
    refine lv_aload_n hx hb dX8_empty_0 rfl (lv_at hl 0 rfl) ?_
    refine lv_iconst (v := 0) hx hb dX8_empty_1 (by decide) ?_
    refine g_put hx hb hw inG8 tyX8 tyX8_ok nmX8 hown hK hG hT.lt rfl hT.k (by decide) 3 (by decide) (by rw [hT.m]; decide) hT.r.2.2.2 rfl (ty := .int) (by decide +kernel) rfl rfl lk22 dX8_empty_2 (fun H locs hG => ?_)
    obtain ⟨h_2, eh_2⟩ : ∃ y : HI, y = hu h o 3 (0 : Int32) := ⟨_, rfl⟩
    rw [← eh_2] at hG
    replace HW := HW h_2 eh_2
    exact W.vret hx hb hr (fun t ht hW => ⟨⟨(h_2, g), rfl, HW, g_B ht hG⟩, hG.2.2.F ht⟩) hG.2.2.2.2 dX8_empty_5
  exact E0 _ _ _ hG hl

def w_X8_put (o : Nat) (x1 : Int32) (x2 : Int32) (x3 : Int32) (h : HI) (g : HL) (Q : HI → HL → Prop) : Prop :=
  ((x1 < 0 → Q h g) ∧ (¬ x1 < 0 → (((h o 3) ≤ x1 → Q h g) ∧ (¬ (h o 3) ≤ x1 → ((x2 < 0 → Q h g) ∧ (¬ x2 < 0 → ((x2 < (h o 1) → (∀ x4_33 : Int32, x4_33 = ((x1 * (h o 1)) + x2) → (((Int32.ofNat (gN (o + 1))) ≤ x4_33 → Q h g) ∧ (¬ (Int32.ofNat (gN (o + 1))) ≤ x4_33 → (vp_in x4_33 (gN (o + 1)) ∧ ∀ h_52 : HI, h_52 = hu h (o + 1) x4_33.toNatClampNeg x3 → Q h_52 g))))) ∧ (¬ x2 < (h o 1) → Q h g))))))))
set_option maxHeartbeats 8000000 in
set_option maxRecDepth 100000 in
theorem m_X8_put (l : Launch) (D : va_G) (cy : Nat → ClassId) (ad : Nat → Nat) (h : HI) (g : HL) (sz : Nat) (o : Nat) (hT : isT o) (x1 : Int32) (x2 : Int32) (x3 : Int32) (Q : HI → HL → Prop) (HW : w_X8_put o x1 x2 x3 h g Q) : Met l yX8_put (wa yX8_put cX8_put 5 none) ({ frames := 0, cells := 0, slots := 0, locals := 0 }) (va_Pc [.ref (ad o), .int x1, .int x2, .int x3] (gI D cy ad h g sz)) (va_Qv (fun (u : HI × HL) => Q u.1 u.2) (gB D cy ad sz) (gA ad sz)) 0 0 (gA ad sz) := by
  refine Met.ofW (cc := cX8_put) (maxL := 5) (ret := none) (by decide) rfl ?_
  intro p e s m args below meth c s₁ B hml hv
  obtain ⟨hav, hsz, hP, hK, hD0, hNw⟩ := hv
  have hx := B.exec
  have hb := B.bytes
  have hr := B.returns
  have hts := atoms_spec (ws := (wa yX8_put cX8_put 5 none)) B.pre
  have hw := wa_hw hts
  have hown : s.vm.findClass RX8 = some m.cls := findClass_of_methodNamed B.named
  have hlocks := B.notSynchronized
  subst hsz
  have hG : gG D cy ad (gA ad s.heap.size) s.heap h g s.heap [] := ⟨hP, gA_self hD0, va_S.rf⟩
  clear hP hD0
  have lk22 := hw (.fieldLink RX8 22 "OldWorks$Table" "many" "I") (wm1 40 rfl rfl)
  have lk15 := hw (.fieldLink RX8 15 "OldWorks$Table" "width" "I") (wm1 38 rfl rfl)
  have lk18 := hw (.fieldLink RX8 18 "OldWorks$Table" "cells" "[I") (wm1 37 rfl rfl)
  rw [show (headSpec (wa yX8_put cX8_put 5 none) ({ frames := 0, cells := 0, slots := 0, locals := 0 } : Room)).room = ({ frames := 0, cells := 0, slots := 0, locals := 0 } : Room) from rfl]
  have hl := lv_entry ([.ref (ad o), .int x1, .int x2, .int x3]) (n := 5) (Nat.le_of_ble_eq_true rfl)
  rw [show entryFrame m args 5 = entryFrame m ([.ref (ad o), .int x1, .int x2, .int x3] : List Value).toArray 5 from by rw [hav], lg_entry_eq]
  generalize (lg_sl ([.ref (ad o), .int x1, .int x2, .int x3]) ++ List.replicate (5 - (lg_sl ([.ref (ad o), .int x1, .int x2, .int x3])).length) Slot.unset).toArray = ls at hl ⊢
  have hl : lv_has ls 5 [(0, .ref (ad o)), (1, .int x1), (2, .int x2), (3, .int x3)] := hl
  have E0 : ∀ (H : Heap) (locs : List Loc) (ls : Array Slot), gG D cy ad (gA ad s.heap.size) s.heap h g H locs → lv_has ls 5 [(0, .ref (ad o)), (1, .int x1), (2, .int x2), (3, .int x3)] → W p l e ({ frames := 0, cells := 0, slots := 0, locals := 0 } : Room) s m args below meth c H locs 0 0 (MQ below (va_Qv (fun (u : HI × HL) => Q u.1 u.2) (gB D cy ad s.heap.size) (gA ad s.heap.size)) args s 0 0 (gA ad s.heap.size)) (F0 m 0 ls []) := by
    intro H locs ls hG hl
    unfold w_X8_put at HW
    refine lv_iload_n hx hb dX8_put_0 rfl (lv_at hl 1 rfl) ?_
    refine lv_if_lt (tgt := 24) hx hb dX8_put_1 (by decide) (fun c_1 => ?_) (fun c_1 => ?_)
    · replace HW := HW.1 c_1
      exact W.vret hx hb hr (fun t ht hW => ⟨⟨(h, g), rfl, HW, g_B ht hG⟩, hG.2.2.F ht⟩) hG.2.2.2.2 dX8_put_24
    · replace HW := HW.2 c_1
      refine lv_iload_n hx hb dX8_put_4 rfl (lv_at hl 1 rfl) ?_
      refine lv_aload_n hx hb dX8_put_5 rfl (lv_at hl 0 rfl) ?_
      refine g_geti hx hb hw inG8 hown hK hG hT.lt rfl hT.k (by decide) 3 (by decide) (by rw [hT.m]; decide) hT.r.2.2.2 lk22 dX8_put_6 ?_
      refine lv_icmp_ge (tgt := 24) hx hb dX8_put_9 (by decide) (fun c_9 => ?_) (fun c_9 => ?_)
      · replace HW := HW.1 c_9
        exact W.vret hx hb hr (fun t ht hW => ⟨⟨(h, g), rfl, HW, g_B ht hG⟩, hG.2.2.F ht⟩) hG.2.2.2.2 dX8_put_24
      · replace HW := HW.2 c_9
        refine lv_iload_n hx hb dX8_put_12 rfl (lv_at hl 2 rfl) ?_
        refine lv_if_lt (tgt := 24) hx hb dX8_put_13 (by decide) (fun c_13 => ?_) (fun c_13 => ?_)
        · replace HW := HW.1 c_13
          exact W.vret hx hb hr (fun t ht hW => ⟨⟨(h, g), rfl, HW, g_B ht hG⟩, hG.2.2.F ht⟩) hG.2.2.2.2 dX8_put_24
        · replace HW := HW.2 c_13
          refine lv_iload_n hx hb dX8_put_16 rfl (lv_at hl 2 rfl) ?_
          refine lv_aload_n hx hb dX8_put_17 rfl (lv_at hl 0 rfl) ?_
          refine g_geti hx hb hw inG8 hown hK hG hT.lt rfl hT.k (by decide) 1 (by decide) (by rw [hT.m]; decide) hT.r.2.1 lk15 dX8_put_18 ?_
          refine lv_icmp_lt (tgt := 25) hx hb dX8_put_21 (by decide) (fun c_21 => ?_) (fun c_21 => ?_)
          · replace HW := HW.1 c_21
            refine lv_iload_n hx hb dX8_put_25 rfl (lv_at hl 1 rfl) ?_
            refine lv_aload_n hx hb dX8_put_26 rfl (lv_at hl 0 rfl) ?_
            refine g_geti hx hb hw inG8 hown hK hG hT.lt rfl hT.k (by decide) 1 (by decide) (by rw [hT.m]; decide) hT.r.2.1 lk15 dX8_put_27 ?_
            refine lv_imul hx hb dX8_put_30 ?_
            refine lv_iload_n hx hb dX8_put_31 rfl (lv_at hl 2 rfl) ?_
            refine lv_iadd hx hb dX8_put_32 ?_
            refine lv_topi (fun x4_33 ex4_33 => ?_)
            replace HW := HW x4_33 ex4_33
            refine lv_istore (lv' := [(4, .int x4_33), (0, .ref (ad o)), (1, .int x1), (2, .int x2), (3, .int x3)]) hx hb dX8_put_33 hl (by decide) rfl (fun ls hl => ?_)
            refine lv_iload hx hb dX8_put_35 (lv_at hl 0 rfl) ?_
            refine lv_aload_n hx hb dX8_put_37 rfl (lv_at hl 1 rfl) ?_
            refine g_getr hx hb hw inG8 hown hK hG hT.lt rfl hT.k (by decide) 0 (by decide) (by rw [hT.m]; decide) (r := (o + 1)) hT.r.1 lk18 dX8_put_38 ?_
            refine g_alen hx hb hK hG hT.a.2 hT.a.1 (v := (Int32.ofNat (gN (o + 1)))) rfl dX8_put_41 ?_
            refine lv_icmp_ge (tgt := 53) hx hb dX8_put_42 (by decide) (fun c_42 => ?_) (fun c_42 => ?_)
            · replace HW := HW.1 c_42
              exact W.vret hx hb hr (fun t ht hW => ⟨⟨(h, g), rfl, HW, g_B ht hG⟩, hG.2.2.F ht⟩) hG.2.2.2.2 dX8_put_53
            · replace HW := HW.2 c_42
              refine lv_aload_n hx hb dX8_put_45 rfl (lv_at hl 1 rfl) ?_
              refine g_getr hx hb hw inG8 hown hK hG hT.lt rfl hT.k (by decide) 0 (by decide) (by rw [hT.m]; decide) (r := (o + 1)) hT.r.1 lk18 dX8_put_46 ?_
              refine lv_iload hx hb dX8_put_49 (lv_at hl 0 rfl) ?_
              refine lv_iload_n hx hb dX8_put_51 rfl (lv_at hl 4 rfl) ?_
              refine g_iast hx hb hK hG hT.a.2 hT.a.1 rfl HW.1 dX8_put_52 (fun H locs hG => ?_)
              replace HW := HW.2
              obtain ⟨h_52, eh_52⟩ : ∃ y : HI, y = hu h (o + 1) x4_33.toNatClampNeg x3 := ⟨_, rfl⟩
              rw [← eh_52] at hG
              replace HW := HW h_52 eh_52
              exact W.vret hx hb hr (fun t ht hW => ⟨⟨(h_52, g), rfl, HW, g_B ht hG⟩, hG.2.2.F ht⟩) hG.2.2.2.2 dX8_put_53
          · replace HW := HW.2 c_21
            exact W.vret hx hb hr (fun t ht hW => ⟨⟨(h, g), rfl, HW, g_B ht hG⟩, hG.2.2.F ht⟩) hG.2.2.2.2 dX8_put_24
  exact E0 _ _ _ hG hl

def b_X8_add_33 (o : Nat) (Q : Int32 → HI → HL → Prop) (K33 : Int32 → Int32 → Int32 → Int32 → Int32 → Int32 → HI → HL → Prop) (x1 : Int32) (x2 : Int32) (x3 : Int32) (x4 : Int32) (x5 : Int32) (x6 : Int32) (h : HI) (g : HL) : Prop :=
  (((h o 1) ≤ x6 → (∃ P_62 : HI → HL → Prop, w_X8_put o x5 (0 : Int32) x1 h g P_62 ∧ ∀ (h_62 : HI) (g_62 : HL), P_62 h_62 g_62 → (∃ P_70 : HI → HL → Prop, w_X8_put o x5 (1 : Int32) x2 h_62 g_62 P_70 ∧ ∀ (h_70 : HI) (g_70 : HL), P_70 h_70 g_70 → (∃ P_78 : HI → HL → Prop, w_X8_put o x5 (2 : Int32) x3 h_70 g_70 P_78 ∧ ∀ (h_78 : HI) (g_78 : HL), P_78 h_78 g_78 → (∃ P_87 : HI → HL → Prop, w_X8_put o x5 (3 : Int32) x4 h_78 g_78 P_87 ∧ ∀ (h_87 : HI) (g_87 : HL), P_87 h_87 g_87 → Q x5 h_87 g_87))))) ∧ (¬ (h o 1) ≤ x6 → (∃ P_48 : HI → HL → Prop, w_X8_put o x5 x6 (0 : Int32) h g P_48 ∧ ∀ (h_48 : HI) (g_48 : HL), P_48 h_48 g_48 → (∀ x6_51 : Int32, x6_51 = (x6 + 1) → K33 x1 x2 x3 x4 x5 x6_51 h_48 g_48))))
def F_X8_add_33 (o : Nat) (Q : Int32 → HI → HL → Prop) (K : Int32 × Int32 × Int32 × Int32 × Int32 × Int32 × HI × HL → Prop) (q : Int32 × Int32 × Int32 × Int32 × Int32 × Int32 × HI × HL) : Prop := b_X8_add_33 o Q (fun x1 x2 x3 x4 x5 x6 h g => K (x1, x2, x3, x4, x5, x6, h, g)) q.1 q.2.1 q.2.2.1 q.2.2.2.1 q.2.2.2.2.1 q.2.2.2.2.2.1 q.2.2.2.2.2.2.1 q.2.2.2.2.2.2.2
def w_X8_add (o : Nat) (x1 : Int32) (x2 : Int32) (x3 : Int32) (x4 : Int32) (h : HI) (g : HL) (Q : Int32 → HI → HL → Prop) : Prop :=
  (((h o 3) < (h o 2) → (∀ x5_18 : Int32, x5_18 = (h o 3) → (∀ h_27 : HI, h_27 = hu h o 3 ((h o 3) + (1 : Int32)) → lpE (F_X8_add_33 o Q) (x1, x2, x3, x4, x5_18, (4 : Int32), h_27, g)))) ∧ (¬ (h o 3) < (h o 2) → Q (-4 : Int32) h g))
set_option maxHeartbeats 8000000 in
set_option maxRecDepth 100000 in
theorem m_X8_add (l : Launch) (D : va_G) (cy : Nat → ClassId) (ad : Nat → Nat) (h : HI) (g : HL) (sz : Nat) (o : Nat) (hT : isT o) (x1 : Int32) (x2 : Int32) (x3 : Int32) (x4 : Int32) (Q : Int32 → HI → HL → Prop) (HW : w_X8_add o x1 x2 x3 x4 h g Q) : Met l yX8_add (wa yX8_add cX8_add 7 (some .int)) ({ frames := 1, cells := 0, slots := 0, locals := 24 }) (va_Pc [.ref (ad o), .int x1, .int x2, .int x3, .int x4] (gI D cy ad h g sz)) (va_Qi (fun (r : Int32) (u : HI × HL) => Q r u.1 u.2) (gB D cy ad sz) (gA ad sz)) 0 0 (gA ad sz) := by
  refine Met.ofW (cc := cX8_add) (maxL := 7) (ret := (some .int)) (by decide) rfl ?_
  intro p e s m args below meth c s₁ B hml hv
  obtain ⟨hav, hsz, hP, hK, hD0, hNw⟩ := hv
  have hx := B.exec
  have hb := B.bytes
  have hr := B.returns
  have hts := atoms_spec (ws := (wa yX8_add cX8_add 7 (some .int))) B.pre
  have hw := wa_hw hts
  have hown : s.vm.findClass RX8 = some m.cls := findClass_of_methodNamed B.named
  have hlocks := B.notSynchronized
  subst hsz
  have hG : gG D cy ad (gA ad s.heap.size) s.heap h g s.heap [] := ⟨hP, gA_self hD0, va_S.rf⟩
  clear hP hD0
  have lk22 := hw (.fieldLink RX8 22 "OldWorks$Table" "many" "I") (wm1 40 rfl rfl)
  have lk9 := hw (.fieldLink RX8 9 "OldWorks$Table" "most" "I") (wm1 39 rfl rfl)
  have lk15 := hw (.fieldLink RX8 15 "OldWorks$Table" "width" "I") (wm1 38 rfl rfl)
  rw [show (headSpec (wa yX8_add cX8_add 7 (some .int)) ({ frames := 1, cells := 0, slots := 0, locals := 24 } : Room)).room = ({ frames := 1, cells := 0, slots := 0, locals := 24 } : Room) from rfl]
  have hl := lv_entry ([.ref (ad o), .int x1, .int x2, .int x3, .int x4]) (n := 7) (Nat.le_of_ble_eq_true rfl)
  rw [show entryFrame m args 7 = entryFrame m ([.ref (ad o), .int x1, .int x2, .int x3, .int x4] : List Value).toArray 7 from by rw [hav], lg_entry_eq]
  generalize (lg_sl ([.ref (ad o), .int x1, .int x2, .int x3, .int x4]) ++ List.replicate (7 - (lg_sl ([.ref (ad o), .int x1, .int x2, .int x3, .int x4])).length) Slot.unset).toArray = ls at hl ⊢
  have hl : lv_has ls 7 [(0, .ref (ad o)), (1, .int x1), (2, .int x2), (3, .int x3), (4, .int x4)] := hl
  have L33 : ∀ (n : Nat) (x1 : Int32) (x2 : Int32) (x3 : Int32) (x4 : Int32) (x5 : Int32) (x6 : Int32) (h : HI) (g : HL) (H : Heap) (locs : List Loc) (ls : Array Slot), lpN (F_X8_add_33 o Q) n (x1, x2, x3, x4, x5, x6, h, g) → gG D cy ad (gA ad s.heap.size) s.heap h g H locs → lv_has ls 7 [(0, .ref (ad o)), (1, .int x1), (2, .int x2), (3, .int x3), (4, .int x4), (5, .int x5), (6, .int x6)] → W p l e ({ frames := 1, cells := 0, slots := 0, locals := 24 } : Room) s m args below meth c H locs 0 0 (MQ below (va_Qi (fun (r : Int32) (u : HI × HL) => Q r u.1 u.2) (gB D cy ad s.heap.size) (gA ad s.heap.size)) args s 0 0 (gA ad s.heap.size)) (F0 m 33 ls []) := by
    intro n
    induction n with
    | zero => intro x1 x2 x3 x4 x5 x6 h g H locs ls HW; exact HW.elim
    | succ n ih =>
      intro x1 x2 x3 x4 x5 x6 h g H locs ls HW hG hl
      have HW : b_X8_add_33 o Q (fun x1 x2 x3 x4 x5 x6 h g => lpN (F_X8_add_33 o Q) n (x1, x2, x3, x4, x5, x6, h, g)) x1 x2 x3 x4 x5 x6 h g := HW
      generalize hKe : (fun (x1 : Int32) (x2 : Int32) (x3 : Int32) (x4 : Int32) (x5 : Int32) (x6 : Int32) (h : HI) (g : HL) => lpN (F_X8_add_33 o Q) n (x1, x2, x3, x4, x5, x6, h, g)) = K33 at HW
      have hK33 : ∀ (x1 : Int32) (x2 : Int32) (x3 : Int32) (x4 : Int32) (x5 : Int32) (x6 : Int32) (h : HI) (g : HL) (H : Heap) (locs : List Loc) (ls : Array Slot), K33 x1 x2 x3 x4 x5 x6 h g → gG D cy ad (gA ad s.heap.size) s.heap h g H locs → lv_has ls 7 [(0, .ref (ad o)), (1, .int x1), (2, .int x2), (3, .int x3), (4, .int x4), (5, .int x5), (6, .int x6)] → W p l e ({ frames := 1, cells := 0, slots := 0, locals := 24 } : Room) s m args below meth c H locs 0 0 (MQ below (va_Qi (fun (r : Int32) (u : HI × HL) => Q r u.1 u.2) (gB D cy ad s.heap.size) (gA ad s.heap.size)) args s 0 0 (gA ad s.heap.size)) (F0 m 33 ls []) := by subst hKe; exact ih
      clear ih
      clear hKe
      unfold b_X8_add_33 at HW
      refine lv_iload hx hb dX8_add_33 (lv_at hl 6 rfl) ?_
      refine lv_aload_n hx hb dX8_add_35 rfl (lv_at hl 0 rfl) ?_
      refine g_geti hx hb hw inG8 hown hK hG hT.lt rfl hT.k (by decide) 1 (by decide) (by rw [hT.m]; decide) hT.r.2.1 lk15 dX8_add_36 ?_
      refine lv_icmp_ge (tgt := 57) hx hb dX8_add_39 (by decide) (fun c_39 => ?_) (fun c_39 => ?_)
      · replace HW := HW.1 c_39
        refine lv_aload_n hx hb dX8_add_57 rfl (lv_at hl 0 rfl) ?_
        refine lv_iload hx hb dX8_add_58 (lv_at hl 5 rfl) ?_
        refine lv_iconst (v := 0) hx hb dX8_add_60 (by decide) ?_
        refine lv_iload_n hx hb dX8_add_61 rfl (lv_at hl 1 rfl) ?_
        obtain ⟨P_62, HC_62, HW⟩ := HW
        refine g_callv (g_runV (As := [.int x5, .int (0 : Int32), .int x1]) (rest := []) ⟨hx, hb, hml, hown, hts⟩ (m_X8_put l D cy ad h g H.size o hT x5 (0 : Int32) x1 P_62 HC_62) (cwV 3 hts (gd_V (wm1 56 rfl rfl) (wm1 57 rfl rfl) (wm1 58 rfl rfl) (wm1 3 rfl rfl) (wm1 59 rfl rfl)) rfl rfl rfl (by decide +kernel) ⟨Nat.le_of_ble_eq_true rfl, Nat.le_of_ble_eq_true rfl⟩) hK hNw hG hT.lt rfl hT.k (by decide) rfl rfl hl.1 rfl (lv_room (Nat.le_of_ble_eq_true rfl)) dX8_add_62 ⟨Nat.zero_le _, Nat.zero_le _⟩) hG (fun h_62 g_62 H locs hq hG => ?_)
        replace HW := HW h_62 g_62 hq
        refine lv_aload_n hx hb dX8_add_65 rfl (lv_at hl 0 rfl) ?_
        refine lv_iload hx hb dX8_add_66 (lv_at hl 5 rfl) ?_
        refine lv_iconst (v := 1) hx hb dX8_add_68 (by decide) ?_
        refine lv_iload_n hx hb dX8_add_69 rfl (lv_at hl 2 rfl) ?_
        obtain ⟨P_70, HC_70, HW⟩ := HW
        refine g_callv (g_runV (As := [.int x5, .int (1 : Int32), .int x2]) (rest := []) ⟨hx, hb, hml, hown, hts⟩ (m_X8_put l D cy ad h_62 g_62 H.size o hT x5 (1 : Int32) x2 P_70 HC_70) (cwV 3 hts (gd_V (wm1 56 rfl rfl) (wm1 57 rfl rfl) (wm1 58 rfl rfl) (wm1 3 rfl rfl) (wm1 59 rfl rfl)) rfl rfl rfl (by decide +kernel) ⟨Nat.le_of_ble_eq_true rfl, Nat.le_of_ble_eq_true rfl⟩) hK hNw hG hT.lt rfl hT.k (by decide) rfl rfl hl.1 rfl (lv_room (Nat.le_of_ble_eq_true rfl)) dX8_add_70 ⟨Nat.zero_le _, Nat.zero_le _⟩) hG (fun h_70 g_70 H locs hq hG => ?_)
        replace HW := HW h_70 g_70 hq
        refine lv_aload_n hx hb dX8_add_73 rfl (lv_at hl 0 rfl) ?_
        refine lv_iload hx hb dX8_add_74 (lv_at hl 5 rfl) ?_
        refine lv_iconst (v := 2) hx hb dX8_add_76 (by decide) ?_
        refine lv_iload_n hx hb dX8_add_77 rfl (lv_at hl 3 rfl) ?_
        obtain ⟨P_78, HC_78, HW⟩ := HW
        refine g_callv (g_runV (As := [.int x5, .int (2 : Int32), .int x3]) (rest := []) ⟨hx, hb, hml, hown, hts⟩ (m_X8_put l D cy ad h_70 g_70 H.size o hT x5 (2 : Int32) x3 P_78 HC_78) (cwV 3 hts (gd_V (wm1 56 rfl rfl) (wm1 57 rfl rfl) (wm1 58 rfl rfl) (wm1 3 rfl rfl) (wm1 59 rfl rfl)) rfl rfl rfl (by decide +kernel) ⟨Nat.le_of_ble_eq_true rfl, Nat.le_of_ble_eq_true rfl⟩) hK hNw hG hT.lt rfl hT.k (by decide) rfl rfl hl.1 rfl (lv_room (Nat.le_of_ble_eq_true rfl)) dX8_add_78 ⟨Nat.zero_le _, Nat.zero_le _⟩) hG (fun h_78 g_78 H locs hq hG => ?_)
        replace HW := HW h_78 g_78 hq
        refine lv_aload_n hx hb dX8_add_81 rfl (lv_at hl 0 rfl) ?_
        refine lv_iload hx hb dX8_add_82 (lv_at hl 5 rfl) ?_
        refine lv_iconst (v := 3) hx hb dX8_add_84 (by decide) ?_
        refine lv_iload hx hb dX8_add_85 (lv_at hl 4 rfl) ?_
        obtain ⟨P_87, HC_87, HW⟩ := HW
        refine g_callv (g_runV (As := [.int x5, .int (3 : Int32), .int x4]) (rest := []) ⟨hx, hb, hml, hown, hts⟩ (m_X8_put l D cy ad h_78 g_78 H.size o hT x5 (3 : Int32) x4 P_87 HC_87) (cwV 3 hts (gd_V (wm1 56 rfl rfl) (wm1 57 rfl rfl) (wm1 58 rfl rfl) (wm1 3 rfl rfl) (wm1 59 rfl rfl)) rfl rfl rfl (by decide +kernel) ⟨Nat.le_of_ble_eq_true rfl, Nat.le_of_ble_eq_true rfl⟩) hK hNw hG hT.lt rfl hT.k (by decide) rfl rfl hl.1 rfl (lv_room (Nat.le_of_ble_eq_true rfl)) dX8_add_87 ⟨Nat.zero_le _, Nat.zero_le _⟩) hG (fun h_87 g_87 H locs hq hG => ?_)
        replace HW := HW h_87 g_87 hq
        refine lv_iload hx hb dX8_add_90 (lv_at hl 5 rfl) ?_
        exact W.iret (v := x5) hx hb hr (fun t ht hW => ⟨⟨x5, (h_87, g_87), rfl, HW, g_B ht hG⟩, hG.2.2.F ht⟩) hG.2.2.2.2 dX8_add_92
      · replace HW := HW.2 c_39
        refine lv_aload_n hx hb dX8_add_42 rfl (lv_at hl 0 rfl) ?_
        refine lv_iload hx hb dX8_add_43 (lv_at hl 5 rfl) ?_
        refine lv_iload hx hb dX8_add_45 (lv_at hl 6 rfl) ?_
        refine lv_iconst (v := 0) hx hb dX8_add_47 (by decide) ?_
        obtain ⟨P_48, HC_48, HW⟩ := HW
        refine g_callv (g_runV (As := [.int x5, .int x6, .int (0 : Int32)]) (rest := []) ⟨hx, hb, hml, hown, hts⟩ (m_X8_put l D cy ad h g H.size o hT x5 x6 (0 : Int32) P_48 HC_48) (cwV 3 hts (gd_V (wm1 56 rfl rfl) (wm1 57 rfl rfl) (wm1 58 rfl rfl) (wm1 3 rfl rfl) (wm1 59 rfl rfl)) rfl rfl rfl (by decide +kernel) ⟨Nat.le_of_ble_eq_true rfl, Nat.le_of_ble_eq_true rfl⟩) hK hNw hG hT.lt rfl hT.k (by decide) rfl rfl hl.1 rfl (lv_room (Nat.le_of_ble_eq_true rfl)) dX8_add_48 ⟨Nat.zero_le _, Nat.zero_le _⟩) hG (fun h_48 g_48 H locs hq hG => ?_)
        replace HW := HW h_48 g_48 hq
        obtain ⟨x6_51, ex6_51⟩ : ∃ y : Int32, y = (x6 + 1) := ⟨_, rfl⟩
        replace HW := HW x6_51 ex6_51
        refine lv_iinc (v := x6_51) (lv' := [(6, .int x6_51), (0, .ref (ad o)), (1, .int x1), (2, .int x2), (3, .int x3), (4, .int x4), (5, .int x5)]) hx hb dX8_add_51 hl (k := 6) rfl (by rw [ex6_51]; rfl) (by decide) rfl (fun ls hl => ?_)
        refine lv_goto (tgt := 33) hx hb dX8_add_54 (by decide) ?_
        exact hK33 x1 x2 x3 x4 x5 x6_51 h_48 g_48 _ _ _ HW hG (lv_sub hl [1, 2, 3, 4, 5, 6, 0] rfl)
  have E0 : ∀ (H : Heap) (locs : List Loc) (ls : Array Slot), gG D cy ad (gA ad s.heap.size) s.heap h g H locs → lv_has ls 7 [(0, .ref (ad o)), (1, .int x1), (2, .int x2), (3, .int x3), (4, .int x4)] → W p l e ({ frames := 1, cells := 0, slots := 0, locals := 24 } : Room) s m args below meth c H locs 0 0 (MQ below (va_Qi (fun (r : Int32) (u : HI × HL) => Q r u.1 u.2) (gB D cy ad s.heap.size) (gA ad s.heap.size)) args s 0 0 (gA ad s.heap.size)) (F0 m 0 ls []) := by
    intro H locs ls hG hl
    unfold w_X8_add at HW
    refine lv_aload_n hx hb dX8_add_0 rfl (lv_at hl 0 rfl) ?_
    refine g_geti hx hb hw inG8 hown hK hG hT.lt rfl hT.k (by decide) 3 (by decide) (by rw [hT.m]; decide) hT.r.2.2.2 lk22 dX8_add_1 ?_
    refine lv_aload_n hx hb dX8_add_4 rfl (lv_at hl 0 rfl) ?_
    refine g_geti hx hb hw inG8 hown hK hG hT.lt rfl hT.k (by decide) 2 (by decide) (by rw [hT.m]; decide) hT.r.2.2.1 lk9 dX8_add_5 ?_
    refine lv_icmp_lt (tgt := 14) hx hb dX8_add_8 (by decide) (fun c_8 => ?_) (fun c_8 => ?_)
    · replace HW := HW.1 c_8
      refine lv_aload_n hx hb dX8_add_14 rfl (lv_at hl 0 rfl) ?_
      refine g_geti hx hb hw inG8 hown hK hG hT.lt rfl hT.k (by decide) 3 (by decide) (by rw [hT.m]; decide) hT.r.2.2.2 lk22 dX8_add_15 ?_
      refine lv_topi (fun x5_18 ex5_18 => ?_)
      replace HW := HW x5_18 ex5_18
      refine lv_istore (lv' := [(5, .int x5_18), (0, .ref (ad o)), (1, .int x1), (2, .int x2), (3, .int x3), (4, .int x4)]) hx hb dX8_add_18 hl (by decide) rfl (fun ls hl => ?_)
      refine lv_aload_n hx hb dX8_add_20 rfl (lv_at hl 1 rfl) ?_
      refine lv_dup hx hb dX8_add_21 rfl ?_
      refine g_geti hx hb hw inG8 hown hK hG hT.lt rfl hT.k (by decide) 3 (by decide) (by rw [hT.m]; decide) hT.r.2.2.2 lk22 dX8_add_22 ?_
      refine lv_iconst (v := 1) hx hb dX8_add_25 (by decide) ?_
      refine lv_iadd hx hb dX8_add_26 ?_
      refine g_put hx hb hw inG8 tyX8 tyX8_ok nmX8 hown hK hG hT.lt rfl hT.k (by decide) 3 (by decide) (by rw [hT.m]; decide) hT.r.2.2.2 rfl (ty := .int) (by decide +kernel) rfl rfl lk22 dX8_add_27 (fun H locs hG => ?_)
      obtain ⟨h_27, eh_27⟩ : ∃ y : HI, y = hu h o 3 ((h o 3) + (1 : Int32)) := ⟨_, rfl⟩
      rw [← eh_27] at hG
      replace HW := HW h_27 eh_27
      refine lv_iconst (v := 4) hx hb dX8_add_30 (by decide) ?_
      refine lv_istore (lv' := [(6, .int (4 : Int32)), (5, .int x5_18), (0, .ref (ad o)), (1, .int x1), (2, .int x2), (3, .int x3), (4, .int x4)]) hx hb dX8_add_31 hl (by decide) rfl (fun ls hl => ?_)
      obtain ⟨n_33, HW⟩ := HW
      exact L33 n_33 x1 x2 x3 x4 x5_18 (4 : Int32) h_27 g _ _ _ HW hG (lv_sub hl [2, 3, 4, 5, 6, 1, 0] rfl)
    · replace HW := HW.2 c_8
      refine lv_bipush (v := (-4)) hx hb dX8_add_11 (by decide) ?_
      exact W.iret (v := (-4 : Int32)) hx hb hr (fun t ht hW => ⟨⟨(-4 : Int32), (h, g), rfl, HW, g_B ht hG⟩, hG.2.2.F ht⟩) hG.2.2.2.2 dX8_add_13
  exact E0 _ _ _ hG hl

def j_X9_reach_85 (Q : HI → HL → Prop) (x1 : Int32) (x2 : Int32) (x3 : Int32) (h : HI) (g : HL) : Prop :=
  (vp_in x1 2 ∧ (vp_in x2 3001 ∧ (((h (91 + x1.toNatClampNeg) x2.toNatClampNeg) ≤ x3 → Q h g) ∧ (¬ (h (91 + x1.toNatClampNeg) x2.toNatClampNeg) ≤ x3 → (vp_in x1 2 ∧ (vp_in x2 3001 ∧ ∀ h_105 : HI, h_105 = hu h (91 + x1.toNatClampNeg) x2.toNatClampNeg x3 → Q h_105 g))))))
def w_X9_reach (x1 : Int32) (x2 : Int32) (x3 : Int32) (h : HI) (g : HL) (Q : HI → HL → Prop) : Prop :=
  (∃ P_3 : Int32 → HI → HL → Prop, w_X10_within x1 (0 : Int32) (1 : Int32) h g P_3 ∧ ∀ (r_3 : Int32) (h_3 : HI) (g_3 : HL), zb r_3 → P_3 r_3 h_3 g_3 → ((r_3 = 0 → Q h_3 g_3) ∧ (¬ r_3 = 0 → (∃ P_14 : Int32 → HI → HL → Prop, w_X10_within x2 (1 : Int32) (3000 : Int32) h_3 g_3 P_14 ∧ ∀ (r_14 : Int32) (h_14 : HI) (g_14 : HL), zb r_14 → P_14 r_14 h_14 g_14 → ((¬ r_14 = 0 → (vp_in x1 2 ∧ (vp_in x2 3001 ∧ ((¬ (h_14 (91 + x1.toNatClampNeg) x2.toNatClampNeg) = (-1 : Int32) → j_X9_reach_85 Q x1 x2 x3 h_14 g_14) ∧ ((h_14 (91 + x1.toNatClampNeg) x2.toNatClampNeg) = (-1 : Int32) → (vp_in x1 2 ∧ (∃ P_43 : Int32 → HI → HL → Prop, w_X10_within (h_14 96 x1.toNatClampNeg) (0 : Int32) (2999 : Int32) h_14 g_14 P_43 ∧ ∀ (r_43 : Int32) (h_43 : HI) (g_43 : HL), zb r_43 → P_43 r_43 h_43 g_43 → ((r_43 = 0 → j_X9_reach_85 Q x1 x2 x3 h_43 g_43) ∧ (¬ r_43 = 0 → (vp_in x1 2 ∧ (vp_in x1 2 ∧ (vp_in (h_43 96 x1.toNatClampNeg) 3000 ∧ ∀ h_62 : HI, h_62 = hu h_43 (94 + x1.toNatClampNeg) (h_43 96 x1.toNatClampNeg).toNatClampNeg x2 → (vp_in x1 2 ∧ (vp_in x1 2 ∧ ∀ h_72 : HI, h_72 = hu h_62 96 x1.toNatClampNeg ((h_62 96 x1.toNatClampNeg) + (1 : Int32)) → (vp_in x1 2 ∧ (vp_in x2 3001 ∧ ∀ h_81 : HI, h_81 = hu h_72 (91 + x1.toNatClampNeg) x2.toNatClampNeg x3 → Q h_81 g_43)))))))))))))))) ∧ (r_14 = 0 → Q h_14 g_14))))))
set_option maxHeartbeats 8000000 in
set_option maxRecDepth 100000 in
theorem m_X9_reach (l : Launch) (D : va_G) (cy : Nat → ClassId) (ad : Nat → Nat) (h : HI) (g : HL) (sz : Nat) (x1 : Int32) (x2 : Int32) (x3 : Int32) (Q : HI → HL → Prop) (HW : w_X9_reach x1 x2 x3 h g Q) : Met l yX9_reach (wa yX9_reach cX9_reach 4 none) ({ frames := 1, cells := 0, slots := 0, locals := 22 }) (va_Pc [.ref (ad 89), .int x1, .int x2, .int x3] (gI D cy ad h g sz)) (va_Qv (fun (u : HI × HL) => Q u.1 u.2) (gB D cy ad sz) (gA ad sz)) 0 0 (gA ad sz) := by
  refine Met.ofW (cc := cX9_reach) (maxL := 4) (ret := none) (by decide) rfl ?_
  intro p e s m args below meth c s₁ B hml hv
  obtain ⟨hav, hsz, hP, hK, hD0, hNw⟩ := hv
  have hx := B.exec
  have hb := B.bytes
  have hr := B.returns
  have hts := atoms_spec (ws := (wa yX9_reach cX9_reach 4 none)) B.pre
  have hw := wa_hw hts
  have hown : s.vm.findClass RX9 = some m.cls := findClass_of_methodNamed B.named
  have hlocks := B.notSynchronized
  subst hsz
  have hG : gG D cy ad (gA ad s.heap.size) s.heap h g s.heap [] := ⟨hP, gA_self hD0, va_S.rf⟩
  clear hP hD0
  have lk11 := hw (.fieldLink RX9 11 "OldWorks$Ways" "best" "[[I") (wm2 20 rfl rfl)
  have lk19 := hw (.fieldLink RX9 19 "OldWorks$Ways" "many" "[I") (wm2 22 rfl rfl)
  have lk16 := hw (.fieldLink RX9 16 "OldWorks$Ways" "reached" "[[I") (wm2 21 rfl rfl)
  rw [show (headSpec (wa yX9_reach cX9_reach 4 none) ({ frames := 1, cells := 0, slots := 0, locals := 22 } : Room)).room = ({ frames := 1, cells := 0, slots := 0, locals := 22 } : Room) from rfl]
  have hl := lv_entry ([.ref (ad 89), .int x1, .int x2, .int x3]) (n := 4) (Nat.le_of_ble_eq_true rfl)
  rw [show entryFrame m args 4 = entryFrame m ([.ref (ad 89), .int x1, .int x2, .int x3] : List Value).toArray 4 from by rw [hav], lg_entry_eq]
  generalize (lg_sl ([.ref (ad 89), .int x1, .int x2, .int x3]) ++ List.replicate (4 - (lg_sl ([.ref (ad 89), .int x1, .int x2, .int x3])).length) Slot.unset).toArray = ls at hl ⊢
  have hl : lv_has ls 4 [(0, .ref (ad 89)), (1, .int x1), (2, .int x2), (3, .int x3)] := hl
  have B85 : ∀ (x1 : Int32) (x2 : Int32) (x3 : Int32) (h : HI) (g : HL) (H : Heap) (locs : List Loc) (ls : Array Slot), j_X9_reach_85 Q x1 x2 x3 h g → gG D cy ad (gA ad s.heap.size) s.heap h g H locs → lv_has ls 4 [(0, .ref (ad 89)), (1, .int x1), (2, .int x2), (3, .int x3)] → W p l e ({ frames := 1, cells := 0, slots := 0, locals := 22 } : Room) s m args below meth c H locs 0 0 (MQ below (va_Qv (fun (u : HI × HL) => Q u.1 u.2) (gB D cy ad s.heap.size) (gA ad s.heap.size)) args s 0 0 (gA ad s.heap.size)) (F0 m 85 ls []) := by
    intro x1 x2 x3 h g H locs ls HW hG hl
    unfold j_X9_reach_85 at HW
    refine lv_iload_n hx hb dX9_reach_85 rfl (lv_at hl 3 rfl) ?_
    refine lv_aload_n hx hb dX9_reach_86 rfl (lv_at hl 0 rfl) ?_
    refine g_getr hx hb hw inG9 hown hK hG gl_89 rfl gk_89 (by decide) 1 (by decide) (by rw [gm_89]; decide) (r := 90) gr_89_1 lk11 dX9_reach_87 ?_
    refine lv_iload_n hx hb dX9_reach_90 rfl (lv_at hl 1 rfl) ?_
    have hi_91 := vp_lt HW.1
    refine g_aald hx hb hK hG gl_90 gk_90 gn_90 HW.1 (go_90 _ hi_91).1 dX9_reach_91 ?_
    replace HW := HW.2
    refine lv_iload_n hx hb dX9_reach_92 rfl (lv_at hl 2 rfl) ?_
    refine g_iald hx hb hK hG ((go_90 _ hi_91).2.2.1) ((go_90 _ hi_91).2.1) ((go_90 _ hi_91).2.2.2) HW.1 dX9_reach_93 ?_
    replace HW := HW.2
    refine lv_icmp_ge (tgt := 106) hx hb dX9_reach_94 (by decide) (fun c_94 => ?_) (fun c_94 => ?_)
    · replace HW := HW.1 c_94
      exact W.vret hx hb hr (fun t ht hW => ⟨⟨(h, g), rfl, HW, g_B ht hG⟩, hG.2.2.F ht⟩) hG.2.2.2.2 dX9_reach_106
    · replace HW := HW.2 c_94
      refine lv_aload_n hx hb dX9_reach_97 rfl (lv_at hl 0 rfl) ?_
      refine g_getr hx hb hw inG9 hown hK hG gl_89 rfl gk_89 (by decide) 1 (by decide) (by rw [gm_89]; decide) (r := 90) gr_89_1 lk11 dX9_reach_98 ?_
      refine lv_iload_n hx hb dX9_reach_101 rfl (lv_at hl 1 rfl) ?_
      have hi_102 := vp_lt HW.1
      refine g_aald hx hb hK hG gl_90 gk_90 gn_90 HW.1 (go_90 _ hi_102).1 dX9_reach_102 ?_
      replace HW := HW.2
      refine lv_iload_n hx hb dX9_reach_103 rfl (lv_at hl 2 rfl) ?_
      refine lv_iload_n hx hb dX9_reach_104 rfl (lv_at hl 3 rfl) ?_
      refine g_iast hx hb hK hG ((go_90 _ hi_102).2.2.1) ((go_90 _ hi_102).2.1) ((go_90 _ hi_102).2.2.2) HW.1 dX9_reach_105 (fun H locs hG => ?_)
      replace HW := HW.2
      obtain ⟨h_105, eh_105⟩ : ∃ y : HI, y = hu h (91 + x1.toNatClampNeg) x2.toNatClampNeg x3 := ⟨_, rfl⟩
      rw [← eh_105] at hG
      replace HW := HW h_105 eh_105
      exact W.vret hx hb hr (fun t ht hW => ⟨⟨(h_105, g), rfl, HW, g_B ht hG⟩, hG.2.2.F ht⟩) hG.2.2.2.2 dX9_reach_106
  have E0 : ∀ (H : Heap) (locs : List Loc) (ls : Array Slot), gG D cy ad (gA ad s.heap.size) s.heap h g H locs → lv_has ls 4 [(0, .ref (ad 89)), (1, .int x1), (2, .int x2), (3, .int x3)] → W p l e ({ frames := 1, cells := 0, slots := 0, locals := 22 } : Room) s m args below meth c H locs 0 0 (MQ below (va_Qv (fun (u : HI × HL) => Q u.1 u.2) (gB D cy ad s.heap.size) (gA ad s.heap.size)) args s 0 0 (gA ad s.heap.size)) (F0 m 0 ls []) := by
    intro H locs ls hG hl
    unfold w_X9_reach at HW
    refine lv_iload_n hx hb dX9_reach_0 rfl (lv_at hl 1 rfl) ?_
    refine lv_iconst (v := 0) hx hb dX9_reach_1 (by decide) ?_
    refine lv_iconst (v := 1) hx hb dX9_reach_2 (by decide) ?_
    obtain ⟨P_3, HC_3, HW⟩ := HW
    refine g_callz (g_runSN (As := [.int x1, .int (0 : Int32), .int (1 : Int32)]) (rest := []) ⟨hx, hb, hml, hown, hts⟩ (m_X10_within l D cy ad h g H.size x1 (0 : Int32) (1 : Int32) P_3 HC_3) ⟨va_cnB 3 hts (gd_w (wm2 195 rfl rfl)) rfl rfl rfl (hNw _ (List.mem_of_getElem? (i := 5) rfl)) (hw (.initialized RX10) (wm1 1 rfl rfl)) (by decide +kernel) ⟨Nat.le_of_ble_eq_true rfl, Nat.le_of_ble_eq_true rfl⟩, hw (.static yX10_within) (wm2 194 rfl rfl), trivial⟩ hK hNw hG rfl rfl hl.1 rfl (lv_room (Nat.le_of_ble_eq_true rfl)) dX9_reach_3 ⟨Nat.zero_le _, Nat.zero_le _⟩) hG (fun r_3 h_3 g_3 H locs hz hq hG => ?_)
    replace HW := HW r_3 h_3 g_3 hz hq
    refine lv_if_eq (tgt := 20) hx hb dX9_reach_6 (by decide) (fun c_6 => ?_) (fun c_6 => ?_)
    · replace HW := HW.1 c_6
      exact W.vret hx hb hr (fun t ht hW => ⟨⟨(h_3, g_3), rfl, HW, g_B ht hG⟩, hG.2.2.F ht⟩) hG.2.2.2.2 dX9_reach_20
    · replace HW := HW.2 c_6
      refine lv_iload_n hx hb dX9_reach_9 rfl (lv_at hl 2 rfl) ?_
      refine lv_iconst (v := 1) hx hb dX9_reach_10 (by decide) ?_
      refine lv_sipush (v := 3000) hx hb dX9_reach_11 (by decide) ?_
      obtain ⟨P_14, HC_14, HW⟩ := HW
      refine g_callz (g_runSN (As := [.int x2, .int (1 : Int32), .int (3000 : Int32)]) (rest := []) ⟨hx, hb, hml, hown, hts⟩ (m_X10_within l D cy ad h_3 g_3 H.size x2 (1 : Int32) (3000 : Int32) P_14 HC_14) ⟨va_cnB 3 hts (gd_w (wm2 195 rfl rfl)) rfl rfl rfl (hNw _ (List.mem_of_getElem? (i := 5) rfl)) (hw (.initialized RX10) (wm1 1 rfl rfl)) (by decide +kernel) ⟨Nat.le_of_ble_eq_true rfl, Nat.le_of_ble_eq_true rfl⟩, hw (.static yX10_within) (wm2 194 rfl rfl), trivial⟩ hK hNw hG rfl rfl hl.1 rfl (lv_room (Nat.le_of_ble_eq_true rfl)) dX9_reach_14 ⟨Nat.zero_le _, Nat.zero_le _⟩) hG (fun r_14 h_14 g_14 H locs hz hq hG => ?_)
      replace HW := HW r_14 h_14 g_14 hz hq
      refine lv_if_ne (tgt := 21) hx hb dX9_reach_17 (by decide) (fun c_17 => ?_) (fun c_17 => ?_)
      · replace HW := HW.1 c_17
        refine lv_aload_n hx hb dX9_reach_21 rfl (lv_at hl 0 rfl) ?_
        refine g_getr hx hb hw inG9 hown hK hG gl_89 rfl gk_89 (by decide) 1 (by decide) (by rw [gm_89]; decide) (r := 90) gr_89_1 lk11 dX9_reach_22 ?_
        refine lv_iload_n hx hb dX9_reach_25 rfl (lv_at hl 1 rfl) ?_
        have hi_26 := vp_lt HW.1
        refine g_aald hx hb hK hG gl_90 gk_90 gn_90 HW.1 (go_90 _ hi_26).1 dX9_reach_26 ?_
        replace HW := HW.2
        refine lv_iload_n hx hb dX9_reach_27 rfl (lv_at hl 2 rfl) ?_
        refine g_iald hx hb hK hG ((go_90 _ hi_26).2.2.1) ((go_90 _ hi_26).2.1) ((go_90 _ hi_26).2.2.2) HW.1 dX9_reach_28 ?_
        replace HW := HW.2
        refine lv_iconst (v := (-1)) hx hb dX9_reach_29 (by decide) ?_
        refine lv_icmp_ne (tgt := 85) hx hb dX9_reach_30 (by decide) (fun c_30 => ?_) (fun c_30 => ?_)
        · replace HW := HW.1 c_30
          exact B85 x1 x2 x3 h_14 g_14 _ _ _ HW hG (lv_sub hl [0, 1, 2, 3] rfl)
        · replace HW := HW.2 c_30
          refine lv_aload_n hx hb dX9_reach_33 rfl (lv_at hl 0 rfl) ?_
          refine g_getr hx hb hw inG9 hown hK hG gl_89 rfl gk_89 (by decide) 3 (by decide) (by rw [gm_89]; decide) (r := 96) gr_89_3 lk19 dX9_reach_34 ?_
          refine lv_iload_n hx hb dX9_reach_37 rfl (lv_at hl 1 rfl) ?_
          refine g_iald hx hb hK hG gl_96 gk_96 gn_96 HW.1 dX9_reach_38 ?_
          replace HW := HW.2
          refine lv_iconst (v := 0) hx hb dX9_reach_39 (by decide) ?_
          refine lv_sipush (v := 2999) hx hb dX9_reach_40 (by decide) ?_
          obtain ⟨P_43, HC_43, HW⟩ := HW
          refine g_callz (g_runSN (As := [.int (h_14 96 x1.toNatClampNeg), .int (0 : Int32), .int (2999 : Int32)]) (rest := []) ⟨hx, hb, hml, hown, hts⟩ (m_X10_within l D cy ad h_14 g_14 H.size (h_14 96 x1.toNatClampNeg) (0 : Int32) (2999 : Int32) P_43 HC_43) ⟨va_cnB 3 hts (gd_w (wm2 195 rfl rfl)) rfl rfl rfl (hNw _ (List.mem_of_getElem? (i := 5) rfl)) (hw (.initialized RX10) (wm1 1 rfl rfl)) (by decide +kernel) ⟨Nat.le_of_ble_eq_true rfl, Nat.le_of_ble_eq_true rfl⟩, hw (.static yX10_within) (wm2 194 rfl rfl), trivial⟩ hK hNw hG rfl rfl hl.1 rfl (lv_room (Nat.le_of_ble_eq_true rfl)) dX9_reach_43 ⟨Nat.zero_le _, Nat.zero_le _⟩) hG (fun r_43 h_43 g_43 H locs hz hq hG => ?_)
          replace HW := HW r_43 h_43 g_43 hz hq
          refine lv_if_eq (tgt := 85) hx hb dX9_reach_46 (by decide) (fun c_46 => ?_) (fun c_46 => ?_)
          · replace HW := HW.1 c_46
            exact B85 x1 x2 x3 h_43 g_43 _ _ _ HW hG (lv_sub hl [0, 1, 2, 3] rfl)
          · replace HW := HW.2 c_46
            refine lv_aload_n hx hb dX9_reach_49 rfl (lv_at hl 0 rfl) ?_
            refine g_getr hx hb hw inG9 hown hK hG gl_89 rfl gk_89 (by decide) 2 (by decide) (by rw [gm_89]; decide) (r := 93) gr_89_2 lk16 dX9_reach_50 ?_
            refine lv_iload_n hx hb dX9_reach_53 rfl (lv_at hl 1 rfl) ?_
            have hi_54 := vp_lt HW.1
            refine g_aald hx hb hK hG gl_93 gk_93 gn_93 HW.1 (go_93 _ hi_54).1 dX9_reach_54 ?_
            replace HW := HW.2
            refine lv_aload_n hx hb dX9_reach_55 rfl (lv_at hl 0 rfl) ?_
            refine g_getr hx hb hw inG9 hown hK hG gl_89 rfl gk_89 (by decide) 3 (by decide) (by rw [gm_89]; decide) (r := 96) gr_89_3 lk19 dX9_reach_56 ?_
            refine lv_iload_n hx hb dX9_reach_59 rfl (lv_at hl 1 rfl) ?_
            refine g_iald hx hb hK hG gl_96 gk_96 gn_96 HW.1 dX9_reach_60 ?_
            replace HW := HW.2
            refine lv_iload_n hx hb dX9_reach_61 rfl (lv_at hl 2 rfl) ?_
            refine g_iast hx hb hK hG ((go_93 _ hi_54).2.2.1) ((go_93 _ hi_54).2.1) ((go_93 _ hi_54).2.2.2) HW.1 dX9_reach_62 (fun H locs hG => ?_)
            replace HW := HW.2
            obtain ⟨h_62, eh_62⟩ : ∃ y : HI, y = hu h_43 (94 + x1.toNatClampNeg) (h_43 96 x1.toNatClampNeg).toNatClampNeg x2 := ⟨_, rfl⟩
            rw [← eh_62] at hG
            replace HW := HW h_62 eh_62
            refine lv_aload_n hx hb dX9_reach_63 rfl (lv_at hl 0 rfl) ?_
            refine g_getr hx hb hw inG9 hown hK hG gl_89 rfl gk_89 (by decide) 3 (by decide) (by rw [gm_89]; decide) (r := 96) gr_89_3 lk19 dX9_reach_64 ?_
            refine lv_iload_n hx hb dX9_reach_67 rfl (lv_at hl 1 rfl) ?_
            refine lv_dup2_11 hx hb dX9_reach_68 rfl rfl ?_
            refine g_iald hx hb hK hG gl_96 gk_96 gn_96 HW.1 dX9_reach_69 ?_
            replace HW := HW.2
            refine lv_iconst (v := 1) hx hb dX9_reach_70 (by decide) ?_
            refine lv_iadd hx hb dX9_reach_71 ?_
            refine g_iast hx hb hK hG gl_96 gk_96 gn_96 HW.1 dX9_reach_72 (fun H locs hG => ?_)
            replace HW := HW.2
            obtain ⟨h_72, eh_72⟩ : ∃ y : HI, y = hu h_62 96 x1.toNatClampNeg ((h_62 96 x1.toNatClampNeg) + (1 : Int32)) := ⟨_, rfl⟩
            rw [← eh_72] at hG
            replace HW := HW h_72 eh_72
            refine lv_aload_n hx hb dX9_reach_73 rfl (lv_at hl 0 rfl) ?_
            refine g_getr hx hb hw inG9 hown hK hG gl_89 rfl gk_89 (by decide) 1 (by decide) (by rw [gm_89]; decide) (r := 90) gr_89_1 lk11 dX9_reach_74 ?_
            refine lv_iload_n hx hb dX9_reach_77 rfl (lv_at hl 1 rfl) ?_
            have hi_78 := vp_lt HW.1
            refine g_aald hx hb hK hG gl_90 gk_90 gn_90 HW.1 (go_90 _ hi_78).1 dX9_reach_78 ?_
            replace HW := HW.2
            refine lv_iload_n hx hb dX9_reach_79 rfl (lv_at hl 2 rfl) ?_
            refine lv_iload_n hx hb dX9_reach_80 rfl (lv_at hl 3 rfl) ?_
            refine g_iast hx hb hK hG ((go_90 _ hi_78).2.2.1) ((go_90 _ hi_78).2.1) ((go_90 _ hi_78).2.2.2) HW.1 dX9_reach_81 (fun H locs hG => ?_)
            replace HW := HW.2
            obtain ⟨h_81, eh_81⟩ : ∃ y : HI, y = hu h_72 (91 + x1.toNatClampNeg) x2.toNatClampNeg x3 := ⟨_, rfl⟩
            rw [← eh_81] at hG
            replace HW := HW h_81 eh_81
            refine lv_goto (tgt := 106) hx hb dX9_reach_82 (by decide) ?_
            exact W.vret hx hb hr (fun t ht hW => ⟨⟨(h_81, g_43), rfl, HW, g_B ht hG⟩, hG.2.2.F ht⟩) hG.2.2.2.2 dX9_reach_106
      · replace HW := HW.2 c_17
        exact W.vret hx hb hr (fun t ht hW => ⟨⟨(h_14, g_14), rfl, HW, g_B ht hG⟩, hG.2.2.F ht⟩) hG.2.2.2.2 dX9_reach_20
  exact E0 _ _ _ hG hl
