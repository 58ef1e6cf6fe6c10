def j_X4_startsUnit_18 (Q : Int32 → HI → HL → Prop) (x1 : Int32) (h : HI) (g : HL) : Prop :=
  (∃ P_21 : HI → HL → Prop, w_X4_put (-x1) h g P_21 ∧ ∀ (h_21 : HI) (g_21 : HL), P_21 h_21 g_21 → (∀ h_26 : HI, h_26 = hu h_21 77 8 (0 : Int32) → Q (1 : Int32) h_26 g_21))
def j_X4_startsUnit_77 (Q : Int32 → HI → HL → Prop) (s1 : Int32) (h : HI) (g : HL) : Prop :=
  (∃ P_77 : HI → HL → Prop, w_X4_await s1 h g P_77 ∧ ∀ (h_77 : HI) (g_77 : HL), P_77 h_77 g_77 → Q (1 : Int32) h_77 g_77)
def j_X4_startsUnit_64 (Q : Int32 → HI → HL → Prop) (x1 : Int32) (h : HI) (g : HL) : Prop :=
  ((¬ x1 = (45 : Int32) → j_X4_startsUnit_77 Q x1 h g) ∧ (x1 = (45 : Int32) → j_X4_startsUnit_77 Q (126 : Int32) h g))
def w_X4_startsUnit (x1 : Int32) (h : HI) (g : HL) (Q : Int32 → HI → HL → Prop) : Prop :=
  ((x1 = (121 : Int32) → j_X4_startsUnit_18 Q x1 h g) ∧ (¬ x1 = (121 : Int32) → ((x1 = (108 : Int32) → j_X4_startsUnit_18 Q x1 h g) ∧ (¬ x1 = (108 : Int32) → ((¬ x1 = (104 : Int32) → ((¬ x1 = (40 : Int32) → ((x1 = (33 : Int32) → j_X4_startsUnit_64 Q x1 h g) ∧ (¬ x1 = (33 : Int32) → ((x1 = (45 : Int32) → j_X4_startsUnit_64 Q x1 h g) ∧ (¬ x1 = (45 : Int32) → Q (0 : Int32) h g))))) ∧ (x1 = (40 : Int32) → (∀ h_44 : HI, h_44 = hu h 77 6 ((h 77 6) + (1 : Int32)) → j_X4_startsUnit_64 Q x1 h_44 g)))) ∧ (x1 = (104 : Int32) → j_X4_startsUnit_18 Q x1 h g))))))
set_option maxHeartbeats 8000000 in
set_option maxRecDepth 100000 in
theorem m_X4_startsUnit (l : Launch) (D : va_G) (cy : Nat → ClassId) (ad : Nat → Nat) (h : HI) (g : HL) (sz : Nat) (x1 : Int32) (Q : Int32 → HI → HL → Prop) (HW : w_X4_startsUnit x1 h g Q) : Met l yX4_startsUnit (wa yX4_startsUnit cX4_startsUnit 2 (some .boolean)) ({ frames := 1, cells := 0, slots := 0, locals := 21 }) (va_Pc [.ref (ad 77), .int x1] (gI D cy ad h g sz)) (va_Qi (fun (r : Int32) (u : HI × HL) => zb r ∧ Q r u.1 u.2) (gB D cy ad sz) (gA ad sz)) 0 0 (gA ad sz) := by
  refine Met.ofW (cc := cX4_startsUnit) (maxL := 2) (ret := (some .boolean)) (by decide) rfl ?_
  intro p e s m args below meth c s₁ B hml hv
  obtain ⟨hav, hsz, hP, hK, hD0, hNw⟩ := hv
  have hx := B.exec
  have hb := B.bytes
  have hr := B.returns
  have hts := atoms_spec (ws := (wa yX4_startsUnit cX4_startsUnit 2 (some .boolean))) B.pre
  have hw := wa_hw hts
  have hown : s.vm.findClass RX4 = some m.cls := findClass_of_methodNamed B.named
  have hlocks := B.notSynchronized
  subst hsz
  have hG : gG D cy ad (gA ad s.heap.size) s.heap h g s.heap [] := ⟨hP, gA_self hD0, va_S.rf⟩
  clear hP hD0
  have lk36 := hw (.fieldLink RX4 36 "OldWorks$Law" "open" "I") (wm1 135 rfl rfl)
  have lk42 := hw (.fieldLink RX4 42 "OldWorks$Law" "unitDue" "Z") (wm1 137 rfl rfl)
  rw [show (headSpec (wa yX4_startsUnit cX4_startsUnit 2 (some .boolean)) ({ frames := 1, cells := 0, slots := 0, locals := 21 } : Room)).room = ({ frames := 1, cells := 0, slots := 0, locals := 21 } : Room) from rfl]
  have hl := lv_entry ([.ref (ad 77), .int x1]) (n := 2) (Nat.le_of_ble_eq_true rfl)
  rw [show entryFrame m args 2 = entryFrame m ([.ref (ad 77), .int x1] : List Value).toArray 2 from by rw [hav], lg_entry_eq]
  generalize (lg_sl ([.ref (ad 77), .int x1]) ++ List.replicate (2 - (lg_sl ([.ref (ad 77), .int x1])).length) Slot.unset).toArray = ls at hl ⊢
  have hl : lv_has ls 2 [(0, .ref (ad 77)), (1, .int x1)] := hl
  have B18 : ∀ (x1 : Int32) (h : HI) (g : HL) (H : Heap) (locs : List Loc) (ls : Array Slot), j_X4_startsUnit_18 Q x1 h g → gG D cy ad (gA ad s.heap.size) s.heap h g H locs → lv_has ls 2 [(0, .ref (ad 77)), (1, .int x1)] → W p l e ({ frames := 1, cells := 0, slots := 0, locals := 21 } : Room) s m args below meth c H locs 0 0 (MQ below (va_Qi (fun (r : Int32) (u : HI × HL) => zb r ∧ Q r u.1 u.2) (gB D cy ad s.heap.size) (gA ad s.heap.size)) args s 0 0 (gA ad s.heap.size)) (F0 m 18 ls []) := by
    intro x1 h g H locs ls HW hG hl
    unfold j_X4_startsUnit_18 at HW
    refine lv_aload_n hx hb dX4_startsUnit_18 rfl (lv_at hl 0 rfl) ?_
    refine lv_iload_n hx hb dX4_startsUnit_19 rfl (lv_at hl 1 rfl) ?_
    refine lv_ineg hx hb dX4_startsUnit_20 ?_
    obtain ⟨P_21, HC_21, HW⟩ := HW
    refine g_callv (g_runV (As := [.int (-x1)]) (rest := []) ⟨hx, hb, hml, hown, hts⟩ (m_X4_put l D cy ad h g H.size (-x1) P_21 HC_21) (cwV 1 hts (gd_V (wm2 228 rfl rfl) (wm2 230 rfl rfl) (wmp1 (q := (yX4_put, 10)) 1 rfl) (wm1 4 rfl rfl) (wm2 231 rfl rfl)) rfl rfl rfl (by decide +kernel) ⟨Nat.le_of_ble_eq_true rfl, Nat.le_of_ble_eq_true rfl⟩) hK hNw hG gl_77 rfl gk_77 (by decide) rfl rfl hl.1 rfl (lv_room (Nat.le_of_ble_eq_true rfl)) dX4_startsUnit_21 ⟨Nat.zero_le _, Nat.zero_le _⟩) hG (fun h_21 g_21 H locs hq hG => ?_)
    replace HW := HW h_21 g_21 hq
    refine lv_aload_n hx hb dX4_startsUnit_24 rfl (lv_at hl 0 rfl) ?_
    refine lv_iconst (v := 0) hx hb dX4_startsUnit_25 (by decide) ?_
    refine g_put hx hb hw inG4 tyX4 tyX4_ok nmX4 hown hK hG gl_77 rfl gk_77 (by decide) 8 (by decide) (by rw [gm_77]; decide) gr_77_8 rfl (ty := .boolean) (by decide +kernel) rfl rfl lk42 dX4_startsUnit_26 (fun H locs hG => ?_)
    obtain ⟨h_26, eh_26⟩ : ∃ y : HI, y = hu h_21 77 8 (0 : Int32) := ⟨_, rfl⟩
    rw [← eh_26] at hG
    replace HW := HW h_26 eh_26
    refine lv_iconst (v := 1) hx hb dX4_startsUnit_29 (by decide) ?_
    exact W.zret (v := (1 : Int32)) hx hb hr rfl (fun t ht hW => ⟨⟨(1 : Int32), (h_26, g_21), rfl, ⟨Or.inr rfl, HW⟩, g_B ht hG⟩, hG.2.2.F ht⟩) hG.2.2.2.2 dX4_startsUnit_30
  have B77 : ∀ (s1 : Int32) (h : HI) (g : HL) (H : Heap) (locs : List Loc) (ls : Array Slot), j_X4_startsUnit_77 Q s1 h g → gG D cy ad (gA ad s.heap.size) s.heap h g H locs → lv_has ls 2 [] → W p l e ({ frames := 1, cells := 0, slots := 0, locals := 21 } : Room) s m args below meth c H locs 0 0 (MQ below (va_Qi (fun (r : Int32) (u : HI × HL) => zb r ∧ Q r u.1 u.2) (gB D cy ad s.heap.size) (gA ad s.heap.size)) args s 0 0 (gA ad s.heap.size)) (F0 m 77 ls [.int s1, .ref (ad 77)]) := by
    intro s1 h g H locs ls HW hG hl
    unfold j_X4_startsUnit_77 at HW
    obtain ⟨P_77, HC_77, HW⟩ := HW
    refine g_callv (g_runV (As := [.int s1]) (rest := []) ⟨hx, hb, hml, hown, hts⟩ (m_X4_await l D cy ad h g H.size s1 P_77 HC_77) (cwV 1 hts (gd_V (wm3 0 rfl rfl) (wm3 2 rfl rfl) (wmp1 (q := (yX4_await, 10)) 4 rfl) (wm1 4 rfl rfl) (wm3 3 rfl rfl)) rfl rfl rfl (by decide +kernel) ⟨Nat.le_of_ble_eq_true rfl, Nat.le_of_ble_eq_true rfl⟩) hK hNw hG gl_77 rfl gk_77 (by decide) rfl rfl hl.1 rfl (lv_room (Nat.le_of_ble_eq_true rfl)) dX4_startsUnit_77 ⟨Nat.zero_le _, Nat.zero_le _⟩) hG (fun h_77 g_77 H locs hq hG => ?_)
    replace HW := HW h_77 g_77 hq
    refine lv_iconst (v := 1) hx hb dX4_startsUnit_80 (by decide) ?_
    exact W.zret (v := (1 : Int32)) hx hb hr rfl (fun t ht hW => ⟨⟨(1 : Int32), (h_77, g_77), rfl, ⟨Or.inr rfl, HW⟩, g_B ht hG⟩, hG.2.2.F ht⟩) hG.2.2.2.2 dX4_startsUnit_81
  have B64 : ∀ (x1 : Int32) (h : HI) (g : HL) (H : Heap) (locs : List Loc) (ls : Array Slot), j_X4_startsUnit_64 Q x1 h g → gG D cy ad (gA ad s.heap.size) s.heap h g H locs → lv_has ls 2 [(0, .ref (ad 77)), (1, .int x1)] → W p l e ({ frames := 1, cells := 0, slots := 0, locals := 21 } : Room) s m args below meth c H locs 0 0 (MQ below (va_Qi (fun (r : Int32) (u : HI × HL) => zb r ∧ Q r u.1 u.2) (gB D cy ad s.heap.size) (gA ad s.heap.size)) args s 0 0 (gA ad s.heap.size)) (F0 m 64 ls []) := by
    intro x1 h g H locs ls HW hG hl
    unfold j_X4_startsUnit_64 at HW
    refine lv_aload_n hx hb dX4_startsUnit_64 rfl (lv_at hl 0 rfl) ?_
    refine lv_iload_n hx hb dX4_startsUnit_65 rfl (lv_at hl 1 rfl) ?_
    refine lv_bipush (v := 45) hx hb dX4_startsUnit_66 (by decide) ?_
    refine lv_icmp_ne (tgt := 76) hx hb dX4_startsUnit_68 (by decide) (fun c_68 => ?_) (fun c_68 => ?_)
    · replace HW := HW.1 c_68
      refine lv_iload_n hx hb dX4_startsUnit_76 rfl (lv_at hl 1 rfl) ?_
      exact B77 x1 h g _ _ _ HW hG (lv_sub hl [] rfl)
    · replace HW := HW.2 c_68
      refine lv_bipush (v := 126) hx hb dX4_startsUnit_71 (by decide) ?_
      refine lv_goto (tgt := 77) hx hb dX4_startsUnit_73 (by decide) ?_
      exact B77 (126 : Int32) h g _ _ _ HW hG (lv_sub hl [] rfl)
  have E0 : ∀ (H : Heap) (locs : List Loc) (ls : Array Slot), gG D cy ad (gA ad s.heap.size) s.heap h g H locs → lv_has ls 2 [(0, .ref (ad 77)), (1, .int x1)] → W p l e ({ frames := 1, cells := 0, slots := 0, locals := 21 } : Room) s m args below meth c H locs 0 0 (MQ below (va_Qi (fun (r : Int32) (u : HI × HL) => zb r ∧ Q r u.1 u.2) (gB D cy ad s.heap.size) (gA ad s.heap.size)) args s 0 0 (gA ad s.heap.size)) (F0 m 0 ls []) := by
    intro H locs ls hG hl
    unfold w_X4_startsUnit at HW
    refine lv_iload_n hx hb dX4_startsUnit_0 rfl (lv_at hl 1 rfl) ?_
    refine lv_bipush (v := 121) hx hb dX4_startsUnit_1 (by decide) ?_
    refine lv_icmp_eq (tgt := 18) hx hb dX4_startsUnit_3 (by decide) (fun c_3 => ?_) (fun c_3 => ?_)
    · replace HW := HW.1 c_3
      exact B18 x1 h g _ _ _ HW hG (lv_sub hl [0, 1] rfl)
    · replace HW := HW.2 c_3
      refine lv_iload_n hx hb dX4_startsUnit_6 rfl (lv_at hl 1 rfl) ?_
      refine lv_bipush (v := 108) hx hb dX4_startsUnit_7 (by decide) ?_
      refine lv_icmp_eq (tgt := 18) hx hb dX4_startsUnit_9 (by decide) (fun c_9 => ?_) (fun c_9 => ?_)
      · replace HW := HW.1 c_9
        exact B18 x1 h g _ _ _ HW hG (lv_sub hl [0, 1] rfl)
      · replace HW := HW.2 c_9
        refine lv_iload_n hx hb dX4_startsUnit_12 rfl (lv_at hl 1 rfl) ?_
        refine lv_bipush (v := 104) hx hb dX4_startsUnit_13 (by decide) ?_
        refine lv_icmp_ne (tgt := 31) hx hb dX4_startsUnit_15 (by decide) (fun c_15 => ?_) (fun c_15 => ?_)
        · replace HW := HW.1 c_15
          refine lv_iload_n hx hb dX4_startsUnit_31 rfl (lv_at hl 1 rfl) ?_
          refine lv_bipush (v := 40) hx hb dX4_startsUnit_32 (by decide) ?_
          refine lv_icmp_ne (tgt := 50) hx hb dX4_startsUnit_34 (by decide) (fun c_34 => ?_) (fun c_34 => ?_)
          · replace HW := HW.1 c_34
            refine lv_iload_n hx hb dX4_startsUnit_50 rfl (lv_at hl 1 rfl) ?_
            refine lv_bipush (v := 33) hx hb dX4_startsUnit_51 (by decide) ?_
            refine lv_icmp_eq (tgt := 64) hx hb dX4_startsUnit_53 (by decide) (fun c_53 => ?_) (fun c_53 => ?_)
            · replace HW := HW.1 c_53
              exact B64 x1 h g _ _ _ HW hG (lv_sub hl [0, 1] rfl)
            · replace HW := HW.2 c_53
              refine lv_iload_n hx hb dX4_startsUnit_56 rfl (lv_at hl 1 rfl) ?_
              refine lv_bipush (v := 45) hx hb dX4_startsUnit_57 (by decide) ?_
              refine lv_icmp_eq (tgt := 64) hx hb dX4_startsUnit_59 (by decide) (fun c_59 => ?_) (fun c_59 => ?_)
              · replace HW := HW.1 c_59
                exact B64 x1 h g _ _ _ HW hG (lv_sub hl [0, 1] rfl)
              · replace HW := HW.2 c_59
                refine lv_iconst (v := 0) hx hb dX4_startsUnit_62 (by decide) ?_
                exact W.zret (v := (0 : Int32)) hx hb hr rfl (fun t ht hW => ⟨⟨(0 : Int32), (h, g), rfl, ⟨Or.inl rfl, HW⟩, g_B ht hG⟩, hG.2.2.F ht⟩) hG.2.2.2.2 dX4_startsUnit_63
          · replace HW := HW.2 c_34
            refine lv_aload_n hx hb dX4_startsUnit_37 rfl (lv_at hl 0 rfl) ?_
            refine lv_dup hx hb dX4_startsUnit_38 rfl ?_
            refine g_geti hx hb hw inG4 hown hK hG gl_77 rfl gk_77 (by decide) 6 (by decide) (by rw [gm_77]; decide) gr_77_6 lk36 dX4_startsUnit_39 ?_
            refine lv_iconst (v := 1) hx hb dX4_startsUnit_42 (by decide) ?_
            refine lv_iadd hx hb dX4_startsUnit_43 ?_
            refine g_put hx hb hw inG4 tyX4 tyX4_ok nmX4 hown hK hG gl_77 rfl gk_77 (by decide) 6 (by decide) (by rw [gm_77]; decide) gr_77_6 rfl (ty := .int) (by decide +kernel) rfl rfl lk36 dX4_startsUnit_44 (fun H locs hG => ?_)
            obtain ⟨h_44, eh_44⟩ : ∃ y : HI, y = hu h 77 6 ((h 77 6) + (1 : Int32)) := ⟨_, rfl⟩
            rw [← eh_44] at hG
            replace HW := HW h_44 eh_44
            refine lv_goto (tgt := 64) hx hb dX4_startsUnit_47 (by decide) ?_
            exact B64 x1 h_44 g _ _ _ HW hG (lv_sub hl [0, 1] rfl)
        · replace HW := HW.2 c_15
          exact B18 x1 h g _ _ _ HW hG (lv_sub hl [0, 1] rfl)
  exact E0 _ _ _ hG hl

def w_X4_rank (x0 : Int32) (h : HI) (g : HL) (Q : Int32 → HI → HL → Prop) : Prop :=
  ((x0 = 33 → Q (6 : Int32) h g) ∧ (x0 = 38 → Q (2 : Int32) h g) ∧ (x0 = 42 → Q (5 : Int32) h g) ∧ (x0 = 43 → Q (4 : Int32) h g) ∧ (x0 = 45 → Q (4 : Int32) h g) ∧ (x0 = 47 → Q (5 : Int32) h g) ∧ (x0 = 60 → Q (3 : Int32) h g) ∧ (x0 = 61 → Q (3 : Int32) h g) ∧ (x0 = 62 → Q (3 : Int32) h g) ∧ (x0 = 124 → Q (1 : Int32) h g) ∧ (x0 = 126 → Q (6 : Int32) h g) ∧ (¬ x0 = 33 → ¬ x0 = 38 → ¬ x0 = 42 → ¬ x0 = 43 → ¬ x0 = 45 → ¬ x0 = 47 → ¬ x0 = 60 → ¬ x0 = 61 → ¬ x0 = 62 → ¬ x0 = 124 → ¬ x0 = 126 → Q (0 : Int32) h g))
set_option maxHeartbeats 8000000 in
set_option maxRecDepth 100000 in
theorem m_X4_rank (l : Launch) (D : va_G) (cy : Nat → ClassId) (ad : Nat → Nat) (h : HI) (g : HL) (sz : Nat) (x0 : Int32) (Q : Int32 → HI → HL → Prop) (HW : w_X4_rank x0 h g Q) : Met l yX4_rank (wa yX4_rank cX4_rank 1 (some .int)) ({ frames := 0, cells := 0, slots := 0, locals := 0 }) (va_Pc [.int x0] (gI D cy ad h g sz)) (va_Qi (fun (r : Int32) (u : HI × HL) => Q r u.1 u.2) (gB D cy ad sz) (gA ad sz)) 0 0 (gA ad sz) := by
  refine Met.ofW (cc := cX4_rank) (maxL := 1) (ret := (some .int)) (by decide) rfl ?_
  intro p e s m args below meth c s₁ B hml hv
  obtain ⟨hav, hsz, hP, hK, hD0, hNw⟩ := hv
  have hx := B.exec
  have hb := B.bytes
  have hr := B.returns
  have hts := atoms_spec (ws := (wa yX4_rank cX4_rank 1 (some .int))) B.pre
  have hw := wa_hw hts
  have hown : s.vm.findClass RX4 = some m.cls := findClass_of_methodNamed B.named
  have hlocks := B.notSynchronized
  subst hsz
  have hG : gG D cy ad (gA ad s.heap.size) s.heap h g s.heap [] := ⟨hP, gA_self hD0, va_S.rf⟩
  clear hP hD0
  rw [show (headSpec (wa yX4_rank cX4_rank 1 (some .int)) ({ frames := 0, cells := 0, slots := 0, locals := 0 } : Room)).room = ({ frames := 0, cells := 0, slots := 0, locals := 0 } : Room) from rfl]
  have hl := lv_entry ([.int x0]) (n := 1) (Nat.le_of_ble_eq_true rfl)
  rw [show entryFrame m args 1 = entryFrame m ([.int x0] : List Value).toArray 1 from by rw [hav], lg_entry_eq]
  generalize (lg_sl ([.int x0]) ++ List.replicate (1 - (lg_sl ([.int x0])).length) Slot.unset).toArray = ls at hl ⊢
  have hl : lv_has ls 1 [(0, .int x0)] := hl
  have E0 : ∀ (H : Heap) (locs : List Loc) (ls : Array Slot), gG D cy ad (gA ad s.heap.size) s.heap h g H locs → lv_has ls 1 [(0, .int x0)] → W p l e ({ frames := 0, cells := 0, slots := 0, locals := 0 } : Room) s m args below meth c H locs 0 0 (MQ below (va_Qi (fun (r : Int32) (u : HI × HL) => Q r u.1 u.2) (gB D cy ad s.heap.size) (gA ad s.heap.size)) args s 0 0 (gA ad s.heap.size)) (F0 m 0 ls []) := by
    intro H locs ls hG hl
    unfold w_X4_rank at HW
    refine lv_iload_n hx hb dX4_rank_0 rfl (lv_at hl 0 rfl) ?_
    by_cases c_1_0 : x0 = 33
    · replace HW := HW.1 c_1_0
      refine lv_lookup (tgt := 110) hx hb dX4_rank_1 (by decide) (by rw [c_1_0]; first | done | decide) (by decide) ?_
      refine lv_bipush (v := 6) hx hb dX4_rank_110 (by decide) ?_
      exact W.iret (v := (6 : Int32)) hx hb hr (fun t ht hW => ⟨⟨(6 : Int32), (h, g), rfl, HW, g_B ht hG⟩, hG.2.2.F ht⟩) hG.2.2.2.2 dX4_rank_112
    · by_cases c_1_1 : x0 = 38
      · replace HW := HW.2.1 c_1_1
        refine lv_lookup (tgt := 102) hx hb dX4_rank_1 (by decide) (by rw [c_1_1]; first | done | decide) (by decide) ?_
        refine lv_iconst (v := 2) hx hb dX4_rank_102 (by decide) ?_
        exact W.iret (v := (2 : Int32)) hx hb hr (fun t ht hW => ⟨⟨(2 : Int32), (h, g), rfl, HW, g_B ht hG⟩, hG.2.2.F ht⟩) hG.2.2.2.2 dX4_rank_103
      · by_cases c_1_2 : x0 = 42
        · replace HW := HW.2.2.1 c_1_2
          refine lv_lookup (tgt := 108) hx hb dX4_rank_1 (by decide) (by rw [c_1_2]; first | done | decide) (by decide) ?_
          refine lv_iconst (v := 5) hx hb dX4_rank_108 (by decide) ?_
          exact W.iret (v := (5 : Int32)) hx hb hr (fun t ht hW => ⟨⟨(5 : Int32), (h, g), rfl, HW, g_B ht hG⟩, hG.2.2.F ht⟩) hG.2.2.2.2 dX4_rank_109
        · by_cases c_1_3 : x0 = 43
          · replace HW := HW.2.2.2.1 c_1_3
            refine lv_lookup (tgt := 106) hx hb dX4_rank_1 (by decide) (by rw [c_1_3]; first | done | decide) (by decide) ?_
            refine lv_iconst (v := 4) hx hb dX4_rank_106 (by decide) ?_
            exact W.iret (v := (4 : Int32)) hx hb hr (fun t ht hW => ⟨⟨(4 : Int32), (h, g), rfl, HW, g_B ht hG⟩, hG.2.2.F ht⟩) hG.2.2.2.2 dX4_rank_107
          · by_cases c_1_4 : x0 = 45
            · replace HW := HW.2.2.2.2.1 c_1_4
              refine lv_lookup (tgt := 106) hx hb dX4_rank_1 (by decide) (by rw [c_1_4]; first | done | decide) (by decide) ?_
              refine lv_iconst (v := 4) hx hb dX4_rank_106 (by decide) ?_
              exact W.iret (v := (4 : Int32)) hx hb hr (fun t ht hW => ⟨⟨(4 : Int32), (h, g), rfl, HW, g_B ht hG⟩, hG.2.2.F ht⟩) hG.2.2.2.2 dX4_rank_107
            · by_cases c_1_5 : x0 = 47
              · replace HW := HW.2.2.2.2.2.1 c_1_5
                refine lv_lookup (tgt := 108) hx hb dX4_rank_1 (by decide) (by rw [c_1_5]; first | done | decide) (by decide) ?_
                refine lv_iconst (v := 5) hx hb dX4_rank_108 (by decide) ?_
                exact W.iret (v := (5 : Int32)) hx hb hr (fun t ht hW => ⟨⟨(5 : Int32), (h, g), rfl, HW, g_B ht hG⟩, hG.2.2.F ht⟩) hG.2.2.2.2 dX4_rank_109
              · by_cases c_1_6 : x0 = 60
                · replace HW := HW.2.2.2.2.2.2.1 c_1_6
                  refine lv_lookup (tgt := 104) hx hb dX4_rank_1 (by decide) (by rw [c_1_6]; first | done | decide) (by decide) ?_
                  refine lv_iconst (v := 3) hx hb dX4_rank_104 (by decide) ?_
                  exact W.iret (v := (3 : Int32)) hx hb hr (fun t ht hW => ⟨⟨(3 : Int32), (h, g), rfl, HW, g_B ht hG⟩, hG.2.2.F ht⟩) hG.2.2.2.2 dX4_rank_105
                · by_cases c_1_7 : x0 = 61
                  · replace HW := HW.2.2.2.2.2.2.2.1 c_1_7
                    refine lv_lookup (tgt := 104) hx hb dX4_rank_1 (by decide) (by rw [c_1_7]; first | done | decide) (by decide) ?_
                    refine lv_iconst (v := 3) hx hb dX4_rank_104 (by decide) ?_
                    exact W.iret (v := (3 : Int32)) hx hb hr (fun t ht hW => ⟨⟨(3 : Int32), (h, g), rfl, HW, g_B ht hG⟩, hG.2.2.F ht⟩) hG.2.2.2.2 dX4_rank_105
                  · by_cases c_1_8 : x0 = 62
                    · replace HW := HW.2.2.2.2.2.2.2.2.1 c_1_8
                      refine lv_lookup (tgt := 104) hx hb dX4_rank_1 (by decide) (by rw [c_1_8]; first | done | decide) (by decide) ?_
                      refine lv_iconst (v := 3) hx hb dX4_rank_104 (by decide) ?_
                      exact W.iret (v := (3 : Int32)) hx hb hr (fun t ht hW => ⟨⟨(3 : Int32), (h, g), rfl, HW, g_B ht hG⟩, hG.2.2.F ht⟩) hG.2.2.2.2 dX4_rank_105
                    · by_cases c_1_9 : x0 = 124
                      · replace HW := HW.2.2.2.2.2.2.2.2.2.1 c_1_9
                        refine lv_lookup (tgt := 100) hx hb dX4_rank_1 (by decide) (by rw [c_1_9]; first | done | decide) (by decide) ?_
                        refine lv_iconst (v := 1) hx hb dX4_rank_100 (by decide) ?_
                        exact W.iret (v := (1 : Int32)) hx hb hr (fun t ht hW => ⟨⟨(1 : Int32), (h, g), rfl, HW, g_B ht hG⟩, hG.2.2.F ht⟩) hG.2.2.2.2 dX4_rank_101
                      · by_cases c_1_10 : x0 = 126
                        · replace HW := HW.2.2.2.2.2.2.2.2.2.2.1 c_1_10
                          refine lv_lookup (tgt := 110) hx hb dX4_rank_1 (by decide) (by rw [c_1_10]; first | done | decide) (by decide) ?_
                          refine lv_bipush (v := 6) hx hb dX4_rank_110 (by decide) ?_
                          exact W.iret (v := (6 : Int32)) hx hb hr (fun t ht hW => ⟨⟨(6 : Int32), (h, g), rfl, HW, g_B ht hG⟩, hG.2.2.F ht⟩) hG.2.2.2.2 dX4_rank_112
                        · replace HW := HW.2.2.2.2.2.2.2.2.2.2.2 c_1_0 c_1_1 c_1_2 c_1_3 c_1_4 c_1_5 c_1_6 c_1_7 c_1_8 c_1_9 c_1_10
                          have z_1_0 : ¬ ((33 : Int) = (x0).toInt) := fun q => g_ne c_1_0 (n := 33) (by decide) q.symm
                          have z_1_1 : ¬ ((38 : Int) = (x0).toInt) := fun q => g_ne c_1_1 (n := 38) (by decide) q.symm
                          have z_1_2 : ¬ ((42 : Int) = (x0).toInt) := fun q => g_ne c_1_2 (n := 42) (by decide) q.symm
                          have z_1_3 : ¬ ((43 : Int) = (x0).toInt) := fun q => g_ne c_1_3 (n := 43) (by decide) q.symm
                          have z_1_4 : ¬ ((45 : Int) = (x0).toInt) := fun q => g_ne c_1_4 (n := 45) (by decide) q.symm
                          have z_1_5 : ¬ ((47 : Int) = (x0).toInt) := fun q => g_ne c_1_5 (n := 47) (by decide) q.symm
                          have z_1_6 : ¬ ((60 : Int) = (x0).toInt) := fun q => g_ne c_1_6 (n := 60) (by decide) q.symm
                          have z_1_7 : ¬ ((61 : Int) = (x0).toInt) := fun q => g_ne c_1_7 (n := 61) (by decide) q.symm
                          have z_1_8 : ¬ ((62 : Int) = (x0).toInt) := fun q => g_ne c_1_8 (n := 62) (by decide) q.symm
                          have z_1_9 : ¬ ((124 : Int) = (x0).toInt) := fun q => g_ne c_1_9 (n := 124) (by decide) q.symm
                          have z_1_10 : ¬ ((126 : Int) = (x0).toInt) := fun q => g_ne c_1_10 (n := 126) (by decide) q.symm
                          refine lv_lookup (tgt := 113) (off := 112) hx hb dX4_rank_1 (by decide) (by show Op.lookupswitch.offset [(33, 109), (38, 101), (42, 107), (43, 105), (45, 105), (47, 107), (60, 103), (61, 103), (62, 103), (124, 99), (126, 109)] (112) (x0).toInt = 112; rw [Op.lookupswitch.offset_cons, if_neg z_1_0, Op.lookupswitch.offset_cons, if_neg z_1_1, Op.lookupswitch.offset_cons, if_neg z_1_2, Op.lookupswitch.offset_cons, if_neg z_1_3, Op.lookupswitch.offset_cons, if_neg z_1_4, Op.lookupswitch.offset_cons, if_neg z_1_5, Op.lookupswitch.offset_cons, if_neg z_1_6, Op.lookupswitch.offset_cons, if_neg z_1_7, Op.lookupswitch.offset_cons, if_neg z_1_8, Op.lookupswitch.offset_cons, if_neg z_1_9, Op.lookupswitch.offset_cons, if_neg z_1_10, Op.lookupswitch.offset_nil]) (by decide) ?_
                          refine lv_iconst (v := 0) hx hb dX4_rank_113 (by decide) ?_
                          exact W.iret (v := (0 : Int32)) hx hb hr (fun t ht hW => ⟨⟨(0 : Int32), (h, g), rfl, HW, g_B ht hG⟩, hG.2.2.F ht⟩) hG.2.2.2.2 dX4_rank_114
  exact E0 _ _ _ hG hl

def b_X4_settle_7 (Q : HI → HL → Prop) (K7 : Int32 → Int32 → HI → HL → Prop) (x1 : Int32) (x2 : Int32) (h : HI) (g : HL) : Prop :=
  ((x2 < 0 → Q h g) ∧ (¬ x2 < 0 → (((60 : Int32) ≤ x2 → Q h g) ∧ (¬ (60 : Int32) ≤ x2 → (vp_in x2 60 ∧ (∃ P_26 : Int32 → HI → HL → Prop, w_X4_rank (h 79 x2.toNatClampNeg) h g P_26 ∧ ∀ (r_26 : Int32) (h_26 : HI) (g_26 : HL), P_26 r_26 h_26 g_26 → ((r_26 < x1 → Q h_26 g_26) ∧ (¬ r_26 < x1 → (vp_in x2 60 ∧ (∃ P_41 : HI → HL → Prop, w_X4_put (-(h_26 79 x2.toNatClampNeg)) h_26 g_26 P_41 ∧ ∀ (h_41 : HI) (g_41 : HL), P_41 h_41 g_41 → (∀ h_46 : HI, h_46 = hu h_41 77 5 x2 → (∀ x2_49 : Int32, x2_49 = (x2 + (-1)) → K7 x1 x2_49 h_46 g_41))))))))))))
def F_X4_settle_7 (Q : HI → HL → Prop) (K : Int32 × Int32 × HI × HL → Prop) (q : Int32 × Int32 × HI × HL) : Prop := b_X4_settle_7 Q (fun x1 x2 h g => K (x1, x2, h, g)) q.1 q.2.1 q.2.2.1 q.2.2.2
def w_X4_settle (x1 : Int32) (h : HI) (g : HL) (Q : HI → HL → Prop) : Prop :=
  (∀ x2_6 : Int32, x2_6 = ((h 77 5) - (1 : Int32)) → lpE (F_X4_settle_7 Q) (x1, x2_6, h, g))
set_option maxHeartbeats 8000000 in
set_option maxRecDepth 100000 in
theorem m_X4_settle (l : Launch) (D : va_G) (cy : Nat → ClassId) (ad : Nat → Nat) (h : HI) (g : HL) (sz : Nat) (x1 : Int32) (Q : HI → HL → Prop) (HW : w_X4_settle x1 h g Q) : Met l yX4_settle (wa yX4_settle cX4_settle 3 none) ({ frames := 1, cells := 0, slots := 0, locals := 21 }) (va_Pc [.ref (ad 77), .int x1] (gI D cy ad h g sz)) (va_Qv (fun (u : HI × HL) => Q u.1 u.2) (gB D cy ad sz) (gA ad sz)) 0 0 (gA ad sz) := by
  refine Met.ofW (cc := cX4_settle) (maxL := 3) (ret := none) (by decide) rfl ?_
  intro p e s m args below meth c s₁ B hml hv
  obtain ⟨hav, hsz, hP, hK, hD0, hNw⟩ := hv
  have hx := B.exec
  have hb := B.bytes
  have hr := B.returns
  have hts := atoms_spec (ws := (wa yX4_settle cX4_settle 3 none)) B.pre
  have hw := wa_hw hts
  have hown : s.vm.findClass RX4 = some m.cls := findClass_of_methodNamed B.named
  have hlocks := B.notSynchronized
  subst hsz
  have hG : gG D cy ad (gA ad s.heap.size) s.heap h g s.heap [] := ⟨hP, gA_self hD0, va_S.rf⟩
  clear hP hD0
  have lk33 := hw (.fieldLink RX4 33 "OldWorks$Law" "waits" "I") (wm1 134 rfl rfl)
  have lk15 := hw (.fieldLink RX4 15 "OldWorks$Law" "waiting" "[I") (wm1 131 rfl rfl)
  rw [show (headSpec (wa yX4_settle cX4_settle 3 none) ({ frames := 1, cells := 0, slots := 0, locals := 21 } : Room)).room = ({ frames := 1, cells := 0, slots := 0, locals := 21 } : Room) from rfl]
  have hl := lv_entry ([.ref (ad 77), .int x1]) (n := 3) (Nat.le_of_ble_eq_true rfl)
  rw [show entryFrame m args 3 = entryFrame m ([.ref (ad 77), .int x1] : List Value).toArray 3 from by rw [hav], lg_entry_eq]
  generalize (lg_sl ([.ref (ad 77), .int x1]) ++ List.replicate (3 - (lg_sl ([.ref (ad 77), .int x1])).length) Slot.unset).toArray = ls at hl ⊢
  have hl : lv_has ls 3 [(0, .ref (ad 77)), (1, .int x1)] := hl
  have L7 : ∀ (n : Nat) (x1 : Int32) (x2 : Int32) (h : HI) (g : HL) (H : Heap) (locs : List Loc) (ls : Array Slot), lpN (F_X4_settle_7 Q) n (x1, x2, h, g) → gG D cy ad (gA ad s.heap.size) s.heap h g H locs → lv_has ls 3 [(0, .ref (ad 77)), (1, .int x1), (2, .int x2)] → W p l e ({ frames := 1, cells := 0, slots := 0, locals := 21 } : Room) s m args below meth c H locs 0 0 (MQ below (va_Qv (fun (u : HI × HL) => Q u.1 u.2) (gB D cy ad s.heap.size) (gA ad s.heap.size)) args s 0 0 (gA ad s.heap.size)) (F0 m 7 ls []) := by
    intro n
    induction n with
    | zero => intro x1 x2 h g H locs ls HW; exact HW.elim
    | succ n ih =>
      intro x1 x2 h g H locs ls HW hG hl
      have HW : b_X4_settle_7 Q (fun x1 x2 h g => lpN (F_X4_settle_7 Q) n (x1, x2, h, g)) x1 x2 h g := HW
      generalize hKe : (fun (x1 : Int32) (x2 : Int32) (h : HI) (g : HL) => lpN (F_X4_settle_7 Q) n (x1, x2, h, g)) = K7 at HW
      have hK7 : ∀ (x1 : Int32) (x2 : Int32) (h : HI) (g : HL) (H : Heap) (locs : List Loc) (ls : Array Slot), K7 x1 x2 h g → gG D cy ad (gA ad s.heap.size) s.heap h g H locs → lv_has ls 3 [(0, .ref (ad 77)), (1, .int x1), (2, .int x2)] → W p l e ({ frames := 1, cells := 0, slots := 0, locals := 21 } : Room) s m args below meth c H locs 0 0 (MQ below (va_Qv (fun (u : HI × HL) => Q u.1 u.2) (gB D cy ad s.heap.size) (gA ad s.heap.size)) args s 0 0 (gA ad s.heap.size)) (F0 m 7 ls []) := by subst hKe; exact ih
      clear ih
      clear hKe
      unfold b_X4_settle_7 at HW
      refine lv_iload_n hx hb dX4_settle_7 rfl (lv_at hl 2 rfl) ?_
      refine lv_if_lt (tgt := 55) hx hb dX4_settle_8 (by decide) (fun c_8 => ?_) (fun c_8 => ?_)
      · replace HW := HW.1 c_8
        exact W.vret hx hb hr (fun t ht hW => ⟨⟨(h, g), rfl, HW, g_B ht hG⟩, hG.2.2.F ht⟩) hG.2.2.2.2 dX4_settle_55
      · replace HW := HW.2 c_8
        refine lv_iload_n hx hb dX4_settle_11 rfl (lv_at hl 2 rfl) ?_
        refine lv_aload_n hx hb dX4_settle_12 rfl (lv_at hl 0 rfl) ?_
        refine g_getr hx hb hw inG4 hown hK hG gl_77 rfl gk_77 (by decide) 2 (by decide) (by rw [gm_77]; decide) (r := 79) gr_77_2 lk15 dX4_settle_13 ?_
        refine g_alen hx hb hK hG gl_79 gk_79 (v := (60 : Int32)) (by rw [gn_79]; decide) dX4_settle_16 ?_
        refine lv_icmp_ge (tgt := 55) hx hb dX4_settle_17 (by decide) (fun c_17 => ?_) (fun c_17 => ?_)
        · replace HW := HW.1 c_17
          exact W.vret hx hb hr (fun t ht hW => ⟨⟨(h, g), rfl, HW, g_B ht hG⟩, hG.2.2.F ht⟩) hG.2.2.2.2 dX4_settle_55
        · replace HW := HW.2 c_17
          refine lv_aload_n hx hb dX4_settle_20 rfl (lv_at hl 0 rfl) ?_
          refine g_getr hx hb hw inG4 hown hK hG gl_77 rfl gk_77 (by decide) 2 (by decide) (by rw [gm_77]; decide) (r := 79) gr_77_2 lk15 dX4_settle_21 ?_
          refine lv_iload_n hx hb dX4_settle_24 rfl (lv_at hl 2 rfl) ?_
          refine g_iald hx hb hK hG gl_79 gk_79 gn_79 HW.1 dX4_settle_25 ?_
          replace HW := HW.2
          obtain ⟨P_26, HC_26, HW⟩ := HW
          refine g_calli (g_runS (As := [.int (h 79 x2.toNatClampNeg)]) (rest := []) ⟨hx, hb, hml, hown, hts⟩ (m_X4_rank l D cy ad h g H.size (h 79 x2.toNatClampNeg) P_26 HC_26) (va_cwS 1 hts (gd_S (wm3 12 rfl rfl) (wm3 13 rfl rfl) (wm1 4 rfl rfl) (wm3 14 rfl rfl)) rfl rfl rfl (by decide +kernel) ⟨Nat.le_of_ble_eq_true rfl, Nat.le_of_ble_eq_true rfl⟩) hK hNw hG rfl rfl hl.1 rfl (lv_room (Nat.le_of_ble_eq_true rfl)) dX4_settle_26 ⟨Nat.zero_le _, Nat.zero_le _⟩) hG (fun r_26 h_26 g_26 H locs hq hG => ?_)
          replace HW := HW r_26 h_26 g_26 hq
          refine lv_iload_n hx hb dX4_settle_29 rfl (lv_at hl 1 rfl) ?_
          refine lv_icmp_lt (tgt := 55) hx hb dX4_settle_30 (by decide) (fun c_30 => ?_) (fun c_30 => ?_)
          · replace HW := HW.1 c_30
            exact W.vret hx hb hr (fun t ht hW => ⟨⟨(h_26, g_26), rfl, HW, g_B ht hG⟩, hG.2.2.F ht⟩) hG.2.2.2.2 dX4_settle_55
          · replace HW := HW.2 c_30
            refine lv_aload_n hx hb dX4_settle_33 rfl (lv_at hl 0 rfl) ?_
            refine lv_aload_n hx hb dX4_settle_34 rfl (lv_at hl 0 rfl) ?_
            refine g_getr hx hb hw inG4 hown hK hG gl_77 rfl gk_77 (by decide) 2 (by decide) (by rw [gm_77]; decide) (r := 79) gr_77_2 lk15 dX4_settle_35 ?_
            refine lv_iload_n hx hb dX4_settle_38 rfl (lv_at hl 2 rfl) ?_
            refine g_iald hx hb hK hG gl_79 gk_79 gn_79 HW.1 dX4_settle_39 ?_
            replace HW := HW.2
            refine lv_ineg hx hb dX4_settle_40 ?_
            obtain ⟨P_41, HC_41, HW⟩ := HW
            refine g_callv (g_runV (As := [.int (-(h_26 79 x2.toNatClampNeg))]) (rest := []) ⟨hx, hb, hml, hown, hts⟩ (m_X4_put l D cy ad h_26 g_26 H.size (-(h_26 79 x2.toNatClampNeg)) P_41 HC_41) (cwV 1 hts (gd_V (wm2 228 rfl rfl) (wm2 230 rfl rfl) (wmp1 (q := (yX4_put, 10)) 1 rfl) (wm1 4 rfl rfl) (wm2 231 rfl rfl)) rfl rfl rfl (by decide +kernel) ⟨Nat.le_of_ble_eq_true rfl, Nat.le_of_ble_eq_true rfl⟩) hK hNw hG gl_77 rfl gk_77 (by decide) rfl rfl hl.1 rfl (lv_room (Nat.le_of_ble_eq_true rfl)) dX4_settle_41 ⟨Nat.zero_le _, Nat.zero_le _⟩) hG (fun h_41 g_41 H locs hq hG => ?_)
            replace HW := HW h_41 g_41 hq
            refine lv_aload_n hx hb dX4_settle_44 rfl (lv_at hl 0 rfl) ?_
            refine lv_iload_n hx hb dX4_settle_45 rfl (lv_at hl 2 rfl) ?_
            refine g_put hx hb hw inG4 tyX4 tyX4_ok nmX4 hown hK hG gl_77 rfl gk_77 (by decide) 5 (by decide) (by rw [gm_77]; decide) gr_77_5 rfl (ty := .int) (by decide +kernel) rfl rfl lk33 dX4_settle_46 (fun H locs hG => ?_)
            obtain ⟨h_46, eh_46⟩ : ∃ y : HI, y = hu h_41 77 5 x2 := ⟨_, rfl⟩
            rw [← eh_46] at hG
            replace HW := HW h_46 eh_46
            obtain ⟨x2_49, ex2_49⟩ : ∃ y : Int32, y = (x2 + (-1)) := ⟨_, rfl⟩
            replace HW := HW x2_49 ex2_49
            refine lv_iinc (v := x2_49) (lv' := [(2, .int x2_49), (0, .ref (ad 77)), (1, .int x1)]) hx hb dX4_settle_49 hl (k := 2) rfl (by rw [ex2_49]; rfl) (by decide) rfl (fun ls hl => ?_)
            refine lv_goto (tgt := 7) hx hb dX4_settle_52 (by decide) ?_
            exact hK7 x1 x2_49 h_46 g_41 _ _ _ HW hG (lv_sub hl [1, 2, 0] rfl)
  have E0 : ∀ (H : Heap) (locs : List Loc) (ls : Array Slot), gG D cy ad (gA ad s.heap.size) s.heap h g H locs → lv_has ls 3 [(0, .ref (ad 77)), (1, .int x1)] → W p l e ({ frames := 1, cells := 0, slots := 0, locals := 21 } : Room) s m args below meth c H locs 0 0 (MQ below (va_Qv (fun (u : HI × HL) => Q u.1 u.2) (gB D cy ad s.heap.size) (gA ad s.heap.size)) args s 0 0 (gA ad s.heap.size)) (F0 m 0 ls []) := by
    intro H locs ls hG hl
    unfold w_X4_settle at HW
    refine lv_aload_n hx hb dX4_settle_0 rfl (lv_at hl 0 rfl) ?_
    refine g_geti hx hb hw inG4 hown hK hG gl_77 rfl gk_77 (by decide) 5 (by decide) (by rw [gm_77]; decide) gr_77_5 lk33 dX4_settle_1 ?_
    refine lv_iconst (v := 1) hx hb dX4_settle_4 (by decide) ?_
    refine lv_isub hx hb dX4_settle_5 ?_
    refine lv_topi (fun x2_6 ex2_6 => ?_)
    replace HW := HW x2_6 ex2_6
    refine lv_istore_n (lv' := [(2, .int x2_6), (0, .ref (ad 77)), (1, .int x1)]) hx hb dX4_settle_6 rfl hl (by decide) rfl (fun ls hl => ?_)
    obtain ⟨n_7, HW⟩ := HW
    exact L7 n_7 x1 x2_6 h g _ _ _ HW hG (lv_sub hl [1, 2, 0] rfl)
  exact E0 _ _ _ hG hl

def w_X4_lastRank  (h : HI) (g : HL) (Q : Int32 → HI → HL → Prop) : Prop :=
  (((h 77 5) ≤ 0 → Q (0 : Int32) h g) ∧ (¬ (h 77 5) ≤ 0 → (((60 : Int32) < (h 77 5) → Q (0 : Int32) h g) ∧ (¬ (60 : Int32) < (h 77 5) → (vp_in ((h 77 5) - (1 : Int32)) 60 ∧ (∃ P_30 : Int32 → HI → HL → Prop, w_X4_rank (h 79 ((h 77 5) - (1 : Int32)).toNatClampNeg) h g P_30 ∧ ∀ (r_30 : Int32) (h_30 : HI) (g_30 : HL), P_30 r_30 h_30 g_30 → Q r_30 h_30 g_30))))))
set_option maxHeartbeats 8000000 in
set_option maxRecDepth 100000 in
theorem m_X4_lastRank (l : Launch) (D : va_G) (cy : Nat → ClassId) (ad : Nat → Nat) (h : HI) (g : HL) (sz : Nat)  (Q : Int32 → HI → HL → Prop) (HW : w_X4_lastRank h g Q) : Met l yX4_lastRank (wa yX4_lastRank cX4_lastRank 1 (some .int)) ({ frames := 1, cells := 0, slots := 0, locals := 20 }) (va_Pc [.ref (ad 77)] (gI D cy ad h g sz)) (va_Qi (fun (r : Int32) (u : HI × HL) => Q r u.1 u.2) (gB D cy ad sz) (gA ad sz)) 0 0 (gA ad sz) := by
  refine Met.ofW (cc := cX4_lastRank) (maxL := 1) (ret := (some .int)) (by decide) rfl ?_
  intro p e s m args below meth c s₁ B hml hv
  obtain ⟨hav, hsz, hP, hK, hD0, hNw⟩ := hv
  have hx := B.exec
  have hb := B.bytes
  have hr := B.returns
  have hts := atoms_spec (ws := (wa yX4_lastRank cX4_lastRank 1 (some .int))) B.pre
  have hw := wa_hw hts
  have hown : s.vm.findClass RX4 = some m.cls := findClass_of_methodNamed B.named
  have hlocks := B.notSynchronized
  subst hsz
  have hG : gG D cy ad (gA ad s.heap.size) s.heap h g s.heap [] := ⟨hP, gA_self hD0, va_S.rf⟩
  clear hP hD0
  have lk33 := hw (.fieldLink RX4 33 "OldWorks$Law" "waits" "I") (wm1 134 rfl rfl)
  have lk15 := hw (.fieldLink RX4 15 "OldWorks$Law" "waiting" "[I") (wm1 131 rfl rfl)
  rw [show (headSpec (wa yX4_lastRank cX4_lastRank 1 (some .int)) ({ frames := 1, cells := 0, slots := 0, locals := 20 } : Room)).room = ({ frames := 1, cells := 0, slots := 0, locals := 20 } : Room) from rfl]
  have hl := lv_entry ([.ref (ad 77)]) (n := 1) (Nat.le_of_ble_eq_true rfl)
  rw [show entryFrame m args 1 = entryFrame m ([.ref (ad 77)] : List Value).toArray 1 from by rw [hav], lg_entry_eq]
  generalize (lg_sl ([.ref (ad 77)]) ++ List.replicate (1 - (lg_sl ([.ref (ad 77)])).length) Slot.unset).toArray = ls at hl ⊢
  have hl : lv_has ls 1 [(0, .ref (ad 77))] := hl
  have E0 : ∀ (H : Heap) (locs : List Loc) (ls : Array Slot), gG D cy ad (gA ad s.heap.size) s.heap h g H locs → lv_has ls 1 [(0, .ref (ad 77))] → W p l e ({ frames := 1, cells := 0, slots := 0, locals := 20 } : Room) s m args below meth c H locs 0 0 (MQ below (va_Qi (fun (r : Int32) (u : HI × HL) => Q r u.1 u.2) (gB D cy ad s.heap.size) (gA ad s.heap.size)) args s 0 0 (gA ad s.heap.size)) (F0 m 0 ls []) := by
    intro H locs ls hG hl
    unfold w_X4_lastRank at HW
    refine lv_aload_n hx hb dX4_lastRank_0 rfl (lv_at hl 0 rfl) ?_
    refine g_geti hx hb hw inG4 hown hK hG gl_77 rfl gk_77 (by decide) 5 (by decide) (by rw [gm_77]; decide) gr_77_5 lk33 dX4_lastRank_1 ?_
    refine lv_if_le (tgt := 36) hx hb dX4_lastRank_4 (by decide) (fun c_4 => ?_) (fun c_4 => ?_)
    · replace HW := HW.1 c_4
      refine lv_iconst (v := 0) hx hb dX4_lastRank_36 (by decide) ?_
      exact W.iret (v := (0 : Int32)) hx hb hr (fun t ht hW => ⟨⟨(0 : Int32), (h, g), rfl, HW, g_B ht hG⟩, hG.2.2.F ht⟩) hG.2.2.2.2 dX4_lastRank_37
    · replace HW := HW.2 c_4
      refine lv_aload_n hx hb dX4_lastRank_7 rfl (lv_at hl 0 rfl) ?_
      refine g_geti hx hb hw inG4 hown hK hG gl_77 rfl gk_77 (by decide) 5 (by decide) (by rw [gm_77]; decide) gr_77_5 lk33 dX4_lastRank_8 ?_
      refine lv_aload_n hx hb dX4_lastRank_11 rfl (lv_at hl 0 rfl) ?_
      refine g_getr hx hb hw inG4 hown hK hG gl_77 rfl gk_77 (by decide) 2 (by decide) (by rw [gm_77]; decide) (r := 79) gr_77_2 lk15 dX4_lastRank_12 ?_
      refine g_alen hx hb hK hG gl_79 gk_79 (v := (60 : Int32)) (by rw [gn_79]; decide) dX4_lastRank_15 ?_
      refine lv_icmp_gt (tgt := 36) hx hb dX4_lastRank_16 (by decide) (fun c_16 => ?_) (fun c_16 => ?_)
      · replace HW := HW.1 c_16
        refine lv_iconst (v := 0) hx hb dX4_lastRank_36 (by decide) ?_
        exact W.iret (v := (0 : Int32)) hx hb hr (fun t ht hW => ⟨⟨(0 : Int32), (h, g), rfl, HW, g_B ht hG⟩, hG.2.2.F ht⟩) hG.2.2.2.2 dX4_lastRank_37
      · replace HW := HW.2 c_16
        refine lv_aload_n hx hb dX4_lastRank_19 rfl (lv_at hl 0 rfl) ?_
        refine g_getr hx hb hw inG4 hown hK hG gl_77 rfl gk_77 (by decide) 2 (by decide) (by rw [gm_77]; decide) (r := 79) gr_77_2 lk15 dX4_lastRank_20 ?_
        refine lv_aload_n hx hb dX4_lastRank_23 rfl (lv_at hl 0 rfl) ?_
        refine g_geti hx hb hw inG4 hown hK hG gl_77 rfl gk_77 (by decide) 5 (by decide) (by rw [gm_77]; decide) gr_77_5 lk33 dX4_lastRank_24 ?_
        refine lv_iconst (v := 1) hx hb dX4_lastRank_27 (by decide) ?_
        refine lv_isub hx hb dX4_lastRank_28 ?_
        refine g_iald hx hb hK hG gl_79 gk_79 gn_79 HW.1 dX4_lastRank_29 ?_
        replace HW := HW.2
        obtain ⟨P_30, HC_30, HW⟩ := HW
        refine g_calli (g_runS (As := [.int (h 79 ((h 77 5) - (1 : Int32)).toNatClampNeg)]) (rest := []) ⟨hx, hb, hml, hown, hts⟩ (m_X4_rank l D cy ad h g H.size (h 79 ((h 77 5) - (1 : Int32)).toNatClampNeg) P_30 HC_30) (va_cwS 1 hts (gd_S (wm3 12 rfl rfl) (wm3 13 rfl rfl) (wm1 4 rfl rfl) (wm3 14 rfl rfl)) rfl rfl rfl (by decide +kernel) ⟨Nat.le_of_ble_eq_true rfl, Nat.le_of_ble_eq_true rfl⟩) hK hNw hG rfl rfl hl.1 rfl (lv_room (Nat.le_of_ble_eq_true rfl)) dX4_lastRank_30 ⟨Nat.zero_le _, Nat.zero_le _⟩) hG (fun r_30 h_30 g_30 H locs hq hG => ?_)
        replace HW := HW r_30 h_30 g_30 hq
        refine lv_goto (tgt := 37) hx hb dX4_lastRank_33 (by decide) ?_
        exact W.iret (v := r_30) hx hb hr (fun t ht hW => ⟨⟨r_30, (h_30, g_30), rfl, HW, g_B ht hG⟩, hG.2.2.F ht⟩) hG.2.2.2.2 dX4_lastRank_37
  exact E0 _ _ _ hG hl

def j_X4_followsUnit_91 (Q : Int32 → HI → HL → Prop) (x1 : Int32) (h : HI) (g : HL) : Prop :=
  (∃ P_93 : HI → HL → Prop, w_X4_await x1 h g P_93 ∧ ∀ (h_93 : HI) (g_93 : HL), P_93 h_93 g_93 → (∀ h_98 : HI, h_98 = hu h_93 77 8 (1 : Int32) → Q (1 : Int32) h_98 g_93))
def j_X4_followsUnit_73 (Q : Int32 → HI → HL → Prop) (x1 : Int32) (x2 : Int32) (s1 : Int32) (h : HI) (g : HL) : Prop :=
  (∃ P_73 : HI → HL → Prop, w_X4_settle s1 h g P_73 ∧ ∀ (h_73 : HI) (g_73 : HL), P_73 h_73 g_73 → ((¬ x2 = (3 : Int32) → j_X4_followsUnit_91 Q x1 h_73 g_73) ∧ (x2 = (3 : Int32) → (∃ P_82 : Int32 → HI → HL → Prop, w_X4_lastRank h_73 g_73 P_82 ∧ ∀ (r_82 : Int32) (h_82 : HI) (g_82 : HL), P_82 r_82 h_82 g_82 → ((¬ r_82 = (3 : Int32) → j_X4_followsUnit_91 Q x1 h_82 g_82) ∧ (r_82 = (3 : Int32) → Q (0 : Int32) h_82 g_82))))))
def w_X4_followsUnit (x1 : Int32) (h : HI) (g : HL) (Q : Int32 → HI → HL → Prop) : Prop :=
  ((¬ x1 = (41 : Int32) → (∃ P_43 : Int32 → HI → HL → Prop, w_X4_rank x1 h g P_43 ∧ ∀ (r_43 : Int32) (h_43 : HI) (g_43 : HL), P_43 r_43 h_43 g_43 → ((r_43 < (1 : Int32) → Q (0 : Int32) h_43 g_43) ∧ (¬ r_43 < (1 : Int32) → ((r_43 < (6 : Int32) → ((¬ r_43 = (3 : Int32) → j_X4_followsUnit_73 Q x1 r_43 r_43 h_43 g_43) ∧ (r_43 = (3 : Int32) → j_X4_followsUnit_73 Q x1 r_43 (r_43 + (1 : Int32)) h_43 g_43))) ∧ (¬ r_43 < (6 : Int32) → Q (0 : Int32) h_43 g_43)))))) ∧ (x1 = (41 : Int32) → ((¬ (h 77 6) = 0 → (∃ P_17 : HI → HL → Prop, w_X4_settle (1 : Int32) h g P_17 ∧ ∀ (h_17 : HI) (g_17 : HL), P_17 h_17 g_17 → (∀ h_27 : HI, h_27 = hu h_17 77 5 ((h_17 77 5) - (1 : Int32)) → (∀ h_37 : HI, h_37 = hu h_27 77 6 ((h_27 77 6) - (1 : Int32)) → Q (1 : Int32) h_37 g_17)))) ∧ ((h 77 6) = 0 → Q (0 : Int32) h g))))
set_option maxHeartbeats 8000000 in
set_option maxRecDepth 100000 in
theorem m_X4_followsUnit (l : Launch) (D : va_G) (cy : Nat → ClassId) (ad : Nat → Nat) (h : HI) (g : HL) (sz : Nat) (x1 : Int32) (Q : Int32 → HI → HL → Prop) (HW : w_X4_followsUnit x1 h g Q) : Met l yX4_followsUnit (wa yX4_followsUnit cX4_followsUnit 3 (some .boolean)) ({ frames := 2, cells := 0, slots := 0, locals := 43 }) (va_Pc [.ref (ad 77), .int x1] (gI D cy ad h g sz)) (va_Qi (fun (r : Int32) (u : HI × HL) => zb r ∧ Q r u.1 u.2) (gB D cy ad sz) (gA ad sz)) 0 0 (gA ad sz) := by
  refine Met.ofW (cc := cX4_followsUnit) (maxL := 3) (ret := (some .boolean)) (by decide) rfl ?_
  intro p e s m args below meth c s₁ B hml hv
  obtain ⟨hav, hsz, hP, hK, hD0, hNw⟩ := hv
  have hx := B.exec
  have hb := B.bytes
  have hr := B.returns
  have hts := atoms_spec (ws := (wa yX4_followsUnit cX4_followsUnit 3 (some .boolean))) B.pre
  have hw := wa_hw hts
  have hown : s.vm.findClass RX4 = some m.cls := findClass_of_methodNamed B.named
  have hlocks := B.notSynchronized
  subst hsz
  have hG : gG D cy ad (gA ad s.heap.size) s.heap h g s.heap [] := ⟨hP, gA_self hD0, va_S.rf⟩
  clear hP hD0
  have lk36 := hw (.fieldLink RX4 36 "OldWorks$Law" "open" "I") (wm1 135 rfl rfl)
  have lk33 := hw (.fieldLink RX4 33 "OldWorks$Law" "waits" "I") (wm1 134 rfl rfl)
  have lk42 := hw (.fieldLink RX4 42 "OldWorks$Law" "unitDue" "Z") (wm1 137 rfl rfl)
  rw [show (headSpec (wa yX4_followsUnit cX4_followsUnit 3 (some .boolean)) ({ frames := 2, cells := 0, slots := 0, locals := 43 } : Room)).room = ({ frames := 2, cells := 0, slots := 0, locals := 43 } : Room) from rfl]
  have hl := lv_entry ([.ref (ad 77), .int x1]) (n := 3) (Nat.le_of_ble_eq_true rfl)
  rw [show entryFrame m args 3 = entryFrame m ([.ref (ad 77), .int x1] : List Value).toArray 3 from by rw [hav], lg_entry_eq]
  generalize (lg_sl ([.ref (ad 77), .int x1]) ++ List.replicate (3 - (lg_sl ([.ref (ad 77), .int x1])).length) Slot.unset).toArray = ls at hl ⊢
  have hl : lv_has ls 3 [(0, .ref (ad 77)), (1, .int x1)] := hl
  have B91 : ∀ (x1 : Int32) (h : HI) (g : HL) (H : Heap) (locs : List Loc) (ls : Array Slot), j_X4_followsUnit_91 Q x1 h g → gG D cy ad (gA ad s.heap.size) s.heap h g H locs → lv_has ls 3 [(0, .ref (ad 77)), (1, .int x1)] → W p l e ({ frames := 2, cells := 0, slots := 0, locals := 43 } : Room) s m args below meth c H locs 0 0 (MQ below (va_Qi (fun (r : Int32) (u : HI × HL) => zb r ∧ Q r u.1 u.2) (gB D cy ad s.heap.size) (gA ad s.heap.size)) args s 0 0 (gA ad s.heap.size)) (F0 m 91 ls []) := by
    intro x1 h g H locs ls HW hG hl
    unfold j_X4_followsUnit_91 at HW
    refine lv_aload_n hx hb dX4_followsUnit_91 rfl (lv_at hl 0 rfl) ?_
    refine lv_iload_n hx hb dX4_followsUnit_92 rfl (lv_at hl 1 rfl) ?_
    obtain ⟨P_93, HC_93, HW⟩ := HW
    refine g_callv (g_runV (As := [.int x1]) (rest := []) ⟨hx, hb, hml, hown, hts⟩ (m_X4_await l D cy ad h g H.size x1 P_93 HC_93) (cwV 1 hts (gd_V (wm3 0 rfl rfl) (wm3 2 rfl rfl) (wmp1 (q := (yX4_await, 10)) 4 rfl) (wm1 4 rfl rfl) (wm3 3 rfl rfl)) rfl rfl rfl (by decide +kernel) ⟨Nat.le_of_ble_eq_true rfl, Nat.le_of_ble_eq_true rfl⟩) hK hNw hG gl_77 rfl gk_77 (by decide) rfl rfl hl.1 rfl (lv_room (Nat.le_of_ble_eq_true rfl)) dX4_followsUnit_93 ⟨Nat.zero_le _, Nat.zero_le _⟩) hG (fun h_93 g_93 H locs hq hG => ?_)
    replace HW := HW h_93 g_93 hq
    refine lv_aload_n hx hb dX4_followsUnit_96 rfl (lv_at hl 0 rfl) ?_
    refine lv_iconst (v := 1) hx hb dX4_followsUnit_97 (by decide) ?_
    refine g_put hx hb hw inG4 tyX4 tyX4_ok nmX4 hown hK hG gl_77 rfl gk_77 (by decide) 8 (by decide) (by rw [gm_77]; decide) gr_77_8 rfl (ty := .boolean) (by decide +kernel) rfl rfl lk42 dX4_followsUnit_98 (fun H locs hG => ?_)
    obtain ⟨h_98, eh_98⟩ : ∃ y : HI, y = hu h_93 77 8 (1 : Int32) := ⟨_, rfl⟩
    rw [← eh_98] at hG
    replace HW := HW h_98 eh_98
    refine lv_iconst (v := 1) hx hb dX4_followsUnit_101 (by decide) ?_
    exact W.zret (v := (1 : Int32)) hx hb hr rfl (fun t ht hW => ⟨⟨(1 : Int32), (h_98, g_93), rfl, ⟨Or.inr rfl, HW⟩, g_B ht hG⟩, hG.2.2.F ht⟩) hG.2.2.2.2 dX4_followsUnit_102
  have B73 : ∀ (x1 : Int32) (x2 : Int32) (s1 : Int32) (h : HI) (g : HL) (H : Heap) (locs : List Loc) (ls : Array Slot), j_X4_followsUnit_73 Q x1 x2 s1 h g → gG D cy ad (gA ad s.heap.size) s.heap h g H locs → lv_has ls 3 [(0, .ref (ad 77)), (1, .int x1), (2, .int x2)] → W p l e ({ frames := 2, cells := 0, slots := 0, locals := 43 } : Room) s m args below meth c H locs 0 0 (MQ below (va_Qi (fun (r : Int32) (u : HI × HL) => zb r ∧ Q r u.1 u.2) (gB D cy ad s.heap.size) (gA ad s.heap.size)) args s 0 0 (gA ad s.heap.size)) (F0 m 73 ls [.int s1, .ref (ad 77)]) := by
    intro x1 x2 s1 h g H locs ls HW hG hl
    unfold j_X4_followsUnit_73 at HW
    obtain ⟨P_73, HC_73, HW⟩ := HW
    refine g_callv (g_runV (As := [.int s1]) (rest := []) ⟨hx, hb, hml, hown, hts⟩ (m_X4_settle l D cy ad h g H.size s1 P_73 HC_73) (cwV 1 hts (gd_V (wm3 8 rfl rfl) (wm3 10 rfl rfl) (wmp1 (q := (yX4_settle, 10)) 6 rfl) (wm1 4 rfl rfl) (wm3 11 rfl rfl)) rfl rfl rfl (by decide +kernel) ⟨Nat.le_of_ble_eq_true rfl, Nat.le_of_ble_eq_true rfl⟩) hK hNw hG gl_77 rfl gk_77 (by decide) rfl rfl hl.1 rfl (lv_room (Nat.le_of_ble_eq_true rfl)) dX4_followsUnit_73 ⟨Nat.zero_le _, Nat.zero_le _⟩) hG (fun h_73 g_73 H locs hq hG => ?_)
    replace HW := HW h_73 g_73 hq
    refine lv_iload_n hx hb dX4_followsUnit_76 rfl (lv_at hl 2 rfl) ?_
    refine lv_iconst (v := 3) hx hb dX4_followsUnit_77 (by decide) ?_
    refine lv_icmp_ne (tgt := 91) hx hb dX4_followsUnit_78 (by decide) (fun c_78 => ?_) (fun c_78 => ?_)
    · replace HW := HW.1 c_78
      exact B91 x1 h_73 g_73 _ _ _ HW hG (lv_sub hl [0, 1] rfl)
    · replace HW := HW.2 c_78
      refine lv_aload_n hx hb dX4_followsUnit_81 rfl (lv_at hl 0 rfl) ?_
      obtain ⟨P_82, HC_82, HW⟩ := HW
      refine g_calli (g_runV (As := []) (rest := []) ⟨hx, hb, hml, hown, hts⟩ (m_X4_lastRank l D cy ad h_73 g_73 H.size  P_82 HC_82) (cwV 0 hts (gd_V (wm3 15 rfl rfl) (wm3 17 rfl rfl) (wmp1 (q := (yX4_lastRank, 10)) 7 rfl) (wm1 4 rfl rfl) (wm3 18 rfl rfl)) rfl rfl rfl (by decide +kernel) ⟨Nat.le_of_ble_eq_true rfl, Nat.le_of_ble_eq_true rfl⟩) hK hNw hG gl_77 rfl gk_77 (by decide) rfl rfl hl.1 rfl (lv_room (Nat.le_of_ble_eq_true rfl)) dX4_followsUnit_82 ⟨Nat.zero_le _, Nat.zero_le _⟩) hG (fun r_82 h_82 g_82 H locs hq hG => ?_)
      replace HW := HW r_82 h_82 g_82 hq
      refine lv_iconst (v := 3) hx hb dX4_followsUnit_85 (by decide) ?_
      refine lv_icmp_ne (tgt := 91) hx hb dX4_followsUnit_86 (by decide) (fun c_86 => ?_) (fun c_86 => ?_)
      · replace HW := HW.1 c_86
        exact B91 x1 h_82 g_82 _ _ _ HW hG (lv_sub hl [0, 1] rfl)
      · replace HW := HW.2 c_86
        refine lv_iconst (v := 0) hx hb dX4_followsUnit_89 (by decide) ?_
        exact W.zret (v := (0 : Int32)) hx hb hr rfl (fun t ht hW => ⟨⟨(0 : Int32), (h_82, g_82), rfl, ⟨Or.inl rfl, HW⟩, g_B ht hG⟩, hG.2.2.F ht⟩) hG.2.2.2.2 dX4_followsUnit_90
  have E0 : ∀ (H : Heap) (locs : List Loc) (ls : Array Slot), gG D cy ad (gA ad s.heap.size) s.heap h g H locs → lv_has ls 3 [(0, .ref (ad 77)), (1, .int x1)] → W p l e ({ frames := 2, cells := 0, slots := 0, locals := 43 } : Room) s m args below meth c H locs 0 0 (MQ below (va_Qi (fun (r : Int32) (u : HI × HL) => zb r ∧ Q r u.1 u.2) (gB D cy ad s.heap.size) (gA ad s.heap.size)) args s 0 0 (gA ad s.heap.size)) (F0 m 0 ls []) := by
    intro H locs ls hG hl
    unfold w_X4_followsUnit at HW
    refine lv_iload_n hx hb dX4_followsUnit_0 rfl (lv_at hl 1 rfl) ?_
    refine lv_bipush (v := 41) hx hb dX4_followsUnit_1 (by decide) ?_
    refine lv_icmp_ne (tgt := 42) hx hb dX4_followsUnit_3 (by decide) (fun c_3 => ?_) (fun c_3 => ?_)
    · replace HW := HW.1 c_3
      refine lv_iload_n hx hb dX4_followsUnit_42 rfl (lv_at hl 1 rfl) ?_
      obtain ⟨P_43, HC_43, HW⟩ := HW
      refine g_calli (g_runS (As := [.int x1]) (rest := []) ⟨hx, hb, hml, hown, hts⟩ (m_X4_rank l D cy ad h g H.size x1 P_43 HC_43) (va_cwS 1 hts (gd_S (wm3 12 rfl rfl) (wm3 13 rfl rfl) (wm1 4 rfl rfl) (wm3 14 rfl rfl)) rfl rfl rfl (by decide +kernel) ⟨Nat.le_of_ble_eq_true rfl, Nat.le_of_ble_eq_true rfl⟩) hK hNw hG rfl rfl hl.1 rfl (lv_room (Nat.le_of_ble_eq_true rfl)) dX4_followsUnit_43 ⟨Nat.zero_le _, Nat.zero_le _⟩) hG (fun r_43 h_43 g_43 H locs hq hG => ?_)
      replace HW := HW r_43 h_43 g_43 hq
      refine lv_istore_n (lv' := [(2, .int r_43), (0, .ref (ad 77)), (1, .int x1)]) hx hb dX4_followsUnit_46 rfl hl (by decide) rfl (fun ls hl => ?_)
      refine lv_iload_n hx hb dX4_followsUnit_47 rfl (lv_at hl 0 rfl) ?_
      refine lv_iconst (v := 1) hx hb dX4_followsUnit_48 (by decide) ?_
      refine lv_icmp_lt (tgt := 58) hx hb dX4_followsUnit_49 (by decide) (fun c_49 => ?_) (fun c_49 => ?_)
      · replace HW := HW.1 c_49
        refine lv_iconst (v := 0) hx hb dX4_followsUnit_58 (by decide) ?_
        exact W.zret (v := (0 : Int32)) hx hb hr rfl (fun t ht hW => ⟨⟨(0 : Int32), (h_43, g_43), rfl, ⟨Or.inl rfl, HW⟩, g_B ht hG⟩, hG.2.2.F ht⟩) hG.2.2.2.2 dX4_followsUnit_59
      · replace HW := HW.2 c_49
        refine lv_iload_n hx hb dX4_followsUnit_52 rfl (lv_at hl 0 rfl) ?_
        refine lv_bipush (v := 6) hx hb dX4_followsUnit_53 (by decide) ?_
        refine lv_icmp_lt (tgt := 60) hx hb dX4_followsUnit_55 (by decide) (fun c_55 => ?_) (fun c_55 => ?_)
        · replace HW := HW.1 c_55
          refine lv_aload_n hx hb dX4_followsUnit_60 rfl (lv_at hl 1 rfl) ?_
          refine lv_iload_n hx hb dX4_followsUnit_61 rfl (lv_at hl 0 rfl) ?_
          refine lv_iconst (v := 3) hx hb dX4_followsUnit_62 (by decide) ?_
          refine lv_icmp_ne (tgt := 72) hx hb dX4_followsUnit_63 (by decide) (fun c_63 => ?_) (fun c_63 => ?_)
          · replace HW := HW.1 c_63
            refine lv_iload_n hx hb dX4_followsUnit_72 rfl (lv_at hl 0 rfl) ?_
            exact B73 x1 r_43 r_43 h_43 g_43 _ _ _ HW hG (lv_sub hl [1, 2, 0] rfl)
          · replace HW := HW.2 c_63
            refine lv_iload_n hx hb dX4_followsUnit_66 rfl (lv_at hl 0 rfl) ?_
            refine lv_iconst (v := 1) hx hb dX4_followsUnit_67 (by decide) ?_
            refine lv_iadd hx hb dX4_followsUnit_68 ?_
            refine lv_goto (tgt := 73) hx hb dX4_followsUnit_69 (by decide) ?_
            exact B73 x1 r_43 (r_43 + (1 : Int32)) h_43 g_43 _ _ _ HW hG (lv_sub hl [1, 2, 0] rfl)
        · replace HW := HW.2 c_55
          refine lv_iconst (v := 0) hx hb dX4_followsUnit_58 (by decide) ?_
          exact W.zret (v := (0 : Int32)) hx hb hr rfl (fun t ht hW => ⟨⟨(0 : Int32), (h_43, g_43), rfl, ⟨Or.inl rfl, HW⟩, g_B ht hG⟩, hG.2.2.F ht⟩) hG.2.2.2.2 dX4_followsUnit_59
    · replace HW := HW.2 c_3
      refine lv_aload_n hx hb dX4_followsUnit_6 rfl (lv_at hl 0 rfl) ?_
      refine g_geti hx hb hw inG4 hown hK hG gl_77 rfl gk_77 (by decide) 6 (by decide) (by rw [gm_77]; decide) gr_77_6 lk36 dX4_followsUnit_7 ?_
      refine lv_if_ne (tgt := 15) hx hb dX4_followsUnit_10 (by decide) (fun c_10 => ?_) (fun c_10 => ?_)
      · replace HW := HW.1 c_10
        refine lv_aload_n hx hb dX4_followsUnit_15 rfl (lv_at hl 0 rfl) ?_
        refine lv_iconst (v := 1) hx hb dX4_followsUnit_16 (by decide) ?_
        obtain ⟨P_17, HC_17, HW⟩ := HW
        refine g_callv (g_runV (As := [.int (1 : Int32)]) (rest := []) ⟨hx, hb, hml, hown, hts⟩ (m_X4_settle l D cy ad h g H.size (1 : Int32) P_17 HC_17) (cwV 1 hts (gd_V (wm3 8 rfl rfl) (wm3 10 rfl rfl) (wmp1 (q := (yX4_settle, 10)) 6 rfl) (wm1 4 rfl rfl) (wm3 11 rfl rfl)) rfl rfl rfl (by decide +kernel) ⟨Nat.le_of_ble_eq_true rfl, Nat.le_of_ble_eq_true rfl⟩) hK hNw hG gl_77 rfl gk_77 (by decide) rfl rfl hl.1 rfl (lv_room (Nat.le_of_ble_eq_true rfl)) dX4_followsUnit_17 ⟨Nat.zero_le _, Nat.zero_le _⟩) hG (fun h_17 g_17 H locs hq hG => ?_)
        replace HW := HW h_17 g_17 hq
        refine lv_aload_n hx hb dX4_followsUnit_20 rfl (lv_at hl 0 rfl) ?_
        refine lv_dup hx hb dX4_followsUnit_21 rfl ?_
        refine g_geti hx hb hw inG4 hown hK hG gl_77 rfl gk_77 (by decide) 5 (by decide) (by rw [gm_77]; decide) gr_77_5 lk33 dX4_followsUnit_22 ?_
        refine lv_iconst (v := 1) hx hb dX4_followsUnit_25 (by decide) ?_
        refine lv_isub hx hb dX4_followsUnit_26 ?_
        refine g_put hx hb hw inG4 tyX4 tyX4_ok nmX4 hown hK hG gl_77 rfl gk_77 (by decide) 5 (by decide) (by rw [gm_77]; decide) gr_77_5 rfl (ty := .int) (by decide +kernel) rfl rfl lk33 dX4_followsUnit_27 (fun H locs hG => ?_)
        obtain ⟨h_27, eh_27⟩ : ∃ y : HI, y = hu h_17 77 5 ((h_17 77 5) - (1 : Int32)) := ⟨_, rfl⟩
        rw [← eh_27] at hG
        replace HW := HW h_27 eh_27
        refine lv_aload_n hx hb dX4_followsUnit_30 rfl (lv_at hl 0 rfl) ?_
        refine lv_dup hx hb dX4_followsUnit_31 rfl ?_
        refine g_geti hx hb hw inG4 hown hK hG gl_77 rfl gk_77 (by decide) 6 (by decide) (by rw [gm_77]; decide) gr_77_6 lk36 dX4_followsUnit_32 ?_
        refine lv_iconst (v := 1) hx hb dX4_followsUnit_35 (by decide) ?_
        refine lv_isub hx hb dX4_followsUnit_36 ?_
        refine g_put hx hb hw inG4 tyX4 tyX4_ok nmX4 hown hK hG gl_77 rfl gk_77 (by decide) 6 (by decide) (by rw [gm_77]; decide) gr_77_6 rfl (ty := .int) (by decide +kernel) rfl rfl lk36 dX4_followsUnit_37 (fun H locs hG => ?_)
        obtain ⟨h_37, eh_37⟩ : ∃ y : HI, y = hu h_27 77 6 ((h_27 77 6) - (1 : Int32)) := ⟨_, rfl⟩
        rw [← eh_37] at hG
        replace HW := HW h_37 eh_37
        refine lv_iconst (v := 1) hx hb dX4_followsUnit_40 (by decide) ?_
        exact W.zret (v := (1 : Int32)) hx hb hr rfl (fun t ht hW => ⟨⟨(1 : Int32), (h_37, g_17), rfl, ⟨Or.inr rfl, HW⟩, g_B ht hG⟩, hG.2.2.F ht⟩) hG.2.2.2.2 dX4_followsUnit_41
      · replace HW := HW.2 c_10
        refine lv_iconst (v := 0) hx hb dX4_followsUnit_13 (by decide) ?_
        exact W.zret (v := (0 : Int32)) hx hb hr rfl (fun t ht hW => ⟨⟨(0 : Int32), (h, g), rfl, ⟨Or.inl rfl, HW⟩, g_B ht hG⟩, hG.2.2.F ht⟩) hG.2.2.2.2 dX4_followsUnit_14
  exact E0 _ _ _ hG hl

def j_X4_readSign_61 (Q : HI → HL → Prop) (x2 : Int32) (h : HI) (g : HL) : Prop :=
  (∀ h_68 : HI, h_68 = hu h 77 9 (((10 : Int32) * x2) + (1 : Int32)) → Q h_68 g)
def j_X4_readSign_35 (Q : HI → HL → Prop) (x1 : Int32) (x2 : Int32) (h : HI) (g : HL) : Prop :=
  (((h 77 8) = 0 → (∃ P_55 : Int32 → HI → HL → Prop, w_X4_followsUnit x1 h g P_55 ∧ ∀ (r_55 : Int32) (h_55 : HI) (g_55 : HL), zb r_55 → P_55 r_55 h_55 g_55 → ((¬ r_55 = 0 → Q h_55 g_55) ∧ (r_55 = 0 → j_X4_readSign_61 Q x2 h_55 g_55)))) ∧ (¬ (h 77 8) = 0 → (∃ P_44 : Int32 → HI → HL → Prop, w_X4_startsUnit x1 h g P_44 ∧ ∀ (r_44 : Int32) (h_44 : HI) (g_44 : HL), zb r_44 → P_44 r_44 h_44 g_44 → ((¬ r_44 = 0 → Q h_44 g_44) ∧ (r_44 = 0 → j_X4_readSign_61 Q x2 h_44 g_44)))))
def w_X4_readSign (x1 : Int32) (x2 : Int32) (h : HI) (g : HL) (Q : HI → HL → Prop) : Prop :=
  (((h 77 8) = 0 → j_X4_readSign_35 Q x1 x2 h g) ∧ (¬ (h 77 8) = 0 → ((¬ x1 = (40 : Int32) → j_X4_readSign_35 Q x1 x2 h g) ∧ (x1 = (40 : Int32) → (((h 77 6) < (8 : Int32) → j_X4_readSign_35 Q x1 x2 h g) ∧ (¬ (h 77 6) < (8 : Int32) → (∀ h_29 : HI, h_29 = hu h 77 9 (((10 : Int32) * x2) + (3 : Int32)) → Q h_29 g)))))))
set_option maxHeartbeats 8000000 in
set_option maxRecDepth 100000 in
theorem m_X4_readSign (l : Launch) (D : va_G) (cy : Nat → ClassId) (ad : Nat → Nat) (h : HI) (g : HL) (sz : Nat) (x1 : Int32) (x2 : Int32) (Q : HI → HL → Prop) (HW : w_X4_readSign x1 x2 h g Q) : Met l yX4_readSign (wa yX4_readSign cX4_readSign 3 none) ({ frames := 3, cells := 0, slots := 0, locals := 65 }) (va_Pc [.ref (ad 77), .int x1, .int x2] (gI D cy ad h g sz)) (va_Qv (fun (u : HI × HL) => Q u.1 u.2) (gB D cy ad sz) (gA ad sz)) 0 0 (gA ad sz) := by
  refine Met.ofW (cc := cX4_readSign) (maxL := 3) (ret := none) (by decide) rfl ?_
  intro p e s m args below meth c s₁ B hml hv
  obtain ⟨hav, hsz, hP, hK, hD0, hNw⟩ := hv
  have hx := B.exec
  have hb := B.bytes
  have hr := B.returns
  have hts := atoms_spec (ws := (wa yX4_readSign cX4_readSign 3 none)) B.pre
  have hw := wa_hw hts
  have hown : s.vm.findClass RX4 = some m.cls := findClass_of_methodNamed B.named
  have hlocks := B.notSynchronized
  subst hsz
  have hG : gG D cy ad (gA ad s.heap.size) s.heap h g s.heap [] := ⟨hP, gA_self hD0, va_S.rf⟩
  clear hP hD0
  have lk42 := hw (.fieldLink RX4 42 "OldWorks$Law" "unitDue" "Z") (wm1 137 rfl rfl)
  have lk36 := hw (.fieldLink RX4 36 "OldWorks$Law" "open" "I") (wm1 135 rfl rfl)
  have lk26 := hw (.fieldLink RX4 26 "OldWorks$Law" "flaw" "I") (wm1 138 rfl rfl)
  rw [show (headSpec (wa yX4_readSign cX4_readSign 3 none) ({ frames := 3, cells := 0, slots := 0, locals := 65 } : Room)).room = ({ frames := 3, cells := 0, slots := 0, locals := 65 } : Room) from rfl]
  have hl := lv_entry ([.ref (ad 77), .int x1, .int x2]) (n := 3) (Nat.le_of_ble_eq_true rfl)
  rw [show entryFrame m args 3 = entryFrame m ([.ref (ad 77), .int x1, .int x2] : List Value).toArray 3 from by rw [hav], lg_entry_eq]
  generalize (lg_sl ([.ref (ad 77), .int x1, .int x2]) ++ List.replicate (3 - (lg_sl ([.ref (ad 77), .int x1, .int x2])).length) Slot.unset).toArray = ls at hl ⊢
  have hl : lv_has ls 3 [(0, .ref (ad 77)), (1, .int x1), (2, .int x2)] := hl
  have B61 : ∀ (x2 : Int32) (h : HI) (g : HL) (H : Heap) (locs : List Loc) (ls : Array Slot), j_X4_readSign_61 Q x2 h g → gG D cy ad (gA ad s.heap.size) s.heap h g H locs → lv_has ls 3 [(0, .ref (ad 77)), (2, .int x2)] → W p l e ({ frames := 3, cells := 0, slots := 0, locals := 65 } : Room) s m args below meth c H locs 0 0 (MQ below (va_Qv (fun (u : HI × HL) => Q u.1 u.2) (gB D cy ad s.heap.size) (gA ad s.heap.size)) args s 0 0 (gA ad s.heap.size)) (F0 m 61 ls []) := by
    intro x2 h g H locs ls HW hG hl
    unfold j_X4_readSign_61 at HW
    refine lv_aload_n hx hb dX4_readSign_61 rfl (lv_at hl 0 rfl) ?_
    refine lv_bipush (v := 10) hx hb dX4_readSign_62 (by decide) ?_
    refine lv_iload_n hx hb dX4_readSign_64 rfl (lv_at hl 1 rfl) ?_
    refine lv_imul hx hb dX4_readSign_65 ?_
    refine lv_iconst (v := 1) hx hb dX4_readSign_66 (by decide) ?_
    refine lv_iadd hx hb dX4_readSign_67 ?_
    refine g_put hx hb hw inG4 tyX4 tyX4_ok nmX4 hown hK hG gl_77 rfl gk_77 (by decide) 9 (by decide) (by rw [gm_77]; decide) gr_77_9 rfl (ty := .int) (by decide +kernel) rfl rfl lk26 dX4_readSign_68 (fun H locs hG => ?_)
    obtain ⟨h_68, eh_68⟩ : ∃ y : HI, y = hu h 77 9 (((10 : Int32) * x2) + (1 : Int32)) := ⟨_, rfl⟩
    rw [← eh_68] at hG
    replace HW := HW h_68 eh_68
    exact W.vret hx hb hr (fun t ht hW => ⟨⟨(h_68, g), rfl, HW, g_B ht hG⟩, hG.2.2.F ht⟩) hG.2.2.2.2 dX4_readSign_71
  have B35 : ∀ (x1 : Int32) (x2 : Int32) (h : HI) (g : HL) (H : Heap) (locs : List Loc) (ls : Array Slot), j_X4_readSign_35 Q x1 x2 h g → gG D cy ad (gA ad s.heap.size) s.heap h g H locs → lv_has ls 3 [(0, .ref (ad 77)), (1, .int x1), (2, .int x2)] → W p l e ({ frames := 3, cells := 0, slots := 0, locals := 65 } : Room) s m args below meth c H locs 0 0 (MQ below (va_Qv (fun (u : HI × HL) => Q u.1 u.2) (gB D cy ad s.heap.size) (gA ad s.heap.size)) args s 0 0 (gA ad s.heap.size)) (F0 m 35 ls []) := by
    intro x1 x2 h g H locs ls HW hG hl
    unfold j_X4_readSign_35 at HW
    refine lv_aload_n hx hb dX4_readSign_35 rfl (lv_at hl 0 rfl) ?_
    refine g_geti hx hb hw inG4 hown hK hG gl_77 rfl gk_77 (by decide) 8 (by decide) (by rw [gm_77]; decide) gr_77_8 lk42 dX4_readSign_36 ?_
    refine lv_if_eq (tgt := 53) hx hb dX4_readSign_39 (by decide) (fun c_39 => ?_) (fun c_39 => ?_)
    · replace HW := HW.1 c_39
      refine lv_aload_n hx hb dX4_readSign_53 rfl (lv_at hl 0 rfl) ?_
      refine lv_iload_n hx hb dX4_readSign_54 rfl (lv_at hl 1 rfl) ?_
      obtain ⟨P_55, HC_55, HW⟩ := HW
      refine g_callz (g_runV (As := [.int x1]) (rest := []) ⟨hx, hb, hml, hown, hts⟩ (m_X4_followsUnit l D cy ad h g H.size x1 P_55 HC_55) (cwV 1 hts (gd_V (wm3 4 rfl rfl) (wm3 6 rfl rfl) (wmp1 (q := (yX4_followsUnit, 10)) 5 rfl) (wm1 4 rfl rfl) (wm3 7 rfl rfl)) rfl rfl rfl (by decide +kernel) ⟨Nat.le_of_ble_eq_true rfl, Nat.le_of_ble_eq_true rfl⟩) hK hNw hG gl_77 rfl gk_77 (by decide) rfl rfl hl.1 rfl (lv_room (Nat.le_of_ble_eq_true rfl)) dX4_readSign_55 ⟨Nat.zero_le _, Nat.zero_le _⟩) hG (fun r_55 h_55 g_55 H locs hz hq hG => ?_)
      replace HW := HW r_55 h_55 g_55 hz hq
      refine lv_if_ne (tgt := 71) hx hb dX4_readSign_58 (by decide) (fun c_58 => ?_) (fun c_58 => ?_)
      · replace HW := HW.1 c_58
        exact W.vret hx hb hr (fun t ht hW => ⟨⟨(h_55, g_55), rfl, HW, g_B ht hG⟩, hG.2.2.F ht⟩) hG.2.2.2.2 dX4_readSign_71
      · replace HW := HW.2 c_58
        exact B61 x2 h_55 g_55 _ _ _ HW hG (lv_sub hl [0, 2] rfl)
    · replace HW := HW.2 c_39
      refine lv_aload_n hx hb dX4_readSign_42 rfl (lv_at hl 0 rfl) ?_
      refine lv_iload_n hx hb dX4_readSign_43 rfl (lv_at hl 1 rfl) ?_
      obtain ⟨P_44, HC_44, HW⟩ := HW
      refine g_callz (g_runV (As := [.int x1]) (rest := []) ⟨hx, hb, hml, hown, hts⟩ (m_X4_startsUnit l D cy ad h g H.size x1 P_44 HC_44) (cwV 1 hts (gd_V (wm2 236 rfl rfl) (wm2 238 rfl rfl) (wmp1 (q := (yX4_startsUnit, 10)) 3 rfl) (wm1 4 rfl rfl) (wm2 239 rfl rfl)) rfl rfl rfl (by decide +kernel) ⟨Nat.le_of_ble_eq_true rfl, Nat.le_of_ble_eq_true rfl⟩) hK hNw hG gl_77 rfl gk_77 (by decide) rfl rfl hl.1 rfl (lv_room (Nat.le_of_ble_eq_true rfl)) dX4_readSign_44 ⟨Nat.zero_le _, Nat.zero_le _⟩) hG (fun r_44 h_44 g_44 H locs hz hq hG => ?_)
      replace HW := HW r_44 h_44 g_44 hz hq
      refine lv_if_ne (tgt := 71) hx hb dX4_readSign_47 (by decide) (fun c_47 => ?_) (fun c_47 => ?_)
      · replace HW := HW.1 c_47
        exact W.vret hx hb hr (fun t ht hW => ⟨⟨(h_44, g_44), rfl, HW, g_B ht hG⟩, hG.2.2.F ht⟩) hG.2.2.2.2 dX4_readSign_71
      · replace HW := HW.2 c_47
        refine lv_goto (tgt := 61) hx hb dX4_readSign_50 (by decide) ?_
        exact B61 x2 h_44 g_44 _ _ _ HW hG (lv_sub hl [0, 2] rfl)
  have E0 : ∀ (H : Heap) (locs : List Loc) (ls : Array Slot), gG D cy ad (gA ad s.heap.size) s.heap h g H locs → lv_has ls 3 [(0, .ref (ad 77)), (1, .int x1), (2, .int x2)] → W p l e ({ frames := 3, cells := 0, slots := 0, locals := 65 } : Room) s m args below meth c H locs 0 0 (MQ below (va_Qv (fun (u : HI × HL) => Q u.1 u.2) (gB D cy ad s.heap.size) (gA ad s.heap.size)) args s 0 0 (gA ad s.heap.size)) (F0 m 0 ls []) := by
    intro H locs ls hG hl
    unfold w_X4_readSign at HW
    refine lv_aload_n hx hb dX4_readSign_0 rfl (lv_at hl 0 rfl) ?_
    refine g_geti hx hb hw inG4 hown hK hG gl_77 rfl gk_77 (by decide) 8 (by decide) (by rw [gm_77]; decide) gr_77_8 lk42 dX4_readSign_1 ?_
    refine lv_if_eq (tgt := 35) hx hb dX4_readSign_4 (by decide) (fun c_4 => ?_) (fun c_4 => ?_)
    · replace HW := HW.1 c_4
      exact B35 x1 x2 h g _ _ _ HW hG (lv_sub hl [0, 1, 2] rfl)
    · replace HW := HW.2 c_4
      refine lv_iload_n hx hb dX4_readSign_7 rfl (lv_at hl 1 rfl) ?_
      refine lv_bipush (v := 40) hx hb dX4_readSign_8 (by decide) ?_
      refine lv_icmp_ne (tgt := 35) hx hb dX4_readSign_10 (by decide) (fun c_10 => ?_) (fun c_10 => ?_)
      · replace HW := HW.1 c_10
        exact B35 x1 x2 h g _ _ _ HW hG (lv_sub hl [0, 1, 2] rfl)
      · replace HW := HW.2 c_10
        refine lv_aload_n hx hb dX4_readSign_13 rfl (lv_at hl 0 rfl) ?_
        refine g_geti hx hb hw inG4 hown hK hG gl_77 rfl gk_77 (by decide) 6 (by decide) (by rw [gm_77]; decide) gr_77_6 lk36 dX4_readSign_14 ?_
        refine lv_bipush (v := 8) hx hb dX4_readSign_17 (by decide) ?_
        refine lv_icmp_lt (tgt := 35) hx hb dX4_readSign_19 (by decide) (fun c_19 => ?_) (fun c_19 => ?_)
        · replace HW := HW.1 c_19
          exact B35 x1 x2 h g _ _ _ HW hG (lv_sub hl [0, 1, 2] rfl)
        · replace HW := HW.2 c_19
          refine lv_aload_n hx hb dX4_readSign_22 rfl (lv_at hl 0 rfl) ?_
          refine lv_bipush (v := 10) hx hb dX4_readSign_23 (by decide) ?_
          refine lv_iload_n hx hb dX4_readSign_25 rfl (lv_at hl 2 rfl) ?_
          refine lv_imul hx hb dX4_readSign_26 ?_
          refine lv_iconst (v := 3) hx hb dX4_readSign_27 (by decide) ?_
          refine lv_iadd hx hb dX4_readSign_28 ?_
          refine g_put hx hb hw inG4 tyX4 tyX4_ok nmX4 hown hK hG gl_77 rfl gk_77 (by decide) 9 (by decide) (by rw [gm_77]; decide) gr_77_9 rfl (ty := .int) (by decide +kernel) rfl rfl lk26 dX4_readSign_29 (fun H locs hG => ?_)
          obtain ⟨h_29, eh_29⟩ : ∃ y : HI, y = hu h 77 9 (((10 : Int32) * x2) + (3 : Int32)) := ⟨_, rfl⟩
          rw [← eh_29] at hG
          replace HW := HW h_29 eh_29
          refine lv_goto (tgt := 71) hx hb dX4_readSign_32 (by decide) ?_
          exact W.vret hx hb hr (fun t ht hW => ⟨⟨(h_29, g), rfl, HW, g_B ht hG⟩, hG.2.2.F ht⟩) hG.2.2.2.2 dX4_readSign_71
  exact E0 _ _ _ hG hl

def j_X4_read_148 (Q : HI → HL → Prop) (h : HI) (g : HL) : Prop :=
  ((¬ (h 77 9) = (-1 : Int32) → Q h g) ∧ ((h 77 9) = (-1 : Int32) → (∃ P_158 : HI → HL → Prop, w_X4_settle (1 : Int32) h g P_158 ∧ ∀ (h_158 : HI) (g_158 : HL), P_158 h_158 g_158 → Q h_158 g_158)))
def j_X4_read_138 (Q : HI → HL → Prop) (x1 : Int32) (h : HI) (g : HL) : Prop :=
  (∀ h_145 : HI, h_145 = hu h 77 9 (((10 : Int32) * x1) + (1 : Int32)) → j_X4_read_148 Q h_145 g)
def j_X4_read_116 (Q : HI → HL → Prop) (x1 : Int32) (h : HI) (g : HL) : Prop :=
  ((¬ (h 77 9) = (-1 : Int32) → j_X4_read_148 Q h g) ∧ ((h 77 9) = (-1 : Int32) → ((¬ (h 77 8) = 0 → j_X4_read_138 Q x1 h g) ∧ ((h 77 8) = 0 → (((h 77 6) ≤ 0 → j_X4_read_148 Q h g) ∧ (¬ (h 77 6) ≤ 0 → j_X4_read_138 Q x1 h g))))))
def j_X4_read_110 (Q : HI → HL → Prop) (K43 : Int32 → Int32 → HI → HL → Prop) (x1 : Int32) (x2 : Int32) (h : HI) (g : HL) : Prop :=
  (∀ x2_110 : Int32, x2_110 = (x2 + 1) → K43 x1 x2_110 h g)
def j_X4_read_93 (Q : HI → HL → Prop) (K43 : Int32 → Int32 → HI → HL → Prop) (x1 : Int32) (x2 : Int32) (x3 : Int32) (h : HI) (g : HL) : Prop :=
  (∀ h_95 : HI, h_95 = hu h 77 7 (0 : Int32) → ((x3 = (32 : Int32) → j_X4_read_110 Q K43 x1 x2 h_95 g) ∧ (¬ x3 = (32 : Int32) → (∃ P_107 : HI → HL → Prop, w_X4_readSign x3 x2 h_95 g P_107 ∧ ∀ (h_107 : HI) (g_107 : HL), P_107 h_107 g_107 → j_X4_read_110 Q K43 x1 x2 h_107 g_107))))
def b_X4_read_43 (Q : HI → HL → Prop) (K43 : Int32 → Int32 → HI → HL → Prop) (x1 : Int32) (x2 : Int32) (h : HI) (g : HL) : Prop :=
  ((x1 ≤ x2 → j_X4_read_116 Q x1 h g) ∧ (¬ x1 ≤ x2 → ((¬ (h 77 9) = (-1 : Int32) → j_X4_read_116 Q x1 h g) ∧ ((h 77 9) = (-1 : Int32) → (∃ P_65 : Int32 → HI → HL → Prop, w_X8_at 24 x2 (0 : Int32) h g P_65 ∧ ∀ (r_65 : Int32) (h_65 : HI) (g_65 : HL), P_65 r_65 h_65 g_65 → ((r_65 < (48 : Int32) → j_X4_read_93 Q K43 x1 x2 r_65 h_65 g_65) ∧ (¬ r_65 < (48 : Int32) → (((57 : Int32) < r_65 → j_X4_read_93 Q K43 x1 x2 r_65 h_65 g_65) ∧ (¬ (57 : Int32) < r_65 → (∃ P_87 : HI → HL → Prop, w_X4_readDigit (r_65 - (48 : Int32)) x2 h_65 g_65 P_87 ∧ ∀ (h_87 : HI) (g_87 : HL), P_87 h_87 g_87 → j_X4_read_110 Q K43 x1 x2 h_87 g_87))))))))))
def F_X4_read_43 (Q : HI → HL → Prop) (K : Int32 × Int32 × HI × HL → Prop) (q : Int32 × Int32 × HI × HL) : Prop := b_X4_read_43 Q (fun x1 x2 h g => K (x1, x2, h, g)) q.1 q.2.1 q.2.2.1 q.2.2.2
def w_X4_read  (h : HI) (g : HL) (Q : HI → HL → Prop) : Prop :=
  (∀ h_2 : HI, h_2 = hu h 77 4 (0 : Int32) → (∀ h_7 : HI, h_7 = hu h_2 77 5 (0 : Int32) → (∀ h_12 : HI, h_12 = hu h_7 77 6 (0 : Int32) → (∀ h_17 : HI, h_17 = hu h_12 77 7 (0 : Int32) → (∀ h_22 : HI, h_22 = hu h_17 77 8 (1 : Int32) → (∀ h_27 : HI, h_27 = hu h_22 77 9 (-1 : Int32) → (∃ P_37 : Int32 → HI → HL → Prop, w_X8_rows 24 h_27 g P_37 ∧ ∀ (r_37 : Int32) (h_37 : HI) (g_37 : HL), P_37 r_37 h_37 g_37 → lpE (F_X4_read_43 Q) (r_37, (0 : Int32), h_37, g_37))))))))
set_option maxHeartbeats 8000000 in
set_option maxRecDepth 100000 in
theorem m_X4_read (l : Launch) (D : va_G) (cy : Nat → ClassId) (ad : Nat → Nat) (h : HI) (g : HL) (sz : Nat)  (Q : HI → HL → Prop) (HW : w_X4_read h g Q) : Met l yX4_read (wa yX4_read cX4_read 4 none) ({ frames := 4, cells := 0, slots := 0, locals := 87 }) (va_Pc [.ref (ad 77)] (gI D cy ad h g sz)) (va_Qv (fun (u : HI × HL) => Q u.1 u.2) (gB D cy ad sz) (gA ad sz)) 0 0 (gA ad sz) := by
  refine Met.ofW (cc := cX4_read) (maxL := 4) (ret := none) (by decide) rfl ?_
  intro p e s m args below meth c s₁ B hml hv
  obtain ⟨hav, hsz, hP, hK, hD0, hNw⟩ := hv
  have hx := B.exec
  have hb := B.bytes
  have hr := B.returns
  have hts := atoms_spec (ws := (wa yX4_read cX4_read 4 none)) B.pre
  have hw := wa_hw hts
  have hown : s.vm.findClass RX4 = some m.cls := findClass_of_methodNamed B.named
  have hlocks := B.notSynchronized
  subst hsz
  have hG : gG D cy ad (gA ad s.heap.size) s.heap h g s.heap [] := ⟨hP, gA_self hD0, va_S.rf⟩
  clear hP hD0
  have lk30 := hw (.fieldLink RX4 30 "OldWorks$Law" "written" "I") (wm1 133 rfl rfl)
  have lk33 := hw (.fieldLink RX4 33 "OldWorks$Law" "waits" "I") (wm1 134 rfl rfl)
  have lk36 := hw (.fieldLink RX4 36 "OldWorks$Law" "open" "I") (wm1 135 rfl rfl)
  have lk39 := hw (.fieldLink RX4 39 "OldWorks$Law" "digits" "I") (wm1 136 rfl rfl)
  have lk42 := hw (.fieldLink RX4 42 "OldWorks$Law" "unitDue" "Z") (wm1 137 rfl rfl)
  have lk26 := hw (.fieldLink RX4 26 "OldWorks$Law" "flaw" "I") (wm1 138 rfl rfl)
  have lk22 := hw (.fieldLink RX4 22 "OldWorks$Law" "shop" "LOldWorks$Shop;") (wm1 129 rfl rfl)
  have lk46 := hw (.fieldLink RX4 46 "OldWorks$Shop" "signs" "LOldWorks$Table;") (wm1 96 rfl rfl)
  rw [show (headSpec (wa yX4_read cX4_read 4 none) ({ frames := 4, cells := 0, slots := 0, locals := 87 } : Room)).room = ({ frames := 4, cells := 0, slots := 0, locals := 87 } : Room) from rfl]
  have hl := lv_entry ([.ref (ad 77)]) (n := 4) (Nat.le_of_ble_eq_true rfl)
  rw [show entryFrame m args 4 = entryFrame m ([.ref (ad 77)] : List Value).toArray 4 from by rw [hav], lg_entry_eq]
  generalize (lg_sl ([.ref (ad 77)]) ++ List.replicate (4 - (lg_sl ([.ref (ad 77)])).length) Slot.unset).toArray = ls at hl ⊢
  have hl : lv_has ls 4 [(0, .ref (ad 77))] := hl
  have B148 : ∀ (h : HI) (g : HL) (H : Heap) (locs : List Loc) (ls : Array Slot), j_X4_read_148 Q h g → gG D cy ad (gA ad s.heap.size) s.heap h g H locs → lv_has ls 4 [(0, .ref (ad 77))] → W p l e ({ frames := 4, cells := 0, slots := 0, locals := 87 } : Room) s m args below meth c H locs 0 0 (MQ below (va_Qv (fun (u : HI × HL) => Q u.1 u.2) (gB D cy ad s.heap.size) (gA ad s.heap.size)) args s 0 0 (gA ad s.heap.size)) (F0 m 148 ls []) := by
    intro  h g H locs ls HW hG hl
    unfold j_X4_read_148 at HW
    refine lv_aload_n hx hb dX4_read_148 rfl (lv_at hl 0 rfl) ?_
    refine g_geti hx hb hw inG4 hown hK hG gl_77 rfl gk_77 (by decide) 9 (by decide) (by rw [gm_77]; decide) gr_77_9 lk26 dX4_read_149 ?_
    refine lv_iconst (v := (-1)) hx hb dX4_read_152 (by decide) ?_
    refine lv_icmp_ne (tgt := 161) hx hb dX4_read_153 (by decide) (fun c_153 => ?_) (fun c_153 => ?_)
    · replace HW := HW.1 c_153
      exact W.vret hx hb hr (fun t ht hW => ⟨⟨(h, g), rfl, HW, g_B ht hG⟩, hG.2.2.F ht⟩) hG.2.2.2.2 dX4_read_161
    · replace HW := HW.2 c_153
      refine lv_aload_n hx hb dX4_read_156 rfl (lv_at hl 0 rfl) ?_
      refine lv_iconst (v := 1) hx hb dX4_read_157 (by decide) ?_
      obtain ⟨P_158, HC_158, HW⟩ := HW
      refine g_callv (g_runV (As := [.int (1 : Int32)]) (rest := []) ⟨hx, hb, hml, hown, hts⟩ (m_X4_settle l D cy ad h g H.size (1 : Int32) P_158 HC_158) (cwV 1 hts (gd_V (wm3 8 rfl rfl) (wm3 10 rfl rfl) (wmp1 (q := (yX4_settle, 10)) 6 rfl) (wm1 4 rfl rfl) (wm3 11 rfl rfl)) rfl rfl rfl (by decide +kernel) ⟨Nat.le_of_ble_eq_true rfl, Nat.le_of_ble_eq_true rfl⟩) hK hNw hG gl_77 rfl gk_77 (by decide) rfl rfl hl.1 rfl (lv_room (Nat.le_of_ble_eq_true rfl)) dX4_read_158 ⟨Nat.zero_le _, Nat.zero_le _⟩) hG (fun h_158 g_158 H locs hq hG => ?_)
      replace HW := HW h_158 g_158 hq
      exact W.vret hx hb hr (fun t ht hW => ⟨⟨(h_158, g_158), rfl, HW, g_B ht hG⟩, hG.2.2.F ht⟩) hG.2.2.2.2 dX4_read_161
  have B138 : ∀ (x1 : Int32) (h : HI) (g : HL) (H : Heap) (locs : List Loc) (ls : Array Slot), j_X4_read_138 Q x1 h g → gG D cy ad (gA ad s.heap.size) s.heap h g H locs → lv_has ls 4 [(0, .ref (ad 77)), (1, .int x1)] → W p l e ({ frames := 4, cells := 0, slots := 0, locals := 87 } : Room) s m args below meth c H locs 0 0 (MQ below (va_Qv (fun (u : HI × HL) => Q u.1 u.2) (gB D cy ad s.heap.size) (gA ad s.heap.size)) args s 0 0 (gA ad s.heap.size)) (F0 m 138 ls []) := by
    intro x1 h g H locs ls HW hG hl
    unfold j_X4_read_138 at HW
    refine lv_aload_n hx hb dX4_read_138 rfl (lv_at hl 0 rfl) ?_
    refine lv_bipush (v := 10) hx hb dX4_read_139 (by decide) ?_
    refine lv_iload_n hx hb dX4_read_141 rfl (lv_at hl 1 rfl) ?_
    refine lv_imul hx hb dX4_read_142 ?_
    refine lv_iconst (v := 1) hx hb dX4_read_143 (by decide) ?_
    refine lv_iadd hx hb dX4_read_144 ?_
    refine g_put hx hb hw inG4 tyX4 tyX4_ok nmX4 hown hK hG gl_77 rfl gk_77 (by decide) 9 (by decide) (by rw [gm_77]; decide) gr_77_9 rfl (ty := .int) (by decide +kernel) rfl rfl lk26 dX4_read_145 (fun H locs hG => ?_)
    obtain ⟨h_145, eh_145⟩ : ∃ y : HI, y = hu h 77 9 (((10 : Int32) * x1) + (1 : Int32)) := ⟨_, rfl⟩
    rw [← eh_145] at hG
    replace HW := HW h_145 eh_145
    exact B148 h_145 g _ _ _ HW hG (lv_sub hl [0] rfl)
  have B116 : ∀ (x1 : Int32) (h : HI) (g : HL) (H : Heap) (locs : List Loc) (ls : Array Slot), j_X4_read_116 Q x1 h g → gG D cy ad (gA ad s.heap.size) s.heap h g H locs → lv_has ls 4 [(0, .ref (ad 77)), (1, .int x1)] → W p l e ({ frames := 4, cells := 0, slots := 0, locals := 87 } : Room) s m args below meth c H locs 0 0 (MQ below (va_Qv (fun (u : HI × HL) => Q u.1 u.2) (gB D cy ad s.heap.size) (gA ad s.heap.size)) args s 0 0 (gA ad s.heap.size)) (F0 m 116 ls []) := by
    intro x1 h g H locs ls HW hG hl
    unfold j_X4_read_116 at HW
    refine lv_aload_n hx hb dX4_read_116 rfl (lv_at hl 0 rfl) ?_
    refine g_geti hx hb hw inG4 hown hK hG gl_77 rfl gk_77 (by decide) 9 (by decide) (by rw [gm_77]; decide) gr_77_9 lk26 dX4_read_117 ?_
    refine lv_iconst (v := (-1)) hx hb dX4_read_120 (by decide) ?_
    refine lv_icmp_ne (tgt := 148) hx hb dX4_read_121 (by decide) (fun c_121 => ?_) (fun c_121 => ?_)
    · replace HW := HW.1 c_121
      exact B148 h g _ _ _ HW hG (lv_sub hl [0] rfl)
    · replace HW := HW.2 c_121
      refine lv_aload_n hx hb dX4_read_124 rfl (lv_at hl 0 rfl) ?_
      refine g_geti hx hb hw inG4 hown hK hG gl_77 rfl gk_77 (by decide) 8 (by decide) (by rw [gm_77]; decide) gr_77_8 lk42 dX4_read_125 ?_
      refine lv_if_ne (tgt := 138) hx hb dX4_read_128 (by decide) (fun c_128 => ?_) (fun c_128 => ?_)
      · replace HW := HW.1 c_128
        exact B138 x1 h g _ _ _ HW hG (lv_sub hl [0, 1] rfl)
      · replace HW := HW.2 c_128
        refine lv_aload_n hx hb dX4_read_131 rfl (lv_at hl 0 rfl) ?_
        refine g_geti hx hb hw inG4 hown hK hG gl_77 rfl gk_77 (by decide) 6 (by decide) (by rw [gm_77]; decide) gr_77_6 lk36 dX4_read_132 ?_
        refine lv_if_le (tgt := 148) hx hb dX4_read_135 (by decide) (fun c_135 => ?_) (fun c_135 => ?_)
        · replace HW := HW.1 c_135
          exact B148 h g _ _ _ HW hG (lv_sub hl [0] rfl)
        · replace HW := HW.2 c_135
          exact B138 x1 h g _ _ _ HW hG (lv_sub hl [0, 1] rfl)
  have B110 : ∀ (K43 : Int32 → Int32 → HI → HL → Prop) (hK43 : ∀ (x1 : Int32) (x2 : Int32) (h : HI) (g : HL) (H : Heap) (locs : List Loc) (ls : Array Slot), K43 x1 x2 h g → gG D cy ad (gA ad s.heap.size) s.heap h g H locs → lv_has ls 4 [(0, .ref (ad 77)), (1, .int x1), (2, .int x2)] → W p l e ({ frames := 4, cells := 0, slots := 0, locals := 87 } : Room) s m args below meth c H locs 0 0 (MQ below (va_Qv (fun (u : HI × HL) => Q u.1 u.2) (gB D cy ad s.heap.size) (gA ad s.heap.size)) args s 0 0 (gA ad s.heap.size)) (F0 m 43 ls [])) (x1 : Int32) (x2 : Int32) (h : HI) (g : HL) (H : Heap) (locs : List Loc) (ls : Array Slot), j_X4_read_110 Q K43 x1 x2 h g → gG D cy ad (gA ad s.heap.size) s.heap h g H locs → lv_has ls 4 [(0, .ref (ad 77)), (1, .int x1), (2, .int x2)] → W p l e ({ frames := 4, cells := 0, slots := 0, locals := 87 } : Room) s m args below meth c H locs 0 0 (MQ below (va_Qv (fun (u : HI × HL) => Q u.1 u.2) (gB D cy ad s.heap.size) (gA ad s.heap.size)) args s 0 0 (gA ad s.heap.size)) (F0 m 110 ls []) := by
    intro K43 hK43 x1 x2 h g H locs ls HW hG hl
    unfold j_X4_read_110 at HW
    obtain ⟨x2_110, ex2_110⟩ : ∃ y : Int32, y = (x2 + 1) := ⟨_, rfl⟩
    replace HW := HW x2_110 ex2_110
    refine lv_iinc (v := x2_110) (lv' := [(2, .int x2_110), (0, .ref (ad 77)), (1, .int x1)]) hx hb dX4_read_110 hl (k := 2) rfl (by rw [ex2_110]; rfl) (by decide) rfl (fun ls hl => ?_)
    refine lv_goto (tgt := 43) hx hb dX4_read_113 (by decide) ?_
    exact hK43 x1 x2_110 h g _ _ _ HW hG (lv_sub hl [1, 2, 0] rfl)
  have B93 : ∀ (K43 : Int32 → Int32 → HI → HL → Prop) (hK43 : ∀ (x1 : Int32) (x2 : Int32) (h : HI) (g : HL) (H : Heap) (locs : List Loc) (ls : Array Slot), K43 x1 x2 h g → gG D cy ad (gA ad s.heap.size) s.heap h g H locs → lv_has ls 4 [(0, .ref (ad 77)), (1, .int x1), (2, .int x2)] → W p l e ({ frames := 4, cells := 0, slots := 0, locals := 87 } : Room) s m args below meth c H locs 0 0 (MQ below (va_Qv (fun (u : HI × HL) => Q u.1 u.2) (gB D cy ad s.heap.size) (gA ad s.heap.size)) args s 0 0 (gA ad s.heap.size)) (F0 m 43 ls [])) (x1 : Int32) (x2 : Int32) (x3 : Int32) (h : HI) (g : HL) (H : Heap) (locs : List Loc) (ls : Array Slot), j_X4_read_93 Q K43 x1 x2 x3 h g → gG D cy ad (gA ad s.heap.size) s.heap h g H locs → lv_has ls 4 [(0, .ref (ad 77)), (1, .int x1), (2, .int x2), (3, .int x3)] → W p l e ({ frames := 4, cells := 0, slots := 0, locals := 87 } : Room) s m args below meth c H locs 0 0 (MQ below (va_Qv (fun (u : HI × HL) => Q u.1 u.2) (gB D cy ad s.heap.size) (gA ad s.heap.size)) args s 0 0 (gA ad s.heap.size)) (F0 m 93 ls []) := by
    intro K43 hK43 x1 x2 x3 h g H locs ls HW hG hl
    unfold j_X4_read_93 at HW
    refine lv_aload_n hx hb dX4_read_93 rfl (lv_at hl 0 rfl) ?_
    refine lv_iconst (v := 0) hx hb dX4_read_94 (by decide) ?_
    refine g_put hx hb hw inG4 tyX4 tyX4_ok nmX4 hown hK hG gl_77 rfl gk_77 (by decide) 7 (by decide) (by rw [gm_77]; decide) gr_77_7 rfl (ty := .int) (by decide +kernel) rfl rfl lk39 dX4_read_95 (fun H locs hG => ?_)
    obtain ⟨h_95, eh_95⟩ : ∃ y : HI, y = hu h 77 7 (0 : Int32) := ⟨_, rfl⟩
    rw [← eh_95] at hG
    replace HW := HW h_95 eh_95
    refine lv_iload_n hx hb dX4_read_98 rfl (lv_at hl 3 rfl) ?_
    refine lv_bipush (v := 32) hx hb dX4_read_99 (by decide) ?_
    refine lv_icmp_eq (tgt := 110) hx hb dX4_read_101 (by decide) (fun c_101 => ?_) (fun c_101 => ?_)
    · replace HW := HW.1 c_101
      exact B110 K43 hK43 x1 x2 h_95 g _ _ _ HW hG (lv_sub hl [0, 1, 2] rfl)
    · replace HW := HW.2 c_101
      refine lv_aload_n hx hb dX4_read_104 rfl (lv_at hl 0 rfl) ?_
      refine lv_iload_n hx hb dX4_read_105 rfl (lv_at hl 3 rfl) ?_
      refine lv_iload_n hx hb dX4_read_106 rfl (lv_at hl 2 rfl) ?_
      obtain ⟨P_107, HC_107, HW⟩ := HW
      refine g_callv (g_runV (As := [.int x3, .int x2]) (rest := []) ⟨hx, hb, hml, hown, hts⟩ (m_X4_readSign l D cy ad h_95 g H.size x3 x2 P_107 HC_107) (cwV 2 hts (gd_V (wm2 232 rfl rfl) (wm2 234 rfl rfl) (wmp1 (q := (yX4_readSign, 10)) 2 rfl) (wm1 4 rfl rfl) (wm2 235 rfl rfl)) rfl rfl rfl (by decide +kernel) ⟨Nat.le_of_ble_eq_true rfl, Nat.le_of_ble_eq_true rfl⟩) hK hNw hG gl_77 rfl gk_77 (by decide) rfl rfl hl.1 rfl (lv_room (Nat.le_of_ble_eq_true rfl)) dX4_read_107 ⟨Nat.zero_le _, Nat.zero_le _⟩) hG (fun h_107 g_107 H locs hq hG => ?_)
      replace HW := HW h_107 g_107 hq
      exact B110 K43 hK43 x1 x2 h_107 g_107 _ _ _ HW hG (lv_sub hl [0, 1, 2] rfl)
  have L43 : ∀ (n : Nat) (x1 : Int32) (x2 : Int32) (h : HI) (g : HL) (H : Heap) (locs : List Loc) (ls : Array Slot), lpN (F_X4_read_43 Q) n (x1, x2, h, g) → gG D cy ad (gA ad s.heap.size) s.heap h g H locs → lv_has ls 4 [(0, .ref (ad 77)), (1, .int x1), (2, .int x2)] → W p l e ({ frames := 4, cells := 0, slots := 0, locals := 87 } : Room) s m args below meth c H locs 0 0 (MQ below (va_Qv (fun (u : HI × HL) => Q u.1 u.2) (gB D cy ad s.heap.size) (gA ad s.heap.size)) args s 0 0 (gA ad s.heap.size)) (F0 m 43 ls []) := by
    intro n
    induction n with
    | zero => intro x1 x2 h g H locs ls HW; exact HW.elim
    | succ n ih =>
      intro x1 x2 h g H locs ls HW hG hl
      have HW : b_X4_read_43 Q (fun x1 x2 h g => lpN (F_X4_read_43 Q) n (x1, x2, h, g)) x1 x2 h g := HW
      generalize hKe : (fun (x1 : Int32) (x2 : Int32) (h : HI) (g : HL) => lpN (F_X4_read_43 Q) n (x1, x2, h, g)) = K43 at HW
      have hK43 : ∀ (x1 : Int32) (x2 : Int32) (h : HI) (g : HL) (H : Heap) (locs : List Loc) (ls : Array Slot), K43 x1 x2 h g → gG D cy ad (gA ad s.heap.size) s.heap h g H locs → lv_has ls 4 [(0, .ref (ad 77)), (1, .int x1), (2, .int x2)] → W p l e ({ frames := 4, cells := 0, slots := 0, locals := 87 } : Room) s m args below meth c H locs 0 0 (MQ below (va_Qv (fun (u : HI × HL) => Q u.1 u.2) (gB D cy ad s.heap.size) (gA ad s.heap.size)) args s 0 0 (gA ad s.heap.size)) (F0 m 43 ls []) := by subst hKe; exact ih
      clear ih
      clear hKe
      unfold b_X4_read_43 at HW
      refine lv_iload_n hx hb dX4_read_43 rfl (lv_at hl 2 rfl) ?_
      refine lv_iload_n hx hb dX4_read_44 rfl (lv_at hl 1 rfl) ?_
      refine lv_icmp_ge (tgt := 116) hx hb dX4_read_45 (by decide) (fun c_45 => ?_) (fun c_45 => ?_)
      · replace HW := HW.1 c_45
        exact B116 x1 h g _ _ _ HW hG (lv_sub hl [0, 1] rfl)
      · replace HW := HW.2 c_45
        refine lv_aload_n hx hb dX4_read_48 rfl (lv_at hl 0 rfl) ?_
        refine g_geti hx hb hw inG4 hown hK hG gl_77 rfl gk_77 (by decide) 9 (by decide) (by rw [gm_77]; decide) gr_77_9 lk26 dX4_read_49 ?_
        refine lv_iconst (v := (-1)) hx hb dX4_read_52 (by decide) ?_
        refine lv_icmp_ne (tgt := 116) hx hb dX4_read_53 (by decide) (fun c_53 => ?_) (fun c_53 => ?_)
        · replace HW := HW.1 c_53
          exact B116 x1 h g _ _ _ HW hG (lv_sub hl [0, 1] rfl)
        · replace HW := HW.2 c_53
          refine lv_aload_n hx hb dX4_read_56 rfl (lv_at hl 0 rfl) ?_
          refine g_getr hx hb hw inG4 hown hK hG gl_77 rfl gk_77 (by decide) 0 (by decide) (by rw [gm_77]; decide) (r := 1) gr_77_0 lk22 dX4_read_57 ?_
          refine g_getr hx hb hw inG6 hown hK hG gl_1 rfl gk_1 (by decide) 11 (by decide) (by rw [gm_1]; decide) (r := 24) gr_1_11 lk46 dX4_read_60 ?_
          refine lv_iload_n hx hb dX4_read_63 rfl (lv_at hl 2 rfl) ?_
          refine lv_iconst (v := 0) hx hb dX4_read_64 (by decide) ?_
          obtain ⟨P_65, HC_65, HW⟩ := HW
          refine g_calli (g_runV (As := [.int x2, .int (0 : Int32)]) (rest := []) ⟨hx, hb, hml, hown, hts⟩ (m_X8_at l D cy ad h g H.size 24 (gs_24) x2 (0 : Int32) P_65 HC_65) (cwV 2 hts (gd_V (wm2 220 rfl rfl) (wm2 221 rfl rfl) (wm2 222 rfl rfl) (wm1 3 rfl rfl) (wm2 223 rfl rfl)) rfl rfl rfl (by decide +kernel) ⟨Nat.le_of_ble_eq_true rfl, Nat.le_of_ble_eq_true rfl⟩) hK hNw hG gl_24 rfl gk_24 (by decide) rfl rfl hl.1 rfl (lv_room (Nat.le_of_ble_eq_true rfl)) dX4_read_65 ⟨Nat.zero_le _, Nat.zero_le _⟩) hG (fun r_65 h_65 g_65 H locs hq hG => ?_)
          replace HW := HW r_65 h_65 g_65 hq
          refine lv_istore_n (lv' := [(3, .int r_65), (0, .ref (ad 77)), (1, .int x1), (2, .int x2)]) hx hb dX4_read_68 rfl hl (by decide) rfl (fun ls hl => ?_)
          refine lv_bipush (v := 48) hx hb dX4_read_69 (by decide) ?_
          refine lv_iload_n hx hb dX4_read_71 rfl (lv_at hl 0 rfl) ?_
          refine lv_icmp_gt (tgt := 93) hx hb dX4_read_72 (by decide) (fun c_72 => ?_) (fun c_72 => ?_)
          · replace HW := HW.1 c_72
            exact B93 K43 hK43 x1 x2 r_65 h_65 g_65 _ _ _ HW hG (lv_sub hl [1, 2, 3, 0] rfl)
          · replace HW := HW.2 c_72
            refine lv_iload_n hx hb dX4_read_75 rfl (lv_at hl 0 rfl) ?_
            refine lv_bipush (v := 57) hx hb dX4_read_76 (by decide) ?_
            refine lv_icmp_gt (tgt := 93) hx hb dX4_read_78 (by decide) (fun c_78 => ?_) (fun c_78 => ?_)
            · replace HW := HW.1 c_78
              exact B93 K43 hK43 x1 x2 r_65 h_65 g_65 _ _ _ HW hG (lv_sub hl [1, 2, 3, 0] rfl)
            · replace HW := HW.2 c_78
              refine lv_aload_n hx hb dX4_read_81 rfl (lv_at hl 1 rfl) ?_
              refine lv_iload_n hx hb dX4_read_82 rfl (lv_at hl 0 rfl) ?_
              refine lv_bipush (v := 48) hx hb dX4_read_83 (by decide) ?_
              refine lv_isub hx hb dX4_read_85 ?_
              refine lv_iload_n hx hb dX4_read_86 rfl (lv_at hl 3 rfl) ?_
              obtain ⟨P_87, HC_87, HW⟩ := HW
              refine g_callv (g_runV (As := [.int (r_65 - (48 : Int32)), .int x2]) (rest := []) ⟨hx, hb, hml, hown, hts⟩ (m_X4_readDigit l D cy ad h_65 g_65 H.size (r_65 - (48 : Int32)) x2 P_87 HC_87) (cwV 2 hts (gd_V (wm2 224 rfl rfl) (wm2 226 rfl rfl) (wmp1 (q := (yX4_readDigit, 10)) 0 rfl) (wm1 4 rfl rfl) (wm2 227 rfl rfl)) rfl rfl rfl (by decide +kernel) ⟨Nat.le_of_ble_eq_true rfl, Nat.le_of_ble_eq_true rfl⟩) hK hNw hG gl_77 rfl gk_77 (by decide) rfl rfl hl.1 rfl (lv_room (Nat.le_of_ble_eq_true rfl)) dX4_read_87 ⟨Nat.zero_le _, Nat.zero_le _⟩) hG (fun h_87 g_87 H locs hq hG => ?_)
              replace HW := HW h_87 g_87 hq
              refine lv_goto (tgt := 110) hx hb dX4_read_90 (by decide) ?_
              exact B110 K43 hK43 x1 x2 h_87 g_87 _ _ _ HW hG (lv_sub hl [1, 2, 3] rfl)
  have E0 : ∀ (H : Heap) (locs : List Loc) (ls : Array Slot), gG D cy ad (gA ad s.heap.size) s.heap h g H locs → lv_has ls 4 [(0, .ref (ad 77))] → W p l e ({ frames := 4, cells := 0, slots := 0, locals := 87 } : Room) s m args below meth c H locs 0 0 (MQ below (va_Qv (fun (u : HI × HL) => Q u.1 u.2) (gB D cy ad s.heap.size) (gA ad s.heap.size)) args s 0 0 (gA ad s.heap.size)) (F0 m 0 ls []) := by
    intro H locs ls hG hl
    unfold w_X4_read at HW
    refine lv_aload_n hx hb dX4_read_0 rfl (lv_at hl 0 rfl) ?_
    refine lv_iconst (v := 0) hx hb dX4_read_1 (by decide) ?_
    refine g_put hx hb hw inG4 tyX4 tyX4_ok nmX4 hown hK hG gl_77 rfl gk_77 (by decide) 4 (by decide) (by rw [gm_77]; decide) gr_77_4 rfl (ty := .int) (by decide +kernel) rfl rfl lk30 dX4_read_2 (fun H locs hG => ?_)
    obtain ⟨h_2, eh_2⟩ : ∃ y : HI, y = hu h 77 4 (0 : Int32) := ⟨_, rfl⟩
    rw [← eh_2] at hG
    replace HW := HW h_2 eh_2
    refine lv_aload_n hx hb dX4_read_5 rfl (lv_at hl 0 rfl) ?_
    refine lv_iconst (v := 0) hx hb dX4_read_6 (by decide) ?_
    refine g_put hx hb hw inG4 tyX4 tyX4_ok nmX4 hown hK hG gl_77 rfl gk_77 (by decide) 5 (by decide) (by rw [gm_77]; decide) gr_77_5 rfl (ty := .int) (by decide +kernel) rfl rfl lk33 dX4_read_7 (fun H locs hG => ?_)
    obtain ⟨h_7, eh_7⟩ : ∃ y : HI, y = hu h_2 77 5 (0 : Int32) := ⟨_, rfl⟩
    rw [← eh_7] at hG
    replace HW := HW h_7 eh_7
    refine lv_aload_n hx hb dX4_read_10 rfl (lv_at hl 0 rfl) ?_
    refine lv_iconst (v := 0) hx hb dX4_read_11 (by decide) ?_
    refine g_put hx hb hw inG4 tyX4 tyX4_ok nmX4 hown hK hG gl_77 rfl gk_77 (by decide) 6 (by decide) (by rw [gm_77]; decide) gr_77_6 rfl (ty := .int) (by decide +kernel) rfl rfl lk36 dX4_read_12 (fun H locs hG => ?_)
    obtain ⟨h_12, eh_12⟩ : ∃ y : HI, y = hu h_7 77 6 (0 : Int32) := ⟨_, rfl⟩
    rw [← eh_12] at hG
    replace HW := HW h_12 eh_12
    refine lv_aload_n hx hb dX4_read_15 rfl (lv_at hl 0 rfl) ?_
    refine lv_iconst (v := 0) hx hb dX4_read_16 (by decide) ?_
    refine g_put hx hb hw inG4 tyX4 tyX4_ok nmX4 hown hK hG gl_77 rfl gk_77 (by decide) 7 (by decide) (by rw [gm_77]; decide) gr_77_7 rfl (ty := .int) (by decide +kernel) rfl rfl lk39 dX4_read_17 (fun H locs hG => ?_)
    obtain ⟨h_17, eh_17⟩ : ∃ y : HI, y = hu h_12 77 7 (0 : Int32) := ⟨_, rfl⟩
    rw [← eh_17] at hG
    replace HW := HW h_17 eh_17
    refine lv_aload_n hx hb dX4_read_20 rfl (lv_at hl 0 rfl) ?_
    refine lv_iconst (v := 1) hx hb dX4_read_21 (by decide) ?_
    refine g_put hx hb hw inG4 tyX4 tyX4_ok nmX4 hown hK hG gl_77 rfl gk_77 (by decide) 8 (by decide) (by rw [gm_77]; decide) gr_77_8 rfl (ty := .boolean) (by decide +kernel) rfl rfl lk42 dX4_read_22 (fun H locs hG => ?_)
    obtain ⟨h_22, eh_22⟩ : ∃ y : HI, y = hu h_17 77 8 (1 : Int32) := ⟨_, rfl⟩
    rw [← eh_22] at hG
    replace HW := HW h_22 eh_22
    refine lv_aload_n hx hb dX4_read_25 rfl (lv_at hl 0 rfl) ?_
    refine lv_iconst (v := (-1)) hx hb dX4_read_26 (by decide) ?_
    refine g_put hx hb hw inG4 tyX4 tyX4_ok nmX4 hown hK hG gl_77 rfl gk_77 (by decide) 9 (by decide) (by rw [gm_77]; decide) gr_77_9 rfl (ty := .int) (by decide +kernel) rfl rfl lk26 dX4_read_27 (fun H locs hG => ?_)
    obtain ⟨h_27, eh_27⟩ : ∃ y : HI, y = hu h_22 77 9 (-1 : Int32) := ⟨_, rfl⟩
    rw [← eh_27] at hG
    replace HW := HW h_27 eh_27
    refine lv_aload_n hx hb dX4_read_30 rfl (lv_at hl 0 rfl) ?_
    refine g_getr hx hb hw inG4 hown hK hG gl_77 rfl gk_77 (by decide) 0 (by decide) (by rw [gm_77]; decide) (r := 1) gr_77_0 lk22 dX4_read_31 ?_
    refine g_getr hx hb hw inG6 hown hK hG gl_1 rfl gk_1 (by decide) 11 (by decide) (by rw [gm_1]; decide) (r := 24) gr_1_11 lk46 dX4_read_34 ?_
    obtain ⟨P_37, HC_37, HW⟩ := HW
    refine g_calli (g_runV (As := []) (rest := []) ⟨hx, hb, hml, hown, hts⟩ (m_X8_rows l D cy ad h_27 g H.size 24 (gs_24) P_37 HC_37) (cwV 0 hts (gd_V (wm2 216 rfl rfl) (wm2 217 rfl rfl) (wm2 218 rfl rfl) (wm1 3 rfl rfl) (wm2 219 rfl rfl)) rfl rfl rfl (by decide +kernel) ⟨Nat.le_of_ble_eq_true rfl, Nat.le_of_ble_eq_true rfl⟩) hK hNw hG gl_24 rfl gk_24 (by decide) rfl rfl hl.1 rfl (lv_room (Nat.le_of_ble_eq_true rfl)) dX4_read_37 ⟨Nat.zero_le _, Nat.zero_le _⟩) hG (fun r_37 h_37 g_37 H locs hq hG => ?_)
    replace HW := HW r_37 h_37 g_37 hq
    refine lv_istore_n (lv' := [(1, .int r_37), (0, .ref (ad 77))]) hx hb dX4_read_40 rfl hl (by decide) rfl (fun ls hl => ?_)
    refine lv_iconst (v := 0) hx hb dX4_read_41 (by decide) ?_
    refine lv_istore_n (lv' := [(2, .int (0 : Int32)), (1, .int r_37), (0, .ref (ad 77))]) hx hb dX4_read_42 rfl hl (by decide) rfl (fun ls hl => ?_)
    obtain ⟨n_43, HW⟩ := HW
    exact L43 n_43 r_37 (0 : Int32) h_37 g_37 _ _ _ HW hG (lv_sub hl [2, 1, 0] rfl)
  exact E0 _ _ _ hG hl

def w_X5_knows (x0 : Int32) (x1 : Int32) (x2 : Int32) (h : HI) (g : HL) (Q : Int32 → HI → HL → Prop) : Prop :=
  ((¬ ((x0 >>> ((((4 : Int32) * x1) + x2) &&& 31)) &&& (1 : Int32)) = (1 : Int32) → Q (0 : Int32) h g) ∧ (((x0 >>> ((((4 : Int32) * x1) + x2) &&& 31)) &&& (1 : Int32)) = (1 : Int32) → Q (1 : Int32) h g))
set_option maxHeartbeats 8000000 in
set_option maxRecDepth 100000 in
theorem m_X5_knows (l : Launch) (D : va_G) (cy : Nat → ClassId) (ad : Nat → Nat) (h : HI) (g : HL) (sz : Nat) (x0 : Int32) (x1 : Int32) (x2 : Int32) (Q : Int32 → HI → HL → Prop) (HW : w_X5_knows x0 x1 x2 h g Q) : Met l yX5_knows (wa yX5_knows cX5_knows 3 (some .boolean)) ({ frames := 0, cells := 0, slots := 0, locals := 0 }) (va_Pc [.int x0, .int x1, .int x2] (gI D cy ad h g sz)) (va_Qi (fun (r : Int32) (u : HI × HL) => zb r ∧ Q r u.1 u.2) (gB D cy ad sz) (gA ad sz)) 0 0 (gA ad sz) := by
  refine Met.ofW (cc := cX5_knows) (maxL := 3) (ret := (some .boolean)) (by decide) rfl ?_
  intro p e s m args below meth c s₁ B hml hv
  obtain ⟨hav, hsz, hP, hK, hD0, hNw⟩ := hv
  have hx := B.exec
  have hb := B.bytes
  have hr := B.returns
  have hts := atoms_spec (ws := (wa yX5_knows cX5_knows 3 (some .boolean))) B.pre
  have hw := wa_hw hts
  have hown : s.vm.findClass RX5 = some m.cls := findClass_of_methodNamed B.named
  have hlocks := B.notSynchronized
  subst hsz
  have hG : gG D cy ad (gA ad s.heap.size) s.heap h g s.heap [] := ⟨hP, gA_self hD0, va_S.rf⟩
  clear hP hD0
  rw [show (headSpec (wa yX5_knows cX5_knows 3 (some .boolean)) ({ frames := 0, cells := 0, slots := 0, locals := 0 } : Room)).room = ({ frames := 0, cells := 0, slots := 0, locals := 0 } : Room) from rfl]
  have hl := lv_entry ([.int x0, .int x1, .int x2]) (n := 3) (Nat.le_of_ble_eq_true rfl)
  rw [show entryFrame m args 3 = entryFrame m ([.int x0, .int x1, .int x2] : List Value).toArray 3 from by rw [hav], lg_entry_eq]
  generalize (lg_sl ([.int x0, .int x1, .int x2]) ++ List.replicate (3 - (lg_sl ([.int x0, .int x1, .int x2])).length) Slot.unset).toArray = ls at hl ⊢
  have hl : lv_has ls 3 [(0, .int x0), (1, .int x1), (2, .int x2)] := hl
  have E0 : ∀ (H : Heap) (locs : List Loc) (ls : Array Slot), gG D cy ad (gA ad s.heap.size) s.heap h g H locs → lv_has ls 3 [(0, .int x0), (1, .int x1), (2, .int x2)] → W p l e ({ frames := 0, cells := 0, slots := 0, locals := 0 } : Room) s m args below meth c H locs 0 0 (MQ below (va_Qi (fun (r : Int32) (u : HI × HL) => zb r ∧ Q r u.1 u.2) (gB D cy ad s.heap.size) (gA ad s.heap.size)) args s 0 0 (gA ad s.heap.size)) (F0 m 0 ls []) := by
    intro H locs ls hG hl
    unfold w_X5_knows at HW
    refine lv_iload_n hx hb dX5_knows_0 rfl (lv_at hl 0 rfl) ?_
    refine lv_iconst (v := 4) hx hb dX5_knows_1 (by decide) ?_
    refine lv_iload_n hx hb dX5_knows_2 rfl (lv_at hl 1 rfl) ?_
    refine lv_imul hx hb dX5_knows_3 ?_
    refine lv_iload_n hx hb dX5_knows_4 rfl (lv_at hl 2 rfl) ?_
    refine lv_iadd hx hb dX5_knows_5 ?_
    refine lv_ishr hx hb dX5_knows_6 ?_
    refine lv_iconst (v := 1) hx hb dX5_knows_7 (by decide) ?_
    refine lv_iand hx hb dX5_knows_8 ?_
    refine lv_iconst (v := 1) hx hb dX5_knows_9 (by decide) ?_
    refine lv_icmp_ne (tgt := 17) hx hb dX5_knows_10 (by decide) (fun c_10 => ?_) (fun c_10 => ?_)
    · replace HW := HW.1 c_10
      refine lv_iconst (v := 0) hx hb dX5_knows_17 (by decide) ?_
      exact W.zret (v := (0 : Int32)) hx hb hr rfl (fun t ht hW => ⟨⟨(0 : Int32), (h, g), rfl, ⟨Or.inl rfl, HW⟩, g_B ht hG⟩, hG.2.2.F ht⟩) hG.2.2.2.2 dX5_knows_18
    · replace HW := HW.2 c_10
      refine lv_iconst (v := 1) hx hb dX5_knows_13 (by decide) ?_
      refine lv_goto (tgt := 18) hx hb dX5_knows_14 (by decide) ?_
      exact W.zret (v := (1 : Int32)) hx hb hr rfl (fun t ht hW => ⟨⟨(1 : Int32), (h, g), rfl, ⟨Or.inr rfl, HW⟩, g_B ht hG⟩, hG.2.2.F ht⟩) hG.2.2.2.2 dX5_knows_18
  exact E0 _ _ _ hG hl
