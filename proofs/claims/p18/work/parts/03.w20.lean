def j_X11_sets_24 (Q : HI → HL → Prop) (s1 : Int32) (s2 : Int32) (h : HI) (g : HL) : Prop :=
  (vp_in s1 5 ∧ ∀ h_24 : HI, h_24 = hu h 147 s1.toNatClampNeg s2 → Q h_24 g)
def w_X11_sets (x1 : Int32) (x2 : Int32) (h : HI) (g : HL) (Q : HI → HL → Prop) : Prop :=
  (vp_in ((80 : Int32) * x1) 400 ∧ ∀ h_9 : HI, h_9 = hu h 146 ((80 : Int32) * x1).toNatClampNeg x2 → ((¬ x2 = 0 → j_X11_sets_24 Q x1 (1 : Int32) h_9 g) ∧ (x2 = 0 → j_X11_sets_24 Q x1 (0 : Int32) h_9 g)))
set_option maxHeartbeats 8000000 in
set_option maxRecDepth 100000 in
theorem m_X11_sets (l : Launch) (D : va_G) (cy : Nat → ClassId) (ad : Nat → Nat) (h : HI) (g : HL) (sz : Nat) (x1 : Int32) (x2 : Int32) (Q : HI → HL → Prop) (HW : w_X11_sets x1 x2 h g Q) : Met l yX11_sets (wa yX11_sets cX11_sets 3 none) ({ frames := 0, cells := 0, slots := 0, locals := 0 }) (va_Pc [.ref (ad 135), .int x1, .int x2] (gI D cy ad h g sz)) (va_Qv (fun (u : HI × HL) => Q u.1 u.2) (gB D cy ad sz) (gA ad sz)) 0 0 (gA ad sz) := by
  refine Met.ofW (cc := cX11_sets) (maxL := 3) (ret := none) (by decide) rfl ?_
  intro p e s m args below meth c s₁ B hml hv
  obtain ⟨hav, hsz, hP, hK, hD0, hNw⟩ := hv
  have hx := B.exec
  have hb := B.bytes
  have hr := B.returns
  have hts := atoms_spec (ws := (wa yX11_sets cX11_sets 3 none)) B.pre
  have hw := wa_hw hts
  have hown : s.vm.findClass RX11 = some m.cls := findClass_of_methodNamed B.named
  have hlocks := B.notSynchronized
  subst hsz
  have hG : gG D cy ad (gA ad s.heap.size) s.heap h g s.heap [] := ⟨hP, gA_self hD0, va_S.rf⟩
  clear hP hD0
  have lk42 := hw (.fieldLink RX11 42 "OldWorksModel" "limbs" "[I") (wm5 50 rfl rfl)
  have lk45 := hw (.fieldLink RX11 45 "OldWorksModel" "wide" "[I") (wm5 51 rfl rfl)
  rw [show (headSpec (wa yX11_sets cX11_sets 3 none) ({ frames := 0, cells := 0, slots := 0, locals := 0 } : Room)).room = ({ frames := 0, cells := 0, slots := 0, locals := 0 } : Room) from rfl]
  have hl := lv_entry ([.ref (ad 135), .int x1, .int x2]) (n := 3) (Nat.le_of_ble_eq_true rfl)
  rw [show entryFrame m args 3 = entryFrame m ([.ref (ad 135), .int x1, .int x2] : List Value).toArray 3 from by rw [hav], lg_entry_eq]
  generalize (lg_sl ([.ref (ad 135), .int x1, .int x2]) ++ List.replicate (3 - (lg_sl ([.ref (ad 135), .int x1, .int x2])).length) Slot.unset).toArray = ls at hl ⊢
  have hl : lv_has ls 3 [(0, .ref (ad 135)), (1, .int x1), (2, .int x2)] := hl
  have B24 : ∀ (s1 : Int32) (s2 : Int32) (h : HI) (g : HL) (H : Heap) (locs : List Loc) (ls : Array Slot), j_X11_sets_24 Q s1 s2 h g → gG D cy ad (gA ad s.heap.size) s.heap h g H locs → lv_has ls 3 [] → W p l e ({ frames := 0, cells := 0, slots := 0, locals := 0 } : Room) s m args below meth c H locs 0 0 (MQ below (va_Qv (fun (u : HI × HL) => Q u.1 u.2) (gB D cy ad s.heap.size) (gA ad s.heap.size)) args s 0 0 (gA ad s.heap.size)) (F0 m 24 ls [.int s2, .int s1, .ref (ad 147)]) := by
    intro s1 s2 h g H locs ls HW hG hl
    unfold j_X11_sets_24 at HW
    refine g_iast hx hb hK hG gl_147 gk_147 gn_147 HW.1 dX11_sets_24 (fun H locs hG => ?_)
    replace HW := HW.2
    obtain ⟨h_24, eh_24⟩ : ∃ y : HI, y = hu h 147 s1.toNatClampNeg s2 := ⟨_, rfl⟩
    rw [← eh_24] at hG
    replace HW := HW h_24 eh_24
    exact W.vret hx hb hr (fun t ht hW => ⟨⟨(h_24, g), rfl, HW, g_B ht hG⟩, hG.2.2.F ht⟩) hG.2.2.2.2 dX11_sets_25
  have E0 : ∀ (H : Heap) (locs : List Loc) (ls : Array Slot), gG D cy ad (gA ad s.heap.size) s.heap h g H locs → lv_has ls 3 [(0, .ref (ad 135)), (1, .int x1), (2, .int x2)] → W p l e ({ frames := 0, cells := 0, slots := 0, locals := 0 } : Room) s m args below meth c H locs 0 0 (MQ below (va_Qv (fun (u : HI × HL) => Q u.1 u.2) (gB D cy ad s.heap.size) (gA ad s.heap.size)) args s 0 0 (gA ad s.heap.size)) (F0 m 0 ls []) := by
    intro H locs ls hG hl
    unfold w_X11_sets at HW
    refine lv_aload_n hx hb dX11_sets_0 rfl (lv_at hl 0 rfl) ?_
    refine g_getr hx hb hw inG11 hown hK hG gl_135 rfl gk_135 (by decide) 23 (by decide) (by rw [gm_135]; decide) (r := 146) gr_135_23 lk42 dX11_sets_1 ?_
    refine lv_bipush (v := 80) hx hb dX11_sets_4 (by decide) ?_
    refine lv_iload_n hx hb dX11_sets_6 rfl (lv_at hl 1 rfl) ?_
    refine lv_imul hx hb dX11_sets_7 ?_
    refine lv_iload_n hx hb dX11_sets_8 rfl (lv_at hl 2 rfl) ?_
    refine g_iast hx hb hK hG gl_146 gk_146 gn_146 HW.1 dX11_sets_9 (fun H locs hG => ?_)
    replace HW := HW.2
    obtain ⟨h_9, eh_9⟩ : ∃ y : HI, y = hu h 146 ((80 : Int32) * x1).toNatClampNeg x2 := ⟨_, rfl⟩
    rw [← eh_9] at hG
    replace HW := HW h_9 eh_9
    refine lv_aload_n hx hb dX11_sets_10 rfl (lv_at hl 0 rfl) ?_
    refine g_getr hx hb hw inG11 hown hK hG gl_135 rfl gk_135 (by decide) 24 (by decide) (by rw [gm_135]; decide) (r := 147) gr_135_24 lk45 dX11_sets_11 ?_
    refine lv_iload_n hx hb dX11_sets_14 rfl (lv_at hl 1 rfl) ?_
    refine lv_iload_n hx hb dX11_sets_15 rfl (lv_at hl 2 rfl) ?_
    refine lv_if_ne (tgt := 23) hx hb dX11_sets_16 (by decide) (fun c_16 => ?_) (fun c_16 => ?_)
    · replace HW := HW.1 c_16
      refine lv_iconst (v := 1) hx hb dX11_sets_23 (by decide) ?_
      exact B24 x1 (1 : Int32) h_9 g _ _ _ HW hG (lv_sub hl [] rfl)
    · replace HW := HW.2 c_16
      refine lv_iconst (v := 0) hx hb dX11_sets_19 (by decide) ?_
      refine lv_goto (tgt := 24) hx hb dX11_sets_20 (by decide) ?_
      exact B24 x1 (0 : Int32) h_9 g _ _ _ HW hG (lv_sub hl [] rfl)
  exact E0 _ _ _ hG hl

def b_X11_times_102 (Q : HI → HL → Prop) (K102 : Int32 → HI → HL → Prop) (x1 : Int32) (h : HI) (g : HL) : Prop :=
  (vp_in x1 5 ∧ (((h 147 x1.toNatClampNeg) ≤ 0 → Q h g) ∧ (¬ (h 147 x1.toNatClampNeg) ≤ 0 → (vp_in x1 5 ∧ (vp_in ((((80 : Int32) * x1) + (h 147 x1.toNatClampNeg)) - (1 : Int32)) 400 ∧ ((¬ (h 146 ((((80 : Int32) * x1) + (h 147 x1.toNatClampNeg)) - (1 : Int32)).toNatClampNeg) = 0 → Q h g) ∧ ((h 146 ((((80 : Int32) * x1) + (h 147 x1.toNatClampNeg)) - (1 : Int32)).toNatClampNeg) = 0 → (vp_in x1 5 ∧ (vp_in x1 5 ∧ ∀ h_141 : HI, h_141 = hu h 147 x1.toNatClampNeg ((h 147 x1.toNatClampNeg) - (1 : Int32)) → K102 x1 h_141 g)))))))))
def F_X11_times_102 (Q : HI → HL → Prop) (K : Int32 × HI × HL → Prop) (q : Int32 × HI × HL) : Prop := b_X11_times_102 Q (fun x1 h g => K (x1, h, g)) q.1 q.2.1 q.2.2
def b_X11_times_5 (Q : HI → HL → Prop) (K5 : Int32 → Int32 → Int64 → Int32 → HI → HL → Prop) (x1 : Int32) (x2 : Int32) (x3 : Int64) (x5 : Int32) (h : HI) (g : HL) : Prop :=
  (vp_in x1 5 ∧ (((h 147 x1.toNatClampNeg) ≤ x5 → (((lg_cmp x3 (0 : Int64)) ≤ 0 → lpE (F_X11_times_102 Q) (x1, h, g)) ∧ (¬ (lg_cmp x3 (0 : Int64)) ≤ 0 → (vp_in x1 5 ∧ (vp_in (((80 : Int32) * x1) + (h 147 x1.toNatClampNeg)) 400 ∧ ∀ h_91 : HI, h_91 = hu h 146 (((80 : Int32) * x1) + (h 147 x1.toNatClampNeg)).toNatClampNeg ((x3).toInt32) → (vp_in x1 5 ∧ (vp_in x1 5 ∧ ∀ h_101 : HI, h_101 = hu h_91 147 x1.toNatClampNeg ((h_91 147 x1.toNatClampNeg) + (1 : Int32)) → lpE (F_X11_times_102 Q) (x1, h_101, g)))))))) ∧ (¬ (h 147 x1.toNatClampNeg) ≤ x5 → (vp_in (((80 : Int32) * x1) + x5) 400 ∧ (∀ x6_34 : Int64, x6_34 = (((((h 146 (((80 : Int32) * x1) + x5).toNatClampNeg)).toInt64) * ((x2).toInt64)) + x3) → (vp_in (((80 : Int32) * x1) + x5) 400 ∧ ∀ h_54 : HI, h_54 = hu h 146 (((80 : Int32) * x1) + x5).toNatClampNeg (((x6_34 - x6_34 / (1073741824 : Int64) * (1073741824 : Int64))).toInt32) → (∀ x3_61 : Int64, x3_61 = (x6_34 / (1073741824 : Int64)) → (∀ x5_62 : Int32, x5_62 = (x5 + 1) → K5 x1 x2 x3_61 x5_62 h_54 g))))))))
def F_X11_times_5 (Q : HI → HL → Prop) (K : Int32 × Int32 × Int64 × Int32 × HI × HL → Prop) (q : Int32 × Int32 × Int64 × Int32 × HI × HL) : Prop := b_X11_times_5 Q (fun x1 x2 x3 x5 h g => K (x1, x2, x3, x5, h, g)) q.1 q.2.1 q.2.2.1 q.2.2.2.1 q.2.2.2.2.1 q.2.2.2.2.2
def w_X11_times (x1 : Int32) (x2 : Int32) (h : HI) (g : HL) (Q : HI → HL → Prop) : Prop :=
  lpE (F_X11_times_5 Q) (x1, x2, (0 : Int64), (0 : Int32), h, g)
set_option maxHeartbeats 8000000 in
set_option maxRecDepth 100000 in
theorem m_X11_times (l : Launch) (D : va_G) (cy : Nat → ClassId) (ad : Nat → Nat) (h : HI) (g : HL) (sz : Nat) (x1 : Int32) (x2 : Int32) (Q : HI → HL → Prop) (HW : w_X11_times x1 x2 h g Q) : Met l yX11_times (wa yX11_times cX11_times 8 none) ({ frames := 0, cells := 0, slots := 0, locals := 0 }) (va_Pc [.ref (ad 135), .int x1, .int x2] (gI D cy ad h g sz)) (va_Qv (fun (u : HI × HL) => Q u.1 u.2) (gB D cy ad sz) (gA ad sz)) 0 0 (gA ad sz) := by
  refine Met.ofW (cc := cX11_times) (maxL := 8) (ret := none) (by decide) rfl ?_
  intro p e s m args below meth c s₁ B hml hv
  obtain ⟨hav, hsz, hP, hK, hD0, hNw⟩ := hv
  have hx := B.exec
  have hb := B.bytes
  have hr := B.returns
  have hts := atoms_spec (ws := (wa yX11_times cX11_times 8 none)) B.pre
  have hw := wa_hw hts
  have hown : s.vm.findClass RX11 = some m.cls := findClass_of_methodNamed B.named
  have hlocks := B.notSynchronized
  subst hsz
  have hG : gG D cy ad (gA ad s.heap.size) s.heap h g s.heap [] := ⟨hP, gA_self hD0, va_S.rf⟩
  clear hP hD0
  have lk45 := hw (.fieldLink RX11 45 "OldWorksModel" "wide" "[I") (wm5 51 rfl rfl)
  have lk42 := hw (.fieldLink RX11 42 "OldWorksModel" "limbs" "[I") (wm5 50 rfl rfl)
  have cn256 := hw (.constantLong RX11 256 (1073741824)) (wm6 145 rfl rfl)
  rw [show (headSpec (wa yX11_times cX11_times 8 none) ({ frames := 0, cells := 0, slots := 0, locals := 0 } : Room)).room = ({ frames := 0, cells := 0, slots := 0, locals := 0 } : Room) from rfl]
  have hl := lv_entry ([.ref (ad 135), .int x1, .int x2]) (n := 8) (Nat.le_of_ble_eq_true rfl)
  rw [show entryFrame m args 8 = entryFrame m ([.ref (ad 135), .int x1, .int x2] : List Value).toArray 8 from by rw [hav], lg_entry_eq]
  generalize (lg_sl ([.ref (ad 135), .int x1, .int x2]) ++ List.replicate (8 - (lg_sl ([.ref (ad 135), .int x1, .int x2])).length) Slot.unset).toArray = ls at hl ⊢
  have hl : lv_has ls 8 [(0, .ref (ad 135)), (1, .int x1), (2, .int x2)] := hl
  have L102 : ∀ (n : Nat) (x1 : Int32) (h : HI) (g : HL) (H : Heap) (locs : List Loc) (ls : Array Slot), lpN (F_X11_times_102 Q) n (x1, h, g) → gG D cy ad (gA ad s.heap.size) s.heap h g H locs → lv_has ls 8 [(0, .ref (ad 135)), (1, .int x1)] → W p l e ({ frames := 0, cells := 0, slots := 0, locals := 0 } : Room) s m args below meth c H locs 0 0 (MQ below (va_Qv (fun (u : HI × HL) => Q u.1 u.2) (gB D cy ad s.heap.size) (gA ad s.heap.size)) args s 0 0 (gA ad s.heap.size)) (F0 m 102 ls []) := by
    intro n
    induction n with
    | zero => intro x1 h g H locs ls HW; exact HW.elim
    | succ n ih =>
      intro x1 h g H locs ls HW hG hl
      have HW : b_X11_times_102 Q (fun x1 h g => lpN (F_X11_times_102 Q) n (x1, h, g)) x1 h g := HW
      generalize hKe : (fun (x1 : Int32) (h : HI) (g : HL) => lpN (F_X11_times_102 Q) n (x1, h, g)) = K102 at HW
      have hK102 : ∀ (x1 : Int32) (h : HI) (g : HL) (H : Heap) (locs : List Loc) (ls : Array Slot), K102 x1 h g → gG D cy ad (gA ad s.heap.size) s.heap h g H locs → lv_has ls 8 [(0, .ref (ad 135)), (1, .int x1)] → W p l e ({ frames := 0, cells := 0, slots := 0, locals := 0 } : Room) s m args below meth c H locs 0 0 (MQ below (va_Qv (fun (u : HI × HL) => Q u.1 u.2) (gB D cy ad s.heap.size) (gA ad s.heap.size)) args s 0 0 (gA ad s.heap.size)) (F0 m 102 ls []) := by subst hKe; exact ih
      clear ih
      clear hKe
      unfold b_X11_times_102 at HW
      refine lv_aload_n hx hb dX11_times_102 rfl (lv_at hl 0 rfl) ?_
      refine g_getr hx hb hw inG11 hown hK hG gl_135 rfl gk_135 (by decide) 24 (by decide) (by rw [gm_135]; decide) (r := 147) gr_135_24 lk45 dX11_times_103 ?_
      refine lv_iload_n hx hb dX11_times_106 rfl (lv_at hl 1 rfl) ?_
      refine g_iald hx hb hK hG gl_147 gk_147 gn_147 HW.1 dX11_times_107 ?_
      replace HW := HW.2
      refine lv_if_le (tgt := 145) hx hb dX11_times_108 (by decide) (fun c_108 => ?_) (fun c_108 => ?_)
      · replace HW := HW.1 c_108
        exact W.vret hx hb hr (fun t ht hW => ⟨⟨(h, g), rfl, HW, g_B ht hG⟩, hG.2.2.F ht⟩) hG.2.2.2.2 dX11_times_145
      · replace HW := HW.2 c_108
        refine lv_aload_n hx hb dX11_times_111 rfl (lv_at hl 0 rfl) ?_
        refine g_getr hx hb hw inG11 hown hK hG gl_135 rfl gk_135 (by decide) 23 (by decide) (by rw [gm_135]; decide) (r := 146) gr_135_23 lk42 dX11_times_112 ?_
        refine lv_bipush (v := 80) hx hb dX11_times_115 (by decide) ?_
        refine lv_iload_n hx hb dX11_times_117 rfl (lv_at hl 1 rfl) ?_
        refine lv_imul hx hb dX11_times_118 ?_
        refine lv_aload_n hx hb dX11_times_119 rfl (lv_at hl 0 rfl) ?_
        refine g_getr hx hb hw inG11 hown hK hG gl_135 rfl gk_135 (by decide) 24 (by decide) (by rw [gm_135]; decide) (r := 147) gr_135_24 lk45 dX11_times_120 ?_
        refine lv_iload_n hx hb dX11_times_123 rfl (lv_at hl 1 rfl) ?_
        refine g_iald hx hb hK hG gl_147 gk_147 gn_147 HW.1 dX11_times_124 ?_
        replace HW := HW.2
        refine lv_iadd hx hb dX11_times_125 ?_
        refine lv_iconst (v := 1) hx hb dX11_times_126 (by decide) ?_
        refine lv_isub hx hb dX11_times_127 ?_
        refine g_iald hx hb hK hG gl_146 gk_146 gn_146 HW.1 dX11_times_128 ?_
        replace HW := HW.2
        refine lv_if_ne (tgt := 145) hx hb dX11_times_129 (by decide) (fun c_129 => ?_) (fun c_129 => ?_)
        · replace HW := HW.1 c_129
          exact W.vret hx hb hr (fun t ht hW => ⟨⟨(h, g), rfl, HW, g_B ht hG⟩, hG.2.2.F ht⟩) hG.2.2.2.2 dX11_times_145
        · replace HW := HW.2 c_129
          refine lv_aload_n hx hb dX11_times_132 rfl (lv_at hl 0 rfl) ?_
          refine g_getr hx hb hw inG11 hown hK hG gl_135 rfl gk_135 (by decide) 24 (by decide) (by rw [gm_135]; decide) (r := 147) gr_135_24 lk45 dX11_times_133 ?_
          refine lv_iload_n hx hb dX11_times_136 rfl (lv_at hl 1 rfl) ?_
          refine lv_dup2_11 hx hb dX11_times_137 rfl rfl ?_
          refine g_iald hx hb hK hG gl_147 gk_147 gn_147 HW.1 dX11_times_138 ?_
          replace HW := HW.2
          refine lv_iconst (v := 1) hx hb dX11_times_139 (by decide) ?_
          refine lv_isub hx hb dX11_times_140 ?_
          refine g_iast hx hb hK hG gl_147 gk_147 gn_147 HW.1 dX11_times_141 (fun H locs hG => ?_)
          replace HW := HW.2
          obtain ⟨h_141, eh_141⟩ : ∃ y : HI, y = hu h 147 x1.toNatClampNeg ((h 147 x1.toNatClampNeg) - (1 : Int32)) := ⟨_, rfl⟩
          rw [← eh_141] at hG
          replace HW := HW h_141 eh_141
          refine lv_goto (tgt := 102) hx hb dX11_times_142 (by decide) ?_
          exact hK102 x1 h_141 g _ _ _ HW hG (lv_sub hl [0, 1] rfl)
  have L5 : ∀ (n : Nat) (x1 : Int32) (x2 : Int32) (x3 : Int64) (x5 : Int32) (h : HI) (g : HL) (H : Heap) (locs : List Loc) (ls : Array Slot), lpN (F_X11_times_5 Q) n (x1, x2, x3, x5, h, g) → gG D cy ad (gA ad s.heap.size) s.heap h g H locs → lv_has ls 8 [(0, .ref (ad 135)), (1, .int x1), (2, .int x2), (3, .long x3), (5, .int x5)] → W p l e ({ frames := 0, cells := 0, slots := 0, locals := 0 } : Room) s m args below meth c H locs 0 0 (MQ below (va_Qv (fun (u : HI × HL) => Q u.1 u.2) (gB D cy ad s.heap.size) (gA ad s.heap.size)) args s 0 0 (gA ad s.heap.size)) (F0 m 5 ls []) := by
    intro n
    induction n with
    | zero => intro x1 x2 x3 x5 h g H locs ls HW; exact HW.elim
    | succ n ih =>
      intro x1 x2 x3 x5 h g H locs ls HW hG hl
      have HW : b_X11_times_5 Q (fun x1 x2 x3 x5 h g => lpN (F_X11_times_5 Q) n (x1, x2, x3, x5, h, g)) x1 x2 x3 x5 h g := HW
      generalize hKe : (fun (x1 : Int32) (x2 : Int32) (x3 : Int64) (x5 : Int32) (h : HI) (g : HL) => lpN (F_X11_times_5 Q) n (x1, x2, x3, x5, h, g)) = K5 at HW
      have hK5 : ∀ (x1 : Int32) (x2 : Int32) (x3 : Int64) (x5 : Int32) (h : HI) (g : HL) (H : Heap) (locs : List Loc) (ls : Array Slot), K5 x1 x2 x3 x5 h g → gG D cy ad (gA ad s.heap.size) s.heap h g H locs → lv_has ls 8 [(0, .ref (ad 135)), (1, .int x1), (2, .int x2), (3, .long x3), (5, .int x5)] → W p l e ({ frames := 0, cells := 0, slots := 0, locals := 0 } : Room) s m args below meth c H locs 0 0 (MQ below (va_Qv (fun (u : HI × HL) => Q u.1 u.2) (gB D cy ad s.heap.size) (gA ad s.heap.size)) args s 0 0 (gA ad s.heap.size)) (F0 m 5 ls []) := by subst hKe; exact ih
      clear ih
      clear hKe
      unfold b_X11_times_5 at HW
      refine lv_iload hx hb dX11_times_5 (lv_at hl 4 rfl) ?_
      refine lv_aload_n hx hb dX11_times_7 rfl (lv_at hl 0 rfl) ?_
      refine g_getr hx hb hw inG11 hown hK hG gl_135 rfl gk_135 (by decide) 24 (by decide) (by rw [gm_135]; decide) (r := 147) gr_135_24 lk45 dX11_times_8 ?_
      refine lv_iload_n hx hb dX11_times_11 rfl (lv_at hl 1 rfl) ?_
      refine g_iald hx hb hK hG gl_147 gk_147 gn_147 HW.1 dX11_times_12 ?_
      replace HW := HW.2
      refine lv_icmp_ge (tgt := 68) hx hb dX11_times_13 (by decide) (fun c_13 => ?_) (fun c_13 => ?_)
      · replace HW := HW.1 c_13
        refine lv_lload_n hx hb dX11_times_68 rfl (lv_at hl 3 rfl) ?_
        refine lv_lconst (v := 0) hx hb dX11_times_69 (by decide) ?_
        refine W.lcmp hx hb dX11_times_70 ?_
        refine lv_if_le (tgt := 102) hx hb dX11_times_71 (by decide) (fun c_71 => ?_) (fun c_71 => ?_)
        · replace HW := HW.1 c_71
          obtain ⟨n_102, HW⟩ := HW
          exact L102 n_102 x1 h g _ _ _ HW hG (lv_sub hl [0, 1] rfl)
        · replace HW := HW.2 c_71
          refine lv_aload_n hx hb dX11_times_74 rfl (lv_at hl 0 rfl) ?_
          refine g_getr hx hb hw inG11 hown hK hG gl_135 rfl gk_135 (by decide) 23 (by decide) (by rw [gm_135]; decide) (r := 146) gr_135_23 lk42 dX11_times_75 ?_
          refine lv_bipush (v := 80) hx hb dX11_times_78 (by decide) ?_
          refine lv_iload_n hx hb dX11_times_80 rfl (lv_at hl 1 rfl) ?_
          refine lv_imul hx hb dX11_times_81 ?_
          refine lv_aload_n hx hb dX11_times_82 rfl (lv_at hl 0 rfl) ?_
          refine g_getr hx hb hw inG11 hown hK hG gl_135 rfl gk_135 (by decide) 24 (by decide) (by rw [gm_135]; decide) (r := 147) gr_135_24 lk45 dX11_times_83 ?_
          refine lv_iload_n hx hb dX11_times_86 rfl (lv_at hl 1 rfl) ?_
          refine g_iald hx hb hK hG gl_147 gk_147 gn_147 HW.1 dX11_times_87 ?_
          replace HW := HW.2
          refine lv_iadd hx hb dX11_times_88 ?_
          refine lv_lload_n hx hb dX11_times_89 rfl (lv_at hl 3 rfl) ?_
          refine lv_l2i hx hb dX11_times_90 rfl ?_
          refine g_iast hx hb hK hG gl_146 gk_146 gn_146 HW.1 dX11_times_91 (fun H locs hG => ?_)
          replace HW := HW.2
          obtain ⟨h_91, eh_91⟩ : ∃ y : HI, y = hu h 146 (((80 : Int32) * x1) + (h 147 x1.toNatClampNeg)).toNatClampNeg ((x3).toInt32) := ⟨_, rfl⟩
          rw [← eh_91] at hG
          replace HW := HW h_91 eh_91
          refine lv_aload_n hx hb dX11_times_92 rfl (lv_at hl 0 rfl) ?_
          refine g_getr hx hb hw inG11 hown hK hG gl_135 rfl gk_135 (by decide) 24 (by decide) (by rw [gm_135]; decide) (r := 147) gr_135_24 lk45 dX11_times_93 ?_
          refine lv_iload_n hx hb dX11_times_96 rfl (lv_at hl 1 rfl) ?_
          refine lv_dup2_11 hx hb dX11_times_97 rfl rfl ?_
          refine g_iald hx hb hK hG gl_147 gk_147 gn_147 HW.1 dX11_times_98 ?_
          replace HW := HW.2
          refine lv_iconst (v := 1) hx hb dX11_times_99 (by decide) ?_
          refine lv_iadd hx hb dX11_times_100 ?_
          refine g_iast hx hb hK hG gl_147 gk_147 gn_147 HW.1 dX11_times_101 (fun H locs hG => ?_)
          replace HW := HW.2
          obtain ⟨h_101, eh_101⟩ : ∃ y : HI, y = hu h_91 147 x1.toNatClampNeg ((h_91 147 x1.toNatClampNeg) + (1 : Int32)) := ⟨_, rfl⟩
          rw [← eh_101] at hG
          replace HW := HW h_101 eh_101
          obtain ⟨n_102, HW⟩ := HW
          exact L102 n_102 x1 h_101 g _ _ _ HW hG (lv_sub hl [0, 1] rfl)
      · replace HW := HW.2 c_13
        refine lv_aload_n hx hb dX11_times_16 rfl (lv_at hl 0 rfl) ?_
        refine g_getr hx hb hw inG11 hown hK hG gl_135 rfl gk_135 (by decide) 23 (by decide) (by rw [gm_135]; decide) (r := 146) gr_135_23 lk42 dX11_times_17 ?_
        refine lv_bipush (v := 80) hx hb dX11_times_20 (by decide) ?_
        refine lv_iload_n hx hb dX11_times_22 rfl (lv_at hl 1 rfl) ?_
        refine lv_imul hx hb dX11_times_23 ?_
        refine lv_iload hx hb dX11_times_24 (lv_at hl 4 rfl) ?_
        refine lv_iadd hx hb dX11_times_26 ?_
        refine g_iald hx hb hK hG gl_146 gk_146 gn_146 HW.1 dX11_times_27 ?_
        replace HW := HW.2
        refine lv_i2l hx hb dX11_times_28 rfl ?_
        refine lv_iload_n hx hb dX11_times_29 rfl (lv_at hl 2 rfl) ?_
        refine lv_i2l hx hb dX11_times_30 rfl ?_
        refine lv_lmul hx hb dX11_times_31 ?_
        refine lv_lload_n hx hb dX11_times_32 rfl (lv_at hl 3 rfl) ?_
        refine lv_ladd hx hb dX11_times_33 ?_
        refine lv_topl (fun x6_34 ex6_34 => ?_)
        replace HW := HW x6_34 ex6_34
        refine lv_lstore (lv' := [(6, .long x6_34), (0, .ref (ad 135)), (1, .int x1), (2, .int x2), (3, .long x3), (5, .int x5)]) hx hb dX11_times_34 hl (by decide) rfl (fun ls hl => ?_)
        refine lv_aload_n hx hb dX11_times_36 rfl (lv_at hl 1 rfl) ?_
        refine g_getr hx hb hw inG11 hown hK hG gl_135 rfl gk_135 (by decide) 23 (by decide) (by rw [gm_135]; decide) (r := 146) gr_135_23 lk42 dX11_times_37 ?_
        refine lv_bipush (v := 80) hx hb dX11_times_40 (by decide) ?_
        refine lv_iload_n hx hb dX11_times_42 rfl (lv_at hl 2 rfl) ?_
        refine lv_imul hx hb dX11_times_43 ?_
        refine lv_iload hx hb dX11_times_44 (lv_at hl 5 rfl) ?_
        refine lv_iadd hx hb dX11_times_46 ?_
        refine lv_lload hx hb dX11_times_47 (lv_at hl 0 rfl) ?_
        refine lv_ldc2 (v := 1073741824) hx hb hown cn256 dX11_times_49 ?_
        refine lv_lrem hx hb dX11_times_52 (by decide) ?_
        refine lv_l2i hx hb dX11_times_53 rfl ?_
        refine g_iast hx hb hK hG gl_146 gk_146 gn_146 HW.1 dX11_times_54 (fun H locs hG => ?_)
        replace HW := HW.2
        obtain ⟨h_54, eh_54⟩ : ∃ y : HI, y = hu h 146 (((80 : Int32) * x1) + x5).toNatClampNeg (((x6_34 - x6_34 / (1073741824 : Int64) * (1073741824 : Int64))).toInt32) := ⟨_, rfl⟩
        rw [← eh_54] at hG
        replace HW := HW h_54 eh_54
        refine lv_lload hx hb dX11_times_55 (lv_at hl 0 rfl) ?_
        refine lv_ldc2 (v := 1073741824) hx hb hown cn256 dX11_times_57 ?_
        refine lv_ldiv hx hb dX11_times_60 (by decide) ?_
        refine lv_topl (fun x3_61 ex3_61 => ?_)
        replace HW := HW x3_61 ex3_61
        refine lv_lstore_n (lv' := [(3, .long x3_61), (6, .long x6_34), (0, .ref (ad 135)), (1, .int x1), (2, .int x2), (5, .int x5)]) hx hb dX11_times_61 rfl hl (by decide) rfl (fun ls hl => ?_)
        obtain ⟨x5_62, ex5_62⟩ : ∃ y : Int32, y = (x5 + 1) := ⟨_, rfl⟩
        replace HW := HW x5_62 ex5_62
        refine lv_iinc (v := x5_62) (lv' := [(5, .int x5_62), (3, .long x3_61), (6, .long x6_34), (0, .ref (ad 135)), (1, .int x1), (2, .int x2)]) hx hb dX11_times_62 hl (k := 5) rfl (by rw [ex5_62]; rfl) (by decide) rfl (fun ls hl => ?_)
        refine lv_goto (tgt := 5) hx hb dX11_times_65 (by decide) ?_
        exact hK5 x1 x2 x3_61 x5_62 h_54 g _ _ _ HW hG (lv_sub hl [3, 4, 5, 1, 0] rfl)
  have E0 : ∀ (H : Heap) (locs : List Loc) (ls : Array Slot), gG D cy ad (gA ad s.heap.size) s.heap h g H locs → lv_has ls 8 [(0, .ref (ad 135)), (1, .int x1), (2, .int x2)] → W p l e ({ frames := 0, cells := 0, slots := 0, locals := 0 } : Room) s m args below meth c H locs 0 0 (MQ below (va_Qv (fun (u : HI × HL) => Q u.1 u.2) (gB D cy ad s.heap.size) (gA ad s.heap.size)) args s 0 0 (gA ad s.heap.size)) (F0 m 0 ls []) := by
    intro H locs ls hG hl
    unfold w_X11_times at HW
    refine lv_lconst (v := 0) hx hb dX11_times_0 (by decide) ?_
    refine lv_lstore_n (lv' := [(3, .long (0 : Int64)), (0, .ref (ad 135)), (1, .int x1), (2, .int x2)]) hx hb dX11_times_1 rfl hl (by decide) rfl (fun ls hl => ?_)
    refine lv_iconst (v := 0) hx hb dX11_times_2 (by decide) ?_
    refine lv_istore (lv' := [(5, .int (0 : Int32)), (3, .long (0 : Int64)), (0, .ref (ad 135)), (1, .int x1), (2, .int x2)]) hx hb dX11_times_3 hl (by decide) rfl (fun ls hl => ?_)
    obtain ⟨n_5, HW⟩ := HW
    exact L5 n_5 x1 x2 (0 : Int64) (0 : Int32) h g _ _ _ HW hG (lv_sub hl [2, 3, 4, 1, 0] rfl)
  exact E0 _ _ _ hG hl

def b_X11_against_45 (Q : Int32 → HI → HL → Prop) (K45 : Int32 → Int32 → Int32 → HI → HL → Prop) (x1 : Int32) (x2 : Int32) (x3 : Int32) (h : HI) (g : HL) : Prop :=
  ((x3 < 0 → Q (0 : Int32) h g) ∧ (¬ x3 < 0 → (vp_in (((80 : Int32) * x1) + x3) 400 ∧ (vp_in (((80 : Int32) * x2) + x3) 400 ∧ (((h 146 (((80 : Int32) * x1) + x3).toNatClampNeg) = (h 146 (((80 : Int32) * x2) + x3).toNatClampNeg) → (∀ x3_105 : Int32, x3_105 = (x3 + (-1)) → K45 x1 x2 x3_105 h g)) ∧ (¬ (h 146 (((80 : Int32) * x1) + x3).toNatClampNeg) = (h 146 (((80 : Int32) * x2) + x3).toNatClampNeg) → (vp_in (((80 : Int32) * x1) + x3) 400 ∧ (vp_in (((80 : Int32) * x2) + x3) 400 ∧ (((h 146 (((80 : Int32) * x2) + x3).toNatClampNeg) ≤ (h 146 (((80 : Int32) * x1) + x3).toNatClampNeg) → Q (1 : Int32) h g) ∧ (¬ (h 146 (((80 : Int32) * x2) + x3).toNatClampNeg) ≤ (h 146 (((80 : Int32) * x1) + x3).toNatClampNeg) → Q (-1 : Int32) h g))))))))))
def F_X11_against_45 (Q : Int32 → HI → HL → Prop) (K : Int32 × Int32 × Int32 × HI × HL → Prop) (q : Int32 × Int32 × Int32 × HI × HL) : Prop := b_X11_against_45 Q (fun x1 x2 x3 h g => K (x1, x2, x3, h, g)) q.1 q.2.1 q.2.2.1 q.2.2.2.1 q.2.2.2.2
def w_X11_against (x1 : Int32) (x2 : Int32) (h : HI) (g : HL) (Q : Int32 → HI → HL → Prop) : Prop :=
  (vp_in x1 5 ∧ (vp_in x2 5 ∧ (((h 147 x1.toNatClampNeg) = (h 147 x2.toNatClampNeg) → (vp_in x1 5 ∧ (∀ x3_44 : Int32, x3_44 = ((h 147 x1.toNatClampNeg) - (1 : Int32)) → lpE (F_X11_against_45 Q) (x1, x2, x3_44, h, g)))) ∧ (¬ (h 147 x1.toNatClampNeg) = (h 147 x2.toNatClampNeg) → (vp_in x1 5 ∧ (vp_in x2 5 ∧ (((h 147 x2.toNatClampNeg) ≤ (h 147 x1.toNatClampNeg) → Q (1 : Int32) h g) ∧ (¬ (h 147 x2.toNatClampNeg) ≤ (h 147 x1.toNatClampNeg) → Q (-1 : Int32) h g))))))))
set_option maxHeartbeats 8000000 in
set_option maxRecDepth 100000 in
theorem m_X11_against (l : Launch) (D : va_G) (cy : Nat → ClassId) (ad : Nat → Nat) (h : HI) (g : HL) (sz : Nat) (x1 : Int32) (x2 : Int32) (Q : Int32 → HI → HL → Prop) (HW : w_X11_against x1 x2 h g Q) : Met l yX11_against (wa yX11_against cX11_against 4 (some .int)) ({ frames := 0, cells := 0, slots := 0, locals := 0 }) (va_Pc [.ref (ad 135), .int x1, .int x2] (gI D cy ad h g sz)) (va_Qi (fun (r : Int32) (u : HI × HL) => Q r u.1 u.2) (gB D cy ad sz) (gA ad sz)) 0 0 (gA ad sz) := by
  refine Met.ofW (cc := cX11_against) (maxL := 4) (ret := (some .int)) (by decide) rfl ?_
  intro p e s m args below meth c s₁ B hml hv
  obtain ⟨hav, hsz, hP, hK, hD0, hNw⟩ := hv
  have hx := B.exec
  have hb := B.bytes
  have hr := B.returns
  have hts := atoms_spec (ws := (wa yX11_against cX11_against 4 (some .int))) B.pre
  have hw := wa_hw hts
  have hown : s.vm.findClass RX11 = some m.cls := findClass_of_methodNamed B.named
  have hlocks := B.notSynchronized
  subst hsz
  have hG : gG D cy ad (gA ad s.heap.size) s.heap h g s.heap [] := ⟨hP, gA_self hD0, va_S.rf⟩
  clear hP hD0
  have lk45 := hw (.fieldLink RX11 45 "OldWorksModel" "wide" "[I") (wm5 51 rfl rfl)
  have lk42 := hw (.fieldLink RX11 42 "OldWorksModel" "limbs" "[I") (wm5 50 rfl rfl)
  rw [show (headSpec (wa yX11_against cX11_against 4 (some .int)) ({ frames := 0, cells := 0, slots := 0, locals := 0 } : Room)).room = ({ frames := 0, cells := 0, slots := 0, locals := 0 } : Room) from rfl]
  have hl := lv_entry ([.ref (ad 135), .int x1, .int x2]) (n := 4) (Nat.le_of_ble_eq_true rfl)
  rw [show entryFrame m args 4 = entryFrame m ([.ref (ad 135), .int x1, .int x2] : List Value).toArray 4 from by rw [hav], lg_entry_eq]
  generalize (lg_sl ([.ref (ad 135), .int x1, .int x2]) ++ List.replicate (4 - (lg_sl ([.ref (ad 135), .int x1, .int x2])).length) Slot.unset).toArray = ls at hl ⊢
  have hl : lv_has ls 4 [(0, .ref (ad 135)), (1, .int x1), (2, .int x2)] := hl
  have L45 : ∀ (n : Nat) (x1 : Int32) (x2 : Int32) (x3 : Int32) (h : HI) (g : HL) (H : Heap) (locs : List Loc) (ls : Array Slot), lpN (F_X11_against_45 Q) n (x1, x2, x3, h, g) → gG D cy ad (gA ad s.heap.size) s.heap h g H locs → lv_has ls 4 [(0, .ref (ad 135)), (1, .int x1), (2, .int x2), (3, .int x3)] → W p l e ({ frames := 0, cells := 0, slots := 0, locals := 0 } : Room) s m args below meth c H locs 0 0 (MQ below (va_Qi (fun (r : Int32) (u : HI × HL) => Q r u.1 u.2) (gB D cy ad s.heap.size) (gA ad s.heap.size)) args s 0 0 (gA ad s.heap.size)) (F0 m 45 ls []) := by
    intro n
    induction n with
    | zero => intro x1 x2 x3 h g H locs ls HW; exact HW.elim
    | succ n ih =>
      intro x1 x2 x3 h g H locs ls HW hG hl
      have HW : b_X11_against_45 Q (fun x1 x2 x3 h g => lpN (F_X11_against_45 Q) n (x1, x2, x3, h, g)) x1 x2 x3 h g := HW
      generalize hKe : (fun (x1 : Int32) (x2 : Int32) (x3 : Int32) (h : HI) (g : HL) => lpN (F_X11_against_45 Q) n (x1, x2, x3, h, g)) = K45 at HW
      have hK45 : ∀ (x1 : Int32) (x2 : Int32) (x3 : Int32) (h : HI) (g : HL) (H : Heap) (locs : List Loc) (ls : Array Slot), K45 x1 x2 x3 h g → gG D cy ad (gA ad s.heap.size) s.heap h g H locs → lv_has ls 4 [(0, .ref (ad 135)), (1, .int x1), (2, .int x2), (3, .int x3)] → W p l e ({ frames := 0, cells := 0, slots := 0, locals := 0 } : Room) s m args below meth c H locs 0 0 (MQ below (va_Qi (fun (r : Int32) (u : HI × HL) => Q r u.1 u.2) (gB D cy ad s.heap.size) (gA ad s.heap.size)) args s 0 0 (gA ad s.heap.size)) (F0 m 45 ls []) := by subst hKe; exact ih
      clear ih
      clear hKe
      unfold b_X11_against_45 at HW
      refine lv_iload_n hx hb dX11_against_45 rfl (lv_at hl 3 rfl) ?_
      refine lv_if_lt (tgt := 111) hx hb dX11_against_46 (by decide) (fun c_46 => ?_) (fun c_46 => ?_)
      · replace HW := HW.1 c_46
        refine lv_iconst (v := 0) hx hb dX11_against_111 (by decide) ?_
        exact W.iret (v := (0 : Int32)) hx hb hr (fun t ht hW => ⟨⟨(0 : Int32), (h, g), rfl, HW, g_B ht hG⟩, hG.2.2.F ht⟩) hG.2.2.2.2 dX11_against_112
      · replace HW := HW.2 c_46
        refine lv_aload_n hx hb dX11_against_49 rfl (lv_at hl 0 rfl) ?_
        refine g_getr hx hb hw inG11 hown hK hG gl_135 rfl gk_135 (by decide) 23 (by decide) (by rw [gm_135]; decide) (r := 146) gr_135_23 lk42 dX11_against_50 ?_
        refine lv_bipush (v := 80) hx hb dX11_against_53 (by decide) ?_
        refine lv_iload_n hx hb dX11_against_55 rfl (lv_at hl 1 rfl) ?_
        refine lv_imul hx hb dX11_against_56 ?_
        refine lv_iload_n hx hb dX11_against_57 rfl (lv_at hl 3 rfl) ?_
        refine lv_iadd hx hb dX11_against_58 ?_
        refine g_iald hx hb hK hG gl_146 gk_146 gn_146 HW.1 dX11_against_59 ?_
        replace HW := HW.2
        refine lv_aload_n hx hb dX11_against_60 rfl (lv_at hl 0 rfl) ?_
        refine g_getr hx hb hw inG11 hown hK hG gl_135 rfl gk_135 (by decide) 23 (by decide) (by rw [gm_135]; decide) (r := 146) gr_135_23 lk42 dX11_against_61 ?_
        refine lv_bipush (v := 80) hx hb dX11_against_64 (by decide) ?_
        refine lv_iload_n hx hb dX11_against_66 rfl (lv_at hl 2 rfl) ?_
        refine lv_imul hx hb dX11_against_67 ?_
        refine lv_iload_n hx hb dX11_against_68 rfl (lv_at hl 3 rfl) ?_
        refine lv_iadd hx hb dX11_against_69 ?_
        refine g_iald hx hb hK hG gl_146 gk_146 gn_146 HW.1 dX11_against_70 ?_
        replace HW := HW.2
        refine lv_icmp_eq (tgt := 105) hx hb dX11_against_71 (by decide) (fun c_71 => ?_) (fun c_71 => ?_)
        · replace HW := HW.1 c_71
          obtain ⟨x3_105, ex3_105⟩ : ∃ y : Int32, y = (x3 + (-1)) := ⟨_, rfl⟩
          replace HW := HW x3_105 ex3_105
          refine lv_iinc (v := x3_105) (lv' := [(3, .int x3_105), (0, .ref (ad 135)), (1, .int x1), (2, .int x2)]) hx hb dX11_against_105 hl (k := 3) rfl (by rw [ex3_105]; rfl) (by decide) rfl (fun ls hl => ?_)
          refine lv_goto (tgt := 45) hx hb dX11_against_108 (by decide) ?_
          exact hK45 x1 x2 x3_105 h g _ _ _ HW hG (lv_sub hl [1, 2, 3, 0] rfl)
        · replace HW := HW.2 c_71
          refine lv_aload_n hx hb dX11_against_74 rfl (lv_at hl 0 rfl) ?_
          refine g_getr hx hb hw inG11 hown hK hG gl_135 rfl gk_135 (by decide) 23 (by decide) (by rw [gm_135]; decide) (r := 146) gr_135_23 lk42 dX11_against_75 ?_
          refine lv_bipush (v := 80) hx hb dX11_against_78 (by decide) ?_
          refine lv_iload_n hx hb dX11_against_80 rfl (lv_at hl 1 rfl) ?_
          refine lv_imul hx hb dX11_against_81 ?_
          refine lv_iload_n hx hb dX11_against_82 rfl (lv_at hl 3 rfl) ?_
          refine lv_iadd hx hb dX11_against_83 ?_
          refine g_iald hx hb hK hG gl_146 gk_146 gn_146 HW.1 dX11_against_84 ?_
          replace HW := HW.2
          refine lv_aload_n hx hb dX11_against_85 rfl (lv_at hl 0 rfl) ?_
          refine g_getr hx hb hw inG11 hown hK hG gl_135 rfl gk_135 (by decide) 23 (by decide) (by rw [gm_135]; decide) (r := 146) gr_135_23 lk42 dX11_against_86 ?_
          refine lv_bipush (v := 80) hx hb dX11_against_89 (by decide) ?_
          refine lv_iload_n hx hb dX11_against_91 rfl (lv_at hl 2 rfl) ?_
          refine lv_imul hx hb dX11_against_92 ?_
          refine lv_iload_n hx hb dX11_against_93 rfl (lv_at hl 3 rfl) ?_
          refine lv_iadd hx hb dX11_against_94 ?_
          refine g_iald hx hb hK hG gl_146 gk_146 gn_146 HW.1 dX11_against_95 ?_
          replace HW := HW.2
          refine lv_icmp_ge (tgt := 103) hx hb dX11_against_96 (by decide) (fun c_96 => ?_) (fun c_96 => ?_)
          · replace HW := HW.1 c_96
            refine lv_iconst (v := 1) hx hb dX11_against_103 (by decide) ?_
            exact W.iret (v := (1 : Int32)) hx hb hr (fun t ht hW => ⟨⟨(1 : Int32), (h, g), rfl, HW, g_B ht hG⟩, hG.2.2.F ht⟩) hG.2.2.2.2 dX11_against_104
          · replace HW := HW.2 c_96
            refine lv_iconst (v := (-1)) hx hb dX11_against_99 (by decide) ?_
            refine lv_goto (tgt := 104) hx hb dX11_against_100 (by decide) ?_
            exact W.iret (v := (-1 : Int32)) hx hb hr (fun t ht hW => ⟨⟨(-1 : Int32), (h, g), rfl, HW, g_B ht hG⟩, hG.2.2.F ht⟩) hG.2.2.2.2 dX11_against_104
  have E0 : ∀ (H : Heap) (locs : List Loc) (ls : Array Slot), gG D cy ad (gA ad s.heap.size) s.heap h g H locs → lv_has ls 4 [(0, .ref (ad 135)), (1, .int x1), (2, .int x2)] → W p l e ({ frames := 0, cells := 0, slots := 0, locals := 0 } : Room) s m args below meth c H locs 0 0 (MQ below (va_Qi (fun (r : Int32) (u : HI × HL) => Q r u.1 u.2) (gB D cy ad s.heap.size) (gA ad s.heap.size)) args s 0 0 (gA ad s.heap.size)) (F0 m 0 ls []) := by
    intro H locs ls hG hl
    unfold w_X11_against at HW
    refine lv_aload_n hx hb dX11_against_0 rfl (lv_at hl 0 rfl) ?_
    refine g_getr hx hb hw inG11 hown hK hG gl_135 rfl gk_135 (by decide) 24 (by decide) (by rw [gm_135]; decide) (r := 147) gr_135_24 lk45 dX11_against_1 ?_
    refine lv_iload_n hx hb dX11_against_4 rfl (lv_at hl 1 rfl) ?_
    refine g_iald hx hb hK hG gl_147 gk_147 gn_147 HW.1 dX11_against_5 ?_
    replace HW := HW.2
    refine lv_aload_n hx hb dX11_against_6 rfl (lv_at hl 0 rfl) ?_
    refine g_getr hx hb hw inG11 hown hK hG gl_135 rfl gk_135 (by decide) 24 (by decide) (by rw [gm_135]; decide) (r := 147) gr_135_24 lk45 dX11_against_7 ?_
    refine lv_iload_n hx hb dX11_against_10 rfl (lv_at hl 2 rfl) ?_
    refine g_iald hx hb hK hG gl_147 gk_147 gn_147 HW.1 dX11_against_11 ?_
    replace HW := HW.2
    refine lv_icmp_eq (tgt := 36) hx hb dX11_against_12 (by decide) (fun c_12 => ?_) (fun c_12 => ?_)
    · replace HW := HW.1 c_12
      refine lv_aload_n hx hb dX11_against_36 rfl (lv_at hl 0 rfl) ?_
      refine g_getr hx hb hw inG11 hown hK hG gl_135 rfl gk_135 (by decide) 24 (by decide) (by rw [gm_135]; decide) (r := 147) gr_135_24 lk45 dX11_against_37 ?_
      refine lv_iload_n hx hb dX11_against_40 rfl (lv_at hl 1 rfl) ?_
      refine g_iald hx hb hK hG gl_147 gk_147 gn_147 HW.1 dX11_against_41 ?_
      replace HW := HW.2
      refine lv_iconst (v := 1) hx hb dX11_against_42 (by decide) ?_
      refine lv_isub hx hb dX11_against_43 ?_
      refine lv_topi (fun x3_44 ex3_44 => ?_)
      replace HW := HW x3_44 ex3_44
      refine lv_istore_n (lv' := [(3, .int x3_44), (0, .ref (ad 135)), (1, .int x1), (2, .int x2)]) hx hb dX11_against_44 rfl hl (by decide) rfl (fun ls hl => ?_)
      obtain ⟨n_45, HW⟩ := HW
      exact L45 n_45 x1 x2 x3_44 h g _ _ _ HW hG (lv_sub hl [1, 2, 3, 0] rfl)
    · replace HW := HW.2 c_12
      refine lv_aload_n hx hb dX11_against_15 rfl (lv_at hl 0 rfl) ?_
      refine g_getr hx hb hw inG11 hown hK hG gl_135 rfl gk_135 (by decide) 24 (by decide) (by rw [gm_135]; decide) (r := 147) gr_135_24 lk45 dX11_against_16 ?_
      refine lv_iload_n hx hb dX11_against_19 rfl (lv_at hl 1 rfl) ?_
      refine g_iald hx hb hK hG gl_147 gk_147 gn_147 HW.1 dX11_against_20 ?_
      replace HW := HW.2
      refine lv_aload_n hx hb dX11_against_21 rfl (lv_at hl 0 rfl) ?_
      refine g_getr hx hb hw inG11 hown hK hG gl_135 rfl gk_135 (by decide) 24 (by decide) (by rw [gm_135]; decide) (r := 147) gr_135_24 lk45 dX11_against_22 ?_
      refine lv_iload_n hx hb dX11_against_25 rfl (lv_at hl 2 rfl) ?_
      refine g_iald hx hb hK hG gl_147 gk_147 gn_147 HW.1 dX11_against_26 ?_
      replace HW := HW.2
      refine lv_icmp_ge (tgt := 34) hx hb dX11_against_27 (by decide) (fun c_27 => ?_) (fun c_27 => ?_)
      · replace HW := HW.1 c_27
        refine lv_iconst (v := 1) hx hb dX11_against_34 (by decide) ?_
        exact W.iret (v := (1 : Int32)) hx hb hr (fun t ht hW => ⟨⟨(1 : Int32), (h, g), rfl, HW, g_B ht hG⟩, hG.2.2.F ht⟩) hG.2.2.2.2 dX11_against_35
      · replace HW := HW.2 c_27
        refine lv_iconst (v := (-1)) hx hb dX11_against_30 (by decide) ?_
        refine lv_goto (tgt := 35) hx hb dX11_against_31 (by decide) ?_
        exact W.iret (v := (-1 : Int32)) hx hb hr (fun t ht hW => ⟨⟨(-1 : Int32), (h, g), rfl, HW, g_B ht hG⟩, hG.2.2.F ht⟩) hG.2.2.2.2 dX11_against_35
  exact E0 _ _ _ hG hl

def b_X11_divisor_4 (Q : Int32 → HI → HL → Prop) (K4 : Int32 → Int32 → HI → HL → Prop) (x2 : Int32) (x3 : Int32) (h : HI) (g : HL) : Prop :=
  ((x3 = 0 → Q x2 h g) ∧ (¬ x3 = 0 → (¬ x3 = 0 ∧ (∀ x4_11 : Int32, x4_11 = (x2 - x2 / x3 * x3) → K4 x3 x4_11 h g))))
def F_X11_divisor_4 (Q : Int32 → HI → HL → Prop) (K : Int32 × Int32 × HI × HL → Prop) (q : Int32 × Int32 × HI × HL) : Prop := b_X11_divisor_4 Q (fun x2 x3 h g => K (x2, x3, h, g)) q.1 q.2.1 q.2.2.1 q.2.2.2
def w_X11_divisor (x0 : Int32) (x1 : Int32) (h : HI) (g : HL) (Q : Int32 → HI → HL → Prop) : Prop :=
  lpE (F_X11_divisor_4 Q) (x0, x1, h, g)
set_option maxHeartbeats 8000000 in
set_option maxRecDepth 100000 in
theorem m_X11_divisor (l : Launch) (D : va_G) (cy : Nat → ClassId) (ad : Nat → Nat) (h : HI) (g : HL) (sz : Nat) (x0 : Int32) (x1 : Int32) (Q : Int32 → HI → HL → Prop) (HW : w_X11_divisor x0 x1 h g Q) : Met l yX11_divisor (wa yX11_divisor cX11_divisor 5 (some .int)) ({ frames := 0, cells := 0, slots := 0, locals := 0 }) (va_Pc [.int x0, .int x1] (gI D cy ad h g sz)) (va_Qi (fun (r : Int32) (u : HI × HL) => Q r u.1 u.2) (gB D cy ad sz) (gA ad sz)) 0 0 (gA ad sz) := by
  refine Met.ofW (cc := cX11_divisor) (maxL := 5) (ret := (some .int)) (by decide) rfl ?_
  intro p e s m args below meth c s₁ B hml hv
  obtain ⟨hav, hsz, hP, hK, hD0, hNw⟩ := hv
  have hx := B.exec
  have hb := B.bytes
  have hr := B.returns
  have hts := atoms_spec (ws := (wa yX11_divisor cX11_divisor 5 (some .int))) B.pre
  have hw := wa_hw hts
  have hown : s.vm.findClass RX11 = some m.cls := findClass_of_methodNamed B.named
  have hlocks := B.notSynchronized
  subst hsz
  have hG : gG D cy ad (gA ad s.heap.size) s.heap h g s.heap [] := ⟨hP, gA_self hD0, va_S.rf⟩
  clear hP hD0
  rw [show (headSpec (wa yX11_divisor cX11_divisor 5 (some .int)) ({ frames := 0, cells := 0, slots := 0, locals := 0 } : Room)).room = ({ frames := 0, cells := 0, slots := 0, locals := 0 } : Room) from rfl]
  have hl := lv_entry ([.int x0, .int x1]) (n := 5) (Nat.le_of_ble_eq_true rfl)
  rw [show entryFrame m args 5 = entryFrame m ([.int x0, .int x1] : List Value).toArray 5 from by rw [hav], lg_entry_eq]
  generalize (lg_sl ([.int x0, .int x1]) ++ List.replicate (5 - (lg_sl ([.int x0, .int x1])).length) Slot.unset).toArray = ls at hl ⊢
  have hl : lv_has ls 5 [(0, .int x0), (1, .int x1)] := hl
  have L4 : ∀ (n : Nat) (x2 : Int32) (x3 : Int32) (h : HI) (g : HL) (H : Heap) (locs : List Loc) (ls : Array Slot), lpN (F_X11_divisor_4 Q) n (x2, x3, h, g) → gG D cy ad (gA ad s.heap.size) s.heap h g H locs → lv_has ls 5 [(2, .int x2), (3, .int x3)] → W p l e ({ frames := 0, cells := 0, slots := 0, locals := 0 } : Room) s m args below meth c H locs 0 0 (MQ below (va_Qi (fun (r : Int32) (u : HI × HL) => Q r u.1 u.2) (gB D cy ad s.heap.size) (gA ad s.heap.size)) args s 0 0 (gA ad s.heap.size)) (F0 m 4 ls []) := by
    intro n
    induction n with
    | zero => intro x2 x3 h g H locs ls HW; exact HW.elim
    | succ n ih =>
      intro x2 x3 h g H locs ls HW hG hl
      have HW : b_X11_divisor_4 Q (fun x2 x3 h g => lpN (F_X11_divisor_4 Q) n (x2, x3, h, g)) x2 x3 h g := HW
      generalize hKe : (fun (x2 : Int32) (x3 : Int32) (h : HI) (g : HL) => lpN (F_X11_divisor_4 Q) n (x2, x3, h, g)) = K4 at HW
      have hK4 : ∀ (x2 : Int32) (x3 : Int32) (h : HI) (g : HL) (H : Heap) (locs : List Loc) (ls : Array Slot), K4 x2 x3 h g → gG D cy ad (gA ad s.heap.size) s.heap h g H locs → lv_has ls 5 [(2, .int x2), (3, .int x3)] → W p l e ({ frames := 0, cells := 0, slots := 0, locals := 0 } : Room) s m args below meth c H locs 0 0 (MQ below (va_Qi (fun (r : Int32) (u : HI × HL) => Q r u.1 u.2) (gB D cy ad s.heap.size) (gA ad s.heap.size)) args s 0 0 (gA ad s.heap.size)) (F0 m 4 ls []) := by subst hKe; exact ih
      clear ih
      clear hKe
      unfold b_X11_divisor_4 at HW
      refine lv_iload_n hx hb dX11_divisor_4 rfl (lv_at hl 1 rfl) ?_
      refine lv_if_eq (tgt := 21) hx hb dX11_divisor_5 (by decide) (fun c_5 => ?_) (fun c_5 => ?_)
      · replace HW := HW.1 c_5
        refine lv_iload_n hx hb dX11_divisor_21 rfl (lv_at hl 0 rfl) ?_
        exact W.iret (v := x2) hx hb hr (fun t ht hW => ⟨⟨x2, (h, g), rfl, HW, g_B ht hG⟩, hG.2.2.F ht⟩) hG.2.2.2.2 dX11_divisor_22
      · replace HW := HW.2 c_5
        refine lv_iload_n hx hb dX11_divisor_8 rfl (lv_at hl 0 rfl) ?_
        refine lv_iload_n hx hb dX11_divisor_9 rfl (lv_at hl 1 rfl) ?_
        refine lv_irem hx hb dX11_divisor_10 HW.1 ?_
        replace HW := HW.2
        refine lv_topi (fun x4_11 ex4_11 => ?_)
        replace HW := HW x4_11 ex4_11
        refine lv_istore (lv' := [(4, .int x4_11), (2, .int x2), (3, .int x3)]) hx hb dX11_divisor_11 hl (by decide) rfl (fun ls hl => ?_)
        refine lv_iload_n hx hb dX11_divisor_13 rfl (lv_at hl 2 rfl) ?_
        refine lv_istore_n (lv' := [(2, .int x3), (4, .int x4_11), (3, .int x3)]) hx hb dX11_divisor_14 rfl hl (by decide) rfl (fun ls hl => ?_)
        refine lv_iload hx hb dX11_divisor_15 (lv_at hl 1 rfl) ?_
        refine lv_istore_n (lv' := [(3, .int x4_11), (2, .int x3), (4, .int x4_11)]) hx hb dX11_divisor_17 rfl hl (by decide) rfl (fun ls hl => ?_)
        refine lv_goto (tgt := 4) hx hb dX11_divisor_18 (by decide) ?_
        exact hK4 x3 x4_11 h g _ _ _ HW hG (lv_sub hl [1, 0] rfl)
  have E0 : ∀ (H : Heap) (locs : List Loc) (ls : Array Slot), gG D cy ad (gA ad s.heap.size) s.heap h g H locs → lv_has ls 5 [(0, .int x0), (1, .int x1)] → W p l e ({ frames := 0, cells := 0, slots := 0, locals := 0 } : Room) s m args below meth c H locs 0 0 (MQ below (va_Qi (fun (r : Int32) (u : HI × HL) => Q r u.1 u.2) (gB D cy ad s.heap.size) (gA ad s.heap.size)) args s 0 0 (gA ad s.heap.size)) (F0 m 0 ls []) := by
    intro H locs ls hG hl
    unfold w_X11_divisor at HW
    refine lv_iload_n hx hb dX11_divisor_0 rfl (lv_at hl 0 rfl) ?_
    refine lv_istore_n (lv' := [(2, .int x0), (0, .int x0), (1, .int x1)]) hx hb dX11_divisor_1 rfl hl (by decide) rfl (fun ls hl => ?_)
    refine lv_iload_n hx hb dX11_divisor_2 rfl (lv_at hl 2 rfl) ?_
    refine lv_istore_n (lv' := [(3, .int x1), (2, .int x0), (0, .int x0), (1, .int x1)]) hx hb dX11_divisor_3 rfl hl (by decide) rfl (fun ls hl => ?_)
    obtain ⟨n_4, HW⟩ := HW
    exact L4 n_4 x0 x1 h g _ _ _ HW hG (lv_sub hl [1, 0] rfl)
  exact E0 _ _ _ hG hl

def w_X11_isDigit (x0 : Int32) (h : HI) (g : HL) (Q : Int32 → HI → HL → Prop) : Prop :=
  (∃ P_6 : Int32 → HI → HL → Prop, w_X11_in ((x0).toInt64) (0 : Int64) (9 : Int64) h g P_6 ∧ ∀ (r_6 : Int32) (h_6 : HI) (g_6 : HL), zb r_6 → P_6 r_6 h_6 g_6 → (zb r_6 ∧ Q r_6 h_6 g_6))
set_option maxHeartbeats 8000000 in
set_option maxRecDepth 100000 in
theorem m_X11_isDigit (l : Launch) (D : va_G) (cy : Nat → ClassId) (ad : Nat → Nat) (h : HI) (g : HL) (sz : Nat) (x0 : Int32) (Q : Int32 → HI → HL → Prop) (HW : w_X11_isDigit x0 h g Q) : Met l yX11_isDigit (wa yX11_isDigit cX11_isDigit 1 (some .boolean)) ({ frames := 1, cells := 0, slots := 0, locals := 25 }) (va_Pc [.int x0] (gI D cy ad h g sz)) (va_Qi (fun (r : Int32) (u : HI × HL) => zb r ∧ Q r u.1 u.2) (gB D cy ad sz) (gA ad sz)) 0 0 (gA ad sz) := by
  refine Met.ofW (cc := cX11_isDigit) (maxL := 1) (ret := (some .boolean)) (by decide) rfl ?_
  intro p e s m args below meth c s₁ B hml hv
  obtain ⟨hav, hsz, hP, hK, hD0, hNw⟩ := hv
  have hx := B.exec
  have hb := B.bytes
  have hr := B.returns
  have hts := atoms_spec (ws := (wa yX11_isDigit cX11_isDigit 1 (some .boolean))) B.pre
  have hw := wa_hw hts
  have hown : s.vm.findClass RX11 = some m.cls := findClass_of_methodNamed B.named
  have hlocks := B.notSynchronized
  subst hsz
  have hG : gG D cy ad (gA ad s.heap.size) s.heap h g s.heap [] := ⟨hP, gA_self hD0, va_S.rf⟩
  clear hP hD0
  have cn258 := hw (.constantLong RX11 258 (9)) (wm6 120 rfl rfl)
  rw [show (headSpec (wa yX11_isDigit cX11_isDigit 1 (some .boolean)) ({ frames := 1, cells := 0, slots := 0, locals := 25 } : Room)).room = ({ frames := 1, cells := 0, slots := 0, locals := 25 } : Room) from rfl]
  have hl := lv_entry ([.int x0]) (n := 1) (Nat.le_of_ble_eq_true rfl)
  rw [show entryFrame m args 1 = entryFrame m ([.int x0] : List Value).toArray 1 from by rw [hav], lg_entry_eq]
  generalize (lg_sl ([.int x0]) ++ List.replicate (1 - (lg_sl ([.int x0])).length) Slot.unset).toArray = ls at hl ⊢
  have hl : lv_has ls 1 [(0, .int x0)] := hl
  have E0 : ∀ (H : Heap) (locs : List Loc) (ls : Array Slot), gG D cy ad (gA ad s.heap.size) s.heap h g H locs → lv_has ls 1 [(0, .int x0)] → W p l e ({ frames := 1, cells := 0, slots := 0, locals := 25 } : Room) s m args below meth c H locs 0 0 (MQ below (va_Qi (fun (r : Int32) (u : HI × HL) => zb r ∧ Q r u.1 u.2) (gB D cy ad s.heap.size) (gA ad s.heap.size)) args s 0 0 (gA ad s.heap.size)) (F0 m 0 ls []) := by
    intro H locs ls hG hl
    unfold w_X11_isDigit at HW
    refine lv_iload_n hx hb dX11_isDigit_0 rfl (lv_at hl 0 rfl) ?_
    refine lv_i2l hx hb dX11_isDigit_1 rfl ?_
    refine lv_lconst (v := 0) hx hb dX11_isDigit_2 (by decide) ?_
    refine lv_ldc2 (v := 9) hx hb hown cn258 dX11_isDigit_3 ?_
    obtain ⟨P_6, HC_6, HW⟩ := HW
    refine g_callz (g_runS (As := [.long ((x0).toInt64), .long (0 : Int64), .long (9 : Int64)]) (rest := []) ⟨hx, hb, hml, hown, hts⟩ (m_X11_in l D cy ad h g H.size ((x0).toInt64) (0 : Int64) (9 : Int64) P_6 HC_6) (va_cwS 3 hts (gd_S (wm5 111 rfl rfl) (wm5 112 rfl rfl) (wm1 13 rfl rfl) (wm5 113 rfl rfl)) rfl rfl rfl (by decide +kernel) ⟨Nat.le_of_ble_eq_true rfl, Nat.le_of_ble_eq_true rfl⟩) hK hNw hG rfl rfl hl.1 rfl (lv_room (Nat.le_of_ble_eq_true rfl)) dX11_isDigit_6 ⟨Nat.zero_le _, Nat.zero_le _⟩) hG (fun r_6 h_6 g_6 H locs hz hq hG => ?_)
    replace HW := HW r_6 h_6 g_6 hz hq
    exact W.zret (v := r_6) hx hb hr (zb_n HW.1) (fun t ht hW => ⟨⟨r_6, (h_6, g_6), rfl, HW, g_B ht hG⟩, hG.2.2.F ht⟩) hG.2.2.2.2 dX11_isDigit_9
  exact E0 _ _ _ hG hl

def w_X11_odds (x1 : Int32) (x2 : Int32) (h : HI) (g : HL) (Q : Int32 → HI → HL → Prop) : Prop :=
  (∃ P_1 : Int32 → HI → HL → Prop, w_X11_isDigit x1 h g P_1 ∧ ∀ (r_1 : Int32) (h_1 : HI) (g_1 : HL), zb r_1 → P_1 r_1 h_1 g_1 → ((r_1 = 0 → Q (-2 : Int32) h_1 g_1) ∧ (¬ r_1 = 0 → (∃ P_8 : Int32 → HI → HL → Prop, w_X11_isDigit x2 h_1 g_1 P_8 ∧ ∀ (r_8 : Int32) (h_8 : HI) (g_8 : HL), zb r_8 → P_8 r_8 h_8 g_8 → ((¬ r_8 = 0 → (vp_in (9 : Int32) 887 ∧ ∀ h_24 : HI, h_24 = hu h_8 136 (9 : Int32).toNatClampNeg x1 → (vp_in (10 : Int32) 887 ∧ ∀ h_32 : HI, h_32 = hu h_24 136 (10 : Int32).toNatClampNeg x2 → Q (1 : Int32) h_32 g_8))) ∧ (r_8 = 0 → Q (-2 : Int32) h_8 g_8))))))
set_option maxHeartbeats 8000000 in
set_option maxRecDepth 100000 in
theorem m_X11_odds (l : Launch) (D : va_G) (cy : Nat → ClassId) (ad : Nat → Nat) (h : HI) (g : HL) (sz : Nat) (x1 : Int32) (x2 : Int32) (Q : Int32 → HI → HL → Prop) (HW : w_X11_odds x1 x2 h g Q) : Met l yX11_odds (wa yX11_odds cX11_odds 3 (some .int)) ({ frames := 2, cells := 0, slots := 0, locals := 45 }) (va_Pc [.ref (ad 135), .int x1, .int x2] (gI D cy ad h g sz)) (va_Qi (fun (r : Int32) (u : HI × HL) => Q r u.1 u.2) (gB D cy ad sz) (gA ad sz)) 0 0 (gA ad sz) := by
  refine Met.ofW (cc := cX11_odds) (maxL := 3) (ret := (some .int)) (by decide) rfl ?_
  intro p e s m args below meth c s₁ B hml hv
  obtain ⟨hav, hsz, hP, hK, hD0, hNw⟩ := hv
  have hx := B.exec
  have hb := B.bytes
  have hr := B.returns
  have hts := atoms_spec (ws := (wa yX11_odds cX11_odds 3 (some .int))) B.pre
  have hw := wa_hw hts
  have hown : s.vm.findClass RX11 = some m.cls := findClass_of_methodNamed B.named
  have hlocks := B.notSynchronized
  subst hsz
  have hG : gG D cy ad (gA ad s.heap.size) s.heap h g s.heap [] := ⟨hP, gA_self hD0, va_S.rf⟩
  clear hP hD0
  have lk7 := hw (.fieldLink RX11 7 "OldWorksModel" "st" "[I") (wm5 27 rfl rfl)
  rw [show (headSpec (wa yX11_odds cX11_odds 3 (some .int)) ({ frames := 2, cells := 0, slots := 0, locals := 45 } : Room)).room = ({ frames := 2, cells := 0, slots := 0, locals := 45 } : Room) from rfl]
  have hl := lv_entry ([.ref (ad 135), .int x1, .int x2]) (n := 3) (Nat.le_of_ble_eq_true rfl)
  rw [show entryFrame m args 3 = entryFrame m ([.ref (ad 135), .int x1, .int x2] : List Value).toArray 3 from by rw [hav], lg_entry_eq]
  generalize (lg_sl ([.ref (ad 135), .int x1, .int x2]) ++ List.replicate (3 - (lg_sl ([.ref (ad 135), .int x1, .int x2])).length) Slot.unset).toArray = ls at hl ⊢
  have hl : lv_has ls 3 [(0, .ref (ad 135)), (1, .int x1), (2, .int x2)] := hl
  have E0 : ∀ (H : Heap) (locs : List Loc) (ls : Array Slot), gG D cy ad (gA ad s.heap.size) s.heap h g H locs → lv_has ls 3 [(0, .ref (ad 135)), (1, .int x1), (2, .int x2)] → W p l e ({ frames := 2, cells := 0, slots := 0, locals := 45 } : Room) s m args below meth c H locs 0 0 (MQ below (va_Qi (fun (r : Int32) (u : HI × HL) => Q r u.1 u.2) (gB D cy ad s.heap.size) (gA ad s.heap.size)) args s 0 0 (gA ad s.heap.size)) (F0 m 0 ls []) := by
    intro H locs ls hG hl
    unfold w_X11_odds at HW
    refine lv_iload_n hx hb dX11_odds_0 rfl (lv_at hl 1 rfl) ?_
    obtain ⟨P_1, HC_1, HW⟩ := HW
    refine g_callz (g_runS (As := [.int x1]) (rest := []) ⟨hx, hb, hml, hown, hts⟩ (m_X11_isDigit l D cy ad h g H.size x1 P_1 HC_1) (va_cwS 1 hts (gd_S (wm6 117 rfl rfl) (wm6 118 rfl rfl) (wm1 13 rfl rfl) (wm6 119 rfl rfl)) rfl rfl rfl (by decide +kernel) ⟨Nat.le_of_ble_eq_true rfl, Nat.le_of_ble_eq_true rfl⟩) hK hNw hG rfl rfl hl.1 rfl (lv_room (Nat.le_of_ble_eq_true rfl)) dX11_odds_1 ⟨Nat.zero_le _, Nat.zero_le _⟩) hG (fun r_1 h_1 g_1 H locs hz hq hG => ?_)
    replace HW := HW r_1 h_1 g_1 hz hq
    refine lv_if_eq (tgt := 14) hx hb dX11_odds_4 (by decide) (fun c_4 => ?_) (fun c_4 => ?_)
    · replace HW := HW.1 c_4
      refine lv_bipush (v := (-2)) hx hb dX11_odds_14 (by decide) ?_
      exact W.iret (v := (-2 : Int32)) hx hb hr (fun t ht hW => ⟨⟨(-2 : Int32), (h_1, g_1), rfl, HW, g_B ht hG⟩, hG.2.2.F ht⟩) hG.2.2.2.2 dX11_odds_16
    · replace HW := HW.2 c_4
      refine lv_iload_n hx hb dX11_odds_7 rfl (lv_at hl 2 rfl) ?_
      obtain ⟨P_8, HC_8, HW⟩ := HW
      refine g_callz (g_runS (As := [.int x2]) (rest := []) ⟨hx, hb, hml, hown, hts⟩ (m_X11_isDigit l D cy ad h_1 g_1 H.size x2 P_8 HC_8) (va_cwS 1 hts (gd_S (wm6 117 rfl rfl) (wm6 118 rfl rfl) (wm1 13 rfl rfl) (wm6 119 rfl rfl)) rfl rfl rfl (by decide +kernel) ⟨Nat.le_of_ble_eq_true rfl, Nat.le_of_ble_eq_true rfl⟩) hK hNw hG rfl rfl hl.1 rfl (lv_room (Nat.le_of_ble_eq_true rfl)) dX11_odds_8 ⟨Nat.zero_le _, Nat.zero_le _⟩) hG (fun r_8 h_8 g_8 H locs hz hq hG => ?_)
      replace HW := HW r_8 h_8 g_8 hz hq
      refine lv_if_ne (tgt := 17) hx hb dX11_odds_11 (by decide) (fun c_11 => ?_) (fun c_11 => ?_)
      · replace HW := HW.1 c_11
        refine lv_aload_n hx hb dX11_odds_17 rfl (lv_at hl 0 rfl) ?_
        refine g_getr hx hb hw inG11 hown hK hG gl_135 rfl gk_135 (by decide) 0 (by decide) (by rw [gm_135]; decide) (r := 136) gr_135_0 lk7 dX11_odds_18 ?_
        refine lv_bipush (v := 9) hx hb dX11_odds_21 (by decide) ?_
        refine lv_iload_n hx hb dX11_odds_23 rfl (lv_at hl 1 rfl) ?_
        refine g_iast hx hb hK hG gl_136 gk_136 gn_136 HW.1 dX11_odds_24 (fun H locs hG => ?_)
        replace HW := HW.2
        obtain ⟨h_24, eh_24⟩ : ∃ y : HI, y = hu h_8 136 (9 : Int32).toNatClampNeg x1 := ⟨_, rfl⟩
        rw [← eh_24] at hG
        replace HW := HW h_24 eh_24
        refine lv_aload_n hx hb dX11_odds_25 rfl (lv_at hl 0 rfl) ?_
        refine g_getr hx hb hw inG11 hown hK hG gl_135 rfl gk_135 (by decide) 0 (by decide) (by rw [gm_135]; decide) (r := 136) gr_135_0 lk7 dX11_odds_26 ?_
        refine lv_bipush (v := 10) hx hb dX11_odds_29 (by decide) ?_
        refine lv_iload_n hx hb dX11_odds_31 rfl (lv_at hl 2 rfl) ?_
        refine g_iast hx hb hK hG gl_136 gk_136 gn_136 HW.1 dX11_odds_32 (fun H locs hG => ?_)
        replace HW := HW.2
        obtain ⟨h_32, eh_32⟩ : ∃ y : HI, y = hu h_24 136 (10 : Int32).toNatClampNeg x2 := ⟨_, rfl⟩
        rw [← eh_32] at hG
        replace HW := HW h_32 eh_32
        refine lv_iconst (v := 1) hx hb dX11_odds_33 (by decide) ?_
        exact W.iret (v := (1 : Int32)) hx hb hr (fun t ht hW => ⟨⟨(1 : Int32), (h_32, g_8), rfl, HW, g_B ht hG⟩, hG.2.2.F ht⟩) hG.2.2.2.2 dX11_odds_34
      · replace HW := HW.2 c_11
        refine lv_bipush (v := (-2)) hx hb dX11_odds_14 (by decide) ?_
        exact W.iret (v := (-2 : Int32)) hx hb hr (fun t ht hW => ⟨⟨(-2 : Int32), (h_8, g_8), rfl, HW, g_B ht hG⟩, hG.2.2.F ht⟩) hG.2.2.2.2 dX11_odds_16
  exact E0 _ _ _ hG hl

def w_X11_whole (x1 : Int32) (h : HI) (g : HL) (Q : Int32 → HI → HL → Prop) : Prop :=
  (vp_in (9 : Int32) 887 ∧ (vp_in (10 : Int32) 887 ∧ (∃ P_17 : Int32 → HI → HL → Prop, w_X11_partOf x1 (0 : Int32) h g P_17 ∧ ∀ (r_17 : Int32) (h_17 : HI) (g_17 : HL), P_17 r_17 h_17 g_17 → (∀ x2_22 : Int32, x2_22 = ((h 136 (9 : Int32).toNatClampNeg) + ((h 136 (10 : Int32).toNatClampNeg) * r_17)) → ((x2_22 ≤ (1000 : Int32) → Q ((1000 : Int32) - x2_22) h_17 g_17) ∧ (¬ x2_22 ≤ (1000 : Int32) → Q (0 : Int32) h_17 g_17))))))
set_option maxHeartbeats 8000000 in
set_option maxRecDepth 100000 in
theorem m_X11_whole (l : Launch) (D : va_G) (cy : Nat → ClassId) (ad : Nat → Nat) (h : HI) (g : HL) (sz : Nat) (x1 : Int32) (Q : Int32 → HI → HL → Prop) (HW : w_X11_whole x1 h g Q) : Met l yX11_whole (wa yX11_whole cX11_whole 3 (some .int)) ({ frames := 1, cells := 0, slots := 0, locals := 22 }) (va_Pc [.ref (ad 135), .int x1] (gI D cy ad h g sz)) (va_Qi (fun (r : Int32) (u : HI × HL) => Q r u.1 u.2) (gB D cy ad sz) (gA ad sz)) 0 0 (gA ad sz) := by
  refine Met.ofW (cc := cX11_whole) (maxL := 3) (ret := (some .int)) (by decide) rfl ?_
  intro p e s m args below meth c s₁ B hml hv
  obtain ⟨hav, hsz, hP, hK, hD0, hNw⟩ := hv
  have hx := B.exec
  have hb := B.bytes
  have hr := B.returns
  have hts := atoms_spec (ws := (wa yX11_whole cX11_whole 3 (some .int))) B.pre
  have hw := wa_hw hts
  have hown : s.vm.findClass RX11 = some m.cls := findClass_of_methodNamed B.named
  have hlocks := B.notSynchronized
  subst hsz
  have hG : gG D cy ad (gA ad s.heap.size) s.heap h g s.heap [] := ⟨hP, gA_self hD0, va_S.rf⟩
  clear hP hD0
  have lk7 := hw (.fieldLink RX11 7 "OldWorksModel" "st" "[I") (wm5 27 rfl rfl)
  rw [show (headSpec (wa yX11_whole cX11_whole 3 (some .int)) ({ frames := 1, cells := 0, slots := 0, locals := 22 } : Room)).room = ({ frames := 1, cells := 0, slots := 0, locals := 22 } : Room) from rfl]
  have hl := lv_entry ([.ref (ad 135), .int x1]) (n := 3) (Nat.le_of_ble_eq_true rfl)
  rw [show entryFrame m args 3 = entryFrame m ([.ref (ad 135), .int x1] : List Value).toArray 3 from by rw [hav], lg_entry_eq]
  generalize (lg_sl ([.ref (ad 135), .int x1]) ++ List.replicate (3 - (lg_sl ([.ref (ad 135), .int x1])).length) Slot.unset).toArray = ls at hl ⊢
  have hl : lv_has ls 3 [(0, .ref (ad 135)), (1, .int x1)] := hl
  have E0 : ∀ (H : Heap) (locs : List Loc) (ls : Array Slot), gG D cy ad (gA ad s.heap.size) s.heap h g H locs → lv_has ls 3 [(0, .ref (ad 135)), (1, .int x1)] → W p l e ({ frames := 1, cells := 0, slots := 0, locals := 22 } : Room) s m args below meth c H locs 0 0 (MQ below (va_Qi (fun (r : Int32) (u : HI × HL) => Q r u.1 u.2) (gB D cy ad s.heap.size) (gA ad s.heap.size)) args s 0 0 (gA ad s.heap.size)) (F0 m 0 ls []) := by
    intro H locs ls hG hl
    unfold w_X11_whole at HW
    refine lv_aload_n hx hb dX11_whole_0 rfl (lv_at hl 0 rfl) ?_
    refine g_getr hx hb hw inG11 hown hK hG gl_135 rfl gk_135 (by decide) 0 (by decide) (by rw [gm_135]; decide) (r := 136) gr_135_0 lk7 dX11_whole_1 ?_
    refine lv_bipush (v := 9) hx hb dX11_whole_4 (by decide) ?_
    refine g_iald hx hb hK hG gl_136 gk_136 gn_136 HW.1 dX11_whole_6 ?_
    replace HW := HW.2
    refine lv_aload_n hx hb dX11_whole_7 rfl (lv_at hl 0 rfl) ?_
    refine g_getr hx hb hw inG11 hown hK hG gl_135 rfl gk_135 (by decide) 0 (by decide) (by rw [gm_135]; decide) (r := 136) gr_135_0 lk7 dX11_whole_8 ?_
    refine lv_bipush (v := 10) hx hb dX11_whole_11 (by decide) ?_
    refine g_iald hx hb hK hG gl_136 gk_136 gn_136 HW.1 dX11_whole_13 ?_
    replace HW := HW.2
    refine lv_aload_n hx hb dX11_whole_14 rfl (lv_at hl 0 rfl) ?_
    refine lv_iload_n hx hb dX11_whole_15 rfl (lv_at hl 1 rfl) ?_
    refine lv_iconst (v := 0) hx hb dX11_whole_16 (by decide) ?_
    obtain ⟨P_17, HC_17, HW⟩ := HW
    refine g_calli (g_runV (As := [.int x1, .int (0 : Int32)]) (rest := [.int (h 136 (10 : Int32).toNatClampNeg), .int (h 136 (9 : Int32).toNatClampNeg)]) ⟨hx, hb, hml, hown, hts⟩ (m_X11_partOf l D cy ad h g H.size x1 (0 : Int32) P_17 HC_17) (cwV 2 hts (gd_V (wm5 192 rfl rfl) (wm5 194 rfl rfl) (wmp4 (q := (yX11_partOf, 26)) 0 rfl) (wm1 13 rfl rfl) (wm5 195 rfl rfl)) rfl rfl rfl (by decide +kernel) ⟨Nat.le_of_ble_eq_true rfl, Nat.le_of_ble_eq_true rfl⟩) hK hNw hG gl_135 rfl gk_135 (by decide) rfl rfl hl.1 rfl (lv_room (Nat.le_of_ble_eq_true rfl)) dX11_whole_17 ⟨Nat.zero_le _, Nat.zero_le _⟩) hG (fun r_17 h_17 g_17 H locs hq hG => ?_)
    replace HW := HW r_17 h_17 g_17 hq
    refine lv_imul hx hb dX11_whole_20 ?_
    refine lv_iadd hx hb dX11_whole_21 ?_
    refine lv_topi (fun x2_22 ex2_22 => ?_)
    replace HW := HW x2_22 ex2_22
    refine lv_istore_n (lv' := [(2, .int x2_22), (0, .ref (ad 135)), (1, .int x1)]) hx hb dX11_whole_22 rfl hl (by decide) rfl (fun ls hl => ?_)
    refine lv_iload_n hx hb dX11_whole_23 rfl (lv_at hl 0 rfl) ?_
    refine lv_sipush (v := 1000) hx hb dX11_whole_24 (by decide) ?_
    refine lv_icmp_le (tgt := 34) hx hb dX11_whole_27 (by decide) (fun c_27 => ?_) (fun c_27 => ?_)
    · replace HW := HW.1 c_27
      refine lv_sipush (v := 1000) hx hb dX11_whole_34 (by decide) ?_
      refine lv_iload_n hx hb dX11_whole_37 rfl (lv_at hl 0 rfl) ?_
      refine lv_isub hx hb dX11_whole_38 ?_
      exact W.iret (v := ((1000 : Int32) - x2_22)) hx hb hr (fun t ht hW => ⟨⟨((1000 : Int32) - x2_22), (h_17, g_17), rfl, HW, g_B ht hG⟩, hG.2.2.F ht⟩) hG.2.2.2.2 dX11_whole_39
    · replace HW := HW.2 c_27
      refine lv_iconst (v := 0) hx hb dX11_whole_30 (by decide) ?_
      refine lv_goto (tgt := 39) hx hb dX11_whole_31 (by decide) ?_
      exact W.iret (v := (0 : Int32)) hx hb hr (fun t ht hW => ⟨⟨(0 : Int32), (h_17, g_17), rfl, HW, g_B ht hG⟩, hG.2.2.F ht⟩) hG.2.2.2.2 dX11_whole_39
  exact E0 _ _ _ hG hl

def b_X11_powers_9 (Q : HI → HL → Prop) (K9 : Int32 → Int32 → Int32 → Int32 → HI → HL → Prop) (x1 : Int32) (x2 : Int32) (x3 : Int32) (x4 : Int32) (h : HI) (g : HL) : Prop :=
  ((x3 ≤ x4 → Q h g) ∧ (¬ x3 ≤ x4 → (∃ P_18 : HI → HL → Prop, w_X11_times x1 x2 h g P_18 ∧ ∀ (h_18 : HI) (g_18 : HL), P_18 h_18 g_18 → (∀ x4_21 : Int32, x4_21 = (x4 + 1) → K9 x1 x2 x3 x4_21 h_18 g_18))))
def F_X11_powers_9 (Q : HI → HL → Prop) (K : Int32 × Int32 × Int32 × Int32 × HI × HL → Prop) (q : Int32 × Int32 × Int32 × Int32 × HI × HL) : Prop := b_X11_powers_9 Q (fun x1 x2 x3 x4 h g => K (x1, x2, x3, x4, h, g)) q.1 q.2.1 q.2.2.1 q.2.2.2.1 q.2.2.2.2.1 q.2.2.2.2.2
def w_X11_powers (x1 : Int32) (x2 : Int32) (x3 : Int32) (h : HI) (g : HL) (Q : HI → HL → Prop) : Prop :=
  (∃ P_3 : HI → HL → Prop, w_X11_sets x1 (1 : Int32) h g P_3 ∧ ∀ (h_3 : HI) (g_3 : HL), P_3 h_3 g_3 → lpE (F_X11_powers_9 Q) (x1, x2, x3, (0 : Int32), h_3, g_3))
set_option maxHeartbeats 8000000 in
set_option maxRecDepth 100000 in
theorem m_X11_powers (l : Launch) (D : va_G) (cy : Nat → ClassId) (ad : Nat → Nat) (h : HI) (g : HL) (sz : Nat) (x1 : Int32) (x2 : Int32) (x3 : Int32) (Q : HI → HL → Prop) (HW : w_X11_powers x1 x2 x3 h g Q) : Met l yX11_powers (wa yX11_powers cX11_powers 5 none) ({ frames := 1, cells := 0, slots := 0, locals := 27 }) (va_Pc [.ref (ad 135), .int x1, .int x2, .int x3] (gI D cy ad h g sz)) (va_Qv (fun (u : HI × HL) => Q u.1 u.2) (gB D cy ad sz) (gA ad sz)) 0 0 (gA ad sz) := by
  refine Met.ofW (cc := cX11_powers) (maxL := 5) (ret := none) (by decide) rfl ?_
  intro p e s m args below meth c s₁ B hml hv
  obtain ⟨hav, hsz, hP, hK, hD0, hNw⟩ := hv
  have hx := B.exec
  have hb := B.bytes
  have hr := B.returns
  have hts := atoms_spec (ws := (wa yX11_powers cX11_powers 5 none)) B.pre
  have hw := wa_hw hts
  have hown : s.vm.findClass RX11 = some m.cls := findClass_of_methodNamed B.named
  have hlocks := B.notSynchronized
  subst hsz
  have hG : gG D cy ad (gA ad s.heap.size) s.heap h g s.heap [] := ⟨hP, gA_self hD0, va_S.rf⟩
  clear hP hD0
  rw [show (headSpec (wa yX11_powers cX11_powers 5 none) ({ frames := 1, cells := 0, slots := 0, locals := 27 } : Room)).room = ({ frames := 1, cells := 0, slots := 0, locals := 27 } : Room) from rfl]
  have hl := lv_entry ([.ref (ad 135), .int x1, .int x2, .int x3]) (n := 5) (Nat.le_of_ble_eq_true rfl)
  rw [show entryFrame m args 5 = entryFrame m ([.ref (ad 135), .int x1, .int x2, .int x3] : List Value).toArray 5 from by rw [hav], lg_entry_eq]
  generalize (lg_sl ([.ref (ad 135), .int x1, .int x2, .int x3]) ++ List.replicate (5 - (lg_sl ([.ref (ad 135), .int x1, .int x2, .int x3])).length) Slot.unset).toArray = ls at hl ⊢
  have hl : lv_has ls 5 [(0, .ref (ad 135)), (1, .int x1), (2, .int x2), (3, .int x3)] := hl
  have L9 : ∀ (n : Nat) (x1 : Int32) (x2 : Int32) (x3 : Int32) (x4 : Int32) (h : HI) (g : HL) (H : Heap) (locs : List Loc) (ls : Array Slot), lpN (F_X11_powers_9 Q) n (x1, x2, x3, x4, h, g) → gG D cy ad (gA ad s.heap.size) s.heap h g H locs → lv_has ls 5 [(0, .ref (ad 135)), (1, .int x1), (2, .int x2), (3, .int x3), (4, .int x4)] → W p l e ({ frames := 1, cells := 0, slots := 0, locals := 27 } : Room) s m args below meth c H locs 0 0 (MQ below (va_Qv (fun (u : HI × HL) => Q u.1 u.2) (gB D cy ad s.heap.size) (gA ad s.heap.size)) args s 0 0 (gA ad s.heap.size)) (F0 m 9 ls []) := by
    intro n
    induction n with
    | zero => intro x1 x2 x3 x4 h g H locs ls HW; exact HW.elim
    | succ n ih =>
      intro x1 x2 x3 x4 h g H locs ls HW hG hl
      have HW : b_X11_powers_9 Q (fun x1 x2 x3 x4 h g => lpN (F_X11_powers_9 Q) n (x1, x2, x3, x4, h, g)) x1 x2 x3 x4 h g := HW
      generalize hKe : (fun (x1 : Int32) (x2 : Int32) (x3 : Int32) (x4 : Int32) (h : HI) (g : HL) => lpN (F_X11_powers_9 Q) n (x1, x2, x3, x4, h, g)) = K9 at HW
      have hK9 : ∀ (x1 : Int32) (x2 : Int32) (x3 : Int32) (x4 : Int32) (h : HI) (g : HL) (H : Heap) (locs : List Loc) (ls : Array Slot), K9 x1 x2 x3 x4 h g → gG D cy ad (gA ad s.heap.size) s.heap h g H locs → lv_has ls 5 [(0, .ref (ad 135)), (1, .int x1), (2, .int x2), (3, .int x3), (4, .int x4)] → W p l e ({ frames := 1, cells := 0, slots := 0, locals := 27 } : Room) s m args below meth c H locs 0 0 (MQ below (va_Qv (fun (u : HI × HL) => Q u.1 u.2) (gB D cy ad s.heap.size) (gA ad s.heap.size)) args s 0 0 (gA ad s.heap.size)) (F0 m 9 ls []) := by subst hKe; exact ih
      clear ih
      clear hKe
      unfold b_X11_powers_9 at HW
      refine lv_iload hx hb dX11_powers_9 (lv_at hl 4 rfl) ?_
      refine lv_iload_n hx hb dX11_powers_11 rfl (lv_at hl 3 rfl) ?_
      refine lv_icmp_ge (tgt := 27) hx hb dX11_powers_12 (by decide) (fun c_12 => ?_) (fun c_12 => ?_)
      · replace HW := HW.1 c_12
        exact W.vret hx hb hr (fun t ht hW => ⟨⟨(h, g), rfl, HW, g_B ht hG⟩, hG.2.2.F ht⟩) hG.2.2.2.2 dX11_powers_27
      · replace HW := HW.2 c_12
        refine lv_aload_n hx hb dX11_powers_15 rfl (lv_at hl 0 rfl) ?_
        refine lv_iload_n hx hb dX11_powers_16 rfl (lv_at hl 1 rfl) ?_
        refine lv_iload_n hx hb dX11_powers_17 rfl (lv_at hl 2 rfl) ?_
        obtain ⟨P_18, HC_18, HW⟩ := HW
        refine g_callv (g_runV (As := [.int x1, .int x2]) (rest := []) ⟨hx, hb, hml, hown, hts⟩ (m_X11_times l D cy ad h g H.size x1 x2 P_18 HC_18) (cwV 2 hts (gd_V (wm6 141 rfl rfl) (wm6 143 rfl rfl) (wmp5 (q := (yX11_times, 26)) 8 rfl) (wm1 13 rfl rfl) (wm6 144 rfl rfl)) rfl rfl rfl (by decide +kernel) ⟨Nat.le_of_ble_eq_true rfl, Nat.le_of_ble_eq_true rfl⟩) hK hNw hG gl_135 rfl gk_135 (by decide) rfl rfl hl.1 rfl (lv_room (Nat.le_of_ble_eq_true rfl)) dX11_powers_18 ⟨Nat.zero_le _, Nat.zero_le _⟩) hG (fun h_18 g_18 H locs hq hG => ?_)
        replace HW := HW h_18 g_18 hq
        obtain ⟨x4_21, ex4_21⟩ : ∃ y : Int32, y = (x4 + 1) := ⟨_, rfl⟩
        replace HW := HW x4_21 ex4_21
        refine lv_iinc (v := x4_21) (lv' := [(4, .int x4_21), (0, .ref (ad 135)), (1, .int x1), (2, .int x2), (3, .int x3)]) hx hb dX11_powers_21 hl (k := 4) rfl (by rw [ex4_21]; rfl) (by decide) rfl (fun ls hl => ?_)
        refine lv_goto (tgt := 9) hx hb dX11_powers_24 (by decide) ?_
        exact hK9 x1 x2 x3 x4_21 h_18 g_18 _ _ _ HW hG (lv_sub hl [1, 2, 3, 4, 0] rfl)
  have E0 : ∀ (H : Heap) (locs : List Loc) (ls : Array Slot), gG D cy ad (gA ad s.heap.size) s.heap h g H locs → lv_has ls 5 [(0, .ref (ad 135)), (1, .int x1), (2, .int x2), (3, .int x3)] → W p l e ({ frames := 1, cells := 0, slots := 0, locals := 27 } : Room) s m args below meth c H locs 0 0 (MQ below (va_Qv (fun (u : HI × HL) => Q u.1 u.2) (gB D cy ad s.heap.size) (gA ad s.heap.size)) args s 0 0 (gA ad s.heap.size)) (F0 m 0 ls []) := by
    intro H locs ls hG hl
    unfold w_X11_powers at HW
    refine lv_aload_n hx hb dX11_powers_0 rfl (lv_at hl 0 rfl) ?_
    refine lv_iload_n hx hb dX11_powers_1 rfl (lv_at hl 1 rfl) ?_
    refine lv_iconst (v := 1) hx hb dX11_powers_2 (by decide) ?_
    obtain ⟨P_3, HC_3, HW⟩ := HW
    refine g_callv (g_runV (As := [.int x1, .int (1 : Int32)]) (rest := []) ⟨hx, hb, hml, hown, hts⟩ (m_X11_sets l D cy ad h g H.size x1 (1 : Int32) P_3 HC_3) (cwV 2 hts (gd_V (wm6 137 rfl rfl) (wm6 139 rfl rfl) (wmp5 (q := (yX11_sets, 26)) 7 rfl) (wm1 13 rfl rfl) (wm6 140 rfl rfl)) rfl rfl rfl (by decide +kernel) ⟨Nat.le_of_ble_eq_true rfl, Nat.le_of_ble_eq_true rfl⟩) hK hNw hG gl_135 rfl gk_135 (by decide) rfl rfl hl.1 rfl (lv_room (Nat.le_of_ble_eq_true rfl)) dX11_powers_3 ⟨Nat.zero_le _, Nat.zero_le _⟩) hG (fun h_3 g_3 H locs hq hG => ?_)
    replace HW := HW h_3 g_3 hq
    refine lv_iconst (v := 0) hx hb dX11_powers_6 (by decide) ?_
    refine lv_istore (lv' := [(4, .int (0 : Int32)), (0, .ref (ad 135)), (1, .int x1), (2, .int x2), (3, .int x3)]) hx hb dX11_powers_7 hl (by decide) rfl (fun ls hl => ?_)
    obtain ⟨n_9, HW⟩ := HW
    exact L9 n_9 x1 x2 x3 (0 : Int32) h_3 g_3 _ _ _ HW hG (lv_sub hl [1, 2, 3, 4, 0] rfl)
  exact E0 _ _ _ hG hl

def j_X11_lasts_47 (Q : Int32 → HI → HL → Prop) (x2 : Int32) (x3 : Int32) (s0 : Int32) (h : HI) (g : HL) : Prop :=
  (¬ s0 = 0 ∧ (∃ P_56 : HI → HL → Prop, w_X11_powers (0 : Int32) (x3 / s0) x2 h g P_56 ∧ ∀ (h_56 : HI) (g_56 : HL), P_56 h_56 g_56 → (¬ s0 = 0 ∧ (∃ P_68 : HI → HL → Prop, w_X11_powers (1 : Int32) ((1000 : Int32) / s0) x2 h_56 g_56 P_68 ∧ ∀ (h_68 : HI) (g_68 : HL), P_68 h_68 g_68 → Q (1 : Int32) h_68 g_68))))
def w_X11_lasts (x1 : Int32) (x2 : Int32) (h : HI) (g : HL) (Q : Int32 → HI → HL → Prop) : Prop :=
  (∃ P_3 : Int32 → HI → HL → Prop, w_X11_is (0 : Int32) x1 h g P_3 ∧ ∀ (r_3 : Int32) (h_3 : HI) (g_3 : HL), zb r_3 → P_3 r_3 h_3 g_3 → ((r_3 = 0 → Q (-2 : Int32) h_3 g_3) ∧ (¬ r_3 = 0 → (∃ P_15 : Int32 → HI → HL → Prop, w_X11_in ((x2).toInt64) (0 : Int64) (60 : Int64) h_3 g_3 P_15 ∧ ∀ (r_15 : Int32) (h_15 : HI) (g_15 : HL), zb r_15 → P_15 r_15 h_15 g_15 → ((¬ r_15 = 0 → (∃ P_26 : Int32 → HI → HL → Prop, w_X11_whole x1 h_15 g_15 P_26 ∧ ∀ (r_26 : Int32) (h_26 : HI) (g_26 : HL), P_26 r_26 h_26 g_26 → ((¬ r_26 = 0 → (∃ P_44 : Int32 → HI → HL → Prop, w_X11_divisor r_26 (1000 : Int32) h_26 g_26 P_44 ∧ ∀ (r_44 : Int32) (h_44 : HI) (g_44 : HL), P_44 r_44 h_44 g_44 → j_X11_lasts_47 Q x2 r_26 r_44 h_44 g_44)) ∧ (r_26 = 0 → j_X11_lasts_47 Q x2 r_26 (1000 : Int32) h_26 g_26)))) ∧ (r_15 = 0 → Q (-2 : Int32) h_15 g_15))))))
set_option maxHeartbeats 8000000 in
set_option maxRecDepth 100000 in
theorem m_X11_lasts (l : Launch) (D : va_G) (cy : Nat → ClassId) (ad : Nat → Nat) (h : HI) (g : HL) (sz : Nat) (x1 : Int32) (x2 : Int32) (Q : Int32 → HI → HL → Prop) (HW : w_X11_lasts x1 x2 h g Q) : Met l yX11_lasts (wa yX11_lasts cX11_lasts 5 (some .int)) ({ frames := 2, cells := 0, slots := 0, locals := 51 }) (va_Pc [.ref (ad 135), .int x1, .int x2] (gI D cy ad h g sz)) (va_Qi (fun (r : Int32) (u : HI × HL) => Q r u.1 u.2) (gB D cy ad sz) (gA ad sz)) 0 0 (gA ad sz) := by
  refine Met.ofW (cc := cX11_lasts) (maxL := 5) (ret := (some .int)) (by decide) rfl ?_
  intro p e s m args below meth c s₁ B hml hv
  obtain ⟨hav, hsz, hP, hK, hD0, hNw⟩ := hv
  have hx := B.exec
  have hb := B.bytes
  have hr := B.returns
  have hts := atoms_spec (ws := (wa yX11_lasts cX11_lasts 5 (some .int))) B.pre
  have hw := wa_hw hts
  have hown : s.vm.findClass RX11 = some m.cls := findClass_of_methodNamed B.named
  have hlocks := B.notSynchronized
  subst hsz
  have hG : gG D cy ad (gA ad s.heap.size) s.heap h g s.heap [] := ⟨hP, gA_self hD0, va_S.rf⟩
  clear hP hD0
  have cn269 := hw (.constantLong RX11 269 (60)) (wm6 125 rfl rfl)
  rw [show (headSpec (wa yX11_lasts cX11_lasts 5 (some .int)) ({ frames := 2, cells := 0, slots := 0, locals := 51 } : Room)).room = ({ frames := 2, cells := 0, slots := 0, locals := 51 } : Room) from rfl]
  have hl := lv_entry ([.ref (ad 135), .int x1, .int x2]) (n := 5) (Nat.le_of_ble_eq_true rfl)
  rw [show entryFrame m args 5 = entryFrame m ([.ref (ad 135), .int x1, .int x2] : List Value).toArray 5 from by rw [hav], lg_entry_eq]
  generalize (lg_sl ([.ref (ad 135), .int x1, .int x2]) ++ List.replicate (5 - (lg_sl ([.ref (ad 135), .int x1, .int x2])).length) Slot.unset).toArray = ls at hl ⊢
  have hl : lv_has ls 5 [(0, .ref (ad 135)), (1, .int x1), (2, .int x2)] := hl
  have B47 : ∀ (x2 : Int32) (x3 : Int32) (s0 : Int32) (h : HI) (g : HL) (H : Heap) (locs : List Loc) (ls : Array Slot), j_X11_lasts_47 Q x2 x3 s0 h g → gG D cy ad (gA ad s.heap.size) s.heap h g H locs → lv_has ls 5 [(0, .ref (ad 135)), (2, .int x2), (3, .int x3)] → W p l e ({ frames := 2, cells := 0, slots := 0, locals := 51 } : Room) s m args below meth c H locs 0 0 (MQ below (va_Qi (fun (r : Int32) (u : HI × HL) => Q r u.1 u.2) (gB D cy ad s.heap.size) (gA ad s.heap.size)) args s 0 0 (gA ad s.heap.size)) (F0 m 47 ls [.int s0]) := by
    intro x2 x3 s0 h g H locs ls HW hG hl
    unfold j_X11_lasts_47 at HW
    refine lv_istore (lv' := [(4, .int s0), (0, .ref (ad 135)), (2, .int x2), (3, .int x3)]) hx hb dX11_lasts_47 hl (by decide) rfl (fun ls hl => ?_)
    refine lv_aload_n hx hb dX11_lasts_49 rfl (lv_at hl 1 rfl) ?_
    refine lv_iconst (v := 0) hx hb dX11_lasts_50 (by decide) ?_
    refine lv_iload_n hx hb dX11_lasts_51 rfl (lv_at hl 3 rfl) ?_
    refine lv_iload hx hb dX11_lasts_52 (lv_at hl 0 rfl) ?_
    refine lv_idiv hx hb dX11_lasts_54 HW.1 ?_
    replace HW := HW.2
    refine lv_iload_n hx hb dX11_lasts_55 rfl (lv_at hl 2 rfl) ?_
    obtain ⟨P_56, HC_56, HW⟩ := HW
    refine g_callv (g_runV (As := [.int (0 : Int32), .int (x3 / s0), .int x2]) (rest := []) ⟨hx, hb, hml, hown, hts⟩ (m_X11_powers l D cy ad h g H.size (0 : Int32) (x3 / s0) x2 P_56 HC_56) (cwV 3 hts (gd_V (wm6 133 rfl rfl) (wm6 135 rfl rfl) (wmp5 (q := (yX11_powers, 26)) 6 rfl) (wm1 13 rfl rfl) (wm6 136 rfl rfl)) rfl rfl rfl (by decide +kernel) ⟨Nat.le_of_ble_eq_true rfl, Nat.le_of_ble_eq_true rfl⟩) hK hNw hG gl_135 rfl gk_135 (by decide) rfl rfl hl.1 rfl (lv_room (Nat.le_of_ble_eq_true rfl)) dX11_lasts_56 ⟨Nat.zero_le _, Nat.zero_le _⟩) hG (fun h_56 g_56 H locs hq hG => ?_)
    replace HW := HW h_56 g_56 hq
    refine lv_aload_n hx hb dX11_lasts_59 rfl (lv_at hl 1 rfl) ?_
    refine lv_iconst (v := 1) hx hb dX11_lasts_60 (by decide) ?_
    refine lv_sipush (v := 1000) hx hb dX11_lasts_61 (by decide) ?_
    refine lv_iload hx hb dX11_lasts_64 (lv_at hl 0 rfl) ?_
    refine lv_idiv hx hb dX11_lasts_66 HW.1 ?_
    replace HW := HW.2
    refine lv_iload_n hx hb dX11_lasts_67 rfl (lv_at hl 2 rfl) ?_
    obtain ⟨P_68, HC_68, HW⟩ := HW
    refine g_callv (g_runV (As := [.int (1 : Int32), .int ((1000 : Int32) / s0), .int x2]) (rest := []) ⟨hx, hb, hml, hown, hts⟩ (m_X11_powers l D cy ad h_56 g_56 H.size (1 : Int32) ((1000 : Int32) / s0) x2 P_68 HC_68) (cwV 3 hts (gd_V (wm6 133 rfl rfl) (wm6 135 rfl rfl) (wmp5 (q := (yX11_powers, 26)) 6 rfl) (wm1 13 rfl rfl) (wm6 136 rfl rfl)) rfl rfl rfl (by decide +kernel) ⟨Nat.le_of_ble_eq_true rfl, Nat.le_of_ble_eq_true rfl⟩) hK hNw hG gl_135 rfl gk_135 (by decide) rfl rfl hl.1 rfl (lv_room (Nat.le_of_ble_eq_true rfl)) dX11_lasts_68 ⟨Nat.zero_le _, Nat.zero_le _⟩) hG (fun h_68 g_68 H locs hq hG => ?_)
    replace HW := HW h_68 g_68 hq
    refine lv_iconst (v := 1) hx hb dX11_lasts_71 (by decide) ?_
    exact W.iret (v := (1 : Int32)) hx hb hr (fun t ht hW => ⟨⟨(1 : Int32), (h_68, g_68), rfl, HW, g_B ht hG⟩, hG.2.2.F ht⟩) hG.2.2.2.2 dX11_lasts_72
  have E0 : ∀ (H : Heap) (locs : List Loc) (ls : Array Slot), gG D cy ad (gA ad s.heap.size) s.heap h g H locs → lv_has ls 5 [(0, .ref (ad 135)), (1, .int x1), (2, .int x2)] → W p l e ({ frames := 2, cells := 0, slots := 0, locals := 51 } : Room) s m args below meth c H locs 0 0 (MQ below (va_Qi (fun (r : Int32) (u : HI × HL) => Q r u.1 u.2) (gB D cy ad s.heap.size) (gA ad s.heap.size)) args s 0 0 (gA ad s.heap.size)) (F0 m 0 ls []) := by
    intro H locs ls hG hl
    unfold w_X11_lasts at HW
    refine lv_aload_n hx hb dX11_lasts_0 rfl (lv_at hl 0 rfl) ?_
    refine lv_iconst (v := 0) hx hb dX11_lasts_1 (by decide) ?_
    refine lv_iload_n hx hb dX11_lasts_2 rfl (lv_at hl 1 rfl) ?_
    obtain ⟨P_3, HC_3, HW⟩ := HW
    refine g_callz (g_runV (As := [.int (0 : Int32), .int x1]) (rest := []) ⟨hx, hb, hml, hown, hts⟩ (m_X11_is l D cy ad h g H.size (0 : Int32) x1 P_3 HC_3) (cwV 2 hts (gd_V (wm5 184 rfl rfl) (wm5 186 rfl rfl) (wmp3 (q := (yX11_is, 26)) 14 rfl) (wm1 13 rfl rfl) (wm5 187 rfl rfl)) rfl rfl rfl (by decide +kernel) ⟨Nat.le_of_ble_eq_true rfl, Nat.le_of_ble_eq_true rfl⟩) hK hNw hG gl_135 rfl gk_135 (by decide) rfl rfl hl.1 rfl (lv_room (Nat.le_of_ble_eq_true rfl)) dX11_lasts_3 ⟨Nat.zero_le _, Nat.zero_le _⟩) hG (fun r_3 h_3 g_3 H locs hz hq hG => ?_)
    replace HW := HW r_3 h_3 g_3 hz hq
    refine lv_if_eq (tgt := 21) hx hb dX11_lasts_6 (by decide) (fun c_6 => ?_) (fun c_6 => ?_)
    · replace HW := HW.1 c_6
      refine lv_bipush (v := (-2)) hx hb dX11_lasts_21 (by decide) ?_
      exact W.iret (v := (-2 : Int32)) hx hb hr (fun t ht hW => ⟨⟨(-2 : Int32), (h_3, g_3), rfl, HW, g_B ht hG⟩, hG.2.2.F ht⟩) hG.2.2.2.2 dX11_lasts_23
    · replace HW := HW.2 c_6
      refine lv_iload_n hx hb dX11_lasts_9 rfl (lv_at hl 2 rfl) ?_
      refine lv_i2l hx hb dX11_lasts_10 rfl ?_
      refine lv_lconst (v := 0) hx hb dX11_lasts_11 (by decide) ?_
      refine lv_ldc2 (v := 60) hx hb hown cn269 dX11_lasts_12 ?_
      obtain ⟨P_15, HC_15, HW⟩ := HW
      refine g_callz (g_runS (As := [.long ((x2).toInt64), .long (0 : Int64), .long (60 : Int64)]) (rest := []) ⟨hx, hb, hml, hown, hts⟩ (m_X11_in l D cy ad h_3 g_3 H.size ((x2).toInt64) (0 : Int64) (60 : Int64) P_15 HC_15) (va_cwS 3 hts (gd_S (wm5 111 rfl rfl) (wm5 112 rfl rfl) (wm1 13 rfl rfl) (wm5 113 rfl rfl)) rfl rfl rfl (by decide +kernel) ⟨Nat.le_of_ble_eq_true rfl, Nat.le_of_ble_eq_true rfl⟩) hK hNw hG rfl rfl hl.1 rfl (lv_room (Nat.le_of_ble_eq_true rfl)) dX11_lasts_15 ⟨Nat.zero_le _, Nat.zero_le _⟩) hG (fun r_15 h_15 g_15 H locs hz hq hG => ?_)
      replace HW := HW r_15 h_15 g_15 hz hq
      refine lv_if_ne (tgt := 24) hx hb dX11_lasts_18 (by decide) (fun c_18 => ?_) (fun c_18 => ?_)
      · replace HW := HW.1 c_18
        refine lv_aload_n hx hb dX11_lasts_24 rfl (lv_at hl 0 rfl) ?_
        refine lv_iload_n hx hb dX11_lasts_25 rfl (lv_at hl 1 rfl) ?_
        obtain ⟨P_26, HC_26, HW⟩ := HW
        refine g_calli (g_runV (As := [.int x1]) (rest := []) ⟨hx, hb, hml, hown, hts⟩ (m_X11_whole l D cy ad h_15 g_15 H.size x1 P_26 HC_26) (cwV 1 hts (gd_V (wm6 126 rfl rfl) (wm6 128 rfl rfl) (wmp5 (q := (yX11_whole, 26)) 5 rfl) (wm1 13 rfl rfl) (wm6 129 rfl rfl)) rfl rfl rfl (by decide +kernel) ⟨Nat.le_of_ble_eq_true rfl, Nat.le_of_ble_eq_true rfl⟩) hK hNw hG gl_135 rfl gk_135 (by decide) rfl rfl hl.1 rfl (lv_room (Nat.le_of_ble_eq_true rfl)) dX11_lasts_26 ⟨Nat.zero_le _, Nat.zero_le _⟩) hG (fun r_26 h_26 g_26 H locs hq hG => ?_)
        replace HW := HW r_26 h_26 g_26 hq
        refine lv_istore_n (lv' := [(3, .int r_26), (0, .ref (ad 135)), (1, .int x1), (2, .int x2)]) hx hb dX11_lasts_29 rfl hl (by decide) rfl (fun ls hl => ?_)
        refine lv_iload_n hx hb dX11_lasts_30 rfl (lv_at hl 0 rfl) ?_
        refine lv_if_ne (tgt := 40) hx hb dX11_lasts_31 (by decide) (fun c_31 => ?_) (fun c_31 => ?_)
        · replace HW := HW.1 c_31
          refine lv_iload_n hx hb dX11_lasts_40 rfl (lv_at hl 0 rfl) ?_
          refine lv_sipush (v := 1000) hx hb dX11_lasts_41 (by decide) ?_
          obtain ⟨P_44, HC_44, HW⟩ := HW
          refine g_calli (g_runS (As := [.int r_26, .int (1000 : Int32)]) (rest := []) ⟨hx, hb, hml, hown, hts⟩ (m_X11_divisor l D cy ad h_26 g_26 H.size r_26 (1000 : Int32) P_44 HC_44) (va_cwS 2 hts (gd_S (wm6 130 rfl rfl) (wm6 131 rfl rfl) (wm1 13 rfl rfl) (wm6 132 rfl rfl)) rfl rfl rfl (by decide +kernel) ⟨Nat.le_of_ble_eq_true rfl, Nat.le_of_ble_eq_true rfl⟩) hK hNw hG rfl rfl hl.1 rfl (lv_room (Nat.le_of_ble_eq_true rfl)) dX11_lasts_44 ⟨Nat.zero_le _, Nat.zero_le _⟩) hG (fun r_44 h_44 g_44 H locs hq hG => ?_)
          replace HW := HW r_44 h_44 g_44 hq
          exact B47 x2 r_26 r_44 h_44 g_44 _ _ _ HW hG (lv_sub hl [1, 3, 0] rfl)
        · replace HW := HW.2 c_31
          refine lv_sipush (v := 1000) hx hb dX11_lasts_34 (by decide) ?_
          refine lv_goto (tgt := 47) hx hb dX11_lasts_37 (by decide) ?_
          exact B47 x2 r_26 (1000 : Int32) h_26 g_26 _ _ _ HW hG (lv_sub hl [1, 3, 0] rfl)
      · replace HW := HW.2 c_18
        refine lv_bipush (v := (-2)) hx hb dX11_lasts_21 (by decide) ?_
        exact W.iret (v := (-2 : Int32)) hx hb hr (fun t ht hW => ⟨⟨(-2 : Int32), (h_15, g_15), rfl, HW, g_B ht hG⟩, hG.2.2.F ht⟩) hG.2.2.2.2 dX11_lasts_23
  exact E0 _ _ _ hG hl

def b_X11_half_51 (Q : Int32 → HI → HL → Prop) (K51 : Int32 → Int32 → Int32 → HI → HL → Prop) (x2 : Int32) (x3 : Int32) (x4 : Int32) (h : HI) (g : HL) : Prop :=
  (((200 : Int32) < x4 → Q (-1 : Int32) h g) ∧ (¬ (200 : Int32) < x4 → (¬ x3 = 0 ∧ (∃ P_64 : HI → HL → Prop, w_X11_times (2 : Int32) (x2 / x3) h g P_64 ∧ ∀ (h_64 : HI) (g_64 : HL), P_64 h_64 g_64 → (¬ x3 = 0 ∧ (∃ P_74 : HI → HL → Prop, w_X11_times (3 : Int32) ((1000 : Int32) / x3) h_64 g_64 P_74 ∧ ∀ (h_74 : HI) (g_74 : HL), P_74 h_74 g_74 → (∃ P_80 : Int32 → HI → HL → Prop, w_X11_against (2 : Int32) (3 : Int32) h_74 g_74 P_80 ∧ ∀ (r_80 : Int32) (h_80 : HI) (g_80 : HL), P_80 r_80 h_80 g_80 → ((0 < r_80 → (∀ x4_89 : Int32, x4_89 = (x4 + 1) → K51 x2 x3 x4_89 h_80 g_80)) ∧ (¬ 0 < r_80 → Q x4 h_80 g_80)))))))))
def F_X11_half_51 (Q : Int32 → HI → HL → Prop) (K : Int32 × Int32 × Int32 × HI × HL → Prop) (q : Int32 × Int32 × Int32 × HI × HL) : Prop := b_X11_half_51 Q (fun x2 x3 x4 h g => K (x2, x3, x4, h, g)) q.1 q.2.1 q.2.2.1 q.2.2.2.1 q.2.2.2.2
def j_X11_half_35 (Q : Int32 → HI → HL → Prop) (x2 : Int32) (s0 : Int32) (h : HI) (g : HL) : Prop :=
  (∃ P_39 : HI → HL → Prop, w_X11_sets (2 : Int32) (2 : Int32) h g P_39 ∧ ∀ (h_39 : HI) (g_39 : HL), P_39 h_39 g_39 → (∃ P_45 : HI → HL → Prop, w_X11_sets (3 : Int32) (1 : Int32) h_39 g_39 P_45 ∧ ∀ (h_45 : HI) (g_45 : HL), P_45 h_45 g_45 → lpE (F_X11_half_51 Q) (x2, s0, (1 : Int32), h_45, g_45)))
def w_X11_half (x1 : Int32) (h : HI) (g : HL) (Q : Int32 → HI → HL → Prop) : Prop :=
  (∃ P_3 : Int32 → HI → HL → Prop, w_X11_is (0 : Int32) x1 h g P_3 ∧ ∀ (r_3 : Int32) (h_3 : HI) (g_3 : HL), zb r_3 → P_3 r_3 h_3 g_3 → ((¬ r_3 = 0 → (∃ P_14 : Int32 → HI → HL → Prop, w_X11_whole x1 h_3 g_3 P_14 ∧ ∀ (r_14 : Int32) (h_14 : HI) (g_14 : HL), P_14 r_14 h_14 g_14 → ((¬ r_14 = 0 → (∃ P_32 : Int32 → HI → HL → Prop, w_X11_divisor r_14 (1000 : Int32) h_14 g_14 P_32 ∧ ∀ (r_32 : Int32) (h_32 : HI) (g_32 : HL), P_32 r_32 h_32 g_32 → j_X11_half_35 Q r_14 r_32 h_32 g_32)) ∧ (r_14 = 0 → j_X11_half_35 Q r_14 (1000 : Int32) h_14 g_14)))) ∧ (r_3 = 0 → Q (-2 : Int32) h_3 g_3)))
set_option maxHeartbeats 8000000 in
set_option maxRecDepth 100000 in
theorem m_X11_half (l : Launch) (D : va_G) (cy : Nat → ClassId) (ad : Nat → Nat) (h : HI) (g : HL) (sz : Nat) (x1 : Int32) (Q : Int32 → HI → HL → Prop) (HW : w_X11_half x1 h g Q) : Met l yX11_half (wa yX11_half cX11_half 5 (some .int)) ({ frames := 2, cells := 0, slots := 0, locals := 47 }) (va_Pc [.ref (ad 135), .int x1] (gI D cy ad h g sz)) (va_Qi (fun (r : Int32) (u : HI × HL) => Q r u.1 u.2) (gB D cy ad sz) (gA ad sz)) 0 0 (gA ad sz) := by
  refine Met.ofW (cc := cX11_half) (maxL := 5) (ret := (some .int)) (by decide) rfl ?_
  intro p e s m args below meth c s₁ B hml hv
  obtain ⟨hav, hsz, hP, hK, hD0, hNw⟩ := hv
  have hx := B.exec
  have hb := B.bytes
  have hr := B.returns
  have hts := atoms_spec (ws := (wa yX11_half cX11_half 5 (some .int))) B.pre
  have hw := wa_hw hts
  have hown : s.vm.findClass RX11 = some m.cls := findClass_of_methodNamed B.named
  have hlocks := B.notSynchronized
  subst hsz
  have hG : gG D cy ad (gA ad s.heap.size) s.heap h g s.heap [] := ⟨hP, gA_self hD0, va_S.rf⟩
  clear hP hD0
  rw [show (headSpec (wa yX11_half cX11_half 5 (some .int)) ({ frames := 2, cells := 0, slots := 0, locals := 47 } : Room)).room = ({ frames := 2, cells := 0, slots := 0, locals := 47 } : Room) from rfl]
  have hl := lv_entry ([.ref (ad 135), .int x1]) (n := 5) (Nat.le_of_ble_eq_true rfl)
  rw [show entryFrame m args 5 = entryFrame m ([.ref (ad 135), .int x1] : List Value).toArray 5 from by rw [hav], lg_entry_eq]
  generalize (lg_sl ([.ref (ad 135), .int x1]) ++ List.replicate (5 - (lg_sl ([.ref (ad 135), .int x1])).length) Slot.unset).toArray = ls at hl ⊢
  have hl : lv_has ls 5 [(0, .ref (ad 135)), (1, .int x1)] := hl
  have L51 : ∀ (n : Nat) (x2 : Int32) (x3 : Int32) (x4 : Int32) (h : HI) (g : HL) (H : Heap) (locs : List Loc) (ls : Array Slot), lpN (F_X11_half_51 Q) n (x2, x3, x4, h, g) → gG D cy ad (gA ad s.heap.size) s.heap h g H locs → lv_has ls 5 [(0, .ref (ad 135)), (2, .int x2), (3, .int x3), (4, .int x4)] → W p l e ({ frames := 2, cells := 0, slots := 0, locals := 47 } : Room) s m args below meth c H locs 0 0 (MQ below (va_Qi (fun (r : Int32) (u : HI × HL) => Q r u.1 u.2) (gB D cy ad s.heap.size) (gA ad s.heap.size)) args s 0 0 (gA ad s.heap.size)) (F0 m 51 ls []) := by
    intro n
    induction n with
    | zero => intro x2 x3 x4 h g H locs ls HW; exact HW.elim
    | succ n ih =>
      intro x2 x3 x4 h g H locs ls HW hG hl
      have HW : b_X11_half_51 Q (fun x2 x3 x4 h g => lpN (F_X11_half_51 Q) n (x2, x3, x4, h, g)) x2 x3 x4 h g := HW
      generalize hKe : (fun (x2 : Int32) (x3 : Int32) (x4 : Int32) (h : HI) (g : HL) => lpN (F_X11_half_51 Q) n (x2, x3, x4, h, g)) = K51 at HW
      have hK51 : ∀ (x2 : Int32) (x3 : Int32) (x4 : Int32) (h : HI) (g : HL) (H : Heap) (locs : List Loc) (ls : Array Slot), K51 x2 x3 x4 h g → gG D cy ad (gA ad s.heap.size) s.heap h g H locs → lv_has ls 5 [(0, .ref (ad 135)), (2, .int x2), (3, .int x3), (4, .int x4)] → W p l e ({ frames := 2, cells := 0, slots := 0, locals := 47 } : Room) s m args below meth c H locs 0 0 (MQ below (va_Qi (fun (r : Int32) (u : HI × HL) => Q r u.1 u.2) (gB D cy ad s.heap.size) (gA ad s.heap.size)) args s 0 0 (gA ad s.heap.size)) (F0 m 51 ls []) := by subst hKe; exact ih
      clear ih
      clear hKe
      unfold b_X11_half_51 at HW
      refine lv_iload hx hb dX11_half_51 (lv_at hl 3 rfl) ?_
      refine lv_sipush (v := 200) hx hb dX11_half_53 (by decide) ?_
      refine lv_icmp_gt (tgt := 95) hx hb dX11_half_56 (by decide) (fun c_56 => ?_) (fun c_56 => ?_)
      · replace HW := HW.1 c_56
        refine lv_iconst (v := (-1)) hx hb dX11_half_95 (by decide) ?_
        exact W.iret (v := (-1 : Int32)) hx hb hr (fun t ht hW => ⟨⟨(-1 : Int32), (h, g), rfl, HW, g_B ht hG⟩, hG.2.2.F ht⟩) hG.2.2.2.2 dX11_half_96
      · replace HW := HW.2 c_56
        refine lv_aload_n hx hb dX11_half_59 rfl (lv_at hl 0 rfl) ?_
        refine lv_iconst (v := 2) hx hb dX11_half_60 (by decide) ?_
        refine lv_iload_n hx hb dX11_half_61 rfl (lv_at hl 1 rfl) ?_
        refine lv_iload_n hx hb dX11_half_62 rfl (lv_at hl 2 rfl) ?_
        refine lv_idiv hx hb dX11_half_63 HW.1 ?_
        replace HW := HW.2
        obtain ⟨P_64, HC_64, HW⟩ := HW
        refine g_callv (g_runV (As := [.int (2 : Int32), .int (x2 / x3)]) (rest := []) ⟨hx, hb, hml, hown, hts⟩ (m_X11_times l D cy ad h g H.size (2 : Int32) (x2 / x3) P_64 HC_64) (cwV 2 hts (gd_V (wm6 141 rfl rfl) (wm6 143 rfl rfl) (wmp5 (q := (yX11_times, 26)) 8 rfl) (wm1 13 rfl rfl) (wm6 144 rfl rfl)) rfl rfl rfl (by decide +kernel) ⟨Nat.le_of_ble_eq_true rfl, Nat.le_of_ble_eq_true rfl⟩) hK hNw hG gl_135 rfl gk_135 (by decide) rfl rfl hl.1 rfl (lv_room (Nat.le_of_ble_eq_true rfl)) dX11_half_64 ⟨Nat.zero_le _, Nat.zero_le _⟩) hG (fun h_64 g_64 H locs hq hG => ?_)
        replace HW := HW h_64 g_64 hq
        refine lv_aload_n hx hb dX11_half_67 rfl (lv_at hl 0 rfl) ?_
        refine lv_iconst (v := 3) hx hb dX11_half_68 (by decide) ?_
        refine lv_sipush (v := 1000) hx hb dX11_half_69 (by decide) ?_
        refine lv_iload_n hx hb dX11_half_72 rfl (lv_at hl 2 rfl) ?_
        refine lv_idiv hx hb dX11_half_73 HW.1 ?_
        replace HW := HW.2
        obtain ⟨P_74, HC_74, HW⟩ := HW
        refine g_callv (g_runV (As := [.int (3 : Int32), .int ((1000 : Int32) / x3)]) (rest := []) ⟨hx, hb, hml, hown, hts⟩ (m_X11_times l D cy ad h_64 g_64 H.size (3 : Int32) ((1000 : Int32) / x3) P_74 HC_74) (cwV 2 hts (gd_V (wm6 141 rfl rfl) (wm6 143 rfl rfl) (wmp5 (q := (yX11_times, 26)) 8 rfl) (wm1 13 rfl rfl) (wm6 144 rfl rfl)) rfl rfl rfl (by decide +kernel) ⟨Nat.le_of_ble_eq_true rfl, Nat.le_of_ble_eq_true rfl⟩) hK hNw hG gl_135 rfl gk_135 (by decide) rfl rfl hl.1 rfl (lv_room (Nat.le_of_ble_eq_true rfl)) dX11_half_74 ⟨Nat.zero_le _, Nat.zero_le _⟩) hG (fun h_74 g_74 H locs hq hG => ?_)
        replace HW := HW h_74 g_74 hq
        refine lv_aload_n hx hb dX11_half_77 rfl (lv_at hl 0 rfl) ?_
        refine lv_iconst (v := 2) hx hb dX11_half_78 (by decide) ?_
        refine lv_iconst (v := 3) hx hb dX11_half_79 (by decide) ?_
        obtain ⟨P_80, HC_80, HW⟩ := HW
        refine g_calli (g_runV (As := [.int (2 : Int32), .int (3 : Int32)]) (rest := []) ⟨hx, hb, hml, hown, hts⟩ (m_X11_against l D cy ad h_74 g_74 H.size (2 : Int32) (3 : Int32) P_80 HC_80) (cwV 2 hts (gd_V (wm6 150 rfl rfl) (wm6 152 rfl rfl) (wmp5 (q := (yX11_against, 26)) 9 rfl) (wm1 13 rfl rfl) (wm6 153 rfl rfl)) rfl rfl rfl (by decide +kernel) ⟨Nat.le_of_ble_eq_true rfl, Nat.le_of_ble_eq_true rfl⟩) hK hNw hG gl_135 rfl gk_135 (by decide) rfl rfl hl.1 rfl (lv_room (Nat.le_of_ble_eq_true rfl)) dX11_half_80 ⟨Nat.zero_le _, Nat.zero_le _⟩) hG (fun r_80 h_80 g_80 H locs hq hG => ?_)
        replace HW := HW r_80 h_80 g_80 hq
        refine lv_if_gt (tgt := 89) hx hb dX11_half_83 (by decide) (fun c_83 => ?_) (fun c_83 => ?_)
        · replace HW := HW.1 c_83
          obtain ⟨x4_89, ex4_89⟩ : ∃ y : Int32, y = (x4 + 1) := ⟨_, rfl⟩
          replace HW := HW x4_89 ex4_89
          refine lv_iinc (v := x4_89) (lv' := [(4, .int x4_89), (0, .ref (ad 135)), (2, .int x2), (3, .int x3)]) hx hb dX11_half_89 hl (k := 3) rfl (by rw [ex4_89]; rfl) (by decide) rfl (fun ls hl => ?_)
          refine lv_goto (tgt := 51) hx hb dX11_half_92 (by decide) ?_
          exact hK51 x2 x3 x4_89 h_80 g_80 _ _ _ HW hG (lv_sub hl [1, 2, 3, 0] rfl)
        · replace HW := HW.2 c_83
          refine lv_iload hx hb dX11_half_86 (lv_at hl 3 rfl) ?_
          exact W.iret (v := x4) hx hb hr (fun t ht hW => ⟨⟨x4, (h_80, g_80), rfl, HW, g_B ht hG⟩, hG.2.2.F ht⟩) hG.2.2.2.2 dX11_half_88
  have B35 : ∀ (x2 : Int32) (s0 : Int32) (h : HI) (g : HL) (H : Heap) (locs : List Loc) (ls : Array Slot), j_X11_half_35 Q x2 s0 h g → gG D cy ad (gA ad s.heap.size) s.heap h g H locs → lv_has ls 5 [(0, .ref (ad 135)), (2, .int x2)] → W p l e ({ frames := 2, cells := 0, slots := 0, locals := 47 } : Room) s m args below meth c H locs 0 0 (MQ below (va_Qi (fun (r : Int32) (u : HI × HL) => Q r u.1 u.2) (gB D cy ad s.heap.size) (gA ad s.heap.size)) args s 0 0 (gA ad s.heap.size)) (F0 m 35 ls [.int s0]) := by
    intro x2 s0 h g H locs ls HW hG hl
    unfold j_X11_half_35 at HW
    refine lv_istore_n (lv' := [(3, .int s0), (0, .ref (ad 135)), (2, .int x2)]) hx hb dX11_half_35 rfl hl (by decide) rfl (fun ls hl => ?_)
    refine lv_aload_n hx hb dX11_half_36 rfl (lv_at hl 1 rfl) ?_
    refine lv_iconst (v := 2) hx hb dX11_half_37 (by decide) ?_
    refine lv_iconst (v := 2) hx hb dX11_half_38 (by decide) ?_
    obtain ⟨P_39, HC_39, HW⟩ := HW
    refine g_callv (g_runV (As := [.int (2 : Int32), .int (2 : Int32)]) (rest := []) ⟨hx, hb, hml, hown, hts⟩ (m_X11_sets l D cy ad h g H.size (2 : Int32) (2 : Int32) P_39 HC_39) (cwV 2 hts (gd_V (wm6 137 rfl rfl) (wm6 139 rfl rfl) (wmp5 (q := (yX11_sets, 26)) 7 rfl) (wm1 13 rfl rfl) (wm6 140 rfl rfl)) rfl rfl rfl (by decide +kernel) ⟨Nat.le_of_ble_eq_true rfl, Nat.le_of_ble_eq_true rfl⟩) hK hNw hG gl_135 rfl gk_135 (by decide) rfl rfl hl.1 rfl (lv_room (Nat.le_of_ble_eq_true rfl)) dX11_half_39 ⟨Nat.zero_le _, Nat.zero_le _⟩) hG (fun h_39 g_39 H locs hq hG => ?_)
    replace HW := HW h_39 g_39 hq
    refine lv_aload_n hx hb dX11_half_42 rfl (lv_at hl 1 rfl) ?_
    refine lv_iconst (v := 3) hx hb dX11_half_43 (by decide) ?_
    refine lv_iconst (v := 1) hx hb dX11_half_44 (by decide) ?_
    obtain ⟨P_45, HC_45, HW⟩ := HW
    refine g_callv (g_runV (As := [.int (3 : Int32), .int (1 : Int32)]) (rest := []) ⟨hx, hb, hml, hown, hts⟩ (m_X11_sets l D cy ad h_39 g_39 H.size (3 : Int32) (1 : Int32) P_45 HC_45) (cwV 2 hts (gd_V (wm6 137 rfl rfl) (wm6 139 rfl rfl) (wmp5 (q := (yX11_sets, 26)) 7 rfl) (wm1 13 rfl rfl) (wm6 140 rfl rfl)) rfl rfl rfl (by decide +kernel) ⟨Nat.le_of_ble_eq_true rfl, Nat.le_of_ble_eq_true rfl⟩) hK hNw hG gl_135 rfl gk_135 (by decide) rfl rfl hl.1 rfl (lv_room (Nat.le_of_ble_eq_true rfl)) dX11_half_45 ⟨Nat.zero_le _, Nat.zero_le _⟩) hG (fun h_45 g_45 H locs hq hG => ?_)
    replace HW := HW h_45 g_45 hq
    refine lv_iconst (v := 1) hx hb dX11_half_48 (by decide) ?_
    refine lv_istore (lv' := [(4, .int (1 : Int32)), (3, .int s0), (0, .ref (ad 135)), (2, .int x2)]) hx hb dX11_half_49 hl (by decide) rfl (fun ls hl => ?_)
    obtain ⟨n_51, HW⟩ := HW
    exact L51 n_51 x2 s0 (1 : Int32) h_45 g_45 _ _ _ HW hG (lv_sub hl [2, 3, 1, 0] rfl)
  have E0 : ∀ (H : Heap) (locs : List Loc) (ls : Array Slot), gG D cy ad (gA ad s.heap.size) s.heap h g H locs → lv_has ls 5 [(0, .ref (ad 135)), (1, .int x1)] → W p l e ({ frames := 2, cells := 0, slots := 0, locals := 47 } : Room) s m args below meth c H locs 0 0 (MQ below (va_Qi (fun (r : Int32) (u : HI × HL) => Q r u.1 u.2) (gB D cy ad s.heap.size) (gA ad s.heap.size)) args s 0 0 (gA ad s.heap.size)) (F0 m 0 ls []) := by
    intro H locs ls hG hl
    unfold w_X11_half at HW
    refine lv_aload_n hx hb dX11_half_0 rfl (lv_at hl 0 rfl) ?_
    refine lv_iconst (v := 0) hx hb dX11_half_1 (by decide) ?_
    refine lv_iload_n hx hb dX11_half_2 rfl (lv_at hl 1 rfl) ?_
    obtain ⟨P_3, HC_3, HW⟩ := HW
    refine g_callz (g_runV (As := [.int (0 : Int32), .int x1]) (rest := []) ⟨hx, hb, hml, hown, hts⟩ (m_X11_is l D cy ad h g H.size (0 : Int32) x1 P_3 HC_3) (cwV 2 hts (gd_V (wm5 184 rfl rfl) (wm5 186 rfl rfl) (wmp3 (q := (yX11_is, 26)) 14 rfl) (wm1 13 rfl rfl) (wm5 187 rfl rfl)) rfl rfl rfl (by decide +kernel) ⟨Nat.le_of_ble_eq_true rfl, Nat.le_of_ble_eq_true rfl⟩) hK hNw hG gl_135 rfl gk_135 (by decide) rfl rfl hl.1 rfl (lv_room (Nat.le_of_ble_eq_true rfl)) dX11_half_3 ⟨Nat.zero_le _, Nat.zero_le _⟩) hG (fun r_3 h_3 g_3 H locs hz hq hG => ?_)
    replace HW := HW r_3 h_3 g_3 hz hq
    refine lv_if_ne (tgt := 12) hx hb dX11_half_6 (by decide) (fun c_6 => ?_) (fun c_6 => ?_)
    · replace HW := HW.1 c_6
      refine lv_aload_n hx hb dX11_half_12 rfl (lv_at hl 0 rfl) ?_
      refine lv_iload_n hx hb dX11_half_13 rfl (lv_at hl 1 rfl) ?_
      obtain ⟨P_14, HC_14, HW⟩ := HW
      refine g_calli (g_runV (As := [.int x1]) (rest := []) ⟨hx, hb, hml, hown, hts⟩ (m_X11_whole l D cy ad h_3 g_3 H.size x1 P_14 HC_14) (cwV 1 hts (gd_V (wm6 126 rfl rfl) (wm6 128 rfl rfl) (wmp5 (q := (yX11_whole, 26)) 5 rfl) (wm1 13 rfl rfl) (wm6 129 rfl rfl)) rfl rfl rfl (by decide +kernel) ⟨Nat.le_of_ble_eq_true rfl, Nat.le_of_ble_eq_true rfl⟩) hK hNw hG gl_135 rfl gk_135 (by decide) rfl rfl hl.1 rfl (lv_room (Nat.le_of_ble_eq_true rfl)) dX11_half_14 ⟨Nat.zero_le _, Nat.zero_le _⟩) hG (fun r_14 h_14 g_14 H locs hq hG => ?_)
      replace HW := HW r_14 h_14 g_14 hq
      refine lv_istore_n (lv' := [(2, .int r_14), (0, .ref (ad 135)), (1, .int x1)]) hx hb dX11_half_17 rfl hl (by decide) rfl (fun ls hl => ?_)
      refine lv_iload_n hx hb dX11_half_18 rfl (lv_at hl 0 rfl) ?_
      refine lv_if_ne (tgt := 28) hx hb dX11_half_19 (by decide) (fun c_19 => ?_) (fun c_19 => ?_)
      · replace HW := HW.1 c_19
        refine lv_iload_n hx hb dX11_half_28 rfl (lv_at hl 0 rfl) ?_
        refine lv_sipush (v := 1000) hx hb dX11_half_29 (by decide) ?_
        obtain ⟨P_32, HC_32, HW⟩ := HW
        refine g_calli (g_runS (As := [.int r_14, .int (1000 : Int32)]) (rest := []) ⟨hx, hb, hml, hown, hts⟩ (m_X11_divisor l D cy ad h_14 g_14 H.size r_14 (1000 : Int32) P_32 HC_32) (va_cwS 2 hts (gd_S (wm6 130 rfl rfl) (wm6 131 rfl rfl) (wm1 13 rfl rfl) (wm6 132 rfl rfl)) rfl rfl rfl (by decide +kernel) ⟨Nat.le_of_ble_eq_true rfl, Nat.le_of_ble_eq_true rfl⟩) hK hNw hG rfl rfl hl.1 rfl (lv_room (Nat.le_of_ble_eq_true rfl)) dX11_half_32 ⟨Nat.zero_le _, Nat.zero_le _⟩) hG (fun r_32 h_32 g_32 H locs hq hG => ?_)
        replace HW := HW r_32 h_32 g_32 hq
        exact B35 r_14 r_32 h_32 g_32 _ _ _ HW hG (lv_sub hl [1, 0] rfl)
      · replace HW := HW.2 c_19
        refine lv_sipush (v := 1000) hx hb dX11_half_22 (by decide) ?_
        refine lv_goto (tgt := 35) hx hb dX11_half_25 (by decide) ?_
        exact B35 r_14 (1000 : Int32) h_14 g_14 _ _ _ HW hG (lv_sub hl [1, 0] rfl)
    · replace HW := HW.2 c_6
      refine lv_bipush (v := (-2)) hx hb dX11_half_9 (by decide) ?_
      exact W.iret (v := (-2 : Int32)) hx hb hr (fun t ht hW => ⟨⟨(-2 : Int32), (h_3, g_3), rfl, HW, g_B ht hG⟩, hG.2.2.F ht⟩) hG.2.2.2.2 dX11_half_11
  exact E0 _ _ _ hG hl
