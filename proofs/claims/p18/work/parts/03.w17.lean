def j_X11_quarrel_165 (Q : Int32 → HI → HL → Prop) (K129 : Int32 → Int32 → Int32 → Int32 → HI → HL → Prop) (x1 : Int32) (x2 : Int32) (x3 : Int32) (x4 : Int32) (h : HI) (g : HL) : Prop :=
  (∀ x4_165 : Int32, x4_165 = (x4 + 1) → K129 x1 x2 x3 x4_165 h g)
def b_X11_quarrel_129 (Q : Int32 → HI → HL → Prop) (K129 : Int32 → Int32 → Int32 → Int32 → HI → HL → Prop) (x1 : Int32) (x2 : Int32) (x3 : Int32) (x4 : Int32) (h : HI) (g : HL) : Prop :=
  (vp_in (1 : Int32) 887 ∧ (((h 136 (1 : Int32).toNatClampNeg) ≤ x4 → Q (-1 : Int32) h g) ∧ (¬ (h 136 (1 : Int32).toNatClampNeg) ≤ x4 → (∃ P_148 : Int32 → HI → HL → Prop, w_X11_quarrels x4 x1 (h 135 16) h g P_148 ∧ ∀ (r_148 : Int32) (h_148 : HI) (g_148 : HL), zb r_148 → P_148 r_148 h_148 g_148 → ((r_148 = 0 → j_X11_quarrel_165 Q K129 x1 x2 x3 x4 h_148 g_148) ∧ (¬ r_148 = 0 → ((¬ x3 = x2 → (∀ x3_162 : Int32, x3_162 = (x3 + 1) → j_X11_quarrel_165 Q K129 x1 x2 x3_162 x4 h_148 g_148)) ∧ (x3 = x2 → Q x4 h_148 g_148))))))))
def F_X11_quarrel_129 (Q : Int32 → HI → HL → Prop) (K : Int32 × Int32 × Int32 × Int32 × HI × HL → Prop) (q : Int32 × Int32 × Int32 × Int32 × HI × HL) : Prop := b_X11_quarrel_129 Q (fun x1 x2 x3 x4 h g => K (x1, x2, x3, x4, h, g)) q.1 q.2.1 q.2.2.1 q.2.2.2.1 q.2.2.2.2.1 q.2.2.2.2.2
def j_X11_quarrel_97 (Q : Int32 → HI → HL → Prop) (K41 : Int32 → Int32 → Int32 → HI → HL → Prop) (x1 : Int32) (x2 : Int32) (x3 : Int32) (h : HI) (g : HL) : Prop :=
  (∀ x3_97 : Int32, x3_97 = (x3 + 1) → K41 x1 x2 x3_97 h g)
def b_X11_quarrel_41 (Q : Int32 → HI → HL → Prop) (K41 : Int32 → Int32 → Int32 → HI → HL → Prop) (x1 : Int32) (x2 : Int32) (x3 : Int32) (h : HI) (g : HL) : Prop :=
  (vp_in (1 : Int32) 887 ∧ (((h 136 (1 : Int32).toNatClampNeg) ≤ x3 → ((0 ≤ x2 → lpE (F_X11_quarrel_129 Q) (x1, x2, (0 : Int32), (0 : Int32), h, g)) ∧ (¬ 0 ≤ x2 → ((¬ x2 = (-1 : Int32) → Q (h 135 16) h g) ∧ (x2 = (-1 : Int32) → Q (h 135 17) h g))))) ∧ (¬ (h 136 (1 : Int32).toNatClampNeg) ≤ x3 → (∃ P_54 : Int32 → HI → HL → Prop, w_X11_isOf x3 x1 h g P_54 ∧ ∀ (r_54 : Int32) (h_54 : HI) (g_54 : HL), zb r_54 → P_54 r_54 h_54 g_54 → ((r_54 = 0 → j_X11_quarrel_97 Q K41 x1 x2 x3 h_54 g_54) ∧ (¬ r_54 = 0 → (∃ P_62 : HI → HL → Prop, w_X11_lets x3 h_54 g_54 P_62 ∧ ∀ (h_62 : HI) (g_62 : HL), P_62 h_62 g_62 → (∀ x4_69 : Int32, x4_69 = (h_62 135 10) → (∃ P_78 : Int32 → HI → HL → Prop, w_X11_numberFrom (h_62 135 9) h_62 g_62 P_78 ∧ ∀ (r_78 : Int32) (h_78 : HI) (g_78 : HL), P_78 r_78 h_78 g_78 → (∃ P_81 : HI → HL → Prop, w_X11_tries x1 r_78 h_78 g_78 P_81 ∧ ∀ (h_81 : HI) (g_81 : HL), P_81 h_81 g_81 → (∃ P_91 : Int32 → HI → HL → Prop, w_X11_numberFrom (x4_69 + (1 : Int32)) h_81 g_81 P_91 ∧ ∀ (r_91 : Int32) (h_91 : HI) (g_91 : HL), P_91 r_91 h_91 g_91 → (∃ P_94 : HI → HL → Prop, w_X11_tries x1 r_91 h_91 g_91 P_94 ∧ ∀ (h_94 : HI) (g_94 : HL), P_94 h_94 g_94 → j_X11_quarrel_97 Q K41 x1 x2 x3 h_94 g_94))))))))))))
def F_X11_quarrel_41 (Q : Int32 → HI → HL → Prop) (K : Int32 × Int32 × Int32 × HI × HL → Prop) (q : Int32 × Int32 × Int32 × HI × HL) : Prop := b_X11_quarrel_41 Q (fun x1 x2 x3 h g => K (x1, x2, x3, h, g)) q.1 q.2.1 q.2.2.1 q.2.2.2.1 q.2.2.2.2
def j_X11_quarrel_23 (Q : Int32 → HI → HL → Prop) (x1 : Int32) (x2 : Int32) (h : HI) (g : HL) : Prop :=
  (∃ P_25 : HI → HL → Prop, w_X11_findFamily x1 h g P_25 ∧ ∀ (h_25 : HI) (g_25 : HL), P_25 h_25 g_25 → (∀ h_30 : HI, h_30 = hu h_25 135 17 (-1 : Int32) → (∃ P_36 : HI → HL → Prop, w_X11_tries x1 (0 : Int32) h_30 g_25 P_36 ∧ ∀ (h_36 : HI) (g_36 : HL), P_36 h_36 g_36 → lpE (F_X11_quarrel_41 Q) (x1, x2, (0 : Int32), h_36, g_36))))
def w_X11_quarrel (x1 : Int32) (x2 : Int32) (h : HI) (g : HL) (Q : Int32 → HI → HL → Prop) : Prop :=
  (∃ P_3 : Int32 → HI → HL → Prop, w_X11_is (0 : Int32) x1 h g P_3 ∧ ∀ (r_3 : Int32) (h_3 : HI) (g_3 : HL), zb r_3 → P_3 r_3 h_3 g_3 → ((r_3 = 0 → Q (-10 : Int32) h_3 g_3) ∧ (¬ r_3 = 0 → (((-1 : Int32) ≤ x2 → j_X11_quarrel_23 Q x1 x2 h_3 g_3) ∧ (¬ (-1 : Int32) ≤ x2 → ((x2 = (-3 : Int32) → j_X11_quarrel_23 Q x1 x2 h_3 g_3) ∧ (¬ x2 = (-3 : Int32) → Q (-10 : Int32) h_3 g_3)))))))
set_option maxHeartbeats 8000000 in
set_option maxRecDepth 100000 in
theorem m_X11_quarrel (l : Launch) (D : va_G) (cy : Nat → ClassId) (ad : Nat → Nat) (h : HI) (g : HL) (sz : Nat) (x1 : Int32) (x2 : Int32) (Q : Int32 → HI → HL → Prop) (HW : w_X11_quarrel x1 x2 h g Q) : Met l yX11_quarrel (wa yX11_quarrel cX11_quarrel 5 (some .int)) ({ frames := 8, cells := 0, slots := 0, locals := 188 }) (va_Pc [.ref (ad 135), .int x1, .int x2] (gI D cy ad h g sz)) (va_Qi (fun (r : Int32) (u : HI × HL) => Q r u.1 u.2) (gB D cy ad sz) (gA ad sz)) 0 0 (gA ad sz) := by
  refine Met.ofW (cc := cX11_quarrel) (maxL := 5) (ret := (some .int)) (by decide) rfl ?_
  intro p e s m args below meth c s₁ B hml hv
  obtain ⟨hav, hsz, hP, hK, hD0, hNw⟩ := hv
  have hx := B.exec
  have hb := B.bytes
  have hr := B.returns
  have hts := atoms_spec (ws := (wa yX11_quarrel cX11_quarrel 5 (some .int))) B.pre
  have hw := wa_hw hts
  have hown : s.vm.findClass RX11 = some m.cls := findClass_of_methodNamed B.named
  have hlocks := B.notSynchronized
  subst hsz
  have hG : gG D cy ad (gA ad s.heap.size) s.heap h g s.heap [] := ⟨hP, gA_self hD0, va_S.rf⟩
  clear hP hD0
  have lk194 := hw (.fieldLink RX11 194 "OldWorksModel" "bestMany" "I") (wm5 44 rfl rfl)
  have lk7 := hw (.fieldLink RX11 7 "OldWorksModel" "st" "[I") (wm5 27 rfl rfl)
  have lk197 := hw (.fieldLink RX11 197 "OldWorksModel" "bestSize" "I") (wm5 43 rfl rfl)
  have lk152 := hw (.fieldLink RX11 152 "OldWorksModel" "high" "I") (wm5 37 rfl rfl)
  have lk148 := hw (.fieldLink RX11 148 "OldWorksModel" "low" "I") (wm5 36 rfl rfl)
  rw [show (headSpec (wa yX11_quarrel cX11_quarrel 5 (some .int)) ({ frames := 8, cells := 0, slots := 0, locals := 188 } : Room)).room = ({ frames := 8, cells := 0, slots := 0, locals := 188 } : Room) from rfl]
  have hl := lv_entry ([.ref (ad 135), .int x1, .int x2]) (n := 5) (Nat.le_of_ble_eq_true rfl)
  rw [show entryFrame m args 5 = entryFrame m ([.ref (ad 135), .int x1, .int x2] : List Value).toArray 5 from by rw [hav], lg_entry_eq]
  generalize (lg_sl ([.ref (ad 135), .int x1, .int x2]) ++ List.replicate (5 - (lg_sl ([.ref (ad 135), .int x1, .int x2])).length) Slot.unset).toArray = ls at hl ⊢
  have hl : lv_has ls 5 [(0, .ref (ad 135)), (1, .int x1), (2, .int x2)] := hl
  have B165 : ∀ (K129 : Int32 → Int32 → Int32 → Int32 → HI → HL → Prop) (hK129 : ∀ (x1 : Int32) (x2 : Int32) (x3 : Int32) (x4 : Int32) (h : HI) (g : HL) (H : Heap) (locs : List Loc) (ls : Array Slot), K129 x1 x2 x3 x4 h g → gG D cy ad (gA ad s.heap.size) s.heap h g H locs → lv_has ls 5 [(0, .ref (ad 135)), (1, .int x1), (2, .int x2), (3, .int x3), (4, .int x4)] → W p l e ({ frames := 8, cells := 0, slots := 0, locals := 188 } : Room) s m args below meth c H locs 0 0 (MQ below (va_Qi (fun (r : Int32) (u : HI × HL) => Q r u.1 u.2) (gB D cy ad s.heap.size) (gA ad s.heap.size)) args s 0 0 (gA ad s.heap.size)) (F0 m 129 ls [])) (x1 : Int32) (x2 : Int32) (x3 : Int32) (x4 : Int32) (h : HI) (g : HL) (H : Heap) (locs : List Loc) (ls : Array Slot), j_X11_quarrel_165 Q K129 x1 x2 x3 x4 h g → gG D cy ad (gA ad s.heap.size) s.heap h g H locs → lv_has ls 5 [(0, .ref (ad 135)), (1, .int x1), (2, .int x2), (3, .int x3), (4, .int x4)] → W p l e ({ frames := 8, cells := 0, slots := 0, locals := 188 } : Room) s m args below meth c H locs 0 0 (MQ below (va_Qi (fun (r : Int32) (u : HI × HL) => Q r u.1 u.2) (gB D cy ad s.heap.size) (gA ad s.heap.size)) args s 0 0 (gA ad s.heap.size)) (F0 m 165 ls []) := by
    intro K129 hK129 x1 x2 x3 x4 h g H locs ls HW hG hl
    unfold j_X11_quarrel_165 at HW
    obtain ⟨x4_165, ex4_165⟩ : ∃ y : Int32, y = (x4 + 1) := ⟨_, rfl⟩
    replace HW := HW x4_165 ex4_165
    refine lv_iinc (v := x4_165) (lv' := [(4, .int x4_165), (0, .ref (ad 135)), (1, .int x1), (2, .int x2), (3, .int x3)]) hx hb dX11_quarrel_165 hl (k := 4) rfl (by rw [ex4_165]; rfl) (by decide) rfl (fun ls hl => ?_)
    refine lv_goto (tgt := 129) hx hb dX11_quarrel_168 (by decide) ?_
    exact hK129 x1 x2 x3 x4_165 h g _ _ _ HW hG (lv_sub hl [1, 2, 3, 4, 0] rfl)
  have L129 : ∀ (n : Nat) (x1 : Int32) (x2 : Int32) (x3 : Int32) (x4 : Int32) (h : HI) (g : HL) (H : Heap) (locs : List Loc) (ls : Array Slot), lpN (F_X11_quarrel_129 Q) n (x1, x2, x3, x4, h, g) → gG D cy ad (gA ad s.heap.size) s.heap h g H locs → lv_has ls 5 [(0, .ref (ad 135)), (1, .int x1), (2, .int x2), (3, .int x3), (4, .int x4)] → W p l e ({ frames := 8, cells := 0, slots := 0, locals := 188 } : Room) s m args below meth c H locs 0 0 (MQ below (va_Qi (fun (r : Int32) (u : HI × HL) => Q r u.1 u.2) (gB D cy ad s.heap.size) (gA ad s.heap.size)) args s 0 0 (gA ad s.heap.size)) (F0 m 129 ls []) := by
    intro n
    induction n with
    | zero => intro x1 x2 x3 x4 h g H locs ls HW; exact HW.elim
    | succ n ih =>
      intro x1 x2 x3 x4 h g H locs ls HW hG hl
      have HW : b_X11_quarrel_129 Q (fun x1 x2 x3 x4 h g => lpN (F_X11_quarrel_129 Q) n (x1, x2, x3, x4, h, g)) x1 x2 x3 x4 h g := HW
      generalize hKe : (fun (x1 : Int32) (x2 : Int32) (x3 : Int32) (x4 : Int32) (h : HI) (g : HL) => lpN (F_X11_quarrel_129 Q) n (x1, x2, x3, x4, h, g)) = K129 at HW
      have hK129 : ∀ (x1 : Int32) (x2 : Int32) (x3 : Int32) (x4 : Int32) (h : HI) (g : HL) (H : Heap) (locs : List Loc) (ls : Array Slot), K129 x1 x2 x3 x4 h g → gG D cy ad (gA ad s.heap.size) s.heap h g H locs → lv_has ls 5 [(0, .ref (ad 135)), (1, .int x1), (2, .int x2), (3, .int x3), (4, .int x4)] → W p l e ({ frames := 8, cells := 0, slots := 0, locals := 188 } : Room) s m args below meth c H locs 0 0 (MQ below (va_Qi (fun (r : Int32) (u : HI × HL) => Q r u.1 u.2) (gB D cy ad s.heap.size) (gA ad s.heap.size)) args s 0 0 (gA ad s.heap.size)) (F0 m 129 ls []) := by subst hKe; exact ih
      clear ih
      clear hKe
      unfold b_X11_quarrel_129 at HW
      refine lv_iload hx hb dX11_quarrel_129 (lv_at hl 4 rfl) ?_
      refine lv_aload_n hx hb dX11_quarrel_131 rfl (lv_at hl 0 rfl) ?_
      refine g_getr hx hb hw inG11 hown hK hG gl_135 rfl gk_135 (by decide) 0 (by decide) (by rw [gm_135]; decide) (r := 136) gr_135_0 lk7 dX11_quarrel_132 ?_
      refine lv_iconst (v := 1) hx hb dX11_quarrel_135 (by decide) ?_
      refine g_iald hx hb hK hG gl_136 gk_136 gn_136 HW.1 dX11_quarrel_136 ?_
      replace HW := HW.2
      refine lv_icmp_ge (tgt := 171) hx hb dX11_quarrel_137 (by decide) (fun c_137 => ?_) (fun c_137 => ?_)
      · replace HW := HW.1 c_137
        refine lv_iconst (v := (-1)) hx hb dX11_quarrel_171 (by decide) ?_
        exact W.iret (v := (-1 : Int32)) hx hb hr (fun t ht hW => ⟨⟨(-1 : Int32), (h, g), rfl, HW, g_B ht hG⟩, hG.2.2.F ht⟩) hG.2.2.2.2 dX11_quarrel_172
      · replace HW := HW.2 c_137
        refine lv_aload_n hx hb dX11_quarrel_140 rfl (lv_at hl 0 rfl) ?_
        refine lv_iload hx hb dX11_quarrel_141 (lv_at hl 4 rfl) ?_
        refine lv_iload_n hx hb dX11_quarrel_143 rfl (lv_at hl 1 rfl) ?_
        refine lv_aload_n hx hb dX11_quarrel_144 rfl (lv_at hl 0 rfl) ?_
        refine g_geti hx hb hw inG11 hown hK hG gl_135 rfl gk_135 (by decide) 16 (by decide) (by rw [gm_135]; decide) gr_135_16 lk197 dX11_quarrel_145 ?_
        obtain ⟨P_148, HC_148, HW⟩ := HW
        refine g_callz (g_runV (As := [.int x4, .int x1, .int (h 135 16)]) (rest := []) ⟨hx, hb, hml, hown, hts⟩ (m_X11_quarrels l D cy ad h g H.size x4 x1 (h 135 16) P_148 HC_148) (cwV 3 hts (gd_V (wm6 16 rfl rfl) (wm6 18 rfl rfl) (wmp4 (q := (yX11_quarrels, 26)) 10 rfl) (wm1 13 rfl rfl) (wm6 19 rfl rfl)) rfl rfl rfl (by decide +kernel) ⟨Nat.le_of_ble_eq_true rfl, Nat.le_of_ble_eq_true rfl⟩) hK hNw hG gl_135 rfl gk_135 (by decide) rfl rfl hl.1 rfl (lv_room (Nat.le_of_ble_eq_true rfl)) dX11_quarrel_148 ⟨Nat.zero_le _, Nat.zero_le _⟩) hG (fun r_148 h_148 g_148 H locs hz hq hG => ?_)
        replace HW := HW r_148 h_148 g_148 hz hq
        refine lv_if_eq (tgt := 165) hx hb dX11_quarrel_151 (by decide) (fun c_151 => ?_) (fun c_151 => ?_)
        · replace HW := HW.1 c_151
          exact B165 K129 hK129 x1 x2 x3 x4 h_148 g_148 _ _ _ HW hG (lv_sub hl [0, 1, 2, 3, 4] rfl)
        · replace HW := HW.2 c_151
          refine lv_iload_n hx hb dX11_quarrel_154 rfl (lv_at hl 3 rfl) ?_
          refine lv_iload_n hx hb dX11_quarrel_155 rfl (lv_at hl 2 rfl) ?_
          refine lv_icmp_ne (tgt := 162) hx hb dX11_quarrel_156 (by decide) (fun c_156 => ?_) (fun c_156 => ?_)
          · replace HW := HW.1 c_156
            obtain ⟨x3_162, ex3_162⟩ : ∃ y : Int32, y = (x3 + 1) := ⟨_, rfl⟩
            replace HW := HW x3_162 ex3_162
            refine lv_iinc (v := x3_162) (lv' := [(3, .int x3_162), (0, .ref (ad 135)), (1, .int x1), (2, .int x2), (4, .int x4)]) hx hb dX11_quarrel_162 hl (k := 3) rfl (by rw [ex3_162]; rfl) (by decide) rfl (fun ls hl => ?_)
            exact B165 K129 hK129 x1 x2 x3_162 x4 h_148 g_148 _ _ _ HW hG (lv_sub hl [1, 2, 3, 0, 4] rfl)
          · replace HW := HW.2 c_156
            refine lv_iload hx hb dX11_quarrel_159 (lv_at hl 4 rfl) ?_
            exact W.iret (v := x4) hx hb hr (fun t ht hW => ⟨⟨x4, (h_148, g_148), rfl, HW, g_B ht hG⟩, hG.2.2.F ht⟩) hG.2.2.2.2 dX11_quarrel_161
  have B97 : ∀ (K41 : Int32 → Int32 → Int32 → HI → HL → Prop) (hK41 : ∀ (x1 : Int32) (x2 : Int32) (x3 : Int32) (h : HI) (g : HL) (H : Heap) (locs : List Loc) (ls : Array Slot), K41 x1 x2 x3 h g → gG D cy ad (gA ad s.heap.size) s.heap h g H locs → lv_has ls 5 [(0, .ref (ad 135)), (1, .int x1), (2, .int x2), (3, .int x3)] → W p l e ({ frames := 8, cells := 0, slots := 0, locals := 188 } : Room) s m args below meth c H locs 0 0 (MQ below (va_Qi (fun (r : Int32) (u : HI × HL) => Q r u.1 u.2) (gB D cy ad s.heap.size) (gA ad s.heap.size)) args s 0 0 (gA ad s.heap.size)) (F0 m 41 ls [])) (x1 : Int32) (x2 : Int32) (x3 : Int32) (h : HI) (g : HL) (H : Heap) (locs : List Loc) (ls : Array Slot), j_X11_quarrel_97 Q K41 x1 x2 x3 h g → gG D cy ad (gA ad s.heap.size) s.heap h g H locs → lv_has ls 5 [(0, .ref (ad 135)), (1, .int x1), (2, .int x2), (3, .int x3)] → W p l e ({ frames := 8, cells := 0, slots := 0, locals := 188 } : Room) s m args below meth c H locs 0 0 (MQ below (va_Qi (fun (r : Int32) (u : HI × HL) => Q r u.1 u.2) (gB D cy ad s.heap.size) (gA ad s.heap.size)) args s 0 0 (gA ad s.heap.size)) (F0 m 97 ls []) := by
    intro K41 hK41 x1 x2 x3 h g H locs ls HW hG hl
    unfold j_X11_quarrel_97 at HW
    obtain ⟨x3_97, ex3_97⟩ : ∃ y : Int32, y = (x3 + 1) := ⟨_, rfl⟩
    replace HW := HW x3_97 ex3_97
    refine lv_iinc (v := x3_97) (lv' := [(3, .int x3_97), (0, .ref (ad 135)), (1, .int x1), (2, .int x2)]) hx hb dX11_quarrel_97 hl (k := 3) rfl (by rw [ex3_97]; rfl) (by decide) rfl (fun ls hl => ?_)
    refine lv_goto (tgt := 41) hx hb dX11_quarrel_100 (by decide) ?_
    exact hK41 x1 x2 x3_97 h g _ _ _ HW hG (lv_sub hl [1, 2, 3, 0] rfl)
  have L41 : ∀ (n : Nat) (x1 : Int32) (x2 : Int32) (x3 : Int32) (h : HI) (g : HL) (H : Heap) (locs : List Loc) (ls : Array Slot), lpN (F_X11_quarrel_41 Q) n (x1, x2, x3, h, g) → gG D cy ad (gA ad s.heap.size) s.heap h g H locs → lv_has ls 5 [(0, .ref (ad 135)), (1, .int x1), (2, .int x2), (3, .int x3)] → W p l e ({ frames := 8, cells := 0, slots := 0, locals := 188 } : Room) s m args below meth c H locs 0 0 (MQ below (va_Qi (fun (r : Int32) (u : HI × HL) => Q r u.1 u.2) (gB D cy ad s.heap.size) (gA ad s.heap.size)) args s 0 0 (gA ad s.heap.size)) (F0 m 41 ls []) := by
    intro n
    induction n with
    | zero => intro x1 x2 x3 h g H locs ls HW; exact HW.elim
    | succ n ih =>
      intro x1 x2 x3 h g H locs ls HW hG hl
      have HW : b_X11_quarrel_41 Q (fun x1 x2 x3 h g => lpN (F_X11_quarrel_41 Q) n (x1, x2, x3, h, g)) x1 x2 x3 h g := HW
      generalize hKe : (fun (x1 : Int32) (x2 : Int32) (x3 : Int32) (h : HI) (g : HL) => lpN (F_X11_quarrel_41 Q) n (x1, x2, x3, h, g)) = K41 at HW
      have hK41 : ∀ (x1 : Int32) (x2 : Int32) (x3 : Int32) (h : HI) (g : HL) (H : Heap) (locs : List Loc) (ls : Array Slot), K41 x1 x2 x3 h g → gG D cy ad (gA ad s.heap.size) s.heap h g H locs → lv_has ls 5 [(0, .ref (ad 135)), (1, .int x1), (2, .int x2), (3, .int x3)] → W p l e ({ frames := 8, cells := 0, slots := 0, locals := 188 } : Room) s m args below meth c H locs 0 0 (MQ below (va_Qi (fun (r : Int32) (u : HI × HL) => Q r u.1 u.2) (gB D cy ad s.heap.size) (gA ad s.heap.size)) args s 0 0 (gA ad s.heap.size)) (F0 m 41 ls []) := by subst hKe; exact ih
      clear ih
      clear hKe
      unfold b_X11_quarrel_41 at HW
      refine lv_iload_n hx hb dX11_quarrel_41 rfl (lv_at hl 3 rfl) ?_
      refine lv_aload_n hx hb dX11_quarrel_42 rfl (lv_at hl 0 rfl) ?_
      refine g_getr hx hb hw inG11 hown hK hG gl_135 rfl gk_135 (by decide) 0 (by decide) (by rw [gm_135]; decide) (r := 136) gr_135_0 lk7 dX11_quarrel_43 ?_
      refine lv_iconst (v := 1) hx hb dX11_quarrel_46 (by decide) ?_
      refine g_iald hx hb hK hG gl_136 gk_136 gn_136 HW.1 dX11_quarrel_47 ?_
      replace HW := HW.2
      refine lv_icmp_ge (tgt := 103) hx hb dX11_quarrel_48 (by decide) (fun c_48 => ?_) (fun c_48 => ?_)
      · replace HW := HW.1 c_48
        refine lv_iload_n hx hb dX11_quarrel_103 rfl (lv_at hl 2 rfl) ?_
        refine lv_if_ge (tgt := 124) hx hb dX11_quarrel_104 (by decide) (fun c_104 => ?_) (fun c_104 => ?_)
        · replace HW := HW.1 c_104
          refine lv_iconst (v := 0) hx hb dX11_quarrel_124 (by decide) ?_
          refine lv_istore_n (lv' := [(3, .int (0 : Int32)), (0, .ref (ad 135)), (1, .int x1), (2, .int x2)]) hx hb dX11_quarrel_125 rfl hl (by decide) rfl (fun ls hl => ?_)
          refine lv_iconst (v := 0) hx hb dX11_quarrel_126 (by decide) ?_
          refine lv_istore (lv' := [(4, .int (0 : Int32)), (3, .int (0 : Int32)), (0, .ref (ad 135)), (1, .int x1), (2, .int x2)]) hx hb dX11_quarrel_127 hl (by decide) rfl (fun ls hl => ?_)
          obtain ⟨n_129, HW⟩ := HW
          exact L129 n_129 x1 x2 (0 : Int32) (0 : Int32) h g _ _ _ HW hG (lv_sub hl [2, 3, 4, 1, 0] rfl)
        · replace HW := HW.2 c_104
          refine lv_iload_n hx hb dX11_quarrel_107 rfl (lv_at hl 2 rfl) ?_
          refine lv_iconst (v := (-1)) hx hb dX11_quarrel_108 (by decide) ?_
          refine lv_icmp_ne (tgt := 119) hx hb dX11_quarrel_109 (by decide) (fun c_109 => ?_) (fun c_109 => ?_)
          · replace HW := HW.1 c_109
            refine lv_aload_n hx hb dX11_quarrel_119 rfl (lv_at hl 0 rfl) ?_
            refine g_geti hx hb hw inG11 hown hK hG gl_135 rfl gk_135 (by decide) 16 (by decide) (by rw [gm_135]; decide) gr_135_16 lk197 dX11_quarrel_120 ?_
            exact W.iret (v := (h 135 16)) hx hb hr (fun t ht hW => ⟨⟨(h 135 16), (h, g), rfl, HW, g_B ht hG⟩, hG.2.2.F ht⟩) hG.2.2.2.2 dX11_quarrel_123
          · replace HW := HW.2 c_109
            refine lv_aload_n hx hb dX11_quarrel_112 rfl (lv_at hl 0 rfl) ?_
            refine g_geti hx hb hw inG11 hown hK hG gl_135 rfl gk_135 (by decide) 17 (by decide) (by rw [gm_135]; decide) gr_135_17 lk194 dX11_quarrel_113 ?_
            refine lv_goto (tgt := 123) hx hb dX11_quarrel_116 (by decide) ?_
            exact W.iret (v := (h 135 17)) hx hb hr (fun t ht hW => ⟨⟨(h 135 17), (h, g), rfl, HW, g_B ht hG⟩, hG.2.2.F ht⟩) hG.2.2.2.2 dX11_quarrel_123
      · replace HW := HW.2 c_48
        refine lv_aload_n hx hb dX11_quarrel_51 rfl (lv_at hl 0 rfl) ?_
        refine lv_iload_n hx hb dX11_quarrel_52 rfl (lv_at hl 3 rfl) ?_
        refine lv_iload_n hx hb dX11_quarrel_53 rfl (lv_at hl 1 rfl) ?_
        obtain ⟨P_54, HC_54, HW⟩ := HW
        refine g_callz (g_runV (As := [.int x3, .int x1]) (rest := []) ⟨hx, hb, hml, hown, hts⟩ (m_X11_isOf l D cy ad h g H.size x3 x1 P_54 HC_54) (cwV 2 hts (gd_V (wm5 234 rfl rfl) (wm5 236 rfl rfl) (wmp4 (q := (yX11_isOf, 26)) 6 rfl) (wm1 13 rfl rfl) (wm5 237 rfl rfl)) rfl rfl rfl (by decide +kernel) ⟨Nat.le_of_ble_eq_true rfl, Nat.le_of_ble_eq_true rfl⟩) hK hNw hG gl_135 rfl gk_135 (by decide) rfl rfl hl.1 rfl (lv_room (Nat.le_of_ble_eq_true rfl)) dX11_quarrel_54 ⟨Nat.zero_le _, Nat.zero_le _⟩) hG (fun r_54 h_54 g_54 H locs hz hq hG => ?_)
        replace HW := HW r_54 h_54 g_54 hz hq
        refine lv_if_eq (tgt := 97) hx hb dX11_quarrel_57 (by decide) (fun c_57 => ?_) (fun c_57 => ?_)
        · replace HW := HW.1 c_57
          exact B97 K41 hK41 x1 x2 x3 h_54 g_54 _ _ _ HW hG (lv_sub hl [0, 1, 2, 3] rfl)
        · replace HW := HW.2 c_57
          refine lv_aload_n hx hb dX11_quarrel_60 rfl (lv_at hl 0 rfl) ?_
          refine lv_iload_n hx hb dX11_quarrel_61 rfl (lv_at hl 3 rfl) ?_
          obtain ⟨P_62, HC_62, HW⟩ := HW
          refine g_callv (g_runV (As := [.int x3]) (rest := []) ⟨hx, hb, hml, hown, hts⟩ (m_X11_lets l D cy ad h_54 g_54 H.size x3 P_62 HC_62) (cwV 1 hts (gd_V (wm5 238 rfl rfl) (wm6 0 rfl rfl) (wmp4 (q := (yX11_lets, 26)) 7 rfl) (wm1 13 rfl rfl) (wm6 1 rfl rfl)) rfl rfl rfl (by decide +kernel) ⟨Nat.le_of_ble_eq_true rfl, Nat.le_of_ble_eq_true rfl⟩) hK hNw hG gl_135 rfl gk_135 (by decide) rfl rfl hl.1 rfl (lv_room (Nat.le_of_ble_eq_true rfl)) dX11_quarrel_62 ⟨Nat.zero_le _, Nat.zero_le _⟩) hG (fun h_62 g_62 H locs hq hG => ?_)
          replace HW := HW h_62 g_62 hq
          refine lv_aload_n hx hb dX11_quarrel_65 rfl (lv_at hl 0 rfl) ?_
          refine g_geti hx hb hw inG11 hown hK hG gl_135 rfl gk_135 (by decide) 10 (by decide) (by rw [gm_135]; decide) gr_135_10 lk152 dX11_quarrel_66 ?_
          refine lv_topi (fun x4_69 ex4_69 => ?_)
          replace HW := HW x4_69 ex4_69
          refine lv_istore (lv' := [(4, .int x4_69), (0, .ref (ad 135)), (1, .int x1), (2, .int x2), (3, .int x3)]) hx hb dX11_quarrel_69 hl (by decide) rfl (fun ls hl => ?_)
          refine lv_aload_n hx hb dX11_quarrel_71 rfl (lv_at hl 1 rfl) ?_
          refine lv_iload_n hx hb dX11_quarrel_72 rfl (lv_at hl 2 rfl) ?_
          refine lv_aload_n hx hb dX11_quarrel_73 rfl (lv_at hl 1 rfl) ?_
          refine lv_aload_n hx hb dX11_quarrel_74 rfl (lv_at hl 1 rfl) ?_
          refine g_geti hx hb hw inG11 hown hK hG gl_135 rfl gk_135 (by decide) 9 (by decide) (by rw [gm_135]; decide) gr_135_9 lk148 dX11_quarrel_75 ?_
          obtain ⟨P_78, HC_78, HW⟩ := HW
          refine g_calli (g_runV (As := [.int (h_62 135 9)]) (rest := [.int x1, .ref (ad 135)]) ⟨hx, hb, hml, hown, hts⟩ (m_X11_numberFrom l D cy ad h_62 g_62 H.size (h_62 135 9) P_78 HC_78) (cwV 1 hts (gd_V (wm6 4 rfl rfl) (wm6 6 rfl rfl) (wmp4 (q := (yX11_numberFrom, 26)) 8 rfl) (wm1 13 rfl rfl) (wm6 7 rfl rfl)) rfl rfl rfl (by decide +kernel) ⟨Nat.le_of_ble_eq_true rfl, Nat.le_of_ble_eq_true rfl⟩) hK hNw hG gl_135 rfl gk_135 (by decide) rfl rfl hl.1 rfl (lv_room (Nat.le_of_ble_eq_true rfl)) dX11_quarrel_78 ⟨Nat.zero_le _, Nat.zero_le _⟩) hG (fun r_78 h_78 g_78 H locs hq hG => ?_)
          replace HW := HW r_78 h_78 g_78 hq
          obtain ⟨P_81, HC_81, HW⟩ := HW
          refine g_callv (g_runV (As := [.int x1, .int r_78]) (rest := []) ⟨hx, hb, hml, hown, hts⟩ (m_X11_tries l D cy ad h_78 g_78 H.size x1 r_78 P_81 HC_81) (cwV 2 hts (gd_V (wm6 12 rfl rfl) (wm6 14 rfl rfl) (wmp4 (q := (yX11_tries, 26)) 9 rfl) (wm1 13 rfl rfl) (wm6 15 rfl rfl)) rfl rfl rfl (by decide +kernel) ⟨Nat.le_of_ble_eq_true rfl, Nat.le_of_ble_eq_true rfl⟩) hK hNw hG gl_135 rfl gk_135 (by decide) rfl rfl hl.1 rfl (lv_room (Nat.le_of_ble_eq_true rfl)) dX11_quarrel_81 ⟨Nat.zero_le _, Nat.zero_le _⟩) hG (fun h_81 g_81 H locs hq hG => ?_)
          replace HW := HW h_81 g_81 hq
          refine lv_aload_n hx hb dX11_quarrel_84 rfl (lv_at hl 1 rfl) ?_
          refine lv_iload_n hx hb dX11_quarrel_85 rfl (lv_at hl 2 rfl) ?_
          refine lv_aload_n hx hb dX11_quarrel_86 rfl (lv_at hl 1 rfl) ?_
          refine lv_iload hx hb dX11_quarrel_87 (lv_at hl 0 rfl) ?_
          refine lv_iconst (v := 1) hx hb dX11_quarrel_89 (by decide) ?_
          refine lv_iadd hx hb dX11_quarrel_90 ?_
          obtain ⟨P_91, HC_91, HW⟩ := HW
          refine g_calli (g_runV (As := [.int (x4_69 + (1 : Int32))]) (rest := [.int x1, .ref (ad 135)]) ⟨hx, hb, hml, hown, hts⟩ (m_X11_numberFrom l D cy ad h_81 g_81 H.size (x4_69 + (1 : Int32)) P_91 HC_91) (cwV 1 hts (gd_V (wm6 4 rfl rfl) (wm6 6 rfl rfl) (wmp4 (q := (yX11_numberFrom, 26)) 8 rfl) (wm1 13 rfl rfl) (wm6 7 rfl rfl)) rfl rfl rfl (by decide +kernel) ⟨Nat.le_of_ble_eq_true rfl, Nat.le_of_ble_eq_true rfl⟩) hK hNw hG gl_135 rfl gk_135 (by decide) rfl rfl hl.1 rfl (lv_room (Nat.le_of_ble_eq_true rfl)) dX11_quarrel_91 ⟨Nat.zero_le _, Nat.zero_le _⟩) hG (fun r_91 h_91 g_91 H locs hq hG => ?_)
          replace HW := HW r_91 h_91 g_91 hq
          obtain ⟨P_94, HC_94, HW⟩ := HW
          refine g_callv (g_runV (As := [.int x1, .int r_91]) (rest := []) ⟨hx, hb, hml, hown, hts⟩ (m_X11_tries l D cy ad h_91 g_91 H.size x1 r_91 P_94 HC_94) (cwV 2 hts (gd_V (wm6 12 rfl rfl) (wm6 14 rfl rfl) (wmp4 (q := (yX11_tries, 26)) 9 rfl) (wm1 13 rfl rfl) (wm6 15 rfl rfl)) rfl rfl rfl (by decide +kernel) ⟨Nat.le_of_ble_eq_true rfl, Nat.le_of_ble_eq_true rfl⟩) hK hNw hG gl_135 rfl gk_135 (by decide) rfl rfl hl.1 rfl (lv_room (Nat.le_of_ble_eq_true rfl)) dX11_quarrel_94 ⟨Nat.zero_le _, Nat.zero_le _⟩) hG (fun h_94 g_94 H locs hq hG => ?_)
          replace HW := HW h_94 g_94 hq
          exact B97 K41 hK41 x1 x2 x3 h_94 g_94 _ _ _ HW hG (lv_sub hl [1, 2, 3, 4] rfl)
  have B23 : ∀ (x1 : Int32) (x2 : Int32) (h : HI) (g : HL) (H : Heap) (locs : List Loc) (ls : Array Slot), j_X11_quarrel_23 Q x1 x2 h g → gG D cy ad (gA ad s.heap.size) s.heap h g H locs → lv_has ls 5 [(0, .ref (ad 135)), (1, .int x1), (2, .int x2)] → W p l e ({ frames := 8, cells := 0, slots := 0, locals := 188 } : Room) s m args below meth c H locs 0 0 (MQ below (va_Qi (fun (r : Int32) (u : HI × HL) => Q r u.1 u.2) (gB D cy ad s.heap.size) (gA ad s.heap.size)) args s 0 0 (gA ad s.heap.size)) (F0 m 23 ls []) := by
    intro x1 x2 h g H locs ls HW hG hl
    unfold j_X11_quarrel_23 at HW
    refine lv_aload_n hx hb dX11_quarrel_23 rfl (lv_at hl 0 rfl) ?_
    refine lv_iload_n hx hb dX11_quarrel_24 rfl (lv_at hl 1 rfl) ?_
    obtain ⟨P_25, HC_25, HW⟩ := HW
    refine g_callv (g_runV (As := [.int x1]) (rest := []) ⟨hx, hb, hml, hown, hts⟩ (m_X11_findFamily l D cy ad h g H.size x1 P_25 HC_25) (cwV 1 hts (gd_V (wm5 230 rfl rfl) (wm5 232 rfl rfl) (wmp4 (q := (yX11_findFamily, 26)) 5 rfl) (wm1 13 rfl rfl) (wm5 233 rfl rfl)) rfl rfl rfl (by decide +kernel) ⟨Nat.le_of_ble_eq_true rfl, Nat.le_of_ble_eq_true rfl⟩) hK hNw hG gl_135 rfl gk_135 (by decide) rfl rfl hl.1 rfl (lv_room (Nat.le_of_ble_eq_true rfl)) dX11_quarrel_25 ⟨Nat.zero_le _, Nat.zero_le _⟩) hG (fun h_25 g_25 H locs hq hG => ?_)
    replace HW := HW h_25 g_25 hq
    refine lv_aload_n hx hb dX11_quarrel_28 rfl (lv_at hl 0 rfl) ?_
    refine lv_iconst (v := (-1)) hx hb dX11_quarrel_29 (by decide) ?_
    refine g_put hx hb hw inG11 tyX11 tyX11_ok nmX11 hown hK hG gl_135 rfl gk_135 (by decide) 17 (by decide) (by rw [gm_135]; decide) gr_135_17 rfl (ty := .int) (by decide +kernel) rfl rfl lk194 dX11_quarrel_30 (fun H locs hG => ?_)
    obtain ⟨h_30, eh_30⟩ : ∃ y : HI, y = hu h_25 135 17 (-1 : Int32) := ⟨_, rfl⟩
    rw [← eh_30] at hG
    replace HW := HW h_30 eh_30
    refine lv_aload_n hx hb dX11_quarrel_33 rfl (lv_at hl 0 rfl) ?_
    refine lv_iload_n hx hb dX11_quarrel_34 rfl (lv_at hl 1 rfl) ?_
    refine lv_iconst (v := 0) hx hb dX11_quarrel_35 (by decide) ?_
    obtain ⟨P_36, HC_36, HW⟩ := HW
    refine g_callv (g_runV (As := [.int x1, .int (0 : Int32)]) (rest := []) ⟨hx, hb, hml, hown, hts⟩ (m_X11_tries l D cy ad h_30 g_25 H.size x1 (0 : Int32) P_36 HC_36) (cwV 2 hts (gd_V (wm6 12 rfl rfl) (wm6 14 rfl rfl) (wmp4 (q := (yX11_tries, 26)) 9 rfl) (wm1 13 rfl rfl) (wm6 15 rfl rfl)) rfl rfl rfl (by decide +kernel) ⟨Nat.le_of_ble_eq_true rfl, Nat.le_of_ble_eq_true rfl⟩) hK hNw hG gl_135 rfl gk_135 (by decide) rfl rfl hl.1 rfl (lv_room (Nat.le_of_ble_eq_true rfl)) dX11_quarrel_36 ⟨Nat.zero_le _, Nat.zero_le _⟩) hG (fun h_36 g_36 H locs hq hG => ?_)
    replace HW := HW h_36 g_36 hq
    refine lv_iconst (v := 0) hx hb dX11_quarrel_39 (by decide) ?_
    refine lv_istore_n (lv' := [(3, .int (0 : Int32)), (0, .ref (ad 135)), (1, .int x1), (2, .int x2)]) hx hb dX11_quarrel_40 rfl hl (by decide) rfl (fun ls hl => ?_)
    obtain ⟨n_41, HW⟩ := HW
    exact L41 n_41 x1 x2 (0 : Int32) h_36 g_36 _ _ _ HW hG (lv_sub hl [1, 2, 3, 0] rfl)
  have E0 : ∀ (H : Heap) (locs : List Loc) (ls : Array Slot), gG D cy ad (gA ad s.heap.size) s.heap h g H locs → lv_has ls 5 [(0, .ref (ad 135)), (1, .int x1), (2, .int x2)] → W p l e ({ frames := 8, cells := 0, slots := 0, locals := 188 } : Room) s m args below meth c H locs 0 0 (MQ below (va_Qi (fun (r : Int32) (u : HI × HL) => Q r u.1 u.2) (gB D cy ad s.heap.size) (gA ad s.heap.size)) args s 0 0 (gA ad s.heap.size)) (F0 m 0 ls []) := by
    intro H locs ls hG hl
    unfold w_X11_quarrel at HW
    refine lv_aload_n hx hb dX11_quarrel_0 rfl (lv_at hl 0 rfl) ?_
    refine lv_iconst (v := 0) hx hb dX11_quarrel_1 (by decide) ?_
    refine lv_iload_n hx hb dX11_quarrel_2 rfl (lv_at hl 1 rfl) ?_
    obtain ⟨P_3, HC_3, HW⟩ := HW
    refine g_callz (g_runV (As := [.int (0 : Int32), .int x1]) (rest := []) ⟨hx, hb, hml, hown, hts⟩ (m_X11_is l D cy ad h g H.size (0 : Int32) x1 P_3 HC_3) (cwV 2 hts (gd_V (wm5 184 rfl rfl) (wm5 186 rfl rfl) (wmp3 (q := (yX11_is, 26)) 14 rfl) (wm1 13 rfl rfl) (wm5 187 rfl rfl)) rfl rfl rfl (by decide +kernel) ⟨Nat.le_of_ble_eq_true rfl, Nat.le_of_ble_eq_true rfl⟩) hK hNw hG gl_135 rfl gk_135 (by decide) rfl rfl hl.1 rfl (lv_room (Nat.le_of_ble_eq_true rfl)) dX11_quarrel_3 ⟨Nat.zero_le _, Nat.zero_le _⟩) hG (fun r_3 h_3 g_3 H locs hz hq hG => ?_)
    replace HW := HW r_3 h_3 g_3 hz hq
    refine lv_if_eq (tgt := 20) hx hb dX11_quarrel_6 (by decide) (fun c_6 => ?_) (fun c_6 => ?_)
    · replace HW := HW.1 c_6
      refine lv_bipush (v := (-10)) hx hb dX11_quarrel_20 (by decide) ?_
      exact W.iret (v := (-10 : Int32)) hx hb hr (fun t ht hW => ⟨⟨(-10 : Int32), (h_3, g_3), rfl, HW, g_B ht hG⟩, hG.2.2.F ht⟩) hG.2.2.2.2 dX11_quarrel_22
    · replace HW := HW.2 c_6
      refine lv_iload_n hx hb dX11_quarrel_9 rfl (lv_at hl 2 rfl) ?_
      refine lv_iconst (v := (-1)) hx hb dX11_quarrel_10 (by decide) ?_
      refine lv_icmp_ge (tgt := 23) hx hb dX11_quarrel_11 (by decide) (fun c_11 => ?_) (fun c_11 => ?_)
      · replace HW := HW.1 c_11
        exact B23 x1 x2 h_3 g_3 _ _ _ HW hG (lv_sub hl [0, 1, 2] rfl)
      · replace HW := HW.2 c_11
        refine lv_iload_n hx hb dX11_quarrel_14 rfl (lv_at hl 2 rfl) ?_
        refine lv_bipush (v := (-3)) hx hb dX11_quarrel_15 (by decide) ?_
        refine lv_icmp_eq (tgt := 23) hx hb dX11_quarrel_17 (by decide) (fun c_17 => ?_) (fun c_17 => ?_)
        · replace HW := HW.1 c_17
          exact B23 x1 x2 h_3 g_3 _ _ _ HW hG (lv_sub hl [0, 1, 2] rfl)
        · replace HW := HW.2 c_17
          refine lv_bipush (v := (-10)) hx hb dX11_quarrel_20 (by decide) ?_
          exact W.iret (v := (-10 : Int32)) hx hb hr (fun t ht hW => ⟨⟨(-10 : Int32), (h_3, g_3), rfl, HW, g_B ht hG⟩, hG.2.2.F ht⟩) hG.2.2.2.2 dX11_quarrel_22
  exact E0 _ _ _ hG hl

def w_X11_chainOf (x1 : Int32) (x2 : Int32) (h : HI) (g : HL) (Q : Int32 → HI → HL → Prop) : Prop :=
  (vp_in (((512 : Int32) + ((10 : Int32) * x1)) + x2) 887 ∧ Q (h 136 (((512 : Int32) + ((10 : Int32) * x1)) + x2).toNatClampNeg) h g)
set_option maxHeartbeats 8000000 in
set_option maxRecDepth 100000 in
theorem m_X11_chainOf (l : Launch) (D : va_G) (cy : Nat → ClassId) (ad : Nat → Nat) (h : HI) (g : HL) (sz : Nat) (x1 : Int32) (x2 : Int32) (Q : Int32 → HI → HL → Prop) (HW : w_X11_chainOf x1 x2 h g Q) : Met l yX11_chainOf (wa yX11_chainOf cX11_chainOf 3 (some .int)) ({ frames := 0, cells := 0, slots := 0, locals := 0 }) (va_Pc [.ref (ad 135), .int x1, .int x2] (gI D cy ad h g sz)) (va_Qi (fun (r : Int32) (u : HI × HL) => Q r u.1 u.2) (gB D cy ad sz) (gA ad sz)) 0 0 (gA ad sz) := by
  refine Met.ofW (cc := cX11_chainOf) (maxL := 3) (ret := (some .int)) (by decide) rfl ?_
  intro p e s m args below meth c s₁ B hml hv
  obtain ⟨hav, hsz, hP, hK, hD0, hNw⟩ := hv
  have hx := B.exec
  have hb := B.bytes
  have hr := B.returns
  have hts := atoms_spec (ws := (wa yX11_chainOf cX11_chainOf 3 (some .int))) B.pre
  have hw := wa_hw hts
  have hown : s.vm.findClass RX11 = some m.cls := findClass_of_methodNamed B.named
  have hlocks := B.notSynchronized
  subst hsz
  have hG : gG D cy ad (gA ad s.heap.size) s.heap h g s.heap [] := ⟨hP, gA_self hD0, va_S.rf⟩
  clear hP hD0
  have lk7 := hw (.fieldLink RX11 7 "OldWorksModel" "st" "[I") (wm5 27 rfl rfl)
  rw [show (headSpec (wa yX11_chainOf cX11_chainOf 3 (some .int)) ({ frames := 0, cells := 0, slots := 0, locals := 0 } : Room)).room = ({ frames := 0, cells := 0, slots := 0, locals := 0 } : Room) from rfl]
  have hl := lv_entry ([.ref (ad 135), .int x1, .int x2]) (n := 3) (Nat.le_of_ble_eq_true rfl)
  rw [show entryFrame m args 3 = entryFrame m ([.ref (ad 135), .int x1, .int x2] : List Value).toArray 3 from by rw [hav], lg_entry_eq]
  generalize (lg_sl ([.ref (ad 135), .int x1, .int x2]) ++ List.replicate (3 - (lg_sl ([.ref (ad 135), .int x1, .int x2])).length) Slot.unset).toArray = ls at hl ⊢
  have hl : lv_has ls 3 [(0, .ref (ad 135)), (1, .int x1), (2, .int x2)] := hl
  have E0 : ∀ (H : Heap) (locs : List Loc) (ls : Array Slot), gG D cy ad (gA ad s.heap.size) s.heap h g H locs → lv_has ls 3 [(0, .ref (ad 135)), (1, .int x1), (2, .int x2)] → W p l e ({ frames := 0, cells := 0, slots := 0, locals := 0 } : Room) s m args below meth c H locs 0 0 (MQ below (va_Qi (fun (r : Int32) (u : HI × HL) => Q r u.1 u.2) (gB D cy ad s.heap.size) (gA ad s.heap.size)) args s 0 0 (gA ad s.heap.size)) (F0 m 0 ls []) := by
    intro H locs ls hG hl
    unfold w_X11_chainOf at HW
    refine lv_aload_n hx hb dX11_chainOf_0 rfl (lv_at hl 0 rfl) ?_
    refine g_getr hx hb hw inG11 hown hK hG gl_135 rfl gk_135 (by decide) 0 (by decide) (by rw [gm_135]; decide) (r := 136) gr_135_0 lk7 dX11_chainOf_1 ?_
    refine lv_sipush (v := 512) hx hb dX11_chainOf_4 (by decide) ?_
    refine lv_bipush (v := 10) hx hb dX11_chainOf_7 (by decide) ?_
    refine lv_iload_n hx hb dX11_chainOf_9 rfl (lv_at hl 1 rfl) ?_
    refine lv_imul hx hb dX11_chainOf_10 ?_
    refine lv_iadd hx hb dX11_chainOf_11 ?_
    refine lv_iload_n hx hb dX11_chainOf_12 rfl (lv_at hl 2 rfl) ?_
    refine lv_iadd hx hb dX11_chainOf_13 ?_
    refine g_iald hx hb hK hG gl_136 gk_136 gn_136 HW.1 dX11_chainOf_14 ?_
    replace HW := HW.2
    exact W.iret (v := (h 136 (((512 : Int32) + ((10 : Int32) * x1)) + x2).toNatClampNeg)) hx hb hr (fun t ht hW => ⟨⟨(h 136 (((512 : Int32) + ((10 : Int32) * x1)) + x2).toNatClampNeg), (h, g), rfl, HW, g_B ht hG⟩, hG.2.2.F ht⟩) hG.2.2.2.2 dX11_chainOf_15
  exact E0 _ _ _ hG hl

def j_X11_chain_95 (Q : Int32 → HI → HL → Prop) (K60 : Int32 → Int32 → Int32 → Int32 → HI → HL → Prop) (x1 : Int32) (x2 : Int32) (x3 : Int32) (x4 : Int32) (s1 : Int32) (s2 : Int32) (h : HI) (g : HL) : Prop :=
  (vp_in s1 887 ∧ ∀ h_95 : HI, h_95 = hu h 136 s1.toNatClampNeg s2 → (∀ x4_96 : Int32, x4_96 = (x4 + 1) → K60 x1 x2 x3 x4_96 h_95 g))
def b_X11_chain_60 (Q : Int32 → HI → HL → Prop) (K60 : Int32 → Int32 → Int32 → Int32 → HI → HL → Prop) (x1 : Int32) (x2 : Int32) (x3 : Int32) (x4 : Int32) (h : HI) (g : HL) : Prop :=
  (((10 : Int32) ≤ x4 → (∃ P_104 : Int32 → HI → HL → Prop, w_X11_one (2 : Int32) h g P_104 ∧ ∀ (r_104 : Int32) (h_104 : HI) (g_104 : HL), P_104 r_104 h_104 g_104 → Q r_104 h_104 g_104)) ∧ (¬ (10 : Int32) ≤ x4 → ((¬ x4 = 0 → ((¬ x4 = (1 : Int32) → j_X11_chain_95 Q K60 x1 x2 x3 x4 (x3 + x4) (0 : Int32) h g) ∧ (x4 = (1 : Int32) → j_X11_chain_95 Q K60 x1 x2 x3 x4 (x3 + x4) x2 h g))) ∧ (x4 = 0 → j_X11_chain_95 Q K60 x1 x2 x3 x4 (x3 + x4) x1 h g))))
def F_X11_chain_60 (Q : Int32 → HI → HL → Prop) (K : Int32 × Int32 × Int32 × Int32 × HI × HL → Prop) (q : Int32 × Int32 × Int32 × Int32 × HI × HL) : Prop := b_X11_chain_60 Q (fun x1 x2 x3 x4 h g => K (x1, x2, x3, x4, h, g)) q.1 q.2.1 q.2.2.1 q.2.2.2.1 q.2.2.2.2.1 q.2.2.2.2.2
def w_X11_chain (x1 : Int32) (x2 : Int32) (h : HI) (g : HL) (Q : Int32 → HI → HL → Prop) : Prop :=
  (∃ P_7 : Int32 → HI → HL → Prop, w_X11_in ((x1).toInt64) (-100000 : Int64) ((x2).toInt64) h g P_7 ∧ ∀ (r_7 : Int32) (h_7 : HI) (g_7 : HL), zb r_7 → P_7 r_7 h_7 g_7 → ((r_7 = 0 → Q (-2 : Int32) h_7 g_7) ∧ (¬ r_7 = 0 → (∃ P_20 : Int32 → HI → HL → Prop, w_X11_in ((x2).toInt64) ((x1).toInt64) (100000 : Int64) h_7 g_7 P_20 ∧ ∀ (r_20 : Int32) (h_20 : HI) (g_20 : HL), zb r_20 → P_20 r_20 h_20 g_20 → ((¬ r_20 = 0 → (vp_in (2 : Int32) 887 ∧ ((¬ (h_20 136 (2 : Int32).toNatClampNeg) = (16 : Int32) → (vp_in (2 : Int32) 887 ∧ (∀ x3_56 : Int32, x3_56 = ((512 : Int32) + ((10 : Int32) * (h_20 136 (2 : Int32).toNatClampNeg))) → lpE (F_X11_chain_60 Q) (x1, x2, x3_56, (0 : Int32), h_20, g_20)))) ∧ ((h_20 136 (2 : Int32).toNatClampNeg) = (16 : Int32) → Q (-4 : Int32) h_20 g_20)))) ∧ (r_20 = 0 → Q (-2 : Int32) h_20 g_20))))))
set_option maxHeartbeats 8000000 in
set_option maxRecDepth 100000 in
theorem m_X11_chain (l : Launch) (D : va_G) (cy : Nat → ClassId) (ad : Nat → Nat) (h : HI) (g : HL) (sz : Nat) (x1 : Int32) (x2 : Int32) (Q : Int32 → HI → HL → Prop) (HW : w_X11_chain x1 x2 h g Q) : Met l yX11_chain (wa yX11_chain cX11_chain 5 (some .int)) ({ frames := 1, cells := 0, slots := 0, locals := 25 }) (va_Pc [.ref (ad 135), .int x1, .int x2] (gI D cy ad h g sz)) (va_Qi (fun (r : Int32) (u : HI × HL) => Q r u.1 u.2) (gB D cy ad sz) (gA ad sz)) 0 0 (gA ad sz) := by
  refine Met.ofW (cc := cX11_chain) (maxL := 5) (ret := (some .int)) (by decide) rfl ?_
  intro p e s m args below meth c s₁ B hml hv
  obtain ⟨hav, hsz, hP, hK, hD0, hNw⟩ := hv
  have hx := B.exec
  have hb := B.bytes
  have hr := B.returns
  have hts := atoms_spec (ws := (wa yX11_chain cX11_chain 5 (some .int))) B.pre
  have hw := wa_hw hts
  have hown : s.vm.findClass RX11 = some m.cls := findClass_of_methodNamed B.named
  have hlocks := B.notSynchronized
  subst hsz
  have hG : gG D cy ad (gA ad s.heap.size) s.heap h g s.heap [] := ⟨hP, gA_self hD0, va_S.rf⟩
  clear hP hD0
  have cn203 := hw (.constantLong RX11 203 (-100000)) (wm6 24 rfl rfl)
  have cn73 := hw (.constantLong RX11 73 (100000)) (wm5 131 rfl rfl)
  have lk7 := hw (.fieldLink RX11 7 "OldWorksModel" "st" "[I") (wm5 27 rfl rfl)
  rw [show (headSpec (wa yX11_chain cX11_chain 5 (some .int)) ({ frames := 1, cells := 0, slots := 0, locals := 25 } : Room)).room = ({ frames := 1, cells := 0, slots := 0, locals := 25 } : Room) from rfl]
  have hl := lv_entry ([.ref (ad 135), .int x1, .int x2]) (n := 5) (Nat.le_of_ble_eq_true rfl)
  rw [show entryFrame m args 5 = entryFrame m ([.ref (ad 135), .int x1, .int x2] : List Value).toArray 5 from by rw [hav], lg_entry_eq]
  generalize (lg_sl ([.ref (ad 135), .int x1, .int x2]) ++ List.replicate (5 - (lg_sl ([.ref (ad 135), .int x1, .int x2])).length) Slot.unset).toArray = ls at hl ⊢
  have hl : lv_has ls 5 [(0, .ref (ad 135)), (1, .int x1), (2, .int x2)] := hl
  have B95 : ∀ (K60 : Int32 → Int32 → Int32 → Int32 → HI → HL → Prop) (hK60 : ∀ (x1 : Int32) (x2 : Int32) (x3 : Int32) (x4 : Int32) (h : HI) (g : HL) (H : Heap) (locs : List Loc) (ls : Array Slot), K60 x1 x2 x3 x4 h g → gG D cy ad (gA ad s.heap.size) s.heap h g H locs → lv_has ls 5 [(0, .ref (ad 135)), (1, .int x1), (2, .int x2), (3, .int x3), (4, .int x4)] → W p l e ({ frames := 1, cells := 0, slots := 0, locals := 25 } : Room) s m args below meth c H locs 0 0 (MQ below (va_Qi (fun (r : Int32) (u : HI × HL) => Q r u.1 u.2) (gB D cy ad s.heap.size) (gA ad s.heap.size)) args s 0 0 (gA ad s.heap.size)) (F0 m 60 ls [])) (x1 : Int32) (x2 : Int32) (x3 : Int32) (x4 : Int32) (s1 : Int32) (s2 : Int32) (h : HI) (g : HL) (H : Heap) (locs : List Loc) (ls : Array Slot), j_X11_chain_95 Q K60 x1 x2 x3 x4 s1 s2 h g → gG D cy ad (gA ad s.heap.size) s.heap h g H locs → lv_has ls 5 [(0, .ref (ad 135)), (1, .int x1), (2, .int x2), (3, .int x3), (4, .int x4)] → W p l e ({ frames := 1, cells := 0, slots := 0, locals := 25 } : Room) s m args below meth c H locs 0 0 (MQ below (va_Qi (fun (r : Int32) (u : HI × HL) => Q r u.1 u.2) (gB D cy ad s.heap.size) (gA ad s.heap.size)) args s 0 0 (gA ad s.heap.size)) (F0 m 95 ls [.int s2, .int s1, .ref (ad 136)]) := by
    intro K60 hK60 x1 x2 x3 x4 s1 s2 h g H locs ls HW hG hl
    unfold j_X11_chain_95 at HW
    refine g_iast hx hb hK hG gl_136 gk_136 gn_136 HW.1 dX11_chain_95 (fun H locs hG => ?_)
    replace HW := HW.2
    obtain ⟨h_95, eh_95⟩ : ∃ y : HI, y = hu h 136 s1.toNatClampNeg s2 := ⟨_, rfl⟩
    rw [← eh_95] at hG
    replace HW := HW h_95 eh_95
    obtain ⟨x4_96, ex4_96⟩ : ∃ y : Int32, y = (x4 + 1) := ⟨_, rfl⟩
    replace HW := HW x4_96 ex4_96
    refine lv_iinc (v := x4_96) (lv' := [(4, .int x4_96), (0, .ref (ad 135)), (1, .int x1), (2, .int x2), (3, .int x3)]) hx hb dX11_chain_96 hl (k := 4) rfl (by rw [ex4_96]; rfl) (by decide) rfl (fun ls hl => ?_)
    refine lv_goto (tgt := 60) hx hb dX11_chain_99 (by decide) ?_
    exact hK60 x1 x2 x3 x4_96 h_95 g _ _ _ HW hG (lv_sub hl [1, 2, 3, 4, 0] rfl)
  have L60 : ∀ (n : Nat) (x1 : Int32) (x2 : Int32) (x3 : Int32) (x4 : Int32) (h : HI) (g : HL) (H : Heap) (locs : List Loc) (ls : Array Slot), lpN (F_X11_chain_60 Q) n (x1, x2, x3, x4, h, g) → gG D cy ad (gA ad s.heap.size) s.heap h g H locs → lv_has ls 5 [(0, .ref (ad 135)), (1, .int x1), (2, .int x2), (3, .int x3), (4, .int x4)] → W p l e ({ frames := 1, cells := 0, slots := 0, locals := 25 } : Room) s m args below meth c H locs 0 0 (MQ below (va_Qi (fun (r : Int32) (u : HI × HL) => Q r u.1 u.2) (gB D cy ad s.heap.size) (gA ad s.heap.size)) args s 0 0 (gA ad s.heap.size)) (F0 m 60 ls []) := by
    intro n
    induction n with
    | zero => intro x1 x2 x3 x4 h g H locs ls HW; exact HW.elim
    | succ n ih =>
      intro x1 x2 x3 x4 h g H locs ls HW hG hl
      have HW : b_X11_chain_60 Q (fun x1 x2 x3 x4 h g => lpN (F_X11_chain_60 Q) n (x1, x2, x3, x4, h, g)) x1 x2 x3 x4 h g := HW
      generalize hKe : (fun (x1 : Int32) (x2 : Int32) (x3 : Int32) (x4 : Int32) (h : HI) (g : HL) => lpN (F_X11_chain_60 Q) n (x1, x2, x3, x4, h, g)) = K60 at HW
      have hK60 : ∀ (x1 : Int32) (x2 : Int32) (x3 : Int32) (x4 : Int32) (h : HI) (g : HL) (H : Heap) (locs : List Loc) (ls : Array Slot), K60 x1 x2 x3 x4 h g → gG D cy ad (gA ad s.heap.size) s.heap h g H locs → lv_has ls 5 [(0, .ref (ad 135)), (1, .int x1), (2, .int x2), (3, .int x3), (4, .int x4)] → W p l e ({ frames := 1, cells := 0, slots := 0, locals := 25 } : Room) s m args below meth c H locs 0 0 (MQ below (va_Qi (fun (r : Int32) (u : HI × HL) => Q r u.1 u.2) (gB D cy ad s.heap.size) (gA ad s.heap.size)) args s 0 0 (gA ad s.heap.size)) (F0 m 60 ls []) := by subst hKe; exact ih
      clear ih
      clear hKe
      unfold b_X11_chain_60 at HW
      refine lv_iload hx hb dX11_chain_60 (lv_at hl 4 rfl) ?_
      refine lv_bipush (v := 10) hx hb dX11_chain_62 (by decide) ?_
      refine lv_icmp_ge (tgt := 102) hx hb dX11_chain_64 (by decide) (fun c_64 => ?_) (fun c_64 => ?_)
      · replace HW := HW.1 c_64
        refine lv_aload_n hx hb dX11_chain_102 rfl (lv_at hl 0 rfl) ?_
        refine lv_iconst (v := 2) hx hb dX11_chain_103 (by decide) ?_
        obtain ⟨P_104, HC_104, HW⟩ := HW
        refine g_calli (g_runV (As := [.int (2 : Int32)]) (rest := []) ⟨hx, hb, hml, hown, hts⟩ (m_X11_one l D cy ad h g H.size (2 : Int32) P_104 HC_104) (cwV 1 hts (gd_V (wm5 120 rfl rfl) (wm5 122 rfl rfl) (wmp3 (q := (yX11_one, 26)) 7 rfl) (wm1 13 rfl rfl) (wm5 123 rfl rfl)) rfl rfl rfl (by decide +kernel) ⟨Nat.le_of_ble_eq_true rfl, Nat.le_of_ble_eq_true rfl⟩) hK hNw hG gl_135 rfl gk_135 (by decide) rfl rfl hl.1 rfl (lv_room (Nat.le_of_ble_eq_true rfl)) dX11_chain_104 ⟨Nat.zero_le _, Nat.zero_le _⟩) hG (fun r_104 h_104 g_104 H locs hq hG => ?_)
        replace HW := HW r_104 h_104 g_104 hq
        exact W.iret (v := r_104) hx hb hr (fun t ht hW => ⟨⟨r_104, (h_104, g_104), rfl, HW, g_B ht hG⟩, hG.2.2.F ht⟩) hG.2.2.2.2 dX11_chain_107
      · replace HW := HW.2 c_64
        refine lv_aload_n hx hb dX11_chain_67 rfl (lv_at hl 0 rfl) ?_
        refine g_getr hx hb hw inG11 hown hK hG gl_135 rfl gk_135 (by decide) 0 (by decide) (by rw [gm_135]; decide) (r := 136) gr_135_0 lk7 dX11_chain_68 ?_
        refine lv_iload_n hx hb dX11_chain_71 rfl (lv_at hl 3 rfl) ?_
        refine lv_iload hx hb dX11_chain_72 (lv_at hl 4 rfl) ?_
        refine lv_iadd hx hb dX11_chain_74 ?_
        refine lv_iload hx hb dX11_chain_75 (lv_at hl 4 rfl) ?_
        refine lv_if_ne (tgt := 84) hx hb dX11_chain_77 (by decide) (fun c_77 => ?_) (fun c_77 => ?_)
        · replace HW := HW.1 c_77
          refine lv_iload hx hb dX11_chain_84 (lv_at hl 4 rfl) ?_
          refine lv_iconst (v := 1) hx hb dX11_chain_86 (by decide) ?_
          refine lv_icmp_ne (tgt := 94) hx hb dX11_chain_87 (by decide) (fun c_87 => ?_) (fun c_87 => ?_)
          · replace HW := HW.1 c_87
            refine lv_iconst (v := 0) hx hb dX11_chain_94 (by decide) ?_
            exact B95 K60 hK60 x1 x2 x3 x4 (x3 + x4) (0 : Int32) h g _ _ _ HW hG (lv_sub hl [0, 1, 2, 3, 4] rfl)
          · replace HW := HW.2 c_87
            refine lv_iload_n hx hb dX11_chain_90 rfl (lv_at hl 2 rfl) ?_
            refine lv_goto (tgt := 95) hx hb dX11_chain_91 (by decide) ?_
            exact B95 K60 hK60 x1 x2 x3 x4 (x3 + x4) x2 h g _ _ _ HW hG (lv_sub hl [0, 1, 2, 3, 4] rfl)
        · replace HW := HW.2 c_77
          refine lv_iload_n hx hb dX11_chain_80 rfl (lv_at hl 1 rfl) ?_
          refine lv_goto (tgt := 95) hx hb dX11_chain_81 (by decide) ?_
          exact B95 K60 hK60 x1 x2 x3 x4 (x3 + x4) x1 h g _ _ _ HW hG (lv_sub hl [0, 1, 2, 3, 4] rfl)
  have E0 : ∀ (H : Heap) (locs : List Loc) (ls : Array Slot), gG D cy ad (gA ad s.heap.size) s.heap h g H locs → lv_has ls 5 [(0, .ref (ad 135)), (1, .int x1), (2, .int x2)] → W p l e ({ frames := 1, cells := 0, slots := 0, locals := 25 } : Room) s m args below meth c H locs 0 0 (MQ below (va_Qi (fun (r : Int32) (u : HI × HL) => Q r u.1 u.2) (gB D cy ad s.heap.size) (gA ad s.heap.size)) args s 0 0 (gA ad s.heap.size)) (F0 m 0 ls []) := by
    intro H locs ls hG hl
    unfold w_X11_chain at HW
    refine lv_iload_n hx hb dX11_chain_0 rfl (lv_at hl 1 rfl) ?_
    refine lv_i2l hx hb dX11_chain_1 rfl ?_
    refine lv_ldc2 (v := (-100000)) hx hb hown cn203 dX11_chain_2 ?_
    refine lv_iload_n hx hb dX11_chain_5 rfl (lv_at hl 2 rfl) ?_
    refine lv_i2l hx hb dX11_chain_6 rfl ?_
    obtain ⟨P_7, HC_7, HW⟩ := HW
    refine g_callz (g_runS (As := [.long ((x1).toInt64), .long (-100000 : Int64), .long ((x2).toInt64)]) (rest := []) ⟨hx, hb, hml, hown, hts⟩ (m_X11_in l D cy ad h g H.size ((x1).toInt64) (-100000 : Int64) ((x2).toInt64) P_7 HC_7) (va_cwS 3 hts (gd_S (wm5 111 rfl rfl) (wm5 112 rfl rfl) (wm1 13 rfl rfl) (wm5 113 rfl rfl)) rfl rfl rfl (by decide +kernel) ⟨Nat.le_of_ble_eq_true rfl, Nat.le_of_ble_eq_true rfl⟩) hK hNw hG rfl rfl hl.1 rfl (lv_room (Nat.le_of_ble_eq_true rfl)) dX11_chain_7 ⟨Nat.zero_le _, Nat.zero_le _⟩) hG (fun r_7 h_7 g_7 H locs hz hq hG => ?_)
    replace HW := HW r_7 h_7 g_7 hz hq
    refine lv_if_eq (tgt := 26) hx hb dX11_chain_10 (by decide) (fun c_10 => ?_) (fun c_10 => ?_)
    · replace HW := HW.1 c_10
      refine lv_bipush (v := (-2)) hx hb dX11_chain_26 (by decide) ?_
      exact W.iret (v := (-2 : Int32)) hx hb hr (fun t ht hW => ⟨⟨(-2 : Int32), (h_7, g_7), rfl, HW, g_B ht hG⟩, hG.2.2.F ht⟩) hG.2.2.2.2 dX11_chain_28
    · replace HW := HW.2 c_10
      refine lv_iload_n hx hb dX11_chain_13 rfl (lv_at hl 2 rfl) ?_
      refine lv_i2l hx hb dX11_chain_14 rfl ?_
      refine lv_iload_n hx hb dX11_chain_15 rfl (lv_at hl 1 rfl) ?_
      refine lv_i2l hx hb dX11_chain_16 rfl ?_
      refine lv_ldc2 (v := 100000) hx hb hown cn73 dX11_chain_17 ?_
      obtain ⟨P_20, HC_20, HW⟩ := HW
      refine g_callz (g_runS (As := [.long ((x2).toInt64), .long ((x1).toInt64), .long (100000 : Int64)]) (rest := []) ⟨hx, hb, hml, hown, hts⟩ (m_X11_in l D cy ad h_7 g_7 H.size ((x2).toInt64) ((x1).toInt64) (100000 : Int64) P_20 HC_20) (va_cwS 3 hts (gd_S (wm5 111 rfl rfl) (wm5 112 rfl rfl) (wm1 13 rfl rfl) (wm5 113 rfl rfl)) rfl rfl rfl (by decide +kernel) ⟨Nat.le_of_ble_eq_true rfl, Nat.le_of_ble_eq_true rfl⟩) hK hNw hG rfl rfl hl.1 rfl (lv_room (Nat.le_of_ble_eq_true rfl)) dX11_chain_20 ⟨Nat.zero_le _, Nat.zero_le _⟩) hG (fun r_20 h_20 g_20 H locs hz hq hG => ?_)
      replace HW := HW r_20 h_20 g_20 hz hq
      refine lv_if_ne (tgt := 29) hx hb dX11_chain_23 (by decide) (fun c_23 => ?_) (fun c_23 => ?_)
      · replace HW := HW.1 c_23
        refine lv_aload_n hx hb dX11_chain_29 rfl (lv_at hl 0 rfl) ?_
        refine g_getr hx hb hw inG11 hown hK hG gl_135 rfl gk_135 (by decide) 0 (by decide) (by rw [gm_135]; decide) (r := 136) gr_135_0 lk7 dX11_chain_30 ?_
        refine lv_iconst (v := 2) hx hb dX11_chain_33 (by decide) ?_
        refine g_iald hx hb hK hG gl_136 gk_136 gn_136 HW.1 dX11_chain_34 ?_
        replace HW := HW.2
        refine lv_bipush (v := 16) hx hb dX11_chain_35 (by decide) ?_
        refine lv_icmp_ne (tgt := 43) hx hb dX11_chain_37 (by decide) (fun c_37 => ?_) (fun c_37 => ?_)
        · replace HW := HW.1 c_37
          refine lv_sipush (v := 512) hx hb dX11_chain_43 (by decide) ?_
          refine lv_bipush (v := 10) hx hb dX11_chain_46 (by decide) ?_
          refine lv_aload_n hx hb dX11_chain_48 rfl (lv_at hl 0 rfl) ?_
          refine g_getr hx hb hw inG11 hown hK hG gl_135 rfl gk_135 (by decide) 0 (by decide) (by rw [gm_135]; decide) (r := 136) gr_135_0 lk7 dX11_chain_49 ?_
          refine lv_iconst (v := 2) hx hb dX11_chain_52 (by decide) ?_
          refine g_iald hx hb hK hG gl_136 gk_136 gn_136 HW.1 dX11_chain_53 ?_
          replace HW := HW.2
          refine lv_imul hx hb dX11_chain_54 ?_
          refine lv_iadd hx hb dX11_chain_55 ?_
          refine lv_topi (fun x3_56 ex3_56 => ?_)
          replace HW := HW x3_56 ex3_56
          refine lv_istore_n (lv' := [(3, .int x3_56), (0, .ref (ad 135)), (1, .int x1), (2, .int x2)]) hx hb dX11_chain_56 rfl hl (by decide) rfl (fun ls hl => ?_)
          refine lv_iconst (v := 0) hx hb dX11_chain_57 (by decide) ?_
          refine lv_istore (lv' := [(4, .int (0 : Int32)), (3, .int x3_56), (0, .ref (ad 135)), (1, .int x1), (2, .int x2)]) hx hb dX11_chain_58 hl (by decide) rfl (fun ls hl => ?_)
          obtain ⟨n_60, HW⟩ := HW
          exact L60 n_60 x1 x2 x3_56 (0 : Int32) h_20 g_20 _ _ _ HW hG (lv_sub hl [2, 3, 4, 1, 0] rfl)
        · replace HW := HW.2 c_37
          refine lv_bipush (v := (-4)) hx hb dX11_chain_40 (by decide) ?_
          exact W.iret (v := (-4 : Int32)) hx hb hr (fun t ht hW => ⟨⟨(-4 : Int32), (h_20, g_20), rfl, HW, g_B ht hG⟩, hG.2.2.F ht⟩) hG.2.2.2.2 dX11_chain_42
      · replace HW := HW.2 c_23
        refine lv_bipush (v := (-2)) hx hb dX11_chain_26 (by decide) ?_
        exact W.iret (v := (-2 : Int32)) hx hb hr (fun t ht hW => ⟨⟨(-2 : Int32), (h_20, g_20), rfl, HW, g_B ht hG⟩, hG.2.2.F ht⟩) hG.2.2.2.2 dX11_chain_28
  exact E0 _ _ _ hG hl

def b_X11_has_2 (Q : Int32 → HI → HL → Prop) (K2 : Int32 → Int32 → Int32 → HI → HL → Prop) (x1 : Int32) (x2 : Int32) (x3 : Int32) (h : HI) (g : HL) : Prop :=
  (∃ P_6 : Int32 → HI → HL → Prop, w_X11_chainOf x1 (2 : Int32) h g P_6 ∧ ∀ (r_6 : Int32) (h_6 : HI) (g_6 : HL), P_6 r_6 h_6 g_6 → ((r_6 ≤ x3 → Q (0 : Int32) h_6 g_6) ∧ (¬ r_6 ≤ x3 → (∃ P_17 : Int32 → HI → HL → Prop, w_X11_chainOf x1 ((3 : Int32) + x3) h_6 g_6 P_17 ∧ ∀ (r_17 : Int32) (h_17 : HI) (g_17 : HL), P_17 r_17 h_17 g_17 → ((¬ r_17 = x2 → (∀ x3_26 : Int32, x3_26 = (x3 + 1) → K2 x1 x2 x3_26 h_17 g_17)) ∧ (r_17 = x2 → Q (1 : Int32) h_17 g_17))))))
def F_X11_has_2 (Q : Int32 → HI → HL → Prop) (K : Int32 × Int32 × Int32 × HI × HL → Prop) (q : Int32 × Int32 × Int32 × HI × HL) : Prop := b_X11_has_2 Q (fun x1 x2 x3 h g => K (x1, x2, x3, h, g)) q.1 q.2.1 q.2.2.1 q.2.2.2.1 q.2.2.2.2
def w_X11_has (x1 : Int32) (x2 : Int32) (h : HI) (g : HL) (Q : Int32 → HI → HL → Prop) : Prop :=
  lpE (F_X11_has_2 Q) (x1, x2, (0 : Int32), h, g)
set_option maxHeartbeats 8000000 in
set_option maxRecDepth 100000 in
theorem m_X11_has (l : Launch) (D : va_G) (cy : Nat → ClassId) (ad : Nat → Nat) (h : HI) (g : HL) (sz : Nat) (x1 : Int32) (x2 : Int32) (Q : Int32 → HI → HL → Prop) (HW : w_X11_has x1 x2 h g Q) : Met l yX11_has (wa yX11_has cX11_has 4 (some .boolean)) ({ frames := 1, cells := 0, slots := 0, locals := 22 }) (va_Pc [.ref (ad 135), .int x1, .int x2] (gI D cy ad h g sz)) (va_Qi (fun (r : Int32) (u : HI × HL) => zb r ∧ Q r u.1 u.2) (gB D cy ad sz) (gA ad sz)) 0 0 (gA ad sz) := by
  refine Met.ofW (cc := cX11_has) (maxL := 4) (ret := (some .boolean)) (by decide) rfl ?_
  intro p e s m args below meth c s₁ B hml hv
  obtain ⟨hav, hsz, hP, hK, hD0, hNw⟩ := hv
  have hx := B.exec
  have hb := B.bytes
  have hr := B.returns
  have hts := atoms_spec (ws := (wa yX11_has cX11_has 4 (some .boolean))) B.pre
  have hw := wa_hw hts
  have hown : s.vm.findClass RX11 = some m.cls := findClass_of_methodNamed B.named
  have hlocks := B.notSynchronized
  subst hsz
  have hG : gG D cy ad (gA ad s.heap.size) s.heap h g s.heap [] := ⟨hP, gA_self hD0, va_S.rf⟩
  clear hP hD0
  rw [show (headSpec (wa yX11_has cX11_has 4 (some .boolean)) ({ frames := 1, cells := 0, slots := 0, locals := 22 } : Room)).room = ({ frames := 1, cells := 0, slots := 0, locals := 22 } : Room) from rfl]
  have hl := lv_entry ([.ref (ad 135), .int x1, .int x2]) (n := 4) (Nat.le_of_ble_eq_true rfl)
  rw [show entryFrame m args 4 = entryFrame m ([.ref (ad 135), .int x1, .int x2] : List Value).toArray 4 from by rw [hav], lg_entry_eq]
  generalize (lg_sl ([.ref (ad 135), .int x1, .int x2]) ++ List.replicate (4 - (lg_sl ([.ref (ad 135), .int x1, .int x2])).length) Slot.unset).toArray = ls at hl ⊢
  have hl : lv_has ls 4 [(0, .ref (ad 135)), (1, .int x1), (2, .int x2)] := hl
  have L2 : ∀ (n : Nat) (x1 : Int32) (x2 : Int32) (x3 : Int32) (h : HI) (g : HL) (H : Heap) (locs : List Loc) (ls : Array Slot), lpN (F_X11_has_2 Q) n (x1, x2, x3, h, g) → gG D cy ad (gA ad s.heap.size) s.heap h g H locs → lv_has ls 4 [(0, .ref (ad 135)), (1, .int x1), (2, .int x2), (3, .int x3)] → W p l e ({ frames := 1, cells := 0, slots := 0, locals := 22 } : Room) s m args below meth c H locs 0 0 (MQ below (va_Qi (fun (r : Int32) (u : HI × HL) => zb r ∧ Q r u.1 u.2) (gB D cy ad s.heap.size) (gA ad s.heap.size)) args s 0 0 (gA ad s.heap.size)) (F0 m 2 ls []) := by
    intro n
    induction n with
    | zero => intro x1 x2 x3 h g H locs ls HW; exact HW.elim
    | succ n ih =>
      intro x1 x2 x3 h g H locs ls HW hG hl
      have HW : b_X11_has_2 Q (fun x1 x2 x3 h g => lpN (F_X11_has_2 Q) n (x1, x2, x3, h, g)) x1 x2 x3 h g := HW
      generalize hKe : (fun (x1 : Int32) (x2 : Int32) (x3 : Int32) (h : HI) (g : HL) => lpN (F_X11_has_2 Q) n (x1, x2, x3, h, g)) = K2 at HW
      have hK2 : ∀ (x1 : Int32) (x2 : Int32) (x3 : Int32) (h : HI) (g : HL) (H : Heap) (locs : List Loc) (ls : Array Slot), K2 x1 x2 x3 h g → gG D cy ad (gA ad s.heap.size) s.heap h g H locs → lv_has ls 4 [(0, .ref (ad 135)), (1, .int x1), (2, .int x2), (3, .int x3)] → W p l e ({ frames := 1, cells := 0, slots := 0, locals := 22 } : Room) s m args below meth c H locs 0 0 (MQ below (va_Qi (fun (r : Int32) (u : HI × HL) => zb r ∧ Q r u.1 u.2) (gB D cy ad s.heap.size) (gA ad s.heap.size)) args s 0 0 (gA ad s.heap.size)) (F0 m 2 ls []) := by subst hKe; exact ih
      clear ih
      clear hKe
      unfold b_X11_has_2 at HW
      refine lv_iload_n hx hb dX11_has_2 rfl (lv_at hl 3 rfl) ?_
      refine lv_aload_n hx hb dX11_has_3 rfl (lv_at hl 0 rfl) ?_
      refine lv_iload_n hx hb dX11_has_4 rfl (lv_at hl 1 rfl) ?_
      refine lv_iconst (v := 2) hx hb dX11_has_5 (by decide) ?_
      obtain ⟨P_6, HC_6, HW⟩ := HW
      refine g_calli (g_runV (As := [.int x1, .int (2 : Int32)]) (rest := [.int x3]) ⟨hx, hb, hml, hown, hts⟩ (m_X11_chainOf l D cy ad h g H.size x1 (2 : Int32) P_6 HC_6) (cwV 2 hts (gd_V (wm6 33 rfl rfl) (wm6 35 rfl rfl) (wmp4 (q := (yX11_chainOf, 26)) 12 rfl) (wm1 13 rfl rfl) (wm6 36 rfl rfl)) rfl rfl rfl (by decide +kernel) ⟨Nat.le_of_ble_eq_true rfl, Nat.le_of_ble_eq_true rfl⟩) hK hNw hG gl_135 rfl gk_135 (by decide) rfl rfl hl.1 rfl (lv_room (Nat.le_of_ble_eq_true rfl)) dX11_has_6 ⟨Nat.zero_le _, Nat.zero_le _⟩) hG (fun r_6 h_6 g_6 H locs hq hG => ?_)
      replace HW := HW r_6 h_6 g_6 hq
      refine lv_icmp_ge (tgt := 32) hx hb dX11_has_9 (by decide) (fun c_9 => ?_) (fun c_9 => ?_)
      · replace HW := HW.1 c_9
        refine lv_iconst (v := 0) hx hb dX11_has_32 (by decide) ?_
        exact W.zret (v := (0 : Int32)) hx hb hr rfl (fun t ht hW => ⟨⟨(0 : Int32), (h_6, g_6), rfl, ⟨Or.inl rfl, HW⟩, g_B ht hG⟩, hG.2.2.F ht⟩) hG.2.2.2.2 dX11_has_33
      · replace HW := HW.2 c_9
        refine lv_aload_n hx hb dX11_has_12 rfl (lv_at hl 0 rfl) ?_
        refine lv_iload_n hx hb dX11_has_13 rfl (lv_at hl 1 rfl) ?_
        refine lv_iconst (v := 3) hx hb dX11_has_14 (by decide) ?_
        refine lv_iload_n hx hb dX11_has_15 rfl (lv_at hl 3 rfl) ?_
        refine lv_iadd hx hb dX11_has_16 ?_
        obtain ⟨P_17, HC_17, HW⟩ := HW
        refine g_calli (g_runV (As := [.int x1, .int ((3 : Int32) + x3)]) (rest := []) ⟨hx, hb, hml, hown, hts⟩ (m_X11_chainOf l D cy ad h_6 g_6 H.size x1 ((3 : Int32) + x3) P_17 HC_17) (cwV 2 hts (gd_V (wm6 33 rfl rfl) (wm6 35 rfl rfl) (wmp4 (q := (yX11_chainOf, 26)) 12 rfl) (wm1 13 rfl rfl) (wm6 36 rfl rfl)) rfl rfl rfl (by decide +kernel) ⟨Nat.le_of_ble_eq_true rfl, Nat.le_of_ble_eq_true rfl⟩) hK hNw hG gl_135 rfl gk_135 (by decide) rfl rfl hl.1 rfl (lv_room (Nat.le_of_ble_eq_true rfl)) dX11_has_17 ⟨Nat.zero_le _, Nat.zero_le _⟩) hG (fun r_17 h_17 g_17 H locs hq hG => ?_)
        replace HW := HW r_17 h_17 g_17 hq
        refine lv_iload_n hx hb dX11_has_20 rfl (lv_at hl 2 rfl) ?_
        refine lv_icmp_ne (tgt := 26) hx hb dX11_has_21 (by decide) (fun c_21 => ?_) (fun c_21 => ?_)
        · replace HW := HW.1 c_21
          obtain ⟨x3_26, ex3_26⟩ : ∃ y : Int32, y = (x3 + 1) := ⟨_, rfl⟩
          replace HW := HW x3_26 ex3_26
          refine lv_iinc (v := x3_26) (lv' := [(3, .int x3_26), (0, .ref (ad 135)), (1, .int x1), (2, .int x2)]) hx hb dX11_has_26 hl (k := 3) rfl (by rw [ex3_26]; rfl) (by decide) rfl (fun ls hl => ?_)
          refine lv_goto (tgt := 2) hx hb dX11_has_29 (by decide) ?_
          exact hK2 x1 x2 x3_26 h_17 g_17 _ _ _ HW hG (lv_sub hl [1, 2, 3, 0] rfl)
        · replace HW := HW.2 c_21
          refine lv_iconst (v := 1) hx hb dX11_has_24 (by decide) ?_
          exact W.zret (v := (1 : Int32)) hx hb hr rfl (fun t ht hW => ⟨⟨(1 : Int32), (h_17, g_17), rfl, ⟨Or.inr rfl, HW⟩, g_B ht hG⟩, hG.2.2.F ht⟩) hG.2.2.2.2 dX11_has_25
  have E0 : ∀ (H : Heap) (locs : List Loc) (ls : Array Slot), gG D cy ad (gA ad s.heap.size) s.heap h g H locs → lv_has ls 4 [(0, .ref (ad 135)), (1, .int x1), (2, .int x2)] → W p l e ({ frames := 1, cells := 0, slots := 0, locals := 22 } : Room) s m args below meth c H locs 0 0 (MQ below (va_Qi (fun (r : Int32) (u : HI × HL) => zb r ∧ Q r u.1 u.2) (gB D cy ad s.heap.size) (gA ad s.heap.size)) args s 0 0 (gA ad s.heap.size)) (F0 m 0 ls []) := by
    intro H locs ls hG hl
    unfold w_X11_has at HW
    refine lv_iconst (v := 0) hx hb dX11_has_0 (by decide) ?_
    refine lv_istore_n (lv' := [(3, .int (0 : Int32)), (0, .ref (ad 135)), (1, .int x1), (2, .int x2)]) hx hb dX11_has_1 rfl hl (by decide) rfl (fun ls hl => ?_)
    obtain ⟨n_2, HW⟩ := HW
    exact L2 n_2 x1 x2 (0 : Int32) h g _ _ _ HW hG (lv_sub hl [1, 2, 3, 0] rfl)
  exact E0 _ _ _ hG hl

def j_X11_link_107 (Q : Int32 → HI → HL → Prop) (x4 : Int32) (s1 : Int32) (s2 : Int32) (s3 : Int32) (h : HI) (g : HL) : Prop :=
  (vp_in s1 887 ∧ ∀ h_108 : HI, h_108 = hu h 136 s1.toNatClampNeg (s2 ||| s3) → (vp_in (x4 + (2 : Int32)) 887 ∧ (vp_in (x4 + (2 : Int32)) 887 ∧ ∀ h_121 : HI, h_121 = hu h_108 136 (x4 + (2 : Int32)).toNatClampNeg ((h_108 136 (x4 + (2 : Int32)).toNatClampNeg) + (1 : Int32)) → (vp_in (x4 + (2 : Int32)) 887 ∧ Q (h_121 136 (x4 + (2 : Int32)).toNatClampNeg) h_121 g))))
def w_X11_link (x1 : Int32) (x2 : Int32) (x3 : Int32) (h : HI) (g : HL) (Q : Int32 → HI → HL → Prop) : Prop :=
  (∃ P_3 : Int32 → HI → HL → Prop, w_X11_is (2 : Int32) x1 h g P_3 ∧ ∀ (r_3 : Int32) (h_3 : HI) (g_3 : HL), zb r_3 → P_3 r_3 h_3 g_3 → ((r_3 = 0 → Q (-2 : Int32) h_3 g_3) ∧ (¬ r_3 = 0 → (∃ P_12 : Int32 → HI → HL → Prop, w_X11_is (0 : Int32) x2 h_3 g_3 P_12 ∧ ∀ (r_12 : Int32) (h_12 : HI) (g_12 : HL), zb r_12 → P_12 r_12 h_12 g_12 → ((r_12 = 0 → Q (-2 : Int32) h_12 g_12) ∧ (¬ r_12 = 0 → (∃ P_21 : Int32 → HI → HL → Prop, w_X11_has x1 x2 h_12 g_12 P_21 ∧ ∀ (r_21 : Int32) (h_21 : HI) (g_21 : HL), zb r_21 → P_21 r_21 h_21 g_21 → ((r_21 = 0 → (∀ x4_38 : Int32, x4_38 = ((512 : Int32) + ((10 : Int32) * x1)) → (vp_in (x4_38 + (2 : Int32)) 887 ∧ ((¬ (h_21 136 (x4_38 + (2 : Int32)).toNatClampNeg) = (6 : Int32) → (vp_in (x4_38 + (2 : Int32)) 887 ∧ (vp_in ((x4_38 + (3 : Int32)) + (h_21 136 (x4_38 + (2 : Int32)).toNatClampNeg)) 887 ∧ ∀ h_76 : HI, h_76 = hu h_21 136 ((x4_38 + (3 : Int32)) + (h_21 136 (x4_38 + (2 : Int32)).toNatClampNeg)).toNatClampNeg x2 → (vp_in (x4_38 + (9 : Int32)) 887 ∧ ((x3 = 0 → j_X11_link_107 Q x4_38 (x4_38 + (9 : Int32)) (h_76 136 (x4_38 + (9 : Int32)).toNatClampNeg) (0 : Int32) h_76 g_21) ∧ (¬ x3 = 0 → (vp_in (x4_38 + (2 : Int32)) 887 ∧ j_X11_link_107 Q x4_38 (x4_38 + (9 : Int32)) (h_76 136 (x4_38 + (9 : Int32)).toNatClampNeg) ((1 : Int32) <<< ((h_76 136 (x4_38 + (2 : Int32)).toNatClampNeg) &&& 31)) h_76 g_21))))))) ∧ ((h_21 136 (x4_38 + (2 : Int32)).toNatClampNeg) = (6 : Int32) → Q (-4 : Int32) h_21 g_21))))) ∧ (¬ r_21 = 0 → Q (-2 : Int32) h_21 g_21)))))))))
set_option maxHeartbeats 8000000 in
set_option maxRecDepth 100000 in
theorem m_X11_link (l : Launch) (D : va_G) (cy : Nat → ClassId) (ad : Nat → Nat) (h : HI) (g : HL) (sz : Nat) (x1 : Int32) (x2 : Int32) (x3 : Int32) (Q : Int32 → HI → HL → Prop) (HW : w_X11_link x1 x2 x3 h g Q) : Met l yX11_link (wa yX11_link cX11_link 5 (some .int)) ({ frames := 2, cells := 0, slots := 0, locals := 47 }) (va_Pc [.ref (ad 135), .int x1, .int x2, .int x3] (gI D cy ad h g sz)) (va_Qi (fun (r : Int32) (u : HI × HL) => Q r u.1 u.2) (gB D cy ad sz) (gA ad sz)) 0 0 (gA ad sz) := by
  refine Met.ofW (cc := cX11_link) (maxL := 5) (ret := (some .int)) (by decide) rfl ?_
  intro p e s m args below meth c s₁ B hml hv
  obtain ⟨hav, hsz, hP, hK, hD0, hNw⟩ := hv
  have hx := B.exec
  have hb := B.bytes
  have hr := B.returns
  have hts := atoms_spec (ws := (wa yX11_link cX11_link 5 (some .int))) B.pre
  have hw := wa_hw hts
  have hown : s.vm.findClass RX11 = some m.cls := findClass_of_methodNamed B.named
  have hlocks := B.notSynchronized
  subst hsz
  have hG : gG D cy ad (gA ad s.heap.size) s.heap h g s.heap [] := ⟨hP, gA_self hD0, va_S.rf⟩
  clear hP hD0
  have lk7 := hw (.fieldLink RX11 7 "OldWorksModel" "st" "[I") (wm5 27 rfl rfl)
  rw [show (headSpec (wa yX11_link cX11_link 5 (some .int)) ({ frames := 2, cells := 0, slots := 0, locals := 47 } : Room)).room = ({ frames := 2, cells := 0, slots := 0, locals := 47 } : Room) from rfl]
  have hl := lv_entry ([.ref (ad 135), .int x1, .int x2, .int x3]) (n := 5) (Nat.le_of_ble_eq_true rfl)
  rw [show entryFrame m args 5 = entryFrame m ([.ref (ad 135), .int x1, .int x2, .int x3] : List Value).toArray 5 from by rw [hav], lg_entry_eq]
  generalize (lg_sl ([.ref (ad 135), .int x1, .int x2, .int x3]) ++ List.replicate (5 - (lg_sl ([.ref (ad 135), .int x1, .int x2, .int x3])).length) Slot.unset).toArray = ls at hl ⊢
  have hl : lv_has ls 5 [(0, .ref (ad 135)), (1, .int x1), (2, .int x2), (3, .int x3)] := hl
  have B107 : ∀ (x4 : Int32) (s1 : Int32) (s2 : Int32) (s3 : Int32) (h : HI) (g : HL) (H : Heap) (locs : List Loc) (ls : Array Slot), j_X11_link_107 Q x4 s1 s2 s3 h g → gG D cy ad (gA ad s.heap.size) s.heap h g H locs → lv_has ls 5 [(0, .ref (ad 135)), (4, .int x4)] → W p l e ({ frames := 2, cells := 0, slots := 0, locals := 47 } : Room) s m args below meth c H locs 0 0 (MQ below (va_Qi (fun (r : Int32) (u : HI × HL) => Q r u.1 u.2) (gB D cy ad s.heap.size) (gA ad s.heap.size)) args s 0 0 (gA ad s.heap.size)) (F0 m 107 ls [.int s3, .int s2, .int s1, .ref (ad 136)]) := by
    intro x4 s1 s2 s3 h g H locs ls HW hG hl
    unfold j_X11_link_107 at HW
    refine lv_ior hx hb dX11_link_107 ?_
    refine g_iast hx hb hK hG gl_136 gk_136 gn_136 HW.1 dX11_link_108 (fun H locs hG => ?_)
    replace HW := HW.2
    obtain ⟨h_108, eh_108⟩ : ∃ y : HI, y = hu h 136 s1.toNatClampNeg (s2 ||| s3) := ⟨_, rfl⟩
    rw [← eh_108] at hG
    replace HW := HW h_108 eh_108
    refine lv_aload_n hx hb dX11_link_109 rfl (lv_at hl 0 rfl) ?_
    refine g_getr hx hb hw inG11 hown hK hG gl_135 rfl gk_135 (by decide) 0 (by decide) (by rw [gm_135]; decide) (r := 136) gr_135_0 lk7 dX11_link_110 ?_
    refine lv_iload hx hb dX11_link_113 (lv_at hl 1 rfl) ?_
    refine lv_iconst (v := 2) hx hb dX11_link_115 (by decide) ?_
    refine lv_iadd hx hb dX11_link_116 ?_
    refine lv_dup2_11 hx hb dX11_link_117 rfl rfl ?_
    refine g_iald hx hb hK hG gl_136 gk_136 gn_136 HW.1 dX11_link_118 ?_
    replace HW := HW.2
    refine lv_iconst (v := 1) hx hb dX11_link_119 (by decide) ?_
    refine lv_iadd hx hb dX11_link_120 ?_
    refine g_iast hx hb hK hG gl_136 gk_136 gn_136 HW.1 dX11_link_121 (fun H locs hG => ?_)
    replace HW := HW.2
    obtain ⟨h_121, eh_121⟩ : ∃ y : HI, y = hu h_108 136 (x4 + (2 : Int32)).toNatClampNeg ((h_108 136 (x4 + (2 : Int32)).toNatClampNeg) + (1 : Int32)) := ⟨_, rfl⟩
    rw [← eh_121] at hG
    replace HW := HW h_121 eh_121
    refine lv_aload_n hx hb dX11_link_122 rfl (lv_at hl 0 rfl) ?_
    refine g_getr hx hb hw inG11 hown hK hG gl_135 rfl gk_135 (by decide) 0 (by decide) (by rw [gm_135]; decide) (r := 136) gr_135_0 lk7 dX11_link_123 ?_
    refine lv_iload hx hb dX11_link_126 (lv_at hl 1 rfl) ?_
    refine lv_iconst (v := 2) hx hb dX11_link_128 (by decide) ?_
    refine lv_iadd hx hb dX11_link_129 ?_
    refine g_iald hx hb hK hG gl_136 gk_136 gn_136 HW.1 dX11_link_130 ?_
    replace HW := HW.2
    exact W.iret (v := (h_121 136 (x4 + (2 : Int32)).toNatClampNeg)) hx hb hr (fun t ht hW => ⟨⟨(h_121 136 (x4 + (2 : Int32)).toNatClampNeg), (h_121, g), rfl, HW, g_B ht hG⟩, hG.2.2.F ht⟩) hG.2.2.2.2 dX11_link_131
  have E0 : ∀ (H : Heap) (locs : List Loc) (ls : Array Slot), gG D cy ad (gA ad s.heap.size) s.heap h g H locs → lv_has ls 5 [(0, .ref (ad 135)), (1, .int x1), (2, .int x2), (3, .int x3)] → W p l e ({ frames := 2, cells := 0, slots := 0, locals := 47 } : Room) s m args below meth c H locs 0 0 (MQ below (va_Qi (fun (r : Int32) (u : HI × HL) => Q r u.1 u.2) (gB D cy ad s.heap.size) (gA ad s.heap.size)) args s 0 0 (gA ad s.heap.size)) (F0 m 0 ls []) := by
    intro H locs ls hG hl
    unfold w_X11_link at HW
    refine lv_aload_n hx hb dX11_link_0 rfl (lv_at hl 0 rfl) ?_
    refine lv_iconst (v := 2) hx hb dX11_link_1 (by decide) ?_
    refine lv_iload_n hx hb dX11_link_2 rfl (lv_at hl 1 rfl) ?_
    obtain ⟨P_3, HC_3, HW⟩ := HW
    refine g_callz (g_runV (As := [.int (2 : Int32), .int x1]) (rest := []) ⟨hx, hb, hml, hown, hts⟩ (m_X11_is l D cy ad h g H.size (2 : Int32) x1 P_3 HC_3) (cwV 2 hts (gd_V (wm5 184 rfl rfl) (wm5 186 rfl rfl) (wmp3 (q := (yX11_is, 26)) 14 rfl) (wm1 13 rfl rfl) (wm5 187 rfl rfl)) rfl rfl rfl (by decide +kernel) ⟨Nat.le_of_ble_eq_true rfl, Nat.le_of_ble_eq_true rfl⟩) hK hNw hG gl_135 rfl gk_135 (by decide) rfl rfl hl.1 rfl (lv_room (Nat.le_of_ble_eq_true rfl)) dX11_link_3 ⟨Nat.zero_le _, Nat.zero_le _⟩) hG (fun r_3 h_3 g_3 H locs hz hq hG => ?_)
    replace HW := HW r_3 h_3 g_3 hz hq
    refine lv_if_eq (tgt := 27) hx hb dX11_link_6 (by decide) (fun c_6 => ?_) (fun c_6 => ?_)
    · replace HW := HW.1 c_6
      refine lv_bipush (v := (-2)) hx hb dX11_link_27 (by decide) ?_
      exact W.iret (v := (-2 : Int32)) hx hb hr (fun t ht hW => ⟨⟨(-2 : Int32), (h_3, g_3), rfl, HW, g_B ht hG⟩, hG.2.2.F ht⟩) hG.2.2.2.2 dX11_link_29
    · replace HW := HW.2 c_6
      refine lv_aload_n hx hb dX11_link_9 rfl (lv_at hl 0 rfl) ?_
      refine lv_iconst (v := 0) hx hb dX11_link_10 (by decide) ?_
      refine lv_iload_n hx hb dX11_link_11 rfl (lv_at hl 2 rfl) ?_
      obtain ⟨P_12, HC_12, HW⟩ := HW
      refine g_callz (g_runV (As := [.int (0 : Int32), .int x2]) (rest := []) ⟨hx, hb, hml, hown, hts⟩ (m_X11_is l D cy ad h_3 g_3 H.size (0 : Int32) x2 P_12 HC_12) (cwV 2 hts (gd_V (wm5 184 rfl rfl) (wm5 186 rfl rfl) (wmp3 (q := (yX11_is, 26)) 14 rfl) (wm1 13 rfl rfl) (wm5 187 rfl rfl)) rfl rfl rfl (by decide +kernel) ⟨Nat.le_of_ble_eq_true rfl, Nat.le_of_ble_eq_true rfl⟩) hK hNw hG gl_135 rfl gk_135 (by decide) rfl rfl hl.1 rfl (lv_room (Nat.le_of_ble_eq_true rfl)) dX11_link_12 ⟨Nat.zero_le _, Nat.zero_le _⟩) hG (fun r_12 h_12 g_12 H locs hz hq hG => ?_)
      replace HW := HW r_12 h_12 g_12 hz hq
      refine lv_if_eq (tgt := 27) hx hb dX11_link_15 (by decide) (fun c_15 => ?_) (fun c_15 => ?_)
      · replace HW := HW.1 c_15
        refine lv_bipush (v := (-2)) hx hb dX11_link_27 (by decide) ?_
        exact W.iret (v := (-2 : Int32)) hx hb hr (fun t ht hW => ⟨⟨(-2 : Int32), (h_12, g_12), rfl, HW, g_B ht hG⟩, hG.2.2.F ht⟩) hG.2.2.2.2 dX11_link_29
      · replace HW := HW.2 c_15
        refine lv_aload_n hx hb dX11_link_18 rfl (lv_at hl 0 rfl) ?_
        refine lv_iload_n hx hb dX11_link_19 rfl (lv_at hl 1 rfl) ?_
        refine lv_iload_n hx hb dX11_link_20 rfl (lv_at hl 2 rfl) ?_
        obtain ⟨P_21, HC_21, HW⟩ := HW
        refine g_callz (g_runV (As := [.int x1, .int x2]) (rest := []) ⟨hx, hb, hml, hown, hts⟩ (m_X11_has l D cy ad h_12 g_12 H.size x1 x2 P_21 HC_21) (cwV 2 hts (gd_V (wm6 29 rfl rfl) (wm6 31 rfl rfl) (wmp4 (q := (yX11_has, 26)) 11 rfl) (wm1 13 rfl rfl) (wm6 32 rfl rfl)) rfl rfl rfl (by decide +kernel) ⟨Nat.le_of_ble_eq_true rfl, Nat.le_of_ble_eq_true rfl⟩) hK hNw hG gl_135 rfl gk_135 (by decide) rfl rfl hl.1 rfl (lv_room (Nat.le_of_ble_eq_true rfl)) dX11_link_21 ⟨Nat.zero_le _, Nat.zero_le _⟩) hG (fun r_21 h_21 g_21 H locs hz hq hG => ?_)
        replace HW := HW r_21 h_21 g_21 hz hq
        refine lv_if_eq (tgt := 30) hx hb dX11_link_24 (by decide) (fun c_24 => ?_) (fun c_24 => ?_)
        · replace HW := HW.1 c_24
          refine lv_sipush (v := 512) hx hb dX11_link_30 (by decide) ?_
          refine lv_bipush (v := 10) hx hb dX11_link_33 (by decide) ?_
          refine lv_iload_n hx hb dX11_link_35 rfl (lv_at hl 1 rfl) ?_
          refine lv_imul hx hb dX11_link_36 ?_
          refine lv_iadd hx hb dX11_link_37 ?_
          refine lv_topi (fun x4_38 ex4_38 => ?_)
          replace HW := HW x4_38 ex4_38
          refine lv_istore (lv' := [(4, .int x4_38), (0, .ref (ad 135)), (1, .int x1), (2, .int x2), (3, .int x3)]) hx hb dX11_link_38 hl (by decide) rfl (fun ls hl => ?_)
          refine lv_aload_n hx hb dX11_link_40 rfl (lv_at hl 1 rfl) ?_
          refine g_getr hx hb hw inG11 hown hK hG gl_135 rfl gk_135 (by decide) 0 (by decide) (by rw [gm_135]; decide) (r := 136) gr_135_0 lk7 dX11_link_41 ?_
          refine lv_iload hx hb dX11_link_44 (lv_at hl 0 rfl) ?_
          refine lv_iconst (v := 2) hx hb dX11_link_46 (by decide) ?_
          refine lv_iadd hx hb dX11_link_47 ?_
          refine g_iald hx hb hK hG gl_136 gk_136 gn_136 HW.1 dX11_link_48 ?_
          replace HW := HW.2
          refine lv_bipush (v := 6) hx hb dX11_link_49 (by decide) ?_
          refine lv_icmp_ne (tgt := 57) hx hb dX11_link_51 (by decide) (fun c_51 => ?_) (fun c_51 => ?_)
          · replace HW := HW.1 c_51
            refine lv_aload_n hx hb dX11_link_57 rfl (lv_at hl 1 rfl) ?_
            refine g_getr hx hb hw inG11 hown hK hG gl_135 rfl gk_135 (by decide) 0 (by decide) (by rw [gm_135]; decide) (r := 136) gr_135_0 lk7 dX11_link_58 ?_
            refine lv_iload hx hb dX11_link_61 (lv_at hl 0 rfl) ?_
            refine lv_iconst (v := 3) hx hb dX11_link_63 (by decide) ?_
            refine lv_iadd hx hb dX11_link_64 ?_
            refine lv_aload_n hx hb dX11_link_65 rfl (lv_at hl 1 rfl) ?_
            refine g_getr hx hb hw inG11 hown hK hG gl_135 rfl gk_135 (by decide) 0 (by decide) (by rw [gm_135]; decide) (r := 136) gr_135_0 lk7 dX11_link_66 ?_
            refine lv_iload hx hb dX11_link_69 (lv_at hl 0 rfl) ?_
            refine lv_iconst (v := 2) hx hb dX11_link_71 (by decide) ?_
            refine lv_iadd hx hb dX11_link_72 ?_
            refine g_iald hx hb hK hG gl_136 gk_136 gn_136 HW.1 dX11_link_73 ?_
            replace HW := HW.2
            refine lv_iadd hx hb dX11_link_74 ?_
            refine lv_iload_n hx hb dX11_link_75 rfl (lv_at hl 3 rfl) ?_
            refine g_iast hx hb hK hG gl_136 gk_136 gn_136 HW.1 dX11_link_76 (fun H locs hG => ?_)
            replace HW := HW.2
            obtain ⟨h_76, eh_76⟩ : ∃ y : HI, y = hu h_21 136 ((x4_38 + (3 : Int32)) + (h_21 136 (x4_38 + (2 : Int32)).toNatClampNeg)).toNatClampNeg x2 := ⟨_, rfl⟩
            rw [← eh_76] at hG
            replace HW := HW h_76 eh_76
            refine lv_aload_n hx hb dX11_link_77 rfl (lv_at hl 1 rfl) ?_
            refine g_getr hx hb hw inG11 hown hK hG gl_135 rfl gk_135 (by decide) 0 (by decide) (by rw [gm_135]; decide) (r := 136) gr_135_0 lk7 dX11_link_78 ?_
            refine lv_iload hx hb dX11_link_81 (lv_at hl 0 rfl) ?_
            refine lv_bipush (v := 9) hx hb dX11_link_83 (by decide) ?_
            refine lv_iadd hx hb dX11_link_85 ?_
            refine lv_dup2_11 hx hb dX11_link_86 rfl rfl ?_
            refine g_iald hx hb hK hG gl_136 gk_136 gn_136 HW.1 dX11_link_87 ?_
            replace HW := HW.2
            refine lv_iload_n hx hb dX11_link_88 rfl (lv_at hl 4 rfl) ?_
            refine lv_if_eq (tgt := 106) hx hb dX11_link_89 (by decide) (fun c_89 => ?_) (fun c_89 => ?_)
            · replace HW := HW.1 c_89
              refine lv_iconst (v := 0) hx hb dX11_link_106 (by decide) ?_
              exact B107 x4_38 (x4_38 + (9 : Int32)) (h_76 136 (x4_38 + (9 : Int32)).toNatClampNeg) (0 : Int32) h_76 g_21 _ _ _ HW hG (lv_sub hl [1, 0] rfl)
            · replace HW := HW.2 c_89
              refine lv_iconst (v := 1) hx hb dX11_link_92 (by decide) ?_
              refine lv_aload_n hx hb dX11_link_93 rfl (lv_at hl 1 rfl) ?_
              refine g_getr hx hb hw inG11 hown hK hG gl_135 rfl gk_135 (by decide) 0 (by decide) (by rw [gm_135]; decide) (r := 136) gr_135_0 lk7 dX11_link_94 ?_
              refine lv_iload hx hb dX11_link_97 (lv_at hl 0 rfl) ?_
              refine lv_iconst (v := 2) hx hb dX11_link_99 (by decide) ?_
              refine lv_iadd hx hb dX11_link_100 ?_
              refine g_iald hx hb hK hG gl_136 gk_136 gn_136 HW.1 dX11_link_101 ?_
              replace HW := HW.2
              refine lv_ishl hx hb dX11_link_102 ?_
              refine lv_goto (tgt := 107) hx hb dX11_link_103 (by decide) ?_
              exact B107 x4_38 (x4_38 + (9 : Int32)) (h_76 136 (x4_38 + (9 : Int32)).toNatClampNeg) ((1 : Int32) <<< ((h_76 136 (x4_38 + (2 : Int32)).toNatClampNeg) &&& 31)) h_76 g_21 _ _ _ HW hG (lv_sub hl [1, 0] rfl)
          · replace HW := HW.2 c_51
            refine lv_bipush (v := (-4)) hx hb dX11_link_54 (by decide) ?_
            exact W.iret (v := (-4 : Int32)) hx hb hr (fun t ht hW => ⟨⟨(-4 : Int32), (h_21, g_21), rfl, HW, g_B ht hG⟩, hG.2.2.F ht⟩) hG.2.2.2.2 dX11_link_56
        · replace HW := HW.2 c_24
          refine lv_bipush (v := (-2)) hx hb dX11_link_27 (by decide) ?_
          exact W.iret (v := (-2 : Int32)) hx hb hr (fun t ht hW => ⟨⟨(-2 : Int32), (h_21, g_21), rfl, HW, g_B ht hG⟩, hG.2.2.F ht⟩) hG.2.2.2.2 dX11_link_29
  exact E0 _ _ _ hG hl

def j_X11_sums_161 (Q : Int32 → HI → HL → Prop) (K13 : Int32 → Int32 → Int32 → Int32 → Int32 → HI → HL → Prop) (x1 : Int32) (x2 : Int32) (x3 : Int32) (x4 : Int32) (x5 : Int32) (s1 : Int32) (s2 : Int32) (h : HI) (g : HL) : Prop :=
  (∀ h_162 : HI, h_162 = hu h 135 19 (s1 + s2) → (∀ x5_165 : Int32, x5_165 = (x5 + 1) → K13 x1 x2 x3 x4 x5_165 h_162 g))
def j_X11_sums_139 (Q : Int32 → HI → HL → Prop) (K13 : Int32 → Int32 → Int32 → Int32 → Int32 → HI → HL → Prop) (x1 : Int32) (x2 : Int32) (x3 : Int32) (x4 : Int32) (x5 : Int32) (x7 : Int32) (x9 : Int32) (x10 : Int32) (s1 : Int32) (s2 : Int32) (h : HI) (g : HL) : Prop :=
  (∀ h_140 : HI, h_140 = hu h 135 18 (s1 + s2) → ((x10 = 0 → j_X11_sums_161 Q K13 x1 x2 x3 x4 x5 (h_140 135 19) x9 h_140 g) ∧ (¬ x10 = 0 → j_X11_sums_161 Q K13 x1 x2 x3 x4 x5 (h_140 135 19) (-x7) h_140 g)))
def j_X11_sums_119 (Q : Int32 → HI → HL → Prop) (K13 : Int32 → Int32 → Int32 → Int32 → Int32 → HI → HL → Prop) (x1 : Int32) (x2 : Int32) (x3 : Int32) (x4 : Int32) (x5 : Int32) (x7 : Int32) (x9 : Int32) (s0 : Int32) (h : HI) (g : HL) : Prop :=
  ((s0 = 0 → j_X11_sums_139 Q K13 x1 x2 x3 x4 x5 x7 x9 s0 (h 135 18) x7 h g) ∧ (¬ s0 = 0 → j_X11_sums_139 Q K13 x1 x2 x3 x4 x5 x7 x9 s0 (h 135 18) (-x9) h g))
def j_X11_sums_51 (Q : Int32 → HI → HL → Prop) (K13 : Int32 → Int32 → Int32 → Int32 → Int32 → HI → HL → Prop) (x1 : Int32) (x2 : Int32) (x3 : Int32) (x4 : Int32) (x5 : Int32) (s0 : Int32) (h : HI) (g : HL) : Prop :=
  (∃ P_57 : Int32 → HI → HL → Prop, w_X11_firstOf s0 (0 : Int32) h g P_57 ∧ ∀ (r_57 : Int32) (h_57 : HI) (g_57 : HL), P_57 r_57 h_57 g_57 → ((¬ r_57 = (-1 : Int32) → (∃ P_74 : Int32 → HI → HL → Prop, w_X11_wornOf s0 x2 h_57 g_57 P_74 ∧ ∀ (r_74 : Int32) (h_74 : HI) (g_74 : HL), P_74 r_74 h_74 g_74 → (∃ P_83 : Int32 → HI → HL → Prop, w_X11_firstOf s0 (1 : Int32) h_74 g_74 P_83 ∧ ∀ (r_83 : Int32) (h_83 : HI) (g_83 : HL), P_83 r_83 h_83 g_83 → (∀ x9_89 : Int32, x9_89 = (r_83 - r_74) → (∀ x7_96 : Int32, x7_96 = (r_57 - r_74) → (∃ P_102 : Int32 → HI → HL → Prop, w_X11_chainOf x1 (9 : Int32) h_83 g_83 P_102 ∧ ∀ (r_102 : Int32) (h_102 : HI) (g_102 : HL), P_102 r_102 h_102 g_102 → ((¬ ((r_102 >>> (x5 &&& 31)) &&& (1 : Int32)) = (1 : Int32) → j_X11_sums_119 Q K13 x1 x2 x3 x4 x5 x7_96 x9_89 (0 : Int32) h_102 g_102) ∧ (((r_102 >>> (x5 &&& 31)) &&& (1 : Int32)) = (1 : Int32) → j_X11_sums_119 Q K13 x1 x2 x3 x4 x5 x7_96 x9_89 (1 : Int32) h_102 g_102)))))))) ∧ (r_57 = (-1 : Int32) → Q (0 : Int32) h_57 g_57)))
def b_X11_sums_13 (Q : Int32 → HI → HL → Prop) (K13 : Int32 → Int32 → Int32 → Int32 → Int32 → HI → HL → Prop) (x1 : Int32) (x2 : Int32) (x3 : Int32) (x4 : Int32) (x5 : Int32) (h : HI) (g : HL) : Prop :=
  (∃ P_18 : Int32 → HI → HL → Prop, w_X11_chainOf x1 (2 : Int32) h g P_18 ∧ ∀ (r_18 : Int32) (h_18 : HI) (g_18 : HL), P_18 r_18 h_18 g_18 → ((r_18 ≤ x5 → Q (1 : Int32) h_18 g_18) ∧ (¬ r_18 ≤ x5 → (∃ P_30 : Int32 → HI → HL → Prop, w_X11_chainOf x1 ((3 : Int32) + x5) h_18 g_18 P_30 ∧ ∀ (r_30 : Int32) (h_30 : HI) (g_30 : HL), P_30 r_30 h_30 g_30 → ((¬ r_30 = x4 → (∃ P_48 : Int32 → HI → HL → Prop, w_X11_chainOf x1 ((3 : Int32) + x5) h_30 g_30 P_48 ∧ ∀ (r_48 : Int32) (h_48 : HI) (g_48 : HL), P_48 r_48 h_48 g_48 → j_X11_sums_51 Q K13 x1 x2 x3 x4 x5 r_48 h_48 g_48)) ∧ (r_30 = x4 → j_X11_sums_51 Q K13 x1 x2 x3 x4 x5 x3 h_30 g_30))))))
def F_X11_sums_13 (Q : Int32 → HI → HL → Prop) (K : Int32 × Int32 × Int32 × Int32 × Int32 × HI × HL → Prop) (q : Int32 × Int32 × Int32 × Int32 × Int32 × HI × HL) : Prop := b_X11_sums_13 Q (fun x1 x2 x3 x4 x5 h g => K (x1, x2, x3, x4, x5, h, g)) q.1 q.2.1 q.2.2.1 q.2.2.2.1 q.2.2.2.2.1 q.2.2.2.2.2.1 q.2.2.2.2.2.2
def w_X11_sums (x1 : Int32) (x2 : Int32) (x3 : Int32) (x4 : Int32) (h : HI) (g : HL) (Q : Int32 → HI → HL → Prop) : Prop :=
  (∀ h_2 : HI, h_2 = hu h 135 18 (0 : Int32) → (∀ h_7 : HI, h_7 = hu h_2 135 19 (0 : Int32) → lpE (F_X11_sums_13 Q) (x1, x2, x3, x4, (0 : Int32), h_7, g)))
set_option maxHeartbeats 8000000 in
set_option maxRecDepth 100000 in
theorem m_X11_sums (l : Launch) (D : va_G) (cy : Nat → ClassId) (ad : Nat → Nat) (h : HI) (g : HL) (sz : Nat) (x1 : Int32) (x2 : Int32) (x3 : Int32) (x4 : Int32) (Q : Int32 → HI → HL → Prop) (HW : w_X11_sums x1 x2 x3 x4 h g Q) : Met l yX11_sums (wa yX11_sums cX11_sums 11 (some .boolean)) ({ frames := 8, cells := 0, slots := 0, locals := 188 }) (va_Pc [.ref (ad 135), .int x1, .int x2, .int x3, .int x4] (gI D cy ad h g sz)) (va_Qi (fun (r : Int32) (u : HI × HL) => zb r ∧ Q r u.1 u.2) (gB D cy ad sz) (gA ad sz)) 0 0 (gA ad sz) := by
  refine Met.ofW (cc := cX11_sums) (maxL := 11) (ret := (some .boolean)) (by decide) rfl ?_
  intro p e s m args below meth c s₁ B hml hv
  obtain ⟨hav, hsz, hP, hK, hD0, hNw⟩ := hv
  have hx := B.exec
  have hb := B.bytes
  have hr := B.returns
  have hts := atoms_spec (ws := (wa yX11_sums cX11_sums 11 (some .boolean))) B.pre
  have hw := wa_hw hts
  have hown : s.vm.findClass RX11 = some m.cls := findClass_of_methodNamed B.named
  have hlocks := B.notSynchronized
  subst hsz
  have hG : gG D cy ad (gA ad s.heap.size) s.heap h g s.heap [] := ⟨hP, gA_self hD0, va_S.rf⟩
  clear hP hD0
  have lk211 := hw (.fieldLink RX11 211 "OldWorksModel" "sumLow" "I") (wm5 45 rfl rfl)
  have lk214 := hw (.fieldLink RX11 214 "OldWorksModel" "sumHigh" "I") (wm5 46 rfl rfl)
  rw [show (headSpec (wa yX11_sums cX11_sums 11 (some .boolean)) ({ frames := 8, cells := 0, slots := 0, locals := 188 } : Room)).room = ({ frames := 8, cells := 0, slots := 0, locals := 188 } : Room) from rfl]
  have hl := lv_entry ([.ref (ad 135), .int x1, .int x2, .int x3, .int x4]) (n := 11) (Nat.le_of_ble_eq_true rfl)
  rw [show entryFrame m args 11 = entryFrame m ([.ref (ad 135), .int x1, .int x2, .int x3, .int x4] : List Value).toArray 11 from by rw [hav], lg_entry_eq]
  generalize (lg_sl ([.ref (ad 135), .int x1, .int x2, .int x3, .int x4]) ++ List.replicate (11 - (lg_sl ([.ref (ad 135), .int x1, .int x2, .int x3, .int x4])).length) Slot.unset).toArray = ls at hl ⊢
  have hl : lv_has ls 11 [(0, .ref (ad 135)), (1, .int x1), (2, .int x2), (3, .int x3), (4, .int x4)] := hl
  have B161 : ∀ (K13 : Int32 → Int32 → Int32 → Int32 → Int32 → HI → HL → Prop) (hK13 : ∀ (x1 : Int32) (x2 : Int32) (x3 : Int32) (x4 : Int32) (x5 : Int32) (h : HI) (g : HL) (H : Heap) (locs : List Loc) (ls : Array Slot), K13 x1 x2 x3 x4 x5 h g → gG D cy ad (gA ad s.heap.size) s.heap h g H locs → lv_has ls 11 [(0, .ref (ad 135)), (1, .int x1), (2, .int x2), (3, .int x3), (4, .int x4), (5, .int x5)] → W p l e ({ frames := 8, cells := 0, slots := 0, locals := 188 } : Room) s m args below meth c H locs 0 0 (MQ below (va_Qi (fun (r : Int32) (u : HI × HL) => zb r ∧ Q r u.1 u.2) (gB D cy ad s.heap.size) (gA ad s.heap.size)) args s 0 0 (gA ad s.heap.size)) (F0 m 13 ls [])) (x1 : Int32) (x2 : Int32) (x3 : Int32) (x4 : Int32) (x5 : Int32) (s1 : Int32) (s2 : Int32) (h : HI) (g : HL) (H : Heap) (locs : List Loc) (ls : Array Slot), j_X11_sums_161 Q K13 x1 x2 x3 x4 x5 s1 s2 h g → gG D cy ad (gA ad s.heap.size) s.heap h g H locs → lv_has ls 11 [(0, .ref (ad 135)), (1, .int x1), (2, .int x2), (3, .int x3), (4, .int x4), (5, .int x5)] → W p l e ({ frames := 8, cells := 0, slots := 0, locals := 188 } : Room) s m args below meth c H locs 0 0 (MQ below (va_Qi (fun (r : Int32) (u : HI × HL) => zb r ∧ Q r u.1 u.2) (gB D cy ad s.heap.size) (gA ad s.heap.size)) args s 0 0 (gA ad s.heap.size)) (F0 m 161 ls [.int s2, .int s1, .ref (ad 135)]) := by
    intro K13 hK13 x1 x2 x3 x4 x5 s1 s2 h g H locs ls HW hG hl
    unfold j_X11_sums_161 at HW
    refine lv_iadd hx hb dX11_sums_161 ?_
    refine g_put hx hb hw inG11 tyX11 tyX11_ok nmX11 hown hK hG gl_135 rfl gk_135 (by decide) 19 (by decide) (by rw [gm_135]; decide) gr_135_19 rfl (ty := .int) (by decide +kernel) rfl rfl lk214 dX11_sums_162 (fun H locs hG => ?_)
    obtain ⟨h_162, eh_162⟩ : ∃ y : HI, y = hu h 135 19 (s1 + s2) := ⟨_, rfl⟩
    rw [← eh_162] at hG
    replace HW := HW h_162 eh_162
    obtain ⟨x5_165, ex5_165⟩ : ∃ y : Int32, y = (x5 + 1) := ⟨_, rfl⟩
    replace HW := HW x5_165 ex5_165
    refine lv_iinc (v := x5_165) (lv' := [(5, .int x5_165), (0, .ref (ad 135)), (1, .int x1), (2, .int x2), (3, .int x3), (4, .int x4)]) hx hb dX11_sums_165 hl (k := 5) rfl (by rw [ex5_165]; rfl) (by decide) rfl (fun ls hl => ?_)
    refine lv_goto (tgt := 13) hx hb dX11_sums_168 (by decide) ?_
    exact hK13 x1 x2 x3 x4 x5_165 h_162 g _ _ _ HW hG (lv_sub hl [1, 2, 3, 4, 5, 0] rfl)
  have B139 : ∀ (K13 : Int32 → Int32 → Int32 → Int32 → Int32 → HI → HL → Prop) (hK13 : ∀ (x1 : Int32) (x2 : Int32) (x3 : Int32) (x4 : Int32) (x5 : Int32) (h : HI) (g : HL) (H : Heap) (locs : List Loc) (ls : Array Slot), K13 x1 x2 x3 x4 x5 h g → gG D cy ad (gA ad s.heap.size) s.heap h g H locs → lv_has ls 11 [(0, .ref (ad 135)), (1, .int x1), (2, .int x2), (3, .int x3), (4, .int x4), (5, .int x5)] → W p l e ({ frames := 8, cells := 0, slots := 0, locals := 188 } : Room) s m args below meth c H locs 0 0 (MQ below (va_Qi (fun (r : Int32) (u : HI × HL) => zb r ∧ Q r u.1 u.2) (gB D cy ad s.heap.size) (gA ad s.heap.size)) args s 0 0 (gA ad s.heap.size)) (F0 m 13 ls [])) (x1 : Int32) (x2 : Int32) (x3 : Int32) (x4 : Int32) (x5 : Int32) (x7 : Int32) (x9 : Int32) (x10 : Int32) (s1 : Int32) (s2 : Int32) (h : HI) (g : HL) (H : Heap) (locs : List Loc) (ls : Array Slot), j_X11_sums_139 Q K13 x1 x2 x3 x4 x5 x7 x9 x10 s1 s2 h g → gG D cy ad (gA ad s.heap.size) s.heap h g H locs → lv_has ls 11 [(0, .ref (ad 135)), (1, .int x1), (2, .int x2), (3, .int x3), (4, .int x4), (5, .int x5), (7, .int x7), (9, .int x9), (10, .int x10)] → W p l e ({ frames := 8, cells := 0, slots := 0, locals := 188 } : Room) s m args below meth c H locs 0 0 (MQ below (va_Qi (fun (r : Int32) (u : HI × HL) => zb r ∧ Q r u.1 u.2) (gB D cy ad s.heap.size) (gA ad s.heap.size)) args s 0 0 (gA ad s.heap.size)) (F0 m 139 ls [.int s2, .int s1, .ref (ad 135)]) := by
    intro K13 hK13 x1 x2 x3 x4 x5 x7 x9 x10 s1 s2 h g H locs ls HW hG hl
    unfold j_X11_sums_139 at HW
    refine lv_iadd hx hb dX11_sums_139 ?_
    refine g_put hx hb hw inG11 tyX11 tyX11_ok nmX11 hown hK hG gl_135 rfl gk_135 (by decide) 18 (by decide) (by rw [gm_135]; decide) gr_135_18 rfl (ty := .int) (by decide +kernel) rfl rfl lk211 dX11_sums_140 (fun H locs hG => ?_)
    obtain ⟨h_140, eh_140⟩ : ∃ y : HI, y = hu h 135 18 (s1 + s2) := ⟨_, rfl⟩
    rw [← eh_140] at hG
    replace HW := HW h_140 eh_140
    refine lv_aload_n hx hb dX11_sums_143 rfl (lv_at hl 0 rfl) ?_
    refine lv_dup hx hb dX11_sums_144 rfl ?_
    refine g_geti hx hb hw inG11 hown hK hG gl_135 rfl gk_135 (by decide) 19 (by decide) (by rw [gm_135]; decide) gr_135_19 lk214 dX11_sums_145 ?_
    refine lv_iload hx hb dX11_sums_148 (lv_at hl 8 rfl) ?_
    refine lv_if_eq (tgt := 159) hx hb dX11_sums_150 (by decide) (fun c_150 => ?_) (fun c_150 => ?_)
    · replace HW := HW.1 c_150
      refine lv_iload hx hb dX11_sums_159 (lv_at hl 7 rfl) ?_
      exact B161 K13 hK13 x1 x2 x3 x4 x5 (h_140 135 19) x9 h_140 g _ _ _ HW hG (lv_sub hl [0, 1, 2, 3, 4, 5] rfl)
    · replace HW := HW.2 c_150
      refine lv_iload hx hb dX11_sums_153 (lv_at hl 6 rfl) ?_
      refine lv_ineg hx hb dX11_sums_155 ?_
      refine lv_goto (tgt := 161) hx hb dX11_sums_156 (by decide) ?_
      exact B161 K13 hK13 x1 x2 x3 x4 x5 (h_140 135 19) (-x7) h_140 g _ _ _ HW hG (lv_sub hl [0, 1, 2, 3, 4, 5] rfl)
  have B119 : ∀ (K13 : Int32 → Int32 → Int32 → Int32 → Int32 → HI → HL → Prop) (hK13 : ∀ (x1 : Int32) (x2 : Int32) (x3 : Int32) (x4 : Int32) (x5 : Int32) (h : HI) (g : HL) (H : Heap) (locs : List Loc) (ls : Array Slot), K13 x1 x2 x3 x4 x5 h g → gG D cy ad (gA ad s.heap.size) s.heap h g H locs → lv_has ls 11 [(0, .ref (ad 135)), (1, .int x1), (2, .int x2), (3, .int x3), (4, .int x4), (5, .int x5)] → W p l e ({ frames := 8, cells := 0, slots := 0, locals := 188 } : Room) s m args below meth c H locs 0 0 (MQ below (va_Qi (fun (r : Int32) (u : HI × HL) => zb r ∧ Q r u.1 u.2) (gB D cy ad s.heap.size) (gA ad s.heap.size)) args s 0 0 (gA ad s.heap.size)) (F0 m 13 ls [])) (x1 : Int32) (x2 : Int32) (x3 : Int32) (x4 : Int32) (x5 : Int32) (x7 : Int32) (x9 : Int32) (s0 : Int32) (h : HI) (g : HL) (H : Heap) (locs : List Loc) (ls : Array Slot), j_X11_sums_119 Q K13 x1 x2 x3 x4 x5 x7 x9 s0 h g → gG D cy ad (gA ad s.heap.size) s.heap h g H locs → lv_has ls 11 [(0, .ref (ad 135)), (1, .int x1), (2, .int x2), (3, .int x3), (4, .int x4), (5, .int x5), (7, .int x7), (9, .int x9)] → W p l e ({ frames := 8, cells := 0, slots := 0, locals := 188 } : Room) s m args below meth c H locs 0 0 (MQ below (va_Qi (fun (r : Int32) (u : HI × HL) => zb r ∧ Q r u.1 u.2) (gB D cy ad s.heap.size) (gA ad s.heap.size)) args s 0 0 (gA ad s.heap.size)) (F0 m 119 ls [.int s0]) := by
    intro K13 hK13 x1 x2 x3 x4 x5 x7 x9 s0 h g H locs ls HW hG hl
    unfold j_X11_sums_119 at HW
    refine lv_istore (lv' := [(10, .int s0), (0, .ref (ad 135)), (1, .int x1), (2, .int x2), (3, .int x3), (4, .int x4), (5, .int x5), (7, .int x7), (9, .int x9)]) hx hb dX11_sums_119 hl (by decide) rfl (fun ls hl => ?_)
    refine lv_aload_n hx hb dX11_sums_121 rfl (lv_at hl 1 rfl) ?_
    refine lv_dup hx hb dX11_sums_122 rfl ?_
    refine g_geti hx hb hw inG11 hown hK hG gl_135 rfl gk_135 (by decide) 18 (by decide) (by rw [gm_135]; decide) gr_135_18 lk211 dX11_sums_123 ?_
    refine lv_iload hx hb dX11_sums_126 (lv_at hl 0 rfl) ?_
    refine lv_if_eq (tgt := 137) hx hb dX11_sums_128 (by decide) (fun c_128 => ?_) (fun c_128 => ?_)
    · replace HW := HW.1 c_128
      refine lv_iload hx hb dX11_sums_137 (lv_at hl 7 rfl) ?_
      exact B139 K13 hK13 x1 x2 x3 x4 x5 x7 x9 s0 (h 135 18) x7 h g _ _ _ HW hG (lv_sub hl [1, 2, 3, 4, 5, 6, 7, 8, 0] rfl)
    · replace HW := HW.2 c_128
      refine lv_iload hx hb dX11_sums_131 (lv_at hl 8 rfl) ?_
      refine lv_ineg hx hb dX11_sums_133 ?_
      refine lv_goto (tgt := 139) hx hb dX11_sums_134 (by decide) ?_
      exact B139 K13 hK13 x1 x2 x3 x4 x5 x7 x9 s0 (h 135 18) (-x9) h g _ _ _ HW hG (lv_sub hl [1, 2, 3, 4, 5, 6, 7, 8, 0] rfl)
  have B51 : ∀ (K13 : Int32 → Int32 → Int32 → Int32 → Int32 → HI → HL → Prop) (hK13 : ∀ (x1 : Int32) (x2 : Int32) (x3 : Int32) (x4 : Int32) (x5 : Int32) (h : HI) (g : HL) (H : Heap) (locs : List Loc) (ls : Array Slot), K13 x1 x2 x3 x4 x5 h g → gG D cy ad (gA ad s.heap.size) s.heap h g H locs → lv_has ls 11 [(0, .ref (ad 135)), (1, .int x1), (2, .int x2), (3, .int x3), (4, .int x4), (5, .int x5)] → W p l e ({ frames := 8, cells := 0, slots := 0, locals := 188 } : Room) s m args below meth c H locs 0 0 (MQ below (va_Qi (fun (r : Int32) (u : HI × HL) => zb r ∧ Q r u.1 u.2) (gB D cy ad s.heap.size) (gA ad s.heap.size)) args s 0 0 (gA ad s.heap.size)) (F0 m 13 ls [])) (x1 : Int32) (x2 : Int32) (x3 : Int32) (x4 : Int32) (x5 : Int32) (s0 : Int32) (h : HI) (g : HL) (H : Heap) (locs : List Loc) (ls : Array Slot), j_X11_sums_51 Q K13 x1 x2 x3 x4 x5 s0 h g → gG D cy ad (gA ad s.heap.size) s.heap h g H locs → lv_has ls 11 [(0, .ref (ad 135)), (1, .int x1), (2, .int x2), (3, .int x3), (4, .int x4), (5, .int x5)] → W p l e ({ frames := 8, cells := 0, slots := 0, locals := 188 } : Room) s m args below meth c H locs 0 0 (MQ below (va_Qi (fun (r : Int32) (u : HI × HL) => zb r ∧ Q r u.1 u.2) (gB D cy ad s.heap.size) (gA ad s.heap.size)) args s 0 0 (gA ad s.heap.size)) (F0 m 51 ls [.int s0]) := by
    intro K13 hK13 x1 x2 x3 x4 x5 s0 h g H locs ls HW hG hl
    unfold j_X11_sums_51 at HW
    refine lv_istore (lv' := [(6, .int s0), (0, .ref (ad 135)), (1, .int x1), (2, .int x2), (3, .int x3), (4, .int x4), (5, .int x5)]) hx hb dX11_sums_51 hl (by decide) rfl (fun ls hl => ?_)
    refine lv_aload_n hx hb dX11_sums_53 rfl (lv_at hl 1 rfl) ?_
    refine lv_iload hx hb dX11_sums_54 (lv_at hl 0 rfl) ?_
    refine lv_iconst (v := 0) hx hb dX11_sums_56 (by decide) ?_
    obtain ⟨P_57, HC_57, HW⟩ := HW
    refine g_calli (g_runV (As := [.int s0, .int (0 : Int32)]) (rest := []) ⟨hx, hb, hml, hown, hts⟩ (m_X11_firstOf l D cy ad h g H.size s0 (0 : Int32) P_57 HC_57) (cwV 2 hts (gd_V (wm5 222 rfl rfl) (wm5 224 rfl rfl) (wmp4 (q := (yX11_firstOf, 26)) 3 rfl) (wm1 13 rfl rfl) (wm5 225 rfl rfl)) rfl rfl rfl (by decide +kernel) ⟨Nat.le_of_ble_eq_true rfl, Nat.le_of_ble_eq_true rfl⟩) hK hNw hG gl_135 rfl gk_135 (by decide) rfl rfl hl.1 rfl (lv_room (Nat.le_of_ble_eq_true rfl)) dX11_sums_57 ⟨Nat.zero_le _, Nat.zero_le _⟩) hG (fun r_57 h_57 g_57 H locs hq hG => ?_)
    replace HW := HW r_57 h_57 g_57 hq
    refine lv_istore (lv' := [(7, .int r_57), (6, .int s0), (0, .ref (ad 135)), (1, .int x1), (2, .int x2), (3, .int x3), (4, .int x4), (5, .int x5)]) hx hb dX11_sums_60 hl (by decide) rfl (fun ls hl => ?_)
    refine lv_iload hx hb dX11_sums_62 (lv_at hl 0 rfl) ?_
    refine lv_iconst (v := (-1)) hx hb dX11_sums_64 (by decide) ?_
    refine lv_icmp_ne (tgt := 70) hx hb dX11_sums_65 (by decide) (fun c_65 => ?_) (fun c_65 => ?_)
    · replace HW := HW.1 c_65
      refine lv_aload_n hx hb dX11_sums_70 rfl (lv_at hl 2 rfl) ?_
      refine lv_iload hx hb dX11_sums_71 (lv_at hl 1 rfl) ?_
      refine lv_iload_n hx hb dX11_sums_73 rfl (lv_at hl 4 rfl) ?_
      obtain ⟨P_74, HC_74, HW⟩ := HW
      refine g_calli (g_runV (As := [.int s0, .int x2]) (rest := []) ⟨hx, hb, hml, hown, hts⟩ (m_X11_wornOf l D cy ad h_57 g_57 H.size s0 x2 P_74 HC_74) (cwV 2 hts (gd_V (wm5 188 rfl rfl) (wm5 190 rfl rfl) (wmp3 (q := (yX11_wornOf, 26)) 15 rfl) (wm1 13 rfl rfl) (wm5 191 rfl rfl)) rfl rfl rfl (by decide +kernel) ⟨Nat.le_of_ble_eq_true rfl, Nat.le_of_ble_eq_true rfl⟩) hK hNw hG gl_135 rfl gk_135 (by decide) rfl rfl hl.1 rfl (lv_room (Nat.le_of_ble_eq_true rfl)) dX11_sums_74 ⟨Nat.zero_le _, Nat.zero_le _⟩) hG (fun r_74 h_74 g_74 H locs hq hG => ?_)
      replace HW := HW r_74 h_74 g_74 hq
      refine lv_istore (lv' := [(8, .int r_74), (7, .int r_57), (6, .int s0), (0, .ref (ad 135)), (1, .int x1), (2, .int x2), (3, .int x3), (4, .int x4), (5, .int x5)]) hx hb dX11_sums_77 hl (by decide) rfl (fun ls hl => ?_)
      refine lv_aload_n hx hb dX11_sums_79 rfl (lv_at hl 3 rfl) ?_
      refine lv_iload hx hb dX11_sums_80 (lv_at hl 2 rfl) ?_
      refine lv_iconst (v := 1) hx hb dX11_sums_82 (by decide) ?_
      obtain ⟨P_83, HC_83, HW⟩ := HW
      refine g_calli (g_runV (As := [.int s0, .int (1 : Int32)]) (rest := []) ⟨hx, hb, hml, hown, hts⟩ (m_X11_firstOf l D cy ad h_74 g_74 H.size s0 (1 : Int32) P_83 HC_83) (cwV 2 hts (gd_V (wm5 222 rfl rfl) (wm5 224 rfl rfl) (wmp4 (q := (yX11_firstOf, 26)) 3 rfl) (wm1 13 rfl rfl) (wm5 225 rfl rfl)) rfl rfl rfl (by decide +kernel) ⟨Nat.le_of_ble_eq_true rfl, Nat.le_of_ble_eq_true rfl⟩) hK hNw hG gl_135 rfl gk_135 (by decide) rfl rfl hl.1 rfl (lv_room (Nat.le_of_ble_eq_true rfl)) dX11_sums_83 ⟨Nat.zero_le _, Nat.zero_le _⟩) hG (fun r_83 h_83 g_83 H locs hq hG => ?_)
      replace HW := HW r_83 h_83 g_83 hq
      refine lv_iload hx hb dX11_sums_86 (lv_at hl 0 rfl) ?_
      refine lv_isub hx hb dX11_sums_88 ?_
      refine lv_topi (fun x9_89 ex9_89 => ?_)
      replace HW := HW x9_89 ex9_89
      refine lv_istore (lv' := [(9, .int x9_89), (8, .int r_74), (7, .int r_57), (6, .int s0), (0, .ref (ad 135)), (1, .int x1), (2, .int x2), (3, .int x3), (4, .int x4), (5, .int x5)]) hx hb dX11_sums_89 hl (by decide) rfl (fun ls hl => ?_)
      refine lv_iload hx hb dX11_sums_91 (lv_at hl 2 rfl) ?_
      refine lv_iload hx hb dX11_sums_93 (lv_at hl 1 rfl) ?_
      refine lv_isub hx hb dX11_sums_95 ?_
      refine lv_topi (fun x7_96 ex7_96 => ?_)
      replace HW := HW x7_96 ex7_96
      refine lv_istore (lv' := [(7, .int x7_96), (9, .int x9_89), (8, .int r_74), (6, .int s0), (0, .ref (ad 135)), (1, .int x1), (2, .int x2), (3, .int x3), (4, .int x4), (5, .int x5)]) hx hb dX11_sums_96 hl (by decide) rfl (fun ls hl => ?_)
      refine lv_aload_n hx hb dX11_sums_98 rfl (lv_at hl 4 rfl) ?_
      refine lv_iload_n hx hb dX11_sums_99 rfl (lv_at hl 5 rfl) ?_
      refine lv_bipush (v := 9) hx hb dX11_sums_100 (by decide) ?_
      obtain ⟨P_102, HC_102, HW⟩ := HW
      refine g_calli (g_runV (As := [.int x1, .int (9 : Int32)]) (rest := []) ⟨hx, hb, hml, hown, hts⟩ (m_X11_chainOf l D cy ad h_83 g_83 H.size x1 (9 : Int32) P_102 HC_102) (cwV 2 hts (gd_V (wm6 33 rfl rfl) (wm6 35 rfl rfl) (wmp4 (q := (yX11_chainOf, 26)) 12 rfl) (wm1 13 rfl rfl) (wm6 36 rfl rfl)) rfl rfl rfl (by decide +kernel) ⟨Nat.le_of_ble_eq_true rfl, Nat.le_of_ble_eq_true rfl⟩) hK hNw hG gl_135 rfl gk_135 (by decide) rfl rfl hl.1 rfl (lv_room (Nat.le_of_ble_eq_true rfl)) dX11_sums_102 ⟨Nat.zero_le _, Nat.zero_le _⟩) hG (fun r_102 h_102 g_102 H locs hq hG => ?_)
      replace HW := HW r_102 h_102 g_102 hq
      refine lv_iload hx hb dX11_sums_105 (lv_at hl 9 rfl) ?_
      refine lv_ishr hx hb dX11_sums_107 ?_
      refine lv_iconst (v := 1) hx hb dX11_sums_108 (by decide) ?_
      refine lv_iand hx hb dX11_sums_109 ?_
      refine lv_iconst (v := 1) hx hb dX11_sums_110 (by decide) ?_
      refine lv_icmp_ne (tgt := 118) hx hb dX11_sums_111 (by decide) (fun c_111 => ?_) (fun c_111 => ?_)
      · replace HW := HW.1 c_111
        refine lv_iconst (v := 0) hx hb dX11_sums_118 (by decide) ?_
        exact B119 K13 hK13 x1 x2 x3 x4 x5 x7_96 x9_89 (0 : Int32) h_102 g_102 _ _ _ HW hG (lv_sub hl [4, 5, 6, 7, 8, 9, 0, 1] rfl)
      · replace HW := HW.2 c_111
        refine lv_iconst (v := 1) hx hb dX11_sums_114 (by decide) ?_
        refine lv_goto (tgt := 119) hx hb dX11_sums_115 (by decide) ?_
        exact B119 K13 hK13 x1 x2 x3 x4 x5 x7_96 x9_89 (1 : Int32) h_102 g_102 _ _ _ HW hG (lv_sub hl [4, 5, 6, 7, 8, 9, 0, 1] rfl)
    · replace HW := HW.2 c_65
      refine lv_iconst (v := 0) hx hb dX11_sums_68 (by decide) ?_
      exact W.zret (v := (0 : Int32)) hx hb hr rfl (fun t ht hW => ⟨⟨(0 : Int32), (h_57, g_57), rfl, ⟨Or.inl rfl, HW⟩, g_B ht hG⟩, hG.2.2.F ht⟩) hG.2.2.2.2 dX11_sums_69
  have L13 : ∀ (n : Nat) (x1 : Int32) (x2 : Int32) (x3 : Int32) (x4 : Int32) (x5 : Int32) (h : HI) (g : HL) (H : Heap) (locs : List Loc) (ls : Array Slot), lpN (F_X11_sums_13 Q) n (x1, x2, x3, x4, x5, h, g) → gG D cy ad (gA ad s.heap.size) s.heap h g H locs → lv_has ls 11 [(0, .ref (ad 135)), (1, .int x1), (2, .int x2), (3, .int x3), (4, .int x4), (5, .int x5)] → W p l e ({ frames := 8, cells := 0, slots := 0, locals := 188 } : Room) s m args below meth c H locs 0 0 (MQ below (va_Qi (fun (r : Int32) (u : HI × HL) => zb r ∧ Q r u.1 u.2) (gB D cy ad s.heap.size) (gA ad s.heap.size)) args s 0 0 (gA ad s.heap.size)) (F0 m 13 ls []) := by
    intro n
    induction n with
    | zero => intro x1 x2 x3 x4 x5 h g H locs ls HW; exact HW.elim
    | succ n ih =>
      intro x1 x2 x3 x4 x5 h g H locs ls HW hG hl
      have HW : b_X11_sums_13 Q (fun x1 x2 x3 x4 x5 h g => lpN (F_X11_sums_13 Q) n (x1, x2, x3, x4, x5, h, g)) x1 x2 x3 x4 x5 h g := HW
      generalize hKe : (fun (x1 : Int32) (x2 : Int32) (x3 : Int32) (x4 : Int32) (x5 : Int32) (h : HI) (g : HL) => lpN (F_X11_sums_13 Q) n (x1, x2, x3, x4, x5, h, g)) = K13 at HW
      have hK13 : ∀ (x1 : Int32) (x2 : Int32) (x3 : Int32) (x4 : Int32) (x5 : Int32) (h : HI) (g : HL) (H : Heap) (locs : List Loc) (ls : Array Slot), K13 x1 x2 x3 x4 x5 h g → gG D cy ad (gA ad s.heap.size) s.heap h g H locs → lv_has ls 11 [(0, .ref (ad 135)), (1, .int x1), (2, .int x2), (3, .int x3), (4, .int x4), (5, .int x5)] → W p l e ({ frames := 8, cells := 0, slots := 0, locals := 188 } : Room) s m args below meth c H locs 0 0 (MQ below (va_Qi (fun (r : Int32) (u : HI × HL) => zb r ∧ Q r u.1 u.2) (gB D cy ad s.heap.size) (gA ad s.heap.size)) args s 0 0 (gA ad s.heap.size)) (F0 m 13 ls []) := by subst hKe; exact ih
      clear ih
      clear hKe
      unfold b_X11_sums_13 at HW
      refine lv_iload hx hb dX11_sums_13 (lv_at hl 5 rfl) ?_
      refine lv_aload_n hx hb dX11_sums_15 rfl (lv_at hl 0 rfl) ?_
      refine lv_iload_n hx hb dX11_sums_16 rfl (lv_at hl 1 rfl) ?_
      refine lv_iconst (v := 2) hx hb dX11_sums_17 (by decide) ?_
      obtain ⟨P_18, HC_18, HW⟩ := HW
      refine g_calli (g_runV (As := [.int x1, .int (2 : Int32)]) (rest := [.int x5]) ⟨hx, hb, hml, hown, hts⟩ (m_X11_chainOf l D cy ad h g H.size x1 (2 : Int32) P_18 HC_18) (cwV 2 hts (gd_V (wm6 33 rfl rfl) (wm6 35 rfl rfl) (wmp4 (q := (yX11_chainOf, 26)) 12 rfl) (wm1 13 rfl rfl) (wm6 36 rfl rfl)) rfl rfl rfl (by decide +kernel) ⟨Nat.le_of_ble_eq_true rfl, Nat.le_of_ble_eq_true rfl⟩) hK hNw hG gl_135 rfl gk_135 (by decide) rfl rfl hl.1 rfl (lv_room (Nat.le_of_ble_eq_true rfl)) dX11_sums_18 ⟨Nat.zero_le _, Nat.zero_le _⟩) hG (fun r_18 h_18 g_18 H locs hq hG => ?_)
      replace HW := HW r_18 h_18 g_18 hq
      refine lv_icmp_ge (tgt := 171) hx hb dX11_sums_21 (by decide) (fun c_21 => ?_) (fun c_21 => ?_)
      · replace HW := HW.1 c_21
        refine lv_iconst (v := 1) hx hb dX11_sums_171 (by decide) ?_
        exact W.zret (v := (1 : Int32)) hx hb hr rfl (fun t ht hW => ⟨⟨(1 : Int32), (h_18, g_18), rfl, ⟨Or.inr rfl, HW⟩, g_B ht hG⟩, hG.2.2.F ht⟩) hG.2.2.2.2 dX11_sums_172
      · replace HW := HW.2 c_21
        refine lv_aload_n hx hb dX11_sums_24 rfl (lv_at hl 0 rfl) ?_
        refine lv_iload_n hx hb dX11_sums_25 rfl (lv_at hl 1 rfl) ?_
        refine lv_iconst (v := 3) hx hb dX11_sums_26 (by decide) ?_
        refine lv_iload hx hb dX11_sums_27 (lv_at hl 5 rfl) ?_
        refine lv_iadd hx hb dX11_sums_29 ?_
        obtain ⟨P_30, HC_30, HW⟩ := HW
        refine g_calli (g_runV (As := [.int x1, .int ((3 : Int32) + x5)]) (rest := []) ⟨hx, hb, hml, hown, hts⟩ (m_X11_chainOf l D cy ad h_18 g_18 H.size x1 ((3 : Int32) + x5) P_30 HC_30) (cwV 2 hts (gd_V (wm6 33 rfl rfl) (wm6 35 rfl rfl) (wmp4 (q := (yX11_chainOf, 26)) 12 rfl) (wm1 13 rfl rfl) (wm6 36 rfl rfl)) rfl rfl rfl (by decide +kernel) ⟨Nat.le_of_ble_eq_true rfl, Nat.le_of_ble_eq_true rfl⟩) hK hNw hG gl_135 rfl gk_135 (by decide) rfl rfl hl.1 rfl (lv_room (Nat.le_of_ble_eq_true rfl)) dX11_sums_30 ⟨Nat.zero_le _, Nat.zero_le _⟩) hG (fun r_30 h_30 g_30 H locs hq hG => ?_)
        replace HW := HW r_30 h_30 g_30 hq
        refine lv_iload hx hb dX11_sums_33 (lv_at hl 4 rfl) ?_
        refine lv_icmp_ne (tgt := 42) hx hb dX11_sums_35 (by decide) (fun c_35 => ?_) (fun c_35 => ?_)
        · replace HW := HW.1 c_35
          refine lv_aload_n hx hb dX11_sums_42 rfl (lv_at hl 0 rfl) ?_
          refine lv_iload_n hx hb dX11_sums_43 rfl (lv_at hl 1 rfl) ?_
          refine lv_iconst (v := 3) hx hb dX11_sums_44 (by decide) ?_
          refine lv_iload hx hb dX11_sums_45 (lv_at hl 5 rfl) ?_
          refine lv_iadd hx hb dX11_sums_47 ?_
          obtain ⟨P_48, HC_48, HW⟩ := HW
          refine g_calli (g_runV (As := [.int x1, .int ((3 : Int32) + x5)]) (rest := []) ⟨hx, hb, hml, hown, hts⟩ (m_X11_chainOf l D cy ad h_30 g_30 H.size x1 ((3 : Int32) + x5) P_48 HC_48) (cwV 2 hts (gd_V (wm6 33 rfl rfl) (wm6 35 rfl rfl) (wmp4 (q := (yX11_chainOf, 26)) 12 rfl) (wm1 13 rfl rfl) (wm6 36 rfl rfl)) rfl rfl rfl (by decide +kernel) ⟨Nat.le_of_ble_eq_true rfl, Nat.le_of_ble_eq_true rfl⟩) hK hNw hG gl_135 rfl gk_135 (by decide) rfl rfl hl.1 rfl (lv_room (Nat.le_of_ble_eq_true rfl)) dX11_sums_48 ⟨Nat.zero_le _, Nat.zero_le _⟩) hG (fun r_48 h_48 g_48 H locs hq hG => ?_)
          replace HW := HW r_48 h_48 g_48 hq
          exact B51 K13 hK13 x1 x2 x3 x4 x5 r_48 h_48 g_48 _ _ _ HW hG (lv_sub hl [0, 1, 2, 3, 4, 5] rfl)
        · replace HW := HW.2 c_35
          refine lv_iload_n hx hb dX11_sums_38 rfl (lv_at hl 3 rfl) ?_
          refine lv_goto (tgt := 51) hx hb dX11_sums_39 (by decide) ?_
          exact B51 K13 hK13 x1 x2 x3 x4 x5 x3 h_30 g_30 _ _ _ HW hG (lv_sub hl [0, 1, 2, 3, 4, 5] rfl)
  have E0 : ∀ (H : Heap) (locs : List Loc) (ls : Array Slot), gG D cy ad (gA ad s.heap.size) s.heap h g H locs → lv_has ls 11 [(0, .ref (ad 135)), (1, .int x1), (2, .int x2), (3, .int x3), (4, .int x4)] → W p l e ({ frames := 8, cells := 0, slots := 0, locals := 188 } : Room) s m args below meth c H locs 0 0 (MQ below (va_Qi (fun (r : Int32) (u : HI × HL) => zb r ∧ Q r u.1 u.2) (gB D cy ad s.heap.size) (gA ad s.heap.size)) args s 0 0 (gA ad s.heap.size)) (F0 m 0 ls []) := by
    intro H locs ls hG hl
    unfold w_X11_sums at HW
    refine lv_aload_n hx hb dX11_sums_0 rfl (lv_at hl 0 rfl) ?_
    refine lv_iconst (v := 0) hx hb dX11_sums_1 (by decide) ?_
    refine g_put hx hb hw inG11 tyX11 tyX11_ok nmX11 hown hK hG gl_135 rfl gk_135 (by decide) 18 (by decide) (by rw [gm_135]; decide) gr_135_18 rfl (ty := .int) (by decide +kernel) rfl rfl lk211 dX11_sums_2 (fun H locs hG => ?_)
    obtain ⟨h_2, eh_2⟩ : ∃ y : HI, y = hu h 135 18 (0 : Int32) := ⟨_, rfl⟩
    rw [← eh_2] at hG
    replace HW := HW h_2 eh_2
    refine lv_aload_n hx hb dX11_sums_5 rfl (lv_at hl 0 rfl) ?_
    refine lv_iconst (v := 0) hx hb dX11_sums_6 (by decide) ?_
    refine g_put hx hb hw inG11 tyX11 tyX11_ok nmX11 hown hK hG gl_135 rfl gk_135 (by decide) 19 (by decide) (by rw [gm_135]; decide) gr_135_19 rfl (ty := .int) (by decide +kernel) rfl rfl lk214 dX11_sums_7 (fun H locs hG => ?_)
    obtain ⟨h_7, eh_7⟩ : ∃ y : HI, y = hu h_2 135 19 (0 : Int32) := ⟨_, rfl⟩
    rw [← eh_7] at hG
    replace HW := HW h_7 eh_7
    refine lv_iconst (v := 0) hx hb dX11_sums_10 (by decide) ?_
    refine lv_istore (lv' := [(5, .int (0 : Int32)), (0, .ref (ad 135)), (1, .int x1), (2, .int x2), (3, .int x3), (4, .int x4)]) hx hb dX11_sums_11 hl (by decide) rfl (fun ls hl => ?_)
    obtain ⟨n_13, HW⟩ := HW
    exact L13 n_13 x1 x2 x3 x4 (0 : Int32) h_7 g _ _ _ HW hG (lv_sub hl [1, 2, 3, 4, 5, 0] rfl)
  exact E0 _ _ _ hG hl

def w_X11_holds0 (x1 : Int32) (x2 : Int32) (x3 : Int32) (x4 : Int32) (h : HI) (g : HL) (Q : Int32 → HI → HL → Prop) : Prop :=
  (∃ P_6 : Int32 → HI → HL → Prop, w_X11_sums x1 x2 x3 x4 h g P_6 ∧ ∀ (r_6 : Int32) (h_6 : HI) (g_6 : HL), zb r_6 → P_6 r_6 h_6 g_6 → ((r_6 = 0 → Q (0 : Int32) h_6 g_6) ∧ (¬ r_6 = 0 → (∃ P_19 : Int32 → HI → HL → Prop, w_X11_chainOf x1 (0 : Int32) h_6 g_6 P_19 ∧ ∀ (r_19 : Int32) (h_19 : HI) (g_19 : HL), P_19 r_19 h_19 g_19 → (((h_6 135 18) < r_19 → Q (0 : Int32) h_19 g_19) ∧ (¬ (h_6 135 18) < r_19 → (∃ P_32 : Int32 → HI → HL → Prop, w_X11_chainOf x1 (1 : Int32) h_19 g_19 P_32 ∧ ∀ (r_32 : Int32) (h_32 : HI) (g_32 : HL), P_32 r_32 h_32 g_32 → ((r_32 < (h_19 135 19) → Q (0 : Int32) h_32 g_32) ∧ (¬ r_32 < (h_19 135 19) → Q (1 : Int32) h_32 g_32)))))))))
set_option maxHeartbeats 8000000 in
set_option maxRecDepth 100000 in
theorem m_X11_holds0 (l : Launch) (D : va_G) (cy : Nat → ClassId) (ad : Nat → Nat) (h : HI) (g : HL) (sz : Nat) (x1 : Int32) (x2 : Int32) (x3 : Int32) (x4 : Int32) (Q : Int32 → HI → HL → Prop) (HW : w_X11_holds0 x1 x2 x3 x4 h g Q) : Met l yX11_holds0 (wa yX11_holds0 cX11_holds0 5 (some .boolean)) ({ frames := 9, cells := 0, slots := 0, locals := 218 }) (va_Pc [.ref (ad 135), .int x1, .int x2, .int x3, .int x4] (gI D cy ad h g sz)) (va_Qi (fun (r : Int32) (u : HI × HL) => zb r ∧ Q r u.1 u.2) (gB D cy ad sz) (gA ad sz)) 0 0 (gA ad sz) := by
  refine Met.ofW (cc := cX11_holds0) (maxL := 5) (ret := (some .boolean)) (by decide) rfl ?_
  intro p e s m args below meth c s₁ B hml hv
  obtain ⟨hav, hsz, hP, hK, hD0, hNw⟩ := hv
  have hx := B.exec
  have hb := B.bytes
  have hr := B.returns
  have hts := atoms_spec (ws := (wa yX11_holds0 cX11_holds0 5 (some .boolean))) B.pre
  have hw := wa_hw hts
  have hown : s.vm.findClass RX11 = some m.cls := findClass_of_methodNamed B.named
  have hlocks := B.notSynchronized
  subst hsz
  have hG : gG D cy ad (gA ad s.heap.size) s.heap h g s.heap [] := ⟨hP, gA_self hD0, va_S.rf⟩
  clear hP hD0
  have lk211 := hw (.fieldLink RX11 211 "OldWorksModel" "sumLow" "I") (wm5 45 rfl rfl)
  have lk214 := hw (.fieldLink RX11 214 "OldWorksModel" "sumHigh" "I") (wm5 46 rfl rfl)
  rw [show (headSpec (wa yX11_holds0 cX11_holds0 5 (some .boolean)) ({ frames := 9, cells := 0, slots := 0, locals := 218 } : Room)).room = ({ frames := 9, cells := 0, slots := 0, locals := 218 } : Room) from rfl]
  have hl := lv_entry ([.ref (ad 135), .int x1, .int x2, .int x3, .int x4]) (n := 5) (Nat.le_of_ble_eq_true rfl)
  rw [show entryFrame m args 5 = entryFrame m ([.ref (ad 135), .int x1, .int x2, .int x3, .int x4] : List Value).toArray 5 from by rw [hav], lg_entry_eq]
  generalize (lg_sl ([.ref (ad 135), .int x1, .int x2, .int x3, .int x4]) ++ List.replicate (5 - (lg_sl ([.ref (ad 135), .int x1, .int x2, .int x3, .int x4])).length) Slot.unset).toArray = ls at hl ⊢
  have hl : lv_has ls 5 [(0, .ref (ad 135)), (1, .int x1), (2, .int x2), (3, .int x3), (4, .int x4)] := hl
  have E0 : ∀ (H : Heap) (locs : List Loc) (ls : Array Slot), gG D cy ad (gA ad s.heap.size) s.heap h g H locs → lv_has ls 5 [(0, .ref (ad 135)), (1, .int x1), (2, .int x2), (3, .int x3), (4, .int x4)] → W p l e ({ frames := 9, cells := 0, slots := 0, locals := 218 } : Room) s m args below meth c H locs 0 0 (MQ below (va_Qi (fun (r : Int32) (u : HI × HL) => zb r ∧ Q r u.1 u.2) (gB D cy ad s.heap.size) (gA ad s.heap.size)) args s 0 0 (gA ad s.heap.size)) (F0 m 0 ls []) := by
    intro H locs ls hG hl
    unfold w_X11_holds0 at HW
    refine lv_aload_n hx hb dX11_holds0_0 rfl (lv_at hl 0 rfl) ?_
    refine lv_iload_n hx hb dX11_holds0_1 rfl (lv_at hl 1 rfl) ?_
    refine lv_iload_n hx hb dX11_holds0_2 rfl (lv_at hl 2 rfl) ?_
    refine lv_iload_n hx hb dX11_holds0_3 rfl (lv_at hl 3 rfl) ?_
    refine lv_iload hx hb dX11_holds0_4 (lv_at hl 4 rfl) ?_
    obtain ⟨P_6, HC_6, HW⟩ := HW
    refine g_callz (g_runV (As := [.int x1, .int x2, .int x3, .int x4]) (rest := []) ⟨hx, hb, hml, hown, hts⟩ (m_X11_sums l D cy ad h g H.size x1 x2 x3 x4 P_6 HC_6) (cwV 4 hts (gd_V (wm6 46 rfl rfl) (wm6 48 rfl rfl) (wmp4 (q := (yX11_sums, 26)) 14 rfl) (wm1 13 rfl rfl) (wm6 49 rfl rfl)) rfl rfl rfl (by decide +kernel) ⟨Nat.le_of_ble_eq_true rfl, Nat.le_of_ble_eq_true rfl⟩) hK hNw hG gl_135 rfl gk_135 (by decide) rfl rfl hl.1 rfl (lv_room (Nat.le_of_ble_eq_true rfl)) dX11_holds0_6 ⟨Nat.zero_le _, Nat.zero_le _⟩) hG (fun r_6 h_6 g_6 H locs hz hq hG => ?_)
    replace HW := HW r_6 h_6 g_6 hz hq
    refine lv_if_eq (tgt := 42) hx hb dX11_holds0_9 (by decide) (fun c_9 => ?_) (fun c_9 => ?_)
    · replace HW := HW.1 c_9
      refine lv_iconst (v := 0) hx hb dX11_holds0_42 (by decide) ?_
      exact W.zret (v := (0 : Int32)) hx hb hr rfl (fun t ht hW => ⟨⟨(0 : Int32), (h_6, g_6), rfl, ⟨Or.inl rfl, HW⟩, g_B ht hG⟩, hG.2.2.F ht⟩) hG.2.2.2.2 dX11_holds0_43
    · replace HW := HW.2 c_9
      refine lv_aload_n hx hb dX11_holds0_12 rfl (lv_at hl 0 rfl) ?_
      refine g_geti hx hb hw inG11 hown hK hG gl_135 rfl gk_135 (by decide) 18 (by decide) (by rw [gm_135]; decide) gr_135_18 lk211 dX11_holds0_13 ?_
      refine lv_aload_n hx hb dX11_holds0_16 rfl (lv_at hl 0 rfl) ?_
      refine lv_iload_n hx hb dX11_holds0_17 rfl (lv_at hl 1 rfl) ?_
      refine lv_iconst (v := 0) hx hb dX11_holds0_18 (by decide) ?_
      obtain ⟨P_19, HC_19, HW⟩ := HW
      refine g_calli (g_runV (As := [.int x1, .int (0 : Int32)]) (rest := [.int (h_6 135 18)]) ⟨hx, hb, hml, hown, hts⟩ (m_X11_chainOf l D cy ad h_6 g_6 H.size x1 (0 : Int32) P_19 HC_19) (cwV 2 hts (gd_V (wm6 33 rfl rfl) (wm6 35 rfl rfl) (wmp4 (q := (yX11_chainOf, 26)) 12 rfl) (wm1 13 rfl rfl) (wm6 36 rfl rfl)) rfl rfl rfl (by decide +kernel) ⟨Nat.le_of_ble_eq_true rfl, Nat.le_of_ble_eq_true rfl⟩) hK hNw hG gl_135 rfl gk_135 (by decide) rfl rfl hl.1 rfl (lv_room (Nat.le_of_ble_eq_true rfl)) dX11_holds0_19 ⟨Nat.zero_le _, Nat.zero_le _⟩) hG (fun r_19 h_19 g_19 H locs hq hG => ?_)
      replace HW := HW r_19 h_19 g_19 hq
      refine lv_icmp_lt (tgt := 42) hx hb dX11_holds0_22 (by decide) (fun c_22 => ?_) (fun c_22 => ?_)
      · replace HW := HW.1 c_22
        refine lv_iconst (v := 0) hx hb dX11_holds0_42 (by decide) ?_
        exact W.zret (v := (0 : Int32)) hx hb hr rfl (fun t ht hW => ⟨⟨(0 : Int32), (h_19, g_19), rfl, ⟨Or.inl rfl, HW⟩, g_B ht hG⟩, hG.2.2.F ht⟩) hG.2.2.2.2 dX11_holds0_43
      · replace HW := HW.2 c_22
        refine lv_aload_n hx hb dX11_holds0_25 rfl (lv_at hl 0 rfl) ?_
        refine g_geti hx hb hw inG11 hown hK hG gl_135 rfl gk_135 (by decide) 19 (by decide) (by rw [gm_135]; decide) gr_135_19 lk214 dX11_holds0_26 ?_
        refine lv_aload_n hx hb dX11_holds0_29 rfl (lv_at hl 0 rfl) ?_
        refine lv_iload_n hx hb dX11_holds0_30 rfl (lv_at hl 1 rfl) ?_
        refine lv_iconst (v := 1) hx hb dX11_holds0_31 (by decide) ?_
        obtain ⟨P_32, HC_32, HW⟩ := HW
        refine g_calli (g_runV (As := [.int x1, .int (1 : Int32)]) (rest := [.int (h_19 135 19)]) ⟨hx, hb, hml, hown, hts⟩ (m_X11_chainOf l D cy ad h_19 g_19 H.size x1 (1 : Int32) P_32 HC_32) (cwV 2 hts (gd_V (wm6 33 rfl rfl) (wm6 35 rfl rfl) (wmp4 (q := (yX11_chainOf, 26)) 12 rfl) (wm1 13 rfl rfl) (wm6 36 rfl rfl)) rfl rfl rfl (by decide +kernel) ⟨Nat.le_of_ble_eq_true rfl, Nat.le_of_ble_eq_true rfl⟩) hK hNw hG gl_135 rfl gk_135 (by decide) rfl rfl hl.1 rfl (lv_room (Nat.le_of_ble_eq_true rfl)) dX11_holds0_32 ⟨Nat.zero_le _, Nat.zero_le _⟩) hG (fun r_32 h_32 g_32 H locs hq hG => ?_)
        replace HW := HW r_32 h_32 g_32 hq
        refine lv_icmp_gt (tgt := 42) hx hb dX11_holds0_35 (by decide) (fun c_35 => ?_) (fun c_35 => ?_)
        · replace HW := HW.1 c_35
          refine lv_iconst (v := 0) hx hb dX11_holds0_42 (by decide) ?_
          exact W.zret (v := (0 : Int32)) hx hb hr rfl (fun t ht hW => ⟨⟨(0 : Int32), (h_32, g_32), rfl, ⟨Or.inl rfl, HW⟩, g_B ht hG⟩, hG.2.2.F ht⟩) hG.2.2.2.2 dX11_holds0_43
        · replace HW := HW.2 c_35
          refine lv_iconst (v := 1) hx hb dX11_holds0_38 (by decide) ?_
          refine lv_goto (tgt := 43) hx hb dX11_holds0_39 (by decide) ?_
          exact W.zret (v := (1 : Int32)) hx hb hr rfl (fun t ht hW => ⟨⟨(1 : Int32), (h_32, g_32), rfl, ⟨Or.inr rfl, HW⟩, g_B ht hG⟩, hG.2.2.F ht⟩) hG.2.2.2.2 dX11_holds0_43
  exact E0 _ _ _ hG hl
