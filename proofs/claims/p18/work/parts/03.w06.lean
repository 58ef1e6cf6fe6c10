def j_X5_chooseBits_259 (Q : HI → HL → Prop) (K74 : Int32 → Int32 → Int32 → HI → HL → Prop) (x1 : Int32) (x2 : Int32) (x3 : Int32) (h : HI) (g : HL) : Prop :=
  (∀ x3_259 : Int32, x3_259 = (x3 + 1) → K74 x1 x2 x3_259 h g)
def b_X5_chooseBits_207 (Q : HI → HL → Prop) (K74 : Int32 → Int32 → Int32 → HI → HL → Prop) (K207 : Int32 → Int32 → Int32 → Int32 → HI → HL → Prop) (x1 : Int32) (x2 : Int32) (x3 : Int32) (x8 : Int32) (h : HI) (g : HL) : Prop :=
  (vp_in x3 12 ∧ (((h 121 x3.toNatClampNeg) ≤ x8 → (∀ h_256 : HI, h_256 = hu h 118 9 ((h 118 9) + (1 : Int32)) → j_X5_chooseBits_259 Q K74 x1 x2 x3 h_256 g)) ∧ (¬ (h 121 x3.toNatClampNeg) ≤ x8 → (vp_in x3 12 ∧ (vp_in x8 256 ∧ (vp_in (x8 ||| (h 121 x3.toNatClampNeg)) 256 ∧ ∀ h_242 : HI, h_242 = hu h 122 (x8 ||| (h 121 x3.toNatClampNeg)).toNatClampNeg ((h 122 x8.toNatClampNeg) ||| ((1 : Int32) <<< (x3 &&& 31))) → (∀ x8_243 : Int32, x8_243 = (x8 + 1) → K207 x1 x2 x3 x8_243 h_242 g)))))))
def F_X5_chooseBits_207 (Q : HI → HL → Prop) (K74 : Int32 → Int32 → Int32 → HI → HL → Prop) (K : Int32 × Int32 × Int32 × Int32 × HI × HL → Prop) (q : Int32 × Int32 × Int32 × Int32 × HI × HL) : Prop := b_X5_chooseBits_207 Q K74 (fun x1 x2 x3 x8 h g => K (x1, x2, x3, x8, h, g)) q.1 q.2.1 q.2.2.1 q.2.2.2.1 q.2.2.2.2.1 q.2.2.2.2.2
def j_X5_chooseBits_157 (Q : HI → HL → Prop) (K74 : Int32 → Int32 → Int32 → HI → HL → Prop) (x1 : Int32) (x2 : Int32) (x3 : Int32) (x6 : Int32) (s0 : Int32) (h : HI) (g : HL) : Prop :=
  (vp_in x3 12 ∧ ∀ h_165 : HI, h_165 = hu h 121 x3.toNatClampNeg (0 : Int32) → ((x6 = 0 → j_X5_chooseBits_259 Q K74 x1 x2 x3 h_165 g) ∧ (¬ x6 = 0 → ((s0 = 0 → j_X5_chooseBits_259 Q K74 x1 x2 x3 h_165 g) ∧ (¬ s0 = 0 → (∃ P_183 : Int32 → HI → HL → Prop, w_X10_within (h_165 118 9) (0 : Int32) (7 : Int32) h_165 g P_183 ∧ ∀ (r_183 : Int32) (h_183 : HI) (g_183 : HL), zb r_183 → P_183 r_183 h_183 g_183 → ((¬ r_183 = 0 → (vp_in x3 12 ∧ ∀ h_203 : HI, h_203 = hu h_183 121 x3.toNatClampNeg ((1 : Int32) <<< ((h_183 118 9) &&& 31)) → lpE (F_X5_chooseBits_207 Q K74) (x1, x2, x3, (0 : Int32), h_203, g_183))) ∧ (r_183 = 0 → j_X5_chooseBits_259 Q K74 x1 x2 x3 h_183 g_183))))))))
def j_X5_chooseBits_156 (Q : HI → HL → Prop) (K74 : Int32 → Int32 → Int32 → HI → HL → Prop) (x1 : Int32) (x2 : Int32) (x3 : Int32) (x6 : Int32) (h : HI) (g : HL) : Prop :=
  j_X5_chooseBits_157 Q K74 x1 x2 x3 x6 (0 : Int32) h g
def j_X5_chooseBits_124 (Q : HI → HL → Prop) (K74 : Int32 → Int32 → Int32 → HI → HL → Prop) (x1 : Int32) (x2 : Int32) (x3 : Int32) (x5 : Int32) (s0 : Int32) (h : HI) (g : HL) : Prop :=
  ((¬ ((x2 >>> (x5 &&& 31)) &&& (1 : Int32)) = (1 : Int32) → j_X5_chooseBits_156 Q K74 x1 x2 x3 s0 h g) ∧ (((x2 >>> (x5 &&& 31)) &&& (1 : Int32)) = (1 : Int32) → (∃ P_146 : Int32 → HI → HL → Prop, w_X8_at 22 x5 (0 : Int32) h g P_146 ∧ ∀ (r_146 : Int32) (h_146 : HI) (g_146 : HL), P_146 r_146 h_146 g_146 → ((r_146 ≤ 0 → j_X5_chooseBits_156 Q K74 x1 x2 x3 s0 h_146 g_146) ∧ (¬ r_146 ≤ 0 → j_X5_chooseBits_157 Q K74 x1 x2 x3 s0 (1 : Int32) h_146 g_146)))))
def j_X5_chooseBits_123 (Q : HI → HL → Prop) (K74 : Int32 → Int32 → Int32 → HI → HL → Prop) (x1 : Int32) (x2 : Int32) (x3 : Int32) (x5 : Int32) (h : HI) (g : HL) : Prop :=
  j_X5_chooseBits_124 Q K74 x1 x2 x3 x5 (0 : Int32) h g
def b_X5_chooseBits_74 (Q : HI → HL → Prop) (K74 : Int32 → Int32 → Int32 → HI → HL → Prop) (x1 : Int32) (x2 : Int32) (x3 : Int32) (h : HI) (g : HL) : Prop :=
  (((12 : Int32) ≤ x3 → Q h g) ∧ (¬ (12 : Int32) ≤ x3 → (∀ x4_86 : Int32, x4_86 = (x3 / (4 : Int32)) → (∀ x5_91 : Int32, x5_91 = (x3 - x3 / (4 : Int32) * (4 : Int32)) → (∃ P_102 : Int32 → HI → HL → Prop, w_X8_rows 20 h g P_102 ∧ ∀ (r_102 : Int32) (h_102 : HI) (g_102 : HL), P_102 r_102 h_102 g_102 → ((r_102 ≤ x4_86 → j_X5_chooseBits_123 Q K74 x1 x2 x3 x5_91 h_102 g_102) ∧ (¬ r_102 ≤ x4_86 → (∃ P_113 : Int32 → HI → HL → Prop, w_X5_knows x1 x4_86 x5_91 h_102 g_102 P_113 ∧ ∀ (r_113 : Int32) (h_113 : HI) (g_113 : HL), zb r_113 → P_113 r_113 h_113 g_113 → ((¬ r_113 = 0 → j_X5_chooseBits_123 Q K74 x1 x2 x3 x5_91 h_113 g_113) ∧ (r_113 = 0 → j_X5_chooseBits_124 Q K74 x1 x2 x3 x5_91 (1 : Int32) h_113 g_113))))))))))
def F_X5_chooseBits_74 (Q : HI → HL → Prop) (K : Int32 × Int32 × Int32 × HI × HL → Prop) (q : Int32 × Int32 × Int32 × HI × HL) : Prop := b_X5_chooseBits_74 Q (fun x1 x2 x3 h g => K (x1, x2, x3, h, g)) q.1 q.2.1 q.2.2.1 q.2.2.2.1 q.2.2.2.2
def b_X5_chooseBits_6 (Q : HI → HL → Prop) (K6 : Int32 → Int32 → Int32 → HI → HL → Prop) (x1 : Int32) (x2 : Int32) (x3 : Int32) (h : HI) (g : HL) : Prop :=
  (∃ P_14 : Int32 → HI → HL → Prop, w_X8_rows 20 h g P_14 ∧ ∀ (r_14 : Int32) (h_14 : HI) (g_14 : HL), P_14 r_14 h_14 g_14 → ((r_14 ≤ x3 → (∀ h_62 : HI, h_62 = hu h_14 118 9 (0 : Int32) → (vp_in (0 : Int32) 256 ∧ ∀ h_71 : HI, h_71 = hu h_62 122 (0 : Int32).toNatClampNeg x1 → lpE (F_X5_chooseBits_74 Q) (x1, x2, (0 : Int32), h_71, g_14)))) ∧ (¬ r_14 ≤ x3 → (∃ P_30 : Int32 → HI → HL → Prop, w_X8_at 20 x3 (0 : Int32) h_14 g_14 P_30 ∧ ∀ (r_30 : Int32) (h_30 : HI) (g_30 : HL), P_30 r_30 h_30 g_30 → (∀ x1_38 : Int32, x1_38 = (x1 ||| (r_30 <<< (((4 : Int32) * x3) &&& 31))) → (∃ P_49 : Int32 → HI → HL → Prop, w_X8_at 20 x3 (0 : Int32) h_30 g_30 P_49 ∧ ∀ (r_49 : Int32) (h_49 : HI) (g_49 : HL), P_49 r_49 h_49 g_49 → (∀ x2_53 : Int32, x2_53 = (x2 ||| r_49) → (∀ x3_54 : Int32, x3_54 = (x3 + 1) → K6 x1_38 x2_53 x3_54 h_49 g_49))))))))
def F_X5_chooseBits_6 (Q : HI → HL → Prop) (K : Int32 × Int32 × Int32 × HI × HL → Prop) (q : Int32 × Int32 × Int32 × HI × HL) : Prop := b_X5_chooseBits_6 Q (fun x1 x2 x3 h g => K (x1, x2, x3, h, g)) q.1 q.2.1 q.2.2.1 q.2.2.2.1 q.2.2.2.2
def w_X5_chooseBits  (h : HI) (g : HL) (Q : HI → HL → Prop) : Prop :=
  lpE (F_X5_chooseBits_6 Q) ((0 : Int32), (0 : Int32), (0 : Int32), h, g)
set_option maxHeartbeats 8000000 in
set_option maxRecDepth 100000 in
theorem m_X5_chooseBits (l : Launch) (D : va_G) (cy : Nat → ClassId) (ad : Nat → Nat) (h : HI) (g : HL) (sz : Nat)  (Q : HI → HL → Prop) (HW : w_X5_chooseBits h g Q) : Met l yX5_chooseBits (wa yX5_chooseBits cX5_chooseBits 9 none) ({ frames := 1, cells := 0, slots := 0, locals := 23 }) (va_Pc [.ref (ad 118)] (gI D cy ad h g sz)) (va_Qv (fun (u : HI × HL) => Q u.1 u.2) (gB D cy ad sz) (gA ad sz)) 0 0 (gA ad sz) := by
  refine Met.ofW (cc := cX5_chooseBits) (maxL := 9) (ret := none) (by decide) rfl ?_
  intro p e s m args below meth c s₁ B hml hv
  obtain ⟨hav, hsz, hP, hK, hD0, hNw⟩ := hv
  have hx := B.exec
  have hb := B.bytes
  have hr := B.returns
  have hts := atoms_spec (ws := (wa yX5_chooseBits cX5_chooseBits 9 none)) B.pre
  have hw := wa_hw hts
  have hown : s.vm.findClass RX5 = some m.cls := findClass_of_methodNamed B.named
  have hlocks := B.notSynchronized
  subst hsz
  have hG : gG D cy ad (gA ad s.heap.size) s.heap h g s.heap [] := ⟨hP, gA_self hD0, va_S.rf⟩
  clear hP hD0
  have lk35 := hw (.fieldLink RX5 35 "OldWorks$Plans" "shop" "LOldWorks$Shop;") (wm2 121 rfl rfl)
  have lk76 := hw (.fieldLink RX5 76 "OldWorks$Shop" "hands" "LOldWorks$Table;") (wm1 90 rfl rfl)
  have lk64 := hw (.fieldLink RX5 64 "OldWorks$Plans" "learned" "I") (wm2 130 rfl rfl)
  have lk21 := hw (.fieldLink RX5 21 "OldWorks$Plans" "skilled" "[I") (wm2 125 rfl rfl)
  have lk18 := hw (.fieldLink RX5 18 "OldWorks$Plans" "bits" "[I") (wm2 124 rfl rfl)
  have lk95 := hw (.fieldLink RX5 95 "OldWorks$Shop" "runs" "LOldWorks$Table;") (wm1 93 rfl rfl)
  rw [show (headSpec (wa yX5_chooseBits cX5_chooseBits 9 none) ({ frames := 1, cells := 0, slots := 0, locals := 23 } : Room)).room = ({ frames := 1, cells := 0, slots := 0, locals := 23 } : Room) from rfl]
  have hl := lv_entry ([.ref (ad 118)]) (n := 9) (Nat.le_of_ble_eq_true rfl)
  rw [show entryFrame m args 9 = entryFrame m ([.ref (ad 118)] : List Value).toArray 9 from by rw [hav], lg_entry_eq]
  generalize (lg_sl ([.ref (ad 118)]) ++ List.replicate (9 - (lg_sl ([.ref (ad 118)])).length) Slot.unset).toArray = ls at hl ⊢
  have hl : lv_has ls 9 [(0, .ref (ad 118))] := hl
  have B259 : ∀ (K74 : Int32 → Int32 → Int32 → HI → HL → Prop) (hK74 : ∀ (x1 : Int32) (x2 : Int32) (x3 : Int32) (h : HI) (g : HL) (H : Heap) (locs : List Loc) (ls : Array Slot), K74 x1 x2 x3 h g → gG D cy ad (gA ad s.heap.size) s.heap h g H locs → lv_has ls 9 [(0, .ref (ad 118)), (1, .int x1), (2, .int x2), (3, .int x3)] → W p l e ({ frames := 1, cells := 0, slots := 0, locals := 23 } : Room) s m args below meth c H locs 0 0 (MQ below (va_Qv (fun (u : HI × HL) => Q u.1 u.2) (gB D cy ad s.heap.size) (gA ad s.heap.size)) args s 0 0 (gA ad s.heap.size)) (F0 m 74 ls [])) (x1 : Int32) (x2 : Int32) (x3 : Int32) (h : HI) (g : HL) (H : Heap) (locs : List Loc) (ls : Array Slot), j_X5_chooseBits_259 Q K74 x1 x2 x3 h g → gG D cy ad (gA ad s.heap.size) s.heap h g H locs → lv_has ls 9 [(0, .ref (ad 118)), (1, .int x1), (2, .int x2), (3, .int x3)] → W p l e ({ frames := 1, cells := 0, slots := 0, locals := 23 } : Room) s m args below meth c H locs 0 0 (MQ below (va_Qv (fun (u : HI × HL) => Q u.1 u.2) (gB D cy ad s.heap.size) (gA ad s.heap.size)) args s 0 0 (gA ad s.heap.size)) (F0 m 259 ls []) := by
    intro K74 hK74 x1 x2 x3 h g H locs ls HW hG hl
    unfold j_X5_chooseBits_259 at HW
    obtain ⟨x3_259, ex3_259⟩ : ∃ y : Int32, y = (x3 + 1) := ⟨_, rfl⟩
    replace HW := HW x3_259 ex3_259
    refine lv_iinc (v := x3_259) (lv' := [(3, .int x3_259), (0, .ref (ad 118)), (1, .int x1), (2, .int x2)]) hx hb dX5_chooseBits_259 hl (k := 3) rfl (by rw [ex3_259]; rfl) (by decide) rfl (fun ls hl => ?_)
    refine lv_goto (tgt := 74) hx hb dX5_chooseBits_262 (by decide) ?_
    exact hK74 x1 x2 x3_259 h g _ _ _ HW hG (lv_sub hl [1, 2, 3, 0] rfl)
  have L207 : ∀ (K74 : Int32 → Int32 → Int32 → HI → HL → Prop) (hK74 : ∀ (x1 : Int32) (x2 : Int32) (x3 : Int32) (h : HI) (g : HL) (H : Heap) (locs : List Loc) (ls : Array Slot), K74 x1 x2 x3 h g → gG D cy ad (gA ad s.heap.size) s.heap h g H locs → lv_has ls 9 [(0, .ref (ad 118)), (1, .int x1), (2, .int x2), (3, .int x3)] → W p l e ({ frames := 1, cells := 0, slots := 0, locals := 23 } : Room) s m args below meth c H locs 0 0 (MQ below (va_Qv (fun (u : HI × HL) => Q u.1 u.2) (gB D cy ad s.heap.size) (gA ad s.heap.size)) args s 0 0 (gA ad s.heap.size)) (F0 m 74 ls [])) (n : Nat) (x1 : Int32) (x2 : Int32) (x3 : Int32) (x8 : Int32) (h : HI) (g : HL) (H : Heap) (locs : List Loc) (ls : Array Slot), lpN (F_X5_chooseBits_207 Q K74) n (x1, x2, x3, x8, h, g) → gG D cy ad (gA ad s.heap.size) s.heap h g H locs → lv_has ls 9 [(0, .ref (ad 118)), (1, .int x1), (2, .int x2), (3, .int x3), (8, .int x8)] → W p l e ({ frames := 1, cells := 0, slots := 0, locals := 23 } : Room) s m args below meth c H locs 0 0 (MQ below (va_Qv (fun (u : HI × HL) => Q u.1 u.2) (gB D cy ad s.heap.size) (gA ad s.heap.size)) args s 0 0 (gA ad s.heap.size)) (F0 m 207 ls []) := by
    intro K74 hK74 n
    induction n with
    | zero => intro x1 x2 x3 x8 h g H locs ls HW; exact HW.elim
    | succ n ih =>
      intro x1 x2 x3 x8 h g H locs ls HW hG hl
      have HW : b_X5_chooseBits_207 Q K74 (fun x1 x2 x3 x8 h g => lpN (F_X5_chooseBits_207 Q K74) n (x1, x2, x3, x8, h, g)) x1 x2 x3 x8 h g := HW
      generalize hKe : (fun (x1 : Int32) (x2 : Int32) (x3 : Int32) (x8 : Int32) (h : HI) (g : HL) => lpN (F_X5_chooseBits_207 Q K74) n (x1, x2, x3, x8, h, g)) = K207 at HW
      have hK207 : ∀ (x1 : Int32) (x2 : Int32) (x3 : Int32) (x8 : Int32) (h : HI) (g : HL) (H : Heap) (locs : List Loc) (ls : Array Slot), K207 x1 x2 x3 x8 h g → gG D cy ad (gA ad s.heap.size) s.heap h g H locs → lv_has ls 9 [(0, .ref (ad 118)), (1, .int x1), (2, .int x2), (3, .int x3), (8, .int x8)] → W p l e ({ frames := 1, cells := 0, slots := 0, locals := 23 } : Room) s m args below meth c H locs 0 0 (MQ below (va_Qv (fun (u : HI × HL) => Q u.1 u.2) (gB D cy ad s.heap.size) (gA ad s.heap.size)) args s 0 0 (gA ad s.heap.size)) (F0 m 207 ls []) := by subst hKe; exact ih
      clear ih
      clear hKe
      unfold b_X5_chooseBits_207 at HW
      refine lv_iload hx hb dX5_chooseBits_207 (lv_at hl 4 rfl) ?_
      refine lv_aload_n hx hb dX5_chooseBits_209 rfl (lv_at hl 0 rfl) ?_
      refine g_getr hx hb hw inG5 hown hK hG gl_118 rfl gk_118 (by decide) 3 (by decide) (by rw [gm_118]; decide) (r := 121) gr_118_3 lk18 dX5_chooseBits_210 ?_
      refine lv_iload_n hx hb dX5_chooseBits_213 rfl (lv_at hl 3 rfl) ?_
      refine g_iald hx hb hK hG gl_121 gk_121 gn_121 HW.1 dX5_chooseBits_214 ?_
      replace HW := HW.2
      refine lv_icmp_ge (tgt := 249) hx hb dX5_chooseBits_215 (by decide) (fun c_215 => ?_) (fun c_215 => ?_)
      · replace HW := HW.1 c_215
        refine lv_aload_n hx hb dX5_chooseBits_249 rfl (lv_at hl 0 rfl) ?_
        refine lv_dup hx hb dX5_chooseBits_250 rfl ?_
        refine g_geti hx hb hw inG5 hown hK hG gl_118 rfl gk_118 (by decide) 9 (by decide) (by rw [gm_118]; decide) gr_118_9 lk64 dX5_chooseBits_251 ?_
        refine lv_iconst (v := 1) hx hb dX5_chooseBits_254 (by decide) ?_
        refine lv_iadd hx hb dX5_chooseBits_255 ?_
        refine g_put hx hb hw inG5 tyX5 tyX5_ok nmX5 hown hK hG gl_118 rfl gk_118 (by decide) 9 (by decide) (by rw [gm_118]; decide) gr_118_9 rfl (ty := .int) (by decide +kernel) rfl rfl lk64 dX5_chooseBits_256 (fun H locs hG => ?_)
        obtain ⟨h_256, eh_256⟩ : ∃ y : HI, y = hu h 118 9 ((h 118 9) + (1 : Int32)) := ⟨_, rfl⟩
        rw [← eh_256] at hG
        replace HW := HW h_256 eh_256
        exact B259 K74 hK74 x1 x2 x3 h_256 g _ _ _ HW hG (lv_sub hl [0, 1, 2, 3] rfl)
      · replace HW := HW.2 c_215
        refine lv_aload_n hx hb dX5_chooseBits_218 rfl (lv_at hl 0 rfl) ?_
        refine g_getr hx hb hw inG5 hown hK hG gl_118 rfl gk_118 (by decide) 4 (by decide) (by rw [gm_118]; decide) (r := 122) gr_118_4 lk21 dX5_chooseBits_219 ?_
        refine lv_iload hx hb dX5_chooseBits_222 (lv_at hl 4 rfl) ?_
        refine lv_aload_n hx hb dX5_chooseBits_224 rfl (lv_at hl 0 rfl) ?_
        refine g_getr hx hb hw inG5 hown hK hG gl_118 rfl gk_118 (by decide) 3 (by decide) (by rw [gm_118]; decide) (r := 121) gr_118_3 lk18 dX5_chooseBits_225 ?_
        refine lv_iload_n hx hb dX5_chooseBits_228 rfl (lv_at hl 3 rfl) ?_
        refine g_iald hx hb hK hG gl_121 gk_121 gn_121 HW.1 dX5_chooseBits_229 ?_
        replace HW := HW.2
        refine lv_ior hx hb dX5_chooseBits_230 ?_
        refine lv_aload_n hx hb dX5_chooseBits_231 rfl (lv_at hl 0 rfl) ?_
        refine g_getr hx hb hw inG5 hown hK hG gl_118 rfl gk_118 (by decide) 4 (by decide) (by rw [gm_118]; decide) (r := 122) gr_118_4 lk21 dX5_chooseBits_232 ?_
        refine lv_iload hx hb dX5_chooseBits_235 (lv_at hl 4 rfl) ?_
        refine g_iald hx hb hK hG gl_122 gk_122 gn_122 HW.1 dX5_chooseBits_237 ?_
        replace HW := HW.2
        refine lv_iconst (v := 1) hx hb dX5_chooseBits_238 (by decide) ?_
        refine lv_iload_n hx hb dX5_chooseBits_239 rfl (lv_at hl 3 rfl) ?_
        refine lv_ishl hx hb dX5_chooseBits_240 ?_
        refine lv_ior hx hb dX5_chooseBits_241 ?_
        refine g_iast hx hb hK hG gl_122 gk_122 gn_122 HW.1 dX5_chooseBits_242 (fun H locs hG => ?_)
        replace HW := HW.2
        obtain ⟨h_242, eh_242⟩ : ∃ y : HI, y = hu h 122 (x8 ||| (h 121 x3.toNatClampNeg)).toNatClampNeg ((h 122 x8.toNatClampNeg) ||| ((1 : Int32) <<< (x3 &&& 31))) := ⟨_, rfl⟩
        rw [← eh_242] at hG
        replace HW := HW h_242 eh_242
        obtain ⟨x8_243, ex8_243⟩ : ∃ y : Int32, y = (x8 + 1) := ⟨_, rfl⟩
        replace HW := HW x8_243 ex8_243
        refine lv_iinc (v := x8_243) (lv' := [(8, .int x8_243), (0, .ref (ad 118)), (1, .int x1), (2, .int x2), (3, .int x3)]) hx hb dX5_chooseBits_243 hl (k := 4) rfl (by rw [ex8_243]; rfl) (by decide) rfl (fun ls hl => ?_)
        refine lv_goto (tgt := 207) hx hb dX5_chooseBits_246 (by decide) ?_
        exact hK207 x1 x2 x3 x8_243 h_242 g _ _ _ HW hG (lv_sub hl [1, 2, 3, 4, 0] rfl)
  have B157 : ∀ (K74 : Int32 → Int32 → Int32 → HI → HL → Prop) (hK74 : ∀ (x1 : Int32) (x2 : Int32) (x3 : Int32) (h : HI) (g : HL) (H : Heap) (locs : List Loc) (ls : Array Slot), K74 x1 x2 x3 h g → gG D cy ad (gA ad s.heap.size) s.heap h g H locs → lv_has ls 9 [(0, .ref (ad 118)), (1, .int x1), (2, .int x2), (3, .int x3)] → W p l e ({ frames := 1, cells := 0, slots := 0, locals := 23 } : Room) s m args below meth c H locs 0 0 (MQ below (va_Qv (fun (u : HI × HL) => Q u.1 u.2) (gB D cy ad s.heap.size) (gA ad s.heap.size)) args s 0 0 (gA ad s.heap.size)) (F0 m 74 ls [])) (x1 : Int32) (x2 : Int32) (x3 : Int32) (x6 : Int32) (s0 : Int32) (h : HI) (g : HL) (H : Heap) (locs : List Loc) (ls : Array Slot), j_X5_chooseBits_157 Q K74 x1 x2 x3 x6 s0 h g → gG D cy ad (gA ad s.heap.size) s.heap h g H locs → lv_has ls 9 [(0, .ref (ad 118)), (1, .int x1), (2, .int x2), (3, .int x3), (6, .int x6)] → W p l e ({ frames := 1, cells := 0, slots := 0, locals := 23 } : Room) s m args below meth c H locs 0 0 (MQ below (va_Qv (fun (u : HI × HL) => Q u.1 u.2) (gB D cy ad s.heap.size) (gA ad s.heap.size)) args s 0 0 (gA ad s.heap.size)) (F0 m 157 ls [.int s0]) := by
    intro K74 hK74 x1 x2 x3 x6 s0 h g H locs ls HW hG hl
    unfold j_X5_chooseBits_157 at HW
    refine lv_istore (lv' := [(7, .int s0), (0, .ref (ad 118)), (1, .int x1), (2, .int x2), (3, .int x3), (6, .int x6)]) hx hb dX5_chooseBits_157 hl (by decide) rfl (fun ls hl => ?_)
    refine lv_aload_n hx hb dX5_chooseBits_159 rfl (lv_at hl 1 rfl) ?_
    refine g_getr hx hb hw inG5 hown hK hG gl_118 rfl gk_118 (by decide) 3 (by decide) (by rw [gm_118]; decide) (r := 121) gr_118_3 lk18 dX5_chooseBits_160 ?_
    refine lv_iload_n hx hb dX5_chooseBits_163 rfl (lv_at hl 4 rfl) ?_
    refine lv_iconst (v := 0) hx hb dX5_chooseBits_164 (by decide) ?_
    refine g_iast hx hb hK hG gl_121 gk_121 gn_121 HW.1 dX5_chooseBits_165 (fun H locs hG => ?_)
    replace HW := HW.2
    obtain ⟨h_165, eh_165⟩ : ∃ y : HI, y = hu h 121 x3.toNatClampNeg (0 : Int32) := ⟨_, rfl⟩
    rw [← eh_165] at hG
    replace HW := HW h_165 eh_165
    refine lv_iload hx hb dX5_chooseBits_166 (lv_at hl 5 rfl) ?_
    refine lv_if_eq (tgt := 259) hx hb dX5_chooseBits_168 (by decide) (fun c_168 => ?_) (fun c_168 => ?_)
    · replace HW := HW.1 c_168
      exact B259 K74 hK74 x1 x2 x3 h_165 g _ _ _ HW hG (lv_sub hl [1, 2, 3, 4] rfl)
    · replace HW := HW.2 c_168
      refine lv_iload hx hb dX5_chooseBits_171 (lv_at hl 0 rfl) ?_
      refine lv_if_eq (tgt := 259) hx hb dX5_chooseBits_173 (by decide) (fun c_173 => ?_) (fun c_173 => ?_)
      · replace HW := HW.1 c_173
        exact B259 K74 hK74 x1 x2 x3 h_165 g _ _ _ HW hG (lv_sub hl [1, 2, 3, 4] rfl)
      · replace HW := HW.2 c_173
        refine lv_aload_n hx hb dX5_chooseBits_176 rfl (lv_at hl 1 rfl) ?_
        refine g_geti hx hb hw inG5 hown hK hG gl_118 rfl gk_118 (by decide) 9 (by decide) (by rw [gm_118]; decide) gr_118_9 lk64 dX5_chooseBits_177 ?_
        refine lv_iconst (v := 0) hx hb dX5_chooseBits_180 (by decide) ?_
        refine lv_bipush (v := 7) hx hb dX5_chooseBits_181 (by decide) ?_
        obtain ⟨P_183, HC_183, HW⟩ := HW
        refine g_callz (g_runSN (As := [.int (h_165 118 9), .int (0 : Int32), .int (7 : Int32)]) (rest := []) ⟨hx, hb, hml, hown, hts⟩ (m_X10_within l D cy ad h_165 g H.size (h_165 118 9) (0 : Int32) (7 : Int32) P_183 HC_183) ⟨va_cnB 3 hts (gd_w (wm2 195 rfl rfl)) rfl rfl rfl (hNw _ (List.mem_of_getElem? (i := 4) rfl)) (hw (.initialized RX10) (wm1 1 rfl rfl)) (by decide +kernel) ⟨Nat.le_of_ble_eq_true rfl, Nat.le_of_ble_eq_true rfl⟩, hw (.static yX10_within) (wm2 194 rfl rfl), trivial⟩ hK hNw hG rfl rfl hl.1 rfl (lv_room (Nat.le_of_ble_eq_true rfl)) dX5_chooseBits_183 ⟨Nat.zero_le _, Nat.zero_le _⟩) hG (fun r_183 h_183 g_183 H locs hz hq hG => ?_)
        replace HW := HW r_183 h_183 g_183 hz hq
        refine lv_if_ne (tgt := 192) hx hb dX5_chooseBits_186 (by decide) (fun c_186 => ?_) (fun c_186 => ?_)
        · replace HW := HW.1 c_186
          refine lv_aload_n hx hb dX5_chooseBits_192 rfl (lv_at hl 1 rfl) ?_
          refine g_getr hx hb hw inG5 hown hK hG gl_118 rfl gk_118 (by decide) 3 (by decide) (by rw [gm_118]; decide) (r := 121) gr_118_3 lk18 dX5_chooseBits_193 ?_
          refine lv_iload_n hx hb dX5_chooseBits_196 rfl (lv_at hl 4 rfl) ?_
          refine lv_iconst (v := 1) hx hb dX5_chooseBits_197 (by decide) ?_
          refine lv_aload_n hx hb dX5_chooseBits_198 rfl (lv_at hl 1 rfl) ?_
          refine g_geti hx hb hw inG5 hown hK hG gl_118 rfl gk_118 (by decide) 9 (by decide) (by rw [gm_118]; decide) gr_118_9 lk64 dX5_chooseBits_199 ?_
          refine lv_ishl hx hb dX5_chooseBits_202 ?_
          refine g_iast hx hb hK hG gl_121 gk_121 gn_121 HW.1 dX5_chooseBits_203 (fun H locs hG => ?_)
          replace HW := HW.2
          obtain ⟨h_203, eh_203⟩ : ∃ y : HI, y = hu h_183 121 x3.toNatClampNeg ((1 : Int32) <<< ((h_183 118 9) &&& 31)) := ⟨_, rfl⟩
          rw [← eh_203] at hG
          replace HW := HW h_203 eh_203
          refine lv_iconst (v := 0) hx hb dX5_chooseBits_204 (by decide) ?_
          refine lv_istore (lv' := [(8, .int (0 : Int32)), (7, .int s0), (0, .ref (ad 118)), (1, .int x1), (2, .int x2), (3, .int x3), (6, .int x6)]) hx hb dX5_chooseBits_205 hl (by decide) rfl (fun ls hl => ?_)
          obtain ⟨n_207, HW⟩ := HW
          exact L207 K74 hK74 n_207 x1 x2 x3 (0 : Int32) h_203 g_183 _ _ _ HW hG (lv_sub hl [2, 3, 4, 5, 0] rfl)
        · replace HW := HW.2 c_186
          refine lv_goto (tgt := 259) hx hb dX5_chooseBits_189 (by decide) ?_
          exact B259 K74 hK74 x1 x2 x3 h_183 g_183 _ _ _ HW hG (lv_sub hl [1, 2, 3, 4] rfl)
  have B156 : ∀ (K74 : Int32 → Int32 → Int32 → HI → HL → Prop) (hK74 : ∀ (x1 : Int32) (x2 : Int32) (x3 : Int32) (h : HI) (g : HL) (H : Heap) (locs : List Loc) (ls : Array Slot), K74 x1 x2 x3 h g → gG D cy ad (gA ad s.heap.size) s.heap h g H locs → lv_has ls 9 [(0, .ref (ad 118)), (1, .int x1), (2, .int x2), (3, .int x3)] → W p l e ({ frames := 1, cells := 0, slots := 0, locals := 23 } : Room) s m args below meth c H locs 0 0 (MQ below (va_Qv (fun (u : HI × HL) => Q u.1 u.2) (gB D cy ad s.heap.size) (gA ad s.heap.size)) args s 0 0 (gA ad s.heap.size)) (F0 m 74 ls [])) (x1 : Int32) (x2 : Int32) (x3 : Int32) (x6 : Int32) (h : HI) (g : HL) (H : Heap) (locs : List Loc) (ls : Array Slot), j_X5_chooseBits_156 Q K74 x1 x2 x3 x6 h g → gG D cy ad (gA ad s.heap.size) s.heap h g H locs → lv_has ls 9 [(0, .ref (ad 118)), (1, .int x1), (2, .int x2), (3, .int x3), (6, .int x6)] → W p l e ({ frames := 1, cells := 0, slots := 0, locals := 23 } : Room) s m args below meth c H locs 0 0 (MQ below (va_Qv (fun (u : HI × HL) => Q u.1 u.2) (gB D cy ad s.heap.size) (gA ad s.heap.size)) args s 0 0 (gA ad s.heap.size)) (F0 m 156 ls []) := by
    intro K74 hK74 x1 x2 x3 x6 h g H locs ls HW hG hl
    unfold j_X5_chooseBits_156 at HW
    refine lv_iconst (v := 0) hx hb dX5_chooseBits_156 (by decide) ?_
    exact B157 K74 hK74 x1 x2 x3 x6 (0 : Int32) h g _ _ _ HW hG (lv_sub hl [0, 1, 2, 3, 4] rfl)
  have B124 : ∀ (K74 : Int32 → Int32 → Int32 → HI → HL → Prop) (hK74 : ∀ (x1 : Int32) (x2 : Int32) (x3 : Int32) (h : HI) (g : HL) (H : Heap) (locs : List Loc) (ls : Array Slot), K74 x1 x2 x3 h g → gG D cy ad (gA ad s.heap.size) s.heap h g H locs → lv_has ls 9 [(0, .ref (ad 118)), (1, .int x1), (2, .int x2), (3, .int x3)] → W p l e ({ frames := 1, cells := 0, slots := 0, locals := 23 } : Room) s m args below meth c H locs 0 0 (MQ below (va_Qv (fun (u : HI × HL) => Q u.1 u.2) (gB D cy ad s.heap.size) (gA ad s.heap.size)) args s 0 0 (gA ad s.heap.size)) (F0 m 74 ls [])) (x1 : Int32) (x2 : Int32) (x3 : Int32) (x5 : Int32) (s0 : Int32) (h : HI) (g : HL) (H : Heap) (locs : List Loc) (ls : Array Slot), j_X5_chooseBits_124 Q K74 x1 x2 x3 x5 s0 h g → gG D cy ad (gA ad s.heap.size) s.heap h g H locs → lv_has ls 9 [(0, .ref (ad 118)), (1, .int x1), (2, .int x2), (3, .int x3), (5, .int x5)] → W p l e ({ frames := 1, cells := 0, slots := 0, locals := 23 } : Room) s m args below meth c H locs 0 0 (MQ below (va_Qv (fun (u : HI × HL) => Q u.1 u.2) (gB D cy ad s.heap.size) (gA ad s.heap.size)) args s 0 0 (gA ad s.heap.size)) (F0 m 124 ls [.int s0]) := by
    intro K74 hK74 x1 x2 x3 x5 s0 h g H locs ls HW hG hl
    unfold j_X5_chooseBits_124 at HW
    refine lv_istore (lv' := [(6, .int s0), (0, .ref (ad 118)), (1, .int x1), (2, .int x2), (3, .int x3), (5, .int x5)]) hx hb dX5_chooseBits_124 hl (by decide) rfl (fun ls hl => ?_)
    refine lv_iload_n hx hb dX5_chooseBits_126 rfl (lv_at hl 3 rfl) ?_
    refine lv_iload hx hb dX5_chooseBits_127 (lv_at hl 5 rfl) ?_
    refine lv_ishr hx hb dX5_chooseBits_129 ?_
    refine lv_iconst (v := 1) hx hb dX5_chooseBits_130 (by decide) ?_
    refine lv_iand hx hb dX5_chooseBits_131 ?_
    refine lv_iconst (v := 1) hx hb dX5_chooseBits_132 (by decide) ?_
    refine lv_icmp_ne (tgt := 156) hx hb dX5_chooseBits_133 (by decide) (fun c_133 => ?_) (fun c_133 => ?_)
    · replace HW := HW.1 c_133
      exact B156 K74 hK74 x1 x2 x3 s0 h g _ _ _ HW hG (lv_sub hl [1, 2, 3, 4, 0] rfl)
    · replace HW := HW.2 c_133
      refine lv_aload_n hx hb dX5_chooseBits_136 rfl (lv_at hl 1 rfl) ?_
      refine g_getr hx hb hw inG5 hown hK hG gl_118 rfl gk_118 (by decide) 0 (by decide) (by rw [gm_118]; decide) (r := 1) gr_118_0 lk35 dX5_chooseBits_137 ?_
      refine g_getr hx hb hw inG6 hown hK hG gl_1 rfl gk_1 (by decide) 10 (by decide) (by rw [gm_1]; decide) (r := 22) gr_1_10 lk95 dX5_chooseBits_140 ?_
      refine lv_iload hx hb dX5_chooseBits_143 (lv_at hl 5 rfl) ?_
      refine lv_iconst (v := 0) hx hb dX5_chooseBits_145 (by decide) ?_
      obtain ⟨P_146, HC_146, HW⟩ := HW
      refine g_calli (g_runV (As := [.int x5, .int (0 : Int32)]) (rest := []) ⟨hx, hb, hml, hown, hts⟩ (m_X8_at l D cy ad h g H.size 22 (gs_22) x5 (0 : Int32) P_146 HC_146) (cwV 2 hts (gd_V (wm4 161 rfl rfl) (wm2 221 rfl rfl) (wm2 222 rfl rfl) (wm1 3 rfl rfl) (wm2 223 rfl rfl)) rfl rfl rfl (by decide +kernel) ⟨Nat.le_of_ble_eq_true rfl, Nat.le_of_ble_eq_true rfl⟩) hK hNw hG gl_22 rfl gk_22 (by decide) rfl rfl hl.1 rfl (lv_room (Nat.le_of_ble_eq_true rfl)) dX5_chooseBits_146 ⟨Nat.zero_le _, Nat.zero_le _⟩) hG (fun r_146 h_146 g_146 H locs hq hG => ?_)
      replace HW := HW r_146 h_146 g_146 hq
      refine lv_if_le (tgt := 156) hx hb dX5_chooseBits_149 (by decide) (fun c_149 => ?_) (fun c_149 => ?_)
      · replace HW := HW.1 c_149
        exact B156 K74 hK74 x1 x2 x3 s0 h_146 g_146 _ _ _ HW hG (lv_sub hl [1, 2, 3, 4, 0] rfl)
      · replace HW := HW.2 c_149
        refine lv_iconst (v := 1) hx hb dX5_chooseBits_152 (by decide) ?_
        refine lv_goto (tgt := 157) hx hb dX5_chooseBits_153 (by decide) ?_
        exact B157 K74 hK74 x1 x2 x3 s0 (1 : Int32) h_146 g_146 _ _ _ HW hG (lv_sub hl [1, 2, 3, 4, 0] rfl)
  have B123 : ∀ (K74 : Int32 → Int32 → Int32 → HI → HL → Prop) (hK74 : ∀ (x1 : Int32) (x2 : Int32) (x3 : Int32) (h : HI) (g : HL) (H : Heap) (locs : List Loc) (ls : Array Slot), K74 x1 x2 x3 h g → gG D cy ad (gA ad s.heap.size) s.heap h g H locs → lv_has ls 9 [(0, .ref (ad 118)), (1, .int x1), (2, .int x2), (3, .int x3)] → W p l e ({ frames := 1, cells := 0, slots := 0, locals := 23 } : Room) s m args below meth c H locs 0 0 (MQ below (va_Qv (fun (u : HI × HL) => Q u.1 u.2) (gB D cy ad s.heap.size) (gA ad s.heap.size)) args s 0 0 (gA ad s.heap.size)) (F0 m 74 ls [])) (x1 : Int32) (x2 : Int32) (x3 : Int32) (x5 : Int32) (h : HI) (g : HL) (H : Heap) (locs : List Loc) (ls : Array Slot), j_X5_chooseBits_123 Q K74 x1 x2 x3 x5 h g → gG D cy ad (gA ad s.heap.size) s.heap h g H locs → lv_has ls 9 [(0, .ref (ad 118)), (1, .int x1), (2, .int x2), (3, .int x3), (5, .int x5)] → W p l e ({ frames := 1, cells := 0, slots := 0, locals := 23 } : Room) s m args below meth c H locs 0 0 (MQ below (va_Qv (fun (u : HI × HL) => Q u.1 u.2) (gB D cy ad s.heap.size) (gA ad s.heap.size)) args s 0 0 (gA ad s.heap.size)) (F0 m 123 ls []) := by
    intro K74 hK74 x1 x2 x3 x5 h g H locs ls HW hG hl
    unfold j_X5_chooseBits_123 at HW
    refine lv_iconst (v := 0) hx hb dX5_chooseBits_123 (by decide) ?_
    exact B124 K74 hK74 x1 x2 x3 x5 (0 : Int32) h g _ _ _ HW hG (lv_sub hl [0, 1, 2, 3, 4] rfl)
  have L74 : ∀ (n : Nat) (x1 : Int32) (x2 : Int32) (x3 : Int32) (h : HI) (g : HL) (H : Heap) (locs : List Loc) (ls : Array Slot), lpN (F_X5_chooseBits_74 Q) n (x1, x2, x3, h, g) → gG D cy ad (gA ad s.heap.size) s.heap h g H locs → lv_has ls 9 [(0, .ref (ad 118)), (1, .int x1), (2, .int x2), (3, .int x3)] → W p l e ({ frames := 1, cells := 0, slots := 0, locals := 23 } : Room) s m args below meth c H locs 0 0 (MQ below (va_Qv (fun (u : HI × HL) => Q u.1 u.2) (gB D cy ad s.heap.size) (gA ad s.heap.size)) args s 0 0 (gA ad s.heap.size)) (F0 m 74 ls []) := by
    intro n
    induction n with
    | zero => intro x1 x2 x3 h g H locs ls HW; exact HW.elim
    | succ n ih =>
      intro x1 x2 x3 h g H locs ls HW hG hl
      have HW : b_X5_chooseBits_74 Q (fun x1 x2 x3 h g => lpN (F_X5_chooseBits_74 Q) n (x1, x2, x3, h, g)) x1 x2 x3 h g := HW
      generalize hKe : (fun (x1 : Int32) (x2 : Int32) (x3 : Int32) (h : HI) (g : HL) => lpN (F_X5_chooseBits_74 Q) n (x1, x2, x3, h, g)) = K74 at HW
      have hK74 : ∀ (x1 : Int32) (x2 : Int32) (x3 : Int32) (h : HI) (g : HL) (H : Heap) (locs : List Loc) (ls : Array Slot), K74 x1 x2 x3 h g → gG D cy ad (gA ad s.heap.size) s.heap h g H locs → lv_has ls 9 [(0, .ref (ad 118)), (1, .int x1), (2, .int x2), (3, .int x3)] → W p l e ({ frames := 1, cells := 0, slots := 0, locals := 23 } : Room) s m args below meth c H locs 0 0 (MQ below (va_Qv (fun (u : HI × HL) => Q u.1 u.2) (gB D cy ad s.heap.size) (gA ad s.heap.size)) args s 0 0 (gA ad s.heap.size)) (F0 m 74 ls []) := by subst hKe; exact ih
      clear ih
      clear hKe
      unfold b_X5_chooseBits_74 at HW
      refine lv_iload_n hx hb dX5_chooseBits_74 rfl (lv_at hl 3 rfl) ?_
      refine lv_aload_n hx hb dX5_chooseBits_75 rfl (lv_at hl 0 rfl) ?_
      refine g_getr hx hb hw inG5 hown hK hG gl_118 rfl gk_118 (by decide) 3 (by decide) (by rw [gm_118]; decide) (r := 121) gr_118_3 lk18 dX5_chooseBits_76 ?_
      refine g_alen hx hb hK hG gl_121 gk_121 (v := (12 : Int32)) (by rw [gn_121]; decide) dX5_chooseBits_79 ?_
      refine lv_icmp_ge (tgt := 265) hx hb dX5_chooseBits_80 (by decide) (fun c_80 => ?_) (fun c_80 => ?_)
      · replace HW := HW.1 c_80
        exact W.vret hx hb hr (fun t ht hW => ⟨⟨(h, g), rfl, HW, g_B ht hG⟩, hG.2.2.F ht⟩) hG.2.2.2.2 dX5_chooseBits_265
      · replace HW := HW.2 c_80
        refine lv_iload_n hx hb dX5_chooseBits_83 rfl (lv_at hl 3 rfl) ?_
        refine lv_iconst (v := 4) hx hb dX5_chooseBits_84 (by decide) ?_
        refine lv_idiv hx hb dX5_chooseBits_85 (by decide) ?_
        refine lv_topi (fun x4_86 ex4_86 => ?_)
        replace HW := HW x4_86 ex4_86
        refine lv_istore (lv' := [(4, .int x4_86), (0, .ref (ad 118)), (1, .int x1), (2, .int x2), (3, .int x3)]) hx hb dX5_chooseBits_86 hl (by decide) rfl (fun ls hl => ?_)
        refine lv_iload_n hx hb dX5_chooseBits_88 rfl (lv_at hl 4 rfl) ?_
        refine lv_iconst (v := 4) hx hb dX5_chooseBits_89 (by decide) ?_
        refine lv_irem hx hb dX5_chooseBits_90 (by decide) ?_
        refine lv_topi (fun x5_91 ex5_91 => ?_)
        replace HW := HW x5_91 ex5_91
        refine lv_istore (lv' := [(5, .int x5_91), (4, .int x4_86), (0, .ref (ad 118)), (1, .int x1), (2, .int x2), (3, .int x3)]) hx hb dX5_chooseBits_91 hl (by decide) rfl (fun ls hl => ?_)
        refine lv_iload hx hb dX5_chooseBits_93 (lv_at hl 1 rfl) ?_
        refine lv_aload_n hx hb dX5_chooseBits_95 rfl (lv_at hl 2 rfl) ?_
        refine g_getr hx hb hw inG5 hown hK hG gl_118 rfl gk_118 (by decide) 0 (by decide) (by rw [gm_118]; decide) (r := 1) gr_118_0 lk35 dX5_chooseBits_96 ?_
        refine g_getr hx hb hw inG6 hown hK hG gl_1 rfl gk_1 (by decide) 9 (by decide) (by rw [gm_1]; decide) (r := 20) gr_1_9 lk76 dX5_chooseBits_99 ?_
        obtain ⟨P_102, HC_102, HW⟩ := HW
        refine g_calli (g_runV (As := []) (rest := [.int x4_86]) ⟨hx, hb, hml, hown, hts⟩ (m_X8_rows l D cy ad h g H.size 20 (gs_20) P_102 HC_102) (cwV 0 hts (gd_V (wm4 160 rfl rfl) (wm2 217 rfl rfl) (wm2 218 rfl rfl) (wm1 3 rfl rfl) (wm2 219 rfl rfl)) rfl rfl rfl (by decide +kernel) ⟨Nat.le_of_ble_eq_true rfl, Nat.le_of_ble_eq_true rfl⟩) hK hNw hG gl_20 rfl gk_20 (by decide) rfl rfl hl.1 rfl (lv_room (Nat.le_of_ble_eq_true rfl)) dX5_chooseBits_102 ⟨Nat.zero_le _, Nat.zero_le _⟩) hG (fun r_102 h_102 g_102 H locs hq hG => ?_)
        replace HW := HW r_102 h_102 g_102 hq
        refine lv_icmp_ge (tgt := 123) hx hb dX5_chooseBits_105 (by decide) (fun c_105 => ?_) (fun c_105 => ?_)
        · replace HW := HW.1 c_105
          exact B123 K74 hK74 x1 x2 x3 x5_91 h_102 g_102 _ _ _ HW hG (lv_sub hl [2, 3, 4, 5, 0] rfl)
        · replace HW := HW.2 c_105
          refine lv_iload_n hx hb dX5_chooseBits_108 rfl (lv_at hl 3 rfl) ?_
          refine lv_iload hx hb dX5_chooseBits_109 (lv_at hl 1 rfl) ?_
          refine lv_iload hx hb dX5_chooseBits_111 (lv_at hl 0 rfl) ?_
          obtain ⟨P_113, HC_113, HW⟩ := HW
          refine g_callz (g_runS (As := [.int x1, .int x4_86, .int x5_91]) (rest := []) ⟨hx, hb, hml, hown, hts⟩ (m_X5_knows l D cy ad h_102 g_102 H.size x1 x4_86 x5_91 P_113 HC_113) (va_cwS 3 hts (gd_S (wm4 162 rfl rfl) (wm4 163 rfl rfl) (wm1 12 rfl rfl) (wm4 164 rfl rfl)) rfl rfl rfl (by decide +kernel) ⟨Nat.le_of_ble_eq_true rfl, Nat.le_of_ble_eq_true rfl⟩) hK hNw hG rfl rfl hl.1 rfl (lv_room (Nat.le_of_ble_eq_true rfl)) dX5_chooseBits_113 ⟨Nat.zero_le _, Nat.zero_le _⟩) hG (fun r_113 h_113 g_113 H locs hz hq hG => ?_)
          replace HW := HW r_113 h_113 g_113 hz hq
          refine lv_if_ne (tgt := 123) hx hb dX5_chooseBits_116 (by decide) (fun c_116 => ?_) (fun c_116 => ?_)
          · replace HW := HW.1 c_116
            exact B123 K74 hK74 x1 x2 x3 x5_91 h_113 g_113 _ _ _ HW hG (lv_sub hl [2, 3, 4, 5, 0] rfl)
          · replace HW := HW.2 c_116
            refine lv_iconst (v := 1) hx hb dX5_chooseBits_119 (by decide) ?_
            refine lv_goto (tgt := 124) hx hb dX5_chooseBits_120 (by decide) ?_
            exact B124 K74 hK74 x1 x2 x3 x5_91 (1 : Int32) h_113 g_113 _ _ _ HW hG (lv_sub hl [2, 3, 4, 5, 0] rfl)
  have L6 : ∀ (n : Nat) (x1 : Int32) (x2 : Int32) (x3 : Int32) (h : HI) (g : HL) (H : Heap) (locs : List Loc) (ls : Array Slot), lpN (F_X5_chooseBits_6 Q) n (x1, x2, x3, h, g) → gG D cy ad (gA ad s.heap.size) s.heap h g H locs → lv_has ls 9 [(0, .ref (ad 118)), (1, .int x1), (2, .int x2), (3, .int x3)] → W p l e ({ frames := 1, cells := 0, slots := 0, locals := 23 } : Room) s m args below meth c H locs 0 0 (MQ below (va_Qv (fun (u : HI × HL) => Q u.1 u.2) (gB D cy ad s.heap.size) (gA ad s.heap.size)) args s 0 0 (gA ad s.heap.size)) (F0 m 6 ls []) := by
    intro n
    induction n with
    | zero => intro x1 x2 x3 h g H locs ls HW; exact HW.elim
    | succ n ih =>
      intro x1 x2 x3 h g H locs ls HW hG hl
      have HW : b_X5_chooseBits_6 Q (fun x1 x2 x3 h g => lpN (F_X5_chooseBits_6 Q) n (x1, x2, x3, h, g)) x1 x2 x3 h g := HW
      generalize hKe : (fun (x1 : Int32) (x2 : Int32) (x3 : Int32) (h : HI) (g : HL) => lpN (F_X5_chooseBits_6 Q) n (x1, x2, x3, h, g)) = K6 at HW
      have hK6 : ∀ (x1 : Int32) (x2 : Int32) (x3 : Int32) (h : HI) (g : HL) (H : Heap) (locs : List Loc) (ls : Array Slot), K6 x1 x2 x3 h g → gG D cy ad (gA ad s.heap.size) s.heap h g H locs → lv_has ls 9 [(0, .ref (ad 118)), (1, .int x1), (2, .int x2), (3, .int x3)] → W p l e ({ frames := 1, cells := 0, slots := 0, locals := 23 } : Room) s m args below meth c H locs 0 0 (MQ below (va_Qv (fun (u : HI × HL) => Q u.1 u.2) (gB D cy ad s.heap.size) (gA ad s.heap.size)) args s 0 0 (gA ad s.heap.size)) (F0 m 6 ls []) := by subst hKe; exact ih
      clear ih
      clear hKe
      unfold b_X5_chooseBits_6 at HW
      refine lv_iload_n hx hb dX5_chooseBits_6 rfl (lv_at hl 3 rfl) ?_
      refine lv_aload_n hx hb dX5_chooseBits_7 rfl (lv_at hl 0 rfl) ?_
      refine g_getr hx hb hw inG5 hown hK hG gl_118 rfl gk_118 (by decide) 0 (by decide) (by rw [gm_118]; decide) (r := 1) gr_118_0 lk35 dX5_chooseBits_8 ?_
      refine g_getr hx hb hw inG6 hown hK hG gl_1 rfl gk_1 (by decide) 9 (by decide) (by rw [gm_1]; decide) (r := 20) gr_1_9 lk76 dX5_chooseBits_11 ?_
      obtain ⟨P_14, HC_14, HW⟩ := HW
      refine g_calli (g_runV (As := []) (rest := [.int x3]) ⟨hx, hb, hml, hown, hts⟩ (m_X8_rows l D cy ad h g H.size 20 (gs_20) P_14 HC_14) (cwV 0 hts (gd_V (wm4 160 rfl rfl) (wm2 217 rfl rfl) (wm2 218 rfl rfl) (wm1 3 rfl rfl) (wm2 219 rfl rfl)) rfl rfl rfl (by decide +kernel) ⟨Nat.le_of_ble_eq_true rfl, Nat.le_of_ble_eq_true rfl⟩) hK hNw hG gl_20 rfl gk_20 (by decide) rfl rfl hl.1 rfl (lv_room (Nat.le_of_ble_eq_true rfl)) dX5_chooseBits_14 ⟨Nat.zero_le _, Nat.zero_le _⟩) hG (fun r_14 h_14 g_14 H locs hq hG => ?_)
      replace HW := HW r_14 h_14 g_14 hq
      refine lv_icmp_ge (tgt := 60) hx hb dX5_chooseBits_17 (by decide) (fun c_17 => ?_) (fun c_17 => ?_)
      · replace HW := HW.1 c_17
        refine lv_aload_n hx hb dX5_chooseBits_60 rfl (lv_at hl 0 rfl) ?_
        refine lv_iconst (v := 0) hx hb dX5_chooseBits_61 (by decide) ?_
        refine g_put hx hb hw inG5 tyX5 tyX5_ok nmX5 hown hK hG gl_118 rfl gk_118 (by decide) 9 (by decide) (by rw [gm_118]; decide) gr_118_9 rfl (ty := .int) (by decide +kernel) rfl rfl lk64 dX5_chooseBits_62 (fun H locs hG => ?_)
        obtain ⟨h_62, eh_62⟩ : ∃ y : HI, y = hu h_14 118 9 (0 : Int32) := ⟨_, rfl⟩
        rw [← eh_62] at hG
        replace HW := HW h_62 eh_62
        refine lv_aload_n hx hb dX5_chooseBits_65 rfl (lv_at hl 0 rfl) ?_
        refine g_getr hx hb hw inG5 hown hK hG gl_118 rfl gk_118 (by decide) 4 (by decide) (by rw [gm_118]; decide) (r := 122) gr_118_4 lk21 dX5_chooseBits_66 ?_
        refine lv_iconst (v := 0) hx hb dX5_chooseBits_69 (by decide) ?_
        refine lv_iload_n hx hb dX5_chooseBits_70 rfl (lv_at hl 1 rfl) ?_
        refine g_iast hx hb hK hG gl_122 gk_122 gn_122 HW.1 dX5_chooseBits_71 (fun H locs hG => ?_)
        replace HW := HW.2
        obtain ⟨h_71, eh_71⟩ : ∃ y : HI, y = hu h_62 122 (0 : Int32).toNatClampNeg x1 := ⟨_, rfl⟩
        rw [← eh_71] at hG
        replace HW := HW h_71 eh_71
        refine lv_iconst (v := 0) hx hb dX5_chooseBits_72 (by decide) ?_
        refine lv_istore_n (lv' := [(3, .int (0 : Int32)), (0, .ref (ad 118)), (1, .int x1), (2, .int x2)]) hx hb dX5_chooseBits_73 rfl hl (by decide) rfl (fun ls hl => ?_)
        obtain ⟨n_74, HW⟩ := HW
        exact L74 n_74 x1 x2 (0 : Int32) h_71 g_14 _ _ _ HW hG (lv_sub hl [1, 2, 3, 0] rfl)
      · replace HW := HW.2 c_17
        refine lv_iload_n hx hb dX5_chooseBits_20 rfl (lv_at hl 1 rfl) ?_
        refine lv_aload_n hx hb dX5_chooseBits_21 rfl (lv_at hl 0 rfl) ?_
        refine g_getr hx hb hw inG5 hown hK hG gl_118 rfl gk_118 (by decide) 0 (by decide) (by rw [gm_118]; decide) (r := 1) gr_118_0 lk35 dX5_chooseBits_22 ?_
        refine g_getr hx hb hw inG6 hown hK hG gl_1 rfl gk_1 (by decide) 9 (by decide) (by rw [gm_1]; decide) (r := 20) gr_1_9 lk76 dX5_chooseBits_25 ?_
        refine lv_iload_n hx hb dX5_chooseBits_28 rfl (lv_at hl 3 rfl) ?_
        refine lv_iconst (v := 0) hx hb dX5_chooseBits_29 (by decide) ?_
        obtain ⟨P_30, HC_30, HW⟩ := HW
        refine g_calli (g_runV (As := [.int x3, .int (0 : Int32)]) (rest := [.int x1]) ⟨hx, hb, hml, hown, hts⟩ (m_X8_at l D cy ad h_14 g_14 H.size 20 (gs_20) x3 (0 : Int32) P_30 HC_30) (cwV 2 hts (gd_V (wm4 161 rfl rfl) (wm2 221 rfl rfl) (wm2 222 rfl rfl) (wm1 3 rfl rfl) (wm2 223 rfl rfl)) rfl rfl rfl (by decide +kernel) ⟨Nat.le_of_ble_eq_true rfl, Nat.le_of_ble_eq_true rfl⟩) hK hNw hG gl_20 rfl gk_20 (by decide) rfl rfl hl.1 rfl (lv_room (Nat.le_of_ble_eq_true rfl)) dX5_chooseBits_30 ⟨Nat.zero_le _, Nat.zero_le _⟩) hG (fun r_30 h_30 g_30 H locs hq hG => ?_)
        replace HW := HW r_30 h_30 g_30 hq
        refine lv_iconst (v := 4) hx hb dX5_chooseBits_33 (by decide) ?_
        refine lv_iload_n hx hb dX5_chooseBits_34 rfl (lv_at hl 3 rfl) ?_
        refine lv_imul hx hb dX5_chooseBits_35 ?_
        refine lv_ishl hx hb dX5_chooseBits_36 ?_
        refine lv_ior hx hb dX5_chooseBits_37 ?_
        refine lv_topi (fun x1_38 ex1_38 => ?_)
        replace HW := HW x1_38 ex1_38
        refine lv_istore_n (lv' := [(1, .int x1_38), (0, .ref (ad 118)), (2, .int x2), (3, .int x3)]) hx hb dX5_chooseBits_38 rfl hl (by decide) rfl (fun ls hl => ?_)
        refine lv_iload_n hx hb dX5_chooseBits_39 rfl (lv_at hl 2 rfl) ?_
        refine lv_aload_n hx hb dX5_chooseBits_40 rfl (lv_at hl 1 rfl) ?_
        refine g_getr hx hb hw inG5 hown hK hG gl_118 rfl gk_118 (by decide) 0 (by decide) (by rw [gm_118]; decide) (r := 1) gr_118_0 lk35 dX5_chooseBits_41 ?_
        refine g_getr hx hb hw inG6 hown hK hG gl_1 rfl gk_1 (by decide) 9 (by decide) (by rw [gm_1]; decide) (r := 20) gr_1_9 lk76 dX5_chooseBits_44 ?_
        refine lv_iload_n hx hb dX5_chooseBits_47 rfl (lv_at hl 3 rfl) ?_
        refine lv_iconst (v := 0) hx hb dX5_chooseBits_48 (by decide) ?_
        obtain ⟨P_49, HC_49, HW⟩ := HW
        refine g_calli (g_runV (As := [.int x3, .int (0 : Int32)]) (rest := [.int x2]) ⟨hx, hb, hml, hown, hts⟩ (m_X8_at l D cy ad h_30 g_30 H.size 20 (gs_20) x3 (0 : Int32) P_49 HC_49) (cwV 2 hts (gd_V (wm4 161 rfl rfl) (wm2 221 rfl rfl) (wm2 222 rfl rfl) (wm1 3 rfl rfl) (wm2 223 rfl rfl)) rfl rfl rfl (by decide +kernel) ⟨Nat.le_of_ble_eq_true rfl, Nat.le_of_ble_eq_true rfl⟩) hK hNw hG gl_20 rfl gk_20 (by decide) rfl rfl hl.1 rfl (lv_room (Nat.le_of_ble_eq_true rfl)) dX5_chooseBits_49 ⟨Nat.zero_le _, Nat.zero_le _⟩) hG (fun r_49 h_49 g_49 H locs hq hG => ?_)
        replace HW := HW r_49 h_49 g_49 hq
        refine lv_ior hx hb dX5_chooseBits_52 ?_
        refine lv_topi (fun x2_53 ex2_53 => ?_)
        replace HW := HW x2_53 ex2_53
        refine lv_istore_n (lv' := [(2, .int x2_53), (1, .int x1_38), (0, .ref (ad 118)), (3, .int x3)]) hx hb dX5_chooseBits_53 rfl hl (by decide) rfl (fun ls hl => ?_)
        obtain ⟨x3_54, ex3_54⟩ : ∃ y : Int32, y = (x3 + 1) := ⟨_, rfl⟩
        replace HW := HW x3_54 ex3_54
        refine lv_iinc (v := x3_54) (lv' := [(3, .int x3_54), (2, .int x2_53), (1, .int x1_38), (0, .ref (ad 118))]) hx hb dX5_chooseBits_54 hl (k := 3) rfl (by rw [ex3_54]; rfl) (by decide) rfl (fun ls hl => ?_)
        refine lv_goto (tgt := 6) hx hb dX5_chooseBits_57 (by decide) ?_
        exact hK6 x1_38 x2_53 x3_54 h_49 g_49 _ _ _ HW hG (lv_sub hl [3, 2, 1, 0] rfl)
  have E0 : ∀ (H : Heap) (locs : List Loc) (ls : Array Slot), gG D cy ad (gA ad s.heap.size) s.heap h g H locs → lv_has ls 9 [(0, .ref (ad 118))] → W p l e ({ frames := 1, cells := 0, slots := 0, locals := 23 } : Room) s m args below meth c H locs 0 0 (MQ below (va_Qv (fun (u : HI × HL) => Q u.1 u.2) (gB D cy ad s.heap.size) (gA ad s.heap.size)) args s 0 0 (gA ad s.heap.size)) (F0 m 0 ls []) := by
    intro H locs ls hG hl
    unfold w_X5_chooseBits at HW
    refine lv_iconst (v := 0) hx hb dX5_chooseBits_0 (by decide) ?_
    refine lv_istore_n (lv' := [(1, .int (0 : Int32)), (0, .ref (ad 118))]) hx hb dX5_chooseBits_1 rfl hl (by decide) rfl (fun ls hl => ?_)
    refine lv_iconst (v := 0) hx hb dX5_chooseBits_2 (by decide) ?_
    refine lv_istore_n (lv' := [(2, .int (0 : Int32)), (1, .int (0 : Int32)), (0, .ref (ad 118))]) hx hb dX5_chooseBits_3 rfl hl (by decide) rfl (fun ls hl => ?_)
    refine lv_iconst (v := 0) hx hb dX5_chooseBits_4 (by decide) ?_
    refine lv_istore_n (lv' := [(3, .int (0 : Int32)), (2, .int (0 : Int32)), (1, .int (0 : Int32)), (0, .ref (ad 118))]) hx hb dX5_chooseBits_5 rfl hl (by decide) rfl (fun ls hl => ?_)
    obtain ⟨n_6, HW⟩ := HW
    exact L6 n_6 (0 : Int32) (0 : Int32) (0 : Int32) h g _ _ _ HW hG (lv_sub hl [3, 2, 1, 0] rfl)
  exact E0 _ _ _ hG hl

def j_X5_chooseLessons_129 (Q : HI → HL → Prop) (K7 : Int32 → HI → HL → Prop) (x1 : Int32) (h : HI) (g : HL) : Prop :=
  (∀ x1_129 : Int32, x1_129 = (x1 + 1) → K7 x1_129 h g)
def b_X5_chooseLessons_7 (Q : HI → HL → Prop) (K7 : Int32 → HI → HL → Prop) (x1 : Int32) (h : HI) (g : HL) : Prop :=
  (((47 : Int32) < x1 → Q h g) ∧ (¬ (47 : Int32) < x1 → (∀ x2_16 : Int32, x2_16 = (x1 >>> ((4 : Int32) &&& 31)) → (∀ x3_20 : Int32, x3_20 = (x1 &&& (3 : Int32)) → (∀ x4_30 : Int32, x4_30 = (((4 : Int32) * x3_20) + ((x1 >>> ((2 : Int32) &&& 31)) &&& (3 : Int32))) → ((x2_16 = x3_20 → j_X5_chooseLessons_129 Q K7 x1 h g) ∧ (¬ x2_16 = x3_20 → (∃ P_45 : Int32 → HI → HL → Prop, w_X8_has 20 x2_16 h g P_45 ∧ ∀ (r_45 : Int32) (h_45 : HI) (g_45 : HL), zb r_45 → P_45 r_45 h_45 g_45 → ((r_45 = 0 → j_X5_chooseLessons_129 Q K7 x1 h_45 g_45) ∧ (¬ r_45 = 0 → (∃ P_61 : Int32 → HI → HL → Prop, w_X10_within x4_30 (0 : Int32) ((12 : Int32) - (1 : Int32)) h_45 g_45 P_61 ∧ ∀ (r_61 : Int32) (h_61 : HI) (g_61 : HL), zb r_61 → P_61 r_61 h_61 g_61 → ((¬ r_61 = 0 → (vp_in x4_30 12 ∧ (((h_61 121 x4_30.toNatClampNeg) = 0 → j_X5_chooseLessons_129 Q K7 x1 h_61 g_61) ∧ (¬ (h_61 121 x4_30.toNatClampNeg) = 0 → (∃ P_87 : Int32 → HI → HL → Prop, w_X10_within (h_61 118 8) (0 : Int32) (15 : Int32) h_61 g_61 P_87 ∧ ∀ (r_87 : Int32) (h_87 : HI) (g_87 : HL), zb r_87 → P_87 r_87 h_87 g_87 → ((r_87 = 0 → j_X5_chooseLessons_129 Q K7 x1 h_87 g_87) ∧ (¬ r_87 = 0 → (vp_in (h_87 118 8) 16 ∧ ∀ h_102 : HI, h_102 = hu h_87 119 (h_87 118 8).toNatClampNeg x1 → (vp_in x4_30 12 ∧ (vp_in (h_102 118 8) 16 ∧ ∀ h_118 : HI, h_118 = hu h_102 120 (h_102 118 8).toNatClampNeg (h_102 121 x4_30.toNatClampNeg) → (∀ h_126 : HI, h_126 = hu h_118 118 8 ((h_118 118 8) + (1 : Int32)) → j_X5_chooseLessons_129 Q K7 x1 h_126 g_87))))))))))) ∧ (r_61 = 0 → j_X5_chooseLessons_129 Q K7 x1 h_61 g_61)))))))))))))
def F_X5_chooseLessons_7 (Q : HI → HL → Prop) (K : Int32 × HI × HL → Prop) (q : Int32 × HI × HL) : Prop := b_X5_chooseLessons_7 Q (fun x1 h g => K (x1, h, g)) q.1 q.2.1 q.2.2
def w_X5_chooseLessons  (h : HI) (g : HL) (Q : HI → HL → Prop) : Prop :=
  (∀ h_2 : HI, h_2 = hu h 118 8 (0 : Int32) → lpE (F_X5_chooseLessons_7 Q) ((0 : Int32), h_2, g))
set_option maxHeartbeats 8000000 in
set_option maxRecDepth 100000 in
theorem m_X5_chooseLessons (l : Launch) (D : va_G) (cy : Nat → ClassId) (ad : Nat → Nat) (h : HI) (g : HL) (sz : Nat)  (Q : HI → HL → Prop) (HW : w_X5_chooseLessons h g Q) : Met l yX5_chooseLessons (wa yX5_chooseLessons cX5_chooseLessons 5 none) ({ frames := 1, cells := 0, slots := 0, locals := 22 }) (va_Pc [.ref (ad 118)] (gI D cy ad h g sz)) (va_Qv (fun (u : HI × HL) => Q u.1 u.2) (gB D cy ad sz) (gA ad sz)) 0 0 (gA ad sz) := by
  refine Met.ofW (cc := cX5_chooseLessons) (maxL := 5) (ret := none) (by decide) rfl ?_
  intro p e s m args below meth c s₁ B hml hv
  obtain ⟨hav, hsz, hP, hK, hD0, hNw⟩ := hv
  have hx := B.exec
  have hb := B.bytes
  have hr := B.returns
  have hts := atoms_spec (ws := (wa yX5_chooseLessons cX5_chooseLessons 5 none)) B.pre
  have hw := wa_hw hts
  have hown : s.vm.findClass RX5 = some m.cls := findClass_of_methodNamed B.named
  have hlocks := B.notSynchronized
  subst hsz
  have hG : gG D cy ad (gA ad s.heap.size) s.heap h g s.heap [] := ⟨hP, gA_self hD0, va_S.rf⟩
  clear hP hD0
  have lk101 := hw (.fieldLink RX5 101 "OldWorks$Plans" "many" "I") (wm2 129 rfl rfl)
  have lk35 := hw (.fieldLink RX5 35 "OldWorks$Plans" "shop" "LOldWorks$Shop;") (wm2 121 rfl rfl)
  have lk76 := hw (.fieldLink RX5 76 "OldWorks$Shop" "hands" "LOldWorks$Table;") (wm1 90 rfl rfl)
  have lk18 := hw (.fieldLink RX5 18 "OldWorks$Plans" "bits" "[I") (wm2 124 rfl rfl)
  have lk11 := hw (.fieldLink RX5 11 "OldWorks$Plans" "lessons" "[I") (wm2 122 rfl rfl)
  have lk15 := hw (.fieldLink RX5 15 "OldWorks$Plans" "learns" "[I") (wm2 123 rfl rfl)
  rw [show (headSpec (wa yX5_chooseLessons cX5_chooseLessons 5 none) ({ frames := 1, cells := 0, slots := 0, locals := 22 } : Room)).room = ({ frames := 1, cells := 0, slots := 0, locals := 22 } : Room) from rfl]
  have hl := lv_entry ([.ref (ad 118)]) (n := 5) (Nat.le_of_ble_eq_true rfl)
  rw [show entryFrame m args 5 = entryFrame m ([.ref (ad 118)] : List Value).toArray 5 from by rw [hav], lg_entry_eq]
  generalize (lg_sl ([.ref (ad 118)]) ++ List.replicate (5 - (lg_sl ([.ref (ad 118)])).length) Slot.unset).toArray = ls at hl ⊢
  have hl : lv_has ls 5 [(0, .ref (ad 118))] := hl
  have B129 : ∀ (K7 : Int32 → HI → HL → Prop) (hK7 : ∀ (x1 : Int32) (h : HI) (g : HL) (H : Heap) (locs : List Loc) (ls : Array Slot), K7 x1 h g → gG D cy ad (gA ad s.heap.size) s.heap h g H locs → lv_has ls 5 [(0, .ref (ad 118)), (1, .int x1)] → W p l e ({ frames := 1, cells := 0, slots := 0, locals := 22 } : Room) s m args below meth c H locs 0 0 (MQ below (va_Qv (fun (u : HI × HL) => Q u.1 u.2) (gB D cy ad s.heap.size) (gA ad s.heap.size)) args s 0 0 (gA ad s.heap.size)) (F0 m 7 ls [])) (x1 : Int32) (h : HI) (g : HL) (H : Heap) (locs : List Loc) (ls : Array Slot), j_X5_chooseLessons_129 Q K7 x1 h g → gG D cy ad (gA ad s.heap.size) s.heap h g H locs → lv_has ls 5 [(0, .ref (ad 118)), (1, .int x1)] → W p l e ({ frames := 1, cells := 0, slots := 0, locals := 22 } : Room) s m args below meth c H locs 0 0 (MQ below (va_Qv (fun (u : HI × HL) => Q u.1 u.2) (gB D cy ad s.heap.size) (gA ad s.heap.size)) args s 0 0 (gA ad s.heap.size)) (F0 m 129 ls []) := by
    intro K7 hK7 x1 h g H locs ls HW hG hl
    unfold j_X5_chooseLessons_129 at HW
    obtain ⟨x1_129, ex1_129⟩ : ∃ y : Int32, y = (x1 + 1) := ⟨_, rfl⟩
    replace HW := HW x1_129 ex1_129
    refine lv_iinc (v := x1_129) (lv' := [(1, .int x1_129), (0, .ref (ad 118))]) hx hb dX5_chooseLessons_129 hl (k := 1) rfl (by rw [ex1_129]; rfl) (by decide) rfl (fun ls hl => ?_)
    refine lv_goto (tgt := 7) hx hb dX5_chooseLessons_132 (by decide) ?_
    exact hK7 x1_129 h g _ _ _ HW hG (lv_sub hl [1, 0] rfl)
  have L7 : ∀ (n : Nat) (x1 : Int32) (h : HI) (g : HL) (H : Heap) (locs : List Loc) (ls : Array Slot), lpN (F_X5_chooseLessons_7 Q) n (x1, h, g) → gG D cy ad (gA ad s.heap.size) s.heap h g H locs → lv_has ls 5 [(0, .ref (ad 118)), (1, .int x1)] → W p l e ({ frames := 1, cells := 0, slots := 0, locals := 22 } : Room) s m args below meth c H locs 0 0 (MQ below (va_Qv (fun (u : HI × HL) => Q u.1 u.2) (gB D cy ad s.heap.size) (gA ad s.heap.size)) args s 0 0 (gA ad s.heap.size)) (F0 m 7 ls []) := by
    intro n
    induction n with
    | zero => intro x1 h g H locs ls HW; exact HW.elim
    | succ n ih =>
      intro x1 h g H locs ls HW hG hl
      have HW : b_X5_chooseLessons_7 Q (fun x1 h g => lpN (F_X5_chooseLessons_7 Q) n (x1, h, g)) x1 h g := HW
      generalize hKe : (fun (x1 : Int32) (h : HI) (g : HL) => lpN (F_X5_chooseLessons_7 Q) n (x1, h, g)) = K7 at HW
      have hK7 : ∀ (x1 : Int32) (h : HI) (g : HL) (H : Heap) (locs : List Loc) (ls : Array Slot), K7 x1 h g → gG D cy ad (gA ad s.heap.size) s.heap h g H locs → lv_has ls 5 [(0, .ref (ad 118)), (1, .int x1)] → W p l e ({ frames := 1, cells := 0, slots := 0, locals := 22 } : Room) s m args below meth c H locs 0 0 (MQ below (va_Qv (fun (u : HI × HL) => Q u.1 u.2) (gB D cy ad s.heap.size) (gA ad s.heap.size)) args s 0 0 (gA ad s.heap.size)) (F0 m 7 ls []) := by subst hKe; exact ih
      clear ih
      clear hKe
      unfold b_X5_chooseLessons_7 at HW
      refine lv_iload_n hx hb dX5_chooseLessons_7 rfl (lv_at hl 1 rfl) ?_
      refine lv_bipush (v := 47) hx hb dX5_chooseLessons_8 (by decide) ?_
      refine lv_icmp_gt (tgt := 135) hx hb dX5_chooseLessons_10 (by decide) (fun c_10 => ?_) (fun c_10 => ?_)
      · replace HW := HW.1 c_10
        exact W.vret hx hb hr (fun t ht hW => ⟨⟨(h, g), rfl, HW, g_B ht hG⟩, hG.2.2.F ht⟩) hG.2.2.2.2 dX5_chooseLessons_135
      · replace HW := HW.2 c_10
        refine lv_iload_n hx hb dX5_chooseLessons_13 rfl (lv_at hl 1 rfl) ?_
        refine lv_iconst (v := 4) hx hb dX5_chooseLessons_14 (by decide) ?_
        refine lv_ishr hx hb dX5_chooseLessons_15 ?_
        refine lv_topi (fun x2_16 ex2_16 => ?_)
        replace HW := HW x2_16 ex2_16
        refine lv_istore_n (lv' := [(2, .int x2_16), (0, .ref (ad 118)), (1, .int x1)]) hx hb dX5_chooseLessons_16 rfl hl (by decide) rfl (fun ls hl => ?_)
        refine lv_iload_n hx hb dX5_chooseLessons_17 rfl (lv_at hl 2 rfl) ?_
        refine lv_iconst (v := 3) hx hb dX5_chooseLessons_18 (by decide) ?_
        refine lv_iand hx hb dX5_chooseLessons_19 ?_
        refine lv_topi (fun x3_20 ex3_20 => ?_)
        replace HW := HW x3_20 ex3_20
        refine lv_istore_n (lv' := [(3, .int x3_20), (2, .int x2_16), (0, .ref (ad 118)), (1, .int x1)]) hx hb dX5_chooseLessons_20 rfl hl (by decide) rfl (fun ls hl => ?_)
        refine lv_iconst (v := 4) hx hb dX5_chooseLessons_21 (by decide) ?_
        refine lv_iload_n hx hb dX5_chooseLessons_22 rfl (lv_at hl 0 rfl) ?_
        refine lv_imul hx hb dX5_chooseLessons_23 ?_
        refine lv_iload_n hx hb dX5_chooseLessons_24 rfl (lv_at hl 3 rfl) ?_
        refine lv_iconst (v := 2) hx hb dX5_chooseLessons_25 (by decide) ?_
        refine lv_ishr hx hb dX5_chooseLessons_26 ?_
        refine lv_iconst (v := 3) hx hb dX5_chooseLessons_27 (by decide) ?_
        refine lv_iand hx hb dX5_chooseLessons_28 ?_
        refine lv_iadd hx hb dX5_chooseLessons_29 ?_
        refine lv_topi (fun x4_30 ex4_30 => ?_)
        replace HW := HW x4_30 ex4_30
        refine lv_istore (lv' := [(4, .int x4_30), (3, .int x3_20), (2, .int x2_16), (0, .ref (ad 118)), (1, .int x1)]) hx hb dX5_chooseLessons_30 hl (by decide) rfl (fun ls hl => ?_)
        refine lv_iload_n hx hb dX5_chooseLessons_32 rfl (lv_at hl 2 rfl) ?_
        refine lv_iload_n hx hb dX5_chooseLessons_33 rfl (lv_at hl 1 rfl) ?_
        refine lv_icmp_eq (tgt := 129) hx hb dX5_chooseLessons_34 (by decide) (fun c_34 => ?_) (fun c_34 => ?_)
        · replace HW := HW.1 c_34
          exact B129 K7 hK7 x1 h g _ _ _ HW hG (lv_sub hl [3, 4] rfl)
        · replace HW := HW.2 c_34
          refine lv_aload_n hx hb dX5_chooseLessons_37 rfl (lv_at hl 3 rfl) ?_
          refine g_getr hx hb hw inG5 hown hK hG gl_118 rfl gk_118 (by decide) 0 (by decide) (by rw [gm_118]; decide) (r := 1) gr_118_0 lk35 dX5_chooseLessons_38 ?_
          refine g_getr hx hb hw inG6 hown hK hG gl_1 rfl gk_1 (by decide) 9 (by decide) (by rw [gm_1]; decide) (r := 20) gr_1_9 lk76 dX5_chooseLessons_41 ?_
          refine lv_iload_n hx hb dX5_chooseLessons_44 rfl (lv_at hl 2 rfl) ?_
          obtain ⟨P_45, HC_45, HW⟩ := HW
          refine g_callz (g_runV (As := [.int x2_16]) (rest := []) ⟨hx, hb, hml, hown, hts⟩ (m_X8_has l D cy ad h g H.size 20 (gs_20) x2_16 P_45 HC_45) (cwV 1 hts (gd_V (wm4 170 rfl rfl) (wm2 202 rfl rfl) (wm2 203 rfl rfl) (wm1 3 rfl rfl) (wm2 204 rfl rfl)) rfl rfl rfl (by decide +kernel) ⟨Nat.le_of_ble_eq_true rfl, Nat.le_of_ble_eq_true rfl⟩) hK hNw hG gl_20 rfl gk_20 (by decide) rfl rfl hl.1 rfl (lv_room (Nat.le_of_ble_eq_true rfl)) dX5_chooseLessons_45 ⟨Nat.zero_le _, Nat.zero_le _⟩) hG (fun r_45 h_45 g_45 H locs hz hq hG => ?_)
          replace HW := HW r_45 h_45 g_45 hz hq
          refine lv_if_eq (tgt := 129) hx hb dX5_chooseLessons_48 (by decide) (fun c_48 => ?_) (fun c_48 => ?_)
          · replace HW := HW.1 c_48
            exact B129 K7 hK7 x1 h_45 g_45 _ _ _ HW hG (lv_sub hl [3, 4] rfl)
          · replace HW := HW.2 c_48
            refine lv_iload hx hb dX5_chooseLessons_51 (lv_at hl 0 rfl) ?_
            refine lv_iconst (v := 0) hx hb dX5_chooseLessons_53 (by decide) ?_
            refine lv_aload_n hx hb dX5_chooseLessons_54 rfl (lv_at hl 3 rfl) ?_
            refine g_getr hx hb hw inG5 hown hK hG gl_118 rfl gk_118 (by decide) 3 (by decide) (by rw [gm_118]; decide) (r := 121) gr_118_3 lk18 dX5_chooseLessons_55 ?_
            refine g_alen hx hb hK hG gl_121 gk_121 (v := (12 : Int32)) (by rw [gn_121]; decide) dX5_chooseLessons_58 ?_
            refine lv_iconst (v := 1) hx hb dX5_chooseLessons_59 (by decide) ?_
            refine lv_isub hx hb dX5_chooseLessons_60 ?_
            obtain ⟨P_61, HC_61, HW⟩ := HW
            refine g_callz (g_runSN (As := [.int x4_30, .int (0 : Int32), .int ((12 : Int32) - (1 : Int32))]) (rest := []) ⟨hx, hb, hml, hown, hts⟩ (m_X10_within l D cy ad h_45 g_45 H.size x4_30 (0 : Int32) ((12 : Int32) - (1 : Int32)) P_61 HC_61) ⟨va_cnB 3 hts (gd_w (wm2 195 rfl rfl)) rfl rfl rfl (hNw _ (List.mem_of_getElem? (i := 4) rfl)) (hw (.initialized RX10) (wm1 1 rfl rfl)) (by decide +kernel) ⟨Nat.le_of_ble_eq_true rfl, Nat.le_of_ble_eq_true rfl⟩, hw (.static yX10_within) (wm2 194 rfl rfl), trivial⟩ hK hNw hG rfl rfl hl.1 rfl (lv_room (Nat.le_of_ble_eq_true rfl)) dX5_chooseLessons_61 ⟨Nat.zero_le _, Nat.zero_le _⟩) hG (fun r_61 h_61 g_61 H locs hz hq hG => ?_)
            replace HW := HW r_61 h_61 g_61 hz hq
            refine lv_if_ne (tgt := 70) hx hb dX5_chooseLessons_64 (by decide) (fun c_64 => ?_) (fun c_64 => ?_)
            · replace HW := HW.1 c_64
              refine lv_aload_n hx hb dX5_chooseLessons_70 rfl (lv_at hl 3 rfl) ?_
              refine g_getr hx hb hw inG5 hown hK hG gl_118 rfl gk_118 (by decide) 3 (by decide) (by rw [gm_118]; decide) (r := 121) gr_118_3 lk18 dX5_chooseLessons_71 ?_
              refine lv_iload hx hb dX5_chooseLessons_74 (lv_at hl 0 rfl) ?_
              refine g_iald hx hb hK hG gl_121 gk_121 gn_121 HW.1 dX5_chooseLessons_76 ?_
              replace HW := HW.2
              refine lv_if_eq (tgt := 129) hx hb dX5_chooseLessons_77 (by decide) (fun c_77 => ?_) (fun c_77 => ?_)
              · replace HW := HW.1 c_77
                exact B129 K7 hK7 x1 h_61 g_61 _ _ _ HW hG (lv_sub hl [3, 4] rfl)
              · replace HW := HW.2 c_77
                refine lv_aload_n hx hb dX5_chooseLessons_80 rfl (lv_at hl 3 rfl) ?_
                refine g_geti hx hb hw inG5 hown hK hG gl_118 rfl gk_118 (by decide) 8 (by decide) (by rw [gm_118]; decide) gr_118_8 lk101 dX5_chooseLessons_81 ?_
                refine lv_iconst (v := 0) hx hb dX5_chooseLessons_84 (by decide) ?_
                refine lv_bipush (v := 15) hx hb dX5_chooseLessons_85 (by decide) ?_
                obtain ⟨P_87, HC_87, HW⟩ := HW
                refine g_callz (g_runSN (As := [.int (h_61 118 8), .int (0 : Int32), .int (15 : Int32)]) (rest := []) ⟨hx, hb, hml, hown, hts⟩ (m_X10_within l D cy ad h_61 g_61 H.size (h_61 118 8) (0 : Int32) (15 : Int32) P_87 HC_87) ⟨va_cnB 3 hts (gd_w (wm2 195 rfl rfl)) rfl rfl rfl (hNw _ (List.mem_of_getElem? (i := 4) rfl)) (hw (.initialized RX10) (wm1 1 rfl rfl)) (by decide +kernel) ⟨Nat.le_of_ble_eq_true rfl, Nat.le_of_ble_eq_true rfl⟩, hw (.static yX10_within) (wm2 194 rfl rfl), trivial⟩ hK hNw hG rfl rfl hl.1 rfl (lv_room (Nat.le_of_ble_eq_true rfl)) dX5_chooseLessons_87 ⟨Nat.zero_le _, Nat.zero_le _⟩) hG (fun r_87 h_87 g_87 H locs hz hq hG => ?_)
                replace HW := HW r_87 h_87 g_87 hz hq
                refine lv_if_eq (tgt := 129) hx hb dX5_chooseLessons_90 (by decide) (fun c_90 => ?_) (fun c_90 => ?_)
                · replace HW := HW.1 c_90
                  exact B129 K7 hK7 x1 h_87 g_87 _ _ _ HW hG (lv_sub hl [3, 4] rfl)
                · replace HW := HW.2 c_90
                  refine lv_aload_n hx hb dX5_chooseLessons_93 rfl (lv_at hl 3 rfl) ?_
                  refine g_getr hx hb hw inG5 hown hK hG gl_118 rfl gk_118 (by decide) 1 (by decide) (by rw [gm_118]; decide) (r := 119) gr_118_1 lk11 dX5_chooseLessons_94 ?_
                  refine lv_aload_n hx hb dX5_chooseLessons_97 rfl (lv_at hl 3 rfl) ?_
                  refine g_geti hx hb hw inG5 hown hK hG gl_118 rfl gk_118 (by decide) 8 (by decide) (by rw [gm_118]; decide) gr_118_8 lk101 dX5_chooseLessons_98 ?_
                  refine lv_iload_n hx hb dX5_chooseLessons_101 rfl (lv_at hl 4 rfl) ?_
                  refine g_iast hx hb hK hG gl_119 gk_119 gn_119 HW.1 dX5_chooseLessons_102 (fun H locs hG => ?_)
                  replace HW := HW.2
                  obtain ⟨h_102, eh_102⟩ : ∃ y : HI, y = hu h_87 119 (h_87 118 8).toNatClampNeg x1 := ⟨_, rfl⟩
                  rw [← eh_102] at hG
                  replace HW := HW h_102 eh_102
                  refine lv_aload_n hx hb dX5_chooseLessons_103 rfl (lv_at hl 3 rfl) ?_
                  refine g_getr hx hb hw inG5 hown hK hG gl_118 rfl gk_118 (by decide) 2 (by decide) (by rw [gm_118]; decide) (r := 120) gr_118_2 lk15 dX5_chooseLessons_104 ?_
                  refine lv_aload_n hx hb dX5_chooseLessons_107 rfl (lv_at hl 3 rfl) ?_
                  refine g_geti hx hb hw inG5 hown hK hG gl_118 rfl gk_118 (by decide) 8 (by decide) (by rw [gm_118]; decide) gr_118_8 lk101 dX5_chooseLessons_108 ?_
                  refine lv_aload_n hx hb dX5_chooseLessons_111 rfl (lv_at hl 3 rfl) ?_
                  refine g_getr hx hb hw inG5 hown hK hG gl_118 rfl gk_118 (by decide) 3 (by decide) (by rw [gm_118]; decide) (r := 121) gr_118_3 lk18 dX5_chooseLessons_112 ?_
                  refine lv_iload hx hb dX5_chooseLessons_115 (lv_at hl 0 rfl) ?_
                  refine g_iald hx hb hK hG gl_121 gk_121 gn_121 HW.1 dX5_chooseLessons_117 ?_
                  replace HW := HW.2
                  refine g_iast hx hb hK hG gl_120 gk_120 gn_120 HW.1 dX5_chooseLessons_118 (fun H locs hG => ?_)
                  replace HW := HW.2
                  obtain ⟨h_118, eh_118⟩ : ∃ y : HI, y = hu h_102 120 (h_102 118 8).toNatClampNeg (h_102 121 x4_30.toNatClampNeg) := ⟨_, rfl⟩
                  rw [← eh_118] at hG
                  replace HW := HW h_118 eh_118
                  refine lv_aload_n hx hb dX5_chooseLessons_119 rfl (lv_at hl 3 rfl) ?_
                  refine lv_dup hx hb dX5_chooseLessons_120 rfl ?_
                  refine g_geti hx hb hw inG5 hown hK hG gl_118 rfl gk_118 (by decide) 8 (by decide) (by rw [gm_118]; decide) gr_118_8 lk101 dX5_chooseLessons_121 ?_
                  refine lv_iconst (v := 1) hx hb dX5_chooseLessons_124 (by decide) ?_
                  refine lv_iadd hx hb dX5_chooseLessons_125 ?_
                  refine g_put hx hb hw inG5 tyX5 tyX5_ok nmX5 hown hK hG gl_118 rfl gk_118 (by decide) 8 (by decide) (by rw [gm_118]; decide) gr_118_8 rfl (ty := .int) (by decide +kernel) rfl rfl lk101 dX5_chooseLessons_126 (fun H locs hG => ?_)
                  obtain ⟨h_126, eh_126⟩ : ∃ y : HI, y = hu h_118 118 8 ((h_118 118 8) + (1 : Int32)) := ⟨_, rfl⟩
                  rw [← eh_126] at hG
                  replace HW := HW h_126 eh_126
                  exact B129 K7 hK7 x1 h_126 g_87 _ _ _ HW hG (lv_sub hl [3, 4] rfl)
            · replace HW := HW.2 c_64
              refine lv_goto (tgt := 129) hx hb dX5_chooseLessons_67 (by decide) ?_
              exact B129 K7 hK7 x1 h_61 g_61 _ _ _ HW hG (lv_sub hl [3, 4] rfl)
  have E0 : ∀ (H : Heap) (locs : List Loc) (ls : Array Slot), gG D cy ad (gA ad s.heap.size) s.heap h g H locs → lv_has ls 5 [(0, .ref (ad 118))] → W p l e ({ frames := 1, cells := 0, slots := 0, locals := 22 } : Room) s m args below meth c H locs 0 0 (MQ below (va_Qv (fun (u : HI × HL) => Q u.1 u.2) (gB D cy ad s.heap.size) (gA ad s.heap.size)) args s 0 0 (gA ad s.heap.size)) (F0 m 0 ls []) := by
    intro H locs ls hG hl
    unfold w_X5_chooseLessons at HW
    refine lv_aload_n hx hb dX5_chooseLessons_0 rfl (lv_at hl 0 rfl) ?_
    refine lv_iconst (v := 0) hx hb dX5_chooseLessons_1 (by decide) ?_
    refine g_put hx hb hw inG5 tyX5 tyX5_ok nmX5 hown hK hG gl_118 rfl gk_118 (by decide) 8 (by decide) (by rw [gm_118]; decide) gr_118_8 rfl (ty := .int) (by decide +kernel) rfl rfl lk101 dX5_chooseLessons_2 (fun H locs hG => ?_)
    obtain ⟨h_2, eh_2⟩ : ∃ y : HI, y = hu h 118 8 (0 : Int32) := ⟨_, rfl⟩
    rw [← eh_2] at hG
    replace HW := HW h_2 eh_2
    refine lv_iconst (v := 0) hx hb dX5_chooseLessons_5 (by decide) ?_
    refine lv_istore_n (lv' := [(1, .int (0 : Int32)), (0, .ref (ad 118))]) hx hb dX5_chooseLessons_6 rfl hl (by decide) rfl (fun ls hl => ?_)
    obtain ⟨n_7, HW⟩ := HW
    exact L7 n_7 (0 : Int32) h_2 g _ _ _ HW hG (lv_sub hl [1, 0] rfl)
  exact E0 _ _ _ hG hl

def j_X5_chooseRuns_52 (Q : HI → HL → Prop) (K2 : Int32 → HI → HL → Prop) (K17 : Int32 → Int32 → HI → HL → Prop) (x1 : Int32) (x2 : Int32) (h : HI) (g : HL) : Prop :=
  (∀ x2_52 : Int32, x2_52 = (x2 + 1) → K17 x1 x2_52 h g)
def b_X5_chooseRuns_17 (Q : HI → HL → Prop) (K2 : Int32 → HI → HL → Prop) (K17 : Int32 → Int32 → HI → HL → Prop) (x1 : Int32) (x2 : Int32) (h : HI) (g : HL) : Prop :=
  (((4 : Int32) ≤ x2 → (∀ x1_58 : Int32, x1_58 = (x1 + 1) → K2 x1_58 h g)) ∧ (¬ (4 : Int32) ≤ x2 → ((¬ ((x1 >>> (x2 &&& 31)) &&& (1 : Int32)) = (1 : Int32) → j_X5_chooseRuns_52 Q K2 K17 x1 x2 h g) ∧ (((x1 >>> (x2 &&& 31)) &&& (1 : Int32)) = (1 : Int32) → (vp_in x1 16 ∧ (∃ P_47 : Int32 → HI → HL → Prop, w_X8_at 22 x2 (0 : Int32) h g P_47 ∧ ∀ (r_47 : Int32) (h_47 : HI) (g_47 : HL), P_47 r_47 h_47 g_47 → (vp_in x1 16 ∧ ∀ h_51 : HI, h_51 = hu h_47 123 x1.toNatClampNeg ((h 123 x1.toNatClampNeg) + r_47) → j_X5_chooseRuns_52 Q K2 K17 x1 x2 h_51 g_47)))))))
def F_X5_chooseRuns_17 (Q : HI → HL → Prop) (K2 : Int32 → HI → HL → Prop) (K : Int32 × Int32 × HI × HL → Prop) (q : Int32 × Int32 × HI × HL) : Prop := b_X5_chooseRuns_17 Q K2 (fun x1 x2 h g => K (x1, x2, h, g)) q.1 q.2.1 q.2.2.1 q.2.2.2
def b_X5_chooseRuns_2 (Q : HI → HL → Prop) (K2 : Int32 → HI → HL → Prop) (x1 : Int32) (h : HI) (g : HL) : Prop :=
  (((15 : Int32) < x1 → Q h g) ∧ (¬ (15 : Int32) < x1 → (vp_in x1 16 ∧ ∀ h_14 : HI, h_14 = hu h 123 x1.toNatClampNeg (0 : Int32) → lpE (F_X5_chooseRuns_17 Q K2) (x1, (0 : Int32), h_14, g))))
def F_X5_chooseRuns_2 (Q : HI → HL → Prop) (K : Int32 × HI × HL → Prop) (q : Int32 × HI × HL) : Prop := b_X5_chooseRuns_2 Q (fun x1 h g => K (x1, h, g)) q.1 q.2.1 q.2.2
def w_X5_chooseRuns  (h : HI) (g : HL) (Q : HI → HL → Prop) : Prop :=
  lpE (F_X5_chooseRuns_2 Q) ((0 : Int32), h, g)
set_option maxHeartbeats 8000000 in
set_option maxRecDepth 100000 in
theorem m_X5_chooseRuns (l : Launch) (D : va_G) (cy : Nat → ClassId) (ad : Nat → Nat) (h : HI) (g : HL) (sz : Nat)  (Q : HI → HL → Prop) (HW : w_X5_chooseRuns h g Q) : Met l yX5_chooseRuns (wa yX5_chooseRuns cX5_chooseRuns 3 none) ({ frames := 1, cells := 0, slots := 0, locals := 23 }) (va_Pc [.ref (ad 118)] (gI D cy ad h g sz)) (va_Qv (fun (u : HI × HL) => Q u.1 u.2) (gB D cy ad sz) (gA ad sz)) 0 0 (gA ad sz) := by
  refine Met.ofW (cc := cX5_chooseRuns) (maxL := 3) (ret := none) (by decide) rfl ?_
  intro p e s m args below meth c s₁ B hml hv
  obtain ⟨hav, hsz, hP, hK, hD0, hNw⟩ := hv
  have hx := B.exec
  have hb := B.bytes
  have hr := B.returns
  have hts := atoms_spec (ws := (wa yX5_chooseRuns cX5_chooseRuns 3 none)) B.pre
  have hw := wa_hw hts
  have hown : s.vm.findClass RX5 = some m.cls := findClass_of_methodNamed B.named
  have hlocks := B.notSynchronized
  subst hsz
  have hG : gG D cy ad (gA ad s.heap.size) s.heap h g s.heap [] := ⟨hP, gA_self hD0, va_S.rf⟩
  clear hP hD0
  have lk24 := hw (.fieldLink RX5 24 "OldWorks$Plans" "runsOf" "[I") (wm2 126 rfl rfl)
  have lk35 := hw (.fieldLink RX5 35 "OldWorks$Plans" "shop" "LOldWorks$Shop;") (wm2 121 rfl rfl)
  have lk95 := hw (.fieldLink RX5 95 "OldWorks$Shop" "runs" "LOldWorks$Table;") (wm1 93 rfl rfl)
  rw [show (headSpec (wa yX5_chooseRuns cX5_chooseRuns 3 none) ({ frames := 1, cells := 0, slots := 0, locals := 23 } : Room)).room = ({ frames := 1, cells := 0, slots := 0, locals := 23 } : Room) from rfl]
  have hl := lv_entry ([.ref (ad 118)]) (n := 3) (Nat.le_of_ble_eq_true rfl)
  rw [show entryFrame m args 3 = entryFrame m ([.ref (ad 118)] : List Value).toArray 3 from by rw [hav], lg_entry_eq]
  generalize (lg_sl ([.ref (ad 118)]) ++ List.replicate (3 - (lg_sl ([.ref (ad 118)])).length) Slot.unset).toArray = ls at hl ⊢
  have hl : lv_has ls 3 [(0, .ref (ad 118))] := hl
  have B52 : ∀ (K2 : Int32 → HI → HL → Prop) (hK2 : ∀ (x1 : Int32) (h : HI) (g : HL) (H : Heap) (locs : List Loc) (ls : Array Slot), K2 x1 h g → gG D cy ad (gA ad s.heap.size) s.heap h g H locs → lv_has ls 3 [(0, .ref (ad 118)), (1, .int x1)] → W p l e ({ frames := 1, cells := 0, slots := 0, locals := 23 } : Room) s m args below meth c H locs 0 0 (MQ below (va_Qv (fun (u : HI × HL) => Q u.1 u.2) (gB D cy ad s.heap.size) (gA ad s.heap.size)) args s 0 0 (gA ad s.heap.size)) (F0 m 2 ls [])) (K17 : Int32 → Int32 → HI → HL → Prop) (hK17 : ∀ (x1 : Int32) (x2 : Int32) (h : HI) (g : HL) (H : Heap) (locs : List Loc) (ls : Array Slot), K17 x1 x2 h g → gG D cy ad (gA ad s.heap.size) s.heap h g H locs → lv_has ls 3 [(0, .ref (ad 118)), (1, .int x1), (2, .int x2)] → W p l e ({ frames := 1, cells := 0, slots := 0, locals := 23 } : Room) s m args below meth c H locs 0 0 (MQ below (va_Qv (fun (u : HI × HL) => Q u.1 u.2) (gB D cy ad s.heap.size) (gA ad s.heap.size)) args s 0 0 (gA ad s.heap.size)) (F0 m 17 ls [])) (x1 : Int32) (x2 : Int32) (h : HI) (g : HL) (H : Heap) (locs : List Loc) (ls : Array Slot), j_X5_chooseRuns_52 Q K2 K17 x1 x2 h g → gG D cy ad (gA ad s.heap.size) s.heap h g H locs → lv_has ls 3 [(0, .ref (ad 118)), (1, .int x1), (2, .int x2)] → W p l e ({ frames := 1, cells := 0, slots := 0, locals := 23 } : Room) s m args below meth c H locs 0 0 (MQ below (va_Qv (fun (u : HI × HL) => Q u.1 u.2) (gB D cy ad s.heap.size) (gA ad s.heap.size)) args s 0 0 (gA ad s.heap.size)) (F0 m 52 ls []) := by
    intro K2 hK2 K17 hK17 x1 x2 h g H locs ls HW hG hl
    unfold j_X5_chooseRuns_52 at HW
    obtain ⟨x2_52, ex2_52⟩ : ∃ y : Int32, y = (x2 + 1) := ⟨_, rfl⟩
    replace HW := HW x2_52 ex2_52
    refine lv_iinc (v := x2_52) (lv' := [(2, .int x2_52), (0, .ref (ad 118)), (1, .int x1)]) hx hb dX5_chooseRuns_52 hl (k := 2) rfl (by rw [ex2_52]; rfl) (by decide) rfl (fun ls hl => ?_)
    refine lv_goto (tgt := 17) hx hb dX5_chooseRuns_55 (by decide) ?_
    exact hK17 x1 x2_52 h g _ _ _ HW hG (lv_sub hl [1, 2, 0] rfl)
  have L17 : ∀ (K2 : Int32 → HI → HL → Prop) (hK2 : ∀ (x1 : Int32) (h : HI) (g : HL) (H : Heap) (locs : List Loc) (ls : Array Slot), K2 x1 h g → gG D cy ad (gA ad s.heap.size) s.heap h g H locs → lv_has ls 3 [(0, .ref (ad 118)), (1, .int x1)] → W p l e ({ frames := 1, cells := 0, slots := 0, locals := 23 } : Room) s m args below meth c H locs 0 0 (MQ below (va_Qv (fun (u : HI × HL) => Q u.1 u.2) (gB D cy ad s.heap.size) (gA ad s.heap.size)) args s 0 0 (gA ad s.heap.size)) (F0 m 2 ls [])) (n : Nat) (x1 : Int32) (x2 : Int32) (h : HI) (g : HL) (H : Heap) (locs : List Loc) (ls : Array Slot), lpN (F_X5_chooseRuns_17 Q K2) n (x1, x2, h, g) → gG D cy ad (gA ad s.heap.size) s.heap h g H locs → lv_has ls 3 [(0, .ref (ad 118)), (1, .int x1), (2, .int x2)] → W p l e ({ frames := 1, cells := 0, slots := 0, locals := 23 } : Room) s m args below meth c H locs 0 0 (MQ below (va_Qv (fun (u : HI × HL) => Q u.1 u.2) (gB D cy ad s.heap.size) (gA ad s.heap.size)) args s 0 0 (gA ad s.heap.size)) (F0 m 17 ls []) := by
    intro K2 hK2 n
    induction n with
    | zero => intro x1 x2 h g H locs ls HW; exact HW.elim
    | succ n ih =>
      intro x1 x2 h g H locs ls HW hG hl
      have HW : b_X5_chooseRuns_17 Q K2 (fun x1 x2 h g => lpN (F_X5_chooseRuns_17 Q K2) n (x1, x2, h, g)) x1 x2 h g := HW
      generalize hKe : (fun (x1 : Int32) (x2 : Int32) (h : HI) (g : HL) => lpN (F_X5_chooseRuns_17 Q K2) n (x1, x2, h, g)) = K17 at HW
      have hK17 : ∀ (x1 : Int32) (x2 : Int32) (h : HI) (g : HL) (H : Heap) (locs : List Loc) (ls : Array Slot), K17 x1 x2 h g → gG D cy ad (gA ad s.heap.size) s.heap h g H locs → lv_has ls 3 [(0, .ref (ad 118)), (1, .int x1), (2, .int x2)] → W p l e ({ frames := 1, cells := 0, slots := 0, locals := 23 } : Room) s m args below meth c H locs 0 0 (MQ below (va_Qv (fun (u : HI × HL) => Q u.1 u.2) (gB D cy ad s.heap.size) (gA ad s.heap.size)) args s 0 0 (gA ad s.heap.size)) (F0 m 17 ls []) := by subst hKe; exact ih
      clear ih
      clear hKe
      unfold b_X5_chooseRuns_17 at HW
      refine lv_iload_n hx hb dX5_chooseRuns_17 rfl (lv_at hl 2 rfl) ?_
      refine lv_iconst (v := 4) hx hb dX5_chooseRuns_18 (by decide) ?_
      refine lv_icmp_ge (tgt := 58) hx hb dX5_chooseRuns_19 (by decide) (fun c_19 => ?_) (fun c_19 => ?_)
      · replace HW := HW.1 c_19
        obtain ⟨x1_58, ex1_58⟩ : ∃ y : Int32, y = (x1 + 1) := ⟨_, rfl⟩
        replace HW := HW x1_58 ex1_58
        refine lv_iinc (v := x1_58) (lv' := [(1, .int x1_58), (0, .ref (ad 118)), (2, .int x2)]) hx hb dX5_chooseRuns_58 hl (k := 1) rfl (by rw [ex1_58]; rfl) (by decide) rfl (fun ls hl => ?_)
        refine lv_goto (tgt := 2) hx hb dX5_chooseRuns_61 (by decide) ?_
        exact hK2 x1_58 h g _ _ _ HW hG (lv_sub hl [1, 0] rfl)
      · replace HW := HW.2 c_19
        refine lv_iload_n hx hb dX5_chooseRuns_22 rfl (lv_at hl 1 rfl) ?_
        refine lv_iload_n hx hb dX5_chooseRuns_23 rfl (lv_at hl 2 rfl) ?_
        refine lv_ishr hx hb dX5_chooseRuns_24 ?_
        refine lv_iconst (v := 1) hx hb dX5_chooseRuns_25 (by decide) ?_
        refine lv_iand hx hb dX5_chooseRuns_26 ?_
        refine lv_iconst (v := 1) hx hb dX5_chooseRuns_27 (by decide) ?_
        refine lv_icmp_ne (tgt := 52) hx hb dX5_chooseRuns_28 (by decide) (fun c_28 => ?_) (fun c_28 => ?_)
        · replace HW := HW.1 c_28
          exact B52 K2 hK2 K17 hK17 x1 x2 h g _ _ _ HW hG (lv_sub hl [0, 1, 2] rfl)
        · replace HW := HW.2 c_28
          refine lv_aload_n hx hb dX5_chooseRuns_31 rfl (lv_at hl 0 rfl) ?_
          refine g_getr hx hb hw inG5 hown hK hG gl_118 rfl gk_118 (by decide) 5 (by decide) (by rw [gm_118]; decide) (r := 123) gr_118_5 lk24 dX5_chooseRuns_32 ?_
          refine lv_iload_n hx hb dX5_chooseRuns_35 rfl (lv_at hl 1 rfl) ?_
          refine lv_dup2_11 hx hb dX5_chooseRuns_36 rfl rfl ?_
          refine g_iald hx hb hK hG gl_123 gk_123 gn_123 HW.1 dX5_chooseRuns_37 ?_
          replace HW := HW.2
          refine lv_aload_n hx hb dX5_chooseRuns_38 rfl (lv_at hl 0 rfl) ?_
          refine g_getr hx hb hw inG5 hown hK hG gl_118 rfl gk_118 (by decide) 0 (by decide) (by rw [gm_118]; decide) (r := 1) gr_118_0 lk35 dX5_chooseRuns_39 ?_
          refine g_getr hx hb hw inG6 hown hK hG gl_1 rfl gk_1 (by decide) 10 (by decide) (by rw [gm_1]; decide) (r := 22) gr_1_10 lk95 dX5_chooseRuns_42 ?_
          refine lv_iload_n hx hb dX5_chooseRuns_45 rfl (lv_at hl 2 rfl) ?_
          refine lv_iconst (v := 0) hx hb dX5_chooseRuns_46 (by decide) ?_
          obtain ⟨P_47, HC_47, HW⟩ := HW
          refine g_calli (g_runV (As := [.int x2, .int (0 : Int32)]) (rest := [.int (h 123 x1.toNatClampNeg), .int x1, .ref (ad 123)]) ⟨hx, hb, hml, hown, hts⟩ (m_X8_at l D cy ad h g H.size 22 (gs_22) x2 (0 : Int32) P_47 HC_47) (cwV 2 hts (gd_V (wm4 161 rfl rfl) (wm2 221 rfl rfl) (wm2 222 rfl rfl) (wm1 3 rfl rfl) (wm2 223 rfl rfl)) rfl rfl rfl (by decide +kernel) ⟨Nat.le_of_ble_eq_true rfl, Nat.le_of_ble_eq_true rfl⟩) hK hNw hG gl_22 rfl gk_22 (by decide) rfl rfl hl.1 rfl (lv_room (Nat.le_of_ble_eq_true rfl)) dX5_chooseRuns_47 ⟨Nat.zero_le _, Nat.zero_le _⟩) hG (fun r_47 h_47 g_47 H locs hq hG => ?_)
          replace HW := HW r_47 h_47 g_47 hq
          refine lv_iadd hx hb dX5_chooseRuns_50 ?_
          refine g_iast hx hb hK hG gl_123 gk_123 gn_123 HW.1 dX5_chooseRuns_51 (fun H locs hG => ?_)
          replace HW := HW.2
          obtain ⟨h_51, eh_51⟩ : ∃ y : HI, y = hu h_47 123 x1.toNatClampNeg ((h 123 x1.toNatClampNeg) + r_47) := ⟨_, rfl⟩
          rw [← eh_51] at hG
          replace HW := HW h_51 eh_51
          exact B52 K2 hK2 K17 hK17 x1 x2 h_51 g_47 _ _ _ HW hG (lv_sub hl [0, 1, 2] rfl)
  have L2 : ∀ (n : Nat) (x1 : Int32) (h : HI) (g : HL) (H : Heap) (locs : List Loc) (ls : Array Slot), lpN (F_X5_chooseRuns_2 Q) n (x1, h, g) → gG D cy ad (gA ad s.heap.size) s.heap h g H locs → lv_has ls 3 [(0, .ref (ad 118)), (1, .int x1)] → W p l e ({ frames := 1, cells := 0, slots := 0, locals := 23 } : Room) s m args below meth c H locs 0 0 (MQ below (va_Qv (fun (u : HI × HL) => Q u.1 u.2) (gB D cy ad s.heap.size) (gA ad s.heap.size)) args s 0 0 (gA ad s.heap.size)) (F0 m 2 ls []) := by
    intro n
    induction n with
    | zero => intro x1 h g H locs ls HW; exact HW.elim
    | succ n ih =>
      intro x1 h g H locs ls HW hG hl
      have HW : b_X5_chooseRuns_2 Q (fun x1 h g => lpN (F_X5_chooseRuns_2 Q) n (x1, h, g)) x1 h g := HW
      generalize hKe : (fun (x1 : Int32) (h : HI) (g : HL) => lpN (F_X5_chooseRuns_2 Q) n (x1, h, g)) = K2 at HW
      have hK2 : ∀ (x1 : Int32) (h : HI) (g : HL) (H : Heap) (locs : List Loc) (ls : Array Slot), K2 x1 h g → gG D cy ad (gA ad s.heap.size) s.heap h g H locs → lv_has ls 3 [(0, .ref (ad 118)), (1, .int x1)] → W p l e ({ frames := 1, cells := 0, slots := 0, locals := 23 } : Room) s m args below meth c H locs 0 0 (MQ below (va_Qv (fun (u : HI × HL) => Q u.1 u.2) (gB D cy ad s.heap.size) (gA ad s.heap.size)) args s 0 0 (gA ad s.heap.size)) (F0 m 2 ls []) := by subst hKe; exact ih
      clear ih
      clear hKe
      unfold b_X5_chooseRuns_2 at HW
      refine lv_iload_n hx hb dX5_chooseRuns_2 rfl (lv_at hl 1 rfl) ?_
      refine lv_bipush (v := 15) hx hb dX5_chooseRuns_3 (by decide) ?_
      refine lv_icmp_gt (tgt := 64) hx hb dX5_chooseRuns_5 (by decide) (fun c_5 => ?_) (fun c_5 => ?_)
      · replace HW := HW.1 c_5
        exact W.vret hx hb hr (fun t ht hW => ⟨⟨(h, g), rfl, HW, g_B ht hG⟩, hG.2.2.F ht⟩) hG.2.2.2.2 dX5_chooseRuns_64
      · replace HW := HW.2 c_5
        refine lv_aload_n hx hb dX5_chooseRuns_8 rfl (lv_at hl 0 rfl) ?_
        refine g_getr hx hb hw inG5 hown hK hG gl_118 rfl gk_118 (by decide) 5 (by decide) (by rw [gm_118]; decide) (r := 123) gr_118_5 lk24 dX5_chooseRuns_9 ?_
        refine lv_iload_n hx hb dX5_chooseRuns_12 rfl (lv_at hl 1 rfl) ?_
        refine lv_iconst (v := 0) hx hb dX5_chooseRuns_13 (by decide) ?_
        refine g_iast hx hb hK hG gl_123 gk_123 gn_123 HW.1 dX5_chooseRuns_14 (fun H locs hG => ?_)
        replace HW := HW.2
        obtain ⟨h_14, eh_14⟩ : ∃ y : HI, y = hu h 123 x1.toNatClampNeg (0 : Int32) := ⟨_, rfl⟩
        rw [← eh_14] at hG
        replace HW := HW h_14 eh_14
        refine lv_iconst (v := 0) hx hb dX5_chooseRuns_15 (by decide) ?_
        refine lv_istore_n (lv' := [(2, .int (0 : Int32)), (0, .ref (ad 118)), (1, .int x1)]) hx hb dX5_chooseRuns_16 rfl hl (by decide) rfl (fun ls hl => ?_)
        obtain ⟨n_17, HW⟩ := HW
        exact L17 K2 hK2 n_17 x1 (0 : Int32) h_14 g _ _ _ HW hG (lv_sub hl [1, 2, 0] rfl)
  have E0 : ∀ (H : Heap) (locs : List Loc) (ls : Array Slot), gG D cy ad (gA ad s.heap.size) s.heap h g H locs → lv_has ls 3 [(0, .ref (ad 118))] → W p l e ({ frames := 1, cells := 0, slots := 0, locals := 23 } : Room) s m args below meth c H locs 0 0 (MQ below (va_Qv (fun (u : HI × HL) => Q u.1 u.2) (gB D cy ad s.heap.size) (gA ad s.heap.size)) args s 0 0 (gA ad s.heap.size)) (F0 m 0 ls []) := by
    intro H locs ls hG hl
    unfold w_X5_chooseRuns at HW
    refine lv_iconst (v := 0) hx hb dX5_chooseRuns_0 (by decide) ?_
    refine lv_istore_n (lv' := [(1, .int (0 : Int32)), (0, .ref (ad 118))]) hx hb dX5_chooseRuns_1 rfl hl (by decide) rfl (fun ls hl => ?_)
    obtain ⟨n_2, HW⟩ := HW
    exact L2 n_2 (0 : Int32) h g _ _ _ HW hG (lv_sub hl [1, 0] rfl)
  exact E0 _ _ _ hG hl

def j_X5_chooseYears_59 (Q : HI → HL → Prop) (K2 : Int32 → HI → HL → Prop) (K17 : Int32 → Int32 → HI → HL → Prop) (x1 : Int32) (x2 : Int32) (h : HI) (g : HL) : Prop :=
  (∀ x2_59 : Int32, x2_59 = (x2 + 1) → K17 x1 x2_59 h g)
def b_X5_chooseYears_17 (Q : HI → HL → Prop) (K2 : Int32 → HI → HL → Prop) (K17 : Int32 → Int32 → HI → HL → Prop) (x1 : Int32) (x2 : Int32) (h : HI) (g : HL) : Prop :=
  (∃ P_25 : Int32 → HI → HL → Prop, w_X8_rows 20 h g P_25 ∧ ∀ (r_25 : Int32) (h_25 : HI) (g_25 : HL), P_25 r_25 h_25 g_25 → ((r_25 ≤ x2 → (∀ x1_65 : Int32, x1_65 = (x1 + 1) → K2 x1_65 h_25 g_25)) ∧ (¬ r_25 ≤ x2 → (∃ P_41 : Int32 → HI → HL → Prop, w_X8_at 20 x2 (1 : Int32) h_25 g_25 P_41 ∧ ∀ (r_41 : Int32) (h_41 : HI) (g_41 : HL), P_41 r_41 h_41 g_41 → ((r_41 ≤ x1 → j_X5_chooseYears_59 Q K2 K17 x1 x2 h_41 g_41) ∧ (¬ r_41 ≤ x1 → (vp_in x1 8 ∧ (vp_in x1 8 ∧ ∀ h_58 : HI, h_58 = hu h_41 124 x1.toNatClampNeg ((h_41 124 x1.toNatClampNeg) ||| ((1 : Int32) <<< (x2 &&& 31))) → j_X5_chooseYears_59 Q K2 K17 x1 x2 h_58 g_41))))))))
def F_X5_chooseYears_17 (Q : HI → HL → Prop) (K2 : Int32 → HI → HL → Prop) (K : Int32 × Int32 × HI × HL → Prop) (q : Int32 × Int32 × HI × HL) : Prop := b_X5_chooseYears_17 Q K2 (fun x1 x2 h g => K (x1, x2, h, g)) q.1 q.2.1 q.2.2.1 q.2.2.2
def b_X5_chooseYears_2 (Q : HI → HL → Prop) (K2 : Int32 → HI → HL → Prop) (x1 : Int32) (h : HI) (g : HL) : Prop :=
  (((8 : Int32) ≤ x1 → Q h g) ∧ (¬ (8 : Int32) ≤ x1 → (vp_in x1 8 ∧ ∀ h_14 : HI, h_14 = hu h 124 x1.toNatClampNeg (0 : Int32) → lpE (F_X5_chooseYears_17 Q K2) (x1, (0 : Int32), h_14, g))))
def F_X5_chooseYears_2 (Q : HI → HL → Prop) (K : Int32 × HI × HL → Prop) (q : Int32 × HI × HL) : Prop := b_X5_chooseYears_2 Q (fun x1 h g => K (x1, h, g)) q.1 q.2.1 q.2.2
def w_X5_chooseYears  (h : HI) (g : HL) (Q : HI → HL → Prop) : Prop :=
  lpE (F_X5_chooseYears_2 Q) ((0 : Int32), h, g)
set_option maxHeartbeats 8000000 in
set_option maxRecDepth 100000 in
theorem m_X5_chooseYears (l : Launch) (D : va_G) (cy : Nat → ClassId) (ad : Nat → Nat) (h : HI) (g : HL) (sz : Nat)  (Q : HI → HL → Prop) (HW : w_X5_chooseYears h g Q) : Met l yX5_chooseYears (wa yX5_chooseYears cX5_chooseYears 3 none) ({ frames := 1, cells := 0, slots := 0, locals := 23 }) (va_Pc [.ref (ad 118)] (gI D cy ad h g sz)) (va_Qv (fun (u : HI × HL) => Q u.1 u.2) (gB D cy ad sz) (gA ad sz)) 0 0 (gA ad sz) := by
  refine Met.ofW (cc := cX5_chooseYears) (maxL := 3) (ret := none) (by decide) rfl ?_
  intro p e s m args below meth c s₁ B hml hv
  obtain ⟨hav, hsz, hP, hK, hD0, hNw⟩ := hv
  have hx := B.exec
  have hb := B.bytes
  have hr := B.returns
  have hts := atoms_spec (ws := (wa yX5_chooseYears cX5_chooseYears 3 none)) B.pre
  have hw := wa_hw hts
  have hown : s.vm.findClass RX5 = some m.cls := findClass_of_methodNamed B.named
  have hlocks := B.notSynchronized
  subst hsz
  have hG : gG D cy ad (gA ad s.heap.size) s.heap h g s.heap [] := ⟨hP, gA_self hD0, va_S.rf⟩
  clear hP hD0
  have lk27 := hw (.fieldLink RX5 27 "OldWorks$Plans" "there" "[I") (wm2 127 rfl rfl)
  have lk35 := hw (.fieldLink RX5 35 "OldWorks$Plans" "shop" "LOldWorks$Shop;") (wm2 121 rfl rfl)
  have lk76 := hw (.fieldLink RX5 76 "OldWorks$Shop" "hands" "LOldWorks$Table;") (wm1 90 rfl rfl)
  rw [show (headSpec (wa yX5_chooseYears cX5_chooseYears 3 none) ({ frames := 1, cells := 0, slots := 0, locals := 23 } : Room)).room = ({ frames := 1, cells := 0, slots := 0, locals := 23 } : Room) from rfl]
  have hl := lv_entry ([.ref (ad 118)]) (n := 3) (Nat.le_of_ble_eq_true rfl)
  rw [show entryFrame m args 3 = entryFrame m ([.ref (ad 118)] : List Value).toArray 3 from by rw [hav], lg_entry_eq]
  generalize (lg_sl ([.ref (ad 118)]) ++ List.replicate (3 - (lg_sl ([.ref (ad 118)])).length) Slot.unset).toArray = ls at hl ⊢
  have hl : lv_has ls 3 [(0, .ref (ad 118))] := hl
  have B59 : ∀ (K2 : Int32 → HI → HL → Prop) (hK2 : ∀ (x1 : Int32) (h : HI) (g : HL) (H : Heap) (locs : List Loc) (ls : Array Slot), K2 x1 h g → gG D cy ad (gA ad s.heap.size) s.heap h g H locs → lv_has ls 3 [(0, .ref (ad 118)), (1, .int x1)] → W p l e ({ frames := 1, cells := 0, slots := 0, locals := 23 } : Room) s m args below meth c H locs 0 0 (MQ below (va_Qv (fun (u : HI × HL) => Q u.1 u.2) (gB D cy ad s.heap.size) (gA ad s.heap.size)) args s 0 0 (gA ad s.heap.size)) (F0 m 2 ls [])) (K17 : Int32 → Int32 → HI → HL → Prop) (hK17 : ∀ (x1 : Int32) (x2 : Int32) (h : HI) (g : HL) (H : Heap) (locs : List Loc) (ls : Array Slot), K17 x1 x2 h g → gG D cy ad (gA ad s.heap.size) s.heap h g H locs → lv_has ls 3 [(0, .ref (ad 118)), (1, .int x1), (2, .int x2)] → W p l e ({ frames := 1, cells := 0, slots := 0, locals := 23 } : Room) s m args below meth c H locs 0 0 (MQ below (va_Qv (fun (u : HI × HL) => Q u.1 u.2) (gB D cy ad s.heap.size) (gA ad s.heap.size)) args s 0 0 (gA ad s.heap.size)) (F0 m 17 ls [])) (x1 : Int32) (x2 : Int32) (h : HI) (g : HL) (H : Heap) (locs : List Loc) (ls : Array Slot), j_X5_chooseYears_59 Q K2 K17 x1 x2 h g → gG D cy ad (gA ad s.heap.size) s.heap h g H locs → lv_has ls 3 [(0, .ref (ad 118)), (1, .int x1), (2, .int x2)] → W p l e ({ frames := 1, cells := 0, slots := 0, locals := 23 } : Room) s m args below meth c H locs 0 0 (MQ below (va_Qv (fun (u : HI × HL) => Q u.1 u.2) (gB D cy ad s.heap.size) (gA ad s.heap.size)) args s 0 0 (gA ad s.heap.size)) (F0 m 59 ls []) := by
    intro K2 hK2 K17 hK17 x1 x2 h g H locs ls HW hG hl
    unfold j_X5_chooseYears_59 at HW
    obtain ⟨x2_59, ex2_59⟩ : ∃ y : Int32, y = (x2 + 1) := ⟨_, rfl⟩
    replace HW := HW x2_59 ex2_59
    refine lv_iinc (v := x2_59) (lv' := [(2, .int x2_59), (0, .ref (ad 118)), (1, .int x1)]) hx hb dX5_chooseYears_59 hl (k := 2) rfl (by rw [ex2_59]; rfl) (by decide) rfl (fun ls hl => ?_)
    refine lv_goto (tgt := 17) hx hb dX5_chooseYears_62 (by decide) ?_
    exact hK17 x1 x2_59 h g _ _ _ HW hG (lv_sub hl [1, 2, 0] rfl)
  have L17 : ∀ (K2 : Int32 → HI → HL → Prop) (hK2 : ∀ (x1 : Int32) (h : HI) (g : HL) (H : Heap) (locs : List Loc) (ls : Array Slot), K2 x1 h g → gG D cy ad (gA ad s.heap.size) s.heap h g H locs → lv_has ls 3 [(0, .ref (ad 118)), (1, .int x1)] → W p l e ({ frames := 1, cells := 0, slots := 0, locals := 23 } : Room) s m args below meth c H locs 0 0 (MQ below (va_Qv (fun (u : HI × HL) => Q u.1 u.2) (gB D cy ad s.heap.size) (gA ad s.heap.size)) args s 0 0 (gA ad s.heap.size)) (F0 m 2 ls [])) (n : Nat) (x1 : Int32) (x2 : Int32) (h : HI) (g : HL) (H : Heap) (locs : List Loc) (ls : Array Slot), lpN (F_X5_chooseYears_17 Q K2) n (x1, x2, h, g) → gG D cy ad (gA ad s.heap.size) s.heap h g H locs → lv_has ls 3 [(0, .ref (ad 118)), (1, .int x1), (2, .int x2)] → W p l e ({ frames := 1, cells := 0, slots := 0, locals := 23 } : Room) s m args below meth c H locs 0 0 (MQ below (va_Qv (fun (u : HI × HL) => Q u.1 u.2) (gB D cy ad s.heap.size) (gA ad s.heap.size)) args s 0 0 (gA ad s.heap.size)) (F0 m 17 ls []) := by
    intro K2 hK2 n
    induction n with
    | zero => intro x1 x2 h g H locs ls HW; exact HW.elim
    | succ n ih =>
      intro x1 x2 h g H locs ls HW hG hl
      have HW : b_X5_chooseYears_17 Q K2 (fun x1 x2 h g => lpN (F_X5_chooseYears_17 Q K2) n (x1, x2, h, g)) x1 x2 h g := HW
      generalize hKe : (fun (x1 : Int32) (x2 : Int32) (h : HI) (g : HL) => lpN (F_X5_chooseYears_17 Q K2) n (x1, x2, h, g)) = K17 at HW
      have hK17 : ∀ (x1 : Int32) (x2 : Int32) (h : HI) (g : HL) (H : Heap) (locs : List Loc) (ls : Array Slot), K17 x1 x2 h g → gG D cy ad (gA ad s.heap.size) s.heap h g H locs → lv_has ls 3 [(0, .ref (ad 118)), (1, .int x1), (2, .int x2)] → W p l e ({ frames := 1, cells := 0, slots := 0, locals := 23 } : Room) s m args below meth c H locs 0 0 (MQ below (va_Qv (fun (u : HI × HL) => Q u.1 u.2) (gB D cy ad s.heap.size) (gA ad s.heap.size)) args s 0 0 (gA ad s.heap.size)) (F0 m 17 ls []) := by subst hKe; exact ih
      clear ih
      clear hKe
      unfold b_X5_chooseYears_17 at HW
      refine lv_iload_n hx hb dX5_chooseYears_17 rfl (lv_at hl 2 rfl) ?_
      refine lv_aload_n hx hb dX5_chooseYears_18 rfl (lv_at hl 0 rfl) ?_
      refine g_getr hx hb hw inG5 hown hK hG gl_118 rfl gk_118 (by decide) 0 (by decide) (by rw [gm_118]; decide) (r := 1) gr_118_0 lk35 dX5_chooseYears_19 ?_
      refine g_getr hx hb hw inG6 hown hK hG gl_1 rfl gk_1 (by decide) 9 (by decide) (by rw [gm_1]; decide) (r := 20) gr_1_9 lk76 dX5_chooseYears_22 ?_
      obtain ⟨P_25, HC_25, HW⟩ := HW
      refine g_calli (g_runV (As := []) (rest := [.int x2]) ⟨hx, hb, hml, hown, hts⟩ (m_X8_rows l D cy ad h g H.size 20 (gs_20) P_25 HC_25) (cwV 0 hts (gd_V (wm4 160 rfl rfl) (wm2 217 rfl rfl) (wm2 218 rfl rfl) (wm1 3 rfl rfl) (wm2 219 rfl rfl)) rfl rfl rfl (by decide +kernel) ⟨Nat.le_of_ble_eq_true rfl, Nat.le_of_ble_eq_true rfl⟩) hK hNw hG gl_20 rfl gk_20 (by decide) rfl rfl hl.1 rfl (lv_room (Nat.le_of_ble_eq_true rfl)) dX5_chooseYears_25 ⟨Nat.zero_le _, Nat.zero_le _⟩) hG (fun r_25 h_25 g_25 H locs hq hG => ?_)
      replace HW := HW r_25 h_25 g_25 hq
      refine lv_icmp_ge (tgt := 65) hx hb dX5_chooseYears_28 (by decide) (fun c_28 => ?_) (fun c_28 => ?_)
      · replace HW := HW.1 c_28
        obtain ⟨x1_65, ex1_65⟩ : ∃ y : Int32, y = (x1 + 1) := ⟨_, rfl⟩
        replace HW := HW x1_65 ex1_65
        refine lv_iinc (v := x1_65) (lv' := [(1, .int x1_65), (0, .ref (ad 118)), (2, .int x2)]) hx hb dX5_chooseYears_65 hl (k := 1) rfl (by rw [ex1_65]; rfl) (by decide) rfl (fun ls hl => ?_)
        refine lv_goto (tgt := 2) hx hb dX5_chooseYears_68 (by decide) ?_
        exact hK2 x1_65 h_25 g_25 _ _ _ HW hG (lv_sub hl [1, 0] rfl)
      · replace HW := HW.2 c_28
        refine lv_iload_n hx hb dX5_chooseYears_31 rfl (lv_at hl 1 rfl) ?_
        refine lv_aload_n hx hb dX5_chooseYears_32 rfl (lv_at hl 0 rfl) ?_
        refine g_getr hx hb hw inG5 hown hK hG gl_118 rfl gk_118 (by decide) 0 (by decide) (by rw [gm_118]; decide) (r := 1) gr_118_0 lk35 dX5_chooseYears_33 ?_
        refine g_getr hx hb hw inG6 hown hK hG gl_1 rfl gk_1 (by decide) 9 (by decide) (by rw [gm_1]; decide) (r := 20) gr_1_9 lk76 dX5_chooseYears_36 ?_
        refine lv_iload_n hx hb dX5_chooseYears_39 rfl (lv_at hl 2 rfl) ?_
        refine lv_iconst (v := 1) hx hb dX5_chooseYears_40 (by decide) ?_
        obtain ⟨P_41, HC_41, HW⟩ := HW
        refine g_calli (g_runV (As := [.int x2, .int (1 : Int32)]) (rest := [.int x1]) ⟨hx, hb, hml, hown, hts⟩ (m_X8_at l D cy ad h_25 g_25 H.size 20 (gs_20) x2 (1 : Int32) P_41 HC_41) (cwV 2 hts (gd_V (wm4 161 rfl rfl) (wm2 221 rfl rfl) (wm2 222 rfl rfl) (wm1 3 rfl rfl) (wm2 223 rfl rfl)) rfl rfl rfl (by decide +kernel) ⟨Nat.le_of_ble_eq_true rfl, Nat.le_of_ble_eq_true rfl⟩) hK hNw hG gl_20 rfl gk_20 (by decide) rfl rfl hl.1 rfl (lv_room (Nat.le_of_ble_eq_true rfl)) dX5_chooseYears_41 ⟨Nat.zero_le _, Nat.zero_le _⟩) hG (fun r_41 h_41 g_41 H locs hq hG => ?_)
        replace HW := HW r_41 h_41 g_41 hq
        refine lv_icmp_ge (tgt := 59) hx hb dX5_chooseYears_44 (by decide) (fun c_44 => ?_) (fun c_44 => ?_)
        · replace HW := HW.1 c_44
          exact B59 K2 hK2 K17 hK17 x1 x2 h_41 g_41 _ _ _ HW hG (lv_sub hl [0, 1, 2] rfl)
        · replace HW := HW.2 c_44
          refine lv_aload_n hx hb dX5_chooseYears_47 rfl (lv_at hl 0 rfl) ?_
          refine g_getr hx hb hw inG5 hown hK hG gl_118 rfl gk_118 (by decide) 6 (by decide) (by rw [gm_118]; decide) (r := 124) gr_118_6 lk27 dX5_chooseYears_48 ?_
          refine lv_iload_n hx hb dX5_chooseYears_51 rfl (lv_at hl 1 rfl) ?_
          refine lv_dup2_11 hx hb dX5_chooseYears_52 rfl rfl ?_
          refine g_iald hx hb hK hG gl_124 gk_124 gn_124 HW.1 dX5_chooseYears_53 ?_
          replace HW := HW.2
          refine lv_iconst (v := 1) hx hb dX5_chooseYears_54 (by decide) ?_
          refine lv_iload_n hx hb dX5_chooseYears_55 rfl (lv_at hl 2 rfl) ?_
          refine lv_ishl hx hb dX5_chooseYears_56 ?_
          refine lv_ior hx hb dX5_chooseYears_57 ?_
          refine g_iast hx hb hK hG gl_124 gk_124 gn_124 HW.1 dX5_chooseYears_58 (fun H locs hG => ?_)
          replace HW := HW.2
          obtain ⟨h_58, eh_58⟩ : ∃ y : HI, y = hu h_41 124 x1.toNatClampNeg ((h_41 124 x1.toNatClampNeg) ||| ((1 : Int32) <<< (x2 &&& 31))) := ⟨_, rfl⟩
          rw [← eh_58] at hG
          replace HW := HW h_58 eh_58
          exact B59 K2 hK2 K17 hK17 x1 x2 h_58 g_41 _ _ _ HW hG (lv_sub hl [0, 1, 2] rfl)
  have L2 : ∀ (n : Nat) (x1 : Int32) (h : HI) (g : HL) (H : Heap) (locs : List Loc) (ls : Array Slot), lpN (F_X5_chooseYears_2 Q) n (x1, h, g) → gG D cy ad (gA ad s.heap.size) s.heap h g H locs → lv_has ls 3 [(0, .ref (ad 118)), (1, .int x1)] → W p l e ({ frames := 1, cells := 0, slots := 0, locals := 23 } : Room) s m args below meth c H locs 0 0 (MQ below (va_Qv (fun (u : HI × HL) => Q u.1 u.2) (gB D cy ad s.heap.size) (gA ad s.heap.size)) args s 0 0 (gA ad s.heap.size)) (F0 m 2 ls []) := by
    intro n
    induction n with
    | zero => intro x1 h g H locs ls HW; exact HW.elim
    | succ n ih =>
      intro x1 h g H locs ls HW hG hl
      have HW : b_X5_chooseYears_2 Q (fun x1 h g => lpN (F_X5_chooseYears_2 Q) n (x1, h, g)) x1 h g := HW
      generalize hKe : (fun (x1 : Int32) (h : HI) (g : HL) => lpN (F_X5_chooseYears_2 Q) n (x1, h, g)) = K2 at HW
      have hK2 : ∀ (x1 : Int32) (h : HI) (g : HL) (H : Heap) (locs : List Loc) (ls : Array Slot), K2 x1 h g → gG D cy ad (gA ad s.heap.size) s.heap h g H locs → lv_has ls 3 [(0, .ref (ad 118)), (1, .int x1)] → W p l e ({ frames := 1, cells := 0, slots := 0, locals := 23 } : Room) s m args below meth c H locs 0 0 (MQ below (va_Qv (fun (u : HI × HL) => Q u.1 u.2) (gB D cy ad s.heap.size) (gA ad s.heap.size)) args s 0 0 (gA ad s.heap.size)) (F0 m 2 ls []) := by subst hKe; exact ih
      clear ih
      clear hKe
      unfold b_X5_chooseYears_2 at HW
      refine lv_iload_n hx hb dX5_chooseYears_2 rfl (lv_at hl 1 rfl) ?_
      refine lv_bipush (v := 8) hx hb dX5_chooseYears_3 (by decide) ?_
      refine lv_icmp_ge (tgt := 71) hx hb dX5_chooseYears_5 (by decide) (fun c_5 => ?_) (fun c_5 => ?_)
      · replace HW := HW.1 c_5
        exact W.vret hx hb hr (fun t ht hW => ⟨⟨(h, g), rfl, HW, g_B ht hG⟩, hG.2.2.F ht⟩) hG.2.2.2.2 dX5_chooseYears_71
      · replace HW := HW.2 c_5
        refine lv_aload_n hx hb dX5_chooseYears_8 rfl (lv_at hl 0 rfl) ?_
        refine g_getr hx hb hw inG5 hown hK hG gl_118 rfl gk_118 (by decide) 6 (by decide) (by rw [gm_118]; decide) (r := 124) gr_118_6 lk27 dX5_chooseYears_9 ?_
        refine lv_iload_n hx hb dX5_chooseYears_12 rfl (lv_at hl 1 rfl) ?_
        refine lv_iconst (v := 0) hx hb dX5_chooseYears_13 (by decide) ?_
        refine g_iast hx hb hK hG gl_124 gk_124 gn_124 HW.1 dX5_chooseYears_14 (fun H locs hG => ?_)
        replace HW := HW.2
        obtain ⟨h_14, eh_14⟩ : ∃ y : HI, y = hu h 124 x1.toNatClampNeg (0 : Int32) := ⟨_, rfl⟩
        rw [← eh_14] at hG
        replace HW := HW h_14 eh_14
        refine lv_iconst (v := 0) hx hb dX5_chooseYears_15 (by decide) ?_
        refine lv_istore_n (lv' := [(2, .int (0 : Int32)), (0, .ref (ad 118)), (1, .int x1)]) hx hb dX5_chooseYears_16 rfl hl (by decide) rfl (fun ls hl => ?_)
        obtain ⟨n_17, HW⟩ := HW
        exact L17 K2 hK2 n_17 x1 (0 : Int32) h_14 g _ _ _ HW hG (lv_sub hl [1, 2, 0] rfl)
  have E0 : ∀ (H : Heap) (locs : List Loc) (ls : Array Slot), gG D cy ad (gA ad s.heap.size) s.heap h g H locs → lv_has ls 3 [(0, .ref (ad 118))] → W p l e ({ frames := 1, cells := 0, slots := 0, locals := 23 } : Room) s m args below meth c H locs 0 0 (MQ below (va_Qv (fun (u : HI × HL) => Q u.1 u.2) (gB D cy ad s.heap.size) (gA ad s.heap.size)) args s 0 0 (gA ad s.heap.size)) (F0 m 0 ls []) := by
    intro H locs ls hG hl
    unfold w_X5_chooseYears at HW
    refine lv_iconst (v := 0) hx hb dX5_chooseYears_0 (by decide) ?_
    refine lv_istore_n (lv' := [(1, .int (0 : Int32)), (0, .ref (ad 118))]) hx hb dX5_chooseYears_1 rfl hl (by decide) rfl (fun ls hl => ?_)
    obtain ⟨n_2, HW⟩ := HW
    exact L2 n_2 (0 : Int32) h g _ _ _ HW hG (lv_sub hl [1, 0] rfl)
  exact E0 _ _ _ hG hl

def j_X5_runsBy_48 (Q : Int32 → HI → HL → Prop) (K18 : Int32 → Int32 → Int32 → Int32 → HI → HL → Prop) (x1 : Int32) (x2 : Int32) (x3 : Int32) (x4 : Int32) (h : HI) (g : HL) : Prop :=
  (∀ x4_48 : Int32, x4_48 = (x4 + 1) → K18 x1 x2 x3 x4_48 h g)
def b_X5_runsBy_18 (Q : Int32 → HI → HL → Prop) (K18 : Int32 → Int32 → Int32 → Int32 → HI → HL → Prop) (x1 : Int32) (x2 : Int32) (x3 : Int32) (x4 : Int32) (h : HI) (g : HL) : Prop :=
  (((3 : Int32) ≤ x4 → (vp_in (x3 &&& (15 : Int32)) 16 ∧ Q (h 123 (x3 &&& (15 : Int32)).toNatClampNeg) h g)) ∧ (¬ (3 : Int32) ≤ x4 → ((¬ ((x1 >>> (x4 &&& 31)) &&& (1 : Int32)) = (1 : Int32) → j_X5_runsBy_48 Q K18 x1 x2 x3 x4 h g) ∧ (((x1 >>> (x4 &&& 31)) &&& (1 : Int32)) = (1 : Int32) → (vp_in x2 256 ∧ (∀ x3_47 : Int32, x3_47 = (x3 ||| ((h 122 x2.toNatClampNeg) >>> (((4 : Int32) * x4) &&& 31))) → j_X5_runsBy_48 Q K18 x1 x2 x3_47 x4 h g))))))
def F_X5_runsBy_18 (Q : Int32 → HI → HL → Prop) (K : Int32 × Int32 × Int32 × Int32 × HI × HL → Prop) (q : Int32 × Int32 × Int32 × Int32 × HI × HL) : Prop := b_X5_runsBy_18 Q (fun x1 x2 x3 x4 h g => K (x1, x2, x3, x4, h, g)) q.1 q.2.1 q.2.2.1 q.2.2.2.1 q.2.2.2.2.1 q.2.2.2.2.2
def w_X5_runsBy (x1 : Int32) (x2 : Int32) (h : HI) (g : HL) (Q : Int32 → HI → HL → Prop) : Prop :=
  (∃ P_5 : Int32 → HI → HL → Prop, w_X10_within x2 (0 : Int32) (255 : Int32) h g P_5 ∧ ∀ (r_5 : Int32) (h_5 : HI) (g_5 : HL), zb r_5 → P_5 r_5 h_5 g_5 → ((¬ r_5 = 0 → lpE (F_X5_runsBy_18 Q) (x1, x2, (0 : Int32), (0 : Int32), h_5, g_5)) ∧ (r_5 = 0 → Q (0 : Int32) h_5 g_5)))
set_option maxHeartbeats 8000000 in
set_option maxRecDepth 100000 in
theorem m_X5_runsBy (l : Launch) (D : va_G) (cy : Nat → ClassId) (ad : Nat → Nat) (h : HI) (g : HL) (sz : Nat) (x1 : Int32) (x2 : Int32) (Q : Int32 → HI → HL → Prop) (HW : w_X5_runsBy x1 x2 h g Q) : Met l yX5_runsBy (wa yX5_runsBy cX5_runsBy 5 (some .int)) ({ frames := 1, cells := 0, slots := 0, locals := 22 }) (va_Pc [.ref (ad 118), .int x1, .int x2] (gI D cy ad h g sz)) (va_Qi (fun (r : Int32) (u : HI × HL) => Q r u.1 u.2) (gB D cy ad sz) (gA ad sz)) 0 0 (gA ad sz) := by
  refine Met.ofW (cc := cX5_runsBy) (maxL := 5) (ret := (some .int)) (by decide) rfl ?_
  intro p e s m args below meth c s₁ B hml hv
  obtain ⟨hav, hsz, hP, hK, hD0, hNw⟩ := hv
  have hx := B.exec
  have hb := B.bytes
  have hr := B.returns
  have hts := atoms_spec (ws := (wa yX5_runsBy cX5_runsBy 5 (some .int))) B.pre
  have hw := wa_hw hts
  have hown : s.vm.findClass RX5 = some m.cls := findClass_of_methodNamed B.named
  have hlocks := B.notSynchronized
  subst hsz
  have hG : gG D cy ad (gA ad s.heap.size) s.heap h g s.heap [] := ⟨hP, gA_self hD0, va_S.rf⟩
  clear hP hD0
  have lk24 := hw (.fieldLink RX5 24 "OldWorks$Plans" "runsOf" "[I") (wm2 126 rfl rfl)
  have lk21 := hw (.fieldLink RX5 21 "OldWorks$Plans" "skilled" "[I") (wm2 125 rfl rfl)
  rw [show (headSpec (wa yX5_runsBy cX5_runsBy 5 (some .int)) ({ frames := 1, cells := 0, slots := 0, locals := 22 } : Room)).room = ({ frames := 1, cells := 0, slots := 0, locals := 22 } : Room) from rfl]
  have hl := lv_entry ([.ref (ad 118), .int x1, .int x2]) (n := 5) (Nat.le_of_ble_eq_true rfl)
  rw [show entryFrame m args 5 = entryFrame m ([.ref (ad 118), .int x1, .int x2] : List Value).toArray 5 from by rw [hav], lg_entry_eq]
  generalize (lg_sl ([.ref (ad 118), .int x1, .int x2]) ++ List.replicate (5 - (lg_sl ([.ref (ad 118), .int x1, .int x2])).length) Slot.unset).toArray = ls at hl ⊢
  have hl : lv_has ls 5 [(0, .ref (ad 118)), (1, .int x1), (2, .int x2)] := hl
  have B48 : ∀ (K18 : Int32 → Int32 → Int32 → Int32 → HI → HL → Prop) (hK18 : ∀ (x1 : Int32) (x2 : Int32) (x3 : Int32) (x4 : Int32) (h : HI) (g : HL) (H : Heap) (locs : List Loc) (ls : Array Slot), K18 x1 x2 x3 x4 h g → gG D cy ad (gA ad s.heap.size) s.heap h g H locs → lv_has ls 5 [(0, .ref (ad 118)), (1, .int x1), (2, .int x2), (3, .int x3), (4, .int x4)] → W p l e ({ frames := 1, cells := 0, slots := 0, locals := 22 } : Room) s m args below meth c H locs 0 0 (MQ below (va_Qi (fun (r : Int32) (u : HI × HL) => Q r u.1 u.2) (gB D cy ad s.heap.size) (gA ad s.heap.size)) args s 0 0 (gA ad s.heap.size)) (F0 m 18 ls [])) (x1 : Int32) (x2 : Int32) (x3 : Int32) (x4 : Int32) (h : HI) (g : HL) (H : Heap) (locs : List Loc) (ls : Array Slot), j_X5_runsBy_48 Q K18 x1 x2 x3 x4 h g → gG D cy ad (gA ad s.heap.size) s.heap h g H locs → lv_has ls 5 [(0, .ref (ad 118)), (1, .int x1), (2, .int x2), (3, .int x3), (4, .int x4)] → W p l e ({ frames := 1, cells := 0, slots := 0, locals := 22 } : Room) s m args below meth c H locs 0 0 (MQ below (va_Qi (fun (r : Int32) (u : HI × HL) => Q r u.1 u.2) (gB D cy ad s.heap.size) (gA ad s.heap.size)) args s 0 0 (gA ad s.heap.size)) (F0 m 48 ls []) := by
    intro K18 hK18 x1 x2 x3 x4 h g H locs ls HW hG hl
    unfold j_X5_runsBy_48 at HW
    obtain ⟨x4_48, ex4_48⟩ : ∃ y : Int32, y = (x4 + 1) := ⟨_, rfl⟩
    replace HW := HW x4_48 ex4_48
    refine lv_iinc (v := x4_48) (lv' := [(4, .int x4_48), (0, .ref (ad 118)), (1, .int x1), (2, .int x2), (3, .int x3)]) hx hb dX5_runsBy_48 hl (k := 4) rfl (by rw [ex4_48]; rfl) (by decide) rfl (fun ls hl => ?_)
    refine lv_goto (tgt := 18) hx hb dX5_runsBy_51 (by decide) ?_
    exact hK18 x1 x2 x3 x4_48 h g _ _ _ HW hG (lv_sub hl [1, 2, 3, 4, 0] rfl)
  have L18 : ∀ (n : Nat) (x1 : Int32) (x2 : Int32) (x3 : Int32) (x4 : Int32) (h : HI) (g : HL) (H : Heap) (locs : List Loc) (ls : Array Slot), lpN (F_X5_runsBy_18 Q) n (x1, x2, x3, x4, h, g) → gG D cy ad (gA ad s.heap.size) s.heap h g H locs → lv_has ls 5 [(0, .ref (ad 118)), (1, .int x1), (2, .int x2), (3, .int x3), (4, .int x4)] → W p l e ({ frames := 1, cells := 0, slots := 0, locals := 22 } : Room) s m args below meth c H locs 0 0 (MQ below (va_Qi (fun (r : Int32) (u : HI × HL) => Q r u.1 u.2) (gB D cy ad s.heap.size) (gA ad s.heap.size)) args s 0 0 (gA ad s.heap.size)) (F0 m 18 ls []) := by
    intro n
    induction n with
    | zero => intro x1 x2 x3 x4 h g H locs ls HW; exact HW.elim
    | succ n ih =>
      intro x1 x2 x3 x4 h g H locs ls HW hG hl
      have HW : b_X5_runsBy_18 Q (fun x1 x2 x3 x4 h g => lpN (F_X5_runsBy_18 Q) n (x1, x2, x3, x4, h, g)) x1 x2 x3 x4 h g := HW
      generalize hKe : (fun (x1 : Int32) (x2 : Int32) (x3 : Int32) (x4 : Int32) (h : HI) (g : HL) => lpN (F_X5_runsBy_18 Q) n (x1, x2, x3, x4, h, g)) = K18 at HW
      have hK18 : ∀ (x1 : Int32) (x2 : Int32) (x3 : Int32) (x4 : Int32) (h : HI) (g : HL) (H : Heap) (locs : List Loc) (ls : Array Slot), K18 x1 x2 x3 x4 h g → gG D cy ad (gA ad s.heap.size) s.heap h g H locs → lv_has ls 5 [(0, .ref (ad 118)), (1, .int x1), (2, .int x2), (3, .int x3), (4, .int x4)] → W p l e ({ frames := 1, cells := 0, slots := 0, locals := 22 } : Room) s m args below meth c H locs 0 0 (MQ below (va_Qi (fun (r : Int32) (u : HI × HL) => Q r u.1 u.2) (gB D cy ad s.heap.size) (gA ad s.heap.size)) args s 0 0 (gA ad s.heap.size)) (F0 m 18 ls []) := by subst hKe; exact ih
      clear ih
      clear hKe
      unfold b_X5_runsBy_18 at HW
      refine lv_iload hx hb dX5_runsBy_18 (lv_at hl 4 rfl) ?_
      refine lv_iconst (v := 3) hx hb dX5_runsBy_20 (by decide) ?_
      refine lv_icmp_ge (tgt := 54) hx hb dX5_runsBy_21 (by decide) (fun c_21 => ?_) (fun c_21 => ?_)
      · replace HW := HW.1 c_21
        refine lv_aload_n hx hb dX5_runsBy_54 rfl (lv_at hl 0 rfl) ?_
        refine g_getr hx hb hw inG5 hown hK hG gl_118 rfl gk_118 (by decide) 5 (by decide) (by rw [gm_118]; decide) (r := 123) gr_118_5 lk24 dX5_runsBy_55 ?_
        refine lv_iload_n hx hb dX5_runsBy_58 rfl (lv_at hl 3 rfl) ?_
        refine lv_bipush (v := 15) hx hb dX5_runsBy_59 (by decide) ?_
        refine lv_iand hx hb dX5_runsBy_61 ?_
        refine g_iald hx hb hK hG gl_123 gk_123 gn_123 HW.1 dX5_runsBy_62 ?_
        replace HW := HW.2
        exact W.iret (v := (h 123 (x3 &&& (15 : Int32)).toNatClampNeg)) hx hb hr (fun t ht hW => ⟨⟨(h 123 (x3 &&& (15 : Int32)).toNatClampNeg), (h, g), rfl, HW, g_B ht hG⟩, hG.2.2.F ht⟩) hG.2.2.2.2 dX5_runsBy_63
      · replace HW := HW.2 c_21
        refine lv_iload_n hx hb dX5_runsBy_24 rfl (lv_at hl 1 rfl) ?_
        refine lv_iload hx hb dX5_runsBy_25 (lv_at hl 4 rfl) ?_
        refine lv_ishr hx hb dX5_runsBy_27 ?_
        refine lv_iconst (v := 1) hx hb dX5_runsBy_28 (by decide) ?_
        refine lv_iand hx hb dX5_runsBy_29 ?_
        refine lv_iconst (v := 1) hx hb dX5_runsBy_30 (by decide) ?_
        refine lv_icmp_ne (tgt := 48) hx hb dX5_runsBy_31 (by decide) (fun c_31 => ?_) (fun c_31 => ?_)
        · replace HW := HW.1 c_31
          exact B48 K18 hK18 x1 x2 x3 x4 h g _ _ _ HW hG (lv_sub hl [0, 1, 2, 3, 4] rfl)
        · replace HW := HW.2 c_31
          refine lv_iload_n hx hb dX5_runsBy_34 rfl (lv_at hl 3 rfl) ?_
          refine lv_aload_n hx hb dX5_runsBy_35 rfl (lv_at hl 0 rfl) ?_
          refine g_getr hx hb hw inG5 hown hK hG gl_118 rfl gk_118 (by decide) 4 (by decide) (by rw [gm_118]; decide) (r := 122) gr_118_4 lk21 dX5_runsBy_36 ?_
          refine lv_iload_n hx hb dX5_runsBy_39 rfl (lv_at hl 2 rfl) ?_
          refine g_iald hx hb hK hG gl_122 gk_122 gn_122 HW.1 dX5_runsBy_40 ?_
          replace HW := HW.2
          refine lv_iconst (v := 4) hx hb dX5_runsBy_41 (by decide) ?_
          refine lv_iload hx hb dX5_runsBy_42 (lv_at hl 4 rfl) ?_
          refine lv_imul hx hb dX5_runsBy_44 ?_
          refine lv_ishr hx hb dX5_runsBy_45 ?_
          refine lv_ior hx hb dX5_runsBy_46 ?_
          refine lv_topi (fun x3_47 ex3_47 => ?_)
          replace HW := HW x3_47 ex3_47
          refine lv_istore_n (lv' := [(3, .int x3_47), (0, .ref (ad 118)), (1, .int x1), (2, .int x2), (4, .int x4)]) hx hb dX5_runsBy_47 rfl hl (by decide) rfl (fun ls hl => ?_)
          exact B48 K18 hK18 x1 x2 x3_47 x4 h g _ _ _ HW hG (lv_sub hl [1, 2, 3, 0, 4] rfl)
  have E0 : ∀ (H : Heap) (locs : List Loc) (ls : Array Slot), gG D cy ad (gA ad s.heap.size) s.heap h g H locs → lv_has ls 5 [(0, .ref (ad 118)), (1, .int x1), (2, .int x2)] → W p l e ({ frames := 1, cells := 0, slots := 0, locals := 22 } : Room) s m args below meth c H locs 0 0 (MQ below (va_Qi (fun (r : Int32) (u : HI × HL) => Q r u.1 u.2) (gB D cy ad s.heap.size) (gA ad s.heap.size)) args s 0 0 (gA ad s.heap.size)) (F0 m 0 ls []) := by
    intro H locs ls hG hl
    unfold w_X5_runsBy at HW
    refine lv_iload_n hx hb dX5_runsBy_0 rfl (lv_at hl 2 rfl) ?_
    refine lv_iconst (v := 0) hx hb dX5_runsBy_1 (by decide) ?_
    refine lv_sipush (v := 255) hx hb dX5_runsBy_2 (by decide) ?_
    obtain ⟨P_5, HC_5, HW⟩ := HW
    refine g_callz (g_runSN (As := [.int x2, .int (0 : Int32), .int (255 : Int32)]) (rest := []) ⟨hx, hb, hml, hown, hts⟩ (m_X10_within l D cy ad h g H.size x2 (0 : Int32) (255 : Int32) P_5 HC_5) ⟨va_cnB 3 hts (gd_w (wm2 195 rfl rfl)) rfl rfl rfl (hNw _ (List.mem_of_getElem? (i := 4) rfl)) (hw (.initialized RX10) (wm1 1 rfl rfl)) (by decide +kernel) ⟨Nat.le_of_ble_eq_true rfl, Nat.le_of_ble_eq_true rfl⟩, hw (.static yX10_within) (wm2 194 rfl rfl), trivial⟩ hK hNw hG rfl rfl hl.1 rfl (lv_room (Nat.le_of_ble_eq_true rfl)) dX5_runsBy_5 ⟨Nat.zero_le _, Nat.zero_le _⟩) hG (fun r_5 h_5 g_5 H locs hz hq hG => ?_)
    replace HW := HW r_5 h_5 g_5 hz hq
    refine lv_if_ne (tgt := 13) hx hb dX5_runsBy_8 (by decide) (fun c_8 => ?_) (fun c_8 => ?_)
    · replace HW := HW.1 c_8
      refine lv_iconst (v := 0) hx hb dX5_runsBy_13 (by decide) ?_
      refine lv_istore_n (lv' := [(3, .int (0 : Int32)), (0, .ref (ad 118)), (1, .int x1), (2, .int x2)]) hx hb dX5_runsBy_14 rfl hl (by decide) rfl (fun ls hl => ?_)
      refine lv_iconst (v := 0) hx hb dX5_runsBy_15 (by decide) ?_
      refine lv_istore (lv' := [(4, .int (0 : Int32)), (3, .int (0 : Int32)), (0, .ref (ad 118)), (1, .int x1), (2, .int x2)]) hx hb dX5_runsBy_16 hl (by decide) rfl (fun ls hl => ?_)
      obtain ⟨n_18, HW⟩ := HW
      exact L18 n_18 x1 x2 (0 : Int32) (0 : Int32) h_5 g_5 _ _ _ HW hG (lv_sub hl [2, 3, 4, 1, 0] rfl)
    · replace HW := HW.2 c_8
      refine lv_iconst (v := 0) hx hb dX5_runsBy_11 (by decide) ?_
      exact W.iret (v := (0 : Int32)) hx hb hr (fun t ht hW => ⟨⟨(0 : Int32), (h_5, g_5), rfl, HW, g_B ht hG⟩, hG.2.2.F ht⟩) hG.2.2.2.2 dX5_runsBy_12
  exact E0 _ _ _ hG hl
