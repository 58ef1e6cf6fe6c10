section
-- 03.w06
def j_X5_chooseBits_259 (Q : HI → HL → Prop) (K74 : Int32 → Int32 → Int32 → HI → HL → Prop) (x1 : Int32) (x2 : Int32) (x3 : Int32) (h : HI) (g : HL) : Prop :=
  (∀ x3_259 : Int32, x3_259 = (x3 + 1) → K74 x1 x2 x3_259 h g)
def b_X5_chooseBits_207 (Q : HI → HL → Prop) (K74 : Int32 → Int32 → Int32 → HI → HL → Prop) (K207 : Int32 → Int32 → Int32 → Int32 → HI → HL → Prop) (x1 : Int32) (x2 : Int32) (x3 : Int32) (x8 : Int32) (h : HI) (g : HL) : Prop :=
  (vp_in x3 12 ∧ (((h 121 x3.toNatClampNeg) ≤ x8 → (∀ h_256 : HI, h_256 = hu h 118 9 ((h 118 9) + (1 : Int32)) → j_X5_chooseBits_259 Q K74 x1 x2 x3 h_256 g)) ∧ (¬ (h 121 x3.toNatClampNeg) ≤ x8 → (vp_in x3 12 ∧ (vp_in x8 256 ∧ (vp_in (x8 ||| (h 121 x3.toNatClampNeg)) 256 ∧ ∀ h_242 : HI, h_242 = hu h 122 (x8 ||| (h 121 x3.toNatClampNeg)).toNatClampNeg ((h 122 x8.toNatClampNeg) ||| ((1 : Int32) <<< (x3 &&& 31))) → (∀ x8_243 : Int32, x8_243 = (x8 + 1) → K207 x1 x2 x3 x8_243 h_242 g)))))))
def F_X5_chooseBits_207 (Q : HI → HL → Prop) (K74 : Int32 → Int32 → Int32 → HI → HL → Prop) (K : Int32 × Int32 × Int32 × Int32 × HI × HL → Prop) (q : Int32 × Int32 × Int32 × Int32 × HI × HL) : Prop := b_X5_chooseBits_207 Q K74 (fun x1 x2 x3 x8 h g => K (x1, x2, x3, x8, h, g)) q.1 q.2.1 q.2.2.1 q.2.2.2.1 q.2.2.2.2.1 q.2.2.2.2.2
def j_X5_chooseBits_157 (Q : HI → HL → Prop) (K74 : Int32 → Int32 → Int32 → HI → HL → Prop) (x1 : Int32) (x2 : Int32) (x3 : Int32) (x6 : Int32) (s0 : Int32) (h : HI) (g : HL) : Prop :=
  (vp_in x3 12 ∧ ∀ h_165 : HI, h_165 = hu h 121 x3.toNatClampNeg (0 : Int32) → ((x6 = 0 → j_X5_chooseBits_259 Q K74 x1 x2 x3 h_165 g) ∧ (¬ x6 = 0 → ((s0 = 0 → j_X5_chooseBits_259 Q K74 x1 x2 x3 h_165 g) ∧ (¬ s0 = 0 → (∃ P_183 : Int32 → HI → HL → Prop, w_X10_within (h_165 118 9) (0 : Int32) (7 : Int32) h_165 g P_183 ∧ ∀ (r_183 : Int32) (h_183 : HI) (g_183 : HL), zb r_183 → P_183 r_183 h_183 g_183 → ((¬ r_183 = 0 → (vp_in x3 12 ∧ ∀ h_203 : HI, h_203 = hu h_183 121 x3.toNatClampNeg ((1 : Int32) <<< ((h_183 118 9) &&& 31)) → lpE (F_X5_chooseBits_207 Q K74) (x1, x2, x3, (0 : Int32), h_203, g_183))) ∧ (r_183 = 0 → j_X5_chooseBits_259 Q K74 x1 x2 x3 h_183 g_183))))))))
def j_X5_chooseBits_156 (Q : HI → HL → Prop) (K74 : Int32 → Int32 → Int32 → HI → HL → Prop) (x1 : Int32) (x2 : Int32) (x3 : Int32) (x6 : Int32) (h : HI) (g : HL) : Prop :=
  j_X5_chooseBits_157 Q K74 x1 x2 x3 x6 (0 : Int32) h g
def j_X5_chooseBits_124 (Q : HI → HL → Prop) (K74 : Int32 → Int32 → Int32 → HI → HL → Prop) (x1 : Int32) (x2 : Int32) (x3 : Int32) (x5 : Int32) (s0 : Int32) (h : HI) (g : HL) : Prop :=
  ((¬ ((x2 >>> (x5 &&& 31)) &&& (1 : Int32)) = (1 : Int32) → j_X5_chooseBits_156 Q K74 x1 x2 x3 s0 h g) ∧ (((x2 >>> (x5 &&& 31)) &&& (1 : Int32)) = (1 : Int32) → (∃ P_146 : Int32 → HI → HL → Prop, w_X8_at 22 x5 (0 : Int32) h g P_146 ∧ ∀ (r_146 : Int32) (h_146 : HI) (g_146 : HL), P_146 r_146 h_146 g_146 → ((r_146 ≤ 0 → j_X5_chooseBits_156 Q K74 x1 x2 x3 s0 h_146 g_146) ∧ (¬ r_146 ≤ 0 → j_X5_chooseBits_157 Q K74 x1 x2 x3 s0 (1 : Int32) h_146 g_146)))))
def j_X5_chooseBits_123 (Q : HI → HL → Prop) (K74 : Int32 → Int32 → Int32 → HI → HL → Prop) (x1 : Int32) (x2 : Int32) (x3 : Int32) (x5 : Int32) (h : HI) (g : HL) : Prop :=
  j_X5_chooseBits_124 Q K74 x1 x2 x3 x5 (0 : Int32) h g
def b_X5_chooseBits_74 (Q : HI → HL → Prop) (K74 : Int32 → Int32 → Int32 → HI → HL → Prop) (x1 : Int32) (x2 : Int32) (x3 : Int32) (h : HI) (g : HL) : Prop :=
  (((12 : Int32) ≤ x3 → Q h g) ∧ (¬ (12 : Int32) ≤ x3 → (∀ x4_86 : Int32, x4_86 = (x3 / (4 : Int32)) → (∀ x5_91 : Int32, x5_91 = (x3 - x3 / (4 : Int32) * (4 : Int32)) → (∃ P_102 : Int32 → HI → HL → Prop, w_X8_rows 20 h g P_102 ∧ ∀ (r_102 : Int32) (h_102 : HI) (g_102 : HL), P_102 r_102 h_102 g_102 → ((r_102 ≤ x4_86 → j_X5_chooseBits_123 Q K74 x1 x2 x3 x5_91 h_102 g_102) ∧ (¬ r_102 ≤ x4_86 → (∃ P_113 : Int32 → HI → HL → Prop, w_X5_knows x1 x4_86 x5_91 h_102 g_102 P_113 ∧ ∀ (r_113 : Int32) (h_113 : HI) (g_113 : HL), zb r_113 → P_113 r_113 h_113 g_113 → ((¬ r_113 = 0 → j_X5_chooseBits_123 Q K74 x1 x2 x3 x5_91 h_113 g_113) ∧ (r_113 = 0 → j_X5_chooseBits_124 Q K74 x1 x2 x3 x5_91 (1 : Int32) h_113 g_113))))))))))
def F_X5_chooseBits_74 (Q : HI → HL → Prop) (K : Int32 × Int32 × Int32 × HI × HL → Prop) (q : Int32 × Int32 × Int32 × HI × HL) : Prop := b_X5_chooseBits_74 Q (fun x1 x2 x3 h g => K (x1, x2, x3, h, g)) q.1 q.2.1 q.2.2.1 q.2.2.2.1 q.2.2.2.2
def b_X5_chooseBits_6 (Q : HI → HL → Prop) (K6 : Int32 → Int32 → Int32 → HI → HL → Prop) (x1 : Int32) (x2 : Int32) (x3 : Int32) (h : HI) (g : HL) : Prop :=
  (∃ P_14 : Int32 → HI → HL → Prop, w_X8_rows 20 h g P_14 ∧ ∀ (r_14 : Int32) (h_14 : HI) (g_14 : HL), P_14 r_14 h_14 g_14 → ((r_14 ≤ x3 → (∀ h_62 : HI, h_62 = hu h_14 118 9 (0 : Int32) → (vp_in (0 : Int32) 256 ∧ ∀ h_71 : HI, h_71 = hu h_62 122 (0 : Int32).toNatClampNeg x1 → lpE (F_X5_chooseBits_74 Q) (x1, x2, (0 : Int32), h_71, g_14)))) ∧ (¬ r_14 ≤ x3 → (∃ P_30 : Int32 → HI → HL → Prop, w_X8_at 20 x3 (0 : Int32) h_14 g_14 P_30 ∧ ∀ (r_30 : Int32) (h_30 : HI) (g_30 : HL), P_30 r_30 h_30 g_30 → (∀ x1_38 : Int32, x1_38 = (x1 ||| (r_30 <<< (((4 : Int32) * x3) &&& 31))) → (∃ P_49 : Int32 → HI → HL → Prop, w_X8_at 20 x3 (0 : Int32) h_30 g_30 P_49 ∧ ∀ (r_49 : Int32) (h_49 : HI) (g_49 : HL), P_49 r_49 h_49 g_49 → (∀ x2_53 : Int32, x2_53 = (x2 ||| r_49) → (∀ x3_54 : Int32, x3_54 = (x3 + 1) → K6 x1_38 x2_53 x3_54 h_49 g_49))))))))
def F_X5_chooseBits_6 (Q : HI → HL → Prop) (K : Int32 × Int32 × Int32 × HI × HL → Prop) (q : Int32 × Int32 × Int32 × HI × HL) : Prop := b_X5_chooseBits_6 Q (fun x1 x2 x3 h g => K (x1, x2, x3, h, g)) q.1 q.2.1 q.2.2.1 q.2.2.2.1 q.2.2.2.2
def w_X5_chooseBits  (h : HI) (g : HL) (Q : HI → HL → Prop) : Prop :=
  lpE (F_X5_chooseBits_6 Q) ((0 : Int32), (0 : Int32), (0 : Int32), h, g)
set_option maxHeartbeats 8000000 in
set_option maxRecDepth 100000 in
theorem m_X5_chooseBits (l : Launch) (D : va_G) (cy : Nat → ClassId) (ad : Nat → Nat) (h : HI) (g : HL) (sz : Nat)  (Q : HI → HL → Prop) (HW : w_X5_chooseBits h g Q) : Met l yX5_chooseBits (wa yX5_chooseBits cX5_chooseBits 9 none) ({ frames := 1, cells := 0, slots := 0, locals := 23 }) (va_Pc [.ref (ad 118)] (gI D cy ad h g sz)) (va_Qv (fun (u : HI × HL) => Q u.1 u.2) (gB D cy ad sz) (gA ad sz)) 0 0 (gA ad sz) := by
  refine Met.ofW (cc := cX5_chooseBits) (maxL := 9) (ret := none) (by decide) rfl ?_
  intro p e s m args below meth c s₁ B hml hv
  obtain ⟨hav, hsz, hP, hK, hD0, hNw⟩ := hv
  have hx := B.exec
  have hb := B.bytes
  have hr := B.returns
  have hts := atoms_spec (ws := (wa yX5_chooseBits cX5_chooseBits 9 none)) B.pre
  have hw := wa_hw hts
  have hown : s.vm.findClass RX5 = some m.cls := findClass_of_methodNamed B.named
  have hlocks := B.notSynchronized
  subst hsz
  have hG : gG D cy ad (gA ad s.heap.size) s.heap h g s.heap [] := ⟨hP, gA_self hD0, va_S.rf⟩
  clear hP hD0
  have lk35 := hw (.fieldLink RX5 35 "OldWorks$Plans" "shop" "LOldWorks$Shop;") (wm2 121 rfl rfl)
  have lk76 := hw (.fieldLink RX5 76 "OldWorks$Shop" "hands" "LOldWorks$Table;") (wm1 90 rfl rfl)
  have lk64 := hw (.fieldLink RX5 64 "OldWorks$Plans" "learned" "I") (wm2 130 rfl rfl)
  have lk21 := hw (.fieldLink RX5 21 "OldWorks$Plans" "skilled" "[I") (wm2 125 rfl rfl)
  have lk18 := hw (.fieldLink RX5 18 "OldWorks$Plans" "bits" "[I") (wm2 124 rfl rfl)
  have lk95 := hw (.fieldLink RX5 95 "OldWorks$Shop" "runs" "LOldWorks$Table;") (wm1 93 rfl rfl)
  rw [show (headSpec (wa yX5_chooseBits cX5_chooseBits 9 none) ({ frames := 1, cells := 0, slots := 0, locals := 23 } : Room)).room = ({ frames := 1, cells := 0, slots := 0, locals := 23 } : Room) from rfl]
  have hl := lv_entry ([.ref (ad 118)]) (n := 9) (Nat.le_of_ble_eq_true rfl)
  rw [show entryFrame m args 9 = entryFrame m ([.ref (ad 118)] : List Value).toArray 9 from by rw [hav], lg_entry_eq]
  generalize (lg_sl ([.ref (ad 118)]) ++ List.replicate (9 - (lg_sl ([.ref (ad 118)])).length) Slot.unset).toArray = ls at hl ⊢
  have hl : lv_has ls 9 [(0, .ref (ad 118))] := hl
  have B259 : ∀ (K74 : Int32 → Int32 → Int32 → HI → HL → Prop) (hK74 : ∀ (x1 : Int32) (x2 : Int32) (x3 : Int32) (h : HI) (g : HL) (H : Heap) (locs : List Loc) (ls : Array Slot), K74 x1 x2 x3 h g → gG D cy ad (gA ad s.heap.size) s.heap h g H locs → lv_has ls 9 [(0, .ref (ad 118)), (1, .int x1), (2, .int x2), (3, .int x3)] → W p l e ({ frames := 1, cells := 0, slots := 0, locals := 23 } : Room) s m args below meth c H locs 0 0 (MQ below (va_Qv (fun (u : HI × HL) => Q u.1 u.2) (gB D cy ad s.heap.size) (gA ad s.heap.size)) args s 0 0 (gA ad s.heap.size)) (F0 m 74 ls [])) (x1 : Int32) (x2 : Int32) (x3 : Int32) (h : HI) (g : HL) (H : Heap) (locs : List Loc) (ls : Array Slot), j_X5_chooseBits_259 Q K74 x1 x2 x3 h g → gG D cy ad (gA ad s.heap.size) s.heap h g H locs → lv_has ls 9 [(0, .ref (ad 118)), (1, .int x1), (2, .int x2), (3, .int x3)] → W p l e ({ frames := 1, cells := 0, slots := 0, locals := 23 } : Room) s m args below meth c H locs 0 0 (MQ below (va_Qv (fun (u : HI × HL) => Q u.1 u.2) (gB D cy ad s.heap.size) (gA ad s.heap.size)) args s 0 0 (gA ad s.heap.size)) (F0 m 259 ls []) := by
    intro K74 hK74 x1 x2 x3 h g H locs ls HW hG hl
    unfold j_X5_chooseBits_259 at HW
    obtain ⟨x3_259, ex3_259⟩ : ∃ y : Int32, y = (x3 + 1) := ⟨_, rfl⟩
    replace HW := HW x3_259 ex3_259
    refine lv_iinc (v := x3_259) (lv' := [(3, .int x3_259), (0, .ref (ad 118)), (1, .int x1), (2, .int x2)]) hx hb dX5_chooseBits_259 hl (k := 3) rfl (by rw [ex3_259]; rfl) (by decide) rfl (fun ls hl => ?_)
    refine lv_goto (tgt := 74) hx hb dX5_chooseBits_262 (by decide) ?_
    exact hK74 x1 x2 x3_259 h g _ _ _ HW hG (lv_sub hl [1, 2, 3, 0] rfl)
  have L207 : ∀ (K74 : Int32 → Int32 → Int32 → HI → HL → Prop) (hK74 : ∀ (x1 : Int32) (x2 : Int32) (x3 : Int32) (h : HI) (g : HL) (H : Heap) (locs : List Loc) (ls : Array Slot), K74 x1 x2 x3 h g → gG D cy ad (gA ad s.heap.size) s.heap h g H locs → lv_has ls 9 [(0, .ref (ad 118)), (1, .int x1), (2, .int x2), (3, .int x3)] → W p l e ({ frames := 1, cells := 0, slots := 0, locals := 23 } : Room) s m args below meth c H locs 0 0 (MQ below (va_Qv (fun (u : HI × HL) => Q u.1 u.2) (gB D cy ad s.heap.size) (gA ad s.heap.size)) args s 0 0 (gA ad s.heap.size)) (F0 m 74 ls [])) (n : Nat) (x1 : Int32) (x2 : Int32) (x3 : Int32) (x8 : Int32) (h : HI) (g : HL) (H : Heap) (locs : List Loc) (ls : Array Slot), lpN (F_X5_chooseBits_207 Q K74) n (x1, x2, x3, x8, h, g) → gG D cy ad (gA ad s.heap.size) s.heap h g H locs → lv_has ls 9 [(0, .ref (ad 118)), (1, .int x1), (2, .int x2), (3, .int x3), (8, .int x8)] → W p l e ({ frames := 1, cells := 0, slots := 0, locals := 23 } : Room) s m args below meth c H locs 0 0 (MQ below (va_Qv (fun (u : HI × HL) => Q u.1 u.2) (gB D cy ad s.heap.size) (gA ad s.heap.size)) args s 0 0 (gA ad s.heap.size)) (F0 m 207 ls []) := by
    intro K74 hK74 n
    induction n with
    | zero => intro x1 x2 x3 x8 h g H locs ls HW; exact HW.elim
    | succ n ih =>
      intro x1 x2 x3 x8 h g H locs ls HW hG hl
      have HW : b_X5_chooseBits_207 Q K74 (fun x1 x2 x3 x8 h g => lpN (F_X5_chooseBits_207 Q K74) n (x1, x2, x3, x8, h, g)) x1 x2 x3 x8 h g := HW
      generalize hKe : (fun (x1 : Int32) (x2 : Int32) (x3 : Int32) (x8 : Int32) (h : HI) (g : HL) => lpN (F_X5_chooseBits_207 Q K74) n (x1, x2, x3, x8, h, g)) = K207 at HW
      have hK207 : ∀ (x1 : Int32) (x2 : Int32) (x3 : Int32) (x8 : Int32) (h : HI) (g : HL) (H : Heap) (locs : List Loc) (ls : Array Slot), K207 x1 x2 x3 x8 h g → gG D cy ad (gA ad s.heap.size) s.heap h g H locs → lv_has ls 9 [(0, .ref (ad 118)), (1, .int x1), (2, .int x2), (3, .int x3), (8, .int x8)] → W p l e ({ frames := 1, cells := 0, slots := 0, locals := 23 } : Room) s m args below meth c H locs 0 0 (MQ below (va_Qv (fun (u : HI × HL) => Q u.1 u.2) (gB D cy ad s.heap.size) (gA ad s.heap.size)) args s 0 0 (gA ad s.heap.size)) (F0 m 207 ls []) := by subst hKe; exact ih
      clear ih
      clear hKe
      unfold b_X5_chooseBits_207 at HW
      refine lv_iload hx hb dX5_chooseBits_207 (lv_at hl 4 rfl) ?_
      refine lv_aload_n hx hb dX5_chooseBits_209 rfl (lv_at hl 0 rfl) ?_
      refine g_getr hx hb hw inG5 hown hK hG gl_118 rfl gk_118 (by decide) 3 (by decide) (by rw [gm_118]; decide) (r := 121) gr_118_3 lk18 dX5_chooseBits_210 ?_
      refine lv_iload_n hx hb dX5_chooseBits_213 rfl (lv_at hl 3 rfl) ?_
      refine g_iald hx hb hK hG gl_121 gk_121 gn_121 HW.1 dX5_chooseBits_214 ?_
      replace HW := HW.2
      refine lv_icmp_ge (tgt := 249) hx hb dX5_chooseBits_215 (by decide) (fun c_215 => ?_) (fun c_215 => ?_)
      · replace HW := HW.1 c_215
        refine lv_aload_n hx hb dX5_chooseBits_249 rfl (lv_at hl 0 rfl) ?_
        refine lv_dup hx hb dX5_chooseBits_250 rfl ?_
        refine g_geti hx hb hw inG5 hown hK hG gl_118 rfl gk_118 (by decide) 9 (by decide) (by rw [gm_118]; decide) gr_118_9 lk64 dX5_chooseBits_251 ?_
        refine lv_iconst (v := 1) hx hb dX5_chooseBits_254 (by decide) ?_
        refine lv_iadd hx hb dX5_chooseBits_255 ?_
        refine g_put hx hb hw inG5 tyX5 tyX5_ok nmX5 hown hK hG gl_118 rfl gk_118 (by decide) 9 (by decide) (by rw [gm_118]; decide) gr_118_9 rfl (ty := .int) (by decide +kernel) rfl rfl lk64 dX5_chooseBits_256 (fun H locs hG => ?_)
        obtain ⟨h_256, eh_256⟩ : ∃ y : HI, y = hu h 118 9 ((h 118 9) + (1 : Int32)) := ⟨_, rfl⟩
        rw [← eh_256] at hG
        replace HW := HW h_256 eh_256
        exact B259 K74 hK74 x1 x2 x3 h_256 g _ _ _ HW hG (lv_sub hl [0, 1, 2, 3] rfl)
      · replace HW := HW.2 c_215
        refine lv_aload_n hx hb dX5_chooseBits_218 rfl (lv_at hl 0 rfl) ?_
        refine g_getr hx hb hw inG5 hown hK hG gl_118 rfl gk_118 (by decide) 4 (by decide) (by rw [gm_118]; decide) (r := 122) gr_118_4 lk21 dX5_chooseBits_219 ?_
        refine lv_iload hx hb dX5_chooseBits_222 (lv_at hl 4 rfl) ?_
        refine lv_aload_n hx hb dX5_chooseBits_224 rfl (lv_at hl 0 rfl) ?_
        refine g_getr hx hb hw inG5 hown hK hG gl_118 rfl gk_118 (by decide) 3 (by decide) (by rw [gm_118]; decide) (r := 121) gr_118_3 lk18 dX5_chooseBits_225 ?_
        refine lv_iload_n hx hb dX5_chooseBits_228 rfl (lv_at hl 3 rfl) ?_
        refine g_iald hx hb hK hG gl_121 gk_121 gn_121 HW.1 dX5_chooseBits_229 ?_
        replace HW := HW.2
        refine lv_ior hx hb dX5_chooseBits_230 ?_
        refine lv_aload_n hx hb dX5_chooseBits_231 rfl (lv_at hl 0 rfl) ?_
        refine g_getr hx hb hw inG5 hown hK hG gl_118 rfl gk_118 (by decide) 4 (by decide) (by rw [gm_118]; decide) (r := 122) gr_118_4 lk21 dX5_chooseBits_232 ?_
        refine lv_iload hx hb dX5_chooseBits_235 (lv_at hl 4 rfl) ?_
        refine g_iald hx hb hK hG gl_122 gk_122 gn_122 HW.1 dX5_chooseBits_237 ?_
        replace HW := HW.2
        refine lv_iconst (v := 1) hx hb dX5_chooseBits_238 (by decide) ?_
        refine lv_iload_n hx hb dX5_chooseBits_239 rfl (lv_at hl 3 rfl) ?_
        refine lv_ishl hx hb dX5_chooseBits_240 ?_
        refine lv_ior hx hb dX5_chooseBits_241 ?_
        refine g_iast hx hb hK hG gl_122 gk_122 gn_122 HW.1 dX5_chooseBits_242 (fun H locs hG => ?_)
        replace HW := HW.2
        obtain ⟨h_242, eh_242⟩ : ∃ y : HI, y = hu h 122 (x8 ||| (h 121 x3.toNatClampNeg)).toNatClampNeg ((h 122 x8.toNatClampNeg) ||| ((1 : Int32) <<< (x3 &&& 31))) := ⟨_, rfl⟩
        rw [← eh_242] at hG
        replace HW := HW h_242 eh_242
        obtain ⟨x8_243, ex8_243⟩ : ∃ y : Int32, y = (x8 + 1) := ⟨_, rfl⟩
        replace HW := HW x8_243 ex8_243
        refine lv_iinc (v := x8_243) (lv' := [(8, .int x8_243), (0, .ref (ad 118)), (1, .int x1), (2, .int x2), (3, .int x3)]) hx hb dX5_chooseBits_243 hl (k := 4) rfl (by rw [ex8_243]; rfl) (by decide) rfl (fun ls hl => ?_)
        refine lv_goto (tgt := 207) hx hb dX5_chooseBits_246 (by decide) ?_
        exact hK207 x1 x2 x3 x8_243 h_242 g _ _ _ HW hG (lv_sub hl [1, 2, 3, 4, 0] rfl)
  have B157 : ∀ (K74 : Int32 → Int32 → Int32 → HI → HL → Prop) (hK74 : ∀ (x1 : Int32) (x2 : Int32) (x3 : Int32) (h : HI) (g : HL) (H : Heap) (locs : List Loc) (ls : Array Slot), K74 x1 x2 x3 h g → gG D cy ad (gA ad s.heap.size) s.heap h g H locs → lv_has ls 9 [(0, .ref (ad 118)), (1, .int x1), (2, .int x2), (3, .int x3)] → W p l e ({ frames := 1, cells := 0, slots := 0, locals := 23 } : Room) s m args below meth c H locs 0 0 (MQ below (va_Qv (fun (u : HI × HL) => Q u.1 u.2) (gB D cy ad s.heap.size) (gA ad s.heap.size)) args s 0 0 (gA ad s.heap.size)) (F0 m 74 ls [])) (x1 : Int32) (x2 : Int32) (x3 : Int32) (x6 : Int32) (s0 : Int32) (h : HI) (g : HL) (H : Heap) (locs : List Loc) (ls : Array Slot), j_X5_chooseBits_157 Q K74 x1 x2 x3 x6 s0 h g → gG D cy ad (gA ad s.heap.size) s.heap h g H locs → lv_has ls 9 [(0, .ref (ad 118)), (1, .int x1), (2, .int x2), (3, .int x3), (6, .int x6)] → W p l e ({ frames := 1, cells := 0, slots := 0, locals := 23 } : Room) s m args below meth c H locs 0 0 (MQ below (va_Qv (fun (u : HI × HL) => Q u.1 u.2) (gB D cy ad s.heap.size) (gA ad s.heap.size)) args s 0 0 (gA ad s.heap.size)) (F0 m 157 ls [.int s0]) := by
    intro K74 hK74 x1 x2 x3 x6 s0 h g H locs ls HW hG hl
    unfold j_X5_chooseBits_157 at HW
    refine lv_istore (lv' := [(7, .int s0), (0, .ref (ad 118)), (1, .int x1), (2, .int x2), (3, .int x3), (6, .int x6)]) hx hb dX5_chooseBits_157 hl (by decide) rfl (fun ls hl => ?_)
    refine lv_aload_n hx hb dX5_chooseBits_159 rfl (lv_at hl 1 rfl) ?_
    refine g_getr hx hb hw inG5 hown hK hG gl_118 rfl gk_118 (by decide) 3 (by decide) (by rw [gm_118]; decide) (r := 121) gr_118_3 lk18 dX5_chooseBits_160 ?_
    refine lv_iload_n hx hb dX5_chooseBits_163 rfl (lv_at hl 4 rfl) ?_
    refine lv_iconst (v := 0) hx hb dX5_chooseBits_164 (by decide) ?_
    refine g_iast hx hb hK hG gl_121 gk_121 gn_121 HW.1 dX5_chooseBits_165 (fun H locs hG => ?_)
    replace HW := HW.2
    obtain ⟨h_165, eh_165⟩ : ∃ y : HI, y = hu h 121 x3.toNatClampNeg (0 : Int32) := ⟨_, rfl⟩
    rw [← eh_165] at hG
    replace HW := HW h_165 eh_165
    refine lv_iload hx hb dX5_chooseBits_166 (lv_at hl 5 rfl) ?_
    refine lv_if_eq (tgt := 259) hx hb dX5_chooseBits_168 (by decide) (fun c_168 => ?_) (fun c_168 => ?_)
    · replace HW := HW.1 c_168
      exact B259 K74 hK74 x1 x2 x3 h_165 g _ _ _ HW hG (lv_sub hl [1, 2, 3, 4] rfl)
    · replace HW := HW.2 c_168
      refine lv_iload hx hb dX5_chooseBits_171 (lv_at hl 0 rfl) ?_
      refine lv_if_eq (tgt := 259) hx hb dX5_chooseBits_173 (by decide) (fun c_173 => ?_) (fun c_173 => ?_)
      · replace HW := HW.1 c_173
        exact B259 K74 hK74 x1 x2 x3 h_165 g _ _ _ HW hG (lv_sub hl [1, 2, 3, 4] rfl)
      · replace HW := HW.2 c_173
        refine lv_aload_n hx hb dX5_chooseBits_176 rfl (lv_at hl 1 rfl) ?_
        refine g_geti hx hb hw inG5 hown hK hG gl_118 rfl gk_118 (by decide) 9 (by decide) (by rw [gm_118]; decide) gr_118_9 lk64 dX5_chooseBits_177 ?_
        refine lv_iconst (v := 0) hx hb dX5_chooseBits_180 (by decide) ?_
        refine lv_bipush (v := 7) hx hb dX5_chooseBits_181 (by decide) ?_
        obtain ⟨P_183, HC_183, HW⟩ := HW
        refine g_callz (g_runSN (As := [.int (h_165 118 9), .int (0 : Int32), .int (7 : Int32)]) (rest := []) ⟨hx, hb, hml, hown, hts⟩ (m_X10_within l D cy ad h_165 g H.size (h_165 118 9) (0 : Int32) (7 : Int32) P_183 HC_183) ⟨va_cnB 3 hts (gd_w (wm2 195 rfl rfl)) rfl rfl rfl (hNw _ (List.mem_of_getElem? (i := 4) rfl)) (hw (.initialized RX10) (wm1 1 rfl rfl)) (by decide +kernel) ⟨Nat.le_of_ble_eq_true rfl, Nat.le_of_ble_eq_true rfl⟩, hw (.static yX10_within) (wm2 194 rfl rfl), trivial⟩ hK hNw hG rfl rfl hl.1 rfl (lv_room (Nat.le_of_ble_eq_true rfl)) dX5_chooseBits_183 ⟨Nat.zero_le _, Nat.zero_le _⟩) hG (fun r_183 h_183 g_183 H locs hz hq hG => ?_)
        replace HW := HW r_183 h_183 g_183 hz hq
        refine lv_if_ne (tgt := 192) hx hb dX5_chooseBits_186 (by decide) (fun c_186 => ?_) (fun c_186 => ?_)
        · replace HW := HW.1 c_186
          refine lv_aload_n hx hb dX5_chooseBits_192 rfl (lv_at hl 1 rfl) ?_
          refine g_getr hx hb hw inG5 hown hK hG gl_118 rfl gk_118 (by decide) 3 (by decide) (by rw [gm_118]; decide) (r := 121) gr_118_3 lk18 dX5_chooseBits_193 ?_
          refine lv_iload_n hx hb dX5_chooseBits_196 rfl (lv_at hl 4 rfl) ?_
          refine lv_iconst (v := 1) hx hb dX5_chooseBits_197 (by decide) ?_
          refine lv_aload_n hx hb dX5_chooseBits_198 rfl (lv_at hl 1 rfl) ?_
          refine g_geti hx hb hw inG5 hown hK hG gl_118 rfl gk_118 (by decide) 9 (by decide) (by rw [gm_118]; decide) gr_118_9 lk64 dX5_chooseBits_199 ?_
          refine lv_ishl hx hb dX5_chooseBits_202 ?_
          refine g_iast hx hb hK hG gl_121 gk_121 gn_121 HW.1 dX5_chooseBits_203 (fun H locs hG => ?_)
          replace HW := HW.2
          obtain ⟨h_203, eh_203⟩ : ∃ y : HI, y = hu h_183 121 x3.toNatClampNeg ((1 : Int32) <<< ((h_183 118 9) &&& 31)) := ⟨_, rfl⟩
          rw [← eh_203] at hG
          replace HW := HW h_203 eh_203
          refine lv_iconst (v := 0) hx hb dX5_chooseBits_204 (by decide) ?_
          refine lv_istore (lv' := [(8, .int (0 : Int32)), (7, .int s0), (0, .ref (ad 118)), (1, .int x1), (2, .int x2), (3, .int x3), (6, .int x6)]) hx hb dX5_chooseBits_205 hl (by decide) rfl (fun ls hl => ?_)
          obtain ⟨n_207, HW⟩ := HW
          exact L207 K74 hK74 n_207 x1 x2 x3 (0 : Int32) h_203 g_183 _ _ _ HW hG (lv_sub hl [2, 3, 4, 5, 0] rfl)
        · replace HW := HW.2 c_186
          refine lv_goto (tgt := 259) hx hb dX5_chooseBits_189 (by decide) ?_
          exact B259 K74 hK74 x1 x2 x3 h_183 g_183 _ _ _ HW hG (lv_sub hl [1, 2, 3, 4] rfl)
  have B156 : ∀ (K74 : Int32 → Int32 → Int32 → HI → HL → Prop) (hK74 : ∀ (x1 : Int32) (x2 : Int32) (x3 : Int32) (h : HI) (g : HL) (H : Heap) (locs : List Loc) (ls : Array Slot), K74 x1 x2 x3 h g → gG D cy ad (gA ad s.heap.size) s.heap h g H locs → lv_has ls 9 [(0, .ref (ad 118)), (1, .int x1), (2, .int x2), (3, .int x3)] → W p l e ({ frames := 1, cells := 0, slots := 0, locals := 23 } : Room) s m args below meth c H locs 0 0 (MQ below (va_Qv (fun (u : HI × HL) => Q u.1 u.2) (gB D cy ad s.heap.size) (gA ad s.heap.size)) args s 0 0 (gA ad s.heap.size)) (F0 m 74 ls [])) (x1 : Int32) (x2 : Int32) (x3 : Int32) (x6 : Int32) (h : HI) (g : HL) (H : Heap) (locs : List Loc) (ls : Array Slot), j_X5_chooseBits_156 Q K74 x1 x2 x3 x6 h g → gG D cy ad (gA ad s.heap.size) s.heap h g H locs → lv_has ls 9 [(0, .ref (ad 118)), (1, .int x1), (2, .int x2), (3, .int x3), (6, .int x6)] → W p l e ({ frames := 1, cells := 0, slots := 0, locals := 23 } : Room) s m args below meth c H locs 0 0 (MQ below (va_Qv (fun (u : HI × HL) => Q u.1 u.2) (gB D cy ad s.heap.size) (gA ad s.heap.size)) args s 0 0 (gA ad s.heap.size)) (F0 m 156 ls []) := by
    intro K74 hK74 x1 x2 x3 x6 h g H locs ls HW hG hl
    unfold j_X5_chooseBits_156 at HW
    refine lv_iconst (v := 0) hx hb dX5_chooseBits_156 (by decide) ?_
    exact B157 K74 hK74 x1 x2 x3 x6 (0 : Int32) h g _ _ _ HW hG (lv_sub hl [0, 1, 2, 3, 4] rfl)
  have B124 : ∀ (K74 : Int32 → Int32 → Int32 → HI → HL → Prop) (hK74 : ∀ (x1 : Int32) (x2 : Int32) (x3 : Int32) (h : HI) (g : HL) (H : Heap) (locs : List Loc) (ls : Array Slot), K74 x1 x2 x3 h g → gG D cy ad (gA ad s.heap.size) s.heap h g H locs → lv_has ls 9 [(0, .ref (ad 118)), (1, .int x1), (2, .int x2), (3, .int x3)] → W p l e ({ frames := 1, cells := 0, slots := 0, locals := 23 } : Room) s m args below meth c H locs 0 0 (MQ below (va_Qv (fun (u : HI × HL) => Q u.1 u.2) (gB D cy ad s.heap.size) (gA ad s.heap.size)) args s 0 0 (gA ad s.heap.size)) (F0 m 74 ls [])) (x1 : Int32) (x2 : Int32) (x3 : Int32) (x5 : Int32) (s0 : Int32) (h : HI) (g : HL) (H : Heap) (locs : List Loc) (ls : Array Slot), j_X5_chooseBits_124 Q K74 x1 x2 x3 x5 s0 h g → gG D cy ad (gA ad s.heap.size) s.heap h g H locs → lv_has ls 9 [(0, .ref (ad 118)), (1, .int x1), (2, .int x2), (3, .int x3), (5, .int x5)] → W p l e ({ frames := 1, cells := 0, slots := 0, locals := 23 } : Room) s m args below meth c H locs 0 0 (MQ below (va_Qv (fun (u : HI × HL) => Q u.1 u.2) (gB D cy ad s.heap.size) (gA ad s.heap.size)) args s 0 0 (gA ad s.heap.size)) (F0 m 124 ls [.int s0]) := by
    intro K74 hK74 x1 x2 x3 x5 s0 h g H locs ls HW hG hl
    unfold j_X5_chooseBits_124 at HW
    refine lv_istore (lv' := [(6, .int s0), (0, .ref (ad 118)), (1, .int x1), (2, .int x2), (3, .int x3), (5, .int x5)]) hx hb dX5_chooseBits_124 hl (by decide) rfl (fun ls hl => ?_)
    refine lv_iload_n hx hb dX5_chooseBits_126 rfl (lv_at hl 3 rfl) ?_
    refine lv_iload hx hb dX5_chooseBits_127 (lv_at hl 5 rfl) ?_
    refine lv_ishr hx hb dX5_chooseBits_129 ?_
    refine lv_iconst (v := 1) hx hb dX5_chooseBits_130 (by decide) ?_
    refine lv_iand hx hb dX5_chooseBits_131 ?_
    refine lv_iconst (v := 1) hx hb dX5_chooseBits_132 (by decide) ?_
    refine lv_icmp_ne (tgt := 156) hx hb dX5_chooseBits_133 (by decide) (fun c_133 => ?_) (fun c_133 => ?_)
    · replace HW := HW.1 c_133
      exact B156 K74 hK74 x1 x2 x3 s0 h g _ _ _ HW hG (lv_sub hl [1, 2, 3, 4, 0] rfl)
    · replace HW := HW.2 c_133
      refine lv_aload_n hx hb dX5_chooseBits_136 rfl (lv_at hl 1 rfl) ?_
      refine g_getr hx hb hw inG5 hown hK hG gl_118 rfl gk_118 (by decide) 0 (by decide) (by rw [gm_118]; decide) (r := 1) gr_118_0 lk35 dX5_chooseBits_137 ?_
      refine g_getr hx hb hw inG6 hown hK hG gl_1 rfl gk_1 (by decide) 10 (by decide) (by rw [gm_1]; decide) (r := 22) gr_1_10 lk95 dX5_chooseBits_140 ?_
      refine lv_iload hx hb dX5_chooseBits_143 (lv_at hl 5 rfl) ?_
      refine lv_iconst (v := 0) hx hb dX5_chooseBits_145 (by decide) ?_
      obtain ⟨P_146, HC_146, HW⟩ := HW
      refine g_calli (g_runV (As := [.int x5, .int (0 : Int32)]) (rest := []) ⟨hx, hb, hml, hown, hts⟩ (m_X8_at l D cy ad h g H.size 22 (gs_22) x5 (0 : Int32) P_146 HC_146) (cwV 2 hts (gd_V (wm4 161 rfl rfl) (wm2 221 rfl rfl) (wm2 222 rfl rfl) (wm1 3 rfl rfl) (wm2 223 rfl rfl)) rfl rfl rfl (by decide +kernel) ⟨Nat.le_of_ble_eq_true rfl, Nat.le_of_ble_eq_true rfl⟩) hK hNw hG gl_22 rfl gk_22 (by decide) rfl rfl hl.1 rfl (lv_room (Nat.le_of_ble_eq_true rfl)) dX5_chooseBits_146 ⟨Nat.zero_le _, Nat.zero_le _⟩) hG (fun r_146 h_146 g_146 H locs hq hG => ?_)
      replace HW := HW r_146 h_146 g_146 hq
      refine lv_if_le (tgt := 156) hx hb dX5_chooseBits_149 (by decide) (fun c_149 => ?_) (fun c_149 => ?_)
      · replace HW := HW.1 c_149
        exact B156 K74 hK74 x1 x2 x3 s0 h_146 g_146 _ _ _ HW hG (lv_sub hl [1, 2, 3, 4, 0] rfl)
      · replace HW := HW.2 c_149
        refine lv_iconst (v := 1) hx hb dX5_chooseBits_152 (by decide) ?_
        refine lv_goto (tgt := 157) hx hb dX5_chooseBits_153 (by decide) ?_
        exact B157 K74 hK74 x1 x2 x3 s0 (1 : Int32) h_146 g_146 _ _ _ HW hG (lv_sub hl [1, 2, 3, 4, 0] rfl)
  have B123 : ∀ (K74 : Int32 → Int32 → Int32 → HI → HL → Prop) (hK74 : ∀ (x1 : Int32) (x2 : Int32) (x3 : Int32) (h : HI) (g : HL) (H : Heap) (locs : List Loc) (ls : Array Slot), K74 x1 x2 x3 h g → gG D cy ad (gA ad s.heap.size) s.heap h g H locs → lv_has ls 9 [(0, .ref (ad 118)), (1, .int x1), (2, .int x2), (3, .int x3)] → W p l e ({ frames := 1, cells := 0, slots := 0, locals := 23 } : Room) s m args below meth c H locs 0 0 (MQ below (va_Qv (fun (u : HI × HL) => Q u.1 u.2) (gB D cy ad s.heap.size) (gA ad s.heap.size)) args s 0 0 (gA ad s.heap.size)) (F0 m 74 ls [])) (x1 : Int32) (x2 : Int32) (x3 : Int32) (x5 : Int32) (h : HI) (g : HL) (H : Heap) (locs : List Loc) (ls : Array Slot), j_X5_chooseBits_123 Q K74 x1 x2 x3 x5 h g → gG D cy ad (gA ad s.heap.size) s.heap h g H locs → lv_has ls 9 [(0, .ref (ad 118)), (1, .int x1), (2, .int x2), (3, .int x3), (5, .int x5)] → W p l e ({ frames := 1, cells := 0, slots := 0, locals := 23 } : Room) s m args below meth c H locs 0 0 (MQ below (va_Qv (fun (u : HI × HL) => Q u.1 u.2) (gB D cy ad s.heap.size) (gA ad s.heap.size)) args s 0 0 (gA ad s.heap.size)) (F0 m 123 ls []) := by
    intro K74 hK74 x1 x2 x3 x5 h g H locs ls HW hG hl
    unfold j_X5_chooseBits_123 at HW
    refine lv_iconst (v := 0) hx hb dX5_chooseBits_123 (by decide) ?_
    exact B124 K74 hK74 x1 x2 x3 x5 (0 : Int32) h g _ _ _ HW hG (lv_sub hl [0, 1, 2, 3, 4] rfl)
  have L74 : ∀ (n : Nat) (x1 : Int32) (x2 : Int32) (x3 : Int32) (h : HI) (g : HL) (H : Heap) (locs : List Loc) (ls : Array Slot), lpN (F_X5_chooseBits_74 Q) n (x1, x2, x3, h, g) → gG D cy ad (gA ad s.heap.size) s.heap h g H locs → lv_has ls 9 [(0, .ref (ad 118)), (1, .int x1), (2, .int x2), (3, .int x3)] → W p l e ({ frames := 1, cells := 0, slots := 0, locals := 23 } : Room) s m args below meth c H locs 0 0 (MQ below (va_Qv (fun (u : HI × HL) => Q u.1 u.2) (gB D cy ad s.heap.size) (gA ad s.heap.size)) args s 0 0 (gA ad s.heap.size)) (F0 m 74 ls []) := by
    intro n
    induction n with
    | zero => intro x1 x2 x3 h g H locs ls HW; exact HW.elim
    | succ n ih =>
      intro x1 x2 x3 h g H locs ls HW hG hl
      have HW : b_X5_chooseBits_74 Q (fun x1 x2 x3 h g => lpN (F_X5_chooseBits_74 Q) n (x1, x2, x3, h, g)) x1 x2 x3 h g := HW
      generalize hKe : (fun (x1 : Int32) (x2 : Int32) (x3 : Int32) (h : HI) (g : HL) => lpN (F_X5_chooseBits_74 Q) n (x1, x2, x3, h, g)) = K74 at HW
      have hK74 : ∀ (x1 : Int32) (x2 : Int32) (x3 : Int32) (h : HI) (g : HL) (H : Heap) (locs : List Loc) (ls : Array Slot), K74 x1 x2 x3 h g → gG D cy ad (gA ad s.heap.size) s.heap h g H locs → lv_has ls 9 [(0, .ref (ad 118)), (1, .int x1), (2, .int x2), (3, .int x3)] → W p l e ({ frames := 1, cells := 0, slots := 0, locals := 23 } : Room) s m args below meth c H locs 0 0 (MQ below (va_Qv (fun (u : HI × HL) => Q u.1 u.2) (gB D cy ad s.heap.size) (gA ad s.heap.size)) args s 0 0 (gA ad s.heap.size)) (F0 m 74 ls []) := by subst hKe; exact ih
      clear ih
      clear hKe
      unfold b_X5_chooseBits_74 at HW
      refine lv_iload_n hx hb dX5_chooseBits_74 rfl (lv_at hl 3 rfl) ?_
      refine lv_aload_n hx hb dX5_chooseBits_75 rfl (lv_at hl 0 rfl) ?_
      refine g_getr hx hb hw inG5 hown hK hG gl_118 rfl gk_118 (by decide) 3 (by decide) (by rw [gm_118]; decide) (r := 121) gr_118_3 lk18 dX5_chooseBits_76 ?_
      refine g_alen hx hb hK hG gl_121 gk_121 (v := (12 : Int32)) (by rw [gn_121]; decide) dX5_chooseBits_79 ?_
      refine lv_icmp_ge (tgt := 265) hx hb dX5_chooseBits_80 (by decide) (fun c_80 => ?_) (fun c_80 => ?_)
      · replace HW := HW.1 c_80
        exact W.vret hx hb hr (fun t ht hW => ⟨⟨(h, g), rfl, HW, g_B ht hG⟩, hG.2.2.F ht⟩) hG.2.2.2.2 dX5_chooseBits_265
      · replace HW := HW.2 c_80
        refine lv_iload_n hx hb dX5_chooseBits_83 rfl (lv_at hl 3 rfl) ?_
        refine lv_iconst (v := 4) hx hb dX5_chooseBits_84 (by decide) ?_
        refine lv_idiv hx hb dX5_chooseBits_85 (by decide) ?_
        refine lv_topi (fun x4_86 ex4_86 => ?_)
        replace HW := HW x4_86 ex4_86
        refine lv_istore (lv' := [(4, .int x4_86), (0, .ref (ad 118)), (1, .int x1), (2, .int x2), (3, .int x3)]) hx hb dX5_chooseBits_86 hl (by decide) rfl (fun ls hl => ?_)
        refine lv_iload_n hx hb dX5_chooseBits_88 rfl (lv_at hl 4 rfl) ?_
        refine lv_iconst (v := 4) hx hb dX5_chooseBits_89 (by decide) ?_
        refine lv_irem hx hb dX5_chooseBits_90 (by decide) ?_
        refine lv_topi (fun x5_91 ex5_91 => ?_)
        replace HW := HW x5_91 ex5_91
        refine lv_istore (lv' := [(5, .int x5_91), (4, .int x4_86), (0, .ref (ad 118)), (1, .int x1), (2, .int x2), (3, .int x3)]) hx hb dX5_chooseBits_91 hl (by decide) rfl (fun ls hl => ?_)
        refine lv_iload hx hb dX5_chooseBits_93 (lv_at hl 1 rfl) ?_
        refine lv_aload_n hx hb dX5_chooseBits_95 rfl (lv_at hl 2 rfl) ?_
        refine g_getr hx hb hw inG5 hown hK hG gl_118 rfl gk_118 (by decide) 0 (by decide) (by rw [gm_118]; decide) (r := 1) gr_118_0 lk35 dX5_chooseBits_96 ?_
        refine g_getr hx hb hw inG6 hown hK hG gl_1 rfl gk_1 (by decide) 9 (by decide) (by rw [gm_1]; decide) (r := 20) gr_1_9 lk76 dX5_chooseBits_99 ?_
        obtain ⟨P_102, HC_102, HW⟩ := HW
        refine g_calli (g_runV (As := []) (rest := [.int x4_86]) ⟨hx, hb, hml, hown, hts⟩ (m_X8_rows l D cy ad h g H.size 20 (gs_20) P_102 HC_102) (cwV 0 hts (gd_V (wm4 160 rfl rfl) (wm2 217 rfl rfl) (wm2 218 rfl rfl) (wm1 3 rfl rfl) (wm2 219 rfl rfl)) rfl rfl rfl (by decide +kernel) ⟨Nat.le_of_ble_eq_true rfl, Nat.le_of_ble_eq_true rfl⟩) hK hNw hG gl_20 rfl gk_20 (by decide) rfl rfl hl.1 rfl (lv_room (Nat.le_of_ble_eq_true rfl)) dX5_chooseBits_102 ⟨Nat.zero_le _, Nat.zero_le _⟩) hG (fun r_102 h_102 g_102 H locs hq hG => ?_)
        replace HW := HW r_102 h_102 g_102 hq
        refine lv_icmp_ge (tgt := 123) hx hb dX5_chooseBits_105 (by decide) (fun c_105 => ?_) (fun c_105 => ?_)
        · replace HW := HW.1 c_105
          exact B123 K74 hK74 x1 x2 x3 x5_91 h_102 g_102 _ _ _ HW hG (lv_sub hl [2, 3, 4, 5, 0] rfl)
        · replace HW := HW.2 c_105
          refine lv_iload_n hx hb dX5_chooseBits_108 rfl (lv_at hl 3 rfl) ?_
          refine lv_iload hx hb dX5_chooseBits_109 (lv_at hl 1 rfl) ?_
          refine lv_iload hx hb dX5_chooseBits_111 (lv_at hl 0 rfl) ?_
          obtain ⟨P_113, HC_113, HW⟩ := HW
          refine g_callz (g_runS (As := [.int x1, .int x4_86, .int x5_91]) (rest := []) ⟨hx, hb, hml, hown, hts⟩ (m_X5_knows l D cy ad h_102 g_102 H.size x1 x4_86 x5_91 P_113 HC_113) (va_cwS 3 hts (gd_S (wm4 162 rfl rfl) (wm4 163 rfl rfl) (wm1 12 rfl rfl) (wm4 164 rfl rfl)) rfl rfl rfl (by decide +kernel) ⟨Nat.le_of_ble_eq_true rfl, Nat.le_of_ble_eq_true rfl⟩) hK hNw hG rfl rfl hl.1 rfl (lv_room (Nat.le_of_ble_eq_true rfl)) dX5_chooseBits_113 ⟨Nat.zero_le _, Nat.zero_le _⟩) hG (fun r_113 h_113 g_113 H locs hz hq hG => ?_)
          replace HW := HW r_113 h_113 g_113 hz hq
          refine lv_if_ne (tgt := 123) hx hb dX5_chooseBits_116 (by decide) (fun c_116 => ?_) (fun c_116 => ?_)
          · replace HW := HW.1 c_116
            exact B123 K74 hK74 x1 x2 x3 x5_91 h_113 g_113 _ _ _ HW hG (lv_sub hl [2, 3, 4, 5, 0] rfl)
          · replace HW := HW.2 c_116
            refine lv_iconst (v := 1) hx hb dX5_chooseBits_119 (by decide) ?_
            refine lv_goto (tgt := 124) hx hb dX5_chooseBits_120 (by decide) ?_
            exact B124 K74 hK74 x1 x2 x3 x5_91 (1 : Int32) h_113 g_113 _ _ _ HW hG (lv_sub hl [2, 3, 4, 5, 0] rfl)
  have L6 : ∀ (n : Nat) (x1 : Int32) (x2 : Int32) (x3 : Int32) (h : HI) (g : HL) (H : Heap) (locs : List Loc) (ls : Array Slot), lpN (F_X5_chooseBits_6 Q) n (x1, x2, x3, h, g) → gG D cy ad (gA ad s.heap.size) s.heap h g H locs → lv_has ls 9 [(0, .ref (ad 118)), (1, .int x1), (2, .int x2), (3, .int x3)] → W p l e ({ frames := 1, cells := 0, slots := 0, locals := 23 } : Room) s m args below meth c H locs 0 0 (MQ below (va_Qv (fun (u : HI × HL) => Q u.1 u.2) (gB D cy ad s.heap.size) (gA ad s.heap.size)) args s 0 0 (gA ad s.heap.size)) (F0 m 6 ls []) := by
    intro n
    induction n with
    | zero => intro x1 x2 x3 h g H locs ls HW; exact HW.elim
    | succ n ih =>
      intro x1 x2 x3 h g H locs ls HW hG hl
      have HW : b_X5_chooseBits_6 Q (fun x1 x2 x3 h g => lpN (F_X5_chooseBits_6 Q) n (x1, x2, x3, h, g)) x1 x2 x3 h g := HW
      generalize hKe : (fun (x1 : Int32) (x2 : Int32) (x3 : Int32) (h : HI) (g : HL) => lpN (F_X5_chooseBits_6 Q) n (x1, x2, x3, h, g)) = K6 at HW
      have hK6 : ∀ (x1 : Int32) (x2 : Int32) (x3 : Int32) (h : HI) (g : HL) (H : Heap) (locs : List Loc) (ls : Array Slot), K6 x1 x2 x3 h g → gG D cy ad (gA ad s.heap.size) s.heap h g H locs → lv_has ls 9 [(0, .ref (ad 118)), (1, .int x1), (2, .int x2), (3, .int x3)] → W p l e ({ frames := 1, cells := 0, slots := 0, locals := 23 } : Room) s m args below meth c H locs 0 0 (MQ below (va_Qv (fun (u : HI × HL) => Q u.1 u.2) (gB D cy ad s.heap.size) (gA ad s.heap.size)) args s 0 0 (gA ad s.heap.size)) (F0 m 6 ls []) := by subst hKe; exact ih
      clear ih
      clear hKe
      unfold b_X5_chooseBits_6 at HW
      refine lv_iload_n hx hb dX5_chooseBits_6 rfl (lv_at hl 3 rfl) ?_
      refine lv_aload_n hx hb dX5_chooseBits_7 rfl (lv_at hl 0 rfl) ?_
      refine g_getr hx hb hw inG5 hown hK hG gl_118 rfl gk_118 (by decide) 0 (by decide) (by rw [gm_118]; decide) (r := 1) gr_118_0 lk35 dX5_chooseBits_8 ?_
      refine g_getr hx hb hw inG6 hown hK hG gl_1 rfl gk_1 (by decide) 9 (by decide) (by rw [gm_1]; decide) (r := 20) gr_1_9 lk76 dX5_chooseBits_11 ?_
      obtain ⟨P_14, HC_14, HW⟩ := HW
      refine g_calli (g_runV (As := []) (rest := [.int x3]) ⟨hx, hb, hml, hown, hts⟩ (m_X8_rows l D cy ad h g H.size 20 (gs_20) P_14 HC_14) (cwV 0 hts (gd_V (wm4 160 rfl rfl) (wm2 217 rfl rfl) (wm2 218 rfl rfl) (wm1 3 rfl rfl) (wm2 219 rfl rfl)) rfl rfl rfl (by decide +kernel) ⟨Nat.le_of_ble_eq_true rfl, Nat.le_of_ble_eq_true rfl⟩) hK hNw hG gl_20 rfl gk_20 (by decide) rfl rfl hl.1 rfl (lv_room (Nat.le_of_ble_eq_true rfl)) dX5_chooseBits_14 ⟨Nat.zero_le _, Nat.zero_le _⟩) hG (fun r_14 h_14 g_14 H locs hq hG => ?_)
      replace HW := HW r_14 h_14 g_14 hq
      refine lv_icmp_ge (tgt := 60) hx hb dX5_chooseBits_17 (by decide) (fun c_17 => ?_) (fun c_17 => ?_)
      · replace HW := HW.1 c_17
        refine lv_aload_n hx hb dX5_chooseBits_60 rfl (lv_at hl 0 rfl) ?_
        refine lv_iconst (v := 0) hx hb dX5_chooseBits_61 (by decide) ?_
        refine g_put hx hb hw inG5 tyX5 tyX5_ok nmX5 hown hK hG gl_118 rfl gk_118 (by decide) 9 (by decide) (by rw [gm_118]; decide) gr_118_9 rfl (ty := .int) (by decide +kernel) rfl rfl lk64 dX5_chooseBits_62 (fun H locs hG => ?_)
        obtain ⟨h_62, eh_62⟩ : ∃ y : HI, y = hu h_14 118 9 (0 : Int32) := ⟨_, rfl⟩
        rw [← eh_62] at hG
        replace HW := HW h_62 eh_62
        refine lv_aload_n hx hb dX5_chooseBits_65 rfl (lv_at hl 0 rfl) ?_
        refine g_getr hx hb hw inG5 hown hK hG gl_118 rfl gk_118 (by decide) 4 (by decide) (by rw [gm_118]; decide) (r := 122) gr_118_4 lk21 dX5_chooseBits_66 ?_
        refine lv_iconst (v := 0) hx hb dX5_chooseBits_69 (by decide) ?_
        refine lv_iload_n hx hb dX5_chooseBits_70 rfl (lv_at hl 1 rfl) ?_
        refine g_iast hx hb hK hG gl_122 gk_122 gn_122 HW.1 dX5_chooseBits_71 (fun H locs hG => ?_)
        replace HW := HW.2
        obtain ⟨h_71, eh_71⟩ : ∃ y : HI, y = hu h_62 122 (0 : Int32).toNatClampNeg x1 := ⟨_, rfl⟩
        rw [← eh_71] at hG
        replace HW := HW h_71 eh_71
        refine lv_iconst (v := 0) hx hb dX5_chooseBits_72 (by decide) ?_
        refine lv_istore_n (lv' := [(3, .int (0 : Int32)), (0, .ref (ad 118)), (1, .int x1), (2, .int x2)]) hx hb dX5_chooseBits_73 rfl hl (by decide) rfl (fun ls hl => ?_)
        obtain ⟨n_74, HW⟩ := HW
        exact L74 n_74 x1 x2 (0 : Int32) h_71 g_14 _ _ _ HW hG (lv_sub hl [1, 2, 3, 0] rfl)
      · replace HW := HW.2 c_17
        refine lv_iload_n hx hb dX5_chooseBits_20 rfl (lv_at hl 1 rfl) ?_
        refine lv_aload_n hx hb dX5_chooseBits_21 rfl (lv_at hl 0 rfl) ?_
        refine g_getr hx hb hw inG5 hown hK hG gl_118 rfl gk_118 (by decide) 0 (by decide) (by rw [gm_118]; decide) (r := 1) gr_118_0 lk35 dX5_chooseBits_22 ?_
        refine g_getr hx hb hw inG6 hown hK hG gl_1 rfl gk_1 (by decide) 9 (by decide) (by rw [gm_1]; decide) (r := 20) gr_1_9 lk76 dX5_chooseBits_25 ?_
        refine lv_iload_n hx hb dX5_chooseBits_28 rfl (lv_at hl 3 rfl) ?_
        refine lv_iconst (v := 0) hx hb dX5_chooseBits_29 (by decide) ?_
        obtain ⟨P_30, HC_30, HW⟩ := HW
        refine g_calli (g_runV (As := [.int x3, .int (0 : Int32)]) (rest := [.int x1]) ⟨hx, hb, hml, hown, hts⟩ (m_X8_at l D cy ad h_14 g_14 H.size 20 (gs_20) x3 (0 : Int32) P_30 HC_30) (cwV 2 hts (gd_V (wm4 161 rfl rfl) (wm2 221 rfl rfl) (wm2 222 rfl rfl) (wm1 3 rfl rfl) (wm2 223 rfl rfl)) rfl rfl rfl (by decide +kernel) ⟨Nat.le_of_ble_eq_true rfl, Nat.le_of_ble_eq_true rfl⟩) hK hNw hG gl_20 rfl gk_20 (by decide) rfl rfl hl.1 rfl (lv_room (Nat.le_of_ble_eq_true rfl)) dX5_chooseBits_30 ⟨Nat.zero_le _, Nat.zero_le _⟩) hG (fun r_30 h_30 g_30 H locs hq hG => ?_)
        replace HW := HW r_30 h_30 g_30 hq
        refine lv_iconst (v := 4) hx hb dX5_chooseBits_33 (by decide) ?_
        refine lv_iload_n hx hb dX5_chooseBits_34 rfl (lv_at hl 3 rfl) ?_
        refine lv_imul hx hb dX5_chooseBits_35 ?_
        refine lv_ishl hx hb dX5_chooseBits_36 ?_
        refine lv_ior hx hb dX5_chooseBits_37 ?_
        refine lv_topi (fun x1_38 ex1_38 => ?_)
        replace HW := HW x1_38 ex1_38
        refine lv_istore_n (lv' := [(1, .int x1_38), (0, .ref (ad 118)), (2, .int x2), (3, .int x3)]) hx hb dX5_chooseBits_38 rfl hl (by decide) rfl (fun ls hl => ?_)
        refine lv_iload_n hx hb dX5_chooseBits_39 rfl (lv_at hl 2 rfl) ?_
        refine lv_aload_n hx hb dX5_chooseBits_40 rfl (lv_at hl 1 rfl) ?_
        refine g_getr hx hb hw inG5 hown hK hG gl_118 rfl gk_118 (by decide) 0 (by decide) (by rw [gm_118]; decide) (r := 1) gr_118_0 lk35 dX5_chooseBits_41 ?_
        refine g_getr hx hb hw inG6 hown hK hG gl_1 rfl gk_1 (by decide) 9 (by decide) (by rw [gm_1]; decide) (r := 20) gr_1_9 lk76 dX5_chooseBits_44 ?_
        refine lv_iload_n hx hb dX5_chooseBits_47 rfl (lv_at hl 3 rfl) ?_
        refine lv_iconst (v := 0) hx hb dX5_chooseBits_48 (by decide) ?_
        obtain ⟨P_49, HC_49, HW⟩ := HW
        refine g_calli (g_runV (As := [.int x3, .int (0 : Int32)]) (rest := [.int x2]) ⟨hx, hb, hml, hown, hts⟩ (m_X8_at l D cy ad h_30 g_30 H.size 20 (gs_20) x3 (0 : Int32) P_49 HC_49) (cwV 2 hts (gd_V (wm4 161 rfl rfl) (wm2 221 rfl rfl) (wm2 222 rfl rfl) (wm1 3 rfl rfl) (wm2 223 rfl rfl)) rfl rfl rfl (by decide +kernel) ⟨Nat.le_of_ble_eq_true rfl, Nat.le_of_ble_eq_true rfl⟩) hK hNw hG gl_20 rfl gk_20 (by decide) rfl rfl hl.1 rfl (lv_room (Nat.le_of_ble_eq_true rfl)) dX5_chooseBits_49 ⟨Nat.zero_le _, Nat.zero_le _⟩) hG (fun r_49 h_49 g_49 H locs hq hG => ?_)
        replace HW := HW r_49 h_49 g_49 hq
        refine lv_ior hx hb dX5_chooseBits_52 ?_
        refine lv_topi (fun x2_53 ex2_53 => ?_)
        replace HW := HW x2_53 ex2_53
        refine lv_istore_n (lv' := [(2, .int x2_53), (1, .int x1_38), (0, .ref (ad 118)), (3, .int x3)]) hx hb dX5_chooseBits_53 rfl hl (by decide) rfl (fun ls hl => ?_)
        obtain ⟨x3_54, ex3_54⟩ : ∃ y : Int32, y = (x3 + 1) := ⟨_, rfl⟩
        replace HW := HW x3_54 ex3_54
        refine lv_iinc (v := x3_54) (lv' := [(3, .int x3_54), (2, .int x2_53), (1, .int x1_38), (0, .ref (ad 118))]) hx hb dX5_chooseBits_54 hl (k := 3) rfl (by rw [ex3_54]; rfl) (by decide) rfl (fun ls hl => ?_)
        refine lv_goto (tgt := 6) hx hb dX5_chooseBits_57 (by decide) ?_
        exact hK6 x1_38 x2_53 x3_54 h_49 g_49 _ _ _ HW hG (lv_sub hl [3, 2, 1, 0] rfl)
  have E0 : ∀ (H : Heap) (locs : List Loc) (ls : Array Slot), gG D cy ad (gA ad s.heap.size) s.heap h g H locs → lv_has ls 9 [(0, .ref (ad 118))] → W p l e ({ frames := 1, cells := 0, slots := 0, locals := 23 } : Room) s m args below meth c H locs 0 0 (MQ below (va_Qv (fun (u : HI × HL) => Q u.1 u.2) (gB D cy ad s.heap.size) (gA ad s.heap.size)) args s 0 0 (gA ad s.heap.size)) (F0 m 0 ls []) := by
    intro H locs ls hG hl
    unfold w_X5_chooseBits at HW
    refine lv_iconst (v := 0) hx hb dX5_chooseBits_0 (by decide) ?_
    refine lv_istore_n (lv' := [(1, .int (0 : Int32)), (0, .ref (ad 118))]) hx hb dX5_chooseBits_1 rfl hl (by decide) rfl (fun ls hl => ?_)
    refine lv_iconst (v := 0) hx hb dX5_chooseBits_2 (by decide) ?_
    refine lv_istore_n (lv' := [(2, .int (0 : Int32)), (1, .int (0 : Int32)), (0, .ref (ad 118))]) hx hb dX5_chooseBits_3 rfl hl (by decide) rfl (fun ls hl => ?_)
    refine lv_iconst (v := 0) hx hb dX5_chooseBits_4 (by decide) ?_
    refine lv_istore_n (lv' := [(3, .int (0 : Int32)), (2, .int (0 : Int32)), (1, .int (0 : Int32)), (0, .ref (ad 118))]) hx hb dX5_chooseBits_5 rfl hl (by decide) rfl (fun ls hl => ?_)
    obtain ⟨n_6, HW⟩ := HW
    exact L6 n_6 (0 : Int32) (0 : Int32) (0 : Int32) h g _ _ _ HW hG (lv_sub hl [3, 2, 1, 0] rfl)
  exact E0 _ _ _ hG hl

def j_X5_chooseLessons_129 (Q : HI → HL → Prop) (K7 : Int32 → HI → HL → Prop) (x1 : Int32) (h : HI) (g : HL) : Prop :=
  (∀ x1_129 : Int32, x1_129 = (x1 + 1) → K7 x1_129 h g)
def b_X5_chooseLessons_7 (Q : HI → HL → Prop) (K7 : Int32 → HI → HL → Prop) (x1 : Int32) (h : HI) (g : HL) : Prop :=
  (((47 : Int32) < x1 → Q h g) ∧ (¬ (47 : Int32) < x1 → (∀ x2_16 : Int32, x2_16 = (x1 >>> ((4 : Int32) &&& 31)) → (∀ x3_20 : Int32, x3_20 = (x1 &&& (3 : Int32)) → (∀ x4_30 : Int32, x4_30 = (((4 : Int32) * x3_20) + ((x1 >>> ((2 : Int32) &&& 31)) &&& (3 : Int32))) → ((x2_16 = x3_20 → j_X5_chooseLessons_129 Q K7 x1 h g) ∧ (¬ x2_16 = x3_20 → (∃ P_45 : Int32 → HI → HL → Prop, w_X8_has 20 x2_16 h g P_45 ∧ ∀ (r_45 : Int32) (h_45 : HI) (g_45 : HL), zb r_45 → P_45 r_45 h_45 g_45 → ((r_45 = 0 → j_X5_chooseLessons_129 Q K7 x1 h_45 g_45) ∧ (¬ r_45 = 0 → (∃ P_61 : Int32 → HI → HL → Prop, w_X10_within x4_30 (0 : Int32) ((12 : Int32) - (1 : Int32)) h_45 g_45 P_61 ∧ ∀ (r_61 : Int32) (h_61 : HI) (g_61 : HL), zb r_61 → P_61 r_61 h_61 g_61 → ((¬ r_61 = 0 → (vp_in x4_30 12 ∧ (((h_61 121 x4_30.toNatClampNeg) = 0 → j_X5_chooseLessons_129 Q K7 x1 h_61 g_61) ∧ (¬ (h_61 121 x4_30.toNatClampNeg) = 0 → (∃ P_87 : Int32 → HI → HL → Prop, w_X10_within (h_61 118 8) (0 : Int32) (15 : Int32) h_61 g_61 P_87 ∧ ∀ (r_87 : Int32) (h_87 : HI) (g_87 : HL), zb r_87 → P_87 r_87 h_87 g_87 → ((r_87 = 0 → j_X5_chooseLessons_129 Q K7 x1 h_87 g_87) ∧ (¬ r_87 = 0 → (vp_in (h_87 118 8) 16 ∧ ∀ h_102 : HI, h_102 = hu h_87 119 (h_87 118 8).toNatClampNeg x1 → (vp_in x4_30 12 ∧ (vp_in (h_102 118 8) 16 ∧ ∀ h_118 : HI, h_118 = hu h_102 120 (h_102 118 8).toNatClampNeg (h_102 121 x4_30.toNatClampNeg) → (∀ h_126 : HI, h_126 = hu h_118 118 8 ((h_118 118 8) + (1 : Int32)) → j_X5_chooseLessons_129 Q K7 x1 h_126 g_87))))))))))) ∧ (r_61 = 0 → j_X5_chooseLessons_129 Q K7 x1 h_61 g_61)))))))))))))
def F_X5_chooseLessons_7 (Q : HI → HL → Prop) (K : Int32 × HI × HL → Prop) (q : Int32 × HI × HL) : Prop := b_X5_chooseLessons_7 Q (fun x1 h g => K (x1, h, g)) q.1 q.2.1 q.2.2
def w_X5_chooseLessons  (h : HI) (g : HL) (Q : HI → HL → Prop) : Prop :=
  (∀ h_2 : HI, h_2 = hu h 118 8 (0 : Int32) → lpE (F_X5_chooseLessons_7 Q) ((0 : Int32), h_2, g))
set_option maxHeartbeats 8000000 in
set_option maxRecDepth 100000 in
theorem m_X5_chooseLessons (l : Launch) (D : va_G) (cy : Nat → ClassId) (ad : Nat → Nat) (h : HI) (g : HL) (sz : Nat)  (Q : HI → HL → Prop) (HW : w_X5_chooseLessons h g Q) : Met l yX5_chooseLessons (wa yX5_chooseLessons cX5_chooseLessons 5 none) ({ frames := 1, cells := 0, slots := 0, locals := 22 }) (va_Pc [.ref (ad 118)] (gI D cy ad h g sz)) (va_Qv (fun (u : HI × HL) => Q u.1 u.2) (gB D cy ad sz) (gA ad sz)) 0 0 (gA ad sz) := by
  refine Met.ofW (cc := cX5_chooseLessons) (maxL := 5) (ret := none) (by decide) rfl ?_
  intro p e s m args below meth c s₁ B hml hv
  obtain ⟨hav, hsz, hP, hK, hD0, hNw⟩ := hv
  have hx := B.exec
  have hb := B.bytes
  have hr := B.returns
  have hts := atoms_spec (ws := (wa yX5_chooseLessons cX5_chooseLessons 5 none)) B.pre
  have hw := wa_hw hts
  have hown : s.vm.findClass RX5 = some m.cls := findClass_of_methodNamed B.named
  have hlocks := B.notSynchronized
  subst hsz
  have hG : gG D cy ad (gA ad s.heap.size) s.heap h g s.heap [] := ⟨hP, gA_self hD0, va_S.rf⟩
  clear hP hD0
  have lk101 := hw (.fieldLink RX5 101 "OldWorks$Plans" "many" "I") (wm2 129 rfl rfl)
  have lk35 := hw (.fieldLink RX5 35 "OldWorks$Plans" "shop" "LOldWorks$Shop;") (wm2 121 rfl rfl)
  have lk76 := hw (.fieldLink RX5 76 "OldWorks$Shop" "hands" "LOldWorks$Table;") (wm1 90 rfl rfl)
  have lk18 := hw (.fieldLink RX5 18 "OldWorks$Plans" "bits" "[I") (wm2 124 rfl rfl)
  have lk11 := hw (.fieldLink RX5 11 "OldWorks$Plans" "lessons" "[I") (wm2 122 rfl rfl)
  have lk15 := hw (.fieldLink RX5 15 "OldWorks$Plans" "learns" "[I") (wm2 123 rfl rfl)
  rw [show (headSpec (wa yX5_chooseLessons cX5_chooseLessons 5 none) ({ frames := 1, cells := 0, slots := 0, locals := 22 } : Room)).room = ({ frames := 1, cells := 0, slots := 0, locals := 22 } : Room) from rfl]
  have hl := lv_entry ([.ref (ad 118)]) (n := 5) (Nat.le_of_ble_eq_true rfl)
  rw [show entryFrame m args 5 = entryFrame m ([.ref (ad 118)] : List Value).toArray 5 from by rw [hav], lg_entry_eq]
  generalize (lg_sl ([.ref (ad 118)]) ++ List.replicate (5 - (lg_sl ([.ref (ad 118)])).length) Slot.unset).toArray = ls at hl ⊢
  have hl : lv_has ls 5 [(0, .ref (ad 118))] := hl
  have B129 : ∀ (K7 : Int32 → HI → HL → Prop) (hK7 : ∀ (x1 : Int32) (h : HI) (g : HL) (H : Heap) (locs : List Loc) (ls : Array Slot), K7 x1 h g → gG D cy ad (gA ad s.heap.size) s.heap h g H locs → lv_has ls 5 [(0, .ref (ad 118)), (1, .int x1)] → W p l e ({ frames := 1, cells := 0, slots := 0, locals := 22 } : Room) s m args below meth c H locs 0 0 (MQ below (va_Qv (fun (u : HI × HL) => Q u.1 u.2) (gB D cy ad s.heap.size) (gA ad s.heap.size)) args s 0 0 (gA ad s.heap.size)) (F0 m 7 ls [])) (x1 : Int32) (h : HI) (g : HL) (H : Heap) (locs : List Loc) (ls : Array Slot), j_X5_chooseLessons_129 Q K7 x1 h g → gG D cy ad (gA ad s.heap.size) s.heap h g H locs → lv_has ls 5 [(0, .ref (ad 118)), (1, .int x1)] → W p l e ({ frames := 1, cells := 0, slots := 0, locals := 22 } : Room) s m args below meth c H locs 0 0 (MQ below (va_Qv (fun (u : HI × HL) => Q u.1 u.2) (gB D cy ad s.heap.size) (gA ad s.heap.size)) args s 0 0 (gA ad s.heap.size)) (F0 m 129 ls []) := by
    intro K7 hK7 x1 h g H locs ls HW hG hl
    unfold j_X5_chooseLessons_129 at HW
    obtain ⟨x1_129, ex1_129⟩ : ∃ y : Int32, y = (x1 + 1) := ⟨_, rfl⟩
    replace HW := HW x1_129 ex1_129
    refine lv_iinc (v := x1_129) (lv' := [(1, .int x1_129), (0, .ref (ad 118))]) hx hb dX5_chooseLessons_129 hl (k := 1) rfl (by rw [ex1_129]; rfl) (by decide) rfl (fun ls hl => ?_)
    refine lv_goto (tgt := 7) hx hb dX5_chooseLessons_132 (by decide) ?_
    exact hK7 x1_129 h g _ _ _ HW hG (lv_sub hl [1, 0] rfl)
  have L7 : ∀ (n : Nat) (x1 : Int32) (h : HI) (g : HL) (H : Heap) (locs : List Loc) (ls : Array Slot), lpN (F_X5_chooseLessons_7 Q) n (x1, h, g) → gG D cy ad (gA ad s.heap.size) s.heap h g H locs → lv_has ls 5 [(0, .ref (ad 118)), (1, .int x1)] → W p l e ({ frames := 1, cells := 0, slots := 0, locals := 22 } : Room) s m args below meth c H locs 0 0 (MQ below (va_Qv (fun (u : HI × HL) => Q u.1 u.2) (gB D cy ad s.heap.size) (gA ad s.heap.size)) args s 0 0 (gA ad s.heap.size)) (F0 m 7 ls []) := by
    intro n
    induction n with
    | zero => intro x1 h g H locs ls HW; exact HW.elim
    | succ n ih =>
      intro x1 h g H locs ls HW hG hl
      have HW : b_X5_chooseLessons_7 Q (fun x1 h g => lpN (F_X5_chooseLessons_7 Q) n (x1, h, g)) x1 h g := HW
      generalize hKe : (fun (x1 : Int32) (h : HI) (g : HL) => lpN (F_X5_chooseLessons_7 Q) n (x1, h, g)) = K7 at HW
      have hK7 : ∀ (x1 : Int32) (h : HI) (g : HL) (H : Heap) (locs : List Loc) (ls : Array Slot), K7 x1 h g → gG D cy ad (gA ad s.heap.size) s.heap h g H locs → lv_has ls 5 [(0, .ref (ad 118)), (1, .int x1)] → W p l e ({ frames := 1, cells := 0, slots := 0, locals := 22 } : Room) s m args below meth c H locs 0 0 (MQ below (va_Qv (fun (u : HI × HL) => Q u.1 u.2) (gB D cy ad s.heap.size) (gA ad s.heap.size)) args s 0 0 (gA ad s.heap.size)) (F0 m 7 ls []) := by subst hKe; exact ih
      clear ih
      clear hKe
      unfold b_X5_chooseLessons_7 at HW
      refine lv_iload_n hx hb dX5_chooseLessons_7 rfl (lv_at hl 1 rfl) ?_
      refine lv_bipush (v := 47) hx hb dX5_chooseLessons_8 (by decide) ?_
      refine lv_icmp_gt (tgt := 135) hx hb dX5_chooseLessons_10 (by decide) (fun c_10 => ?_) (fun c_10 => ?_)
      · replace HW := HW.1 c_10
        exact W.vret hx hb hr (fun t ht hW => ⟨⟨(h, g), rfl, HW, g_B ht hG⟩, hG.2.2.F ht⟩) hG.2.2.2.2 dX5_chooseLessons_135
      · replace HW := HW.2 c_10
        refine lv_iload_n hx hb dX5_chooseLessons_13 rfl (lv_at hl 1 rfl) ?_
        refine lv_iconst (v := 4) hx hb dX5_chooseLessons_14 (by decide) ?_
        refine lv_ishr hx hb dX5_chooseLessons_15 ?_
        refine lv_topi (fun x2_16 ex2_16 => ?_)
        replace HW := HW x2_16 ex2_16
        refine lv_istore_n (lv' := [(2, .int x2_16), (0, .ref (ad 118)), (1, .int x1)]) hx hb dX5_chooseLessons_16 rfl hl (by decide) rfl (fun ls hl => ?_)
        refine lv_iload_n hx hb dX5_chooseLessons_17 rfl (lv_at hl 2 rfl) ?_
        refine lv_iconst (v := 3) hx hb dX5_chooseLessons_18 (by decide) ?_
        refine lv_iand hx hb dX5_chooseLessons_19 ?_
        refine lv_topi (fun x3_20 ex3_20 => ?_)
        replace HW := HW x3_20 ex3_20
        refine lv_istore_n (lv' := [(3, .int x3_20), (2, .int x2_16), (0, .ref (ad 118)), (1, .int x1)]) hx hb dX5_chooseLessons_20 rfl hl (by decide) rfl (fun ls hl => ?_)
        refine lv_iconst (v := 4) hx hb dX5_chooseLessons_21 (by decide) ?_
        refine lv_iload_n hx hb dX5_chooseLessons_22 rfl (lv_at hl 0 rfl) ?_
        refine lv_imul hx hb dX5_chooseLessons_23 ?_
        refine lv_iload_n hx hb dX5_chooseLessons_24 rfl (lv_at hl 3 rfl) ?_
        refine lv_iconst (v := 2) hx hb dX5_chooseLessons_25 (by decide) ?_
        refine lv_ishr hx hb dX5_chooseLessons_26 ?_
        refine lv_iconst (v := 3) hx hb dX5_chooseLessons_27 (by decide) ?_
        refine lv_iand hx hb dX5_chooseLessons_28 ?_
        refine lv_iadd hx hb dX5_chooseLessons_29 ?_
        refine lv_topi (fun x4_30 ex4_30 => ?_)
        replace HW := HW x4_30 ex4_30
        refine lv_istore (lv' := [(4, .int x4_30), (3, .int x3_20), (2, .int x2_16), (0, .ref (ad 118)), (1, .int x1)]) hx hb dX5_chooseLessons_30 hl (by decide) rfl (fun ls hl => ?_)
        refine lv_iload_n hx hb dX5_chooseLessons_32 rfl (lv_at hl 2 rfl) ?_
        refine lv_iload_n hx hb dX5_chooseLessons_33 rfl (lv_at hl 1 rfl) ?_
        refine lv_icmp_eq (tgt := 129) hx hb dX5_chooseLessons_34 (by decide) (fun c_34 => ?_) (fun c_34 => ?_)
        · replace HW := HW.1 c_34
          exact B129 K7 hK7 x1 h g _ _ _ HW hG (lv_sub hl [3, 4] rfl)
        · replace HW := HW.2 c_34
          refine lv_aload_n hx hb dX5_chooseLessons_37 rfl (lv_at hl 3 rfl) ?_
          refine g_getr hx hb hw inG5 hown hK hG gl_118 rfl gk_118 (by decide) 0 (by decide) (by rw [gm_118]; decide) (r := 1) gr_118_0 lk35 dX5_chooseLessons_38 ?_
          refine g_getr hx hb hw inG6 hown hK hG gl_1 rfl gk_1 (by decide) 9 (by decide) (by rw [gm_1]; decide) (r := 20) gr_1_9 lk76 dX5_chooseLessons_41 ?_
          refine lv_iload_n hx hb dX5_chooseLessons_44 rfl (lv_at hl 2 rfl) ?_
          obtain ⟨P_45, HC_45, HW⟩ := HW
          refine g_callz (g_runV (As := [.int x2_16]) (rest := []) ⟨hx, hb, hml, hown, hts⟩ (m_X8_has l D cy ad h g H.size 20 (gs_20) x2_16 P_45 HC_45) (cwV 1 hts (gd_V (wm4 170 rfl rfl) (wm2 202 rfl rfl) (wm2 203 rfl rfl) (wm1 3 rfl rfl) (wm2 204 rfl rfl)) rfl rfl rfl (by decide +kernel) ⟨Nat.le_of_ble_eq_true rfl, Nat.le_of_ble_eq_true rfl⟩) hK hNw hG gl_20 rfl gk_20 (by decide) rfl rfl hl.1 rfl (lv_room (Nat.le_of_ble_eq_true rfl)) dX5_chooseLessons_45 ⟨Nat.zero_le _, Nat.zero_le _⟩) hG (fun r_45 h_45 g_45 H locs hz hq hG => ?_)
          replace HW := HW r_45 h_45 g_45 hz hq
          refine lv_if_eq (tgt := 129) hx hb dX5_chooseLessons_48 (by decide) (fun c_48 => ?_) (fun c_48 => ?_)
          · replace HW := HW.1 c_48
            exact B129 K7 hK7 x1 h_45 g_45 _ _ _ HW hG (lv_sub hl [3, 4] rfl)
          · replace HW := HW.2 c_48
            refine lv_iload hx hb dX5_chooseLessons_51 (lv_at hl 0 rfl) ?_
            refine lv_iconst (v := 0) hx hb dX5_chooseLessons_53 (by decide) ?_
            refine lv_aload_n hx hb dX5_chooseLessons_54 rfl (lv_at hl 3 rfl) ?_
            refine g_getr hx hb hw inG5 hown hK hG gl_118 rfl gk_118 (by decide) 3 (by decide) (by rw [gm_118]; decide) (r := 121) gr_118_3 lk18 dX5_chooseLessons_55 ?_
            refine g_alen hx hb hK hG gl_121 gk_121 (v := (12 : Int32)) (by rw [gn_121]; decide) dX5_chooseLessons_58 ?_
            refine lv_iconst (v := 1) hx hb dX5_chooseLessons_59 (by decide) ?_
            refine lv_isub hx hb dX5_chooseLessons_60 ?_
            obtain ⟨P_61, HC_61, HW⟩ := HW
            refine g_callz (g_runSN (As := [.int x4_30, .int (0 : Int32), .int ((12 : Int32) - (1 : Int32))]) (rest := []) ⟨hx, hb, hml, hown, hts⟩ (m_X10_within l D cy ad h_45 g_45 H.size x4_30 (0 : Int32) ((12 : Int32) - (1 : Int32)) P_61 HC_61) ⟨va_cnB 3 hts (gd_w (wm2 195 rfl rfl)) rfl rfl rfl (hNw _ (List.mem_of_getElem? (i := 4) rfl)) (hw (.initialized RX10) (wm1 1 rfl rfl)) (by decide +kernel) ⟨Nat.le_of_ble_eq_true rfl, Nat.le_of_ble_eq_true rfl⟩, hw (.static yX10_within) (wm2 194 rfl rfl), trivial⟩ hK hNw hG rfl rfl hl.1 rfl (lv_room (Nat.le_of_ble_eq_true rfl)) dX5_chooseLessons_61 ⟨Nat.zero_le _, Nat.zero_le _⟩) hG (fun r_61 h_61 g_61 H locs hz hq hG => ?_)
            replace HW := HW r_61 h_61 g_61 hz hq
            refine lv_if_ne (tgt := 70) hx hb dX5_chooseLessons_64 (by decide) (fun c_64 => ?_) (fun c_64 => ?_)
            · replace HW := HW.1 c_64
              refine lv_aload_n hx hb dX5_chooseLessons_70 rfl (lv_at hl 3 rfl) ?_
              refine g_getr hx hb hw inG5 hown hK hG gl_118 rfl gk_118 (by decide) 3 (by decide) (by rw [gm_118]; decide) (r := 121) gr_118_3 lk18 dX5_chooseLessons_71 ?_
              refine lv_iload hx hb dX5_chooseLessons_74 (lv_at hl 0 rfl) ?_
              refine g_iald hx hb hK hG gl_121 gk_121 gn_121 HW.1 dX5_chooseLessons_76 ?_
              replace HW := HW.2
              refine lv_if_eq (tgt := 129) hx hb dX5_chooseLessons_77 (by decide) (fun c_77 => ?_) (fun c_77 => ?_)
              · replace HW := HW.1 c_77
                exact B129 K7 hK7 x1 h_61 g_61 _ _ _ HW hG (lv_sub hl [3, 4] rfl)
              · replace HW := HW.2 c_77
                refine lv_aload_n hx hb dX5_chooseLessons_80 rfl (lv_at hl 3 rfl) ?_
                refine g_geti hx hb hw inG5 hown hK hG gl_118 rfl gk_118 (by decide) 8 (by decide) (by rw [gm_118]; decide) gr_118_8 lk101 dX5_chooseLessons_81 ?_
                refine lv_iconst (v := 0) hx hb dX5_chooseLessons_84 (by decide) ?_
                refine lv_bipush (v := 15) hx hb dX5_chooseLessons_85 (by decide) ?_
                obtain ⟨P_87, HC_87, HW⟩ := HW
                refine g_callz (g_runSN (As := [.int (h_61 118 8), .int (0 : Int32), .int (15 : Int32)]) (rest := []) ⟨hx, hb, hml, hown, hts⟩ (m_X10_within l D cy ad h_61 g_61 H.size (h_61 118 8) (0 : Int32) (15 : Int32) P_87 HC_87) ⟨va_cnB 3 hts (gd_w (wm2 195 rfl rfl)) rfl rfl rfl (hNw _ (List.mem_of_getElem? (i := 4) rfl)) (hw (.initialized RX10) (wm1 1 rfl rfl)) (by decide +kernel) ⟨Nat.le_of_ble_eq_true rfl, Nat.le_of_ble_eq_true rfl⟩, hw (.static yX10_within) (wm2 194 rfl rfl), trivial⟩ hK hNw hG rfl rfl hl.1 rfl (lv_room (Nat.le_of_ble_eq_true rfl)) dX5_chooseLessons_87 ⟨Nat.zero_le _, Nat.zero_le _⟩) hG (fun r_87 h_87 g_87 H locs hz hq hG => ?_)
                replace HW := HW r_87 h_87 g_87 hz hq
                refine lv_if_eq (tgt := 129) hx hb dX5_chooseLessons_90 (by decide) (fun c_90 => ?_) (fun c_90 => ?_)
                · replace HW := HW.1 c_90
                  exact B129 K7 hK7 x1 h_87 g_87 _ _ _ HW hG (lv_sub hl [3, 4] rfl)
                · replace HW := HW.2 c_90
                  refine lv_aload_n hx hb dX5_chooseLessons_93 rfl (lv_at hl 3 rfl) ?_
                  refine g_getr hx hb hw inG5 hown hK hG gl_118 rfl gk_118 (by decide) 1 (by decide) (by rw [gm_118]; decide) (r := 119) gr_118_1 lk11 dX5_chooseLessons_94 ?_
                  refine lv_aload_n hx hb dX5_chooseLessons_97 rfl (lv_at hl 3 rfl) ?_
                  refine g_geti hx hb hw inG5 hown hK hG gl_118 rfl gk_118 (by decide) 8 (by decide) (by rw [gm_118]; decide) gr_118_8 lk101 dX5_chooseLessons_98 ?_
                  refine lv_iload_n hx hb dX5_chooseLessons_101 rfl (lv_at hl 4 rfl) ?_
                  refine g_iast hx hb hK hG gl_119 gk_119 gn_119 HW.1 dX5_chooseLessons_102 (fun H locs hG => ?_)
                  replace HW := HW.2
                  obtain ⟨h_102, eh_102⟩ : ∃ y : HI, y = hu h_87 119 (h_87 118 8).toNatClampNeg x1 := ⟨_, rfl⟩
                  rw [← eh_102] at hG
                  replace HW := HW h_102 eh_102
                  refine lv_aload_n hx hb dX5_chooseLessons_103 rfl (lv_at hl 3 rfl) ?_
                  refine g_getr hx hb hw inG5 hown hK hG gl_118 rfl gk_118 (by decide) 2 (by decide) (by rw [gm_118]; decide) (r := 120) gr_118_2 lk15 dX5_chooseLessons_104 ?_
                  refine lv_aload_n hx hb dX5_chooseLessons_107 rfl (lv_at hl 3 rfl) ?_
                  refine g_geti hx hb hw inG5 hown hK hG gl_118 rfl gk_118 (by decide) 8 (by decide) (by rw [gm_118]; decide) gr_118_8 lk101 dX5_chooseLessons_108 ?_
                  refine lv_aload_n hx hb dX5_chooseLessons_111 rfl (lv_at hl 3 rfl) ?_
                  refine g_getr hx hb hw inG5 hown hK hG gl_118 rfl gk_118 (by decide) 3 (by decide) (by rw [gm_118]; decide) (r := 121) gr_118_3 lk18 dX5_chooseLessons_112 ?_
                  refine lv_iload hx hb dX5_chooseLessons_115 (lv_at hl 0 rfl) ?_
                  refine g_iald hx hb hK hG gl_121 gk_121 gn_121 HW.1 dX5_chooseLessons_117 ?_
                  replace HW := HW.2
                  refine g_iast hx hb hK hG gl_120 gk_120 gn_120 HW.1 dX5_chooseLessons_118 (fun H locs hG => ?_)
                  replace HW := HW.2
                  obtain ⟨h_118, eh_118⟩ : ∃ y : HI, y = hu h_102 120 (h_102 118 8).toNatClampNeg (h_102 121 x4_30.toNatClampNeg) := ⟨_, rfl⟩
                  rw [← eh_118] at hG
                  replace HW := HW h_118 eh_118
                  refine lv_aload_n hx hb dX5_chooseLessons_119 rfl (lv_at hl 3 rfl) ?_
                  refine lv_dup hx hb dX5_chooseLessons_120 rfl ?_
                  refine g_geti hx hb hw inG5 hown hK hG gl_118 rfl gk_118 (by decide) 8 (by decide) (by rw [gm_118]; decide) gr_118_8 lk101 dX5_chooseLessons_121 ?_
                  refine lv_iconst (v := 1) hx hb dX5_chooseLessons_124 (by decide) ?_
                  refine lv_iadd hx hb dX5_chooseLessons_125 ?_
                  refine g_put hx hb hw inG5 tyX5 tyX5_ok nmX5 hown hK hG gl_118 rfl gk_118 (by decide) 8 (by decide) (by rw [gm_118]; decide) gr_118_8 rfl (ty := .int) (by decide +kernel) rfl rfl lk101 dX5_chooseLessons_126 (fun H locs hG => ?_)
                  obtain ⟨h_126, eh_126⟩ : ∃ y : HI, y = hu h_118 118 8 ((h_118 118 8) + (1 : Int32)) := ⟨_, rfl⟩
                  rw [← eh_126] at hG
                  replace HW := HW h_126 eh_126
                  exact B129 K7 hK7 x1 h_126 g_87 _ _ _ HW hG (lv_sub hl [3, 4] rfl)
            · replace HW := HW.2 c_64
              refine lv_goto (tgt := 129) hx hb dX5_chooseLessons_67 (by decide) ?_
              exact B129 K7 hK7 x1 h_61 g_61 _ _ _ HW hG (lv_sub hl [3, 4] rfl)
  have E0 : ∀ (H : Heap) (locs : List Loc) (ls : Array Slot), gG D cy ad (gA ad s.heap.size) s.heap h g H locs → lv_has ls 5 [(0, .ref (ad 118))] → W p l e ({ frames := 1, cells := 0, slots := 0, locals := 22 } : Room) s m args below meth c H locs 0 0 (MQ below (va_Qv (fun (u : HI × HL) => Q u.1 u.2) (gB D cy ad s.heap.size) (gA ad s.heap.size)) args s 0 0 (gA ad s.heap.size)) (F0 m 0 ls []) := by
    intro H locs ls hG hl
    unfold w_X5_chooseLessons at HW
    refine lv_aload_n hx hb dX5_chooseLessons_0 rfl (lv_at hl 0 rfl) ?_
    refine lv_iconst (v := 0) hx hb dX5_chooseLessons_1 (by decide) ?_
    refine g_put hx hb hw inG5 tyX5 tyX5_ok nmX5 hown hK hG gl_118 rfl gk_118 (by decide) 8 (by decide) (by rw [gm_118]; decide) gr_118_8 rfl (ty := .int) (by decide +kernel) rfl rfl lk101 dX5_chooseLessons_2 (fun H locs hG => ?_)
    obtain ⟨h_2, eh_2⟩ : ∃ y : HI, y = hu h 118 8 (0 : Int32) := ⟨_, rfl⟩
    rw [← eh_2] at hG
    replace HW := HW h_2 eh_2
    refine lv_iconst (v := 0) hx hb dX5_chooseLessons_5 (by decide) ?_
    refine lv_istore_n (lv' := [(1, .int (0 : Int32)), (0, .ref (ad 118))]) hx hb dX5_chooseLessons_6 rfl hl (by decide) rfl (fun ls hl => ?_)
    obtain ⟨n_7, HW⟩ := HW
    exact L7 n_7 (0 : Int32) h_2 g _ _ _ HW hG (lv_sub hl [1, 0] rfl)
  exact E0 _ _ _ hG hl

def j_X5_chooseRuns_52 (Q : HI → HL → Prop) (K2 : Int32 → HI → HL → Prop) (K17 : Int32 → Int32 → HI → HL → Prop) (x1 : Int32) (x2 : Int32) (h : HI) (g : HL) : Prop :=
  (∀ x2_52 : Int32, x2_52 = (x2 + 1) → K17 x1 x2_52 h g)
def b_X5_chooseRuns_17 (Q : HI → HL → Prop) (K2 : Int32 → HI → HL → Prop) (K17 : Int32 → Int32 → HI → HL → Prop) (x1 : Int32) (x2 : Int32) (h : HI) (g : HL) : Prop :=
  (((4 : Int32) ≤ x2 → (∀ x1_58 : Int32, x1_58 = (x1 + 1) → K2 x1_58 h g)) ∧ (¬ (4 : Int32) ≤ x2 → ((¬ ((x1 >>> (x2 &&& 31)) &&& (1 : Int32)) = (1 : Int32) → j_X5_chooseRuns_52 Q K2 K17 x1 x2 h g) ∧ (((x1 >>> (x2 &&& 31)) &&& (1 : Int32)) = (1 : Int32) → (vp_in x1 16 ∧ (∃ P_47 : Int32 → HI → HL → Prop, w_X8_at 22 x2 (0 : Int32) h g P_47 ∧ ∀ (r_47 : Int32) (h_47 : HI) (g_47 : HL), P_47 r_47 h_47 g_47 → (vp_in x1 16 ∧ ∀ h_51 : HI, h_51 = hu h_47 123 x1.toNatClampNeg ((h 123 x1.toNatClampNeg) + r_47) → j_X5_chooseRuns_52 Q K2 K17 x1 x2 h_51 g_47)))))))
def F_X5_chooseRuns_17 (Q : HI → HL → Prop) (K2 : Int32 → HI → HL → Prop) (K : Int32 × Int32 × HI × HL → Prop) (q : Int32 × Int32 × HI × HL) : Prop := b_X5_chooseRuns_17 Q K2 (fun x1 x2 h g => K (x1, x2, h, g)) q.1 q.2.1 q.2.2.1 q.2.2.2
def b_X5_chooseRuns_2 (Q : HI → HL → Prop) (K2 : Int32 → HI → HL → Prop) (x1 : Int32) (h : HI) (g : HL) : Prop :=
  (((15 : Int32) < x1 → Q h g) ∧ (¬ (15 : Int32) < x1 → (vp_in x1 16 ∧ ∀ h_14 : HI, h_14 = hu h 123 x1.toNatClampNeg (0 : Int32) → lpE (F_X5_chooseRuns_17 Q K2) (x1, (0 : Int32), h_14, g))))
def F_X5_chooseRuns_2 (Q : HI → HL → Prop) (K : Int32 × HI × HL → Prop) (q : Int32 × HI × HL) : Prop := b_X5_chooseRuns_2 Q (fun x1 h g => K (x1, h, g)) q.1 q.2.1 q.2.2
def w_X5_chooseRuns  (h : HI) (g : HL) (Q : HI → HL → Prop) : Prop :=
  lpE (F_X5_chooseRuns_2 Q) ((0 : Int32), h, g)
set_option maxHeartbeats 8000000 in
set_option maxRecDepth 100000 in
theorem m_X5_chooseRuns (l : Launch) (D : va_G) (cy : Nat → ClassId) (ad : Nat → Nat) (h : HI) (g : HL) (sz : Nat)  (Q : HI → HL → Prop) (HW : w_X5_chooseRuns h g Q) : Met l yX5_chooseRuns (wa yX5_chooseRuns cX5_chooseRuns 3 none) ({ frames := 1, cells := 0, slots := 0, locals := 23 }) (va_Pc [.ref (ad 118)] (gI D cy ad h g sz)) (va_Qv (fun (u : HI × HL) => Q u.1 u.2) (gB D cy ad sz) (gA ad sz)) 0 0 (gA ad sz) := by
  refine Met.ofW (cc := cX5_chooseRuns) (maxL := 3) (ret := none) (by decide) rfl ?_
  intro p e s m args below meth c s₁ B hml hv
  obtain ⟨hav, hsz, hP, hK, hD0, hNw⟩ := hv
  have hx := B.exec
  have hb := B.bytes
  have hr := B.returns
  have hts := atoms_spec (ws := (wa yX5_chooseRuns cX5_chooseRuns 3 none)) B.pre
  have hw := wa_hw hts
  have hown : s.vm.findClass RX5 = some m.cls := findClass_of_methodNamed B.named
  have hlocks := B.notSynchronized
  subst hsz
  have hG : gG D cy ad (gA ad s.heap.size) s.heap h g s.heap [] := ⟨hP, gA_self hD0, va_S.rf⟩
  clear hP hD0
  have lk24 := hw (.fieldLink RX5 24 "OldWorks$Plans" "runsOf" "[I") (wm2 126 rfl rfl)
  have lk35 := hw (.fieldLink RX5 35 "OldWorks$Plans" "shop" "LOldWorks$Shop;") (wm2 121 rfl rfl)
  have lk95 := hw (.fieldLink RX5 95 "OldWorks$Shop" "runs" "LOldWorks$Table;") (wm1 93 rfl rfl)
  rw [show (headSpec (wa yX5_chooseRuns cX5_chooseRuns 3 none) ({ frames := 1, cells := 0, slots := 0, locals := 23 } : Room)).room = ({ frames := 1, cells := 0, slots := 0, locals := 23 } : Room) from rfl]
  have hl := lv_entry ([.ref (ad 118)]) (n := 3) (Nat.le_of_ble_eq_true rfl)
  rw [show entryFrame m args 3 = entryFrame m ([.ref (ad 118)] : List Value).toArray 3 from by rw [hav], lg_entry_eq]
  generalize (lg_sl ([.ref (ad 118)]) ++ List.replicate (3 - (lg_sl ([.ref (ad 118)])).length) Slot.unset).toArray = ls at hl ⊢
  have hl : lv_has ls 3 [(0, .ref (ad 118))] := hl
  have B52 : ∀ (K2 : Int32 → HI → HL → Prop) (hK2 : ∀ (x1 : Int32) (h : HI) (g : HL) (H : Heap) (locs : List Loc) (ls : Array Slot), K2 x1 h g → gG D cy ad (gA ad s.heap.size) s.heap h g H locs → lv_has ls 3 [(0, .ref (ad 118)), (1, .int x1)] → W p l e ({ frames := 1, cells := 0, slots := 0, locals := 23 } : Room) s m args below meth c H locs 0 0 (MQ below (va_Qv (fun (u : HI × HL) => Q u.1 u.2) (gB D cy ad s.heap.size) (gA ad s.heap.size)) args s 0 0 (gA ad s.heap.size)) (F0 m 2 ls [])) (K17 : Int32 → Int32 → HI → HL → Prop) (hK17 : ∀ (x1 : Int32) (x2 : Int32) (h : HI) (g : HL) (H : Heap) (locs : List Loc) (ls : Array Slot), K17 x1 x2 h g → gG D cy ad (gA ad s.heap.size) s.heap h g H locs → lv_has ls 3 [(0, .ref (ad 118)), (1, .int x1), (2, .int x2)] → W p l e ({ frames := 1, cells := 0, slots := 0, locals := 23 } : Room) s m args below meth c H locs 0 0 (MQ below (va_Qv (fun (u : HI × HL) => Q u.1 u.2) (gB D cy ad s.heap.size) (gA ad s.heap.size)) args s 0 0 (gA ad s.heap.size)) (F0 m 17 ls [])) (x1 : Int32) (x2 : Int32) (h : HI) (g : HL) (H : Heap) (locs : List Loc) (ls : Array Slot), j_X5_chooseRuns_52 Q K2 K17 x1 x2 h g → gG D cy ad (gA ad s.heap.size) s.heap h g H locs → lv_has ls 3 [(0, .ref (ad 118)), (1, .int x1), (2, .int x2)] → W p l e ({ frames := 1, cells := 0, slots := 0, locals := 23 } : Room) s m args below meth c H locs 0 0 (MQ below (va_Qv (fun (u : HI × HL) => Q u.1 u.2) (gB D cy ad s.heap.size) (gA ad s.heap.size)) args s 0 0 (gA ad s.heap.size)) (F0 m 52 ls []) := by
    intro K2 hK2 K17 hK17 x1 x2 h g H locs ls HW hG hl
    unfold j_X5_chooseRuns_52 at HW
    obtain ⟨x2_52, ex2_52⟩ : ∃ y : Int32, y = (x2 + 1) := ⟨_, rfl⟩
    replace HW := HW x2_52 ex2_52
    refine lv_iinc (v := x2_52) (lv' := [(2, .int x2_52), (0, .ref (ad 118)), (1, .int x1)]) hx hb dX5_chooseRuns_52 hl (k := 2) rfl (by rw [ex2_52]; rfl) (by decide) rfl (fun ls hl => ?_)
    refine lv_goto (tgt := 17) hx hb dX5_chooseRuns_55 (by decide) ?_
    exact hK17 x1 x2_52 h g _ _ _ HW hG (lv_sub hl [1, 2, 0] rfl)
  have L17 : ∀ (K2 : Int32 → HI → HL → Prop) (hK2 : ∀ (x1 : Int32) (h : HI) (g : HL) (H : Heap) (locs : List Loc) (ls : Array Slot), K2 x1 h g → gG D cy ad (gA ad s.heap.size) s.heap h g H locs → lv_has ls 3 [(0, .ref (ad 118)), (1, .int x1)] → W p l e ({ frames := 1, cells := 0, slots := 0, locals := 23 } : Room) s m args below meth c H locs 0 0 (MQ below (va_Qv (fun (u : HI × HL) => Q u.1 u.2) (gB D cy ad s.heap.size) (gA ad s.heap.size)) args s 0 0 (gA ad s.heap.size)) (F0 m 2 ls [])) (n : Nat) (x1 : Int32) (x2 : Int32) (h : HI) (g : HL) (H : Heap) (locs : List Loc) (ls : Array Slot), lpN (F_X5_chooseRuns_17 Q K2) n (x1, x2, h, g) → gG D cy ad (gA ad s.heap.size) s.heap h g H locs → lv_has ls 3 [(0, .ref (ad 118)), (1, .int x1), (2, .int x2)] → W p l e ({ frames := 1, cells := 0, slots := 0, locals := 23 } : Room) s m args below meth c H locs 0 0 (MQ below (va_Qv (fun (u : HI × HL) => Q u.1 u.2) (gB D cy ad s.heap.size) (gA ad s.heap.size)) args s 0 0 (gA ad s.heap.size)) (F0 m 17 ls []) := by
    intro K2 hK2 n
    induction n with
    | zero => intro x1 x2 h g H locs ls HW; exact HW.elim
    | succ n ih =>
      intro x1 x2 h g H locs ls HW hG hl
      have HW : b_X5_chooseRuns_17 Q K2 (fun x1 x2 h g => lpN (F_X5_chooseRuns_17 Q K2) n (x1, x2, h, g)) x1 x2 h g := HW
      generalize hKe : (fun (x1 : Int32) (x2 : Int32) (h : HI) (g : HL) => lpN (F_X5_chooseRuns_17 Q K2) n (x1, x2, h, g)) = K17 at HW
      have hK17 : ∀ (x1 : Int32) (x2 : Int32) (h : HI) (g : HL) (H : Heap) (locs : List Loc) (ls : Array Slot), K17 x1 x2 h g → gG D cy ad (gA ad s.heap.size) s.heap h g H locs → lv_has ls 3 [(0, .ref (ad 118)), (1, .int x1), (2, .int x2)] → W p l e ({ frames := 1, cells := 0, slots := 0, locals := 23 } : Room) s m args below meth c H locs 0 0 (MQ below (va_Qv (fun (u : HI × HL) => Q u.1 u.2) (gB D cy ad s.heap.size) (gA ad s.heap.size)) args s 0 0 (gA ad s.heap.size)) (F0 m 17 ls []) := by subst hKe; exact ih
      clear ih
      clear hKe
      unfold b_X5_chooseRuns_17 at HW
      refine lv_iload_n hx hb dX5_chooseRuns_17 rfl (lv_at hl 2 rfl) ?_
      refine lv_iconst (v := 4) hx hb dX5_chooseRuns_18 (by decide) ?_
      refine lv_icmp_ge (tgt := 58) hx hb dX5_chooseRuns_19 (by decide) (fun c_19 => ?_) (fun c_19 => ?_)
      · replace HW := HW.1 c_19
        obtain ⟨x1_58, ex1_58⟩ : ∃ y : Int32, y = (x1 + 1) := ⟨_, rfl⟩
        replace HW := HW x1_58 ex1_58
        refine lv_iinc (v := x1_58) (lv' := [(1, .int x1_58), (0, .ref (ad 118)), (2, .int x2)]) hx hb dX5_chooseRuns_58 hl (k := 1) rfl (by rw [ex1_58]; rfl) (by decide) rfl (fun ls hl => ?_)
        refine lv_goto (tgt := 2) hx hb dX5_chooseRuns_61 (by decide) ?_
        exact hK2 x1_58 h g _ _ _ HW hG (lv_sub hl [1, 0] rfl)
      · replace HW := HW.2 c_19
        refine lv_iload_n hx hb dX5_chooseRuns_22 rfl (lv_at hl 1 rfl) ?_
        refine lv_iload_n hx hb dX5_chooseRuns_23 rfl (lv_at hl 2 rfl) ?_
        refine lv_ishr hx hb dX5_chooseRuns_24 ?_
        refine lv_iconst (v := 1) hx hb dX5_chooseRuns_25 (by decide) ?_
        refine lv_iand hx hb dX5_chooseRuns_26 ?_
        refine lv_iconst (v := 1) hx hb dX5_chooseRuns_27 (by decide) ?_
        refine lv_icmp_ne (tgt := 52) hx hb dX5_chooseRuns_28 (by decide) (fun c_28 => ?_) (fun c_28 => ?_)
        · replace HW := HW.1 c_28
          exact B52 K2 hK2 K17 hK17 x1 x2 h g _ _ _ HW hG (lv_sub hl [0, 1, 2] rfl)
        · replace HW := HW.2 c_28
          refine lv_aload_n hx hb dX5_chooseRuns_31 rfl (lv_at hl 0 rfl) ?_
          refine g_getr hx hb hw inG5 hown hK hG gl_118 rfl gk_118 (by decide) 5 (by decide) (by rw [gm_118]; decide) (r := 123) gr_118_5 lk24 dX5_chooseRuns_32 ?_
          refine lv_iload_n hx hb dX5_chooseRuns_35 rfl (lv_at hl 1 rfl) ?_
          refine lv_dup2_11 hx hb dX5_chooseRuns_36 rfl rfl ?_
          refine g_iald hx hb hK hG gl_123 gk_123 gn_123 HW.1 dX5_chooseRuns_37 ?_
          replace HW := HW.2
          refine lv_aload_n hx hb dX5_chooseRuns_38 rfl (lv_at hl 0 rfl) ?_
          refine g_getr hx hb hw inG5 hown hK hG gl_118 rfl gk_118 (by decide) 0 (by decide) (by rw [gm_118]; decide) (r := 1) gr_118_0 lk35 dX5_chooseRuns_39 ?_
          refine g_getr hx hb hw inG6 hown hK hG gl_1 rfl gk_1 (by decide) 10 (by decide) (by rw [gm_1]; decide) (r := 22) gr_1_10 lk95 dX5_chooseRuns_42 ?_
          refine lv_iload_n hx hb dX5_chooseRuns_45 rfl (lv_at hl 2 rfl) ?_
          refine lv_iconst (v := 0) hx hb dX5_chooseRuns_46 (by decide) ?_
          obtain ⟨P_47, HC_47, HW⟩ := HW
          refine g_calli (g_runV (As := [.int x2, .int (0 : Int32)]) (rest := [.int (h 123 x1.toNatClampNeg), .int x1, .ref (ad 123)]) ⟨hx, hb, hml, hown, hts⟩ (m_X8_at l D cy ad h g H.size 22 (gs_22) x2 (0 : Int32) P_47 HC_47) (cwV 2 hts (gd_V (wm4 161 rfl rfl) (wm2 221 rfl rfl) (wm2 222 rfl rfl) (wm1 3 rfl rfl) (wm2 223 rfl rfl)) rfl rfl rfl (by decide +kernel) ⟨Nat.le_of_ble_eq_true rfl, Nat.le_of_ble_eq_true rfl⟩) hK hNw hG gl_22 rfl gk_22 (by decide) rfl rfl hl.1 rfl (lv_room (Nat.le_of_ble_eq_true rfl)) dX5_chooseRuns_47 ⟨Nat.zero_le _, Nat.zero_le _⟩) hG (fun r_47 h_47 g_47 H locs hq hG => ?_)
          replace HW := HW r_47 h_47 g_47 hq
          refine lv_iadd hx hb dX5_chooseRuns_50 ?_
          refine g_iast hx hb hK hG gl_123 gk_123 gn_123 HW.1 dX5_chooseRuns_51 (fun H locs hG => ?_)
          replace HW := HW.2
          obtain ⟨h_51, eh_51⟩ : ∃ y : HI, y = hu h_47 123 x1.toNatClampNeg ((h 123 x1.toNatClampNeg) + r_47) := ⟨_, rfl⟩
          rw [← eh_51] at hG
          replace HW := HW h_51 eh_51
          exact B52 K2 hK2 K17 hK17 x1 x2 h_51 g_47 _ _ _ HW hG (lv_sub hl [0, 1, 2] rfl)
  have L2 : ∀ (n : Nat) (x1 : Int32) (h : HI) (g : HL) (H : Heap) (locs : List Loc) (ls : Array Slot), lpN (F_X5_chooseRuns_2 Q) n (x1, h, g) → gG D cy ad (gA ad s.heap.size) s.heap h g H locs → lv_has ls 3 [(0, .ref (ad 118)), (1, .int x1)] → W p l e ({ frames := 1, cells := 0, slots := 0, locals := 23 } : Room) s m args below meth c H locs 0 0 (MQ below (va_Qv (fun (u : HI × HL) => Q u.1 u.2) (gB D cy ad s.heap.size) (gA ad s.heap.size)) args s 0 0 (gA ad s.heap.size)) (F0 m 2 ls []) := by
    intro n
    induction n with
    | zero => intro x1 h g H locs ls HW; exact HW.elim
    | succ n ih =>
      intro x1 h g H locs ls HW hG hl
      have HW : b_X5_chooseRuns_2 Q (fun x1 h g => lpN (F_X5_chooseRuns_2 Q) n (x1, h, g)) x1 h g := HW
      generalize hKe : (fun (x1 : Int32) (h : HI) (g : HL) => lpN (F_X5_chooseRuns_2 Q) n (x1, h, g)) = K2 at HW
      have hK2 : ∀ (x1 : Int32) (h : HI) (g : HL) (H : Heap) (locs : List Loc) (ls : Array Slot), K2 x1 h g → gG D cy ad (gA ad s.heap.size) s.heap h g H locs → lv_has ls 3 [(0, .ref (ad 118)), (1, .int x1)] → W p l e ({ frames := 1, cells := 0, slots := 0, locals := 23 } : Room) s m args below meth c H locs 0 0 (MQ below (va_Qv (fun (u : HI × HL) => Q u.1 u.2) (gB D cy ad s.heap.size) (gA ad s.heap.size)) args s 0 0 (gA ad s.heap.size)) (F0 m 2 ls []) := by subst hKe; exact ih
      clear ih
      clear hKe
      unfold b_X5_chooseRuns_2 at HW
      refine lv_iload_n hx hb dX5_chooseRuns_2 rfl (lv_at hl 1 rfl) ?_
      refine lv_bipush (v := 15) hx hb dX5_chooseRuns_3 (by decide) ?_
      refine lv_icmp_gt (tgt := 64) hx hb dX5_chooseRuns_5 (by decide) (fun c_5 => ?_) (fun c_5 => ?_)
      · replace HW := HW.1 c_5
        exact W.vret hx hb hr (fun t ht hW => ⟨⟨(h, g), rfl, HW, g_B ht hG⟩, hG.2.2.F ht⟩) hG.2.2.2.2 dX5_chooseRuns_64
      · replace HW := HW.2 c_5
        refine lv_aload_n hx hb dX5_chooseRuns_8 rfl (lv_at hl 0 rfl) ?_
        refine g_getr hx hb hw inG5 hown hK hG gl_118 rfl gk_118 (by decide) 5 (by decide) (by rw [gm_118]; decide) (r := 123) gr_118_5 lk24 dX5_chooseRuns_9 ?_
        refine lv_iload_n hx hb dX5_chooseRuns_12 rfl (lv_at hl 1 rfl) ?_
        refine lv_iconst (v := 0) hx hb dX5_chooseRuns_13 (by decide) ?_
        refine g_iast hx hb hK hG gl_123 gk_123 gn_123 HW.1 dX5_chooseRuns_14 (fun H locs hG => ?_)
        replace HW := HW.2
        obtain ⟨h_14, eh_14⟩ : ∃ y : HI, y = hu h 123 x1.toNatClampNeg (0 : Int32) := ⟨_, rfl⟩
        rw [← eh_14] at hG
        replace HW := HW h_14 eh_14
        refine lv_iconst (v := 0) hx hb dX5_chooseRuns_15 (by decide) ?_
        refine lv_istore_n (lv' := [(2, .int (0 : Int32)), (0, .ref (ad 118)), (1, .int x1)]) hx hb dX5_chooseRuns_16 rfl hl (by decide) rfl (fun ls hl => ?_)
        obtain ⟨n_17, HW⟩ := HW
        exact L17 K2 hK2 n_17 x1 (0 : Int32) h_14 g _ _ _ HW hG (lv_sub hl [1, 2, 0] rfl)
  have E0 : ∀ (H : Heap) (locs : List Loc) (ls : Array Slot), gG D cy ad (gA ad s.heap.size) s.heap h g H locs → lv_has ls 3 [(0, .ref (ad 118))] → W p l e ({ frames := 1, cells := 0, slots := 0, locals := 23 } : Room) s m args below meth c H locs 0 0 (MQ below (va_Qv (fun (u : HI × HL) => Q u.1 u.2) (gB D cy ad s.heap.size) (gA ad s.heap.size)) args s 0 0 (gA ad s.heap.size)) (F0 m 0 ls []) := by
    intro H locs ls hG hl
    unfold w_X5_chooseRuns at HW
    refine lv_iconst (v := 0) hx hb dX5_chooseRuns_0 (by decide) ?_
    refine lv_istore_n (lv' := [(1, .int (0 : Int32)), (0, .ref (ad 118))]) hx hb dX5_chooseRuns_1 rfl hl (by decide) rfl (fun ls hl => ?_)
    obtain ⟨n_2, HW⟩ := HW
    exact L2 n_2 (0 : Int32) h g _ _ _ HW hG (lv_sub hl [1, 0] rfl)
  exact E0 _ _ _ hG hl

def j_X5_chooseYears_59 (Q : HI → HL → Prop) (K2 : Int32 → HI → HL → Prop) (K17 : Int32 → Int32 → HI → HL → Prop) (x1 : Int32) (x2 : Int32) (h : HI) (g : HL) : Prop :=
  (∀ x2_59 : Int32, x2_59 = (x2 + 1) → K17 x1 x2_59 h g)
def b_X5_chooseYears_17 (Q : HI → HL → Prop) (K2 : Int32 → HI → HL → Prop) (K17 : Int32 → Int32 → HI → HL → Prop) (x1 : Int32) (x2 : Int32) (h : HI) (g : HL) : Prop :=
  (∃ P_25 : Int32 → HI → HL → Prop, w_X8_rows 20 h g P_25 ∧ ∀ (r_25 : Int32) (h_25 : HI) (g_25 : HL), P_25 r_25 h_25 g_25 → ((r_25 ≤ x2 → (∀ x1_65 : Int32, x1_65 = (x1 + 1) → K2 x1_65 h_25 g_25)) ∧ (¬ r_25 ≤ x2 → (∃ P_41 : Int32 → HI → HL → Prop, w_X8_at 20 x2 (1 : Int32) h_25 g_25 P_41 ∧ ∀ (r_41 : Int32) (h_41 : HI) (g_41 : HL), P_41 r_41 h_41 g_41 → ((r_41 ≤ x1 → j_X5_chooseYears_59 Q K2 K17 x1 x2 h_41 g_41) ∧ (¬ r_41 ≤ x1 → (vp_in x1 8 ∧ (vp_in x1 8 ∧ ∀ h_58 : HI, h_58 = hu h_41 124 x1.toNatClampNeg ((h_41 124 x1.toNatClampNeg) ||| ((1 : Int32) <<< (x2 &&& 31))) → j_X5_chooseYears_59 Q K2 K17 x1 x2 h_58 g_41))))))))
def F_X5_chooseYears_17 (Q : HI → HL → Prop) (K2 : Int32 → HI → HL → Prop) (K : Int32 × Int32 × HI × HL → Prop) (q : Int32 × Int32 × HI × HL) : Prop := b_X5_chooseYears_17 Q K2 (fun x1 x2 h g => K (x1, x2, h, g)) q.1 q.2.1 q.2.2.1 q.2.2.2
def b_X5_chooseYears_2 (Q : HI → HL → Prop) (K2 : Int32 → HI → HL → Prop) (x1 : Int32) (h : HI) (g : HL) : Prop :=
  (((8 : Int32) ≤ x1 → Q h g) ∧ (¬ (8 : Int32) ≤ x1 → (vp_in x1 8 ∧ ∀ h_14 : HI, h_14 = hu h 124 x1.toNatClampNeg (0 : Int32) → lpE (F_X5_chooseYears_17 Q K2) (x1, (0 : Int32), h_14, g))))
def F_X5_chooseYears_2 (Q : HI → HL → Prop) (K : Int32 × HI × HL → Prop) (q : Int32 × HI × HL) : Prop := b_X5_chooseYears_2 Q (fun x1 h g => K (x1, h, g)) q.1 q.2.1 q.2.2
def w_X5_chooseYears  (h : HI) (g : HL) (Q : HI → HL → Prop) : Prop :=
  lpE (F_X5_chooseYears_2 Q) ((0 : Int32), h, g)
set_option maxHeartbeats 8000000 in
set_option maxRecDepth 100000 in
theorem m_X5_chooseYears (l : Launch) (D : va_G) (cy : Nat → ClassId) (ad : Nat → Nat) (h : HI) (g : HL) (sz : Nat)  (Q : HI → HL → Prop) (HW : w_X5_chooseYears h g Q) : Met l yX5_chooseYears (wa yX5_chooseYears cX5_chooseYears 3 none) ({ frames := 1, cells := 0, slots := 0, locals := 23 }) (va_Pc [.ref (ad 118)] (gI D cy ad h g sz)) (va_Qv (fun (u : HI × HL) => Q u.1 u.2) (gB D cy ad sz) (gA ad sz)) 0 0 (gA ad sz) := by
  refine Met.ofW (cc := cX5_chooseYears) (maxL := 3) (ret := none) (by decide) rfl ?_
  intro p e s m args below meth c s₁ B hml hv
  obtain ⟨hav, hsz, hP, hK, hD0, hNw⟩ := hv
  have hx := B.exec
  have hb := B.bytes
  have hr := B.returns
  have hts := atoms_spec (ws := (wa yX5_chooseYears cX5_chooseYears 3 none)) B.pre
  have hw := wa_hw hts
  have hown : s.vm.findClass RX5 = some m.cls := findClass_of_methodNamed B.named
  have hlocks := B.notSynchronized
  subst hsz
  have hG : gG D cy ad (gA ad s.heap.size) s.heap h g s.heap [] := ⟨hP, gA_self hD0, va_S.rf⟩
  clear hP hD0
  have lk27 := hw (.fieldLink RX5 27 "OldWorks$Plans" "there" "[I") (wm2 127 rfl rfl)
  have lk35 := hw (.fieldLink RX5 35 "OldWorks$Plans" "shop" "LOldWorks$Shop;") (wm2 121 rfl rfl)
  have lk76 := hw (.fieldLink RX5 76 "OldWorks$Shop" "hands" "LOldWorks$Table;") (wm1 90 rfl rfl)
  rw [show (headSpec (wa yX5_chooseYears cX5_chooseYears 3 none) ({ frames := 1, cells := 0, slots := 0, locals := 23 } : Room)).room = ({ frames := 1, cells := 0, slots := 0, locals := 23 } : Room) from rfl]
  have hl := lv_entry ([.ref (ad 118)]) (n := 3) (Nat.le_of_ble_eq_true rfl)
  rw [show entryFrame m args 3 = entryFrame m ([.ref (ad 118)] : List Value).toArray 3 from by rw [hav], lg_entry_eq]
  generalize (lg_sl ([.ref (ad 118)]) ++ List.replicate (3 - (lg_sl ([.ref (ad 118)])).length) Slot.unset).toArray = ls at hl ⊢
  have hl : lv_has ls 3 [(0, .ref (ad 118))] := hl
  have B59 : ∀ (K2 : Int32 → HI → HL → Prop) (hK2 : ∀ (x1 : Int32) (h : HI) (g : HL) (H : Heap) (locs : List Loc) (ls : Array Slot), K2 x1 h g → gG D cy ad (gA ad s.heap.size) s.heap h g H locs → lv_has ls 3 [(0, .ref (ad 118)), (1, .int x1)] → W p l e ({ frames := 1, cells := 0, slots := 0, locals := 23 } : Room) s m args below meth c H locs 0 0 (MQ below (va_Qv (fun (u : HI × HL) => Q u.1 u.2) (gB D cy ad s.heap.size) (gA ad s.heap.size)) args s 0 0 (gA ad s.heap.size)) (F0 m 2 ls [])) (K17 : Int32 → Int32 → HI → HL → Prop) (hK17 : ∀ (x1 : Int32) (x2 : Int32) (h : HI) (g : HL) (H : Heap) (locs : List Loc) (ls : Array Slot), K17 x1 x2 h g → gG D cy ad (gA ad s.heap.size) s.heap h g H locs → lv_has ls 3 [(0, .ref (ad 118)), (1, .int x1), (2, .int x2)] → W p l e ({ frames := 1, cells := 0, slots := 0, locals := 23 } : Room) s m args below meth c H locs 0 0 (MQ below (va_Qv (fun (u : HI × HL) => Q u.1 u.2) (gB D cy ad s.heap.size) (gA ad s.heap.size)) args s 0 0 (gA ad s.heap.size)) (F0 m 17 ls [])) (x1 : Int32) (x2 : Int32) (h : HI) (g : HL) (H : Heap) (locs : List Loc) (ls : Array Slot), j_X5_chooseYears_59 Q K2 K17 x1 x2 h g → gG D cy ad (gA ad s.heap.size) s.heap h g H locs → lv_has ls 3 [(0, .ref (ad 118)), (1, .int x1), (2, .int x2)] → W p l e ({ frames := 1, cells := 0, slots := 0, locals := 23 } : Room) s m args below meth c H locs 0 0 (MQ below (va_Qv (fun (u : HI × HL) => Q u.1 u.2) (gB D cy ad s.heap.size) (gA ad s.heap.size)) args s 0 0 (gA ad s.heap.size)) (F0 m 59 ls []) := by
    intro K2 hK2 K17 hK17 x1 x2 h g H locs ls HW hG hl
    unfold j_X5_chooseYears_59 at HW
    obtain ⟨x2_59, ex2_59⟩ : ∃ y : Int32, y = (x2 + 1) := ⟨_, rfl⟩
    replace HW := HW x2_59 ex2_59
    refine lv_iinc (v := x2_59) (lv' := [(2, .int x2_59), (0, .ref (ad 118)), (1, .int x1)]) hx hb dX5_chooseYears_59 hl (k := 2) rfl (by rw [ex2_59]; rfl) (by decide) rfl (fun ls hl => ?_)
    refine lv_goto (tgt := 17) hx hb dX5_chooseYears_62 (by decide) ?_
    exact hK17 x1 x2_59 h g _ _ _ HW hG (lv_sub hl [1, 2, 0] rfl)
  have L17 : ∀ (K2 : Int32 → HI → HL → Prop) (hK2 : ∀ (x1 : Int32) (h : HI) (g : HL) (H : Heap) (locs : List Loc) (ls : Array Slot), K2 x1 h g → gG D cy ad (gA ad s.heap.size) s.heap h g H locs → lv_has ls 3 [(0, .ref (ad 118)), (1, .int x1)] → W p l e ({ frames := 1, cells := 0, slots := 0, locals := 23 } : Room) s m args below meth c H locs 0 0 (MQ below (va_Qv (fun (u : HI × HL) => Q u.1 u.2) (gB D cy ad s.heap.size) (gA ad s.heap.size)) args s 0 0 (gA ad s.heap.size)) (F0 m 2 ls [])) (n : Nat) (x1 : Int32) (x2 : Int32) (h : HI) (g : HL) (H : Heap) (locs : List Loc) (ls : Array Slot), lpN (F_X5_chooseYears_17 Q K2) n (x1, x2, h, g) → gG D cy ad (gA ad s.heap.size) s.heap h g H locs → lv_has ls 3 [(0, .ref (ad 118)), (1, .int x1), (2, .int x2)] → W p l e ({ frames := 1, cells := 0, slots := 0, locals := 23 } : Room) s m args below meth c H locs 0 0 (MQ below (va_Qv (fun (u : HI × HL) => Q u.1 u.2) (gB D cy ad s.heap.size) (gA ad s.heap.size)) args s 0 0 (gA ad s.heap.size)) (F0 m 17 ls []) := by
    intro K2 hK2 n
    induction n with
    | zero => intro x1 x2 h g H locs ls HW; exact HW.elim
    | succ n ih =>
      intro x1 x2 h g H locs ls HW hG hl
      have HW : b_X5_chooseYears_17 Q K2 (fun x1 x2 h g => lpN (F_X5_chooseYears_17 Q K2) n (x1, x2, h, g)) x1 x2 h g := HW
      generalize hKe : (fun (x1 : Int32) (x2 : Int32) (h : HI) (g : HL) => lpN (F_X5_chooseYears_17 Q K2) n (x1, x2, h, g)) = K17 at HW
      have hK17 : ∀ (x1 : Int32) (x2 : Int32) (h : HI) (g : HL) (H : Heap) (locs : List Loc) (ls : Array Slot), K17 x1 x2 h g → gG D cy ad (gA ad s.heap.size) s.heap h g H locs → lv_has ls 3 [(0, .ref (ad 118)), (1, .int x1), (2, .int x2)] → W p l e ({ frames := 1, cells := 0, slots := 0, locals := 23 } : Room) s m args below meth c H locs 0 0 (MQ below (va_Qv (fun (u : HI × HL) => Q u.1 u.2) (gB D cy ad s.heap.size) (gA ad s.heap.size)) args s 0 0 (gA ad s.heap.size)) (F0 m 17 ls []) := by subst hKe; exact ih
      clear ih
      clear hKe
      unfold b_X5_chooseYears_17 at HW
      refine lv_iload_n hx hb dX5_chooseYears_17 rfl (lv_at hl 2 rfl) ?_
      refine lv_aload_n hx hb dX5_chooseYears_18 rfl (lv_at hl 0 rfl) ?_
      refine g_getr hx hb hw inG5 hown hK hG gl_118 rfl gk_118 (by decide) 0 (by decide) (by rw [gm_118]; decide) (r := 1) gr_118_0 lk35 dX5_chooseYears_19 ?_
      refine g_getr hx hb hw inG6 hown hK hG gl_1 rfl gk_1 (by decide) 9 (by decide) (by rw [gm_1]; decide) (r := 20) gr_1_9 lk76 dX5_chooseYears_22 ?_
      obtain ⟨P_25, HC_25, HW⟩ := HW
      refine g_calli (g_runV (As := []) (rest := [.int x2]) ⟨hx, hb, hml, hown, hts⟩ (m_X8_rows l D cy ad h g H.size 20 (gs_20) P_25 HC_25) (cwV 0 hts (gd_V (wm4 160 rfl rfl) (wm2 217 rfl rfl) (wm2 218 rfl rfl) (wm1 3 rfl rfl) (wm2 219 rfl rfl)) rfl rfl rfl (by decide +kernel) ⟨Nat.le_of_ble_eq_true rfl, Nat.le_of_ble_eq_true rfl⟩) hK hNw hG gl_20 rfl gk_20 (by decide) rfl rfl hl.1 rfl (lv_room (Nat.le_of_ble_eq_true rfl)) dX5_chooseYears_25 ⟨Nat.zero_le _, Nat.zero_le _⟩) hG (fun r_25 h_25 g_25 H locs hq hG => ?_)
      replace HW := HW r_25 h_25 g_25 hq
      refine lv_icmp_ge (tgt := 65) hx hb dX5_chooseYears_28 (by decide) (fun c_28 => ?_) (fun c_28 => ?_)
      · replace HW := HW.1 c_28
        obtain ⟨x1_65, ex1_65⟩ : ∃ y : Int32, y = (x1 + 1) := ⟨_, rfl⟩
        replace HW := HW x1_65 ex1_65
        refine lv_iinc (v := x1_65) (lv' := [(1, .int x1_65), (0, .ref (ad 118)), (2, .int x2)]) hx hb dX5_chooseYears_65 hl (k := 1) rfl (by rw [ex1_65]; rfl) (by decide) rfl (fun ls hl => ?_)
        refine lv_goto (tgt := 2) hx hb dX5_chooseYears_68 (by decide) ?_
        exact hK2 x1_65 h_25 g_25 _ _ _ HW hG (lv_sub hl [1, 0] rfl)
      · replace HW := HW.2 c_28
        refine lv_iload_n hx hb dX5_chooseYears_31 rfl (lv_at hl 1 rfl) ?_
        refine lv_aload_n hx hb dX5_chooseYears_32 rfl (lv_at hl 0 rfl) ?_
        refine g_getr hx hb hw inG5 hown hK hG gl_118 rfl gk_118 (by decide) 0 (by decide) (by rw [gm_118]; decide) (r := 1) gr_118_0 lk35 dX5_chooseYears_33 ?_
        refine g_getr hx hb hw inG6 hown hK hG gl_1 rfl gk_1 (by decide) 9 (by decide) (by rw [gm_1]; decide) (r := 20) gr_1_9 lk76 dX5_chooseYears_36 ?_
        refine lv_iload_n hx hb dX5_chooseYears_39 rfl (lv_at hl 2 rfl) ?_
        refine lv_iconst (v := 1) hx hb dX5_chooseYears_40 (by decide) ?_
        obtain ⟨P_41, HC_41, HW⟩ := HW
        refine g_calli (g_runV (As := [.int x2, .int (1 : Int32)]) (rest := [.int x1]) ⟨hx, hb, hml, hown, hts⟩ (m_X8_at l D cy ad h_25 g_25 H.size 20 (gs_20) x2 (1 : Int32) P_41 HC_41) (cwV 2 hts (gd_V (wm4 161 rfl rfl) (wm2 221 rfl rfl) (wm2 222 rfl rfl) (wm1 3 rfl rfl) (wm2 223 rfl rfl)) rfl rfl rfl (by decide +kernel) ⟨Nat.le_of_ble_eq_true rfl, Nat.le_of_ble_eq_true rfl⟩) hK hNw hG gl_20 rfl gk_20 (by decide) rfl rfl hl.1 rfl (lv_room (Nat.le_of_ble_eq_true rfl)) dX5_chooseYears_41 ⟨Nat.zero_le _, Nat.zero_le _⟩) hG (fun r_41 h_41 g_41 H locs hq hG => ?_)
        replace HW := HW r_41 h_41 g_41 hq
        refine lv_icmp_ge (tgt := 59) hx hb dX5_chooseYears_44 (by decide) (fun c_44 => ?_) (fun c_44 => ?_)
        · replace HW := HW.1 c_44
          exact B59 K2 hK2 K17 hK17 x1 x2 h_41 g_41 _ _ _ HW hG (lv_sub hl [0, 1, 2] rfl)
        · replace HW := HW.2 c_44
          refine lv_aload_n hx hb dX5_chooseYears_47 rfl (lv_at hl 0 rfl) ?_
          refine g_getr hx hb hw inG5 hown hK hG gl_118 rfl gk_118 (by decide) 6 (by decide) (by rw [gm_118]; decide) (r := 124) gr_118_6 lk27 dX5_chooseYears_48 ?_
          refine lv_iload_n hx hb dX5_chooseYears_51 rfl (lv_at hl 1 rfl) ?_
          refine lv_dup2_11 hx hb dX5_chooseYears_52 rfl rfl ?_
          refine g_iald hx hb hK hG gl_124 gk_124 gn_124 HW.1 dX5_chooseYears_53 ?_
          replace HW := HW.2
          refine lv_iconst (v := 1) hx hb dX5_chooseYears_54 (by decide) ?_
          refine lv_iload_n hx hb dX5_chooseYears_55 rfl (lv_at hl 2 rfl) ?_
          refine lv_ishl hx hb dX5_chooseYears_56 ?_
          refine lv_ior hx hb dX5_chooseYears_57 ?_
          refine g_iast hx hb hK hG gl_124 gk_124 gn_124 HW.1 dX5_chooseYears_58 (fun H locs hG => ?_)
          replace HW := HW.2
          obtain ⟨h_58, eh_58⟩ : ∃ y : HI, y = hu h_41 124 x1.toNatClampNeg ((h_41 124 x1.toNatClampNeg) ||| ((1 : Int32) <<< (x2 &&& 31))) := ⟨_, rfl⟩
          rw [← eh_58] at hG
          replace HW := HW h_58 eh_58
          exact B59 K2 hK2 K17 hK17 x1 x2 h_58 g_41 _ _ _ HW hG (lv_sub hl [0, 1, 2] rfl)
  have L2 : ∀ (n : Nat) (x1 : Int32) (h : HI) (g : HL) (H : Heap) (locs : List Loc) (ls : Array Slot), lpN (F_X5_chooseYears_2 Q) n (x1, h, g) → gG D cy ad (gA ad s.heap.size) s.heap h g H locs → lv_has ls 3 [(0, .ref (ad 118)), (1, .int x1)] → W p l e ({ frames := 1, cells := 0, slots := 0, locals := 23 } : Room) s m args below meth c H locs 0 0 (MQ below (va_Qv (fun (u : HI × HL) => Q u.1 u.2) (gB D cy ad s.heap.size) (gA ad s.heap.size)) args s 0 0 (gA ad s.heap.size)) (F0 m 2 ls []) := by
    intro n
    induction n with
    | zero => intro x1 h g H locs ls HW; exact HW.elim
    | succ n ih =>
      intro x1 h g H locs ls HW hG hl
      have HW : b_X5_chooseYears_2 Q (fun x1 h g => lpN (F_X5_chooseYears_2 Q) n (x1, h, g)) x1 h g := HW
      generalize hKe : (fun (x1 : Int32) (h : HI) (g : HL) => lpN (F_X5_chooseYears_2 Q) n (x1, h, g)) = K2 at HW
      have hK2 : ∀ (x1 : Int32) (h : HI) (g : HL) (H : Heap) (locs : List Loc) (ls : Array Slot), K2 x1 h g → gG D cy ad (gA ad s.heap.size) s.heap h g H locs → lv_has ls 3 [(0, .ref (ad 118)), (1, .int x1)] → W p l e ({ frames := 1, cells := 0, slots := 0, locals := 23 } : Room) s m args below meth c H locs 0 0 (MQ below (va_Qv (fun (u : HI × HL) => Q u.1 u.2) (gB D cy ad s.heap.size) (gA ad s.heap.size)) args s 0 0 (gA ad s.heap.size)) (F0 m 2 ls []) := by subst hKe; exact ih
      clear ih
      clear hKe
      unfold b_X5_chooseYears_2 at HW
      refine lv_iload_n hx hb dX5_chooseYears_2 rfl (lv_at hl 1 rfl) ?_
      refine lv_bipush (v := 8) hx hb dX5_chooseYears_3 (by decide) ?_
      refine lv_icmp_ge (tgt := 71) hx hb dX5_chooseYears_5 (by decide) (fun c_5 => ?_) (fun c_5 => ?_)
      · replace HW := HW.1 c_5
        exact W.vret hx hb hr (fun t ht hW => ⟨⟨(h, g), rfl, HW, g_B ht hG⟩, hG.2.2.F ht⟩) hG.2.2.2.2 dX5_chooseYears_71
      · replace HW := HW.2 c_5
        refine lv_aload_n hx hb dX5_chooseYears_8 rfl (lv_at hl 0 rfl) ?_
        refine g_getr hx hb hw inG5 hown hK hG gl_118 rfl gk_118 (by decide) 6 (by decide) (by rw [gm_118]; decide) (r := 124) gr_118_6 lk27 dX5_chooseYears_9 ?_
        refine lv_iload_n hx hb dX5_chooseYears_12 rfl (lv_at hl 1 rfl) ?_
        refine lv_iconst (v := 0) hx hb dX5_chooseYears_13 (by decide) ?_
        refine g_iast hx hb hK hG gl_124 gk_124 gn_124 HW.1 dX5_chooseYears_14 (fun H locs hG => ?_)
        replace HW := HW.2
        obtain ⟨h_14, eh_14⟩ : ∃ y : HI, y = hu h 124 x1.toNatClampNeg (0 : Int32) := ⟨_, rfl⟩
        rw [← eh_14] at hG
        replace HW := HW h_14 eh_14
        refine lv_iconst (v := 0) hx hb dX5_chooseYears_15 (by decide) ?_
        refine lv_istore_n (lv' := [(2, .int (0 : Int32)), (0, .ref (ad 118)), (1, .int x1)]) hx hb dX5_chooseYears_16 rfl hl (by decide) rfl (fun ls hl => ?_)
        obtain ⟨n_17, HW⟩ := HW
        exact L17 K2 hK2 n_17 x1 (0 : Int32) h_14 g _ _ _ HW hG (lv_sub hl [1, 2, 0] rfl)
  have E0 : ∀ (H : Heap) (locs : List Loc) (ls : Array Slot), gG D cy ad (gA ad s.heap.size) s.heap h g H locs → lv_has ls 3 [(0, .ref (ad 118))] → W p l e ({ frames := 1, cells := 0, slots := 0, locals := 23 } : Room) s m args below meth c H locs 0 0 (MQ below (va_Qv (fun (u : HI × HL) => Q u.1 u.2) (gB D cy ad s.heap.size) (gA ad s.heap.size)) args s 0 0 (gA ad s.heap.size)) (F0 m 0 ls []) := by
    intro H locs ls hG hl
    unfold w_X5_chooseYears at HW
    refine lv_iconst (v := 0) hx hb dX5_chooseYears_0 (by decide) ?_
    refine lv_istore_n (lv' := [(1, .int (0 : Int32)), (0, .ref (ad 118))]) hx hb dX5_chooseYears_1 rfl hl (by decide) rfl (fun ls hl => ?_)
    obtain ⟨n_2, HW⟩ := HW
    exact L2 n_2 (0 : Int32) h g _ _ _ HW hG (lv_sub hl [1, 0] rfl)
  exact E0 _ _ _ hG hl

def j_X5_runsBy_48 (Q : Int32 → HI → HL → Prop) (K18 : Int32 → Int32 → Int32 → Int32 → HI → HL → Prop) (x1 : Int32) (x2 : Int32) (x3 : Int32) (x4 : Int32) (h : HI) (g : HL) : Prop :=
  (∀ x4_48 : Int32, x4_48 = (x4 + 1) → K18 x1 x2 x3 x4_48 h g)
def b_X5_runsBy_18 (Q : Int32 → HI → HL → Prop) (K18 : Int32 → Int32 → Int32 → Int32 → HI → HL → Prop) (x1 : Int32) (x2 : Int32) (x3 : Int32) (x4 : Int32) (h : HI) (g : HL) : Prop :=
  (((3 : Int32) ≤ x4 → (vp_in (x3 &&& (15 : Int32)) 16 ∧ Q (h 123 (x3 &&& (15 : Int32)).toNatClampNeg) h g)) ∧ (¬ (3 : Int32) ≤ x4 → ((¬ ((x1 >>> (x4 &&& 31)) &&& (1 : Int32)) = (1 : Int32) → j_X5_runsBy_48 Q K18 x1 x2 x3 x4 h g) ∧ (((x1 >>> (x4 &&& 31)) &&& (1 : Int32)) = (1 : Int32) → (vp_in x2 256 ∧ (∀ x3_47 : Int32, x3_47 = (x3 ||| ((h 122 x2.toNatClampNeg) >>> (((4 : Int32) * x4) &&& 31))) → j_X5_runsBy_48 Q K18 x1 x2 x3_47 x4 h g))))))
def F_X5_runsBy_18 (Q : Int32 → HI → HL → Prop) (K : Int32 × Int32 × Int32 × Int32 × HI × HL → Prop) (q : Int32 × Int32 × Int32 × Int32 × HI × HL) : Prop := b_X5_runsBy_18 Q (fun x1 x2 x3 x4 h g => K (x1, x2, x3, x4, h, g)) q.1 q.2.1 q.2.2.1 q.2.2.2.1 q.2.2.2.2.1 q.2.2.2.2.2
def w_X5_runsBy (x1 : Int32) (x2 : Int32) (h : HI) (g : HL) (Q : Int32 → HI → HL → Prop) : Prop :=
  (∃ P_5 : Int32 → HI → HL → Prop, w_X10_within x2 (0 : Int32) (255 : Int32) h g P_5 ∧ ∀ (r_5 : Int32) (h_5 : HI) (g_5 : HL), zb r_5 → P_5 r_5 h_5 g_5 → ((¬ r_5 = 0 → lpE (F_X5_runsBy_18 Q) (x1, x2, (0 : Int32), (0 : Int32), h_5, g_5)) ∧ (r_5 = 0 → Q (0 : Int32) h_5 g_5)))
set_option maxHeartbeats 8000000 in
set_option maxRecDepth 100000 in
theorem m_X5_runsBy (l : Launch) (D : va_G) (cy : Nat → ClassId) (ad : Nat → Nat) (h : HI) (g : HL) (sz : Nat) (x1 : Int32) (x2 : Int32) (Q : Int32 → HI → HL → Prop) (HW : w_X5_runsBy x1 x2 h g Q) : Met l yX5_runsBy (wa yX5_runsBy cX5_runsBy 5 (some .int)) ({ frames := 1, cells := 0, slots := 0, locals := 22 }) (va_Pc [.ref (ad 118), .int x1, .int x2] (gI D cy ad h g sz)) (va_Qi (fun (r : Int32) (u : HI × HL) => Q r u.1 u.2) (gB D cy ad sz) (gA ad sz)) 0 0 (gA ad sz) := by
  refine Met.ofW (cc := cX5_runsBy) (maxL := 5) (ret := (some .int)) (by decide) rfl ?_
  intro p e s m args below meth c s₁ B hml hv
  obtain ⟨hav, hsz, hP, hK, hD0, hNw⟩ := hv
  have hx := B.exec
  have hb := B.bytes
  have hr := B.returns
  have hts := atoms_spec (ws := (wa yX5_runsBy cX5_runsBy 5 (some .int))) B.pre
  have hw := wa_hw hts
  have hown : s.vm.findClass RX5 = some m.cls := findClass_of_methodNamed B.named
  have hlocks := B.notSynchronized
  subst hsz
  have hG : gG D cy ad (gA ad s.heap.size) s.heap h g s.heap [] := ⟨hP, gA_self hD0, va_S.rf⟩
  clear hP hD0
  have lk24 := hw (.fieldLink RX5 24 "OldWorks$Plans" "runsOf" "[I") (wm2 126 rfl rfl)
  have lk21 := hw (.fieldLink RX5 21 "OldWorks$Plans" "skilled" "[I") (wm2 125 rfl rfl)
  rw [show (headSpec (wa yX5_runsBy cX5_runsBy 5 (some .int)) ({ frames := 1, cells := 0, slots := 0, locals := 22 } : Room)).room = ({ frames := 1, cells := 0, slots := 0, locals := 22 } : Room) from rfl]
  have hl := lv_entry ([.ref (ad 118), .int x1, .int x2]) (n := 5) (Nat.le_of_ble_eq_true rfl)
  rw [show entryFrame m args 5 = entryFrame m ([.ref (ad 118), .int x1, .int x2] : List Value).toArray 5 from by rw [hav], lg_entry_eq]
  generalize (lg_sl ([.ref (ad 118), .int x1, .int x2]) ++ List.replicate (5 - (lg_sl ([.ref (ad 118), .int x1, .int x2])).length) Slot.unset).toArray = ls at hl ⊢
  have hl : lv_has ls 5 [(0, .ref (ad 118)), (1, .int x1), (2, .int x2)] := hl
  have B48 : ∀ (K18 : Int32 → Int32 → Int32 → Int32 → HI → HL → Prop) (hK18 : ∀ (x1 : Int32) (x2 : Int32) (x3 : Int32) (x4 : Int32) (h : HI) (g : HL) (H : Heap) (locs : List Loc) (ls : Array Slot), K18 x1 x2 x3 x4 h g → gG D cy ad (gA ad s.heap.size) s.heap h g H locs → lv_has ls 5 [(0, .ref (ad 118)), (1, .int x1), (2, .int x2), (3, .int x3), (4, .int x4)] → W p l e ({ frames := 1, cells := 0, slots := 0, locals := 22 } : Room) s m args below meth c H locs 0 0 (MQ below (va_Qi (fun (r : Int32) (u : HI × HL) => Q r u.1 u.2) (gB D cy ad s.heap.size) (gA ad s.heap.size)) args s 0 0 (gA ad s.heap.size)) (F0 m 18 ls [])) (x1 : Int32) (x2 : Int32) (x3 : Int32) (x4 : Int32) (h : HI) (g : HL) (H : Heap) (locs : List Loc) (ls : Array Slot), j_X5_runsBy_48 Q K18 x1 x2 x3 x4 h g → gG D cy ad (gA ad s.heap.size) s.heap h g H locs → lv_has ls 5 [(0, .ref (ad 118)), (1, .int x1), (2, .int x2), (3, .int x3), (4, .int x4)] → W p l e ({ frames := 1, cells := 0, slots := 0, locals := 22 } : Room) s m args below meth c H locs 0 0 (MQ below (va_Qi (fun (r : Int32) (u : HI × HL) => Q r u.1 u.2) (gB D cy ad s.heap.size) (gA ad s.heap.size)) args s 0 0 (gA ad s.heap.size)) (F0 m 48 ls []) := by
    intro K18 hK18 x1 x2 x3 x4 h g H locs ls HW hG hl
    unfold j_X5_runsBy_48 at HW
    obtain ⟨x4_48, ex4_48⟩ : ∃ y : Int32, y = (x4 + 1) := ⟨_, rfl⟩
    replace HW := HW x4_48 ex4_48
    refine lv_iinc (v := x4_48) (lv' := [(4, .int x4_48), (0, .ref (ad 118)), (1, .int x1), (2, .int x2), (3, .int x3)]) hx hb dX5_runsBy_48 hl (k := 4) rfl (by rw [ex4_48]; rfl) (by decide) rfl (fun ls hl => ?_)
    refine lv_goto (tgt := 18) hx hb dX5_runsBy_51 (by decide) ?_
    exact hK18 x1 x2 x3 x4_48 h g _ _ _ HW hG (lv_sub hl [1, 2, 3, 4, 0] rfl)
  have L18 : ∀ (n : Nat) (x1 : Int32) (x2 : Int32) (x3 : Int32) (x4 : Int32) (h : HI) (g : HL) (H : Heap) (locs : List Loc) (ls : Array Slot), lpN (F_X5_runsBy_18 Q) n (x1, x2, x3, x4, h, g) → gG D cy ad (gA ad s.heap.size) s.heap h g H locs → lv_has ls 5 [(0, .ref (ad 118)), (1, .int x1), (2, .int x2), (3, .int x3), (4, .int x4)] → W p l e ({ frames := 1, cells := 0, slots := 0, locals := 22 } : Room) s m args below meth c H locs 0 0 (MQ below (va_Qi (fun (r : Int32) (u : HI × HL) => Q r u.1 u.2) (gB D cy ad s.heap.size) (gA ad s.heap.size)) args s 0 0 (gA ad s.heap.size)) (F0 m 18 ls []) := by
    intro n
    induction n with
    | zero => intro x1 x2 x3 x4 h g H locs ls HW; exact HW.elim
    | succ n ih =>
      intro x1 x2 x3 x4 h g H locs ls HW hG hl
      have HW : b_X5_runsBy_18 Q (fun x1 x2 x3 x4 h g => lpN (F_X5_runsBy_18 Q) n (x1, x2, x3, x4, h, g)) x1 x2 x3 x4 h g := HW
      generalize hKe : (fun (x1 : Int32) (x2 : Int32) (x3 : Int32) (x4 : Int32) (h : HI) (g : HL) => lpN (F_X5_runsBy_18 Q) n (x1, x2, x3, x4, h, g)) = K18 at HW
      have hK18 : ∀ (x1 : Int32) (x2 : Int32) (x3 : Int32) (x4 : Int32) (h : HI) (g : HL) (H : Heap) (locs : List Loc) (ls : Array Slot), K18 x1 x2 x3 x4 h g → gG D cy ad (gA ad s.heap.size) s.heap h g H locs → lv_has ls 5 [(0, .ref (ad 118)), (1, .int x1), (2, .int x2), (3, .int x3), (4, .int x4)] → W p l e ({ frames := 1, cells := 0, slots := 0, locals := 22 } : Room) s m args below meth c H locs 0 0 (MQ below (va_Qi (fun (r : Int32) (u : HI × HL) => Q r u.1 u.2) (gB D cy ad s.heap.size) (gA ad s.heap.size)) args s 0 0 (gA ad s.heap.size)) (F0 m 18 ls []) := by subst hKe; exact ih
      clear ih
      clear hKe
      unfold b_X5_runsBy_18 at HW
      refine lv_iload hx hb dX5_runsBy_18 (lv_at hl 4 rfl) ?_
      refine lv_iconst (v := 3) hx hb dX5_runsBy_20 (by decide) ?_
      refine lv_icmp_ge (tgt := 54) hx hb dX5_runsBy_21 (by decide) (fun c_21 => ?_) (fun c_21 => ?_)
      · replace HW := HW.1 c_21
        refine lv_aload_n hx hb dX5_runsBy_54 rfl (lv_at hl 0 rfl) ?_
        refine g_getr hx hb hw inG5 hown hK hG gl_118 rfl gk_118 (by decide) 5 (by decide) (by rw [gm_118]; decide) (r := 123) gr_118_5 lk24 dX5_runsBy_55 ?_
        refine lv_iload_n hx hb dX5_runsBy_58 rfl (lv_at hl 3 rfl) ?_
        refine lv_bipush (v := 15) hx hb dX5_runsBy_59 (by decide) ?_
        refine lv_iand hx hb dX5_runsBy_61 ?_
        refine g_iald hx hb hK hG gl_123 gk_123 gn_123 HW.1 dX5_runsBy_62 ?_
        replace HW := HW.2
        exact W.iret (v := (h 123 (x3 &&& (15 : Int32)).toNatClampNeg)) hx hb hr (fun t ht hW => ⟨⟨(h 123 (x3 &&& (15 : Int32)).toNatClampNeg), (h, g), rfl, HW, g_B ht hG⟩, hG.2.2.F ht⟩) hG.2.2.2.2 dX5_runsBy_63
      · replace HW := HW.2 c_21
        refine lv_iload_n hx hb dX5_runsBy_24 rfl (lv_at hl 1 rfl) ?_
        refine lv_iload hx hb dX5_runsBy_25 (lv_at hl 4 rfl) ?_
        refine lv_ishr hx hb dX5_runsBy_27 ?_
        refine lv_iconst (v := 1) hx hb dX5_runsBy_28 (by decide) ?_
        refine lv_iand hx hb dX5_runsBy_29 ?_
        refine lv_iconst (v := 1) hx hb dX5_runsBy_30 (by decide) ?_
        refine lv_icmp_ne (tgt := 48) hx hb dX5_runsBy_31 (by decide) (fun c_31 => ?_) (fun c_31 => ?_)
        · replace HW := HW.1 c_31
          exact B48 K18 hK18 x1 x2 x3 x4 h g _ _ _ HW hG (lv_sub hl [0, 1, 2, 3, 4] rfl)
        · replace HW := HW.2 c_31
          refine lv_iload_n hx hb dX5_runsBy_34 rfl (lv_at hl 3 rfl) ?_
          refine lv_aload_n hx hb dX5_runsBy_35 rfl (lv_at hl 0 rfl) ?_
          refine g_getr hx hb hw inG5 hown hK hG gl_118 rfl gk_118 (by decide) 4 (by decide) (by rw [gm_118]; decide) (r := 122) gr_118_4 lk21 dX5_runsBy_36 ?_
          refine lv_iload_n hx hb dX5_runsBy_39 rfl (lv_at hl 2 rfl) ?_
          refine g_iald hx hb hK hG gl_122 gk_122 gn_122 HW.1 dX5_runsBy_40 ?_
          replace HW := HW.2
          refine lv_iconst (v := 4) hx hb dX5_runsBy_41 (by decide) ?_
          refine lv_iload hx hb dX5_runsBy_42 (lv_at hl 4 rfl) ?_
          refine lv_imul hx hb dX5_runsBy_44 ?_
          refine lv_ishr hx hb dX5_runsBy_45 ?_
          refine lv_ior hx hb dX5_runsBy_46 ?_
          refine lv_topi (fun x3_47 ex3_47 => ?_)
          replace HW := HW x3_47 ex3_47
          refine lv_istore_n (lv' := [(3, .int x3_47), (0, .ref (ad 118)), (1, .int x1), (2, .int x2), (4, .int x4)]) hx hb dX5_runsBy_47 rfl hl (by decide) rfl (fun ls hl => ?_)
          exact B48 K18 hK18 x1 x2 x3_47 x4 h g _ _ _ HW hG (lv_sub hl [1, 2, 3, 0, 4] rfl)
  have E0 : ∀ (H : Heap) (locs : List Loc) (ls : Array Slot), gG D cy ad (gA ad s.heap.size) s.heap h g H locs → lv_has ls 5 [(0, .ref (ad 118)), (1, .int x1), (2, .int x2)] → W p l e ({ frames := 1, cells := 0, slots := 0, locals := 22 } : Room) s m args below meth c H locs 0 0 (MQ below (va_Qi (fun (r : Int32) (u : HI × HL) => Q r u.1 u.2) (gB D cy ad s.heap.size) (gA ad s.heap.size)) args s 0 0 (gA ad s.heap.size)) (F0 m 0 ls []) := by
    intro H locs ls hG hl
    unfold w_X5_runsBy at HW
    refine lv_iload_n hx hb dX5_runsBy_0 rfl (lv_at hl 2 rfl) ?_
    refine lv_iconst (v := 0) hx hb dX5_runsBy_1 (by decide) ?_
    refine lv_sipush (v := 255) hx hb dX5_runsBy_2 (by decide) ?_
    obtain ⟨P_5, HC_5, HW⟩ := HW
    refine g_callz (g_runSN (As := [.int x2, .int (0 : Int32), .int (255 : Int32)]) (rest := []) ⟨hx, hb, hml, hown, hts⟩ (m_X10_within l D cy ad h g H.size x2 (0 : Int32) (255 : Int32) P_5 HC_5) ⟨va_cnB 3 hts (gd_w (wm2 195 rfl rfl)) rfl rfl rfl (hNw _ (List.mem_of_getElem? (i := 4) rfl)) (hw (.initialized RX10) (wm1 1 rfl rfl)) (by decide +kernel) ⟨Nat.le_of_ble_eq_true rfl, Nat.le_of_ble_eq_true rfl⟩, hw (.static yX10_within) (wm2 194 rfl rfl), trivial⟩ hK hNw hG rfl rfl hl.1 rfl (lv_room (Nat.le_of_ble_eq_true rfl)) dX5_runsBy_5 ⟨Nat.zero_le _, Nat.zero_le _⟩) hG (fun r_5 h_5 g_5 H locs hz hq hG => ?_)
    replace HW := HW r_5 h_5 g_5 hz hq
    refine lv_if_ne (tgt := 13) hx hb dX5_runsBy_8 (by decide) (fun c_8 => ?_) (fun c_8 => ?_)
    · replace HW := HW.1 c_8
      refine lv_iconst (v := 0) hx hb dX5_runsBy_13 (by decide) ?_
      refine lv_istore_n (lv' := [(3, .int (0 : Int32)), (0, .ref (ad 118)), (1, .int x1), (2, .int x2)]) hx hb dX5_runsBy_14 rfl hl (by decide) rfl (fun ls hl => ?_)
      refine lv_iconst (v := 0) hx hb dX5_runsBy_15 (by decide) ?_
      refine lv_istore (lv' := [(4, .int (0 : Int32)), (3, .int (0 : Int32)), (0, .ref (ad 118)), (1, .int x1), (2, .int x2)]) hx hb dX5_runsBy_16 hl (by decide) rfl (fun ls hl => ?_)
      obtain ⟨n_18, HW⟩ := HW
      exact L18 n_18 x1 x2 (0 : Int32) (0 : Int32) h_5 g_5 _ _ _ HW hG (lv_sub hl [2, 3, 4, 1, 0] rfl)
    · replace HW := HW.2 c_8
      refine lv_iconst (v := 0) hx hb dX5_runsBy_11 (by decide) ?_
      exact W.iret (v := (0 : Int32)) hx hb hr (fun t ht hW => ⟨⟨(0 : Int32), (h_5, g_5), rfl, HW, g_B ht hG⟩, hG.2.2.F ht⟩) hG.2.2.2.2 dX5_runsBy_12
  exact E0 _ _ _ hG hl
end
section
-- 03.w07
def w_X5_idle (x1 : Int32) (x2 : Int32) (h : HI) (g : HL) (Q : Int32 → HI → HL → Prop) : Prop :=
  (∃ P_4 : Int32 → HI → HL → Prop, w_X10_within x1 (0 : Int32) (7 : Int32) h g P_4 ∧ ∀ (r_4 : Int32) (h_4 : HI) (g_4 : HL), zb r_4 → P_4 r_4 h_4 g_4 → ((r_4 = 0 → Q (-1 : Int32) h_4 g_4) ∧ (¬ r_4 = 0 → (∃ P_15 : Int32 → HI → HL → Prop, w_X10_within x2 (0 : Int32) (255 : Int32) h_4 g_4 P_15 ∧ ∀ (r_15 : Int32) (h_15 : HI) (g_15 : HL), zb r_15 → P_15 r_15 h_15 g_15 → ((¬ r_15 = 0 → (vp_in x1 8 ∧ (∃ P_31 : Int32 → HI → HL → Prop, w_X5_runsBy (h_15 124 x1.toNatClampNeg) x2 h_15 g_15 P_31 ∧ ∀ (r_31 : Int32) (h_31 : HI) (g_31 : HL), P_31 r_31 h_31 g_31 → (vp_in (x1 + (1 : Int32)) 9 ∧ (vp_in x2 256 ∧ Q (r_31 + (h_31 (126 + (x1 + (1 : Int32)).toNatClampNeg) x2.toNatClampNeg)) h_31 g_31))))) ∧ (r_15 = 0 → Q (-1 : Int32) h_15 g_15))))))
set_option maxHeartbeats 8000000 in
set_option maxRecDepth 100000 in
theorem m_X5_idle (l : Launch) (D : va_G) (cy : Nat → ClassId) (ad : Nat → Nat) (h : HI) (g : HL) (sz : Nat) (x1 : Int32) (x2 : Int32) (Q : Int32 → HI → HL → Prop) (HW : w_X5_idle x1 x2 h g Q) : Met l yX5_idle (wa yX5_idle cX5_idle 3 (some .int)) ({ frames := 2, cells := 0, slots := 0, locals := 46 }) (va_Pc [.ref (ad 118), .int x1, .int x2] (gI D cy ad h g sz)) (va_Qi (fun (r : Int32) (u : HI × HL) => Q r u.1 u.2) (gB D cy ad sz) (gA ad sz)) 0 0 (gA ad sz) := by
  refine Met.ofW (cc := cX5_idle) (maxL := 3) (ret := (some .int)) (by decide) rfl ?_
  intro p e s m args below meth c s₁ B hml hv
  obtain ⟨hav, hsz, hP, hK, hD0, hNw⟩ := hv
  have hx := B.exec
  have hb := B.bytes
  have hr := B.returns
  have hts := atoms_spec (ws := (wa yX5_idle cX5_idle 3 (some .int))) B.pre
  have hw := wa_hw hts
  have hown : s.vm.findClass RX5 = some m.cls := findClass_of_methodNamed B.named
  have hlocks := B.notSynchronized
  subst hsz
  have hG : gG D cy ad (gA ad s.heap.size) s.heap h g s.heap [] := ⟨hP, gA_self hD0, va_S.rf⟩
  clear hP hD0
  have lk27 := hw (.fieldLink RX5 27 "OldWorks$Plans" "there" "[I") (wm2 127 rfl rfl)
  have lk32 := hw (.fieldLink RX5 32 "OldWorks$Plans" "most" "[[I") (wm2 128 rfl rfl)
  rw [show (headSpec (wa yX5_idle cX5_idle 3 (some .int)) ({ frames := 2, cells := 0, slots := 0, locals := 46 } : Room)).room = ({ frames := 2, cells := 0, slots := 0, locals := 46 } : Room) from rfl]
  have hl := lv_entry ([.ref (ad 118), .int x1, .int x2]) (n := 3) (Nat.le_of_ble_eq_true rfl)
  rw [show entryFrame m args 3 = entryFrame m ([.ref (ad 118), .int x1, .int x2] : List Value).toArray 3 from by rw [hav], lg_entry_eq]
  generalize (lg_sl ([.ref (ad 118), .int x1, .int x2]) ++ List.replicate (3 - (lg_sl ([.ref (ad 118), .int x1, .int x2])).length) Slot.unset).toArray = ls at hl ⊢
  have hl : lv_has ls 3 [(0, .ref (ad 118)), (1, .int x1), (2, .int x2)] := hl
  have E0 : ∀ (H : Heap) (locs : List Loc) (ls : Array Slot), gG D cy ad (gA ad s.heap.size) s.heap h g H locs → lv_has ls 3 [(0, .ref (ad 118)), (1, .int x1), (2, .int x2)] → W p l e ({ frames := 2, cells := 0, slots := 0, locals := 46 } : Room) s m args below meth c H locs 0 0 (MQ below (va_Qi (fun (r : Int32) (u : HI × HL) => Q r u.1 u.2) (gB D cy ad s.heap.size) (gA ad s.heap.size)) args s 0 0 (gA ad s.heap.size)) (F0 m 0 ls []) := by
    intro H locs ls hG hl
    unfold w_X5_idle at HW
    refine lv_iload_n hx hb dX5_idle_0 rfl (lv_at hl 1 rfl) ?_
    refine lv_iconst (v := 0) hx hb dX5_idle_1 (by decide) ?_
    refine lv_bipush (v := 7) hx hb dX5_idle_2 (by decide) ?_
    obtain ⟨P_4, HC_4, HW⟩ := HW
    refine g_callz (g_runSN (As := [.int x1, .int (0 : Int32), .int (7 : Int32)]) (rest := []) ⟨hx, hb, hml, hown, hts⟩ (m_X10_within l D cy ad h g H.size x1 (0 : Int32) (7 : Int32) P_4 HC_4) ⟨va_cnB 3 hts (gd_w (wm2 195 rfl rfl)) rfl rfl rfl (hNw _ (List.mem_of_getElem? (i := 4) rfl)) (hw (.initialized RX10) (wm1 1 rfl rfl)) (by decide +kernel) ⟨Nat.le_of_ble_eq_true rfl, Nat.le_of_ble_eq_true rfl⟩, hw (.static yX10_within) (wm2 194 rfl rfl), trivial⟩ hK hNw hG rfl rfl hl.1 rfl (lv_room (Nat.le_of_ble_eq_true rfl)) dX5_idle_4 ⟨Nat.zero_le _, Nat.zero_le _⟩) hG (fun r_4 h_4 g_4 H locs hz hq hG => ?_)
    replace HW := HW r_4 h_4 g_4 hz hq
    refine lv_if_eq (tgt := 21) hx hb dX5_idle_7 (by decide) (fun c_7 => ?_) (fun c_7 => ?_)
    · replace HW := HW.1 c_7
      refine lv_iconst (v := (-1)) hx hb dX5_idle_21 (by decide) ?_
      exact W.iret (v := (-1 : Int32)) hx hb hr (fun t ht hW => ⟨⟨(-1 : Int32), (h_4, g_4), rfl, HW, g_B ht hG⟩, hG.2.2.F ht⟩) hG.2.2.2.2 dX5_idle_22
    · replace HW := HW.2 c_7
      refine lv_iload_n hx hb dX5_idle_10 rfl (lv_at hl 2 rfl) ?_
      refine lv_iconst (v := 0) hx hb dX5_idle_11 (by decide) ?_
      refine lv_sipush (v := 255) hx hb dX5_idle_12 (by decide) ?_
      obtain ⟨P_15, HC_15, HW⟩ := HW
      refine g_callz (g_runSN (As := [.int x2, .int (0 : Int32), .int (255 : Int32)]) (rest := []) ⟨hx, hb, hml, hown, hts⟩ (m_X10_within l D cy ad h_4 g_4 H.size x2 (0 : Int32) (255 : Int32) P_15 HC_15) ⟨va_cnB 3 hts (gd_w (wm2 195 rfl rfl)) rfl rfl rfl (hNw _ (List.mem_of_getElem? (i := 4) rfl)) (hw (.initialized RX10) (wm1 1 rfl rfl)) (by decide +kernel) ⟨Nat.le_of_ble_eq_true rfl, Nat.le_of_ble_eq_true rfl⟩, hw (.static yX10_within) (wm2 194 rfl rfl), trivial⟩ hK hNw hG rfl rfl hl.1 rfl (lv_room (Nat.le_of_ble_eq_true rfl)) dX5_idle_15 ⟨Nat.zero_le _, Nat.zero_le _⟩) hG (fun r_15 h_15 g_15 H locs hz hq hG => ?_)
      replace HW := HW r_15 h_15 g_15 hz hq
      refine lv_if_ne (tgt := 23) hx hb dX5_idle_18 (by decide) (fun c_18 => ?_) (fun c_18 => ?_)
      · replace HW := HW.1 c_18
        refine lv_aload_n hx hb dX5_idle_23 rfl (lv_at hl 0 rfl) ?_
        refine lv_aload_n hx hb dX5_idle_24 rfl (lv_at hl 0 rfl) ?_
        refine g_getr hx hb hw inG5 hown hK hG gl_118 rfl gk_118 (by decide) 6 (by decide) (by rw [gm_118]; decide) (r := 124) gr_118_6 lk27 dX5_idle_25 ?_
        refine lv_iload_n hx hb dX5_idle_28 rfl (lv_at hl 1 rfl) ?_
        refine g_iald hx hb hK hG gl_124 gk_124 gn_124 HW.1 dX5_idle_29 ?_
        replace HW := HW.2
        refine lv_iload_n hx hb dX5_idle_30 rfl (lv_at hl 2 rfl) ?_
        obtain ⟨P_31, HC_31, HW⟩ := HW
        refine g_calli (g_runV (As := [.int (h_15 124 x1.toNatClampNeg), .int x2]) (rest := []) ⟨hx, hb, hml, hown, hts⟩ (m_X5_runsBy l D cy ad h_15 g_15 H.size (h_15 124 x1.toNatClampNeg) x2 P_31 HC_31) (cwV 2 hts (gd_V (wm4 188 rfl rfl) (wm4 190 rfl rfl) (wmp3 (q := (yX5_runsBy, 11)) 1 rfl) (wm1 12 rfl rfl) (wm4 191 rfl rfl)) rfl rfl rfl (by decide +kernel) ⟨Nat.le_of_ble_eq_true rfl, Nat.le_of_ble_eq_true rfl⟩) hK hNw hG gl_118 rfl gk_118 (by decide) rfl rfl hl.1 rfl (lv_room (Nat.le_of_ble_eq_true rfl)) dX5_idle_31 ⟨Nat.zero_le _, Nat.zero_le _⟩) hG (fun r_31 h_31 g_31 H locs hq hG => ?_)
        replace HW := HW r_31 h_31 g_31 hq
        refine lv_aload_n hx hb dX5_idle_34 rfl (lv_at hl 0 rfl) ?_
        refine g_getr hx hb hw inG5 hown hK hG gl_118 rfl gk_118 (by decide) 7 (by decide) (by rw [gm_118]; decide) (r := 125) gr_118_7 lk32 dX5_idle_35 ?_
        refine lv_iload_n hx hb dX5_idle_38 rfl (lv_at hl 1 rfl) ?_
        refine lv_iconst (v := 1) hx hb dX5_idle_39 (by decide) ?_
        refine lv_iadd hx hb dX5_idle_40 ?_
        have hi_41 := vp_lt HW.1
        refine g_aald hx hb hK hG gl_125 gk_125 gn_125 HW.1 (go_125 _ hi_41).1 dX5_idle_41 ?_
        replace HW := HW.2
        refine lv_iload_n hx hb dX5_idle_42 rfl (lv_at hl 2 rfl) ?_
        refine g_iald hx hb hK hG ((go_125 _ hi_41).2.2.1) ((go_125 _ hi_41).2.1) ((go_125 _ hi_41).2.2.2) HW.1 dX5_idle_43 ?_
        replace HW := HW.2
        refine lv_iadd hx hb dX5_idle_44 ?_
        exact W.iret (v := (r_31 + (h_31 (126 + (x1 + (1 : Int32)).toNatClampNeg) x2.toNatClampNeg))) hx hb hr (fun t ht hW => ⟨⟨(r_31 + (h_31 (126 + (x1 + (1 : Int32)).toNatClampNeg) x2.toNatClampNeg)), (h_31, g_31), rfl, HW, g_B ht hG⟩, hG.2.2.F ht⟩) hG.2.2.2.2 dX5_idle_45
      · replace HW := HW.2 c_18
        refine lv_iconst (v := (-1)) hx hb dX5_idle_21 (by decide) ?_
        exact W.iret (v := (-1 : Int32)) hx hb hr (fun t ht hW => ⟨⟨(-1 : Int32), (h_15, g_15), rfl, HW, g_B ht hG⟩, hG.2.2.F ht⟩) hG.2.2.2.2 dX5_idle_22
  exact E0 _ _ _ hG hl

def w_X5_taught (x1 : Int32) (x2 : Int32) (x3 : Int32) (h : HI) (g : HL) (Q : Int32 → HI → HL → Prop) : Prop :=
  (∃ P_4 : Int32 → HI → HL → Prop, w_X10_within x3 (0 : Int32) (15 : Int32) h g P_4 ∧ ∀ (r_4 : Int32) (h_4 : HI) (g_4 : HL), zb r_4 → P_4 r_4 h_4 g_4 → ((¬ r_4 = 0 → (∃ P_16 : Int32 → HI → HL → Prop, w_X10_within x1 (0 : Int32) (7 : Int32) h_4 g_4 P_16 ∧ ∀ (r_16 : Int32) (h_16 : HI) (g_16 : HL), zb r_16 → P_16 r_16 h_16 g_16 → ((r_16 = 0 → Q (-1 : Int32) h_16 g_16) ∧ (¬ r_16 = 0 → (∃ P_27 : Int32 → HI → HL → Prop, w_X10_within x2 (0 : Int32) (255 : Int32) h_16 g_16 P_27 ∧ ∀ (r_27 : Int32) (h_27 : HI) (g_27 : HL), zb r_27 → P_27 r_27 h_27 g_27 → ((¬ r_27 = 0 → (vp_in x3 16 ∧ (∀ x4_43 : Int32, x4_43 = ((h_27 119 x3.toNatClampNeg) >>> ((4 : Int32) &&& 31)) → (vp_in x3 16 ∧ (∀ x5_60 : Int32, x5_60 = (((1 : Int32) <<< (x4_43 &&& 31)) ||| ((1 : Int32) <<< (((h_27 119 x3.toNatClampNeg) &&& (3 : Int32)) &&& 31))) → (vp_in x3 16 ∧ (∀ x6_70 : Int32, x6_70 = (x2 ||| (h_27 120 x3.toNatClampNeg)) → (vp_in x1 8 ∧ ((¬ ((h_27 124 x1.toNatClampNeg) &&& x5_60) = x5_60 → Q (-1 : Int32) h_27 g_27) ∧ (((h_27 124 x1.toNatClampNeg) &&& x5_60) = x5_60 → ((x6_70 = x2 → Q (-1 : Int32) h_27 g_27) ∧ (¬ x6_70 = x2 → ((x6_70 < (256 : Int32) → (vp_in x2 256 ∧ (vp_in x3 16 ∧ (∃ P_120 : Int32 → HI → HL → Prop, w_X5_knows (h_27 122 x2.toNatClampNeg) x4_43 (((h_27 119 x3.toNatClampNeg) >>> ((2 : Int32) &&& 31)) &&& (3 : Int32)) h_27 g_27 P_120 ∧ ∀ (r_120 : Int32) (h_120 : HI) (g_120 : HL), zb r_120 → P_120 r_120 h_120 g_120 → ((¬ r_120 = 0 → (vp_in x1 8 ∧ (∃ P_141 : Int32 → HI → HL → Prop, w_X5_runsBy ((h_120 124 x1.toNatClampNeg) &&& (x5_60 ^^^ (-1 : Int32))) x2 h_120 g_120 P_141 ∧ ∀ (r_141 : Int32) (h_141 : HI) (g_141 : HL), P_141 r_141 h_141 g_141 → (vp_in (x1 + (1 : Int32)) 9 ∧ (vp_in x6_70 256 ∧ Q (r_141 + (h_141 (126 + (x1 + (1 : Int32)).toNatClampNeg) x6_70.toNatClampNeg)) h_141 g_141))))) ∧ (r_120 = 0 → Q (-1 : Int32) h_120 g_120)))))) ∧ (¬ x6_70 < (256 : Int32) → Q (-1 : Int32) h_27 g_27)))))))))))))) ∧ (r_27 = 0 → Q (-1 : Int32) h_27 g_27))))))) ∧ (r_4 = 0 → Q (-1 : Int32) h_4 g_4)))
set_option maxHeartbeats 8000000 in
set_option maxRecDepth 100000 in
theorem m_X5_taught (l : Launch) (D : va_G) (cy : Nat → ClassId) (ad : Nat → Nat) (h : HI) (g : HL) (sz : Nat) (x1 : Int32) (x2 : Int32) (x3 : Int32) (Q : Int32 → HI → HL → Prop) (HW : w_X5_taught x1 x2 x3 h g Q) : Met l yX5_taught (wa yX5_taught cX5_taught 7 (some .int)) ({ frames := 2, cells := 0, slots := 0, locals := 46 }) (va_Pc [.ref (ad 118), .int x1, .int x2, .int x3] (gI D cy ad h g sz)) (va_Qi (fun (r : Int32) (u : HI × HL) => Q r u.1 u.2) (gB D cy ad sz) (gA ad sz)) 0 0 (gA ad sz) := by
  refine Met.ofW (cc := cX5_taught) (maxL := 7) (ret := (some .int)) (by decide) rfl ?_
  intro p e s m args below meth c s₁ B hml hv
  obtain ⟨hav, hsz, hP, hK, hD0, hNw⟩ := hv
  have hx := B.exec
  have hb := B.bytes
  have hr := B.returns
  have hts := atoms_spec (ws := (wa yX5_taught cX5_taught 7 (some .int))) B.pre
  have hw := wa_hw hts
  have hown : s.vm.findClass RX5 = some m.cls := findClass_of_methodNamed B.named
  have hlocks := B.notSynchronized
  subst hsz
  have hG : gG D cy ad (gA ad s.heap.size) s.heap h g s.heap [] := ⟨hP, gA_self hD0, va_S.rf⟩
  clear hP hD0
  have lk11 := hw (.fieldLink RX5 11 "OldWorks$Plans" "lessons" "[I") (wm2 122 rfl rfl)
  have lk15 := hw (.fieldLink RX5 15 "OldWorks$Plans" "learns" "[I") (wm2 123 rfl rfl)
  have lk27 := hw (.fieldLink RX5 27 "OldWorks$Plans" "there" "[I") (wm2 127 rfl rfl)
  have lk21 := hw (.fieldLink RX5 21 "OldWorks$Plans" "skilled" "[I") (wm2 125 rfl rfl)
  have lk32 := hw (.fieldLink RX5 32 "OldWorks$Plans" "most" "[[I") (wm2 128 rfl rfl)
  rw [show (headSpec (wa yX5_taught cX5_taught 7 (some .int)) ({ frames := 2, cells := 0, slots := 0, locals := 46 } : Room)).room = ({ frames := 2, cells := 0, slots := 0, locals := 46 } : Room) from rfl]
  have hl := lv_entry ([.ref (ad 118), .int x1, .int x2, .int x3]) (n := 7) (Nat.le_of_ble_eq_true rfl)
  rw [show entryFrame m args 7 = entryFrame m ([.ref (ad 118), .int x1, .int x2, .int x3] : List Value).toArray 7 from by rw [hav], lg_entry_eq]
  generalize (lg_sl ([.ref (ad 118), .int x1, .int x2, .int x3]) ++ List.replicate (7 - (lg_sl ([.ref (ad 118), .int x1, .int x2, .int x3])).length) Slot.unset).toArray = ls at hl ⊢
  have hl : lv_has ls 7 [(0, .ref (ad 118)), (1, .int x1), (2, .int x2), (3, .int x3)] := hl
  have E0 : ∀ (H : Heap) (locs : List Loc) (ls : Array Slot), gG D cy ad (gA ad s.heap.size) s.heap h g H locs → lv_has ls 7 [(0, .ref (ad 118)), (1, .int x1), (2, .int x2), (3, .int x3)] → W p l e ({ frames := 2, cells := 0, slots := 0, locals := 46 } : Room) s m args below meth c H locs 0 0 (MQ below (va_Qi (fun (r : Int32) (u : HI × HL) => Q r u.1 u.2) (gB D cy ad s.heap.size) (gA ad s.heap.size)) args s 0 0 (gA ad s.heap.size)) (F0 m 0 ls []) := by
    intro H locs ls hG hl
    unfold w_X5_taught at HW
    refine lv_iload_n hx hb dX5_taught_0 rfl (lv_at hl 3 rfl) ?_
    refine lv_iconst (v := 0) hx hb dX5_taught_1 (by decide) ?_
    refine lv_bipush (v := 15) hx hb dX5_taught_2 (by decide) ?_
    obtain ⟨P_4, HC_4, HW⟩ := HW
    refine g_callz (g_runSN (As := [.int x3, .int (0 : Int32), .int (15 : Int32)]) (rest := []) ⟨hx, hb, hml, hown, hts⟩ (m_X10_within l D cy ad h g H.size x3 (0 : Int32) (15 : Int32) P_4 HC_4) ⟨va_cnB 3 hts (gd_w (wm2 195 rfl rfl)) rfl rfl rfl (hNw _ (List.mem_of_getElem? (i := 4) rfl)) (hw (.initialized RX10) (wm1 1 rfl rfl)) (by decide +kernel) ⟨Nat.le_of_ble_eq_true rfl, Nat.le_of_ble_eq_true rfl⟩, hw (.static yX10_within) (wm2 194 rfl rfl), trivial⟩ hK hNw hG rfl rfl hl.1 rfl (lv_room (Nat.le_of_ble_eq_true rfl)) dX5_taught_4 ⟨Nat.zero_le _, Nat.zero_le _⟩) hG (fun r_4 h_4 g_4 H locs hz hq hG => ?_)
    replace HW := HW r_4 h_4 g_4 hz hq
    refine lv_if_ne (tgt := 12) hx hb dX5_taught_7 (by decide) (fun c_7 => ?_) (fun c_7 => ?_)
    · replace HW := HW.1 c_7
      refine lv_iload_n hx hb dX5_taught_12 rfl (lv_at hl 1 rfl) ?_
      refine lv_iconst (v := 0) hx hb dX5_taught_13 (by decide) ?_
      refine lv_bipush (v := 7) hx hb dX5_taught_14 (by decide) ?_
      obtain ⟨P_16, HC_16, HW⟩ := HW
      refine g_callz (g_runSN (As := [.int x1, .int (0 : Int32), .int (7 : Int32)]) (rest := []) ⟨hx, hb, hml, hown, hts⟩ (m_X10_within l D cy ad h_4 g_4 H.size x1 (0 : Int32) (7 : Int32) P_16 HC_16) ⟨va_cnB 3 hts (gd_w (wm2 195 rfl rfl)) rfl rfl rfl (hNw _ (List.mem_of_getElem? (i := 4) rfl)) (hw (.initialized RX10) (wm1 1 rfl rfl)) (by decide +kernel) ⟨Nat.le_of_ble_eq_true rfl, Nat.le_of_ble_eq_true rfl⟩, hw (.static yX10_within) (wm2 194 rfl rfl), trivial⟩ hK hNw hG rfl rfl hl.1 rfl (lv_room (Nat.le_of_ble_eq_true rfl)) dX5_taught_16 ⟨Nat.zero_le _, Nat.zero_le _⟩) hG (fun r_16 h_16 g_16 H locs hz hq hG => ?_)
      replace HW := HW r_16 h_16 g_16 hz hq
      refine lv_if_eq (tgt := 33) hx hb dX5_taught_19 (by decide) (fun c_19 => ?_) (fun c_19 => ?_)
      · replace HW := HW.1 c_19
        refine lv_iconst (v := (-1)) hx hb dX5_taught_33 (by decide) ?_
        exact W.iret (v := (-1 : Int32)) hx hb hr (fun t ht hW => ⟨⟨(-1 : Int32), (h_16, g_16), rfl, HW, g_B ht hG⟩, hG.2.2.F ht⟩) hG.2.2.2.2 dX5_taught_34
      · replace HW := HW.2 c_19
        refine lv_iload_n hx hb dX5_taught_22 rfl (lv_at hl 2 rfl) ?_
        refine lv_iconst (v := 0) hx hb dX5_taught_23 (by decide) ?_
        refine lv_sipush (v := 255) hx hb dX5_taught_24 (by decide) ?_
        obtain ⟨P_27, HC_27, HW⟩ := HW
        refine g_callz (g_runSN (As := [.int x2, .int (0 : Int32), .int (255 : Int32)]) (rest := []) ⟨hx, hb, hml, hown, hts⟩ (m_X10_within l D cy ad h_16 g_16 H.size x2 (0 : Int32) (255 : Int32) P_27 HC_27) ⟨va_cnB 3 hts (gd_w (wm2 195 rfl rfl)) rfl rfl rfl (hNw _ (List.mem_of_getElem? (i := 4) rfl)) (hw (.initialized RX10) (wm1 1 rfl rfl)) (by decide +kernel) ⟨Nat.le_of_ble_eq_true rfl, Nat.le_of_ble_eq_true rfl⟩, hw (.static yX10_within) (wm2 194 rfl rfl), trivial⟩ hK hNw hG rfl rfl hl.1 rfl (lv_room (Nat.le_of_ble_eq_true rfl)) dX5_taught_27 ⟨Nat.zero_le _, Nat.zero_le _⟩) hG (fun r_27 h_27 g_27 H locs hz hq hG => ?_)
        replace HW := HW r_27 h_27 g_27 hz hq
        refine lv_if_ne (tgt := 35) hx hb dX5_taught_30 (by decide) (fun c_30 => ?_) (fun c_30 => ?_)
        · replace HW := HW.1 c_30
          refine lv_aload_n hx hb dX5_taught_35 rfl (lv_at hl 0 rfl) ?_
          refine g_getr hx hb hw inG5 hown hK hG gl_118 rfl gk_118 (by decide) 1 (by decide) (by rw [gm_118]; decide) (r := 119) gr_118_1 lk11 dX5_taught_36 ?_
          refine lv_iload_n hx hb dX5_taught_39 rfl (lv_at hl 3 rfl) ?_
          refine g_iald hx hb hK hG gl_119 gk_119 gn_119 HW.1 dX5_taught_40 ?_
          replace HW := HW.2
          refine lv_iconst (v := 4) hx hb dX5_taught_41 (by decide) ?_
          refine lv_ishr hx hb dX5_taught_42 ?_
          refine lv_topi (fun x4_43 ex4_43 => ?_)
          replace HW := HW x4_43 ex4_43
          refine lv_istore (lv' := [(4, .int x4_43), (0, .ref (ad 118)), (1, .int x1), (2, .int x2), (3, .int x3)]) hx hb dX5_taught_43 hl (by decide) rfl (fun ls hl => ?_)
          refine lv_iconst (v := 1) hx hb dX5_taught_45 (by decide) ?_
          refine lv_iload hx hb dX5_taught_46 (lv_at hl 0 rfl) ?_
          refine lv_ishl hx hb dX5_taught_48 ?_
          refine lv_iconst (v := 1) hx hb dX5_taught_49 (by decide) ?_
          refine lv_aload_n hx hb dX5_taught_50 rfl (lv_at hl 1 rfl) ?_
          refine g_getr hx hb hw inG5 hown hK hG gl_118 rfl gk_118 (by decide) 1 (by decide) (by rw [gm_118]; decide) (r := 119) gr_118_1 lk11 dX5_taught_51 ?_
          refine lv_iload_n hx hb dX5_taught_54 rfl (lv_at hl 4 rfl) ?_
          refine g_iald hx hb hK hG gl_119 gk_119 gn_119 HW.1 dX5_taught_55 ?_
          replace HW := HW.2
          refine lv_iconst (v := 3) hx hb dX5_taught_56 (by decide) ?_
          refine lv_iand hx hb dX5_taught_57 ?_
          refine lv_ishl hx hb dX5_taught_58 ?_
          refine lv_ior hx hb dX5_taught_59 ?_
          refine lv_topi (fun x5_60 ex5_60 => ?_)
          replace HW := HW x5_60 ex5_60
          refine lv_istore (lv' := [(5, .int x5_60), (4, .int x4_43), (0, .ref (ad 118)), (1, .int x1), (2, .int x2), (3, .int x3)]) hx hb dX5_taught_60 hl (by decide) rfl (fun ls hl => ?_)
          refine lv_iload_n hx hb dX5_taught_62 rfl (lv_at hl 4 rfl) ?_
          refine lv_aload_n hx hb dX5_taught_63 rfl (lv_at hl 2 rfl) ?_
          refine g_getr hx hb hw inG5 hown hK hG gl_118 rfl gk_118 (by decide) 2 (by decide) (by rw [gm_118]; decide) (r := 120) gr_118_2 lk15 dX5_taught_64 ?_
          refine lv_iload_n hx hb dX5_taught_67 rfl (lv_at hl 5 rfl) ?_
          refine g_iald hx hb hK hG gl_120 gk_120 gn_120 HW.1 dX5_taught_68 ?_
          replace HW := HW.2
          refine lv_ior hx hb dX5_taught_69 ?_
          refine lv_topi (fun x6_70 ex6_70 => ?_)
          replace HW := HW x6_70 ex6_70
          refine lv_istore (lv' := [(6, .int x6_70), (5, .int x5_60), (4, .int x4_43), (0, .ref (ad 118)), (1, .int x1), (2, .int x2), (3, .int x3)]) hx hb dX5_taught_70 hl (by decide) rfl (fun ls hl => ?_)
          refine lv_aload_n hx hb dX5_taught_72 rfl (lv_at hl 3 rfl) ?_
          refine g_getr hx hb hw inG5 hown hK hG gl_118 rfl gk_118 (by decide) 6 (by decide) (by rw [gm_118]; decide) (r := 124) gr_118_6 lk27 dX5_taught_73 ?_
          refine lv_iload_n hx hb dX5_taught_76 rfl (lv_at hl 4 rfl) ?_
          refine g_iald hx hb hK hG gl_124 gk_124 gn_124 HW.1 dX5_taught_77 ?_
          replace HW := HW.2
          refine lv_iload hx hb dX5_taught_78 (lv_at hl 1 rfl) ?_
          refine lv_iand hx hb dX5_taught_80 ?_
          refine lv_iload hx hb dX5_taught_81 (lv_at hl 1 rfl) ?_
          refine lv_icmp_ne (tgt := 100) hx hb dX5_taught_83 (by decide) (fun c_83 => ?_) (fun c_83 => ?_)
          · replace HW := HW.1 c_83
            refine lv_iconst (v := (-1)) hx hb dX5_taught_100 (by decide) ?_
            exact W.iret (v := (-1 : Int32)) hx hb hr (fun t ht hW => ⟨⟨(-1 : Int32), (h_27, g_27), rfl, HW, g_B ht hG⟩, hG.2.2.F ht⟩) hG.2.2.2.2 dX5_taught_101
          · replace HW := HW.2 c_83
            refine lv_iload hx hb dX5_taught_86 (lv_at hl 0 rfl) ?_
            refine lv_iload_n hx hb dX5_taught_88 rfl (lv_at hl 5 rfl) ?_
            refine lv_icmp_eq (tgt := 100) hx hb dX5_taught_89 (by decide) (fun c_89 => ?_) (fun c_89 => ?_)
            · replace HW := HW.1 c_89
              refine lv_iconst (v := (-1)) hx hb dX5_taught_100 (by decide) ?_
              exact W.iret (v := (-1 : Int32)) hx hb hr (fun t ht hW => ⟨⟨(-1 : Int32), (h_27, g_27), rfl, HW, g_B ht hG⟩, hG.2.2.F ht⟩) hG.2.2.2.2 dX5_taught_101
            · replace HW := HW.2 c_89
              refine lv_iload hx hb dX5_taught_92 (lv_at hl 0 rfl) ?_
              refine lv_sipush (v := 256) hx hb dX5_taught_94 (by decide) ?_
              refine lv_icmp_lt (tgt := 102) hx hb dX5_taught_97 (by decide) (fun c_97 => ?_) (fun c_97 => ?_)
              · replace HW := HW.1 c_97
                refine lv_aload_n hx hb dX5_taught_102 rfl (lv_at hl 3 rfl) ?_
                refine g_getr hx hb hw inG5 hown hK hG gl_118 rfl gk_118 (by decide) 4 (by decide) (by rw [gm_118]; decide) (r := 122) gr_118_4 lk21 dX5_taught_103 ?_
                refine lv_iload_n hx hb dX5_taught_106 rfl (lv_at hl 5 rfl) ?_
                refine g_iald hx hb hK hG gl_122 gk_122 gn_122 HW.1 dX5_taught_107 ?_
                replace HW := HW.2
                refine lv_iload hx hb dX5_taught_108 (lv_at hl 2 rfl) ?_
                refine lv_aload_n hx hb dX5_taught_110 rfl (lv_at hl 3 rfl) ?_
                refine g_getr hx hb hw inG5 hown hK hG gl_118 rfl gk_118 (by decide) 1 (by decide) (by rw [gm_118]; decide) (r := 119) gr_118_1 lk11 dX5_taught_111 ?_
                refine lv_iload_n hx hb dX5_taught_114 rfl (lv_at hl 6 rfl) ?_
                refine g_iald hx hb hK hG gl_119 gk_119 gn_119 HW.1 dX5_taught_115 ?_
                replace HW := HW.2
                refine lv_iconst (v := 2) hx hb dX5_taught_116 (by decide) ?_
                refine lv_ishr hx hb dX5_taught_117 ?_
                refine lv_iconst (v := 3) hx hb dX5_taught_118 (by decide) ?_
                refine lv_iand hx hb dX5_taught_119 ?_
                obtain ⟨P_120, HC_120, HW⟩ := HW
                refine g_callz (g_runS (As := [.int (h_27 122 x2.toNatClampNeg), .int x4_43, .int (((h_27 119 x3.toNatClampNeg) >>> ((2 : Int32) &&& 31)) &&& (3 : Int32))]) (rest := []) ⟨hx, hb, hml, hown, hts⟩ (m_X5_knows l D cy ad h_27 g_27 H.size (h_27 122 x2.toNatClampNeg) x4_43 (((h_27 119 x3.toNatClampNeg) >>> ((2 : Int32) &&& 31)) &&& (3 : Int32)) P_120 HC_120) (va_cwS 3 hts (gd_S (wm4 162 rfl rfl) (wm4 163 rfl rfl) (wm1 12 rfl rfl) (wm4 164 rfl rfl)) rfl rfl rfl (by decide +kernel) ⟨Nat.le_of_ble_eq_true rfl, Nat.le_of_ble_eq_true rfl⟩) hK hNw hG rfl rfl hl.1 rfl (lv_room (Nat.le_of_ble_eq_true rfl)) dX5_taught_120 ⟨Nat.zero_le _, Nat.zero_le _⟩) hG (fun r_120 h_120 g_120 H locs hz hq hG => ?_)
                replace HW := HW r_120 h_120 g_120 hz hq
                refine lv_if_ne (tgt := 128) hx hb dX5_taught_123 (by decide) (fun c_123 => ?_) (fun c_123 => ?_)
                · replace HW := HW.1 c_123
                  refine lv_aload_n hx hb dX5_taught_128 rfl (lv_at hl 3 rfl) ?_
                  refine lv_aload_n hx hb dX5_taught_129 rfl (lv_at hl 3 rfl) ?_
                  refine g_getr hx hb hw inG5 hown hK hG gl_118 rfl gk_118 (by decide) 6 (by decide) (by rw [gm_118]; decide) (r := 124) gr_118_6 lk27 dX5_taught_130 ?_
                  refine lv_iload_n hx hb dX5_taught_133 rfl (lv_at hl 4 rfl) ?_
                  refine g_iald hx hb hK hG gl_124 gk_124 gn_124 HW.1 dX5_taught_134 ?_
                  replace HW := HW.2
                  refine lv_iload hx hb dX5_taught_135 (lv_at hl 1 rfl) ?_
                  refine lv_iconst (v := (-1)) hx hb dX5_taught_137 (by decide) ?_
                  refine lv_ixor hx hb dX5_taught_138 ?_
                  refine lv_iand hx hb dX5_taught_139 ?_
                  refine lv_iload_n hx hb dX5_taught_140 rfl (lv_at hl 5 rfl) ?_
                  obtain ⟨P_141, HC_141, HW⟩ := HW
                  refine g_calli (g_runV (As := [.int ((h_120 124 x1.toNatClampNeg) &&& (x5_60 ^^^ (-1 : Int32))), .int x2]) (rest := []) ⟨hx, hb, hml, hown, hts⟩ (m_X5_runsBy l D cy ad h_120 g_120 H.size ((h_120 124 x1.toNatClampNeg) &&& (x5_60 ^^^ (-1 : Int32))) x2 P_141 HC_141) (cwV 2 hts (gd_V (wm4 188 rfl rfl) (wm4 190 rfl rfl) (wmp3 (q := (yX5_runsBy, 11)) 1 rfl) (wm1 12 rfl rfl) (wm4 191 rfl rfl)) rfl rfl rfl (by decide +kernel) ⟨Nat.le_of_ble_eq_true rfl, Nat.le_of_ble_eq_true rfl⟩) hK hNw hG gl_118 rfl gk_118 (by decide) rfl rfl hl.1 rfl (lv_room (Nat.le_of_ble_eq_true rfl)) dX5_taught_141 ⟨Nat.zero_le _, Nat.zero_le _⟩) hG (fun r_141 h_141 g_141 H locs hq hG => ?_)
                  replace HW := HW r_141 h_141 g_141 hq
                  refine lv_aload_n hx hb dX5_taught_144 rfl (lv_at hl 3 rfl) ?_
                  refine g_getr hx hb hw inG5 hown hK hG gl_118 rfl gk_118 (by decide) 7 (by decide) (by rw [gm_118]; decide) (r := 125) gr_118_7 lk32 dX5_taught_145 ?_
                  refine lv_iload_n hx hb dX5_taught_148 rfl (lv_at hl 4 rfl) ?_
                  refine lv_iconst (v := 1) hx hb dX5_taught_149 (by decide) ?_
                  refine lv_iadd hx hb dX5_taught_150 ?_
                  have hi_151 := vp_lt HW.1
                  refine g_aald hx hb hK hG gl_125 gk_125 gn_125 HW.1 (go_125 _ hi_151).1 dX5_taught_151 ?_
                  replace HW := HW.2
                  refine lv_iload hx hb dX5_taught_152 (lv_at hl 0 rfl) ?_
                  refine g_iald hx hb hK hG ((go_125 _ hi_151).2.2.1) ((go_125 _ hi_151).2.1) ((go_125 _ hi_151).2.2.2) HW.1 dX5_taught_154 ?_
                  replace HW := HW.2
                  refine lv_iadd hx hb dX5_taught_155 ?_
                  exact W.iret (v := (r_141 + (h_141 (126 + (x1 + (1 : Int32)).toNatClampNeg) x6_70.toNatClampNeg))) hx hb hr (fun t ht hW => ⟨⟨(r_141 + (h_141 (126 + (x1 + (1 : Int32)).toNatClampNeg) x6_70.toNatClampNeg)), (h_141, g_141), rfl, HW, g_B ht hG⟩, hG.2.2.F ht⟩) hG.2.2.2.2 dX5_taught_156
                · replace HW := HW.2 c_123
                  refine lv_iconst (v := (-1)) hx hb dX5_taught_126 (by decide) ?_
                  exact W.iret (v := (-1 : Int32)) hx hb hr (fun t ht hW => ⟨⟨(-1 : Int32), (h_120, g_120), rfl, HW, g_B ht hG⟩, hG.2.2.F ht⟩) hG.2.2.2.2 dX5_taught_127
              · replace HW := HW.2 c_97
                refine lv_iconst (v := (-1)) hx hb dX5_taught_100 (by decide) ?_
                exact W.iret (v := (-1 : Int32)) hx hb hr (fun t ht hW => ⟨⟨(-1 : Int32), (h_27, g_27), rfl, HW, g_B ht hG⟩, hG.2.2.F ht⟩) hG.2.2.2.2 dX5_taught_101
        · replace HW := HW.2 c_30
          refine lv_iconst (v := (-1)) hx hb dX5_taught_33 (by decide) ?_
          exact W.iret (v := (-1 : Int32)) hx hb hr (fun t ht hW => ⟨⟨(-1 : Int32), (h_27, g_27), rfl, HW, g_B ht hG⟩, hG.2.2.F ht⟩) hG.2.2.2.2 dX5_taught_34
    · replace HW := HW.2 c_7
      refine lv_iconst (v := (-1)) hx hb dX5_taught_10 (by decide) ?_
      exact W.iret (v := (-1 : Int32)) hx hb hr (fun t ht hW => ⟨⟨(-1 : Int32), (h_4, g_4), rfl, HW, g_B ht hG⟩, hG.2.2.F ht⟩) hG.2.2.2.2 dX5_taught_11
  exact E0 _ _ _ hG hl

def b_X5_mostOf_10 (Q : Int32 → HI → HL → Prop) (K10 : Int32 → Int32 → Int32 → Int32 → HI → HL → Prop) (x1 : Int32) (x2 : Int32) (x3 : Int32) (x4 : Int32) (h : HI) (g : HL) : Prop :=
  (((h 118 8) ≤ x4 → Q x3 h g) ∧ (¬ (h 118 8) ≤ x4 → (∃ P_25 : Int32 → HI → HL → Prop, w_X5_taught x1 x2 x4 h g P_25 ∧ ∀ (r_25 : Int32) (h_25 : HI) (g_25 : HL), P_25 r_25 h_25 g_25 → (∀ x3_31 : Int32, x3_31 = (if x3 < r_25 then r_25 else x3) → (∀ x4_32 : Int32, x4_32 = (x4 + 1) → K10 x1 x2 x3_31 x4_32 h_25 g_25)))))
def F_X5_mostOf_10 (Q : Int32 → HI → HL → Prop) (K : Int32 × Int32 × Int32 × Int32 × HI × HL → Prop) (q : Int32 × Int32 × Int32 × Int32 × HI × HL) : Prop := b_X5_mostOf_10 Q (fun x1 x2 x3 x4 h g => K (x1, x2, x3, x4, h, g)) q.1 q.2.1 q.2.2.1 q.2.2.2.1 q.2.2.2.2.1 q.2.2.2.2.2
def w_X5_mostOf (x1 : Int32) (x2 : Int32) (h : HI) (g : HL) (Q : Int32 → HI → HL → Prop) : Prop :=
  (∃ P_3 : Int32 → HI → HL → Prop, w_X5_idle x1 x2 h g P_3 ∧ ∀ (r_3 : Int32) (h_3 : HI) (g_3 : HL), P_3 r_3 h_3 g_3 → lpE (F_X5_mostOf_10 Q) (x1, x2, r_3, (0 : Int32), h_3, g_3))
set_option maxHeartbeats 8000000 in
set_option maxRecDepth 100000 in
theorem m_X5_mostOf (l : Launch) (D : va_G) (cy : Nat → ClassId) (ad : Nat → Nat) (h : HI) (g : HL) (sz : Nat) (x1 : Int32) (x2 : Int32) (Q : Int32 → HI → HL → Prop) (HW : w_X5_mostOf x1 x2 h g Q) : Met l yX5_mostOf (wa yX5_mostOf cX5_mostOf 5 (some .int)) ({ frames := 3, cells := 0, slots := 0, locals := 72 }) (va_Pc [.ref (ad 118), .int x1, .int x2] (gI D cy ad h g sz)) (va_Qi (fun (r : Int32) (u : HI × HL) => Q r u.1 u.2) (gB D cy ad sz) (gA ad sz)) 0 0 (gA ad sz) := by
  refine Met.ofW (cc := cX5_mostOf) (maxL := 5) (ret := (some .int)) (by decide) rfl ?_
  intro p e s m args below meth c s₁ B hml hv
  obtain ⟨hav, hsz, hP, hK, hD0, hNw⟩ := hv
  have hx := B.exec
  have hb := B.bytes
  have hr := B.returns
  have hts := atoms_spec (ws := (wa yX5_mostOf cX5_mostOf 5 (some .int))) B.pre
  have hw := wa_hw hts
  have hown : s.vm.findClass RX5 = some m.cls := findClass_of_methodNamed B.named
  have hlocks := B.notSynchronized
  subst hsz
  have hG : gG D cy ad (gA ad s.heap.size) s.heap h g s.heap [] := ⟨hP, gA_self hD0, va_S.rf⟩
  clear hP hD0
  have lk101 := hw (.fieldLink RX5 101 "OldWorks$Plans" "many" "I") (wm2 129 rfl rfl)
  have ml45 := hw (.methodLink RX5 45 Lib.Math.max.name) (wm4 155 rfl rfl)
  have ms45 := hw (.static Lib.Math.max.name) (wm3 45 rfl rfl)
  have mi45 := hw (.initialized "java/lang/Math") (wm1 14 rfl rfl)
  have mc45 := hw (.code Lib.Math.max.name Lib.Math.max.code 2 (some .int)) (wm3 46 rfl rfl)
  rw [show (headSpec (wa yX5_mostOf cX5_mostOf 5 (some .int)) ({ frames := 3, cells := 0, slots := 0, locals := 72 } : Room)).room = ({ frames := 3, cells := 0, slots := 0, locals := 72 } : Room) from rfl]
  have hl := lv_entry ([.ref (ad 118), .int x1, .int x2]) (n := 5) (Nat.le_of_ble_eq_true rfl)
  rw [show entryFrame m args 5 = entryFrame m ([.ref (ad 118), .int x1, .int x2] : List Value).toArray 5 from by rw [hav], lg_entry_eq]
  generalize (lg_sl ([.ref (ad 118), .int x1, .int x2]) ++ List.replicate (5 - (lg_sl ([.ref (ad 118), .int x1, .int x2])).length) Slot.unset).toArray = ls at hl ⊢
  have hl : lv_has ls 5 [(0, .ref (ad 118)), (1, .int x1), (2, .int x2)] := hl
  have L10 : ∀ (n : Nat) (x1 : Int32) (x2 : Int32) (x3 : Int32) (x4 : Int32) (h : HI) (g : HL) (H : Heap) (locs : List Loc) (ls : Array Slot), lpN (F_X5_mostOf_10 Q) n (x1, x2, x3, x4, h, g) → gG D cy ad (gA ad s.heap.size) s.heap h g H locs → lv_has ls 5 [(0, .ref (ad 118)), (1, .int x1), (2, .int x2), (3, .int x3), (4, .int x4)] → W p l e ({ frames := 3, cells := 0, slots := 0, locals := 72 } : Room) s m args below meth c H locs 0 0 (MQ below (va_Qi (fun (r : Int32) (u : HI × HL) => Q r u.1 u.2) (gB D cy ad s.heap.size) (gA ad s.heap.size)) args s 0 0 (gA ad s.heap.size)) (F0 m 10 ls []) := by
    intro n
    induction n with
    | zero => intro x1 x2 x3 x4 h g H locs ls HW; exact HW.elim
    | succ n ih =>
      intro x1 x2 x3 x4 h g H locs ls HW hG hl
      have HW : b_X5_mostOf_10 Q (fun x1 x2 x3 x4 h g => lpN (F_X5_mostOf_10 Q) n (x1, x2, x3, x4, h, g)) x1 x2 x3 x4 h g := HW
      generalize hKe : (fun (x1 : Int32) (x2 : Int32) (x3 : Int32) (x4 : Int32) (h : HI) (g : HL) => lpN (F_X5_mostOf_10 Q) n (x1, x2, x3, x4, h, g)) = K10 at HW
      have hK10 : ∀ (x1 : Int32) (x2 : Int32) (x3 : Int32) (x4 : Int32) (h : HI) (g : HL) (H : Heap) (locs : List Loc) (ls : Array Slot), K10 x1 x2 x3 x4 h g → gG D cy ad (gA ad s.heap.size) s.heap h g H locs → lv_has ls 5 [(0, .ref (ad 118)), (1, .int x1), (2, .int x2), (3, .int x3), (4, .int x4)] → W p l e ({ frames := 3, cells := 0, slots := 0, locals := 72 } : Room) s m args below meth c H locs 0 0 (MQ below (va_Qi (fun (r : Int32) (u : HI × HL) => Q r u.1 u.2) (gB D cy ad s.heap.size) (gA ad s.heap.size)) args s 0 0 (gA ad s.heap.size)) (F0 m 10 ls []) := by subst hKe; exact ih
      clear ih
      clear hKe
      unfold b_X5_mostOf_10 at HW
      refine lv_iload hx hb dX5_mostOf_10 (lv_at hl 4 rfl) ?_
      refine lv_aload_n hx hb dX5_mostOf_12 rfl (lv_at hl 0 rfl) ?_
      refine g_geti hx hb hw inG5 hown hK hG gl_118 rfl gk_118 (by decide) 8 (by decide) (by rw [gm_118]; decide) gr_118_8 lk101 dX5_mostOf_13 ?_
      refine lv_icmp_ge (tgt := 38) hx hb dX5_mostOf_16 (by decide) (fun c_16 => ?_) (fun c_16 => ?_)
      · replace HW := HW.1 c_16
        refine lv_iload_n hx hb dX5_mostOf_38 rfl (lv_at hl 3 rfl) ?_
        exact W.iret (v := x3) hx hb hr (fun t ht hW => ⟨⟨x3, (h, g), rfl, HW, g_B ht hG⟩, hG.2.2.F ht⟩) hG.2.2.2.2 dX5_mostOf_39
      · replace HW := HW.2 c_16
        refine lv_iload_n hx hb dX5_mostOf_19 rfl (lv_at hl 3 rfl) ?_
        refine lv_aload_n hx hb dX5_mostOf_20 rfl (lv_at hl 0 rfl) ?_
        refine lv_iload_n hx hb dX5_mostOf_21 rfl (lv_at hl 1 rfl) ?_
        refine lv_iload_n hx hb dX5_mostOf_22 rfl (lv_at hl 2 rfl) ?_
        refine lv_iload hx hb dX5_mostOf_23 (lv_at hl 4 rfl) ?_
        obtain ⟨P_25, HC_25, HW⟩ := HW
        refine g_calli (g_runV (As := [.int x1, .int x2, .int x4]) (rest := [.int x3]) ⟨hx, hb, hml, hown, hts⟩ (m_X5_taught l D cy ad h g H.size x1 x2 x4 P_25 HC_25) (cwV 3 hts (gd_V (wm4 192 rfl rfl) (wm4 194 rfl rfl) (wmp3 (q := (yX5_taught, 11)) 2 rfl) (wm1 12 rfl rfl) (wm4 195 rfl rfl)) rfl rfl rfl (by decide +kernel) ⟨Nat.le_of_ble_eq_true rfl, Nat.le_of_ble_eq_true rfl⟩) hK hNw hG gl_118 rfl gk_118 (by decide) rfl rfl hl.1 rfl (lv_room (Nat.le_of_ble_eq_true rfl)) dX5_mostOf_25 ⟨Nat.zero_le _, Nat.zero_le _⟩) hG (fun r_25 h_25 g_25 H locs hq hG => ?_)
        replace HW := HW r_25 h_25 g_25 hq
        refine va_mmax hx hb (hml.trans hl.1.symm) hown ml45 ms45 mi45 mc45 (by decide) (Nat.le_of_ble_eq_true rfl) (Nat.zero_le _) (Nat.zero_le _) dX5_mostOf_28 ?_
        refine lv_topi (fun x3_31 ex3_31 => ?_)
        replace HW := HW x3_31 ex3_31
        refine lv_istore_n (lv' := [(3, .int x3_31), (0, .ref (ad 118)), (1, .int x1), (2, .int x2), (4, .int x4)]) hx hb dX5_mostOf_31 rfl hl (by decide) rfl (fun ls hl => ?_)
        obtain ⟨x4_32, ex4_32⟩ : ∃ y : Int32, y = (x4 + 1) := ⟨_, rfl⟩
        replace HW := HW x4_32 ex4_32
        refine lv_iinc (v := x4_32) (lv' := [(4, .int x4_32), (3, .int x3_31), (0, .ref (ad 118)), (1, .int x1), (2, .int x2)]) hx hb dX5_mostOf_32 hl (k := 4) rfl (by rw [ex4_32]; rfl) (by decide) rfl (fun ls hl => ?_)
        refine lv_goto (tgt := 10) hx hb dX5_mostOf_35 (by decide) ?_
        exact hK10 x1 x2 x3_31 x4_32 h_25 g_25 _ _ _ HW hG (lv_sub hl [2, 3, 4, 1, 0] rfl)
  have E0 : ∀ (H : Heap) (locs : List Loc) (ls : Array Slot), gG D cy ad (gA ad s.heap.size) s.heap h g H locs → lv_has ls 5 [(0, .ref (ad 118)), (1, .int x1), (2, .int x2)] → W p l e ({ frames := 3, cells := 0, slots := 0, locals := 72 } : Room) s m args below meth c H locs 0 0 (MQ below (va_Qi (fun (r : Int32) (u : HI × HL) => Q r u.1 u.2) (gB D cy ad s.heap.size) (gA ad s.heap.size)) args s 0 0 (gA ad s.heap.size)) (F0 m 0 ls []) := by
    intro H locs ls hG hl
    unfold w_X5_mostOf at HW
    refine lv_aload_n hx hb dX5_mostOf_0 rfl (lv_at hl 0 rfl) ?_
    refine lv_iload_n hx hb dX5_mostOf_1 rfl (lv_at hl 1 rfl) ?_
    refine lv_iload_n hx hb dX5_mostOf_2 rfl (lv_at hl 2 rfl) ?_
    obtain ⟨P_3, HC_3, HW⟩ := HW
    refine g_calli (g_runV (As := [.int x1, .int x2]) (rest := []) ⟨hx, hb, hml, hown, hts⟩ (m_X5_idle l D cy ad h g H.size x1 x2 P_3 HC_3) (cwV 2 hts (gd_V (wm4 184 rfl rfl) (wm4 186 rfl rfl) (wmp3 (q := (yX5_idle, 11)) 0 rfl) (wm1 12 rfl rfl) (wm4 187 rfl rfl)) rfl rfl rfl (by decide +kernel) ⟨Nat.le_of_ble_eq_true rfl, Nat.le_of_ble_eq_true rfl⟩) hK hNw hG gl_118 rfl gk_118 (by decide) rfl rfl hl.1 rfl (lv_room (Nat.le_of_ble_eq_true rfl)) dX5_mostOf_3 ⟨Nat.zero_le _, Nat.zero_le _⟩) hG (fun r_3 h_3 g_3 H locs hq hG => ?_)
    replace HW := HW r_3 h_3 g_3 hq
    refine lv_istore_n (lv' := [(3, .int r_3), (0, .ref (ad 118)), (1, .int x1), (2, .int x2)]) hx hb dX5_mostOf_6 rfl hl (by decide) rfl (fun ls hl => ?_)
    refine lv_iconst (v := 0) hx hb dX5_mostOf_7 (by decide) ?_
    refine lv_istore (lv' := [(4, .int (0 : Int32)), (3, .int r_3), (0, .ref (ad 118)), (1, .int x1), (2, .int x2)]) hx hb dX5_mostOf_8 hl (by decide) rfl (fun ls hl => ?_)
    obtain ⟨n_10, HW⟩ := HW
    exact L10 n_10 x1 x2 r_3 (0 : Int32) h_3 g_3 _ _ _ HW hG (lv_sub hl [2, 3, 4, 1, 0] rfl)
  exact E0 _ _ _ hG hl

def j_X5_find_116 (Q : HI → HL → Prop) (K78 : Int32 → Int32 → HI → HL → Prop) (K85 : Int32 → Int32 → Int32 → HI → HL → Prop) (x2 : Int32) (x3 : Int32) (x4 : Int32) (h : HI) (g : HL) : Prop :=
  (∀ x4_116 : Int32, x4_116 = (x4 + 1) → K85 x2 x3 x4_116 h g)
def b_X5_find_85 (Q : HI → HL → Prop) (K78 : Int32 → Int32 → HI → HL → Prop) (K85 : Int32 → Int32 → Int32 → HI → HL → Prop) (x2 : Int32) (x3 : Int32) (x4 : Int32) (h : HI) (g : HL) : Prop :=
  ((x2 ≤ x4 → (∀ x3_122 : Int32, x3_122 = (x3 + (-1)) → K78 x2 x3_122 h g)) ∧ (¬ x2 ≤ x4 → (∃ P_93 : Int32 → HI → HL → Prop, w_J6_bitCount_0f7a4 x4 h g P_93 ∧ ∀ (r_93 : Int32) (h_93 : HI) (g_93 : HL), P_93 r_93 h_93 g_93 → ((x3 < r_93 → j_X5_find_116 Q K78 K85 x2 x3 x4 h_93 g_93) ∧ (¬ x3 < r_93 → (vp_in x3 9 ∧ (∃ P_112 : Int32 → HI → HL → Prop, w_X5_mostOf x3 x4 h_93 g_93 P_112 ∧ ∀ (r_112 : Int32) (h_112 : HI) (g_112 : HL), P_112 r_112 h_112 g_112 → (vp_in x4 256 ∧ ∀ h_115 : HI, h_115 = hu h_112 (126 + x3.toNatClampNeg) x4.toNatClampNeg r_112 → j_X5_find_116 Q K78 K85 x2 x3 x4 h_115 g_112))))))))
def F_X5_find_85 (Q : HI → HL → Prop) (K78 : Int32 → Int32 → HI → HL → Prop) (K : Int32 × Int32 × Int32 × HI × HL → Prop) (q : Int32 × Int32 × Int32 × HI × HL) : Prop := b_X5_find_85 Q K78 (fun x2 x3 x4 h g => K (x2, x3, x4, h, g)) q.1 q.2.1 q.2.2.1 q.2.2.2.1 q.2.2.2.2
def b_X5_find_78 (Q : HI → HL → Prop) (K78 : Int32 → Int32 → HI → HL → Prop) (x2 : Int32) (x3 : Int32) (h : HI) (g : HL) : Prop :=
  ((x3 < 0 → Q h g) ∧ (¬ x3 < 0 → lpE (F_X5_find_85 Q K78) (x2, x3, (0 : Int32), h, g)))
def F_X5_find_78 (Q : HI → HL → Prop) (K : Int32 × Int32 × HI × HL → Prop) (q : Int32 × Int32 × HI × HL) : Prop := b_X5_find_78 Q (fun x2 x3 h g => K (x2, x3, h, g)) q.1 q.2.1 q.2.2.1 q.2.2.2
def b_X5_find_48 (Q : HI → HL → Prop) (K48 : Int32 → Int32 → HI → HL → Prop) (x2 : Int32) (x3 : Int32) (h : HI) (g : HL) : Prop :=
  ((x2 ≤ x3 → (∀ x3_77 : Int32, x3_77 = ((h 118 10) - (1 : Int32)) → lpE (F_X5_find_78 Q) (x2, x3_77, h, g))) ∧ (¬ x2 ≤ x3 → (vp_in (h 118 10) 9 ∧ (vp_in x3 256 ∧ ∀ h_64 : HI, h_64 = hu h (126 + (h 118 10).toNatClampNeg) x3.toNatClampNeg (0 : Int32) → (∀ x3_65 : Int32, x3_65 = (x3 + 1) → K48 x2 x3_65 h_64 g)))))
def F_X5_find_48 (Q : HI → HL → Prop) (K : Int32 × Int32 × HI × HL → Prop) (q : Int32 × Int32 × HI × HL) : Prop := b_X5_find_48 Q (fun x2 x3 h g => K (x2, x3, h, g)) q.1 q.2.1 q.2.2.1 q.2.2.2
def w_X5_find (x1 : Int32) (h : HI) (g : HL) (Q : HI → HL → Prop) : Prop :=
  (∀ h_11 : HI, h_11 = hu h 118 10 (if (0 : Int32) < (if (8 : Int32) < x1 then (8 : Int32) else x1) then (if (8 : Int32) < x1 then (8 : Int32) else x1) else (0 : Int32)) → (∃ P_15 : HI → HL → Prop, w_X5_chooseBits h_11 g P_15 ∧ ∀ (h_15 : HI) (g_15 : HL), P_15 h_15 g_15 → (∃ P_19 : HI → HL → Prop, w_X5_chooseLessons h_15 g_15 P_19 ∧ ∀ (h_19 : HI) (g_19 : HL), P_19 h_19 g_19 → (∃ P_23 : HI → HL → Prop, w_X5_chooseRuns h_19 g_19 P_23 ∧ ∀ (h_23 : HI) (g_23 : HL), P_23 h_23 g_23 → (∃ P_27 : HI → HL → Prop, w_X5_chooseYears h_23 g_23 P_27 ∧ ∀ (h_27 : HI) (g_27 : HL), P_27 h_27 g_27 → (∀ x2_45 : Int32, x2_45 = ((1 : Int32) <<< ((if (0 : Int32) < (if (h_27 118 9) < (8 : Int32) then (h_27 118 9) else (8 : Int32)) then (if (h_27 118 9) < (8 : Int32) then (h_27 118 9) else (8 : Int32)) else (0 : Int32)) &&& 31)) → lpE (F_X5_find_48 Q) (x2_45, (0 : Int32), h_27, g_27)))))))
set_option maxHeartbeats 8000000 in
set_option maxRecDepth 100000 in
theorem m_X5_find (l : Launch) (D : va_G) (cy : Nat → ClassId) (ad : Nat → Nat) (h : HI) (g : HL) (sz : Nat) (x1 : Int32) (Q : HI → HL → Prop) (HW : w_X5_find x1 h g Q) : Met l yX5_find (wa yX5_find cX5_find 5 none) ({ frames := 4, cells := 0, slots := 0, locals := 96 }) (va_Pc [.ref (ad 118), .int x1] (gI D cy ad h g sz)) (va_Qv (fun (u : HI × HL) => Q u.1 u.2) (gB D cy ad sz) (gA ad sz)) 0 0 (gA ad sz) := by
  refine Met.ofW (cc := cX5_find) (maxL := 5) (ret := none) (by decide) rfl ?_
  intro p e s m args below meth c s₁ B hml hv
  obtain ⟨hav, hsz, hP, hK, hD0, hNw⟩ := hv
  have hx := B.exec
  have hb := B.bytes
  have hr := B.returns
  have hts := atoms_spec (ws := (wa yX5_find cX5_find 5 none)) B.pre
  have hw := wa_hw hts
  have hown : s.vm.findClass RX5 = some m.cls := findClass_of_methodNamed B.named
  have hlocks := B.notSynchronized
  subst hsz
  have hG : gG D cy ad (gA ad s.heap.size) s.heap h g s.heap [] := ⟨hP, gA_self hD0, va_S.rf⟩
  clear hP hD0
  have ml39 := hw (.methodLink RX5 39 Lib.Math.min.name) (wm4 154 rfl rfl)
  have ms39 := hw (.static Lib.Math.min.name) (wm3 99 rfl rfl)
  have mi39 := hw (.initialized "java/lang/Math") (wm1 14 rfl rfl)
  have mc39 := hw (.code Lib.Math.min.name Lib.Math.min.code 2 (some .int)) (wm3 100 rfl rfl)
  have ml45 := hw (.methodLink RX5 45 Lib.Math.max.name) (wm4 155 rfl rfl)
  have ms45 := hw (.static Lib.Math.max.name) (wm3 45 rfl rfl)
  have mi45 := hw (.initialized "java/lang/Math") (wm1 14 rfl rfl)
  have mc45 := hw (.code Lib.Math.max.name Lib.Math.max.code 2 (some .int)) (wm3 46 rfl rfl)
  have lk48 := hw (.fieldLink RX5 48 "OldWorks$Plans" "years" "I") (wm2 131 rfl rfl)
  have lk64 := hw (.fieldLink RX5 64 "OldWorks$Plans" "learned" "I") (wm2 130 rfl rfl)
  have lk32 := hw (.fieldLink RX5 32 "OldWorks$Plans" "most" "[[I") (wm2 128 rfl rfl)
  rw [show (headSpec (wa yX5_find cX5_find 5 none) ({ frames := 4, cells := 0, slots := 0, locals := 96 } : Room)).room = ({ frames := 4, cells := 0, slots := 0, locals := 96 } : Room) from rfl]
  have hl := lv_entry ([.ref (ad 118), .int x1]) (n := 5) (Nat.le_of_ble_eq_true rfl)
  rw [show entryFrame m args 5 = entryFrame m ([.ref (ad 118), .int x1] : List Value).toArray 5 from by rw [hav], lg_entry_eq]
  generalize (lg_sl ([.ref (ad 118), .int x1]) ++ List.replicate (5 - (lg_sl ([.ref (ad 118), .int x1])).length) Slot.unset).toArray = ls at hl ⊢
  have hl : lv_has ls 5 [(0, .ref (ad 118)), (1, .int x1)] := hl
  have B116 : ∀ (K78 : Int32 → Int32 → HI → HL → Prop) (hK78 : ∀ (x2 : Int32) (x3 : Int32) (h : HI) (g : HL) (H : Heap) (locs : List Loc) (ls : Array Slot), K78 x2 x3 h g → gG D cy ad (gA ad s.heap.size) s.heap h g H locs → lv_has ls 5 [(0, .ref (ad 118)), (2, .int x2), (3, .int x3)] → W p l e ({ frames := 4, cells := 0, slots := 0, locals := 96 } : Room) s m args below meth c H locs 0 0 (MQ below (va_Qv (fun (u : HI × HL) => Q u.1 u.2) (gB D cy ad s.heap.size) (gA ad s.heap.size)) args s 0 0 (gA ad s.heap.size)) (F0 m 78 ls [])) (K85 : Int32 → Int32 → Int32 → HI → HL → Prop) (hK85 : ∀ (x2 : Int32) (x3 : Int32) (x4 : Int32) (h : HI) (g : HL) (H : Heap) (locs : List Loc) (ls : Array Slot), K85 x2 x3 x4 h g → gG D cy ad (gA ad s.heap.size) s.heap h g H locs → lv_has ls 5 [(0, .ref (ad 118)), (2, .int x2), (3, .int x3), (4, .int x4)] → W p l e ({ frames := 4, cells := 0, slots := 0, locals := 96 } : Room) s m args below meth c H locs 0 0 (MQ below (va_Qv (fun (u : HI × HL) => Q u.1 u.2) (gB D cy ad s.heap.size) (gA ad s.heap.size)) args s 0 0 (gA ad s.heap.size)) (F0 m 85 ls [])) (x2 : Int32) (x3 : Int32) (x4 : Int32) (h : HI) (g : HL) (H : Heap) (locs : List Loc) (ls : Array Slot), j_X5_find_116 Q K78 K85 x2 x3 x4 h g → gG D cy ad (gA ad s.heap.size) s.heap h g H locs → lv_has ls 5 [(0, .ref (ad 118)), (2, .int x2), (3, .int x3), (4, .int x4)] → W p l e ({ frames := 4, cells := 0, slots := 0, locals := 96 } : Room) s m args below meth c H locs 0 0 (MQ below (va_Qv (fun (u : HI × HL) => Q u.1 u.2) (gB D cy ad s.heap.size) (gA ad s.heap.size)) args s 0 0 (gA ad s.heap.size)) (F0 m 116 ls []) := by
    intro K78 hK78 K85 hK85 x2 x3 x4 h g H locs ls HW hG hl
    unfold j_X5_find_116 at HW
    obtain ⟨x4_116, ex4_116⟩ : ∃ y : Int32, y = (x4 + 1) := ⟨_, rfl⟩
    replace HW := HW x4_116 ex4_116
    refine lv_iinc (v := x4_116) (lv' := [(4, .int x4_116), (0, .ref (ad 118)), (2, .int x2), (3, .int x3)]) hx hb dX5_find_116 hl (k := 3) rfl (by rw [ex4_116]; rfl) (by decide) rfl (fun ls hl => ?_)
    refine lv_goto (tgt := 85) hx hb dX5_find_119 (by decide) ?_
    exact hK85 x2 x3 x4_116 h g _ _ _ HW hG (lv_sub hl [1, 2, 3, 0] rfl)
  have L85 : ∀ (K78 : Int32 → Int32 → HI → HL → Prop) (hK78 : ∀ (x2 : Int32) (x3 : Int32) (h : HI) (g : HL) (H : Heap) (locs : List Loc) (ls : Array Slot), K78 x2 x3 h g → gG D cy ad (gA ad s.heap.size) s.heap h g H locs → lv_has ls 5 [(0, .ref (ad 118)), (2, .int x2), (3, .int x3)] → W p l e ({ frames := 4, cells := 0, slots := 0, locals := 96 } : Room) s m args below meth c H locs 0 0 (MQ below (va_Qv (fun (u : HI × HL) => Q u.1 u.2) (gB D cy ad s.heap.size) (gA ad s.heap.size)) args s 0 0 (gA ad s.heap.size)) (F0 m 78 ls [])) (n : Nat) (x2 : Int32) (x3 : Int32) (x4 : Int32) (h : HI) (g : HL) (H : Heap) (locs : List Loc) (ls : Array Slot), lpN (F_X5_find_85 Q K78) n (x2, x3, x4, h, g) → gG D cy ad (gA ad s.heap.size) s.heap h g H locs → lv_has ls 5 [(0, .ref (ad 118)), (2, .int x2), (3, .int x3), (4, .int x4)] → W p l e ({ frames := 4, cells := 0, slots := 0, locals := 96 } : Room) s m args below meth c H locs 0 0 (MQ below (va_Qv (fun (u : HI × HL) => Q u.1 u.2) (gB D cy ad s.heap.size) (gA ad s.heap.size)) args s 0 0 (gA ad s.heap.size)) (F0 m 85 ls []) := by
    intro K78 hK78 n
    induction n with
    | zero => intro x2 x3 x4 h g H locs ls HW; exact HW.elim
    | succ n ih =>
      intro x2 x3 x4 h g H locs ls HW hG hl
      have HW : b_X5_find_85 Q K78 (fun x2 x3 x4 h g => lpN (F_X5_find_85 Q K78) n (x2, x3, x4, h, g)) x2 x3 x4 h g := HW
      generalize hKe : (fun (x2 : Int32) (x3 : Int32) (x4 : Int32) (h : HI) (g : HL) => lpN (F_X5_find_85 Q K78) n (x2, x3, x4, h, g)) = K85 at HW
      have hK85 : ∀ (x2 : Int32) (x3 : Int32) (x4 : Int32) (h : HI) (g : HL) (H : Heap) (locs : List Loc) (ls : Array Slot), K85 x2 x3 x4 h g → gG D cy ad (gA ad s.heap.size) s.heap h g H locs → lv_has ls 5 [(0, .ref (ad 118)), (2, .int x2), (3, .int x3), (4, .int x4)] → W p l e ({ frames := 4, cells := 0, slots := 0, locals := 96 } : Room) s m args below meth c H locs 0 0 (MQ below (va_Qv (fun (u : HI × HL) => Q u.1 u.2) (gB D cy ad s.heap.size) (gA ad s.heap.size)) args s 0 0 (gA ad s.heap.size)) (F0 m 85 ls []) := by subst hKe; exact ih
      clear ih
      clear hKe
      unfold b_X5_find_85 at HW
      refine lv_iload hx hb dX5_find_85 (lv_at hl 3 rfl) ?_
      refine lv_iload_n hx hb dX5_find_87 rfl (lv_at hl 1 rfl) ?_
      refine lv_icmp_ge (tgt := 122) hx hb dX5_find_88 (by decide) (fun c_88 => ?_) (fun c_88 => ?_)
      · replace HW := HW.1 c_88
        obtain ⟨x3_122, ex3_122⟩ : ∃ y : Int32, y = (x3 + (-1)) := ⟨_, rfl⟩
        replace HW := HW x3_122 ex3_122
        refine lv_iinc (v := x3_122) (lv' := [(3, .int x3_122), (0, .ref (ad 118)), (2, .int x2), (4, .int x4)]) hx hb dX5_find_122 hl (k := 2) rfl (by rw [ex3_122]; rfl) (by decide) rfl (fun ls hl => ?_)
        refine lv_goto (tgt := 78) hx hb dX5_find_125 (by decide) ?_
        exact hK78 x2 x3_122 h g _ _ _ HW hG (lv_sub hl [1, 2, 0] rfl)
      · replace HW := HW.2 c_88
        refine lv_iload hx hb dX5_find_91 (lv_at hl 3 rfl) ?_
        obtain ⟨P_93, HC_93, HW⟩ := HW
        refine g_calli (g_runS (As := [.int x4]) (rest := []) ⟨hx, hb, hml, hown, hts⟩ (m_J6_bitCount_0f7a4 l D cy ad h g H.size x4 P_93 HC_93) (va_cwS 1 hts (gd_S (wm4 179 rfl rfl) (wm4 2 rfl rfl) (wm1 15 rfl rfl) (wm4 3 rfl rfl)) rfl rfl rfl (by decide +kernel) ⟨Nat.le_of_ble_eq_true rfl, Nat.le_of_ble_eq_true rfl⟩) hK hNw hG rfl rfl hl.1 rfl (lv_room (Nat.le_of_ble_eq_true rfl)) dX5_find_93 ⟨Nat.zero_le _, Nat.zero_le _⟩) hG (fun r_93 h_93 g_93 H locs hq hG => ?_)
        replace HW := HW r_93 h_93 g_93 hq
        refine lv_iload_n hx hb dX5_find_96 rfl (lv_at hl 2 rfl) ?_
        refine lv_icmp_gt (tgt := 116) hx hb dX5_find_97 (by decide) (fun c_97 => ?_) (fun c_97 => ?_)
        · replace HW := HW.1 c_97
          exact B116 K78 hK78 K85 hK85 x2 x3 x4 h_93 g_93 _ _ _ HW hG (lv_sub hl [0, 1, 2, 3] rfl)
        · replace HW := HW.2 c_97
          refine lv_aload_n hx hb dX5_find_100 rfl (lv_at hl 0 rfl) ?_
          refine g_getr hx hb hw inG5 hown hK hG gl_118 rfl gk_118 (by decide) 7 (by decide) (by rw [gm_118]; decide) (r := 125) gr_118_7 lk32 dX5_find_101 ?_
          refine lv_iload_n hx hb dX5_find_104 rfl (lv_at hl 2 rfl) ?_
          have hi_105 := vp_lt HW.1
          refine g_aald hx hb hK hG gl_125 gk_125 gn_125 HW.1 (go_125 _ hi_105).1 dX5_find_105 ?_
          replace HW := HW.2
          refine lv_iload hx hb dX5_find_106 (lv_at hl 3 rfl) ?_
          refine lv_aload_n hx hb dX5_find_108 rfl (lv_at hl 0 rfl) ?_
          refine lv_iload_n hx hb dX5_find_109 rfl (lv_at hl 2 rfl) ?_
          refine lv_iload hx hb dX5_find_110 (lv_at hl 3 rfl) ?_
          obtain ⟨P_112, HC_112, HW⟩ := HW
          refine g_calli (g_runV (As := [.int x3, .int x4]) (rest := [.int x4, .ref (ad (126 + x3.toNatClampNeg))]) ⟨hx, hb, hml, hown, hts⟩ (m_X5_mostOf l D cy ad h_93 g_93 H.size x3 x4 P_112 HC_112) (cwV 2 hts (gd_V (wm4 180 rfl rfl) (wm4 182 rfl rfl) (wmp2 (q := (yX5_mostOf, 11)) 15 rfl) (wm1 12 rfl rfl) (wm4 183 rfl rfl)) rfl rfl rfl (by decide +kernel) ⟨Nat.le_of_ble_eq_true rfl, Nat.le_of_ble_eq_true rfl⟩) hK hNw hG gl_118 rfl gk_118 (by decide) rfl rfl hl.1 rfl (lv_room (Nat.le_of_ble_eq_true rfl)) dX5_find_112 ⟨Nat.zero_le _, Nat.zero_le _⟩) hG (fun r_112 h_112 g_112 H locs hq hG => ?_)
          replace HW := HW r_112 h_112 g_112 hq
          refine g_iast hx hb hK hG ((go_125 _ hi_105).2.2.1) ((go_125 _ hi_105).2.1) ((go_125 _ hi_105).2.2.2) HW.1 dX5_find_115 (fun H locs hG => ?_)
          replace HW := HW.2
          obtain ⟨h_115, eh_115⟩ : ∃ y : HI, y = hu h_112 (126 + x3.toNatClampNeg) x4.toNatClampNeg r_112 := ⟨_, rfl⟩
          rw [← eh_115] at hG
          replace HW := HW h_115 eh_115
          exact B116 K78 hK78 K85 hK85 x2 x3 x4 h_115 g_112 _ _ _ HW hG (lv_sub hl [0, 1, 2, 3] rfl)
  have L78 : ∀ (n : Nat) (x2 : Int32) (x3 : Int32) (h : HI) (g : HL) (H : Heap) (locs : List Loc) (ls : Array Slot), lpN (F_X5_find_78 Q) n (x2, x3, h, g) → gG D cy ad (gA ad s.heap.size) s.heap h g H locs → lv_has ls 5 [(0, .ref (ad 118)), (2, .int x2), (3, .int x3)] → W p l e ({ frames := 4, cells := 0, slots := 0, locals := 96 } : Room) s m args below meth c H locs 0 0 (MQ below (va_Qv (fun (u : HI × HL) => Q u.1 u.2) (gB D cy ad s.heap.size) (gA ad s.heap.size)) args s 0 0 (gA ad s.heap.size)) (F0 m 78 ls []) := by
    intro n
    induction n with
    | zero => intro x2 x3 h g H locs ls HW; exact HW.elim
    | succ n ih =>
      intro x2 x3 h g H locs ls HW hG hl
      have HW : b_X5_find_78 Q (fun x2 x3 h g => lpN (F_X5_find_78 Q) n (x2, x3, h, g)) x2 x3 h g := HW
      generalize hKe : (fun (x2 : Int32) (x3 : Int32) (h : HI) (g : HL) => lpN (F_X5_find_78 Q) n (x2, x3, h, g)) = K78 at HW
      have hK78 : ∀ (x2 : Int32) (x3 : Int32) (h : HI) (g : HL) (H : Heap) (locs : List Loc) (ls : Array Slot), K78 x2 x3 h g → gG D cy ad (gA ad s.heap.size) s.heap h g H locs → lv_has ls 5 [(0, .ref (ad 118)), (2, .int x2), (3, .int x3)] → W p l e ({ frames := 4, cells := 0, slots := 0, locals := 96 } : Room) s m args below meth c H locs 0 0 (MQ below (va_Qv (fun (u : HI × HL) => Q u.1 u.2) (gB D cy ad s.heap.size) (gA ad s.heap.size)) args s 0 0 (gA ad s.heap.size)) (F0 m 78 ls []) := by subst hKe; exact ih
      clear ih
      clear hKe
      unfold b_X5_find_78 at HW
      refine lv_iload_n hx hb dX5_find_78 rfl (lv_at hl 2 rfl) ?_
      refine lv_if_lt (tgt := 128) hx hb dX5_find_79 (by decide) (fun c_79 => ?_) (fun c_79 => ?_)
      · replace HW := HW.1 c_79
        exact W.vret hx hb hr (fun t ht hW => ⟨⟨(h, g), rfl, HW, g_B ht hG⟩, hG.2.2.F ht⟩) hG.2.2.2.2 dX5_find_128
      · replace HW := HW.2 c_79
        refine lv_iconst (v := 0) hx hb dX5_find_82 (by decide) ?_
        refine lv_istore (lv' := [(4, .int (0 : Int32)), (0, .ref (ad 118)), (2, .int x2), (3, .int x3)]) hx hb dX5_find_83 hl (by decide) rfl (fun ls hl => ?_)
        obtain ⟨n_85, HW⟩ := HW
        exact L85 K78 hK78 n_85 x2 x3 (0 : Int32) h g _ _ _ HW hG (lv_sub hl [1, 2, 3, 0] rfl)
  have L48 : ∀ (n : Nat) (x2 : Int32) (x3 : Int32) (h : HI) (g : HL) (H : Heap) (locs : List Loc) (ls : Array Slot), lpN (F_X5_find_48 Q) n (x2, x3, h, g) → gG D cy ad (gA ad s.heap.size) s.heap h g H locs → lv_has ls 5 [(0, .ref (ad 118)), (2, .int x2), (3, .int x3)] → W p l e ({ frames := 4, cells := 0, slots := 0, locals := 96 } : Room) s m args below meth c H locs 0 0 (MQ below (va_Qv (fun (u : HI × HL) => Q u.1 u.2) (gB D cy ad s.heap.size) (gA ad s.heap.size)) args s 0 0 (gA ad s.heap.size)) (F0 m 48 ls []) := by
    intro n
    induction n with
    | zero => intro x2 x3 h g H locs ls HW; exact HW.elim
    | succ n ih =>
      intro x2 x3 h g H locs ls HW hG hl
      have HW : b_X5_find_48 Q (fun x2 x3 h g => lpN (F_X5_find_48 Q) n (x2, x3, h, g)) x2 x3 h g := HW
      generalize hKe : (fun (x2 : Int32) (x3 : Int32) (h : HI) (g : HL) => lpN (F_X5_find_48 Q) n (x2, x3, h, g)) = K48 at HW
      have hK48 : ∀ (x2 : Int32) (x3 : Int32) (h : HI) (g : HL) (H : Heap) (locs : List Loc) (ls : Array Slot), K48 x2 x3 h g → gG D cy ad (gA ad s.heap.size) s.heap h g H locs → lv_has ls 5 [(0, .ref (ad 118)), (2, .int x2), (3, .int x3)] → W p l e ({ frames := 4, cells := 0, slots := 0, locals := 96 } : Room) s m args below meth c H locs 0 0 (MQ below (va_Qv (fun (u : HI × HL) => Q u.1 u.2) (gB D cy ad s.heap.size) (gA ad s.heap.size)) args s 0 0 (gA ad s.heap.size)) (F0 m 48 ls []) := by subst hKe; exact ih
      clear ih
      clear hKe
      unfold b_X5_find_48 at HW
      refine lv_iload_n hx hb dX5_find_48 rfl (lv_at hl 2 rfl) ?_
      refine lv_iload_n hx hb dX5_find_49 rfl (lv_at hl 1 rfl) ?_
      refine lv_icmp_ge (tgt := 71) hx hb dX5_find_50 (by decide) (fun c_50 => ?_) (fun c_50 => ?_)
      · replace HW := HW.1 c_50
        refine lv_aload_n hx hb dX5_find_71 rfl (lv_at hl 0 rfl) ?_
        refine g_geti hx hb hw inG5 hown hK hG gl_118 rfl gk_118 (by decide) 10 (by decide) (by rw [gm_118]; decide) gr_118_10 lk48 dX5_find_72 ?_
        refine lv_iconst (v := 1) hx hb dX5_find_75 (by decide) ?_
        refine lv_isub hx hb dX5_find_76 ?_
        refine lv_topi (fun x3_77 ex3_77 => ?_)
        replace HW := HW x3_77 ex3_77
        refine lv_istore_n (lv' := [(3, .int x3_77), (0, .ref (ad 118)), (2, .int x2)]) hx hb dX5_find_77 rfl hl (by decide) rfl (fun ls hl => ?_)
        obtain ⟨n_78, HW⟩ := HW
        exact L78 n_78 x2 x3_77 h g _ _ _ HW hG (lv_sub hl [1, 2, 0] rfl)
      · replace HW := HW.2 c_50
        refine lv_aload_n hx hb dX5_find_53 rfl (lv_at hl 0 rfl) ?_
        refine g_getr hx hb hw inG5 hown hK hG gl_118 rfl gk_118 (by decide) 7 (by decide) (by rw [gm_118]; decide) (r := 125) gr_118_7 lk32 dX5_find_54 ?_
        refine lv_aload_n hx hb dX5_find_57 rfl (lv_at hl 0 rfl) ?_
        refine g_geti hx hb hw inG5 hown hK hG gl_118 rfl gk_118 (by decide) 10 (by decide) (by rw [gm_118]; decide) gr_118_10 lk48 dX5_find_58 ?_
        have hi_61 := vp_lt HW.1
        refine g_aald hx hb hK hG gl_125 gk_125 gn_125 HW.1 (go_125 _ hi_61).1 dX5_find_61 ?_
        replace HW := HW.2
        refine lv_iload_n hx hb dX5_find_62 rfl (lv_at hl 2 rfl) ?_
        refine lv_iconst (v := 0) hx hb dX5_find_63 (by decide) ?_
        refine g_iast hx hb hK hG ((go_125 _ hi_61).2.2.1) ((go_125 _ hi_61).2.1) ((go_125 _ hi_61).2.2.2) HW.1 dX5_find_64 (fun H locs hG => ?_)
        replace HW := HW.2
        obtain ⟨h_64, eh_64⟩ : ∃ y : HI, y = hu h (126 + (h 118 10).toNatClampNeg) x3.toNatClampNeg (0 : Int32) := ⟨_, rfl⟩
        rw [← eh_64] at hG
        replace HW := HW h_64 eh_64
        obtain ⟨x3_65, ex3_65⟩ : ∃ y : Int32, y = (x3 + 1) := ⟨_, rfl⟩
        replace HW := HW x3_65 ex3_65
        refine lv_iinc (v := x3_65) (lv' := [(3, .int x3_65), (0, .ref (ad 118)), (2, .int x2)]) hx hb dX5_find_65 hl (k := 2) rfl (by rw [ex3_65]; rfl) (by decide) rfl (fun ls hl => ?_)
        refine lv_goto (tgt := 48) hx hb dX5_find_68 (by decide) ?_
        exact hK48 x2 x3_65 h_64 g _ _ _ HW hG (lv_sub hl [1, 2, 0] rfl)
  have E0 : ∀ (H : Heap) (locs : List Loc) (ls : Array Slot), gG D cy ad (gA ad s.heap.size) s.heap h g H locs → lv_has ls 5 [(0, .ref (ad 118)), (1, .int x1)] → W p l e ({ frames := 4, cells := 0, slots := 0, locals := 96 } : Room) s m args below meth c H locs 0 0 (MQ below (va_Qv (fun (u : HI × HL) => Q u.1 u.2) (gB D cy ad s.heap.size) (gA ad s.heap.size)) args s 0 0 (gA ad s.heap.size)) (F0 m 0 ls []) := by
    intro H locs ls hG hl
    unfold w_X5_find at HW
    refine lv_aload_n hx hb dX5_find_0 rfl (lv_at hl 0 rfl) ?_
    refine lv_iconst (v := 0) hx hb dX5_find_1 (by decide) ?_
    refine lv_iload_n hx hb dX5_find_2 rfl (lv_at hl 1 rfl) ?_
    refine lv_bipush (v := 8) hx hb dX5_find_3 (by decide) ?_
    refine va_mmin hx hb (hml.trans hl.1.symm) hown ml39 ms39 mi39 mc39 (by decide) (Nat.le_of_ble_eq_true rfl) (Nat.zero_le _) (Nat.zero_le _) dX5_find_5 ?_
    refine va_mmax hx hb (hml.trans hl.1.symm) hown ml45 ms45 mi45 mc45 (by decide) (Nat.le_of_ble_eq_true rfl) (Nat.zero_le _) (Nat.zero_le _) dX5_find_8 ?_
    refine g_put hx hb hw inG5 tyX5 tyX5_ok nmX5 hown hK hG gl_118 rfl gk_118 (by decide) 10 (by decide) (by rw [gm_118]; decide) gr_118_10 rfl (ty := .int) (by decide +kernel) rfl rfl lk48 dX5_find_11 (fun H locs hG => ?_)
    obtain ⟨h_11, eh_11⟩ : ∃ y : HI, y = hu h 118 10 (if (0 : Int32) < (if (8 : Int32) < x1 then (8 : Int32) else x1) then (if (8 : Int32) < x1 then (8 : Int32) else x1) else (0 : Int32)) := ⟨_, rfl⟩
    rw [← eh_11] at hG
    replace HW := HW h_11 eh_11
    refine lv_aload_n hx hb dX5_find_14 rfl (lv_at hl 0 rfl) ?_
    obtain ⟨P_15, HC_15, HW⟩ := HW
    refine g_callv (g_runV (As := []) (rest := []) ⟨hx, hb, hml, hown, hts⟩ (m_X5_chooseBits l D cy ad h_11 g H.size  P_15 HC_15) (cwV 0 hts (gd_V (wm4 156 rfl rfl) (wm4 158 rfl rfl) (wmp2 (q := (yX5_chooseBits, 11)) 11 rfl) (wm1 12 rfl rfl) (wm4 159 rfl rfl)) rfl rfl rfl (by decide +kernel) ⟨Nat.le_of_ble_eq_true rfl, Nat.le_of_ble_eq_true rfl⟩) hK hNw hG gl_118 rfl gk_118 (by decide) rfl rfl hl.1 rfl (lv_room (Nat.le_of_ble_eq_true rfl)) dX5_find_15 ⟨Nat.zero_le _, Nat.zero_le _⟩) hG (fun h_15 g_15 H locs hq hG => ?_)
    replace HW := HW h_15 g_15 hq
    refine lv_aload_n hx hb dX5_find_18 rfl (lv_at hl 0 rfl) ?_
    obtain ⟨P_19, HC_19, HW⟩ := HW
    refine g_callv (g_runV (As := []) (rest := []) ⟨hx, hb, hml, hown, hts⟩ (m_X5_chooseLessons l D cy ad h_15 g_15 H.size  P_19 HC_19) (cwV 0 hts (gd_V (wm4 166 rfl rfl) (wm4 168 rfl rfl) (wmp2 (q := (yX5_chooseLessons, 11)) 12 rfl) (wm1 12 rfl rfl) (wm4 169 rfl rfl)) rfl rfl rfl (by decide +kernel) ⟨Nat.le_of_ble_eq_true rfl, Nat.le_of_ble_eq_true rfl⟩) hK hNw hG gl_118 rfl gk_118 (by decide) rfl rfl hl.1 rfl (lv_room (Nat.le_of_ble_eq_true rfl)) dX5_find_19 ⟨Nat.zero_le _, Nat.zero_le _⟩) hG (fun h_19 g_19 H locs hq hG => ?_)
    replace HW := HW h_19 g_19 hq
    refine lv_aload_n hx hb dX5_find_22 rfl (lv_at hl 0 rfl) ?_
    obtain ⟨P_23, HC_23, HW⟩ := HW
    refine g_callv (g_runV (As := []) (rest := []) ⟨hx, hb, hml, hown, hts⟩ (m_X5_chooseRuns l D cy ad h_19 g_19 H.size  P_23 HC_23) (cwV 0 hts (gd_V (wm4 171 rfl rfl) (wm4 173 rfl rfl) (wmp2 (q := (yX5_chooseRuns, 11)) 13 rfl) (wm1 12 rfl rfl) (wm4 174 rfl rfl)) rfl rfl rfl (by decide +kernel) ⟨Nat.le_of_ble_eq_true rfl, Nat.le_of_ble_eq_true rfl⟩) hK hNw hG gl_118 rfl gk_118 (by decide) rfl rfl hl.1 rfl (lv_room (Nat.le_of_ble_eq_true rfl)) dX5_find_23 ⟨Nat.zero_le _, Nat.zero_le _⟩) hG (fun h_23 g_23 H locs hq hG => ?_)
    replace HW := HW h_23 g_23 hq
    refine lv_aload_n hx hb dX5_find_26 rfl (lv_at hl 0 rfl) ?_
    obtain ⟨P_27, HC_27, HW⟩ := HW
    refine g_callv (g_runV (As := []) (rest := []) ⟨hx, hb, hml, hown, hts⟩ (m_X5_chooseYears l D cy ad h_23 g_23 H.size  P_27 HC_27) (cwV 0 hts (gd_V (wm4 175 rfl rfl) (wm4 177 rfl rfl) (wmp2 (q := (yX5_chooseYears, 11)) 14 rfl) (wm1 12 rfl rfl) (wm4 178 rfl rfl)) rfl rfl rfl (by decide +kernel) ⟨Nat.le_of_ble_eq_true rfl, Nat.le_of_ble_eq_true rfl⟩) hK hNw hG gl_118 rfl gk_118 (by decide) rfl rfl hl.1 rfl (lv_room (Nat.le_of_ble_eq_true rfl)) dX5_find_27 ⟨Nat.zero_le _, Nat.zero_le _⟩) hG (fun h_27 g_27 H locs hq hG => ?_)
    replace HW := HW h_27 g_27 hq
    refine lv_iconst (v := 1) hx hb dX5_find_30 (by decide) ?_
    refine lv_iconst (v := 0) hx hb dX5_find_31 (by decide) ?_
    refine lv_bipush (v := 8) hx hb dX5_find_32 (by decide) ?_
    refine lv_aload_n hx hb dX5_find_34 rfl (lv_at hl 0 rfl) ?_
    refine g_geti hx hb hw inG5 hown hK hG gl_118 rfl gk_118 (by decide) 9 (by decide) (by rw [gm_118]; decide) gr_118_9 lk64 dX5_find_35 ?_
    refine va_mmin hx hb (hml.trans hl.1.symm) hown ml39 ms39 mi39 mc39 (by decide) (Nat.le_of_ble_eq_true rfl) (Nat.zero_le _) (Nat.zero_le _) dX5_find_38 ?_
    refine va_mmax hx hb (hml.trans hl.1.symm) hown ml45 ms45 mi45 mc45 (by decide) (Nat.le_of_ble_eq_true rfl) (Nat.zero_le _) (Nat.zero_le _) dX5_find_41 ?_
    refine lv_ishl hx hb dX5_find_44 ?_
    refine lv_topi (fun x2_45 ex2_45 => ?_)
    replace HW := HW x2_45 ex2_45
    refine lv_istore_n (lv' := [(2, .int x2_45), (0, .ref (ad 118)), (1, .int x1)]) hx hb dX5_find_45 rfl hl (by decide) rfl (fun ls hl => ?_)
    refine lv_iconst (v := 0) hx hb dX5_find_46 (by decide) ?_
    refine lv_istore_n (lv' := [(3, .int (0 : Int32)), (2, .int x2_45), (0, .ref (ad 118)), (1, .int x1)]) hx hb dX5_find_47 rfl hl (by decide) rfl (fun ls hl => ?_)
    obtain ⟨n_48, HW⟩ := HW
    exact L48 n_48 x2_45 (0 : Int32) h_27 g_27 _ _ _ HW hG (lv_sub hl [2, 1, 0] rfl)
  exact E0 _ _ _ hG hl

def w_X5_mostRuns  (h : HI) (g : HL) (Q : Int32 → HI → HL → Prop) : Prop :=
  (vp_in (0 : Int32) 9 ∧ (vp_in (0 : Int32) 256 ∧ Q (h (126 + (0 : Int32).toNatClampNeg) (0 : Int32).toNatClampNeg) h g))
set_option maxHeartbeats 8000000 in
set_option maxRecDepth 100000 in
theorem m_X5_mostRuns (l : Launch) (D : va_G) (cy : Nat → ClassId) (ad : Nat → Nat) (h : HI) (g : HL) (sz : Nat)  (Q : Int32 → HI → HL → Prop) (HW : w_X5_mostRuns h g Q) : Met l yX5_mostRuns (wa yX5_mostRuns cX5_mostRuns 1 (some .int)) ({ frames := 0, cells := 0, slots := 0, locals := 0 }) (va_Pc [.ref (ad 118)] (gI D cy ad h g sz)) (va_Qi (fun (r : Int32) (u : HI × HL) => Q r u.1 u.2) (gB D cy ad sz) (gA ad sz)) 0 0 (gA ad sz) := by
  refine Met.ofW (cc := cX5_mostRuns) (maxL := 1) (ret := (some .int)) (by decide) rfl ?_
  intro p e s m args below meth c s₁ B hml hv
  obtain ⟨hav, hsz, hP, hK, hD0, hNw⟩ := hv
  have hx := B.exec
  have hb := B.bytes
  have hr := B.returns
  have hts := atoms_spec (ws := (wa yX5_mostRuns cX5_mostRuns 1 (some .int))) B.pre
  have hw := wa_hw hts
  have hown : s.vm.findClass RX5 = some m.cls := findClass_of_methodNamed B.named
  have hlocks := B.notSynchronized
  subst hsz
  have hG : gG D cy ad (gA ad s.heap.size) s.heap h g s.heap [] := ⟨hP, gA_self hD0, va_S.rf⟩
  clear hP hD0
  have lk32 := hw (.fieldLink RX5 32 "OldWorks$Plans" "most" "[[I") (wm2 128 rfl rfl)
  rw [show (headSpec (wa yX5_mostRuns cX5_mostRuns 1 (some .int)) ({ frames := 0, cells := 0, slots := 0, locals := 0 } : Room)).room = ({ frames := 0, cells := 0, slots := 0, locals := 0 } : Room) from rfl]
  have hl := lv_entry ([.ref (ad 118)]) (n := 1) (Nat.le_of_ble_eq_true rfl)
  rw [show entryFrame m args 1 = entryFrame m ([.ref (ad 118)] : List Value).toArray 1 from by rw [hav], lg_entry_eq]
  generalize (lg_sl ([.ref (ad 118)]) ++ List.replicate (1 - (lg_sl ([.ref (ad 118)])).length) Slot.unset).toArray = ls at hl ⊢
  have hl : lv_has ls 1 [(0, .ref (ad 118))] := hl
  have E0 : ∀ (H : Heap) (locs : List Loc) (ls : Array Slot), gG D cy ad (gA ad s.heap.size) s.heap h g H locs → lv_has ls 1 [(0, .ref (ad 118))] → W p l e ({ frames := 0, cells := 0, slots := 0, locals := 0 } : Room) s m args below meth c H locs 0 0 (MQ below (va_Qi (fun (r : Int32) (u : HI × HL) => Q r u.1 u.2) (gB D cy ad s.heap.size) (gA ad s.heap.size)) args s 0 0 (gA ad s.heap.size)) (F0 m 0 ls []) := by
    intro H locs ls hG hl
    unfold w_X5_mostRuns at HW
    refine lv_aload_n hx hb dX5_mostRuns_0 rfl (lv_at hl 0 rfl) ?_
    refine g_getr hx hb hw inG5 hown hK hG gl_118 rfl gk_118 (by decide) 7 (by decide) (by rw [gm_118]; decide) (r := 125) gr_118_7 lk32 dX5_mostRuns_1 ?_
    refine lv_iconst (v := 0) hx hb dX5_mostRuns_4 (by decide) ?_
    have hi_5 := vp_lt HW.1
    refine g_aald hx hb hK hG gl_125 gk_125 gn_125 HW.1 (go_125 _ hi_5).1 dX5_mostRuns_5 ?_
    replace HW := HW.2
    refine lv_iconst (v := 0) hx hb dX5_mostRuns_6 (by decide) ?_
    refine g_iald hx hb hK hG ((go_125 _ hi_5).2.2.1) ((go_125 _ hi_5).2.1) ((go_125 _ hi_5).2.2.2) HW.1 dX5_mostRuns_7 ?_
    replace HW := HW.2
    exact W.iret (v := (h (126 + (0 : Int32).toNatClampNeg) (0 : Int32).toNatClampNeg)) hx hb hr (fun t ht hW => ⟨⟨(h (126 + (0 : Int32).toNatClampNeg) (0 : Int32).toNatClampNeg), (h, g), rfl, HW, g_B ht hG⟩, hG.2.2.F ht⟩) hG.2.2.2.2 dX5_mostRuns_8
  exact E0 _ _ _ hG hl

def b_X5_bestIn_22 (Q : Int32 → HI → HL → Prop) (K22 : Int32 → Int32 → Int32 → Int32 → HI → HL → Prop) (x1 : Int32) (x2 : Int32) (x3 : Int32) (x4 : Int32) (h : HI) (g : HL) : Prop :=
  (((h 118 8) ≤ x4 → Q (-1 : Int32) h g) ∧ (¬ (h 118 8) ≤ x4 → (∃ P_36 : Int32 → HI → HL → Prop, w_X5_taught x1 x2 x4 h g P_36 ∧ ∀ (r_36 : Int32) (h_36 : HI) (g_36 : HL), P_36 r_36 h_36 g_36 → ((¬ r_36 = x3 → (∀ x4_46 : Int32, x4_46 = (x4 + 1) → K22 x1 x2 x3 x4_46 h_36 g_36)) ∧ (r_36 = x3 → Q x4 h_36 g_36)))))
def F_X5_bestIn_22 (Q : Int32 → HI → HL → Prop) (K : Int32 × Int32 × Int32 × Int32 × HI × HL → Prop) (q : Int32 × Int32 × Int32 × Int32 × HI × HL) : Prop := b_X5_bestIn_22 Q (fun x1 x2 x3 x4 h g => K (x1, x2, x3, x4, h, g)) q.1 q.2.1 q.2.2.1 q.2.2.2.1 q.2.2.2.2.1 q.2.2.2.2.2
def w_X5_bestIn (x1 : Int32) (x2 : Int32) (h : HI) (g : HL) (Q : Int32 → HI → HL → Prop) : Prop :=
  (∃ P_3 : Int32 → HI → HL → Prop, w_X5_mostOf x1 x2 h g P_3 ∧ ∀ (r_3 : Int32) (h_3 : HI) (g_3 : HL), P_3 r_3 h_3 g_3 → (∃ P_10 : Int32 → HI → HL → Prop, w_X5_idle x1 x2 h_3 g_3 P_10 ∧ ∀ (r_10 : Int32) (h_10 : HI) (g_10 : HL), P_10 r_10 h_10 g_10 → ((¬ r_10 = r_3 → lpE (F_X5_bestIn_22 Q) (x1, x2, r_3, (0 : Int32), h_10, g_10)) ∧ (r_10 = r_3 → Q (-1 : Int32) h_10 g_10))))
set_option maxHeartbeats 8000000 in
set_option maxRecDepth 100000 in
theorem m_X5_bestIn (l : Launch) (D : va_G) (cy : Nat → ClassId) (ad : Nat → Nat) (h : HI) (g : HL) (sz : Nat) (x1 : Int32) (x2 : Int32) (Q : Int32 → HI → HL → Prop) (HW : w_X5_bestIn x1 x2 h g Q) : Met l yX5_bestIn (wa yX5_bestIn cX5_bestIn 5 (some .int)) ({ frames := 4, cells := 0, slots := 0, locals := 96 }) (va_Pc [.ref (ad 118), .int x1, .int x2] (gI D cy ad h g sz)) (va_Qi (fun (r : Int32) (u : HI × HL) => Q r u.1 u.2) (gB D cy ad sz) (gA ad sz)) 0 0 (gA ad sz) := by
  refine Met.ofW (cc := cX5_bestIn) (maxL := 5) (ret := (some .int)) (by decide) rfl ?_
  intro p e s m args below meth c s₁ B hml hv
  obtain ⟨hav, hsz, hP, hK, hD0, hNw⟩ := hv
  have hx := B.exec
  have hb := B.bytes
  have hr := B.returns
  have hts := atoms_spec (ws := (wa yX5_bestIn cX5_bestIn 5 (some .int))) B.pre
  have hw := wa_hw hts
  have hown : s.vm.findClass RX5 = some m.cls := findClass_of_methodNamed B.named
  have hlocks := B.notSynchronized
  subst hsz
  have hG : gG D cy ad (gA ad s.heap.size) s.heap h g s.heap [] := ⟨hP, gA_self hD0, va_S.rf⟩
  clear hP hD0
  have lk101 := hw (.fieldLink RX5 101 "OldWorks$Plans" "many" "I") (wm2 129 rfl rfl)
  rw [show (headSpec (wa yX5_bestIn cX5_bestIn 5 (some .int)) ({ frames := 4, cells := 0, slots := 0, locals := 96 } : Room)).room = ({ frames := 4, cells := 0, slots := 0, locals := 96 } : Room) from rfl]
  have hl := lv_entry ([.ref (ad 118), .int x1, .int x2]) (n := 5) (Nat.le_of_ble_eq_true rfl)
  rw [show entryFrame m args 5 = entryFrame m ([.ref (ad 118), .int x1, .int x2] : List Value).toArray 5 from by rw [hav], lg_entry_eq]
  generalize (lg_sl ([.ref (ad 118), .int x1, .int x2]) ++ List.replicate (5 - (lg_sl ([.ref (ad 118), .int x1, .int x2])).length) Slot.unset).toArray = ls at hl ⊢
  have hl : lv_has ls 5 [(0, .ref (ad 118)), (1, .int x1), (2, .int x2)] := hl
  have L22 : ∀ (n : Nat) (x1 : Int32) (x2 : Int32) (x3 : Int32) (x4 : Int32) (h : HI) (g : HL) (H : Heap) (locs : List Loc) (ls : Array Slot), lpN (F_X5_bestIn_22 Q) n (x1, x2, x3, x4, h, g) → gG D cy ad (gA ad s.heap.size) s.heap h g H locs → lv_has ls 5 [(0, .ref (ad 118)), (1, .int x1), (2, .int x2), (3, .int x3), (4, .int x4)] → W p l e ({ frames := 4, cells := 0, slots := 0, locals := 96 } : Room) s m args below meth c H locs 0 0 (MQ below (va_Qi (fun (r : Int32) (u : HI × HL) => Q r u.1 u.2) (gB D cy ad s.heap.size) (gA ad s.heap.size)) args s 0 0 (gA ad s.heap.size)) (F0 m 22 ls []) := by
    intro n
    induction n with
    | zero => intro x1 x2 x3 x4 h g H locs ls HW; exact HW.elim
    | succ n ih =>
      intro x1 x2 x3 x4 h g H locs ls HW hG hl
      have HW : b_X5_bestIn_22 Q (fun x1 x2 x3 x4 h g => lpN (F_X5_bestIn_22 Q) n (x1, x2, x3, x4, h, g)) x1 x2 x3 x4 h g := HW
      generalize hKe : (fun (x1 : Int32) (x2 : Int32) (x3 : Int32) (x4 : Int32) (h : HI) (g : HL) => lpN (F_X5_bestIn_22 Q) n (x1, x2, x3, x4, h, g)) = K22 at HW
      have hK22 : ∀ (x1 : Int32) (x2 : Int32) (x3 : Int32) (x4 : Int32) (h : HI) (g : HL) (H : Heap) (locs : List Loc) (ls : Array Slot), K22 x1 x2 x3 x4 h g → gG D cy ad (gA ad s.heap.size) s.heap h g H locs → lv_has ls 5 [(0, .ref (ad 118)), (1, .int x1), (2, .int x2), (3, .int x3), (4, .int x4)] → W p l e ({ frames := 4, cells := 0, slots := 0, locals := 96 } : Room) s m args below meth c H locs 0 0 (MQ below (va_Qi (fun (r : Int32) (u : HI × HL) => Q r u.1 u.2) (gB D cy ad s.heap.size) (gA ad s.heap.size)) args s 0 0 (gA ad s.heap.size)) (F0 m 22 ls []) := by subst hKe; exact ih
      clear ih
      clear hKe
      unfold b_X5_bestIn_22 at HW
      refine lv_iload hx hb dX5_bestIn_22 (lv_at hl 4 rfl) ?_
      refine lv_aload_n hx hb dX5_bestIn_24 rfl (lv_at hl 0 rfl) ?_
      refine g_geti hx hb hw inG5 hown hK hG gl_118 rfl gk_118 (by decide) 8 (by decide) (by rw [gm_118]; decide) gr_118_8 lk101 dX5_bestIn_25 ?_
      refine lv_icmp_ge (tgt := 52) hx hb dX5_bestIn_28 (by decide) (fun c_28 => ?_) (fun c_28 => ?_)
      · replace HW := HW.1 c_28
        refine lv_iconst (v := (-1)) hx hb dX5_bestIn_52 (by decide) ?_
        exact W.iret (v := (-1 : Int32)) hx hb hr (fun t ht hW => ⟨⟨(-1 : Int32), (h, g), rfl, HW, g_B ht hG⟩, hG.2.2.F ht⟩) hG.2.2.2.2 dX5_bestIn_53
      · replace HW := HW.2 c_28
        refine lv_aload_n hx hb dX5_bestIn_31 rfl (lv_at hl 0 rfl) ?_
        refine lv_iload_n hx hb dX5_bestIn_32 rfl (lv_at hl 1 rfl) ?_
        refine lv_iload_n hx hb dX5_bestIn_33 rfl (lv_at hl 2 rfl) ?_
        refine lv_iload hx hb dX5_bestIn_34 (lv_at hl 4 rfl) ?_
        obtain ⟨P_36, HC_36, HW⟩ := HW
        refine g_calli (g_runV (As := [.int x1, .int x2, .int x4]) (rest := []) ⟨hx, hb, hml, hown, hts⟩ (m_X5_taught l D cy ad h g H.size x1 x2 x4 P_36 HC_36) (cwV 3 hts (gd_V (wm4 192 rfl rfl) (wm4 194 rfl rfl) (wmp3 (q := (yX5_taught, 11)) 2 rfl) (wm1 12 rfl rfl) (wm4 195 rfl rfl)) rfl rfl rfl (by decide +kernel) ⟨Nat.le_of_ble_eq_true rfl, Nat.le_of_ble_eq_true rfl⟩) hK hNw hG gl_118 rfl gk_118 (by decide) rfl rfl hl.1 rfl (lv_room (Nat.le_of_ble_eq_true rfl)) dX5_bestIn_36 ⟨Nat.zero_le _, Nat.zero_le _⟩) hG (fun r_36 h_36 g_36 H locs hq hG => ?_)
        replace HW := HW r_36 h_36 g_36 hq
        refine lv_iload_n hx hb dX5_bestIn_39 rfl (lv_at hl 3 rfl) ?_
        refine lv_icmp_ne (tgt := 46) hx hb dX5_bestIn_40 (by decide) (fun c_40 => ?_) (fun c_40 => ?_)
        · replace HW := HW.1 c_40
          obtain ⟨x4_46, ex4_46⟩ : ∃ y : Int32, y = (x4 + 1) := ⟨_, rfl⟩
          replace HW := HW x4_46 ex4_46
          refine lv_iinc (v := x4_46) (lv' := [(4, .int x4_46), (0, .ref (ad 118)), (1, .int x1), (2, .int x2), (3, .int x3)]) hx hb dX5_bestIn_46 hl (k := 4) rfl (by rw [ex4_46]; rfl) (by decide) rfl (fun ls hl => ?_)
          refine lv_goto (tgt := 22) hx hb dX5_bestIn_49 (by decide) ?_
          exact hK22 x1 x2 x3 x4_46 h_36 g_36 _ _ _ HW hG (lv_sub hl [1, 2, 3, 4, 0] rfl)
        · replace HW := HW.2 c_40
          refine lv_iload hx hb dX5_bestIn_43 (lv_at hl 4 rfl) ?_
          exact W.iret (v := x4) hx hb hr (fun t ht hW => ⟨⟨x4, (h_36, g_36), rfl, HW, g_B ht hG⟩, hG.2.2.F ht⟩) hG.2.2.2.2 dX5_bestIn_45
  have E0 : ∀ (H : Heap) (locs : List Loc) (ls : Array Slot), gG D cy ad (gA ad s.heap.size) s.heap h g H locs → lv_has ls 5 [(0, .ref (ad 118)), (1, .int x1), (2, .int x2)] → W p l e ({ frames := 4, cells := 0, slots := 0, locals := 96 } : Room) s m args below meth c H locs 0 0 (MQ below (va_Qi (fun (r : Int32) (u : HI × HL) => Q r u.1 u.2) (gB D cy ad s.heap.size) (gA ad s.heap.size)) args s 0 0 (gA ad s.heap.size)) (F0 m 0 ls []) := by
    intro H locs ls hG hl
    unfold w_X5_bestIn at HW
    refine lv_aload_n hx hb dX5_bestIn_0 rfl (lv_at hl 0 rfl) ?_
    refine lv_iload_n hx hb dX5_bestIn_1 rfl (lv_at hl 1 rfl) ?_
    refine lv_iload_n hx hb dX5_bestIn_2 rfl (lv_at hl 2 rfl) ?_
    obtain ⟨P_3, HC_3, HW⟩ := HW
    refine g_calli (g_runV (As := [.int x1, .int x2]) (rest := []) ⟨hx, hb, hml, hown, hts⟩ (m_X5_mostOf l D cy ad h g H.size x1 x2 P_3 HC_3) (cwV 2 hts (gd_V (wm4 180 rfl rfl) (wm4 182 rfl rfl) (wmp2 (q := (yX5_mostOf, 11)) 15 rfl) (wm1 12 rfl rfl) (wm4 183 rfl rfl)) rfl rfl rfl (by decide +kernel) ⟨Nat.le_of_ble_eq_true rfl, Nat.le_of_ble_eq_true rfl⟩) hK hNw hG gl_118 rfl gk_118 (by decide) rfl rfl hl.1 rfl (lv_room (Nat.le_of_ble_eq_true rfl)) dX5_bestIn_3 ⟨Nat.zero_le _, Nat.zero_le _⟩) hG (fun r_3 h_3 g_3 H locs hq hG => ?_)
    replace HW := HW r_3 h_3 g_3 hq
    refine lv_istore_n (lv' := [(3, .int r_3), (0, .ref (ad 118)), (1, .int x1), (2, .int x2)]) hx hb dX5_bestIn_6 rfl hl (by decide) rfl (fun ls hl => ?_)
    refine lv_aload_n hx hb dX5_bestIn_7 rfl (lv_at hl 1 rfl) ?_
    refine lv_iload_n hx hb dX5_bestIn_8 rfl (lv_at hl 2 rfl) ?_
    refine lv_iload_n hx hb dX5_bestIn_9 rfl (lv_at hl 3 rfl) ?_
    obtain ⟨P_10, HC_10, HW⟩ := HW
    refine g_calli (g_runV (As := [.int x1, .int x2]) (rest := []) ⟨hx, hb, hml, hown, hts⟩ (m_X5_idle l D cy ad h_3 g_3 H.size x1 x2 P_10 HC_10) (cwV 2 hts (gd_V (wm4 184 rfl rfl) (wm4 186 rfl rfl) (wmp3 (q := (yX5_idle, 11)) 0 rfl) (wm1 12 rfl rfl) (wm4 187 rfl rfl)) rfl rfl rfl (by decide +kernel) ⟨Nat.le_of_ble_eq_true rfl, Nat.le_of_ble_eq_true rfl⟩) hK hNw hG gl_118 rfl gk_118 (by decide) rfl rfl hl.1 rfl (lv_room (Nat.le_of_ble_eq_true rfl)) dX5_bestIn_10 ⟨Nat.zero_le _, Nat.zero_le _⟩) hG (fun r_10 h_10 g_10 H locs hq hG => ?_)
    replace HW := HW r_10 h_10 g_10 hq
    refine lv_iload_n hx hb dX5_bestIn_13 rfl (lv_at hl 0 rfl) ?_
    refine lv_icmp_ne (tgt := 19) hx hb dX5_bestIn_14 (by decide) (fun c_14 => ?_) (fun c_14 => ?_)
    · replace HW := HW.1 c_14
      refine lv_iconst (v := 0) hx hb dX5_bestIn_19 (by decide) ?_
      refine lv_istore (lv' := [(4, .int (0 : Int32)), (3, .int r_3), (0, .ref (ad 118)), (1, .int x1), (2, .int x2)]) hx hb dX5_bestIn_20 hl (by decide) rfl (fun ls hl => ?_)
      obtain ⟨n_22, HW⟩ := HW
      exact L22 n_22 x1 x2 r_3 (0 : Int32) h_10 g_10 _ _ _ HW hG (lv_sub hl [2, 3, 4, 1, 0] rfl)
    · replace HW := HW.2 c_14
      refine lv_iconst (v := (-1)) hx hb dX5_bestIn_17 (by decide) ?_
      exact W.iret (v := (-1 : Int32)) hx hb hr (fun t ht hW => ⟨⟨(-1 : Int32), (h_10, g_10), rfl, HW, g_B ht hG⟩, hG.2.2.F ht⟩) hG.2.2.2.2 dX5_bestIn_18
  exact E0 _ _ _ hG hl

def j_X5_lessonIn_67 (Q : Int32 → HI → HL → Prop) (K4 : Int32 → Int32 → Int32 → HI → HL → Prop) (x1 : Int32) (x2 : Int32) (x3 : Int32) (h : HI) (g : HL) : Prop :=
  (∀ x3_67 : Int32, x3_67 = (x3 + 1) → K4 x1 x2 x3_67 h g)
def b_X5_lessonIn_4 (Q : Int32 → HI → HL → Prop) (K4 : Int32 → Int32 → Int32 → HI → HL → Prop) (x1 : Int32) (x2 : Int32) (x3 : Int32) (h : HI) (g : HL) : Prop :=
  (((h 118 10) ≤ x3 → Q (-1 : Int32) h g) ∧ (¬ (h 118 10) ≤ x3 → (∃ P_15 : Int32 → HI → HL → Prop, w_X5_bestIn x3 x2 h g P_15 ∧ ∀ (r_15 : Int32) (h_15 : HI) (g_15 : HL), P_15 r_15 h_15 g_15 → (∃ P_25 : Int32 → HI → HL → Prop, w_X10_within r_15 (0 : Int32) (15 : Int32) h_15 g_15 P_25 ∧ ∀ (r_25 : Int32) (h_25 : HI) (g_25 : HL), zb r_25 → P_25 r_25 h_25 g_25 → ((¬ x3 = x1 → ((r_25 = 0 → j_X5_lessonIn_67 Q K4 x1 x2 x3 h_25 g_25) ∧ (¬ r_25 = 0 → (vp_in r_15 16 ∧ (∀ x2_66 : Int32, x2_66 = (x2 ||| (h_25 120 r_15.toNatClampNeg)) → j_X5_lessonIn_67 Q K4 x1 x2_66 x3 h_25 g_25))))) ∧ (x3 = x1 → ((r_25 = 0 → Q (-1 : Int32) h_25 g_25) ∧ (¬ r_25 = 0 → (vp_in r_15 16 ∧ Q (h_25 119 r_15.toNatClampNeg) h_25 g_25)))))))))
def F_X5_lessonIn_4 (Q : Int32 → HI → HL → Prop) (K : Int32 × Int32 × Int32 × HI × HL → Prop) (q : Int32 × Int32 × Int32 × HI × HL) : Prop := b_X5_lessonIn_4 Q (fun x1 x2 x3 h g => K (x1, x2, x3, h, g)) q.1 q.2.1 q.2.2.1 q.2.2.2.1 q.2.2.2.2
def w_X5_lessonIn (x1 : Int32) (h : HI) (g : HL) (Q : Int32 → HI → HL → Prop) : Prop :=
  lpE (F_X5_lessonIn_4 Q) (x1, (0 : Int32), (0 : Int32), h, g)
set_option maxHeartbeats 8000000 in
set_option maxRecDepth 100000 in
theorem m_X5_lessonIn (l : Launch) (D : va_G) (cy : Nat → ClassId) (ad : Nat → Nat) (h : HI) (g : HL) (sz : Nat) (x1 : Int32) (Q : Int32 → HI → HL → Prop) (HW : w_X5_lessonIn x1 h g Q) : Met l yX5_lessonIn (wa yX5_lessonIn cX5_lessonIn 6 (some .int)) ({ frames := 5, cells := 0, slots := 0, locals := 120 }) (va_Pc [.ref (ad 118), .int x1] (gI D cy ad h g sz)) (va_Qi (fun (r : Int32) (u : HI × HL) => Q r u.1 u.2) (gB D cy ad sz) (gA ad sz)) 0 0 (gA ad sz) := by
  refine Met.ofW (cc := cX5_lessonIn) (maxL := 6) (ret := (some .int)) (by decide) rfl ?_
  intro p e s m args below meth c s₁ B hml hv
  obtain ⟨hav, hsz, hP, hK, hD0, hNw⟩ := hv
  have hx := B.exec
  have hb := B.bytes
  have hr := B.returns
  have hts := atoms_spec (ws := (wa yX5_lessonIn cX5_lessonIn 6 (some .int))) B.pre
  have hw := wa_hw hts
  have hown : s.vm.findClass RX5 = some m.cls := findClass_of_methodNamed B.named
  have hlocks := B.notSynchronized
  subst hsz
  have hG : gG D cy ad (gA ad s.heap.size) s.heap h g s.heap [] := ⟨hP, gA_self hD0, va_S.rf⟩
  clear hP hD0
  have lk48 := hw (.fieldLink RX5 48 "OldWorks$Plans" "years" "I") (wm2 131 rfl rfl)
  have lk15 := hw (.fieldLink RX5 15 "OldWorks$Plans" "learns" "[I") (wm2 123 rfl rfl)
  have lk11 := hw (.fieldLink RX5 11 "OldWorks$Plans" "lessons" "[I") (wm2 122 rfl rfl)
  rw [show (headSpec (wa yX5_lessonIn cX5_lessonIn 6 (some .int)) ({ frames := 5, cells := 0, slots := 0, locals := 120 } : Room)).room = ({ frames := 5, cells := 0, slots := 0, locals := 120 } : Room) from rfl]
  have hl := lv_entry ([.ref (ad 118), .int x1]) (n := 6) (Nat.le_of_ble_eq_true rfl)
  rw [show entryFrame m args 6 = entryFrame m ([.ref (ad 118), .int x1] : List Value).toArray 6 from by rw [hav], lg_entry_eq]
  generalize (lg_sl ([.ref (ad 118), .int x1]) ++ List.replicate (6 - (lg_sl ([.ref (ad 118), .int x1])).length) Slot.unset).toArray = ls at hl ⊢
  have hl : lv_has ls 6 [(0, .ref (ad 118)), (1, .int x1)] := hl
  have B67 : ∀ (K4 : Int32 → Int32 → Int32 → HI → HL → Prop) (hK4 : ∀ (x1 : Int32) (x2 : Int32) (x3 : Int32) (h : HI) (g : HL) (H : Heap) (locs : List Loc) (ls : Array Slot), K4 x1 x2 x3 h g → gG D cy ad (gA ad s.heap.size) s.heap h g H locs → lv_has ls 6 [(0, .ref (ad 118)), (1, .int x1), (2, .int x2), (3, .int x3)] → W p l e ({ frames := 5, cells := 0, slots := 0, locals := 120 } : Room) s m args below meth c H locs 0 0 (MQ below (va_Qi (fun (r : Int32) (u : HI × HL) => Q r u.1 u.2) (gB D cy ad s.heap.size) (gA ad s.heap.size)) args s 0 0 (gA ad s.heap.size)) (F0 m 4 ls [])) (x1 : Int32) (x2 : Int32) (x3 : Int32) (h : HI) (g : HL) (H : Heap) (locs : List Loc) (ls : Array Slot), j_X5_lessonIn_67 Q K4 x1 x2 x3 h g → gG D cy ad (gA ad s.heap.size) s.heap h g H locs → lv_has ls 6 [(0, .ref (ad 118)), (1, .int x1), (2, .int x2), (3, .int x3)] → W p l e ({ frames := 5, cells := 0, slots := 0, locals := 120 } : Room) s m args below meth c H locs 0 0 (MQ below (va_Qi (fun (r : Int32) (u : HI × HL) => Q r u.1 u.2) (gB D cy ad s.heap.size) (gA ad s.heap.size)) args s 0 0 (gA ad s.heap.size)) (F0 m 67 ls []) := by
    intro K4 hK4 x1 x2 x3 h g H locs ls HW hG hl
    unfold j_X5_lessonIn_67 at HW
    obtain ⟨x3_67, ex3_67⟩ : ∃ y : Int32, y = (x3 + 1) := ⟨_, rfl⟩
    replace HW := HW x3_67 ex3_67
    refine lv_iinc (v := x3_67) (lv' := [(3, .int x3_67), (0, .ref (ad 118)), (1, .int x1), (2, .int x2)]) hx hb dX5_lessonIn_67 hl (k := 3) rfl (by rw [ex3_67]; rfl) (by decide) rfl (fun ls hl => ?_)
    refine lv_goto (tgt := 4) hx hb dX5_lessonIn_70 (by decide) ?_
    exact hK4 x1 x2 x3_67 h g _ _ _ HW hG (lv_sub hl [1, 2, 3, 0] rfl)
  have L4 : ∀ (n : Nat) (x1 : Int32) (x2 : Int32) (x3 : Int32) (h : HI) (g : HL) (H : Heap) (locs : List Loc) (ls : Array Slot), lpN (F_X5_lessonIn_4 Q) n (x1, x2, x3, h, g) → gG D cy ad (gA ad s.heap.size) s.heap h g H locs → lv_has ls 6 [(0, .ref (ad 118)), (1, .int x1), (2, .int x2), (3, .int x3)] → W p l e ({ frames := 5, cells := 0, slots := 0, locals := 120 } : Room) s m args below meth c H locs 0 0 (MQ below (va_Qi (fun (r : Int32) (u : HI × HL) => Q r u.1 u.2) (gB D cy ad s.heap.size) (gA ad s.heap.size)) args s 0 0 (gA ad s.heap.size)) (F0 m 4 ls []) := by
    intro n
    induction n with
    | zero => intro x1 x2 x3 h g H locs ls HW; exact HW.elim
    | succ n ih =>
      intro x1 x2 x3 h g H locs ls HW hG hl
      have HW : b_X5_lessonIn_4 Q (fun x1 x2 x3 h g => lpN (F_X5_lessonIn_4 Q) n (x1, x2, x3, h, g)) x1 x2 x3 h g := HW
      generalize hKe : (fun (x1 : Int32) (x2 : Int32) (x3 : Int32) (h : HI) (g : HL) => lpN (F_X5_lessonIn_4 Q) n (x1, x2, x3, h, g)) = K4 at HW
      have hK4 : ∀ (x1 : Int32) (x2 : Int32) (x3 : Int32) (h : HI) (g : HL) (H : Heap) (locs : List Loc) (ls : Array Slot), K4 x1 x2 x3 h g → gG D cy ad (gA ad s.heap.size) s.heap h g H locs → lv_has ls 6 [(0, .ref (ad 118)), (1, .int x1), (2, .int x2), (3, .int x3)] → W p l e ({ frames := 5, cells := 0, slots := 0, locals := 120 } : Room) s m args below meth c H locs 0 0 (MQ below (va_Qi (fun (r : Int32) (u : HI × HL) => Q r u.1 u.2) (gB D cy ad s.heap.size) (gA ad s.heap.size)) args s 0 0 (gA ad s.heap.size)) (F0 m 4 ls []) := by subst hKe; exact ih
      clear ih
      clear hKe
      unfold b_X5_lessonIn_4 at HW
      refine lv_iload_n hx hb dX5_lessonIn_4 rfl (lv_at hl 3 rfl) ?_
      refine lv_aload_n hx hb dX5_lessonIn_5 rfl (lv_at hl 0 rfl) ?_
      refine g_geti hx hb hw inG5 hown hK hG gl_118 rfl gk_118 (by decide) 10 (by decide) (by rw [gm_118]; decide) gr_118_10 lk48 dX5_lessonIn_6 ?_
      refine lv_icmp_ge (tgt := 73) hx hb dX5_lessonIn_9 (by decide) (fun c_9 => ?_) (fun c_9 => ?_)
      · replace HW := HW.1 c_9
        refine lv_iconst (v := (-1)) hx hb dX5_lessonIn_73 (by decide) ?_
        exact W.iret (v := (-1 : Int32)) hx hb hr (fun t ht hW => ⟨⟨(-1 : Int32), (h, g), rfl, HW, g_B ht hG⟩, hG.2.2.F ht⟩) hG.2.2.2.2 dX5_lessonIn_74
      · replace HW := HW.2 c_9
        refine lv_aload_n hx hb dX5_lessonIn_12 rfl (lv_at hl 0 rfl) ?_
        refine lv_iload_n hx hb dX5_lessonIn_13 rfl (lv_at hl 3 rfl) ?_
        refine lv_iload_n hx hb dX5_lessonIn_14 rfl (lv_at hl 2 rfl) ?_
        obtain ⟨P_15, HC_15, HW⟩ := HW
        refine g_calli (g_runV (As := [.int x3, .int x2]) (rest := []) ⟨hx, hb, hml, hown, hts⟩ (m_X5_bestIn l D cy ad h g H.size x3 x2 P_15 HC_15) (cwV 2 hts (gd_V (wm4 204 rfl rfl) (wm4 206 rfl rfl) (wmp3 (q := (yX5_bestIn, 11)) 3 rfl) (wm1 12 rfl rfl) (wm4 207 rfl rfl)) rfl rfl rfl (by decide +kernel) ⟨Nat.le_of_ble_eq_true rfl, Nat.le_of_ble_eq_true rfl⟩) hK hNw hG gl_118 rfl gk_118 (by decide) rfl rfl hl.1 rfl (lv_room (Nat.le_of_ble_eq_true rfl)) dX5_lessonIn_15 ⟨Nat.zero_le _, Nat.zero_le _⟩) hG (fun r_15 h_15 g_15 H locs hq hG => ?_)
        replace HW := HW r_15 h_15 g_15 hq
        refine lv_istore (lv' := [(4, .int r_15), (0, .ref (ad 118)), (1, .int x1), (2, .int x2), (3, .int x3)]) hx hb dX5_lessonIn_18 hl (by decide) rfl (fun ls hl => ?_)
        refine lv_iload hx hb dX5_lessonIn_20 (lv_at hl 0 rfl) ?_
        refine lv_iconst (v := 0) hx hb dX5_lessonIn_22 (by decide) ?_
        refine lv_bipush (v := 15) hx hb dX5_lessonIn_23 (by decide) ?_
        obtain ⟨P_25, HC_25, HW⟩ := HW
        refine g_callz (g_runSN (As := [.int r_15, .int (0 : Int32), .int (15 : Int32)]) (rest := []) ⟨hx, hb, hml, hown, hts⟩ (m_X10_within l D cy ad h_15 g_15 H.size r_15 (0 : Int32) (15 : Int32) P_25 HC_25) ⟨va_cnB 3 hts (gd_w (wm2 195 rfl rfl)) rfl rfl rfl (hNw _ (List.mem_of_getElem? (i := 4) rfl)) (hw (.initialized RX10) (wm1 1 rfl rfl)) (by decide +kernel) ⟨Nat.le_of_ble_eq_true rfl, Nat.le_of_ble_eq_true rfl⟩, hw (.static yX10_within) (wm2 194 rfl rfl), trivial⟩ hK hNw hG rfl rfl hl.1 rfl (lv_room (Nat.le_of_ble_eq_true rfl)) dX5_lessonIn_25 ⟨Nat.zero_le _, Nat.zero_le _⟩) hG (fun r_25 h_25 g_25 H locs hz hq hG => ?_)
        replace HW := HW r_25 h_25 g_25 hz hq
        refine lv_istore (lv' := [(5, .int r_25), (4, .int r_15), (0, .ref (ad 118)), (1, .int x1), (2, .int x2), (3, .int x3)]) hx hb dX5_lessonIn_28 hl (by decide) rfl (fun ls hl => ?_)
        refine lv_iload_n hx hb dX5_lessonIn_30 rfl (lv_at hl 5 rfl) ?_
        refine lv_iload_n hx hb dX5_lessonIn_31 rfl (lv_at hl 3 rfl) ?_
        refine lv_icmp_ne (tgt := 52) hx hb dX5_lessonIn_32 (by decide) (fun c_32 => ?_) (fun c_32 => ?_)
        · replace HW := HW.1 c_32
          refine lv_iload hx hb dX5_lessonIn_52 (lv_at hl 0 rfl) ?_
          refine lv_if_eq (tgt := 67) hx hb dX5_lessonIn_54 (by decide) (fun c_54 => ?_) (fun c_54 => ?_)
          · replace HW := HW.1 c_54
            exact B67 K4 hK4 x1 x2 x3 h_25 g_25 _ _ _ HW hG (lv_sub hl [2, 3, 4, 5] rfl)
          · replace HW := HW.2 c_54
            refine lv_iload_n hx hb dX5_lessonIn_57 rfl (lv_at hl 4 rfl) ?_
            refine lv_aload_n hx hb dX5_lessonIn_58 rfl (lv_at hl 2 rfl) ?_
            refine g_getr hx hb hw inG5 hown hK hG gl_118 rfl gk_118 (by decide) 2 (by decide) (by rw [gm_118]; decide) (r := 120) gr_118_2 lk15 dX5_lessonIn_59 ?_
            refine lv_iload hx hb dX5_lessonIn_62 (lv_at hl 1 rfl) ?_
            refine g_iald hx hb hK hG gl_120 gk_120 gn_120 HW.1 dX5_lessonIn_64 ?_
            replace HW := HW.2
            refine lv_ior hx hb dX5_lessonIn_65 ?_
            refine lv_topi (fun x2_66 ex2_66 => ?_)
            replace HW := HW x2_66 ex2_66
            refine lv_istore_n (lv' := [(2, .int x2_66), (5, .int r_25), (4, .int r_15), (0, .ref (ad 118)), (1, .int x1), (3, .int x3)]) hx hb dX5_lessonIn_66 rfl hl (by decide) rfl (fun ls hl => ?_)
            exact B67 K4 hK4 x1 x2_66 x3 h_25 g_25 _ _ _ HW hG (lv_sub hl [3, 4, 0, 5] rfl)
        · replace HW := HW.2 c_32
          refine lv_iload hx hb dX5_lessonIn_35 (lv_at hl 0 rfl) ?_
          refine lv_if_eq (tgt := 50) hx hb dX5_lessonIn_37 (by decide) (fun c_37 => ?_) (fun c_37 => ?_)
          · replace HW := HW.1 c_37
            refine lv_iconst (v := (-1)) hx hb dX5_lessonIn_50 (by decide) ?_
            exact W.iret (v := (-1 : Int32)) hx hb hr (fun t ht hW => ⟨⟨(-1 : Int32), (h_25, g_25), rfl, HW, g_B ht hG⟩, hG.2.2.F ht⟩) hG.2.2.2.2 dX5_lessonIn_51
          · replace HW := HW.2 c_37
            refine lv_aload_n hx hb dX5_lessonIn_40 rfl (lv_at hl 2 rfl) ?_
            refine g_getr hx hb hw inG5 hown hK hG gl_118 rfl gk_118 (by decide) 1 (by decide) (by rw [gm_118]; decide) (r := 119) gr_118_1 lk11 dX5_lessonIn_41 ?_
            refine lv_iload hx hb dX5_lessonIn_44 (lv_at hl 1 rfl) ?_
            refine g_iald hx hb hK hG gl_119 gk_119 gn_119 HW.1 dX5_lessonIn_46 ?_
            replace HW := HW.2
            refine lv_goto (tgt := 51) hx hb dX5_lessonIn_47 (by decide) ?_
            exact W.iret (v := (h_25 119 r_15.toNatClampNeg)) hx hb hr (fun t ht hW => ⟨⟨(h_25 119 r_15.toNatClampNeg), (h_25, g_25), rfl, HW, g_B ht hG⟩, hG.2.2.F ht⟩) hG.2.2.2.2 dX5_lessonIn_51
  have E0 : ∀ (H : Heap) (locs : List Loc) (ls : Array Slot), gG D cy ad (gA ad s.heap.size) s.heap h g H locs → lv_has ls 6 [(0, .ref (ad 118)), (1, .int x1)] → W p l e ({ frames := 5, cells := 0, slots := 0, locals := 120 } : Room) s m args below meth c H locs 0 0 (MQ below (va_Qi (fun (r : Int32) (u : HI × HL) => Q r u.1 u.2) (gB D cy ad s.heap.size) (gA ad s.heap.size)) args s 0 0 (gA ad s.heap.size)) (F0 m 0 ls []) := by
    intro H locs ls hG hl
    unfold w_X5_lessonIn at HW
    refine lv_iconst (v := 0) hx hb dX5_lessonIn_0 (by decide) ?_
    refine lv_istore_n (lv' := [(2, .int (0 : Int32)), (0, .ref (ad 118)), (1, .int x1)]) hx hb dX5_lessonIn_1 rfl hl (by decide) rfl (fun ls hl => ?_)
    refine lv_iconst (v := 0) hx hb dX5_lessonIn_2 (by decide) ?_
    refine lv_istore_n (lv' := [(3, .int (0 : Int32)), (2, .int (0 : Int32)), (0, .ref (ad 118)), (1, .int x1)]) hx hb dX5_lessonIn_3 rfl hl (by decide) rfl (fun ls hl => ?_)
    obtain ⟨n_4, HW⟩ := HW
    exact L4 n_4 x1 (0 : Int32) (0 : Int32) h g _ _ _ HW hG (lv_sub hl [2, 3, 1, 0] rfl)
  exact E0 _ _ _ hG hl

def w_X8_copy (o : Nat) (o1 : Nat) (h : HI) (g : HL) (Q : HI → HL → Prop) : Prop :=
  (∀ x2_9 : Int32, x2_9 = ((h o1 3) * (h o1 1)) → ((¬ (h o1 1) = (h o 1) → Q h g) ∧ ((h o1 1) = (h o 1) → ((x2_9 < 0 → Q h g) ∧ (¬ x2_9 < 0 → (((Int32.ofNat (gN (o + 1))) < x2_9 → Q h g) ∧ (¬ (Int32.ofNat (gN (o + 1))) < x2_9 → ((x2_9 ≤ (Int32.ofNat (gN (o1 + 1))) → ((¬ (0 : Int32) < 0 ∧ ¬ (0 : Int32) < 0 ∧ ¬ x2_9 < 0 ∧ (0 : Int32).toNatClampNeg + x2_9.toNatClampNeg ≤ (gN (o1 + 1)) ∧ (0 : Int32).toNatClampNeg + x2_9.toNatClampNeg ≤ (gN (o + 1))) ∧ ∀ h_55 : HI, h_55 = hua h (o + 1) (va_cpy (h (o1 + 1)) (h (o + 1)) (0 : Int32).toNatClampNeg (0 : Int32).toNatClampNeg x2_9.toNatClampNeg) → (∀ h_63 : HI, h_63 = hu h_55 o 3 (h_55 o1 3) → Q h_63 g))) ∧ (¬ x2_9 ≤ (Int32.ofNat (gN (o1 + 1))) → Q h g)))))))))
set_option maxHeartbeats 8000000 in
set_option maxRecDepth 100000 in
theorem m_X8_copy (l : Launch) (D : va_G) (cy : Nat → ClassId) (ad : Nat → Nat) (h : HI) (g : HL) (sz : Nat) (o : Nat) (hT : isT o) (o1 : Nat) (hT1 : isT o1) (Q : HI → HL → Prop) (HW : w_X8_copy o o1 h g Q) : Met l yX8_copy (wa yX8_copy cX8_copy 3 none) ({ frames := 1, cells := 0, slots := 0, locals := 60 }) (va_Pc [.ref (ad o), .ref (ad o1)] (gI D cy ad h g sz)) (va_Qv (fun (u : HI × HL) => Q u.1 u.2) (gB D cy ad sz) (gA ad sz)) 0 0 (gA ad sz) := by
  refine Met.ofW (cc := cX8_copy) (maxL := 3) (ret := none) (by decide) rfl ?_
  intro p e s m args below meth c s₁ B hml hv
  obtain ⟨hav, hsz, hP, hK, hD0, hNw⟩ := hv
  have hx := B.exec
  have hb := B.bytes
  have hr := B.returns
  have hts := atoms_spec (ws := (wa yX8_copy cX8_copy 3 none)) B.pre
  have hw := wa_hw hts
  have hown : s.vm.findClass RX8 = some m.cls := findClass_of_methodNamed B.named
  have hlocks := B.notSynchronized
  subst hsz
  have hG : gG D cy ad (gA ad s.heap.size) s.heap h g s.heap [] := ⟨hP, gA_self hD0, va_S.rf⟩
  clear hP hD0
  have lk22 := hw (.fieldLink RX8 22 "OldWorks$Table" "many" "I") (wm1 40 rfl rfl)
  have lk15 := hw (.fieldLink RX8 15 "OldWorks$Table" "width" "I") (wm1 38 rfl rfl)
  have lk18 := hw (.fieldLink RX8 18 "OldWorks$Table" "cells" "[I") (wm1 37 rfl rfl)
  have ml29 := hw (.methodLink RX8 29 arraycopyName) (wm4 224 rfl rfl)
  have mn29 := hw (.native arraycopyName) (wm4 125 rfl rfl)
  have ms29 := hw (.static arraycopyName) (wm4 124 rfl rfl)
  have mi29 := hw (.initialized "java/lang/System") (wm1 16 rfl rfl)
  rw [show (headSpec (wa yX8_copy cX8_copy 3 none) ({ frames := 1, cells := 0, slots := 0, locals := 60 } : Room)).room = ({ frames := 1, cells := 0, slots := 0, locals := 60 } : Room) from rfl]
  have hl := lv_entry ([.ref (ad o), .ref (ad o1)]) (n := 3) (Nat.le_of_ble_eq_true rfl)
  rw [show entryFrame m args 3 = entryFrame m ([.ref (ad o), .ref (ad o1)] : List Value).toArray 3 from by rw [hav], lg_entry_eq]
  generalize (lg_sl ([.ref (ad o), .ref (ad o1)]) ++ List.replicate (3 - (lg_sl ([.ref (ad o), .ref (ad o1)])).length) Slot.unset).toArray = ls at hl ⊢
  have hl : lv_has ls 3 [(0, .ref (ad o)), (1, .ref (ad o1))] := hl
  have E0 : ∀ (H : Heap) (locs : List Loc) (ls : Array Slot), gG D cy ad (gA ad s.heap.size) s.heap h g H locs → lv_has ls 3 [(0, .ref (ad o)), (1, .ref (ad o1))] → W p l e ({ frames := 1, cells := 0, slots := 0, locals := 60 } : Room) s m args below meth c H locs 0 0 (MQ below (va_Qv (fun (u : HI × HL) => Q u.1 u.2) (gB D cy ad s.heap.size) (gA ad s.heap.size)) args s 0 0 (gA ad s.heap.size)) (F0 m 0 ls []) := by
    intro H locs ls hG hl
    unfold w_X8_copy at HW
    refine lv_aload_n hx hb dX8_copy_0 rfl (lv_at hl 1 rfl) ?_
    refine g_geti hx hb hw inG8 hown hK hG hT1.lt rfl hT1.k (by decide) 3 (by decide) (by rw [hT1.m]; decide) hT1.r.2.2.2 lk22 dX8_copy_1 ?_
    refine lv_aload_n hx hb dX8_copy_4 rfl (lv_at hl 1 rfl) ?_
    refine g_geti hx hb hw inG8 hown hK hG hT1.lt rfl hT1.k (by decide) 1 (by decide) (by rw [hT1.m]; decide) hT1.r.2.1 lk15 dX8_copy_5 ?_
    refine lv_imul hx hb dX8_copy_8 ?_
    refine lv_topi (fun x2_9 ex2_9 => ?_)
    replace HW := HW x2_9 ex2_9
    refine lv_istore_n (lv' := [(2, .int x2_9), (0, .ref (ad o)), (1, .ref (ad o1))]) hx hb dX8_copy_9 rfl hl (by decide) rfl (fun ls hl => ?_)
    refine lv_aload_n hx hb dX8_copy_10 rfl (lv_at hl 2 rfl) ?_
    refine g_geti hx hb hw inG8 hown hK hG hT1.lt rfl hT1.k (by decide) 1 (by decide) (by rw [hT1.m]; decide) hT1.r.2.1 lk15 dX8_copy_11 ?_
    refine lv_aload_n hx hb dX8_copy_14 rfl (lv_at hl 1 rfl) ?_
    refine g_geti hx hb hw inG8 hown hK hG hT.lt rfl hT.k (by decide) 1 (by decide) (by rw [hT.m]; decide) hT.r.2.1 lk15 dX8_copy_15 ?_
    refine lv_icmp_ne (tgt := 43) hx hb dX8_copy_18 (by decide) (fun c_18 => ?_) (fun c_18 => ?_)
    · replace HW := HW.1 c_18
      exact W.vret hx hb hr (fun t ht hW => ⟨⟨(h, g), rfl, HW, g_B ht hG⟩, hG.2.2.F ht⟩) hG.2.2.2.2 dX8_copy_43
    · replace HW := HW.2 c_18
      refine lv_iload_n hx hb dX8_copy_21 rfl (lv_at hl 0 rfl) ?_
      refine lv_if_lt (tgt := 43) hx hb dX8_copy_22 (by decide) (fun c_22 => ?_) (fun c_22 => ?_)
      · replace HW := HW.1 c_22
        exact W.vret hx hb hr (fun t ht hW => ⟨⟨(h, g), rfl, HW, g_B ht hG⟩, hG.2.2.F ht⟩) hG.2.2.2.2 dX8_copy_43
      · replace HW := HW.2 c_22
        refine lv_iload_n hx hb dX8_copy_25 rfl (lv_at hl 0 rfl) ?_
        refine lv_aload_n hx hb dX8_copy_26 rfl (lv_at hl 1 rfl) ?_
        refine g_getr hx hb hw inG8 hown hK hG hT.lt rfl hT.k (by decide) 0 (by decide) (by rw [hT.m]; decide) (r := (o + 1)) hT.r.1 lk18 dX8_copy_27 ?_
        refine g_alen hx hb hK hG hT.a.2 hT.a.1 (v := (Int32.ofNat (gN (o + 1)))) rfl dX8_copy_30 ?_
        refine lv_icmp_gt (tgt := 43) hx hb dX8_copy_31 (by decide) (fun c_31 => ?_) (fun c_31 => ?_)
        · replace HW := HW.1 c_31
          exact W.vret hx hb hr (fun t ht hW => ⟨⟨(h, g), rfl, HW, g_B ht hG⟩, hG.2.2.F ht⟩) hG.2.2.2.2 dX8_copy_43
        · replace HW := HW.2 c_31
          refine lv_iload_n hx hb dX8_copy_34 rfl (lv_at hl 0 rfl) ?_
          refine lv_aload_n hx hb dX8_copy_35 rfl (lv_at hl 2 rfl) ?_
          refine g_getr hx hb hw inG8 hown hK hG hT1.lt rfl hT1.k (by decide) 0 (by decide) (by rw [hT1.m]; decide) (r := (o1 + 1)) hT1.r.1 lk18 dX8_copy_36 ?_
          refine g_alen hx hb hK hG hT1.a.2 hT1.a.1 (v := (Int32.ofNat (gN (o1 + 1)))) rfl dX8_copy_39 ?_
          refine lv_icmp_le (tgt := 44) hx hb dX8_copy_40 (by decide) (fun c_40 => ?_) (fun c_40 => ?_)
          · replace HW := HW.1 c_40
            refine lv_aload_n hx hb dX8_copy_44 rfl (lv_at hl 2 rfl) ?_
            refine g_getr hx hb hw inG8 hown hK hG hT1.lt rfl hT1.k (by decide) 0 (by decide) (by rw [hT1.m]; decide) (r := (o1 + 1)) hT1.r.1 lk18 dX8_copy_45 ?_
            refine lv_iconst (v := 0) hx hb dX8_copy_48 (by decide) ?_
            refine lv_aload_n hx hb dX8_copy_49 rfl (lv_at hl 1 rfl) ?_
            refine g_getr hx hb hw inG8 hown hK hG hT.lt rfl hT.k (by decide) 0 (by decide) (by rw [hT.m]; decide) (r := (o + 1)) hT.r.1 lk18 dX8_copy_50 ?_
            refine lv_iconst (v := 0) hx hb dX8_copy_53 (by decide) ?_
            refine lv_iload_n hx hb dX8_copy_54 rfl (lv_at hl 0 rfl) ?_
            refine g_copy hx hb (hml.trans hl.1.symm) hown ml29 mn29 ms29 mi29 hK hG hT1.a.2 hT1.a.1 rfl hT.a.2 hT.a.1 rfl HW.1 (by decide) (Nat.le_of_ble_eq_true rfl) dX8_copy_55 (fun H locs hG => ?_)
            replace HW := HW.2
            obtain ⟨h_55, eh_55⟩ : ∃ y : HI, y = hua h (o + 1) (va_cpy (h (o1 + 1)) (h (o + 1)) (0 : Int32).toNatClampNeg (0 : Int32).toNatClampNeg x2_9.toNatClampNeg) := ⟨_, rfl⟩
            rw [← eh_55] at hG
            replace HW := HW h_55 eh_55
            refine lv_aload_n hx hb dX8_copy_58 rfl (lv_at hl 1 rfl) ?_
            refine lv_aload_n hx hb dX8_copy_59 rfl (lv_at hl 2 rfl) ?_
            refine g_geti hx hb hw inG8 hown hK hG hT1.lt rfl hT1.k (by decide) 3 (by decide) (by rw [hT1.m]; decide) hT1.r.2.2.2 lk22 dX8_copy_60 ?_
            refine g_put hx hb hw inG8 tyX8 tyX8_ok nmX8 hown hK hG hT.lt rfl hT.k (by decide) 3 (by decide) (by rw [hT.m]; decide) hT.r.2.2.2 rfl (ty := .int) (by decide +kernel) rfl rfl lk22 dX8_copy_63 (fun H locs hG => ?_)
            obtain ⟨h_63, eh_63⟩ : ∃ y : HI, y = hu h_55 o 3 (h_55 o1 3) := ⟨_, rfl⟩
            rw [← eh_63] at hG
            replace HW := HW h_63 eh_63
            exact W.vret hx hb hr (fun t ht hW => ⟨⟨(h_63, g), rfl, HW, g_B ht hG⟩, hG.2.2.F ht⟩) hG.2.2.2.2 dX8_copy_66
          · replace HW := HW.2 c_40
            exact W.vret hx hb hr (fun t ht hW => ⟨⟨(h, g), rfl, HW, g_B ht hG⟩, hG.2.2.F ht⟩) hG.2.2.2.2 dX8_copy_43
  exact E0 _ _ _ hG hl

def w_X6_copy (o : Nat) (o1 : Nat) (h : HI) (g : HL) (Q : HI → HL → Prop) : Prop :=
  (∃ P_8 : HI → HL → Prop, w_X8_copy (o + 1) (o1 + 1) h g P_8 ∧ ∀ (h_8 : HI) (g_8 : HL), P_8 h_8 g_8 → (∃ P_19 : HI → HL → Prop, w_X8_copy (o + 3) (o1 + 3) h_8 g_8 P_19 ∧ ∀ (h_19 : HI) (g_19 : HL), P_19 h_19 g_19 → (∃ P_30 : HI → HL → Prop, w_X8_copy (o + 5) (o1 + 5) h_19 g_19 P_30 ∧ ∀ (h_30 : HI) (g_30 : HL), P_30 h_30 g_30 → (∃ P_41 : HI → HL → Prop, w_X8_copy (o + 7) (o1 + 7) h_30 g_30 P_41 ∧ ∀ (h_41 : HI) (g_41 : HL), P_41 h_41 g_41 → (∃ P_52 : HI → HL → Prop, w_X8_copy (o + 9) (o1 + 9) h_41 g_41 P_52 ∧ ∀ (h_52 : HI) (g_52 : HL), P_52 h_52 g_52 → (∃ P_63 : HI → HL → Prop, w_X8_copy (o + 11) (o1 + 11) h_52 g_52 P_63 ∧ ∀ (h_63 : HI) (g_63 : HL), P_63 h_63 g_63 → (∃ P_74 : HI → HL → Prop, w_X8_copy (o + 13) (o1 + 13) h_63 g_63 P_74 ∧ ∀ (h_74 : HI) (g_74 : HL), P_74 h_74 g_74 → (∃ P_85 : HI → HL → Prop, w_X8_copy (o + 15) (o1 + 15) h_74 g_74 P_85 ∧ ∀ (h_85 : HI) (g_85 : HL), P_85 h_85 g_85 → (∃ P_96 : HI → HL → Prop, w_X8_copy (o + 17) (o1 + 17) h_85 g_85 P_96 ∧ ∀ (h_96 : HI) (g_96 : HL), P_96 h_96 g_96 → (∃ P_107 : HI → HL → Prop, w_X8_copy (o + 19) (o1 + 19) h_96 g_96 P_107 ∧ ∀ (h_107 : HI) (g_107 : HL), P_107 h_107 g_107 → (∃ P_118 : HI → HL → Prop, w_X8_copy (o + 21) (o1 + 21) h_107 g_107 P_118 ∧ ∀ (h_118 : HI) (g_118 : HL), P_118 h_118 g_118 → (∃ P_129 : HI → HL → Prop, w_X8_copy (o + 23) (o1 + 23) h_118 g_118 P_129 ∧ ∀ (h_129 : HI) (g_129 : HL), P_129 h_129 g_129 → Q h_129 g_129))))))))))))
set_option maxHeartbeats 8000000 in
set_option maxRecDepth 100000 in
theorem m_X6_copy (l : Launch) (D : va_G) (cy : Nat → ClassId) (ad : Nat → Nat) (h : HI) (g : HL) (sz : Nat) (o : Nat) (hT : isS o) (o1 : Nat) (hT1 : isS o1) (Q : HI → HL → Prop) (HW : w_X6_copy o o1 h g Q) : Met l yX6_copy (wa yX6_copy cX6_copy 2 none) ({ frames := 2, cells := 0, slots := 0, locals := 82 }) (va_Pc [.ref (ad o), .ref (ad o1)] (gI D cy ad h g sz)) (va_Qv (fun (u : HI × HL) => Q u.1 u.2) (gB D cy ad sz) (gA ad sz)) 0 0 (gA ad sz) := by
  refine Met.ofW (cc := cX6_copy) (maxL := 2) (ret := none) (by decide) rfl ?_
  intro p e s m args below meth c s₁ B hml hv
  obtain ⟨hav, hsz, hP, hK, hD0, hNw⟩ := hv
  have hx := B.exec
  have hb := B.bytes
  have hr := B.returns
  have hts := atoms_spec (ws := (wa yX6_copy cX6_copy 2 none)) B.pre
  have hw := wa_hw hts
  have hown : s.vm.findClass RX6 = some m.cls := findClass_of_methodNamed B.named
  have hlocks := B.notSynchronized
  subst hsz
  have hG : gG D cy ad (gA ad s.heap.size) s.heap h g s.heap [] := ⟨hP, gA_self hD0, va_S.rf⟩
  clear hP hD0
  have lk14 := hw (.fieldLink RX6 14 "OldWorks$Shop" "parts" "LOldWorks$Table;") (wm1 60 rfl rfl)
  have lk20 := hw (.fieldLink RX6 20 "OldWorks$Shop" "families" "LOldWorks$Table;") (wm1 65 rfl rfl)
  have lk23 := hw (.fieldLink RX6 23 "OldWorks$Shop" "sayings" "LOldWorks$Table;") (wm1 68 rfl rfl)
  have lk26 := hw (.fieldLink RX6 26 "OldWorks$Shop" "chains" "LOldWorks$Table;") (wm1 71 rfl rfl)
  have lk29 := hw (.fieldLink RX6 29 "OldWorks$Shop" "works" "LOldWorks$Table;") (wm1 74 rfl rfl)
  have lk32 := hw (.fieldLink RX6 32 "OldWorks$Shop" "machines" "LOldWorks$Table;") (wm1 77 rfl rfl)
  have lk35 := hw (.fieldLink RX6 35 "OldWorks$Shop" "spares" "LOldWorks$Table;") (wm1 80 rfl rfl)
  have lk38 := hw (.fieldLink RX6 38 "OldWorks$Shop" "odds" "LOldWorks$Table;") (wm1 83 rfl rfl)
  have lk41 := hw (.fieldLink RX6 41 "OldWorks$Shop" "loads" "LOldWorks$Table;") (wm1 86 rfl rfl)
  have lk44 := hw (.fieldLink RX6 44 "OldWorks$Shop" "hands" "LOldWorks$Table;") (wm1 89 rfl rfl)
  have lk47 := hw (.fieldLink RX6 47 "OldWorks$Shop" "runs" "LOldWorks$Table;") (wm1 92 rfl rfl)
  have lk52 := hw (.fieldLink RX6 52 "OldWorks$Shop" "signs" "LOldWorks$Table;") (wm1 95 rfl rfl)
  rw [show (headSpec (wa yX6_copy cX6_copy 2 none) ({ frames := 2, cells := 0, slots := 0, locals := 82 } : Room)).room = ({ frames := 2, cells := 0, slots := 0, locals := 82 } : Room) from rfl]
  have hl := lv_entry ([.ref (ad o), .ref (ad o1)]) (n := 2) (Nat.le_of_ble_eq_true rfl)
  rw [show entryFrame m args 2 = entryFrame m ([.ref (ad o), .ref (ad o1)] : List Value).toArray 2 from by rw [hav], lg_entry_eq]
  generalize (lg_sl ([.ref (ad o), .ref (ad o1)]) ++ List.replicate (2 - (lg_sl ([.ref (ad o), .ref (ad o1)])).length) Slot.unset).toArray = ls at hl ⊢
  have hl : lv_has ls 2 [(0, .ref (ad o)), (1, .ref (ad o1))] := hl
  have E0 : ∀ (H : Heap) (locs : List Loc) (ls : Array Slot), gG D cy ad (gA ad s.heap.size) s.heap h g H locs → lv_has ls 2 [(0, .ref (ad o)), (1, .ref (ad o1))] → W p l e ({ frames := 2, cells := 0, slots := 0, locals := 82 } : Room) s m args below meth c H locs 0 0 (MQ below (va_Qv (fun (u : HI × HL) => Q u.1 u.2) (gB D cy ad s.heap.size) (gA ad s.heap.size)) args s 0 0 (gA ad s.heap.size)) (F0 m 0 ls []) := by
    intro H locs ls hG hl
    unfold w_X6_copy at HW
    refine lv_aload_n hx hb dX6_copy_0 rfl (lv_at hl 0 rfl) ?_
    refine g_getr hx hb hw inG6 hown hK hG hT.lt rfl hT.k (by decide) 0 (by decide) (by rw [hT.m]; decide) (r := (o + 1)) (show gR o 0 = some (o + 1) from (hT.r 0 (by decide)).1) lk14 dX6_copy_1 ?_
    refine lv_aload_n hx hb dX6_copy_4 rfl (lv_at hl 1 rfl) ?_
    refine g_getr hx hb hw inG6 hown hK hG hT1.lt rfl hT1.k (by decide) 0 (by decide) (by rw [hT1.m]; decide) (r := (o1 + 1)) (show gR o1 0 = some (o1 + 1) from (hT1.r 0 (by decide)).1) lk14 dX6_copy_5 ?_
    obtain ⟨P_8, HC_8, HW⟩ := HW
    refine g_callv (g_runV (As := [.ref (ad (o1 + 1))]) (rest := []) ⟨hx, hb, hml, hown, hts⟩ (m_X8_copy l D cy ad h g H.size (o + 1) (show isT (o + 1) from (hT.r 0 (by decide)).2) (o1 + 1) (show isT (o1 + 1) from (hT1.r 0 (by decide)).2) P_8 HC_8) (cwV 1 hts (gd_V (wm4 220 rfl rfl) (wm4 221 rfl rfl) (wm4 222 rfl rfl) (wm1 3 rfl rfl) (wm4 223 rfl rfl)) rfl rfl rfl (by decide +kernel) ⟨Nat.le_of_ble_eq_true rfl, Nat.le_of_ble_eq_true rfl⟩) hK hNw hG ((show isT (o + 1) from (hT.r 0 (by decide)).2).lt) rfl ((show isT (o + 1) from (hT.r 0 (by decide)).2).k) (by decide) rfl rfl hl.1 rfl (lv_room (Nat.le_of_ble_eq_true rfl)) dX6_copy_8 ⟨Nat.zero_le _, Nat.zero_le _⟩) hG (fun h_8 g_8 H locs hq hG => ?_)
    replace HW := HW h_8 g_8 hq
    refine lv_aload_n hx hb dX6_copy_11 rfl (lv_at hl 0 rfl) ?_
    refine g_getr hx hb hw inG6 hown hK hG hT.lt rfl hT.k (by decide) 1 (by decide) (by rw [hT.m]; decide) (r := (o + 3)) (show gR o 1 = some (o + 3) from (hT.r 1 (by decide)).1) lk20 dX6_copy_12 ?_
    refine lv_aload_n hx hb dX6_copy_15 rfl (lv_at hl 1 rfl) ?_
    refine g_getr hx hb hw inG6 hown hK hG hT1.lt rfl hT1.k (by decide) 1 (by decide) (by rw [hT1.m]; decide) (r := (o1 + 3)) (show gR o1 1 = some (o1 + 3) from (hT1.r 1 (by decide)).1) lk20 dX6_copy_16 ?_
    obtain ⟨P_19, HC_19, HW⟩ := HW
    refine g_callv (g_runV (As := [.ref (ad (o1 + 3))]) (rest := []) ⟨hx, hb, hml, hown, hts⟩ (m_X8_copy l D cy ad h_8 g_8 H.size (o + 3) (show isT (o + 3) from (hT.r 1 (by decide)).2) (o1 + 3) (show isT (o1 + 3) from (hT1.r 1 (by decide)).2) P_19 HC_19) (cwV 1 hts (gd_V (wm4 220 rfl rfl) (wm4 221 rfl rfl) (wm4 222 rfl rfl) (wm1 3 rfl rfl) (wm4 223 rfl rfl)) rfl rfl rfl (by decide +kernel) ⟨Nat.le_of_ble_eq_true rfl, Nat.le_of_ble_eq_true rfl⟩) hK hNw hG ((show isT (o + 3) from (hT.r 1 (by decide)).2).lt) rfl ((show isT (o + 3) from (hT.r 1 (by decide)).2).k) (by decide) rfl rfl hl.1 rfl (lv_room (Nat.le_of_ble_eq_true rfl)) dX6_copy_19 ⟨Nat.zero_le _, Nat.zero_le _⟩) hG (fun h_19 g_19 H locs hq hG => ?_)
    replace HW := HW h_19 g_19 hq
    refine lv_aload_n hx hb dX6_copy_22 rfl (lv_at hl 0 rfl) ?_
    refine g_getr hx hb hw inG6 hown hK hG hT.lt rfl hT.k (by decide) 2 (by decide) (by rw [hT.m]; decide) (r := (o + 5)) (show gR o 2 = some (o + 5) from (hT.r 2 (by decide)).1) lk23 dX6_copy_23 ?_
    refine lv_aload_n hx hb dX6_copy_26 rfl (lv_at hl 1 rfl) ?_
    refine g_getr hx hb hw inG6 hown hK hG hT1.lt rfl hT1.k (by decide) 2 (by decide) (by rw [hT1.m]; decide) (r := (o1 + 5)) (show gR o1 2 = some (o1 + 5) from (hT1.r 2 (by decide)).1) lk23 dX6_copy_27 ?_
    obtain ⟨P_30, HC_30, HW⟩ := HW
    refine g_callv (g_runV (As := [.ref (ad (o1 + 5))]) (rest := []) ⟨hx, hb, hml, hown, hts⟩ (m_X8_copy l D cy ad h_19 g_19 H.size (o + 5) (show isT (o + 5) from (hT.r 2 (by decide)).2) (o1 + 5) (show isT (o1 + 5) from (hT1.r 2 (by decide)).2) P_30 HC_30) (cwV 1 hts (gd_V (wm4 220 rfl rfl) (wm4 221 rfl rfl) (wm4 222 rfl rfl) (wm1 3 rfl rfl) (wm4 223 rfl rfl)) rfl rfl rfl (by decide +kernel) ⟨Nat.le_of_ble_eq_true rfl, Nat.le_of_ble_eq_true rfl⟩) hK hNw hG ((show isT (o + 5) from (hT.r 2 (by decide)).2).lt) rfl ((show isT (o + 5) from (hT.r 2 (by decide)).2).k) (by decide) rfl rfl hl.1 rfl (lv_room (Nat.le_of_ble_eq_true rfl)) dX6_copy_30 ⟨Nat.zero_le _, Nat.zero_le _⟩) hG (fun h_30 g_30 H locs hq hG => ?_)
    replace HW := HW h_30 g_30 hq
    refine lv_aload_n hx hb dX6_copy_33 rfl (lv_at hl 0 rfl) ?_
    refine g_getr hx hb hw inG6 hown hK hG hT.lt rfl hT.k (by decide) 3 (by decide) (by rw [hT.m]; decide) (r := (o + 7)) (show gR o 3 = some (o + 7) from (hT.r 3 (by decide)).1) lk26 dX6_copy_34 ?_
    refine lv_aload_n hx hb dX6_copy_37 rfl (lv_at hl 1 rfl) ?_
    refine g_getr hx hb hw inG6 hown hK hG hT1.lt rfl hT1.k (by decide) 3 (by decide) (by rw [hT1.m]; decide) (r := (o1 + 7)) (show gR o1 3 = some (o1 + 7) from (hT1.r 3 (by decide)).1) lk26 dX6_copy_38 ?_
    obtain ⟨P_41, HC_41, HW⟩ := HW
    refine g_callv (g_runV (As := [.ref (ad (o1 + 7))]) (rest := []) ⟨hx, hb, hml, hown, hts⟩ (m_X8_copy l D cy ad h_30 g_30 H.size (o + 7) (show isT (o + 7) from (hT.r 3 (by decide)).2) (o1 + 7) (show isT (o1 + 7) from (hT1.r 3 (by decide)).2) P_41 HC_41) (cwV 1 hts (gd_V (wm4 220 rfl rfl) (wm4 221 rfl rfl) (wm4 222 rfl rfl) (wm1 3 rfl rfl) (wm4 223 rfl rfl)) rfl rfl rfl (by decide +kernel) ⟨Nat.le_of_ble_eq_true rfl, Nat.le_of_ble_eq_true rfl⟩) hK hNw hG ((show isT (o + 7) from (hT.r 3 (by decide)).2).lt) rfl ((show isT (o + 7) from (hT.r 3 (by decide)).2).k) (by decide) rfl rfl hl.1 rfl (lv_room (Nat.le_of_ble_eq_true rfl)) dX6_copy_41 ⟨Nat.zero_le _, Nat.zero_le _⟩) hG (fun h_41 g_41 H locs hq hG => ?_)
    replace HW := HW h_41 g_41 hq
    refine lv_aload_n hx hb dX6_copy_44 rfl (lv_at hl 0 rfl) ?_
    refine g_getr hx hb hw inG6 hown hK hG hT.lt rfl hT.k (by decide) 4 (by decide) (by rw [hT.m]; decide) (r := (o + 9)) (show gR o 4 = some (o + 9) from (hT.r 4 (by decide)).1) lk29 dX6_copy_45 ?_
    refine lv_aload_n hx hb dX6_copy_48 rfl (lv_at hl 1 rfl) ?_
    refine g_getr hx hb hw inG6 hown hK hG hT1.lt rfl hT1.k (by decide) 4 (by decide) (by rw [hT1.m]; decide) (r := (o1 + 9)) (show gR o1 4 = some (o1 + 9) from (hT1.r 4 (by decide)).1) lk29 dX6_copy_49 ?_
    obtain ⟨P_52, HC_52, HW⟩ := HW
    refine g_callv (g_runV (As := [.ref (ad (o1 + 9))]) (rest := []) ⟨hx, hb, hml, hown, hts⟩ (m_X8_copy l D cy ad h_41 g_41 H.size (o + 9) (show isT (o + 9) from (hT.r 4 (by decide)).2) (o1 + 9) (show isT (o1 + 9) from (hT1.r 4 (by decide)).2) P_52 HC_52) (cwV 1 hts (gd_V (wm4 220 rfl rfl) (wm4 221 rfl rfl) (wm4 222 rfl rfl) (wm1 3 rfl rfl) (wm4 223 rfl rfl)) rfl rfl rfl (by decide +kernel) ⟨Nat.le_of_ble_eq_true rfl, Nat.le_of_ble_eq_true rfl⟩) hK hNw hG ((show isT (o + 9) from (hT.r 4 (by decide)).2).lt) rfl ((show isT (o + 9) from (hT.r 4 (by decide)).2).k) (by decide) rfl rfl hl.1 rfl (lv_room (Nat.le_of_ble_eq_true rfl)) dX6_copy_52 ⟨Nat.zero_le _, Nat.zero_le _⟩) hG (fun h_52 g_52 H locs hq hG => ?_)
    replace HW := HW h_52 g_52 hq
    refine lv_aload_n hx hb dX6_copy_55 rfl (lv_at hl 0 rfl) ?_
    refine g_getr hx hb hw inG6 hown hK hG hT.lt rfl hT.k (by decide) 5 (by decide) (by rw [hT.m]; decide) (r := (o + 11)) (show gR o 5 = some (o + 11) from (hT.r 5 (by decide)).1) lk32 dX6_copy_56 ?_
    refine lv_aload_n hx hb dX6_copy_59 rfl (lv_at hl 1 rfl) ?_
    refine g_getr hx hb hw inG6 hown hK hG hT1.lt rfl hT1.k (by decide) 5 (by decide) (by rw [hT1.m]; decide) (r := (o1 + 11)) (show gR o1 5 = some (o1 + 11) from (hT1.r 5 (by decide)).1) lk32 dX6_copy_60 ?_
    obtain ⟨P_63, HC_63, HW⟩ := HW
    refine g_callv (g_runV (As := [.ref (ad (o1 + 11))]) (rest := []) ⟨hx, hb, hml, hown, hts⟩ (m_X8_copy l D cy ad h_52 g_52 H.size (o + 11) (show isT (o + 11) from (hT.r 5 (by decide)).2) (o1 + 11) (show isT (o1 + 11) from (hT1.r 5 (by decide)).2) P_63 HC_63) (cwV 1 hts (gd_V (wm4 220 rfl rfl) (wm4 221 rfl rfl) (wm4 222 rfl rfl) (wm1 3 rfl rfl) (wm4 223 rfl rfl)) rfl rfl rfl (by decide +kernel) ⟨Nat.le_of_ble_eq_true rfl, Nat.le_of_ble_eq_true rfl⟩) hK hNw hG ((show isT (o + 11) from (hT.r 5 (by decide)).2).lt) rfl ((show isT (o + 11) from (hT.r 5 (by decide)).2).k) (by decide) rfl rfl hl.1 rfl (lv_room (Nat.le_of_ble_eq_true rfl)) dX6_copy_63 ⟨Nat.zero_le _, Nat.zero_le _⟩) hG (fun h_63 g_63 H locs hq hG => ?_)
    replace HW := HW h_63 g_63 hq
    refine lv_aload_n hx hb dX6_copy_66 rfl (lv_at hl 0 rfl) ?_
    refine g_getr hx hb hw inG6 hown hK hG hT.lt rfl hT.k (by decide) 6 (by decide) (by rw [hT.m]; decide) (r := (o + 13)) (show gR o 6 = some (o + 13) from (hT.r 6 (by decide)).1) lk35 dX6_copy_67 ?_
    refine lv_aload_n hx hb dX6_copy_70 rfl (lv_at hl 1 rfl) ?_
    refine g_getr hx hb hw inG6 hown hK hG hT1.lt rfl hT1.k (by decide) 6 (by decide) (by rw [hT1.m]; decide) (r := (o1 + 13)) (show gR o1 6 = some (o1 + 13) from (hT1.r 6 (by decide)).1) lk35 dX6_copy_71 ?_
    obtain ⟨P_74, HC_74, HW⟩ := HW
    refine g_callv (g_runV (As := [.ref (ad (o1 + 13))]) (rest := []) ⟨hx, hb, hml, hown, hts⟩ (m_X8_copy l D cy ad h_63 g_63 H.size (o + 13) (show isT (o + 13) from (hT.r 6 (by decide)).2) (o1 + 13) (show isT (o1 + 13) from (hT1.r 6 (by decide)).2) P_74 HC_74) (cwV 1 hts (gd_V (wm4 220 rfl rfl) (wm4 221 rfl rfl) (wm4 222 rfl rfl) (wm1 3 rfl rfl) (wm4 223 rfl rfl)) rfl rfl rfl (by decide +kernel) ⟨Nat.le_of_ble_eq_true rfl, Nat.le_of_ble_eq_true rfl⟩) hK hNw hG ((show isT (o + 13) from (hT.r 6 (by decide)).2).lt) rfl ((show isT (o + 13) from (hT.r 6 (by decide)).2).k) (by decide) rfl rfl hl.1 rfl (lv_room (Nat.le_of_ble_eq_true rfl)) dX6_copy_74 ⟨Nat.zero_le _, Nat.zero_le _⟩) hG (fun h_74 g_74 H locs hq hG => ?_)
    replace HW := HW h_74 g_74 hq
    refine lv_aload_n hx hb dX6_copy_77 rfl (lv_at hl 0 rfl) ?_
    refine g_getr hx hb hw inG6 hown hK hG hT.lt rfl hT.k (by decide) 7 (by decide) (by rw [hT.m]; decide) (r := (o + 15)) (show gR o 7 = some (o + 15) from (hT.r 7 (by decide)).1) lk38 dX6_copy_78 ?_
    refine lv_aload_n hx hb dX6_copy_81 rfl (lv_at hl 1 rfl) ?_
    refine g_getr hx hb hw inG6 hown hK hG hT1.lt rfl hT1.k (by decide) 7 (by decide) (by rw [hT1.m]; decide) (r := (o1 + 15)) (show gR o1 7 = some (o1 + 15) from (hT1.r 7 (by decide)).1) lk38 dX6_copy_82 ?_
    obtain ⟨P_85, HC_85, HW⟩ := HW
    refine g_callv (g_runV (As := [.ref (ad (o1 + 15))]) (rest := []) ⟨hx, hb, hml, hown, hts⟩ (m_X8_copy l D cy ad h_74 g_74 H.size (o + 15) (show isT (o + 15) from (hT.r 7 (by decide)).2) (o1 + 15) (show isT (o1 + 15) from (hT1.r 7 (by decide)).2) P_85 HC_85) (cwV 1 hts (gd_V (wm4 220 rfl rfl) (wm4 221 rfl rfl) (wm4 222 rfl rfl) (wm1 3 rfl rfl) (wm4 223 rfl rfl)) rfl rfl rfl (by decide +kernel) ⟨Nat.le_of_ble_eq_true rfl, Nat.le_of_ble_eq_true rfl⟩) hK hNw hG ((show isT (o + 15) from (hT.r 7 (by decide)).2).lt) rfl ((show isT (o + 15) from (hT.r 7 (by decide)).2).k) (by decide) rfl rfl hl.1 rfl (lv_room (Nat.le_of_ble_eq_true rfl)) dX6_copy_85 ⟨Nat.zero_le _, Nat.zero_le _⟩) hG (fun h_85 g_85 H locs hq hG => ?_)
    replace HW := HW h_85 g_85 hq
    refine lv_aload_n hx hb dX6_copy_88 rfl (lv_at hl 0 rfl) ?_
    refine g_getr hx hb hw inG6 hown hK hG hT.lt rfl hT.k (by decide) 8 (by decide) (by rw [hT.m]; decide) (r := (o + 17)) (show gR o 8 = some (o + 17) from (hT.r 8 (by decide)).1) lk41 dX6_copy_89 ?_
    refine lv_aload_n hx hb dX6_copy_92 rfl (lv_at hl 1 rfl) ?_
    refine g_getr hx hb hw inG6 hown hK hG hT1.lt rfl hT1.k (by decide) 8 (by decide) (by rw [hT1.m]; decide) (r := (o1 + 17)) (show gR o1 8 = some (o1 + 17) from (hT1.r 8 (by decide)).1) lk41 dX6_copy_93 ?_
    obtain ⟨P_96, HC_96, HW⟩ := HW
    refine g_callv (g_runV (As := [.ref (ad (o1 + 17))]) (rest := []) ⟨hx, hb, hml, hown, hts⟩ (m_X8_copy l D cy ad h_85 g_85 H.size (o + 17) (show isT (o + 17) from (hT.r 8 (by decide)).2) (o1 + 17) (show isT (o1 + 17) from (hT1.r 8 (by decide)).2) P_96 HC_96) (cwV 1 hts (gd_V (wm4 220 rfl rfl) (wm4 221 rfl rfl) (wm4 222 rfl rfl) (wm1 3 rfl rfl) (wm4 223 rfl rfl)) rfl rfl rfl (by decide +kernel) ⟨Nat.le_of_ble_eq_true rfl, Nat.le_of_ble_eq_true rfl⟩) hK hNw hG ((show isT (o + 17) from (hT.r 8 (by decide)).2).lt) rfl ((show isT (o + 17) from (hT.r 8 (by decide)).2).k) (by decide) rfl rfl hl.1 rfl (lv_room (Nat.le_of_ble_eq_true rfl)) dX6_copy_96 ⟨Nat.zero_le _, Nat.zero_le _⟩) hG (fun h_96 g_96 H locs hq hG => ?_)
    replace HW := HW h_96 g_96 hq
    refine lv_aload_n hx hb dX6_copy_99 rfl (lv_at hl 0 rfl) ?_
    refine g_getr hx hb hw inG6 hown hK hG hT.lt rfl hT.k (by decide) 9 (by decide) (by rw [hT.m]; decide) (r := (o + 19)) (show gR o 9 = some (o + 19) from (hT.r 9 (by decide)).1) lk44 dX6_copy_100 ?_
    refine lv_aload_n hx hb dX6_copy_103 rfl (lv_at hl 1 rfl) ?_
    refine g_getr hx hb hw inG6 hown hK hG hT1.lt rfl hT1.k (by decide) 9 (by decide) (by rw [hT1.m]; decide) (r := (o1 + 19)) (show gR o1 9 = some (o1 + 19) from (hT1.r 9 (by decide)).1) lk44 dX6_copy_104 ?_
    obtain ⟨P_107, HC_107, HW⟩ := HW
    refine g_callv (g_runV (As := [.ref (ad (o1 + 19))]) (rest := []) ⟨hx, hb, hml, hown, hts⟩ (m_X8_copy l D cy ad h_96 g_96 H.size (o + 19) (show isT (o + 19) from (hT.r 9 (by decide)).2) (o1 + 19) (show isT (o1 + 19) from (hT1.r 9 (by decide)).2) P_107 HC_107) (cwV 1 hts (gd_V (wm4 220 rfl rfl) (wm4 221 rfl rfl) (wm4 222 rfl rfl) (wm1 3 rfl rfl) (wm4 223 rfl rfl)) rfl rfl rfl (by decide +kernel) ⟨Nat.le_of_ble_eq_true rfl, Nat.le_of_ble_eq_true rfl⟩) hK hNw hG ((show isT (o + 19) from (hT.r 9 (by decide)).2).lt) rfl ((show isT (o + 19) from (hT.r 9 (by decide)).2).k) (by decide) rfl rfl hl.1 rfl (lv_room (Nat.le_of_ble_eq_true rfl)) dX6_copy_107 ⟨Nat.zero_le _, Nat.zero_le _⟩) hG (fun h_107 g_107 H locs hq hG => ?_)
    replace HW := HW h_107 g_107 hq
    refine lv_aload_n hx hb dX6_copy_110 rfl (lv_at hl 0 rfl) ?_
    refine g_getr hx hb hw inG6 hown hK hG hT.lt rfl hT.k (by decide) 10 (by decide) (by rw [hT.m]; decide) (r := (o + 21)) (show gR o 10 = some (o + 21) from (hT.r 10 (by decide)).1) lk47 dX6_copy_111 ?_
    refine lv_aload_n hx hb dX6_copy_114 rfl (lv_at hl 1 rfl) ?_
    refine g_getr hx hb hw inG6 hown hK hG hT1.lt rfl hT1.k (by decide) 10 (by decide) (by rw [hT1.m]; decide) (r := (o1 + 21)) (show gR o1 10 = some (o1 + 21) from (hT1.r 10 (by decide)).1) lk47 dX6_copy_115 ?_
    obtain ⟨P_118, HC_118, HW⟩ := HW
    refine g_callv (g_runV (As := [.ref (ad (o1 + 21))]) (rest := []) ⟨hx, hb, hml, hown, hts⟩ (m_X8_copy l D cy ad h_107 g_107 H.size (o + 21) (show isT (o + 21) from (hT.r 10 (by decide)).2) (o1 + 21) (show isT (o1 + 21) from (hT1.r 10 (by decide)).2) P_118 HC_118) (cwV 1 hts (gd_V (wm4 220 rfl rfl) (wm4 221 rfl rfl) (wm4 222 rfl rfl) (wm1 3 rfl rfl) (wm4 223 rfl rfl)) rfl rfl rfl (by decide +kernel) ⟨Nat.le_of_ble_eq_true rfl, Nat.le_of_ble_eq_true rfl⟩) hK hNw hG ((show isT (o + 21) from (hT.r 10 (by decide)).2).lt) rfl ((show isT (o + 21) from (hT.r 10 (by decide)).2).k) (by decide) rfl rfl hl.1 rfl (lv_room (Nat.le_of_ble_eq_true rfl)) dX6_copy_118 ⟨Nat.zero_le _, Nat.zero_le _⟩) hG (fun h_118 g_118 H locs hq hG => ?_)
    replace HW := HW h_118 g_118 hq
    refine lv_aload_n hx hb dX6_copy_121 rfl (lv_at hl 0 rfl) ?_
    refine g_getr hx hb hw inG6 hown hK hG hT.lt rfl hT.k (by decide) 11 (by decide) (by rw [hT.m]; decide) (r := (o + 23)) (show gR o 11 = some (o + 23) from (hT.r 11 (by decide)).1) lk52 dX6_copy_122 ?_
    refine lv_aload_n hx hb dX6_copy_125 rfl (lv_at hl 1 rfl) ?_
    refine g_getr hx hb hw inG6 hown hK hG hT1.lt rfl hT1.k (by decide) 11 (by decide) (by rw [hT1.m]; decide) (r := (o1 + 23)) (show gR o1 11 = some (o1 + 23) from (hT1.r 11 (by decide)).1) lk52 dX6_copy_126 ?_
    obtain ⟨P_129, HC_129, HW⟩ := HW
    refine g_callv (g_runV (As := [.ref (ad (o1 + 23))]) (rest := []) ⟨hx, hb, hml, hown, hts⟩ (m_X8_copy l D cy ad h_118 g_118 H.size (o + 23) (show isT (o + 23) from (hT.r 11 (by decide)).2) (o1 + 23) (show isT (o1 + 23) from (hT1.r 11 (by decide)).2) P_129 HC_129) (cwV 1 hts (gd_V (wm4 220 rfl rfl) (wm4 221 rfl rfl) (wm4 222 rfl rfl) (wm1 3 rfl rfl) (wm4 223 rfl rfl)) rfl rfl rfl (by decide +kernel) ⟨Nat.le_of_ble_eq_true rfl, Nat.le_of_ble_eq_true rfl⟩) hK hNw hG ((show isT (o + 23) from (hT.r 11 (by decide)).2).lt) rfl ((show isT (o + 23) from (hT.r 11 (by decide)).2).k) (by decide) rfl rfl hl.1 rfl (lv_room (Nat.le_of_ble_eq_true rfl)) dX6_copy_129 ⟨Nat.zero_le _, Nat.zero_le _⟩) hG (fun h_129 g_129 H locs hq hG => ?_)
    replace HW := HW h_129 g_129 hq
    exact W.vret hx hb hr (fun t ht hW => ⟨⟨(h_129, g_129), rfl, HW, g_B ht hG⟩, hG.2.2.F ht⟩) hG.2.2.2.2 dX6_copy_132
  exact E0 _ _ _ hG hl
end
section
-- 03.w08
def b_X6_deniedSayings_4 (o : Nat) (Q : Int32 → HI → HL → Prop) (K4 : Int32 → Int32 → HI → HL → Prop) (x1 : Int32) (x2 : Int32) (h : HI) (g : HL) : Prop :=
  (∃ P_9 : Int32 → HI → HL → Prop, w_X8_rows (o + 5) h g P_9 ∧ ∀ (r_9 : Int32) (h_9 : HI) (g_9 : HL), P_9 r_9 h_9 g_9 → ((r_9 ≤ x2 → Q x1 h_9 g_9) ∧ (¬ r_9 ≤ x2 → (∃ P_22 : Int32 → HI → HL → Prop, w_X8_at (o + 5) x2 (5 : Int32) h_9 g_9 P_22 ∧ ∀ (r_22 : Int32) (h_22 : HI) (g_22 : HL), P_22 r_22 h_22 g_22 → (∀ x1_26 : Int32, x1_26 = (x1 + r_22) → (∀ x2_27 : Int32, x2_27 = (x2 + 1) → K4 x1_26 x2_27 h_22 g_22))))))
def F_X6_deniedSayings_4 (o : Nat) (Q : Int32 → HI → HL → Prop) (K : Int32 × Int32 × HI × HL → Prop) (q : Int32 × Int32 × HI × HL) : Prop := b_X6_deniedSayings_4 o Q (fun x1 x2 h g => K (x1, x2, h, g)) q.1 q.2.1 q.2.2.1 q.2.2.2
def w_X6_deniedSayings (o : Nat) (h : HI) (g : HL) (Q : Int32 → HI → HL → Prop) : Prop :=
  lpE (F_X6_deniedSayings_4 o Q) ((0 : Int32), (0 : Int32), h, g)
set_option maxHeartbeats 8000000 in
set_option maxRecDepth 100000 in
theorem m_X6_deniedSayings (l : Launch) (D : va_G) (cy : Nat → ClassId) (ad : Nat → Nat) (h : HI) (g : HL) (sz : Nat) (o : Nat) (hT : isS o) (Q : Int32 → HI → HL → Prop) (HW : w_X6_deniedSayings o h g Q) : Met l yX6_deniedSayings (wa yX6_deniedSayings cX6_deniedSayings 3 (some .int)) ({ frames := 1, cells := 0, slots := 0, locals := 23 }) (va_Pc [.ref (ad o)] (gI D cy ad h g sz)) (va_Qi (fun (r : Int32) (u : HI × HL) => Q r u.1 u.2) (gB D cy ad sz) (gA ad sz)) 0 0 (gA ad sz) := by
  refine Met.ofW (cc := cX6_deniedSayings) (maxL := 3) (ret := (some .int)) (by decide) rfl ?_
  intro p e s m args below meth c s₁ B hml hv
  obtain ⟨hav, hsz, hP, hK, hD0, hNw⟩ := hv
  have hx := B.exec
  have hb := B.bytes
  have hr := B.returns
  have hts := atoms_spec (ws := (wa yX6_deniedSayings cX6_deniedSayings 3 (some .int))) B.pre
  have hw := wa_hw hts
  have hown : s.vm.findClass RX6 = some m.cls := findClass_of_methodNamed B.named
  have hlocks := B.notSynchronized
  subst hsz
  have hG : gG D cy ad (gA ad s.heap.size) s.heap h g s.heap [] := ⟨hP, gA_self hD0, va_S.rf⟩
  clear hP hD0
  have lk23 := hw (.fieldLink RX6 23 "OldWorks$Shop" "sayings" "LOldWorks$Table;") (wm1 68 rfl rfl)
  rw [show (headSpec (wa yX6_deniedSayings cX6_deniedSayings 3 (some .int)) ({ frames := 1, cells := 0, slots := 0, locals := 23 } : Room)).room = ({ frames := 1, cells := 0, slots := 0, locals := 23 } : Room) from rfl]
  have hl := lv_entry ([.ref (ad o)]) (n := 3) (Nat.le_of_ble_eq_true rfl)
  rw [show entryFrame m args 3 = entryFrame m ([.ref (ad o)] : List Value).toArray 3 from by rw [hav], lg_entry_eq]
  generalize (lg_sl ([.ref (ad o)]) ++ List.replicate (3 - (lg_sl ([.ref (ad o)])).length) Slot.unset).toArray = ls at hl ⊢
  have hl : lv_has ls 3 [(0, .ref (ad o))] := hl
  have L4 : ∀ (n : Nat) (x1 : Int32) (x2 : Int32) (h : HI) (g : HL) (H : Heap) (locs : List Loc) (ls : Array Slot), lpN (F_X6_deniedSayings_4 o Q) n (x1, x2, h, g) → gG D cy ad (gA ad s.heap.size) s.heap h g H locs → lv_has ls 3 [(0, .ref (ad o)), (1, .int x1), (2, .int x2)] → W p l e ({ frames := 1, cells := 0, slots := 0, locals := 23 } : Room) s m args below meth c H locs 0 0 (MQ below (va_Qi (fun (r : Int32) (u : HI × HL) => Q r u.1 u.2) (gB D cy ad s.heap.size) (gA ad s.heap.size)) args s 0 0 (gA ad s.heap.size)) (F0 m 4 ls []) := by
    intro n
    induction n with
    | zero => intro x1 x2 h g H locs ls HW; exact HW.elim
    | succ n ih =>
      intro x1 x2 h g H locs ls HW hG hl
      have HW : b_X6_deniedSayings_4 o Q (fun x1 x2 h g => lpN (F_X6_deniedSayings_4 o Q) n (x1, x2, h, g)) x1 x2 h g := HW
      generalize hKe : (fun (x1 : Int32) (x2 : Int32) (h : HI) (g : HL) => lpN (F_X6_deniedSayings_4 o Q) n (x1, x2, h, g)) = K4 at HW
      have hK4 : ∀ (x1 : Int32) (x2 : Int32) (h : HI) (g : HL) (H : Heap) (locs : List Loc) (ls : Array Slot), K4 x1 x2 h g → gG D cy ad (gA ad s.heap.size) s.heap h g H locs → lv_has ls 3 [(0, .ref (ad o)), (1, .int x1), (2, .int x2)] → W p l e ({ frames := 1, cells := 0, slots := 0, locals := 23 } : Room) s m args below meth c H locs 0 0 (MQ below (va_Qi (fun (r : Int32) (u : HI × HL) => Q r u.1 u.2) (gB D cy ad s.heap.size) (gA ad s.heap.size)) args s 0 0 (gA ad s.heap.size)) (F0 m 4 ls []) := by subst hKe; exact ih
      clear ih
      clear hKe
      unfold b_X6_deniedSayings_4 at HW
      refine lv_iload_n hx hb dX6_deniedSayings_4 rfl (lv_at hl 2 rfl) ?_
      refine lv_aload_n hx hb dX6_deniedSayings_5 rfl (lv_at hl 0 rfl) ?_
      refine g_getr hx hb hw inG6 hown hK hG hT.lt rfl hT.k (by decide) 2 (by decide) (by rw [hT.m]; decide) (r := (o + 5)) (show gR o 2 = some (o + 5) from (hT.r 2 (by decide)).1) lk23 dX6_deniedSayings_6 ?_
      obtain ⟨P_9, HC_9, HW⟩ := HW
      refine g_calli (g_runV (As := []) (rest := [.int x2]) ⟨hx, hb, hml, hown, hts⟩ (m_X8_rows l D cy ad h g H.size (o + 5) (show isT (o + 5) from (hT.r 2 (by decide)).2) P_9 HC_9) (cwV 0 hts (gd_V (wm4 237 rfl rfl) (wm2 217 rfl rfl) (wm2 218 rfl rfl) (wm1 3 rfl rfl) (wm2 219 rfl rfl)) rfl rfl rfl (by decide +kernel) ⟨Nat.le_of_ble_eq_true rfl, Nat.le_of_ble_eq_true rfl⟩) hK hNw hG ((show isT (o + 5) from (hT.r 2 (by decide)).2).lt) rfl ((show isT (o + 5) from (hT.r 2 (by decide)).2).k) (by decide) rfl rfl hl.1 rfl (lv_room (Nat.le_of_ble_eq_true rfl)) dX6_deniedSayings_9 ⟨Nat.zero_le _, Nat.zero_le _⟩) hG (fun r_9 h_9 g_9 H locs hq hG => ?_)
      replace HW := HW r_9 h_9 g_9 hq
      refine lv_icmp_ge (tgt := 33) hx hb dX6_deniedSayings_12 (by decide) (fun c_12 => ?_) (fun c_12 => ?_)
      · replace HW := HW.1 c_12
        refine lv_iload_n hx hb dX6_deniedSayings_33 rfl (lv_at hl 1 rfl) ?_
        exact W.iret (v := x1) hx hb hr (fun t ht hW => ⟨⟨x1, (h_9, g_9), rfl, HW, g_B ht hG⟩, hG.2.2.F ht⟩) hG.2.2.2.2 dX6_deniedSayings_34
      · replace HW := HW.2 c_12
        refine lv_iload_n hx hb dX6_deniedSayings_15 rfl (lv_at hl 1 rfl) ?_
        refine lv_aload_n hx hb dX6_deniedSayings_16 rfl (lv_at hl 0 rfl) ?_
        refine g_getr hx hb hw inG6 hown hK hG hT.lt rfl hT.k (by decide) 2 (by decide) (by rw [hT.m]; decide) (r := (o + 5)) (show gR o 2 = some (o + 5) from (hT.r 2 (by decide)).1) lk23 dX6_deniedSayings_17 ?_
        refine lv_iload_n hx hb dX6_deniedSayings_20 rfl (lv_at hl 2 rfl) ?_
        refine lv_iconst (v := 5) hx hb dX6_deniedSayings_21 (by decide) ?_
        obtain ⟨P_22, HC_22, HW⟩ := HW
        refine g_calli (g_runV (As := [.int x2, .int (5 : Int32)]) (rest := [.int x1]) ⟨hx, hb, hml, hown, hts⟩ (m_X8_at l D cy ad h_9 g_9 H.size (o + 5) (show isT (o + 5) from (hT.r 2 (by decide)).2) x2 (5 : Int32) P_22 HC_22) (cwV 2 hts (gd_V (wm3 143 rfl rfl) (wm2 221 rfl rfl) (wm2 222 rfl rfl) (wm1 3 rfl rfl) (wm2 223 rfl rfl)) rfl rfl rfl (by decide +kernel) ⟨Nat.le_of_ble_eq_true rfl, Nat.le_of_ble_eq_true rfl⟩) hK hNw hG ((show isT (o + 5) from (hT.r 2 (by decide)).2).lt) rfl ((show isT (o + 5) from (hT.r 2 (by decide)).2).k) (by decide) rfl rfl hl.1 rfl (lv_room (Nat.le_of_ble_eq_true rfl)) dX6_deniedSayings_22 ⟨Nat.zero_le _, Nat.zero_le _⟩) hG (fun r_22 h_22 g_22 H locs hq hG => ?_)
        replace HW := HW r_22 h_22 g_22 hq
        refine lv_iadd hx hb dX6_deniedSayings_25 ?_
        refine lv_topi (fun x1_26 ex1_26 => ?_)
        replace HW := HW x1_26 ex1_26
        refine lv_istore_n (lv' := [(1, .int x1_26), (0, .ref (ad o)), (2, .int x2)]) hx hb dX6_deniedSayings_26 rfl hl (by decide) rfl (fun ls hl => ?_)
        obtain ⟨x2_27, ex2_27⟩ : ∃ y : Int32, y = (x2 + 1) := ⟨_, rfl⟩
        replace HW := HW x2_27 ex2_27
        refine lv_iinc (v := x2_27) (lv' := [(2, .int x2_27), (1, .int x1_26), (0, .ref (ad o))]) hx hb dX6_deniedSayings_27 hl (k := 2) rfl (by rw [ex2_27]; rfl) (by decide) rfl (fun ls hl => ?_)
        refine lv_goto (tgt := 4) hx hb dX6_deniedSayings_30 (by decide) ?_
        exact hK4 x1_26 x2_27 h_22 g_22 _ _ _ HW hG (lv_sub hl [2, 1, 0] rfl)
  have E0 : ∀ (H : Heap) (locs : List Loc) (ls : Array Slot), gG D cy ad (gA ad s.heap.size) s.heap h g H locs → lv_has ls 3 [(0, .ref (ad o))] → W p l e ({ frames := 1, cells := 0, slots := 0, locals := 23 } : Room) s m args below meth c H locs 0 0 (MQ below (va_Qi (fun (r : Int32) (u : HI × HL) => Q r u.1 u.2) (gB D cy ad s.heap.size) (gA ad s.heap.size)) args s 0 0 (gA ad s.heap.size)) (F0 m 0 ls []) := by
    intro H locs ls hG hl
    unfold w_X6_deniedSayings at HW
    refine lv_iconst (v := 0) hx hb dX6_deniedSayings_0 (by decide) ?_
    refine lv_istore_n (lv' := [(1, .int (0 : Int32)), (0, .ref (ad o))]) hx hb dX6_deniedSayings_1 rfl hl (by decide) rfl (fun ls hl => ?_)
    refine lv_iconst (v := 0) hx hb dX6_deniedSayings_2 (by decide) ?_
    refine lv_istore_n (lv' := [(2, .int (0 : Int32)), (1, .int (0 : Int32)), (0, .ref (ad o))]) hx hb dX6_deniedSayings_3 rfl hl (by decide) rfl (fun ls hl => ?_)
    obtain ⟨n_4, HW⟩ := HW
    exact L4 n_4 (0 : Int32) (0 : Int32) h g _ _ _ HW hG (lv_sub hl [2, 1, 0] rfl)
  exact E0 _ _ _ hG hl

def b_X6_isIn_13 (o : Nat) (Q : Int32 → HI → HL → Prop) (K13 : Int32 → Int32 → Int32 → Int32 → HI → HL → Prop) (x1 : Int32) (x2 : Int32) (x3 : Int32) (x4 : Int32) (h : HI) (g : HL) : Prop :=
  ((x3 ≤ x4 → Q (0 : Int32) h g) ∧ (¬ x3 ≤ x4 → (∃ P_30 : Int32 → HI → HL → Prop, w_X8_at (o + 7) x1 ((3 : Int32) + ((2 : Int32) * x4)) h g P_30 ∧ ∀ (r_30 : Int32) (h_30 : HI) (g_30 : HL), P_30 r_30 h_30 g_30 → ((¬ r_30 = x2 → (∀ x4_39 : Int32, x4_39 = (x4 + 1) → K13 x1 x2 x3 x4_39 h_30 g_30)) ∧ (r_30 = x2 → Q (1 : Int32) h_30 g_30)))))
def F_X6_isIn_13 (o : Nat) (Q : Int32 → HI → HL → Prop) (K : Int32 × Int32 × Int32 × Int32 × HI × HL → Prop) (q : Int32 × Int32 × Int32 × Int32 × HI × HL) : Prop := b_X6_isIn_13 o Q (fun x1 x2 x3 x4 h g => K (x1, x2, x3, x4, h, g)) q.1 q.2.1 q.2.2.1 q.2.2.2.1 q.2.2.2.2.1 q.2.2.2.2.2
def w_X6_isIn (o : Nat) (x1 : Int32) (x2 : Int32) (h : HI) (g : HL) (Q : Int32 → HI → HL → Prop) : Prop :=
  (∃ P_6 : Int32 → HI → HL → Prop, w_X8_at (o + 7) x1 (2 : Int32) h g P_6 ∧ ∀ (r_6 : Int32) (h_6 : HI) (g_6 : HL), P_6 r_6 h_6 g_6 → lpE (F_X6_isIn_13 o Q) (x1, x2, r_6, (0 : Int32), h_6, g_6))
set_option maxHeartbeats 8000000 in
set_option maxRecDepth 100000 in
theorem m_X6_isIn (l : Launch) (D : va_G) (cy : Nat → ClassId) (ad : Nat → Nat) (h : HI) (g : HL) (sz : Nat) (o : Nat) (hT : isS o) (x1 : Int32) (x2 : Int32) (Q : Int32 → HI → HL → Prop) (HW : w_X6_isIn o x1 x2 h g Q) : Met l yX6_isIn (wa yX6_isIn cX6_isIn 5 (some .boolean)) ({ frames := 1, cells := 0, slots := 0, locals := 23 }) (va_Pc [.ref (ad o), .int x1, .int x2] (gI D cy ad h g sz)) (va_Qi (fun (r : Int32) (u : HI × HL) => zb r ∧ Q r u.1 u.2) (gB D cy ad sz) (gA ad sz)) 0 0 (gA ad sz) := by
  refine Met.ofW (cc := cX6_isIn) (maxL := 5) (ret := (some .boolean)) (by decide) rfl ?_
  intro p e s m args below meth c s₁ B hml hv
  obtain ⟨hav, hsz, hP, hK, hD0, hNw⟩ := hv
  have hx := B.exec
  have hb := B.bytes
  have hr := B.returns
  have hts := atoms_spec (ws := (wa yX6_isIn cX6_isIn 5 (some .boolean))) B.pre
  have hw := wa_hw hts
  have hown : s.vm.findClass RX6 = some m.cls := findClass_of_methodNamed B.named
  have hlocks := B.notSynchronized
  subst hsz
  have hG : gG D cy ad (gA ad s.heap.size) s.heap h g s.heap [] := ⟨hP, gA_self hD0, va_S.rf⟩
  clear hP hD0
  have lk26 := hw (.fieldLink RX6 26 "OldWorks$Shop" "chains" "LOldWorks$Table;") (wm1 71 rfl rfl)
  rw [show (headSpec (wa yX6_isIn cX6_isIn 5 (some .boolean)) ({ frames := 1, cells := 0, slots := 0, locals := 23 } : Room)).room = ({ frames := 1, cells := 0, slots := 0, locals := 23 } : Room) from rfl]
  have hl := lv_entry ([.ref (ad o), .int x1, .int x2]) (n := 5) (Nat.le_of_ble_eq_true rfl)
  rw [show entryFrame m args 5 = entryFrame m ([.ref (ad o), .int x1, .int x2] : List Value).toArray 5 from by rw [hav], lg_entry_eq]
  generalize (lg_sl ([.ref (ad o), .int x1, .int x2]) ++ List.replicate (5 - (lg_sl ([.ref (ad o), .int x1, .int x2])).length) Slot.unset).toArray = ls at hl ⊢
  have hl : lv_has ls 5 [(0, .ref (ad o)), (1, .int x1), (2, .int x2)] := hl
  have L13 : ∀ (n : Nat) (x1 : Int32) (x2 : Int32) (x3 : Int32) (x4 : Int32) (h : HI) (g : HL) (H : Heap) (locs : List Loc) (ls : Array Slot), lpN (F_X6_isIn_13 o Q) n (x1, x2, x3, x4, h, g) → gG D cy ad (gA ad s.heap.size) s.heap h g H locs → lv_has ls 5 [(0, .ref (ad o)), (1, .int x1), (2, .int x2), (3, .int x3), (4, .int x4)] → W p l e ({ frames := 1, cells := 0, slots := 0, locals := 23 } : Room) s m args below meth c H locs 0 0 (MQ below (va_Qi (fun (r : Int32) (u : HI × HL) => zb r ∧ Q r u.1 u.2) (gB D cy ad s.heap.size) (gA ad s.heap.size)) args s 0 0 (gA ad s.heap.size)) (F0 m 13 ls []) := by
    intro n
    induction n with
    | zero => intro x1 x2 x3 x4 h g H locs ls HW; exact HW.elim
    | succ n ih =>
      intro x1 x2 x3 x4 h g H locs ls HW hG hl
      have HW : b_X6_isIn_13 o Q (fun x1 x2 x3 x4 h g => lpN (F_X6_isIn_13 o Q) n (x1, x2, x3, x4, h, g)) x1 x2 x3 x4 h g := HW
      generalize hKe : (fun (x1 : Int32) (x2 : Int32) (x3 : Int32) (x4 : Int32) (h : HI) (g : HL) => lpN (F_X6_isIn_13 o Q) n (x1, x2, x3, x4, h, g)) = K13 at HW
      have hK13 : ∀ (x1 : Int32) (x2 : Int32) (x3 : Int32) (x4 : Int32) (h : HI) (g : HL) (H : Heap) (locs : List Loc) (ls : Array Slot), K13 x1 x2 x3 x4 h g → gG D cy ad (gA ad s.heap.size) s.heap h g H locs → lv_has ls 5 [(0, .ref (ad o)), (1, .int x1), (2, .int x2), (3, .int x3), (4, .int x4)] → W p l e ({ frames := 1, cells := 0, slots := 0, locals := 23 } : Room) s m args below meth c H locs 0 0 (MQ below (va_Qi (fun (r : Int32) (u : HI × HL) => zb r ∧ Q r u.1 u.2) (gB D cy ad s.heap.size) (gA ad s.heap.size)) args s 0 0 (gA ad s.heap.size)) (F0 m 13 ls []) := by subst hKe; exact ih
      clear ih
      clear hKe
      unfold b_X6_isIn_13 at HW
      refine lv_iload hx hb dX6_isIn_13 (lv_at hl 4 rfl) ?_
      refine lv_iload_n hx hb dX6_isIn_15 rfl (lv_at hl 3 rfl) ?_
      refine lv_icmp_ge (tgt := 45) hx hb dX6_isIn_16 (by decide) (fun c_16 => ?_) (fun c_16 => ?_)
      · replace HW := HW.1 c_16
        refine lv_iconst (v := 0) hx hb dX6_isIn_45 (by decide) ?_
        exact W.zret (v := (0 : Int32)) hx hb hr rfl (fun t ht hW => ⟨⟨(0 : Int32), (h, g), rfl, ⟨Or.inl rfl, HW⟩, g_B ht hG⟩, hG.2.2.F ht⟩) hG.2.2.2.2 dX6_isIn_46
      · replace HW := HW.2 c_16
        refine lv_aload_n hx hb dX6_isIn_19 rfl (lv_at hl 0 rfl) ?_
        refine g_getr hx hb hw inG6 hown hK hG hT.lt rfl hT.k (by decide) 3 (by decide) (by rw [hT.m]; decide) (r := (o + 7)) (show gR o 3 = some (o + 7) from (hT.r 3 (by decide)).1) lk26 dX6_isIn_20 ?_
        refine lv_iload_n hx hb dX6_isIn_23 rfl (lv_at hl 1 rfl) ?_
        refine lv_iconst (v := 3) hx hb dX6_isIn_24 (by decide) ?_
        refine lv_iconst (v := 2) hx hb dX6_isIn_25 (by decide) ?_
        refine lv_iload hx hb dX6_isIn_26 (lv_at hl 4 rfl) ?_
        refine lv_imul hx hb dX6_isIn_28 ?_
        refine lv_iadd hx hb dX6_isIn_29 ?_
        obtain ⟨P_30, HC_30, HW⟩ := HW
        refine g_calli (g_runV (As := [.int x1, .int ((3 : Int32) + ((2 : Int32) * x4))]) (rest := []) ⟨hx, hb, hml, hown, hts⟩ (m_X8_at l D cy ad h g H.size (o + 7) (show isT (o + 7) from (hT.r 3 (by decide)).2) x1 ((3 : Int32) + ((2 : Int32) * x4)) P_30 HC_30) (cwV 2 hts (gd_V (wm3 143 rfl rfl) (wm2 221 rfl rfl) (wm2 222 rfl rfl) (wm1 3 rfl rfl) (wm2 223 rfl rfl)) rfl rfl rfl (by decide +kernel) ⟨Nat.le_of_ble_eq_true rfl, Nat.le_of_ble_eq_true rfl⟩) hK hNw hG ((show isT (o + 7) from (hT.r 3 (by decide)).2).lt) rfl ((show isT (o + 7) from (hT.r 3 (by decide)).2).k) (by decide) rfl rfl hl.1 rfl (lv_room (Nat.le_of_ble_eq_true rfl)) dX6_isIn_30 ⟨Nat.zero_le _, Nat.zero_le _⟩) hG (fun r_30 h_30 g_30 H locs hq hG => ?_)
        replace HW := HW r_30 h_30 g_30 hq
        refine lv_iload_n hx hb dX6_isIn_33 rfl (lv_at hl 2 rfl) ?_
        refine lv_icmp_ne (tgt := 39) hx hb dX6_isIn_34 (by decide) (fun c_34 => ?_) (fun c_34 => ?_)
        · replace HW := HW.1 c_34
          obtain ⟨x4_39, ex4_39⟩ : ∃ y : Int32, y = (x4 + 1) := ⟨_, rfl⟩
          replace HW := HW x4_39 ex4_39
          refine lv_iinc (v := x4_39) (lv' := [(4, .int x4_39), (0, .ref (ad o)), (1, .int x1), (2, .int x2), (3, .int x3)]) hx hb dX6_isIn_39 hl (k := 4) rfl (by rw [ex4_39]; rfl) (by decide) rfl (fun ls hl => ?_)
          refine lv_goto (tgt := 13) hx hb dX6_isIn_42 (by decide) ?_
          exact hK13 x1 x2 x3 x4_39 h_30 g_30 _ _ _ HW hG (lv_sub hl [1, 2, 3, 4, 0] rfl)
        · replace HW := HW.2 c_34
          refine lv_iconst (v := 1) hx hb dX6_isIn_37 (by decide) ?_
          exact W.zret (v := (1 : Int32)) hx hb hr rfl (fun t ht hW => ⟨⟨(1 : Int32), (h_30, g_30), rfl, ⟨Or.inr rfl, HW⟩, g_B ht hG⟩, hG.2.2.F ht⟩) hG.2.2.2.2 dX6_isIn_38
  have E0 : ∀ (H : Heap) (locs : List Loc) (ls : Array Slot), gG D cy ad (gA ad s.heap.size) s.heap h g H locs → lv_has ls 5 [(0, .ref (ad o)), (1, .int x1), (2, .int x2)] → W p l e ({ frames := 1, cells := 0, slots := 0, locals := 23 } : Room) s m args below meth c H locs 0 0 (MQ below (va_Qi (fun (r : Int32) (u : HI × HL) => zb r ∧ Q r u.1 u.2) (gB D cy ad s.heap.size) (gA ad s.heap.size)) args s 0 0 (gA ad s.heap.size)) (F0 m 0 ls []) := by
    intro H locs ls hG hl
    unfold w_X6_isIn at HW
    refine lv_aload_n hx hb dX6_isIn_0 rfl (lv_at hl 0 rfl) ?_
    refine g_getr hx hb hw inG6 hown hK hG hT.lt rfl hT.k (by decide) 3 (by decide) (by rw [hT.m]; decide) (r := (o + 7)) (show gR o 3 = some (o + 7) from (hT.r 3 (by decide)).1) lk26 dX6_isIn_1 ?_
    refine lv_iload_n hx hb dX6_isIn_4 rfl (lv_at hl 1 rfl) ?_
    refine lv_iconst (v := 2) hx hb dX6_isIn_5 (by decide) ?_
    obtain ⟨P_6, HC_6, HW⟩ := HW
    refine g_calli (g_runV (As := [.int x1, .int (2 : Int32)]) (rest := []) ⟨hx, hb, hml, hown, hts⟩ (m_X8_at l D cy ad h g H.size (o + 7) (show isT (o + 7) from (hT.r 3 (by decide)).2) x1 (2 : Int32) P_6 HC_6) (cwV 2 hts (gd_V (wm3 143 rfl rfl) (wm2 221 rfl rfl) (wm2 222 rfl rfl) (wm1 3 rfl rfl) (wm2 223 rfl rfl)) rfl rfl rfl (by decide +kernel) ⟨Nat.le_of_ble_eq_true rfl, Nat.le_of_ble_eq_true rfl⟩) hK hNw hG ((show isT (o + 7) from (hT.r 3 (by decide)).2).lt) rfl ((show isT (o + 7) from (hT.r 3 (by decide)).2).k) (by decide) rfl rfl hl.1 rfl (lv_room (Nat.le_of_ble_eq_true rfl)) dX6_isIn_6 ⟨Nat.zero_le _, Nat.zero_le _⟩) hG (fun r_6 h_6 g_6 H locs hq hG => ?_)
    replace HW := HW r_6 h_6 g_6 hq
    refine lv_istore_n (lv' := [(3, .int r_6), (0, .ref (ad o)), (1, .int x1), (2, .int x2)]) hx hb dX6_isIn_9 rfl hl (by decide) rfl (fun ls hl => ?_)
    refine lv_iconst (v := 0) hx hb dX6_isIn_10 (by decide) ?_
    refine lv_istore (lv' := [(4, .int (0 : Int32)), (3, .int r_6), (0, .ref (ad o)), (1, .int x1), (2, .int x2)]) hx hb dX6_isIn_11 hl (by decide) rfl (fun ls hl => ?_)
    obtain ⟨n_13, HW⟩ := HW
    exact L13 n_13 x1 x2 r_6 (0 : Int32) h_6 g_6 _ _ _ HW hG (lv_sub hl [2, 3, 4, 1, 0] rfl)
  exact E0 _ _ _ hG hl

def w_X7_answer (x1 : Int32) (h : HI) (g : HL) (Q : Int32 → HI → HL → Prop) : Prop :=
  ((¬ x1 = 0 → ((¬ x1 = (1 : Int32) → Q (h 81 11) h g) ∧ (x1 = (1 : Int32) → Q (h 81 10) h g))) ∧ (x1 = 0 → Q (h 81 9) h g))
set_option maxHeartbeats 8000000 in
set_option maxRecDepth 100000 in
theorem m_X7_answer (l : Launch) (D : va_G) (cy : Nat → ClassId) (ad : Nat → Nat) (h : HI) (g : HL) (sz : Nat) (x1 : Int32) (Q : Int32 → HI → HL → Prop) (HW : w_X7_answer x1 h g Q) : Met l yX7_answer (wa yX7_answer cX7_answer 2 (some .int)) ({ frames := 0, cells := 0, slots := 0, locals := 0 }) (va_Pc [.ref (ad 81), .int x1] (gI D cy ad h g sz)) (va_Qi (fun (r : Int32) (u : HI × HL) => Q r u.1 u.2) (gB D cy ad sz) (gA ad sz)) 0 0 (gA ad sz) := by
  refine Met.ofW (cc := cX7_answer) (maxL := 2) (ret := (some .int)) (by decide) rfl ?_
  intro p e s m args below meth c s₁ B hml hv
  obtain ⟨hav, hsz, hP, hK, hD0, hNw⟩ := hv
  have hx := B.exec
  have hb := B.bytes
  have hr := B.returns
  have hts := atoms_spec (ws := (wa yX7_answer cX7_answer 2 (some .int))) B.pre
  have hw := wa_hw hts
  have hown : s.vm.findClass RX7 = some m.cls := findClass_of_methodNamed B.named
  have hlocks := B.notSynchronized
  subst hsz
  have hG : gG D cy ad (gA ad s.heap.size) s.heap h g s.heap [] := ⟨hP, gA_self hD0, va_S.rf⟩
  clear hP hD0
  have lk98 := hw (.fieldLink RX7 98 "OldWorks$Sizes" "many" "I") (wm1 182 rfl rfl)
  have lk104 := hw (.fieldLink RX7 104 "OldWorks$Sizes" "greatest" "I") (wm1 180 rfl rfl)
  have lk101 := hw (.fieldLink RX7 101 "OldWorks$Sizes" "least" "I") (wm1 178 rfl rfl)
  rw [show (headSpec (wa yX7_answer cX7_answer 2 (some .int)) ({ frames := 0, cells := 0, slots := 0, locals := 0 } : Room)).room = ({ frames := 0, cells := 0, slots := 0, locals := 0 } : Room) from rfl]
  have hl := lv_entry ([.ref (ad 81), .int x1]) (n := 2) (Nat.le_of_ble_eq_true rfl)
  rw [show entryFrame m args 2 = entryFrame m ([.ref (ad 81), .int x1] : List Value).toArray 2 from by rw [hav], lg_entry_eq]
  generalize (lg_sl ([.ref (ad 81), .int x1]) ++ List.replicate (2 - (lg_sl ([.ref (ad 81), .int x1])).length) Slot.unset).toArray = ls at hl ⊢
  have hl : lv_has ls 2 [(0, .ref (ad 81)), (1, .int x1)] := hl
  have E0 : ∀ (H : Heap) (locs : List Loc) (ls : Array Slot), gG D cy ad (gA ad s.heap.size) s.heap h g H locs → lv_has ls 2 [(0, .ref (ad 81)), (1, .int x1)] → W p l e ({ frames := 0, cells := 0, slots := 0, locals := 0 } : Room) s m args below meth c H locs 0 0 (MQ below (va_Qi (fun (r : Int32) (u : HI × HL) => Q r u.1 u.2) (gB D cy ad s.heap.size) (gA ad s.heap.size)) args s 0 0 (gA ad s.heap.size)) (F0 m 0 ls []) := by
    intro H locs ls hG hl
    unfold w_X7_answer at HW
    refine lv_iload_n hx hb dX7_answer_0 rfl (lv_at hl 1 rfl) ?_
    refine lv_if_ne (tgt := 11) hx hb dX7_answer_1 (by decide) (fun c_1 => ?_) (fun c_1 => ?_)
    · replace HW := HW.1 c_1
      refine lv_iload_n hx hb dX7_answer_11 rfl (lv_at hl 1 rfl) ?_
      refine lv_iconst (v := 1) hx hb dX7_answer_12 (by decide) ?_
      refine lv_icmp_ne (tgt := 23) hx hb dX7_answer_13 (by decide) (fun c_13 => ?_) (fun c_13 => ?_)
      · replace HW := HW.1 c_13
        refine lv_aload_n hx hb dX7_answer_23 rfl (lv_at hl 0 rfl) ?_
        refine g_geti hx hb hw inG7 hown hK hG gl_81 rfl gk_81 (by decide) 11 (by decide) (by rw [gm_81]; decide) gr_81_11 lk98 dX7_answer_24 ?_
        exact W.iret (v := (h 81 11)) hx hb hr (fun t ht hW => ⟨⟨(h 81 11), (h, g), rfl, HW, g_B ht hG⟩, hG.2.2.F ht⟩) hG.2.2.2.2 dX7_answer_27
      · replace HW := HW.2 c_13
        refine lv_aload_n hx hb dX7_answer_16 rfl (lv_at hl 0 rfl) ?_
        refine g_geti hx hb hw inG7 hown hK hG gl_81 rfl gk_81 (by decide) 10 (by decide) (by rw [gm_81]; decide) gr_81_10 lk104 dX7_answer_17 ?_
        refine lv_goto (tgt := 27) hx hb dX7_answer_20 (by decide) ?_
        exact W.iret (v := (h 81 10)) hx hb hr (fun t ht hW => ⟨⟨(h 81 10), (h, g), rfl, HW, g_B ht hG⟩, hG.2.2.F ht⟩) hG.2.2.2.2 dX7_answer_27
    · replace HW := HW.2 c_1
      refine lv_aload_n hx hb dX7_answer_4 rfl (lv_at hl 0 rfl) ?_
      refine g_geti hx hb hw inG7 hown hK hG gl_81 rfl gk_81 (by decide) 9 (by decide) (by rw [gm_81]; decide) gr_81_9 lk101 dX7_answer_5 ?_
      refine lv_goto (tgt := 27) hx hb dX7_answer_8 (by decide) ?_
      exact W.iret (v := (h 81 9)) hx hb hr (fun t ht hW => ⟨⟨(h 81 9), (h, g), rfl, HW, g_B ht hG⟩, hG.2.2.F ht⟩) hG.2.2.2.2 dX7_answer_27
  exact E0 _ _ _ hG hl

def j_X7_denies_42 (Q : Int32 → HI → HL → Prop) (h : HI) (g : HL) : Prop :=
  Q (1 : Int32) h g
def w_X7_denies (x1 : Int32) (x2 : Int32) (h : HI) (g : HL) (Q : Int32 → HI → HL → Prop) : Prop :=
  ((x1 < 0 → Q (0 : Int32) h g) ∧ (¬ x1 < 0 → (((60 : Int32) ≤ x1 → Q (0 : Int32) h g) ∧ (¬ (60 : Int32) ≤ x1 → (((60 : Int32) ≤ x1 → Q (0 : Int32) h g) ∧ (¬ (60 : Int32) ≤ x1 → (vp_in x1 60 ∧ ((x2 < (h 82 x1.toNatClampNeg) → j_X7_denies_42 Q h g) ∧ (¬ x2 < (h 82 x1.toNatClampNeg) → (vp_in x1 60 ∧ ((x2 ≤ (h 83 x1.toNatClampNeg) → Q (0 : Int32) h g) ∧ (¬ x2 ≤ (h 83 x1.toNatClampNeg) → j_X7_denies_42 Q h g))))))))))))
set_option maxHeartbeats 8000000 in
set_option maxRecDepth 100000 in
theorem m_X7_denies (l : Launch) (D : va_G) (cy : Nat → ClassId) (ad : Nat → Nat) (h : HI) (g : HL) (sz : Nat) (x1 : Int32) (x2 : Int32) (Q : Int32 → HI → HL → Prop) (HW : w_X7_denies x1 x2 h g Q) : Met l yX7_denies (wa yX7_denies cX7_denies 3 (some .boolean)) ({ frames := 0, cells := 0, slots := 0, locals := 0 }) (va_Pc [.ref (ad 81), .int x1, .int x2] (gI D cy ad h g sz)) (va_Qi (fun (r : Int32) (u : HI × HL) => zb r ∧ Q r u.1 u.2) (gB D cy ad sz) (gA ad sz)) 0 0 (gA ad sz) := by
  refine Met.ofW (cc := cX7_denies) (maxL := 3) (ret := (some .boolean)) (by decide) rfl ?_
  intro p e s m args below meth c s₁ B hml hv
  obtain ⟨hav, hsz, hP, hK, hD0, hNw⟩ := hv
  have hx := B.exec
  have hb := B.bytes
  have hr := B.returns
  have hts := atoms_spec (ws := (wa yX7_denies cX7_denies 3 (some .boolean))) B.pre
  have hw := wa_hw hts
  have hown : s.vm.findClass RX7 = some m.cls := findClass_of_methodNamed B.named
  have hlocks := B.notSynchronized
  subst hsz
  have hG : gG D cy ad (gA ad s.heap.size) s.heap h g s.heap [] := ⟨hP, gA_self hD0, va_S.rf⟩
  clear hP hD0
  have lk19 := hw (.fieldLink RX7 19 "OldWorks$Sizes" "lows" "[I") (wm1 170 rfl rfl)
  have lk23 := hw (.fieldLink RX7 23 "OldWorks$Sizes" "highs" "[I") (wm1 171 rfl rfl)
  rw [show (headSpec (wa yX7_denies cX7_denies 3 (some .boolean)) ({ frames := 0, cells := 0, slots := 0, locals := 0 } : Room)).room = ({ frames := 0, cells := 0, slots := 0, locals := 0 } : Room) from rfl]
  have hl := lv_entry ([.ref (ad 81), .int x1, .int x2]) (n := 3) (Nat.le_of_ble_eq_true rfl)
  rw [show entryFrame m args 3 = entryFrame m ([.ref (ad 81), .int x1, .int x2] : List Value).toArray 3 from by rw [hav], lg_entry_eq]
  generalize (lg_sl ([.ref (ad 81), .int x1, .int x2]) ++ List.replicate (3 - (lg_sl ([.ref (ad 81), .int x1, .int x2])).length) Slot.unset).toArray = ls at hl ⊢
  have hl : lv_has ls 3 [(0, .ref (ad 81)), (1, .int x1), (2, .int x2)] := hl
  have B42 : ∀ (h : HI) (g : HL) (H : Heap) (locs : List Loc) (ls : Array Slot), j_X7_denies_42 Q h g → gG D cy ad (gA ad s.heap.size) s.heap h g H locs → lv_has ls 3 [] → W p l e ({ frames := 0, cells := 0, slots := 0, locals := 0 } : Room) s m args below meth c H locs 0 0 (MQ below (va_Qi (fun (r : Int32) (u : HI × HL) => zb r ∧ Q r u.1 u.2) (gB D cy ad s.heap.size) (gA ad s.heap.size)) args s 0 0 (gA ad s.heap.size)) (F0 m 42 ls []) := by
    intro  h g H locs ls HW hG hl
    unfold j_X7_denies_42 at HW
    refine lv_iconst (v := 1) hx hb dX7_denies_42 (by decide) ?_
    refine lv_goto (tgt := 47) hx hb dX7_denies_43 (by decide) ?_
    exact W.zret (v := (1 : Int32)) hx hb hr rfl (fun t ht hW => ⟨⟨(1 : Int32), (h, g), rfl, ⟨Or.inr rfl, HW⟩, g_B ht hG⟩, hG.2.2.F ht⟩) hG.2.2.2.2 dX7_denies_47
  have E0 : ∀ (H : Heap) (locs : List Loc) (ls : Array Slot), gG D cy ad (gA ad s.heap.size) s.heap h g H locs → lv_has ls 3 [(0, .ref (ad 81)), (1, .int x1), (2, .int x2)] → W p l e ({ frames := 0, cells := 0, slots := 0, locals := 0 } : Room) s m args below meth c H locs 0 0 (MQ below (va_Qi (fun (r : Int32) (u : HI × HL) => zb r ∧ Q r u.1 u.2) (gB D cy ad s.heap.size) (gA ad s.heap.size)) args s 0 0 (gA ad s.heap.size)) (F0 m 0 ls []) := by
    intro H locs ls hG hl
    unfold w_X7_denies at HW
    refine lv_iload_n hx hb dX7_denies_0 rfl (lv_at hl 1 rfl) ?_
    refine lv_if_lt (tgt := 46) hx hb dX7_denies_1 (by decide) (fun c_1 => ?_) (fun c_1 => ?_)
    · replace HW := HW.1 c_1
      refine lv_iconst (v := 0) hx hb dX7_denies_46 (by decide) ?_
      exact W.zret (v := (0 : Int32)) hx hb hr rfl (fun t ht hW => ⟨⟨(0 : Int32), (h, g), rfl, ⟨Or.inl rfl, HW⟩, g_B ht hG⟩, hG.2.2.F ht⟩) hG.2.2.2.2 dX7_denies_47
    · replace HW := HW.2 c_1
      refine lv_iload_n hx hb dX7_denies_4 rfl (lv_at hl 1 rfl) ?_
      refine lv_aload_n hx hb dX7_denies_5 rfl (lv_at hl 0 rfl) ?_
      refine g_getr hx hb hw inG7 hown hK hG gl_81 rfl gk_81 (by decide) 2 (by decide) (by rw [gm_81]; decide) (r := 82) gr_81_2 lk19 dX7_denies_6 ?_
      refine g_alen hx hb hK hG gl_82 gk_82 (v := (60 : Int32)) (by rw [gn_82]; decide) dX7_denies_9 ?_
      refine lv_icmp_ge (tgt := 46) hx hb dX7_denies_10 (by decide) (fun c_10 => ?_) (fun c_10 => ?_)
      · replace HW := HW.1 c_10
        refine lv_iconst (v := 0) hx hb dX7_denies_46 (by decide) ?_
        exact W.zret (v := (0 : Int32)) hx hb hr rfl (fun t ht hW => ⟨⟨(0 : Int32), (h, g), rfl, ⟨Or.inl rfl, HW⟩, g_B ht hG⟩, hG.2.2.F ht⟩) hG.2.2.2.2 dX7_denies_47
      · replace HW := HW.2 c_10
        refine lv_iload_n hx hb dX7_denies_13 rfl (lv_at hl 1 rfl) ?_
        refine lv_aload_n hx hb dX7_denies_14 rfl (lv_at hl 0 rfl) ?_
        refine g_getr hx hb hw inG7 hown hK hG gl_81 rfl gk_81 (by decide) 3 (by decide) (by rw [gm_81]; decide) (r := 83) gr_81_3 lk23 dX7_denies_15 ?_
        refine g_alen hx hb hK hG gl_83 gk_83 (v := (60 : Int32)) (by rw [gn_83]; decide) dX7_denies_18 ?_
        refine lv_icmp_ge (tgt := 46) hx hb dX7_denies_19 (by decide) (fun c_19 => ?_) (fun c_19 => ?_)
        · replace HW := HW.1 c_19
          refine lv_iconst (v := 0) hx hb dX7_denies_46 (by decide) ?_
          exact W.zret (v := (0 : Int32)) hx hb hr rfl (fun t ht hW => ⟨⟨(0 : Int32), (h, g), rfl, ⟨Or.inl rfl, HW⟩, g_B ht hG⟩, hG.2.2.F ht⟩) hG.2.2.2.2 dX7_denies_47
        · replace HW := HW.2 c_19
          refine lv_iload_n hx hb dX7_denies_22 rfl (lv_at hl 2 rfl) ?_
          refine lv_aload_n hx hb dX7_denies_23 rfl (lv_at hl 0 rfl) ?_
          refine g_getr hx hb hw inG7 hown hK hG gl_81 rfl gk_81 (by decide) 2 (by decide) (by rw [gm_81]; decide) (r := 82) gr_81_2 lk19 dX7_denies_24 ?_
          refine lv_iload_n hx hb dX7_denies_27 rfl (lv_at hl 1 rfl) ?_
          refine g_iald hx hb hK hG gl_82 gk_82 gn_82 HW.1 dX7_denies_28 ?_
          replace HW := HW.2
          refine lv_icmp_lt (tgt := 42) hx hb dX7_denies_29 (by decide) (fun c_29 => ?_) (fun c_29 => ?_)
          · replace HW := HW.1 c_29
            exact B42 h g _ _ _ HW hG (lv_sub hl [] rfl)
          · replace HW := HW.2 c_29
            refine lv_iload_n hx hb dX7_denies_32 rfl (lv_at hl 2 rfl) ?_
            refine lv_aload_n hx hb dX7_denies_33 rfl (lv_at hl 0 rfl) ?_
            refine g_getr hx hb hw inG7 hown hK hG gl_81 rfl gk_81 (by decide) 3 (by decide) (by rw [gm_81]; decide) (r := 83) gr_81_3 lk23 dX7_denies_34 ?_
            refine lv_iload_n hx hb dX7_denies_37 rfl (lv_at hl 1 rfl) ?_
            refine g_iald hx hb hK hG gl_83 gk_83 gn_83 HW.1 dX7_denies_38 ?_
            replace HW := HW.2
            refine lv_icmp_le (tgt := 46) hx hb dX7_denies_39 (by decide) (fun c_39 => ?_) (fun c_39 => ?_)
            · replace HW := HW.1 c_39
              refine lv_iconst (v := 0) hx hb dX7_denies_46 (by decide) ?_
              exact W.zret (v := (0 : Int32)) hx hb hr rfl (fun t ht hW => ⟨⟨(0 : Int32), (h, g), rfl, ⟨Or.inl rfl, HW⟩, g_B ht hG⟩, hG.2.2.F ht⟩) hG.2.2.2.2 dX7_denies_47
            · replace HW := HW.2 c_39
              exact B42 h g _ _ _ HW hG (lv_sub hl [] rfl)
  exact E0 _ _ _ hG hl

def j_X7_against_24 (Q : Int32 → HI → HL → Prop) (K4 : Int32 → Int32 → Int32 → HI → HL → Prop) (x1 : Int32) (x2 : Int32) (x3 : Int32) (h : HI) (g : HL) : Prop :=
  (∀ x3_24 : Int32, x3_24 = (x3 + 1) → K4 x1 x2 x3_24 h g)
def b_X7_against_4 (Q : Int32 → HI → HL → Prop) (K4 : Int32 → Int32 → Int32 → HI → HL → Prop) (x1 : Int32) (x2 : Int32) (x3 : Int32) (h : HI) (g : HL) : Prop :=
  (((h 81 5) ≤ x3 → Q x2 h g) ∧ (¬ (h 81 5) ≤ x3 → (∃ P_15 : Int32 → HI → HL → Prop, w_X7_denies x3 x1 h g P_15 ∧ ∀ (r_15 : Int32) (h_15 : HI) (g_15 : HL), zb r_15 → P_15 r_15 h_15 g_15 → ((r_15 = 0 → j_X7_against_24 Q K4 x1 x2 x3 h_15 g_15) ∧ (¬ r_15 = 0 → (∀ x2_21 : Int32, x2_21 = (x2 + 1) → j_X7_against_24 Q K4 x1 x2_21 x3 h_15 g_15))))))
def F_X7_against_4 (Q : Int32 → HI → HL → Prop) (K : Int32 × Int32 × Int32 × HI × HL → Prop) (q : Int32 × Int32 × Int32 × HI × HL) : Prop := b_X7_against_4 Q (fun x1 x2 x3 h g => K (x1, x2, x3, h, g)) q.1 q.2.1 q.2.2.1 q.2.2.2.1 q.2.2.2.2
def w_X7_against (x1 : Int32) (h : HI) (g : HL) (Q : Int32 → HI → HL → Prop) : Prop :=
  lpE (F_X7_against_4 Q) (x1, (0 : Int32), (0 : Int32), h, g)
set_option maxHeartbeats 8000000 in
set_option maxRecDepth 100000 in
theorem m_X7_against (l : Launch) (D : va_G) (cy : Nat → ClassId) (ad : Nat → Nat) (h : HI) (g : HL) (sz : Nat) (x1 : Int32) (Q : Int32 → HI → HL → Prop) (HW : w_X7_against x1 h g Q) : Met l yX7_against (wa yX7_against cX7_against 4 (some .int)) ({ frames := 1, cells := 0, slots := 0, locals := 22 }) (va_Pc [.ref (ad 81), .int x1] (gI D cy ad h g sz)) (va_Qi (fun (r : Int32) (u : HI × HL) => Q r u.1 u.2) (gB D cy ad sz) (gA ad sz)) 0 0 (gA ad sz) := by
  refine Met.ofW (cc := cX7_against) (maxL := 4) (ret := (some .int)) (by decide) rfl ?_
  intro p e s m args below meth c s₁ B hml hv
  obtain ⟨hav, hsz, hP, hK, hD0, hNw⟩ := hv
  have hx := B.exec
  have hb := B.bytes
  have hr := B.returns
  have hts := atoms_spec (ws := (wa yX7_against cX7_against 4 (some .int))) B.pre
  have hw := wa_hw hts
  have hown : s.vm.findClass RX7 = some m.cls := findClass_of_methodNamed B.named
  have hlocks := B.notSynchronized
  subst hsz
  have hG : gG D cy ad (gA ad s.heap.size) s.heap h g s.heap [] := ⟨hP, gA_self hD0, va_S.rf⟩
  clear hP hD0
  have lk45 := hw (.fieldLink RX7 45 "OldWorks$Sizes" "said" "I") (wm1 173 rfl rfl)
  rw [show (headSpec (wa yX7_against cX7_against 4 (some .int)) ({ frames := 1, cells := 0, slots := 0, locals := 22 } : Room)).room = ({ frames := 1, cells := 0, slots := 0, locals := 22 } : Room) from rfl]
  have hl := lv_entry ([.ref (ad 81), .int x1]) (n := 4) (Nat.le_of_ble_eq_true rfl)
  rw [show entryFrame m args 4 = entryFrame m ([.ref (ad 81), .int x1] : List Value).toArray 4 from by rw [hav], lg_entry_eq]
  generalize (lg_sl ([.ref (ad 81), .int x1]) ++ List.replicate (4 - (lg_sl ([.ref (ad 81), .int x1])).length) Slot.unset).toArray = ls at hl ⊢
  have hl : lv_has ls 4 [(0, .ref (ad 81)), (1, .int x1)] := hl
  have B24 : ∀ (K4 : Int32 → Int32 → Int32 → HI → HL → Prop) (hK4 : ∀ (x1 : Int32) (x2 : Int32) (x3 : Int32) (h : HI) (g : HL) (H : Heap) (locs : List Loc) (ls : Array Slot), K4 x1 x2 x3 h g → gG D cy ad (gA ad s.heap.size) s.heap h g H locs → lv_has ls 4 [(0, .ref (ad 81)), (1, .int x1), (2, .int x2), (3, .int x3)] → W p l e ({ frames := 1, cells := 0, slots := 0, locals := 22 } : Room) s m args below meth c H locs 0 0 (MQ below (va_Qi (fun (r : Int32) (u : HI × HL) => Q r u.1 u.2) (gB D cy ad s.heap.size) (gA ad s.heap.size)) args s 0 0 (gA ad s.heap.size)) (F0 m 4 ls [])) (x1 : Int32) (x2 : Int32) (x3 : Int32) (h : HI) (g : HL) (H : Heap) (locs : List Loc) (ls : Array Slot), j_X7_against_24 Q K4 x1 x2 x3 h g → gG D cy ad (gA ad s.heap.size) s.heap h g H locs → lv_has ls 4 [(0, .ref (ad 81)), (1, .int x1), (2, .int x2), (3, .int x3)] → W p l e ({ frames := 1, cells := 0, slots := 0, locals := 22 } : Room) s m args below meth c H locs 0 0 (MQ below (va_Qi (fun (r : Int32) (u : HI × HL) => Q r u.1 u.2) (gB D cy ad s.heap.size) (gA ad s.heap.size)) args s 0 0 (gA ad s.heap.size)) (F0 m 24 ls []) := by
    intro K4 hK4 x1 x2 x3 h g H locs ls HW hG hl
    unfold j_X7_against_24 at HW
    obtain ⟨x3_24, ex3_24⟩ : ∃ y : Int32, y = (x3 + 1) := ⟨_, rfl⟩
    replace HW := HW x3_24 ex3_24
    refine lv_iinc (v := x3_24) (lv' := [(3, .int x3_24), (0, .ref (ad 81)), (1, .int x1), (2, .int x2)]) hx hb dX7_against_24 hl (k := 3) rfl (by rw [ex3_24]; rfl) (by decide) rfl (fun ls hl => ?_)
    refine lv_goto (tgt := 4) hx hb dX7_against_27 (by decide) ?_
    exact hK4 x1 x2 x3_24 h g _ _ _ HW hG (lv_sub hl [1, 2, 3, 0] rfl)
  have L4 : ∀ (n : Nat) (x1 : Int32) (x2 : Int32) (x3 : Int32) (h : HI) (g : HL) (H : Heap) (locs : List Loc) (ls : Array Slot), lpN (F_X7_against_4 Q) n (x1, x2, x3, h, g) → gG D cy ad (gA ad s.heap.size) s.heap h g H locs → lv_has ls 4 [(0, .ref (ad 81)), (1, .int x1), (2, .int x2), (3, .int x3)] → W p l e ({ frames := 1, cells := 0, slots := 0, locals := 22 } : Room) s m args below meth c H locs 0 0 (MQ below (va_Qi (fun (r : Int32) (u : HI × HL) => Q r u.1 u.2) (gB D cy ad s.heap.size) (gA ad s.heap.size)) args s 0 0 (gA ad s.heap.size)) (F0 m 4 ls []) := by
    intro n
    induction n with
    | zero => intro x1 x2 x3 h g H locs ls HW; exact HW.elim
    | succ n ih =>
      intro x1 x2 x3 h g H locs ls HW hG hl
      have HW : b_X7_against_4 Q (fun x1 x2 x3 h g => lpN (F_X7_against_4 Q) n (x1, x2, x3, h, g)) x1 x2 x3 h g := HW
      generalize hKe : (fun (x1 : Int32) (x2 : Int32) (x3 : Int32) (h : HI) (g : HL) => lpN (F_X7_against_4 Q) n (x1, x2, x3, h, g)) = K4 at HW
      have hK4 : ∀ (x1 : Int32) (x2 : Int32) (x3 : Int32) (h : HI) (g : HL) (H : Heap) (locs : List Loc) (ls : Array Slot), K4 x1 x2 x3 h g → gG D cy ad (gA ad s.heap.size) s.heap h g H locs → lv_has ls 4 [(0, .ref (ad 81)), (1, .int x1), (2, .int x2), (3, .int x3)] → W p l e ({ frames := 1, cells := 0, slots := 0, locals := 22 } : Room) s m args below meth c H locs 0 0 (MQ below (va_Qi (fun (r : Int32) (u : HI × HL) => Q r u.1 u.2) (gB D cy ad s.heap.size) (gA ad s.heap.size)) args s 0 0 (gA ad s.heap.size)) (F0 m 4 ls []) := by subst hKe; exact ih
      clear ih
      clear hKe
      unfold b_X7_against_4 at HW
      refine lv_iload_n hx hb dX7_against_4 rfl (lv_at hl 3 rfl) ?_
      refine lv_aload_n hx hb dX7_against_5 rfl (lv_at hl 0 rfl) ?_
      refine g_geti hx hb hw inG7 hown hK hG gl_81 rfl gk_81 (by decide) 5 (by decide) (by rw [gm_81]; decide) gr_81_5 lk45 dX7_against_6 ?_
      refine lv_icmp_ge (tgt := 30) hx hb dX7_against_9 (by decide) (fun c_9 => ?_) (fun c_9 => ?_)
      · replace HW := HW.1 c_9
        refine lv_iload_n hx hb dX7_against_30 rfl (lv_at hl 2 rfl) ?_
        exact W.iret (v := x2) hx hb hr (fun t ht hW => ⟨⟨x2, (h, g), rfl, HW, g_B ht hG⟩, hG.2.2.F ht⟩) hG.2.2.2.2 dX7_against_31
      · replace HW := HW.2 c_9
        refine lv_aload_n hx hb dX7_against_12 rfl (lv_at hl 0 rfl) ?_
        refine lv_iload_n hx hb dX7_against_13 rfl (lv_at hl 3 rfl) ?_
        refine lv_iload_n hx hb dX7_against_14 rfl (lv_at hl 1 rfl) ?_
        obtain ⟨P_15, HC_15, HW⟩ := HW
        refine g_callz (g_runV (As := [.int x3, .int x1]) (rest := []) ⟨hx, hb, hml, hown, hts⟩ (m_X7_denies l D cy ad h g H.size x3 x1 P_15 HC_15) (cwV 2 hts (gd_V (wm3 121 rfl rfl) (wm3 123 rfl rfl) (wmp1 (q := (yX7_denies, 12)) 13 rfl) (wm1 5 rfl rfl) (wm3 124 rfl rfl)) rfl rfl rfl (by decide +kernel) ⟨Nat.le_of_ble_eq_true rfl, Nat.le_of_ble_eq_true rfl⟩) hK hNw hG gl_81 rfl gk_81 (by decide) rfl rfl hl.1 rfl (lv_room (Nat.le_of_ble_eq_true rfl)) dX7_against_15 ⟨Nat.zero_le _, Nat.zero_le _⟩) hG (fun r_15 h_15 g_15 H locs hz hq hG => ?_)
        replace HW := HW r_15 h_15 g_15 hz hq
        refine lv_if_eq (tgt := 24) hx hb dX7_against_18 (by decide) (fun c_18 => ?_) (fun c_18 => ?_)
        · replace HW := HW.1 c_18
          exact B24 K4 hK4 x1 x2 x3 h_15 g_15 _ _ _ HW hG (lv_sub hl [0, 1, 2, 3] rfl)
        · replace HW := HW.2 c_18
          obtain ⟨x2_21, ex2_21⟩ : ∃ y : Int32, y = (x2 + 1) := ⟨_, rfl⟩
          replace HW := HW x2_21 ex2_21
          refine lv_iinc (v := x2_21) (lv' := [(2, .int x2_21), (0, .ref (ad 81)), (1, .int x1), (3, .int x3)]) hx hb dX7_against_21 hl (k := 2) rfl (by rw [ex2_21]; rfl) (by decide) rfl (fun ls hl => ?_)
          exact B24 K4 hK4 x1 x2_21 x3 h_15 g_15 _ _ _ HW hG (lv_sub hl [1, 2, 0, 3] rfl)
  have E0 : ∀ (H : Heap) (locs : List Loc) (ls : Array Slot), gG D cy ad (gA ad s.heap.size) s.heap h g H locs → lv_has ls 4 [(0, .ref (ad 81)), (1, .int x1)] → W p l e ({ frames := 1, cells := 0, slots := 0, locals := 22 } : Room) s m args below meth c H locs 0 0 (MQ below (va_Qi (fun (r : Int32) (u : HI × HL) => Q r u.1 u.2) (gB D cy ad s.heap.size) (gA ad s.heap.size)) args s 0 0 (gA ad s.heap.size)) (F0 m 0 ls []) := by
    intro H locs ls hG hl
    unfold w_X7_against at HW
    refine lv_iconst (v := 0) hx hb dX7_against_0 (by decide) ?_
    refine lv_istore_n (lv' := [(2, .int (0 : Int32)), (0, .ref (ad 81)), (1, .int x1)]) hx hb dX7_against_1 rfl hl (by decide) rfl (fun ls hl => ?_)
    refine lv_iconst (v := 0) hx hb dX7_against_2 (by decide) ?_
    refine lv_istore_n (lv' := [(3, .int (0 : Int32)), (2, .int (0 : Int32)), (0, .ref (ad 81)), (1, .int x1)]) hx hb dX7_against_3 rfl hl (by decide) rfl (fun ls hl => ?_)
    obtain ⟨n_4, HW⟩ := HW
    exact L4 n_4 x1 (0 : Int32) (0 : Int32) h g _ _ _ HW hG (lv_sub hl [2, 3, 1, 0] rfl)
  exact E0 _ _ _ hG hl

def j_X7_leastDisputed_103 (Q : Int32 → HI → HL → Prop) (K16 : Int32 → Int32 → Int32 → HI → HL → Prop) (x1 : Int32) (x2 : Int32) (x3 : Int32) (h : HI) (g : HL) : Prop :=
  (∀ x3_103 : Int32, x3_103 = (x3 + 1) → K16 x1 x2 x3_103 h g)
def j_X7_leastDisputed_97 (Q : Int32 → HI → HL → Prop) (K16 : Int32 → Int32 → Int32 → HI → HL → Prop) (x3 : Int32) (x5 : Int32) (x6 : Int32) (h : HI) (g : HL) : Prop :=
  j_X7_leastDisputed_103 Q K16 x5 x6 x3 h g
def b_X7_leastDisputed_16 (Q : Int32 → HI → HL → Prop) (K16 : Int32 → Int32 → Int32 → HI → HL → Prop) (x1 : Int32) (x2 : Int32) (x3 : Int32) (h : HI) (g : HL) : Prop :=
  (((h 81 5) ≤ x3 → Q x1 h g) ∧ (¬ (h 81 5) ≤ x3 → (((60 : Int32) ≤ x3 → Q x1 h g) ∧ (¬ (60 : Int32) ≤ x3 → (vp_in x3 60 ∧ (∃ P_40 : Int32 → HI → HL → Prop, w_X7_placeFrom (h 82 x3.toNatClampNeg) h g P_40 ∧ ∀ (r_40 : Int32) (h_40 : HI) (g_40 : HL), P_40 r_40 h_40 g_40 → ((r_40 ≤ (h_40 81 8) → (∀ x5_69 : Int32, x5_69 = ((h_40 81 6) + (r_40 * (h_40 81 7))) → (∃ P_74 : Int32 → HI → HL → Prop, w_X7_against x5_69 h_40 g_40 P_74 ∧ ∀ (r_74 : Int32) (h_74 : HI) (g_74 : HL), P_74 r_74 h_74 g_74 → ((r_74 < x2 → j_X7_leastDisputed_97 Q K16 x3 x5_69 r_74 h_74 g_74) ∧ (¬ r_74 < x2 → ((¬ r_74 = x2 → j_X7_leastDisputed_103 Q K16 x1 x2 x3 h_74 g_74) ∧ (r_74 = x2 → ((x1 ≤ x5_69 → j_X7_leastDisputed_103 Q K16 x1 x2 x3 h_74 g_74) ∧ (¬ x1 ≤ x5_69 → j_X7_leastDisputed_97 Q K16 x3 x5_69 r_74 h_74 g_74))))))))) ∧ (¬ r_40 ≤ (h_40 81 8) → j_X7_leastDisputed_103 Q K16 x1 x2 x3 h_40 g_40))))))))
def F_X7_leastDisputed_16 (Q : Int32 → HI → HL → Prop) (K : Int32 × Int32 × Int32 × HI × HL → Prop) (q : Int32 × Int32 × Int32 × HI × HL) : Prop := b_X7_leastDisputed_16 Q (fun x1 x2 x3 h g => K (x1, x2, x3, h, g)) q.1 q.2.1 q.2.2.1 q.2.2.2.1 q.2.2.2.2
def w_X7_leastDisputed  (h : HI) (g : HL) (Q : Int32 → HI → HL → Prop) : Prop :=
  (∀ x1_4 : Int32, x1_4 = (h 81 6) → (∃ P_10 : Int32 → HI → HL → Prop, w_X7_against (h 81 6) h g P_10 ∧ ∀ (r_10 : Int32) (h_10 : HI) (g_10 : HL), P_10 r_10 h_10 g_10 → lpE (F_X7_leastDisputed_16 Q) (x1_4, r_10, (0 : Int32), h_10, g_10)))
set_option maxHeartbeats 8000000 in
set_option maxRecDepth 100000 in
theorem m_X7_leastDisputed (l : Launch) (D : va_G) (cy : Nat → ClassId) (ad : Nat → Nat) (h : HI) (g : HL) (sz : Nat)  (Q : Int32 → HI → HL → Prop) (HW : w_X7_leastDisputed h g Q) : Met l yX7_leastDisputed (wa yX7_leastDisputed cX7_leastDisputed 7 (some .int)) ({ frames := 2, cells := 0, slots := 0, locals := 45 }) (va_Pc [.ref (ad 81)] (gI D cy ad h g sz)) (va_Qi (fun (r : Int32) (u : HI × HL) => Q r u.1 u.2) (gB D cy ad sz) (gA ad sz)) 0 0 (gA ad sz) := by
  refine Met.ofW (cc := cX7_leastDisputed) (maxL := 7) (ret := (some .int)) (by decide) rfl ?_
  intro p e s m args below meth c s₁ B hml hv
  obtain ⟨hav, hsz, hP, hK, hD0, hNw⟩ := hv
  have hx := B.exec
  have hb := B.bytes
  have hr := B.returns
  have hts := atoms_spec (ws := (wa yX7_leastDisputed cX7_leastDisputed 7 (some .int))) B.pre
  have hw := wa_hw hts
  have hown : s.vm.findClass RX7 = some m.cls := findClass_of_methodNamed B.named
  have hlocks := B.notSynchronized
  subst hsz
  have hG : gG D cy ad (gA ad s.heap.size) s.heap h g s.heap [] := ⟨hP, gA_self hD0, va_S.rf⟩
  clear hP hD0
  have lk69 := hw (.fieldLink RX7 69 "OldWorks$Sizes" "base" "I") (wm1 174 rfl rfl)
  have lk45 := hw (.fieldLink RX7 45 "OldWorks$Sizes" "said" "I") (wm1 173 rfl rfl)
  have lk19 := hw (.fieldLink RX7 19 "OldWorks$Sizes" "lows" "[I") (wm1 170 rfl rfl)
  have lk81 := hw (.fieldLink RX7 81 "OldWorks$Sizes" "last" "I") (wm1 176 rfl rfl)
  have lk77 := hw (.fieldLink RX7 77 "OldWorks$Sizes" "step" "I") (wm1 175 rfl rfl)
  rw [show (headSpec (wa yX7_leastDisputed cX7_leastDisputed 7 (some .int)) ({ frames := 2, cells := 0, slots := 0, locals := 45 } : Room)).room = ({ frames := 2, cells := 0, slots := 0, locals := 45 } : Room) from rfl]
  have hl := lv_entry ([.ref (ad 81)]) (n := 7) (Nat.le_of_ble_eq_true rfl)
  rw [show entryFrame m args 7 = entryFrame m ([.ref (ad 81)] : List Value).toArray 7 from by rw [hav], lg_entry_eq]
  generalize (lg_sl ([.ref (ad 81)]) ++ List.replicate (7 - (lg_sl ([.ref (ad 81)])).length) Slot.unset).toArray = ls at hl ⊢
  have hl : lv_has ls 7 [(0, .ref (ad 81))] := hl
  have B103 : ∀ (K16 : Int32 → Int32 → Int32 → HI → HL → Prop) (hK16 : ∀ (x1 : Int32) (x2 : Int32) (x3 : Int32) (h : HI) (g : HL) (H : Heap) (locs : List Loc) (ls : Array Slot), K16 x1 x2 x3 h g → gG D cy ad (gA ad s.heap.size) s.heap h g H locs → lv_has ls 7 [(0, .ref (ad 81)), (1, .int x1), (2, .int x2), (3, .int x3)] → W p l e ({ frames := 2, cells := 0, slots := 0, locals := 45 } : Room) s m args below meth c H locs 0 0 (MQ below (va_Qi (fun (r : Int32) (u : HI × HL) => Q r u.1 u.2) (gB D cy ad s.heap.size) (gA ad s.heap.size)) args s 0 0 (gA ad s.heap.size)) (F0 m 16 ls [])) (x1 : Int32) (x2 : Int32) (x3 : Int32) (h : HI) (g : HL) (H : Heap) (locs : List Loc) (ls : Array Slot), j_X7_leastDisputed_103 Q K16 x1 x2 x3 h g → gG D cy ad (gA ad s.heap.size) s.heap h g H locs → lv_has ls 7 [(0, .ref (ad 81)), (1, .int x1), (2, .int x2), (3, .int x3)] → W p l e ({ frames := 2, cells := 0, slots := 0, locals := 45 } : Room) s m args below meth c H locs 0 0 (MQ below (va_Qi (fun (r : Int32) (u : HI × HL) => Q r u.1 u.2) (gB D cy ad s.heap.size) (gA ad s.heap.size)) args s 0 0 (gA ad s.heap.size)) (F0 m 103 ls []) := by
    intro K16 hK16 x1 x2 x3 h g H locs ls HW hG hl
    unfold j_X7_leastDisputed_103 at HW
    obtain ⟨x3_103, ex3_103⟩ : ∃ y : Int32, y = (x3 + 1) := ⟨_, rfl⟩
    replace HW := HW x3_103 ex3_103
    refine lv_iinc (v := x3_103) (lv' := [(3, .int x3_103), (0, .ref (ad 81)), (1, .int x1), (2, .int x2)]) hx hb dX7_leastDisputed_103 hl (k := 3) rfl (by rw [ex3_103]; rfl) (by decide) rfl (fun ls hl => ?_)
    refine lv_goto (tgt := 16) hx hb dX7_leastDisputed_106 (by decide) ?_
    exact hK16 x1 x2 x3_103 h g _ _ _ HW hG (lv_sub hl [1, 2, 3, 0] rfl)
  have B97 : ∀ (K16 : Int32 → Int32 → Int32 → HI → HL → Prop) (hK16 : ∀ (x1 : Int32) (x2 : Int32) (x3 : Int32) (h : HI) (g : HL) (H : Heap) (locs : List Loc) (ls : Array Slot), K16 x1 x2 x3 h g → gG D cy ad (gA ad s.heap.size) s.heap h g H locs → lv_has ls 7 [(0, .ref (ad 81)), (1, .int x1), (2, .int x2), (3, .int x3)] → W p l e ({ frames := 2, cells := 0, slots := 0, locals := 45 } : Room) s m args below meth c H locs 0 0 (MQ below (va_Qi (fun (r : Int32) (u : HI × HL) => Q r u.1 u.2) (gB D cy ad s.heap.size) (gA ad s.heap.size)) args s 0 0 (gA ad s.heap.size)) (F0 m 16 ls [])) (x3 : Int32) (x5 : Int32) (x6 : Int32) (h : HI) (g : HL) (H : Heap) (locs : List Loc) (ls : Array Slot), j_X7_leastDisputed_97 Q K16 x3 x5 x6 h g → gG D cy ad (gA ad s.heap.size) s.heap h g H locs → lv_has ls 7 [(0, .ref (ad 81)), (3, .int x3), (5, .int x5), (6, .int x6)] → W p l e ({ frames := 2, cells := 0, slots := 0, locals := 45 } : Room) s m args below meth c H locs 0 0 (MQ below (va_Qi (fun (r : Int32) (u : HI × HL) => Q r u.1 u.2) (gB D cy ad s.heap.size) (gA ad s.heap.size)) args s 0 0 (gA ad s.heap.size)) (F0 m 97 ls []) := by
    intro K16 hK16 x3 x5 x6 h g H locs ls HW hG hl
    unfold j_X7_leastDisputed_97 at HW
    refine lv_iload hx hb dX7_leastDisputed_97 (lv_at hl 2 rfl) ?_
    refine lv_istore_n (lv' := [(1, .int x5), (0, .ref (ad 81)), (3, .int x3), (5, .int x5), (6, .int x6)]) hx hb dX7_leastDisputed_99 rfl hl (by decide) rfl (fun ls hl => ?_)
    refine lv_iload hx hb dX7_leastDisputed_100 (lv_at hl 4 rfl) ?_
    refine lv_istore_n (lv' := [(2, .int x6), (1, .int x5), (0, .ref (ad 81)), (3, .int x3), (5, .int x5), (6, .int x6)]) hx hb dX7_leastDisputed_102 rfl hl (by decide) rfl (fun ls hl => ?_)
    exact B103 K16 hK16 x5 x6 x3 h g _ _ _ HW hG (lv_sub hl [2, 1, 0, 3] rfl)
  have L16 : ∀ (n : Nat) (x1 : Int32) (x2 : Int32) (x3 : Int32) (h : HI) (g : HL) (H : Heap) (locs : List Loc) (ls : Array Slot), lpN (F_X7_leastDisputed_16 Q) n (x1, x2, x3, h, g) → gG D cy ad (gA ad s.heap.size) s.heap h g H locs → lv_has ls 7 [(0, .ref (ad 81)), (1, .int x1), (2, .int x2), (3, .int x3)] → W p l e ({ frames := 2, cells := 0, slots := 0, locals := 45 } : Room) s m args below meth c H locs 0 0 (MQ below (va_Qi (fun (r : Int32) (u : HI × HL) => Q r u.1 u.2) (gB D cy ad s.heap.size) (gA ad s.heap.size)) args s 0 0 (gA ad s.heap.size)) (F0 m 16 ls []) := by
    intro n
    induction n with
    | zero => intro x1 x2 x3 h g H locs ls HW; exact HW.elim
    | succ n ih =>
      intro x1 x2 x3 h g H locs ls HW hG hl
      have HW : b_X7_leastDisputed_16 Q (fun x1 x2 x3 h g => lpN (F_X7_leastDisputed_16 Q) n (x1, x2, x3, h, g)) x1 x2 x3 h g := HW
      generalize hKe : (fun (x1 : Int32) (x2 : Int32) (x3 : Int32) (h : HI) (g : HL) => lpN (F_X7_leastDisputed_16 Q) n (x1, x2, x3, h, g)) = K16 at HW
      have hK16 : ∀ (x1 : Int32) (x2 : Int32) (x3 : Int32) (h : HI) (g : HL) (H : Heap) (locs : List Loc) (ls : Array Slot), K16 x1 x2 x3 h g → gG D cy ad (gA ad s.heap.size) s.heap h g H locs → lv_has ls 7 [(0, .ref (ad 81)), (1, .int x1), (2, .int x2), (3, .int x3)] → W p l e ({ frames := 2, cells := 0, slots := 0, locals := 45 } : Room) s m args below meth c H locs 0 0 (MQ below (va_Qi (fun (r : Int32) (u : HI × HL) => Q r u.1 u.2) (gB D cy ad s.heap.size) (gA ad s.heap.size)) args s 0 0 (gA ad s.heap.size)) (F0 m 16 ls []) := by subst hKe; exact ih
      clear ih
      clear hKe
      unfold b_X7_leastDisputed_16 at HW
      refine lv_iload_n hx hb dX7_leastDisputed_16 rfl (lv_at hl 3 rfl) ?_
      refine lv_aload_n hx hb dX7_leastDisputed_17 rfl (lv_at hl 0 rfl) ?_
      refine g_geti hx hb hw inG7 hown hK hG gl_81 rfl gk_81 (by decide) 5 (by decide) (by rw [gm_81]; decide) gr_81_5 lk45 dX7_leastDisputed_18 ?_
      refine lv_icmp_ge (tgt := 109) hx hb dX7_leastDisputed_21 (by decide) (fun c_21 => ?_) (fun c_21 => ?_)
      · replace HW := HW.1 c_21
        refine lv_iload_n hx hb dX7_leastDisputed_109 rfl (lv_at hl 1 rfl) ?_
        exact W.iret (v := x1) hx hb hr (fun t ht hW => ⟨⟨x1, (h, g), rfl, HW, g_B ht hG⟩, hG.2.2.F ht⟩) hG.2.2.2.2 dX7_leastDisputed_110
      · replace HW := HW.2 c_21
        refine lv_iload_n hx hb dX7_leastDisputed_24 rfl (lv_at hl 3 rfl) ?_
        refine lv_aload_n hx hb dX7_leastDisputed_25 rfl (lv_at hl 0 rfl) ?_
        refine g_getr hx hb hw inG7 hown hK hG gl_81 rfl gk_81 (by decide) 2 (by decide) (by rw [gm_81]; decide) (r := 82) gr_81_2 lk19 dX7_leastDisputed_26 ?_
        refine g_alen hx hb hK hG gl_82 gk_82 (v := (60 : Int32)) (by rw [gn_82]; decide) dX7_leastDisputed_29 ?_
        refine lv_icmp_ge (tgt := 109) hx hb dX7_leastDisputed_30 (by decide) (fun c_30 => ?_) (fun c_30 => ?_)
        · replace HW := HW.1 c_30
          refine lv_iload_n hx hb dX7_leastDisputed_109 rfl (lv_at hl 1 rfl) ?_
          exact W.iret (v := x1) hx hb hr (fun t ht hW => ⟨⟨x1, (h, g), rfl, HW, g_B ht hG⟩, hG.2.2.F ht⟩) hG.2.2.2.2 dX7_leastDisputed_110
        · replace HW := HW.2 c_30
          refine lv_aload_n hx hb dX7_leastDisputed_33 rfl (lv_at hl 0 rfl) ?_
          refine lv_aload_n hx hb dX7_leastDisputed_34 rfl (lv_at hl 0 rfl) ?_
          refine g_getr hx hb hw inG7 hown hK hG gl_81 rfl gk_81 (by decide) 2 (by decide) (by rw [gm_81]; decide) (r := 82) gr_81_2 lk19 dX7_leastDisputed_35 ?_
          refine lv_iload_n hx hb dX7_leastDisputed_38 rfl (lv_at hl 3 rfl) ?_
          refine g_iald hx hb hK hG gl_82 gk_82 gn_82 HW.1 dX7_leastDisputed_39 ?_
          replace HW := HW.2
          obtain ⟨P_40, HC_40, HW⟩ := HW
          refine g_calli (g_runV (As := [.int (h 82 x3.toNatClampNeg)]) (rest := []) ⟨hx, hb, hml, hown, hts⟩ (m_X7_placeFrom l D cy ad h g H.size (h 82 x3.toNatClampNeg) P_40 HC_40) (cwV 1 hts (gd_V (wm3 101 rfl rfl) (wm3 103 rfl rfl) (wmp1 (q := (yX7_placeFrom, 12)) 12 rfl) (wm1 5 rfl rfl) (wm3 104 rfl rfl)) rfl rfl rfl (by decide +kernel) ⟨Nat.le_of_ble_eq_true rfl, Nat.le_of_ble_eq_true rfl⟩) hK hNw hG gl_81 rfl gk_81 (by decide) rfl rfl hl.1 rfl (lv_room (Nat.le_of_ble_eq_true rfl)) dX7_leastDisputed_40 ⟨Nat.zero_le _, Nat.zero_le _⟩) hG (fun r_40 h_40 g_40 H locs hq hG => ?_)
          replace HW := HW r_40 h_40 g_40 hq
          refine lv_istore (lv' := [(4, .int r_40), (0, .ref (ad 81)), (1, .int x1), (2, .int x2), (3, .int x3)]) hx hb dX7_leastDisputed_43 hl (by decide) rfl (fun ls hl => ?_)
          refine lv_iload hx hb dX7_leastDisputed_45 (lv_at hl 0 rfl) ?_
          refine lv_aload_n hx hb dX7_leastDisputed_47 rfl (lv_at hl 1 rfl) ?_
          refine g_geti hx hb hw inG7 hown hK hG gl_81 rfl gk_81 (by decide) 8 (by decide) (by rw [gm_81]; decide) gr_81_8 lk81 dX7_leastDisputed_48 ?_
          refine lv_icmp_le (tgt := 57) hx hb dX7_leastDisputed_51 (by decide) (fun c_51 => ?_) (fun c_51 => ?_)
          · replace HW := HW.1 c_51
            refine lv_aload_n hx hb dX7_leastDisputed_57 rfl (lv_at hl 1 rfl) ?_
            refine g_geti hx hb hw inG7 hown hK hG gl_81 rfl gk_81 (by decide) 6 (by decide) (by rw [gm_81]; decide) gr_81_6 lk69 dX7_leastDisputed_58 ?_
            refine lv_iload hx hb dX7_leastDisputed_61 (lv_at hl 0 rfl) ?_
            refine lv_aload_n hx hb dX7_leastDisputed_63 rfl (lv_at hl 1 rfl) ?_
            refine g_geti hx hb hw inG7 hown hK hG gl_81 rfl gk_81 (by decide) 7 (by decide) (by rw [gm_81]; decide) gr_81_7 lk77 dX7_leastDisputed_64 ?_
            refine lv_imul hx hb dX7_leastDisputed_67 ?_
            refine lv_iadd hx hb dX7_leastDisputed_68 ?_
            refine lv_topi (fun x5_69 ex5_69 => ?_)
            replace HW := HW x5_69 ex5_69
            refine lv_istore (lv' := [(5, .int x5_69), (4, .int r_40), (0, .ref (ad 81)), (1, .int x1), (2, .int x2), (3, .int x3)]) hx hb dX7_leastDisputed_69 hl (by decide) rfl (fun ls hl => ?_)
            refine lv_aload_n hx hb dX7_leastDisputed_71 rfl (lv_at hl 2 rfl) ?_
            refine lv_iload hx hb dX7_leastDisputed_72 (lv_at hl 0 rfl) ?_
            obtain ⟨P_74, HC_74, HW⟩ := HW
            refine g_calli (g_runV (As := [.int x5_69]) (rest := []) ⟨hx, hb, hml, hown, hts⟩ (m_X7_against l D cy ad h_40 g_40 H.size x5_69 P_74 HC_74) (cwV 1 hts (gd_V (wm3 117 rfl rfl) (wm3 118 rfl rfl) (wm3 119 rfl rfl) (wm1 5 rfl rfl) (wm3 120 rfl rfl)) rfl rfl rfl (by decide +kernel) ⟨Nat.le_of_ble_eq_true rfl, Nat.le_of_ble_eq_true rfl⟩) hK hNw hG gl_81 rfl gk_81 (by decide) rfl rfl hl.1 rfl (lv_room (Nat.le_of_ble_eq_true rfl)) dX7_leastDisputed_74 ⟨Nat.zero_le _, Nat.zero_le _⟩) hG (fun r_74 h_74 g_74 H locs hq hG => ?_)
            replace HW := HW r_74 h_74 g_74 hq
            refine lv_istore (lv' := [(6, .int r_74), (5, .int x5_69), (4, .int r_40), (0, .ref (ad 81)), (1, .int x1), (2, .int x2), (3, .int x3)]) hx hb dX7_leastDisputed_77 hl (by decide) rfl (fun ls hl => ?_)
            refine lv_iload hx hb dX7_leastDisputed_79 (lv_at hl 0 rfl) ?_
            refine lv_iload_n hx hb dX7_leastDisputed_81 rfl (lv_at hl 5 rfl) ?_
            refine lv_icmp_lt (tgt := 97) hx hb dX7_leastDisputed_82 (by decide) (fun c_82 => ?_) (fun c_82 => ?_)
            · replace HW := HW.1 c_82
              exact B97 K16 hK16 x3 x5_69 r_74 h_74 g_74 _ _ _ HW hG (lv_sub hl [3, 6, 1, 0] rfl)
            · replace HW := HW.2 c_82
              refine lv_iload hx hb dX7_leastDisputed_85 (lv_at hl 0 rfl) ?_
              refine lv_iload_n hx hb dX7_leastDisputed_87 rfl (lv_at hl 5 rfl) ?_
              refine lv_icmp_ne (tgt := 103) hx hb dX7_leastDisputed_88 (by decide) (fun c_88 => ?_) (fun c_88 => ?_)
              · replace HW := HW.1 c_88
                exact B103 K16 hK16 x1 x2 x3 h_74 g_74 _ _ _ HW hG (lv_sub hl [3, 4, 5, 6] rfl)
              · replace HW := HW.2 c_88
                refine lv_iload hx hb dX7_leastDisputed_91 (lv_at hl 1 rfl) ?_
                refine lv_iload_n hx hb dX7_leastDisputed_93 rfl (lv_at hl 4 rfl) ?_
                refine lv_icmp_ge (tgt := 103) hx hb dX7_leastDisputed_94 (by decide) (fun c_94 => ?_) (fun c_94 => ?_)
                · replace HW := HW.1 c_94
                  exact B103 K16 hK16 x1 x2 x3 h_74 g_74 _ _ _ HW hG (lv_sub hl [3, 4, 5, 6] rfl)
                · replace HW := HW.2 c_94
                  exact B97 K16 hK16 x3 x5_69 r_74 h_74 g_74 _ _ _ HW hG (lv_sub hl [3, 6, 1, 0] rfl)
          · replace HW := HW.2 c_51
            refine lv_goto (tgt := 103) hx hb dX7_leastDisputed_54 (by decide) ?_
            exact B103 K16 hK16 x1 x2 x3 h_40 g_40 _ _ _ HW hG (lv_sub hl [1, 2, 3, 4] rfl)
  have E0 : ∀ (H : Heap) (locs : List Loc) (ls : Array Slot), gG D cy ad (gA ad s.heap.size) s.heap h g H locs → lv_has ls 7 [(0, .ref (ad 81))] → W p l e ({ frames := 2, cells := 0, slots := 0, locals := 45 } : Room) s m args below meth c H locs 0 0 (MQ below (va_Qi (fun (r : Int32) (u : HI × HL) => Q r u.1 u.2) (gB D cy ad s.heap.size) (gA ad s.heap.size)) args s 0 0 (gA ad s.heap.size)) (F0 m 0 ls []) := by
    intro H locs ls hG hl
    unfold w_X7_leastDisputed at HW
    refine lv_aload_n hx hb dX7_leastDisputed_0 rfl (lv_at hl 0 rfl) ?_
    refine g_geti hx hb hw inG7 hown hK hG gl_81 rfl gk_81 (by decide) 6 (by decide) (by rw [gm_81]; decide) gr_81_6 lk69 dX7_leastDisputed_1 ?_
    refine lv_topi (fun x1_4 ex1_4 => ?_)
    replace HW := HW x1_4 ex1_4
    refine lv_istore_n (lv' := [(1, .int x1_4), (0, .ref (ad 81))]) hx hb dX7_leastDisputed_4 rfl hl (by decide) rfl (fun ls hl => ?_)
    refine lv_aload_n hx hb dX7_leastDisputed_5 rfl (lv_at hl 1 rfl) ?_
    refine lv_aload_n hx hb dX7_leastDisputed_6 rfl (lv_at hl 1 rfl) ?_
    refine g_geti hx hb hw inG7 hown hK hG gl_81 rfl gk_81 (by decide) 6 (by decide) (by rw [gm_81]; decide) gr_81_6 lk69 dX7_leastDisputed_7 ?_
    obtain ⟨P_10, HC_10, HW⟩ := HW
    refine g_calli (g_runV (As := [.int (h 81 6)]) (rest := []) ⟨hx, hb, hml, hown, hts⟩ (m_X7_against l D cy ad h g H.size (h 81 6) P_10 HC_10) (cwV 1 hts (gd_V (wm3 117 rfl rfl) (wm3 118 rfl rfl) (wm3 119 rfl rfl) (wm1 5 rfl rfl) (wm3 120 rfl rfl)) rfl rfl rfl (by decide +kernel) ⟨Nat.le_of_ble_eq_true rfl, Nat.le_of_ble_eq_true rfl⟩) hK hNw hG gl_81 rfl gk_81 (by decide) rfl rfl hl.1 rfl (lv_room (Nat.le_of_ble_eq_true rfl)) dX7_leastDisputed_10 ⟨Nat.zero_le _, Nat.zero_le _⟩) hG (fun r_10 h_10 g_10 H locs hq hG => ?_)
    replace HW := HW r_10 h_10 g_10 hq
    refine lv_istore_n (lv' := [(2, .int r_10), (1, .int x1_4), (0, .ref (ad 81))]) hx hb dX7_leastDisputed_13 rfl hl (by decide) rfl (fun ls hl => ?_)
    refine lv_iconst (v := 0) hx hb dX7_leastDisputed_14 (by decide) ?_
    refine lv_istore_n (lv' := [(3, .int (0 : Int32)), (2, .int r_10), (1, .int x1_4), (0, .ref (ad 81))]) hx hb dX7_leastDisputed_15 rfl hl (by decide) rfl (fun ls hl => ?_)
    obtain ⟨n_16, HW⟩ := HW
    exact L16 n_16 x1_4 r_10 (0 : Int32) h_10 g_10 _ _ _ HW hG (lv_sub hl [3, 2, 1, 0] rfl)
  exact E0 _ _ _ hG hl

def j_X7_objector_53 (Q : Int32 → HI → HL → Prop) (K5 : Int32 → Int32 → Int32 → Int32 → HI → HL → Prop) (x1 : Int32) (x2 : Int32) (x3 : Int32) (x4 : Int32) (h : HI) (g : HL) : Prop :=
  (∀ x4_53 : Int32, x4_53 = (x4 + 1) → K5 x1 x2 x3 x4_53 h g)
def b_X7_objector_5 (Q : Int32 → HI → HL → Prop) (K5 : Int32 → Int32 → Int32 → Int32 → HI → HL → Prop) (x1 : Int32) (x2 : Int32) (x3 : Int32) (x4 : Int32) (h : HI) (g : HL) : Prop :=
  (((h 81 5) ≤ x4 → Q (-1 : Int32) h g) ∧ (¬ (h 81 5) ≤ x4 → (((60 : Int32) ≤ x4 → Q (-1 : Int32) h g) ∧ (¬ (60 : Int32) ≤ x4 → (∃ P_28 : Int32 → HI → HL → Prop, w_X7_denies x4 x1 h g P_28 ∧ ∀ (r_28 : Int32) (h_28 : HI) (g_28 : HL), zb r_28 → P_28 r_28 h_28 g_28 → ((¬ r_28 = 0 → ((¬ x3 = x2 → (∀ x3_50 : Int32, x3_50 = (x3 + 1) → j_X7_objector_53 Q K5 x1 x2 x3_50 x4 h_28 g_28)) ∧ (x3 = x2 → (vp_in x4 60 ∧ Q (h_28 84 x4.toNatClampNeg) h_28 g_28)))) ∧ (r_28 = 0 → j_X7_objector_53 Q K5 x1 x2 x3 x4 h_28 g_28)))))))
def F_X7_objector_5 (Q : Int32 → HI → HL → Prop) (K : Int32 × Int32 × Int32 × Int32 × HI × HL → Prop) (q : Int32 × Int32 × Int32 × Int32 × HI × HL) : Prop := b_X7_objector_5 Q (fun x1 x2 x3 x4 h g => K (x1, x2, x3, x4, h, g)) q.1 q.2.1 q.2.2.1 q.2.2.2.1 q.2.2.2.2.1 q.2.2.2.2.2
def w_X7_objector (x1 : Int32) (x2 : Int32) (h : HI) (g : HL) (Q : Int32 → HI → HL → Prop) : Prop :=
  lpE (F_X7_objector_5 Q) (x1, x2, (0 : Int32), (0 : Int32), h, g)
set_option maxHeartbeats 8000000 in
set_option maxRecDepth 100000 in
theorem m_X7_objector (l : Launch) (D : va_G) (cy : Nat → ClassId) (ad : Nat → Nat) (h : HI) (g : HL) (sz : Nat) (x1 : Int32) (x2 : Int32) (Q : Int32 → HI → HL → Prop) (HW : w_X7_objector x1 x2 h g Q) : Met l yX7_objector (wa yX7_objector cX7_objector 5 (some .int)) ({ frames := 1, cells := 0, slots := 0, locals := 22 }) (va_Pc [.ref (ad 81), .int x1, .int x2] (gI D cy ad h g sz)) (va_Qi (fun (r : Int32) (u : HI × HL) => Q r u.1 u.2) (gB D cy ad sz) (gA ad sz)) 0 0 (gA ad sz) := by
  refine Met.ofW (cc := cX7_objector) (maxL := 5) (ret := (some .int)) (by decide) rfl ?_
  intro p e s m args below meth c s₁ B hml hv
  obtain ⟨hav, hsz, hP, hK, hD0, hNw⟩ := hv
  have hx := B.exec
  have hb := B.bytes
  have hr := B.returns
  have hts := atoms_spec (ws := (wa yX7_objector cX7_objector 5 (some .int))) B.pre
  have hw := wa_hw hts
  have hown : s.vm.findClass RX7 = some m.cls := findClass_of_methodNamed B.named
  have hlocks := B.notSynchronized
  subst hsz
  have hG : gG D cy ad (gA ad s.heap.size) s.heap h g s.heap [] := ⟨hP, gA_self hD0, va_S.rf⟩
  clear hP hD0
  have lk45 := hw (.fieldLink RX7 45 "OldWorks$Sizes" "said" "I") (wm1 173 rfl rfl)
  have lk26 := hw (.fieldLink RX7 26 "OldWorks$Sizes" "sayings" "[I") (wm1 172 rfl rfl)
  rw [show (headSpec (wa yX7_objector cX7_objector 5 (some .int)) ({ frames := 1, cells := 0, slots := 0, locals := 22 } : Room)).room = ({ frames := 1, cells := 0, slots := 0, locals := 22 } : Room) from rfl]
  have hl := lv_entry ([.ref (ad 81), .int x1, .int x2]) (n := 5) (Nat.le_of_ble_eq_true rfl)
  rw [show entryFrame m args 5 = entryFrame m ([.ref (ad 81), .int x1, .int x2] : List Value).toArray 5 from by rw [hav], lg_entry_eq]
  generalize (lg_sl ([.ref (ad 81), .int x1, .int x2]) ++ List.replicate (5 - (lg_sl ([.ref (ad 81), .int x1, .int x2])).length) Slot.unset).toArray = ls at hl ⊢
  have hl : lv_has ls 5 [(0, .ref (ad 81)), (1, .int x1), (2, .int x2)] := hl
  have B53 : ∀ (K5 : Int32 → Int32 → Int32 → Int32 → HI → HL → Prop) (hK5 : ∀ (x1 : Int32) (x2 : Int32) (x3 : Int32) (x4 : Int32) (h : HI) (g : HL) (H : Heap) (locs : List Loc) (ls : Array Slot), K5 x1 x2 x3 x4 h g → gG D cy ad (gA ad s.heap.size) s.heap h g H locs → lv_has ls 5 [(0, .ref (ad 81)), (1, .int x1), (2, .int x2), (3, .int x3), (4, .int x4)] → W p l e ({ frames := 1, cells := 0, slots := 0, locals := 22 } : Room) s m args below meth c H locs 0 0 (MQ below (va_Qi (fun (r : Int32) (u : HI × HL) => Q r u.1 u.2) (gB D cy ad s.heap.size) (gA ad s.heap.size)) args s 0 0 (gA ad s.heap.size)) (F0 m 5 ls [])) (x1 : Int32) (x2 : Int32) (x3 : Int32) (x4 : Int32) (h : HI) (g : HL) (H : Heap) (locs : List Loc) (ls : Array Slot), j_X7_objector_53 Q K5 x1 x2 x3 x4 h g → gG D cy ad (gA ad s.heap.size) s.heap h g H locs → lv_has ls 5 [(0, .ref (ad 81)), (1, .int x1), (2, .int x2), (3, .int x3), (4, .int x4)] → W p l e ({ frames := 1, cells := 0, slots := 0, locals := 22 } : Room) s m args below meth c H locs 0 0 (MQ below (va_Qi (fun (r : Int32) (u : HI × HL) => Q r u.1 u.2) (gB D cy ad s.heap.size) (gA ad s.heap.size)) args s 0 0 (gA ad s.heap.size)) (F0 m 53 ls []) := by
    intro K5 hK5 x1 x2 x3 x4 h g H locs ls HW hG hl
    unfold j_X7_objector_53 at HW
    obtain ⟨x4_53, ex4_53⟩ : ∃ y : Int32, y = (x4 + 1) := ⟨_, rfl⟩
    replace HW := HW x4_53 ex4_53
    refine lv_iinc (v := x4_53) (lv' := [(4, .int x4_53), (0, .ref (ad 81)), (1, .int x1), (2, .int x2), (3, .int x3)]) hx hb dX7_objector_53 hl (k := 4) rfl (by rw [ex4_53]; rfl) (by decide) rfl (fun ls hl => ?_)
    refine lv_goto (tgt := 5) hx hb dX7_objector_56 (by decide) ?_
    exact hK5 x1 x2 x3 x4_53 h g _ _ _ HW hG (lv_sub hl [1, 2, 3, 4, 0] rfl)
  have L5 : ∀ (n : Nat) (x1 : Int32) (x2 : Int32) (x3 : Int32) (x4 : Int32) (h : HI) (g : HL) (H : Heap) (locs : List Loc) (ls : Array Slot), lpN (F_X7_objector_5 Q) n (x1, x2, x3, x4, h, g) → gG D cy ad (gA ad s.heap.size) s.heap h g H locs → lv_has ls 5 [(0, .ref (ad 81)), (1, .int x1), (2, .int x2), (3, .int x3), (4, .int x4)] → W p l e ({ frames := 1, cells := 0, slots := 0, locals := 22 } : Room) s m args below meth c H locs 0 0 (MQ below (va_Qi (fun (r : Int32) (u : HI × HL) => Q r u.1 u.2) (gB D cy ad s.heap.size) (gA ad s.heap.size)) args s 0 0 (gA ad s.heap.size)) (F0 m 5 ls []) := by
    intro n
    induction n with
    | zero => intro x1 x2 x3 x4 h g H locs ls HW; exact HW.elim
    | succ n ih =>
      intro x1 x2 x3 x4 h g H locs ls HW hG hl
      have HW : b_X7_objector_5 Q (fun x1 x2 x3 x4 h g => lpN (F_X7_objector_5 Q) n (x1, x2, x3, x4, h, g)) x1 x2 x3 x4 h g := HW
      generalize hKe : (fun (x1 : Int32) (x2 : Int32) (x3 : Int32) (x4 : Int32) (h : HI) (g : HL) => lpN (F_X7_objector_5 Q) n (x1, x2, x3, x4, h, g)) = K5 at HW
      have hK5 : ∀ (x1 : Int32) (x2 : Int32) (x3 : Int32) (x4 : Int32) (h : HI) (g : HL) (H : Heap) (locs : List Loc) (ls : Array Slot), K5 x1 x2 x3 x4 h g → gG D cy ad (gA ad s.heap.size) s.heap h g H locs → lv_has ls 5 [(0, .ref (ad 81)), (1, .int x1), (2, .int x2), (3, .int x3), (4, .int x4)] → W p l e ({ frames := 1, cells := 0, slots := 0, locals := 22 } : Room) s m args below meth c H locs 0 0 (MQ below (va_Qi (fun (r : Int32) (u : HI × HL) => Q r u.1 u.2) (gB D cy ad s.heap.size) (gA ad s.heap.size)) args s 0 0 (gA ad s.heap.size)) (F0 m 5 ls []) := by subst hKe; exact ih
      clear ih
      clear hKe
      unfold b_X7_objector_5 at HW
      refine lv_iload hx hb dX7_objector_5 (lv_at hl 4 rfl) ?_
      refine lv_aload_n hx hb dX7_objector_7 rfl (lv_at hl 0 rfl) ?_
      refine g_geti hx hb hw inG7 hown hK hG gl_81 rfl gk_81 (by decide) 5 (by decide) (by rw [gm_81]; decide) gr_81_5 lk45 dX7_objector_8 ?_
      refine lv_icmp_ge (tgt := 59) hx hb dX7_objector_11 (by decide) (fun c_11 => ?_) (fun c_11 => ?_)
      · replace HW := HW.1 c_11
        refine lv_iconst (v := (-1)) hx hb dX7_objector_59 (by decide) ?_
        exact W.iret (v := (-1 : Int32)) hx hb hr (fun t ht hW => ⟨⟨(-1 : Int32), (h, g), rfl, HW, g_B ht hG⟩, hG.2.2.F ht⟩) hG.2.2.2.2 dX7_objector_60
      · replace HW := HW.2 c_11
        refine lv_iload hx hb dX7_objector_14 (lv_at hl 4 rfl) ?_
        refine lv_aload_n hx hb dX7_objector_16 rfl (lv_at hl 0 rfl) ?_
        refine g_getr hx hb hw inG7 hown hK hG gl_81 rfl gk_81 (by decide) 4 (by decide) (by rw [gm_81]; decide) (r := 84) gr_81_4 lk26 dX7_objector_17 ?_
        refine g_alen hx hb hK hG gl_84 gk_84 (v := (60 : Int32)) (by rw [gn_84]; decide) dX7_objector_20 ?_
        refine lv_icmp_ge (tgt := 59) hx hb dX7_objector_21 (by decide) (fun c_21 => ?_) (fun c_21 => ?_)
        · replace HW := HW.1 c_21
          refine lv_iconst (v := (-1)) hx hb dX7_objector_59 (by decide) ?_
          exact W.iret (v := (-1 : Int32)) hx hb hr (fun t ht hW => ⟨⟨(-1 : Int32), (h, g), rfl, HW, g_B ht hG⟩, hG.2.2.F ht⟩) hG.2.2.2.2 dX7_objector_60
        · replace HW := HW.2 c_21
          refine lv_aload_n hx hb dX7_objector_24 rfl (lv_at hl 0 rfl) ?_
          refine lv_iload hx hb dX7_objector_25 (lv_at hl 4 rfl) ?_
          refine lv_iload_n hx hb dX7_objector_27 rfl (lv_at hl 1 rfl) ?_
          obtain ⟨P_28, HC_28, HW⟩ := HW
          refine g_callz (g_runV (As := [.int x4, .int x1]) (rest := []) ⟨hx, hb, hml, hown, hts⟩ (m_X7_denies l D cy ad h g H.size x4 x1 P_28 HC_28) (cwV 2 hts (gd_V (wm3 121 rfl rfl) (wm3 123 rfl rfl) (wmp1 (q := (yX7_denies, 12)) 13 rfl) (wm1 5 rfl rfl) (wm3 124 rfl rfl)) rfl rfl rfl (by decide +kernel) ⟨Nat.le_of_ble_eq_true rfl, Nat.le_of_ble_eq_true rfl⟩) hK hNw hG gl_81 rfl gk_81 (by decide) rfl rfl hl.1 rfl (lv_room (Nat.le_of_ble_eq_true rfl)) dX7_objector_28 ⟨Nat.zero_le _, Nat.zero_le _⟩) hG (fun r_28 h_28 g_28 H locs hz hq hG => ?_)
          replace HW := HW r_28 h_28 g_28 hz hq
          refine lv_if_ne (tgt := 37) hx hb dX7_objector_31 (by decide) (fun c_31 => ?_) (fun c_31 => ?_)
          · replace HW := HW.1 c_31
            refine lv_iload_n hx hb dX7_objector_37 rfl (lv_at hl 3 rfl) ?_
            refine lv_iload_n hx hb dX7_objector_38 rfl (lv_at hl 2 rfl) ?_
            refine lv_icmp_ne (tgt := 50) hx hb dX7_objector_39 (by decide) (fun c_39 => ?_) (fun c_39 => ?_)
            · replace HW := HW.1 c_39
              obtain ⟨x3_50, ex3_50⟩ : ∃ y : Int32, y = (x3 + 1) := ⟨_, rfl⟩
              replace HW := HW x3_50 ex3_50
              refine lv_iinc (v := x3_50) (lv' := [(3, .int x3_50), (0, .ref (ad 81)), (1, .int x1), (2, .int x2), (4, .int x4)]) hx hb dX7_objector_50 hl (k := 3) rfl (by rw [ex3_50]; rfl) (by decide) rfl (fun ls hl => ?_)
              exact B53 K5 hK5 x1 x2 x3_50 x4 h_28 g_28 _ _ _ HW hG (lv_sub hl [1, 2, 3, 0, 4] rfl)
            · replace HW := HW.2 c_39
              refine lv_aload_n hx hb dX7_objector_42 rfl (lv_at hl 0 rfl) ?_
              refine g_getr hx hb hw inG7 hown hK hG gl_81 rfl gk_81 (by decide) 4 (by decide) (by rw [gm_81]; decide) (r := 84) gr_81_4 lk26 dX7_objector_43 ?_
              refine lv_iload hx hb dX7_objector_46 (lv_at hl 4 rfl) ?_
              refine g_iald hx hb hK hG gl_84 gk_84 gn_84 HW.1 dX7_objector_48 ?_
              replace HW := HW.2
              exact W.iret (v := (h_28 84 x4.toNatClampNeg)) hx hb hr (fun t ht hW => ⟨⟨(h_28 84 x4.toNatClampNeg), (h_28, g_28), rfl, HW, g_B ht hG⟩, hG.2.2.F ht⟩) hG.2.2.2.2 dX7_objector_49
          · replace HW := HW.2 c_31
            refine lv_goto (tgt := 53) hx hb dX7_objector_34 (by decide) ?_
            exact B53 K5 hK5 x1 x2 x3 x4 h_28 g_28 _ _ _ HW hG (lv_sub hl [0, 1, 2, 3, 4] rfl)
  have E0 : ∀ (H : Heap) (locs : List Loc) (ls : Array Slot), gG D cy ad (gA ad s.heap.size) s.heap h g H locs → lv_has ls 5 [(0, .ref (ad 81)), (1, .int x1), (2, .int x2)] → W p l e ({ frames := 1, cells := 0, slots := 0, locals := 22 } : Room) s m args below meth c H locs 0 0 (MQ below (va_Qi (fun (r : Int32) (u : HI × HL) => Q r u.1 u.2) (gB D cy ad s.heap.size) (gA ad s.heap.size)) args s 0 0 (gA ad s.heap.size)) (F0 m 0 ls []) := by
    intro H locs ls hG hl
    unfold w_X7_objector at HW
    refine lv_iconst (v := 0) hx hb dX7_objector_0 (by decide) ?_
    refine lv_istore_n (lv' := [(3, .int (0 : Int32)), (0, .ref (ad 81)), (1, .int x1), (2, .int x2)]) hx hb dX7_objector_1 rfl hl (by decide) rfl (fun ls hl => ?_)
    refine lv_iconst (v := 0) hx hb dX7_objector_2 (by decide) ?_
    refine lv_istore (lv' := [(4, .int (0 : Int32)), (3, .int (0 : Int32)), (0, .ref (ad 81)), (1, .int x1), (2, .int x2)]) hx hb dX7_objector_3 hl (by decide) rfl (fun ls hl => ?_)
    obtain ⟨n_5, HW⟩ := HW
    exact L5 n_5 x1 x2 (0 : Int32) (0 : Int32) h g _ _ _ HW hG (lv_sub hl [2, 3, 4, 1, 0] rfl)
  exact E0 _ _ _ hG hl

def w_X8_empty (o : Nat) (h : HI) (g : HL) (Q : HI → HL → Prop) : Prop :=
  (∀ h_2 : HI, h_2 = hu h o 3 (0 : Int32) → Q h_2 g)
set_option maxHeartbeats 8000000 in
set_option maxRecDepth 100000 in
theorem m_X8_empty (l : Launch) (D : va_G) (cy : Nat → ClassId) (ad : Nat → Nat) (h : HI) (g : HL) (sz : Nat) (o : Nat) (hT : isT o) (Q : HI → HL → Prop) (HW : w_X8_empty o h g Q) : Met l yX8_empty (wa yX8_empty cX8_empty 1 none) ({ frames := 0, cells := 0, slots := 0, locals := 0 }) (va_Pc [.ref (ad o)] (gI D cy ad h g sz)) (va_Qv (fun (u : HI × HL) => Q u.1 u.2) (gB D cy ad sz) (gA ad sz)) 0 0 (gA ad sz) := by
  refine Met.ofW (cc := cX8_empty) (maxL := 1) (ret := none) (by decide) rfl ?_
  intro p e s m args below meth c s₁ B hml hv
  obtain ⟨hav, hsz, hP, hK, hD0, hNw⟩ := hv
  have hx := B.exec
  have hb := B.bytes
  have hr := B.returns
  have hts := atoms_spec (ws := (wa yX8_empty cX8_empty 1 none)) B.pre
  have hw := wa_hw hts
  have hown : s.vm.findClass RX8 = some m.cls := findClass_of_methodNamed B.named
  have hlocks := B.notSynchronized
  subst hsz
  have hG : gG D cy ad (gA ad s.heap.size) s.heap h g s.heap [] := ⟨hP, gA_self hD0, va_S.rf⟩
  clear hP hD0
  have lk22 := hw (.fieldLink RX8 22 "OldWorks$Table" "many" "I") (wm1 40 rfl rfl)
  rw [show (headSpec (wa yX8_empty cX8_empty 1 none) ({ frames := 0, cells := 0, slots := 0, locals := 0 } : Room)).room = ({ frames := 0, cells := 0, slots := 0, locals := 0 } : Room) from rfl]
  have hl := lv_entry ([.ref (ad o)]) (n := 1) (Nat.le_of_ble_eq_true rfl)
  rw [show entryFrame m args 1 = entryFrame m ([.ref (ad o)] : List Value).toArray 1 from by rw [hav], lg_entry_eq]
  generalize (lg_sl ([.ref (ad o)]) ++ List.replicate (1 - (lg_sl ([.ref (ad o)])).length) Slot.unset).toArray = ls at hl ⊢
  have hl : lv_has ls 1 [(0, .ref (ad o))] := hl
  have E0 : ∀ (H : Heap) (locs : List Loc) (ls : Array Slot), gG D cy ad (gA ad s.heap.size) s.heap h g H locs → lv_has ls 1 [(0, .ref (ad o))] → W p l e ({ frames := 0, cells := 0, slots := 0, locals := 0 } : Room) s m args below meth c H locs 0 0 (MQ below (va_Qv (fun (u : HI × HL) => Q u.1 u.2) (gB D cy ad s.heap.size) (gA ad s.heap.size)) args s 0 0 (gA ad s.heap.size)) (F0 m 0 ls []) := by
    intro H locs ls hG hl
    unfold w_X8_empty at HW
    refine lv_aload_n hx hb dX8_empty_0 rfl (lv_at hl 0 rfl) ?_
    refine lv_iconst (v := 0) hx hb dX8_empty_1 (by decide) ?_
    refine g_put hx hb hw inG8 tyX8 tyX8_ok nmX8 hown hK hG hT.lt rfl hT.k (by decide) 3 (by decide) (by rw [hT.m]; decide) hT.r.2.2.2 rfl (ty := .int) (by decide +kernel) rfl rfl lk22 dX8_empty_2 (fun H locs hG => ?_)
    obtain ⟨h_2, eh_2⟩ : ∃ y : HI, y = hu h o 3 (0 : Int32) := ⟨_, rfl⟩
    rw [← eh_2] at hG
    replace HW := HW h_2 eh_2
    exact W.vret hx hb hr (fun t ht hW => ⟨⟨(h_2, g), rfl, HW, g_B ht hG⟩, hG.2.2.F ht⟩) hG.2.2.2.2 dX8_empty_5
  exact E0 _ _ _ hG hl

def w_X8_put (o : Nat) (x1 : Int32) (x2 : Int32) (x3 : Int32) (h : HI) (g : HL) (Q : HI → HL → Prop) : Prop :=
  ((x1 < 0 → Q h g) ∧ (¬ x1 < 0 → (((h o 3) ≤ x1 → Q h g) ∧ (¬ (h o 3) ≤ x1 → ((x2 < 0 → Q h g) ∧ (¬ x2 < 0 → ((x2 < (h o 1) → (∀ x4_33 : Int32, x4_33 = ((x1 * (h o 1)) + x2) → (((Int32.ofNat (gN (o + 1))) ≤ x4_33 → Q h g) ∧ (¬ (Int32.ofNat (gN (o + 1))) ≤ x4_33 → (vp_in x4_33 (gN (o + 1)) ∧ ∀ h_52 : HI, h_52 = hu h (o + 1) x4_33.toNatClampNeg x3 → Q h_52 g))))) ∧ (¬ x2 < (h o 1) → Q h g))))))))
set_option maxHeartbeats 8000000 in
set_option maxRecDepth 100000 in
theorem m_X8_put (l : Launch) (D : va_G) (cy : Nat → ClassId) (ad : Nat → Nat) (h : HI) (g : HL) (sz : Nat) (o : Nat) (hT : isT o) (x1 : Int32) (x2 : Int32) (x3 : Int32) (Q : HI → HL → Prop) (HW : w_X8_put o x1 x2 x3 h g Q) : Met l yX8_put (wa yX8_put cX8_put 5 none) ({ frames := 0, cells := 0, slots := 0, locals := 0 }) (va_Pc [.ref (ad o), .int x1, .int x2, .int x3] (gI D cy ad h g sz)) (va_Qv (fun (u : HI × HL) => Q u.1 u.2) (gB D cy ad sz) (gA ad sz)) 0 0 (gA ad sz) := by
  refine Met.ofW (cc := cX8_put) (maxL := 5) (ret := none) (by decide) rfl ?_
  intro p e s m args below meth c s₁ B hml hv
  obtain ⟨hav, hsz, hP, hK, hD0, hNw⟩ := hv
  have hx := B.exec
  have hb := B.bytes
  have hr := B.returns
  have hts := atoms_spec (ws := (wa yX8_put cX8_put 5 none)) B.pre
  have hw := wa_hw hts
  have hown : s.vm.findClass RX8 = some m.cls := findClass_of_methodNamed B.named
  have hlocks := B.notSynchronized
  subst hsz
  have hG : gG D cy ad (gA ad s.heap.size) s.heap h g s.heap [] := ⟨hP, gA_self hD0, va_S.rf⟩
  clear hP hD0
  have lk22 := hw (.fieldLink RX8 22 "OldWorks$Table" "many" "I") (wm1 40 rfl rfl)
  have lk15 := hw (.fieldLink RX8 15 "OldWorks$Table" "width" "I") (wm1 38 rfl rfl)
  have lk18 := hw (.fieldLink RX8 18 "OldWorks$Table" "cells" "[I") (wm1 37 rfl rfl)
  rw [show (headSpec (wa yX8_put cX8_put 5 none) ({ frames := 0, cells := 0, slots := 0, locals := 0 } : Room)).room = ({ frames := 0, cells := 0, slots := 0, locals := 0 } : Room) from rfl]
  have hl := lv_entry ([.ref (ad o), .int x1, .int x2, .int x3]) (n := 5) (Nat.le_of_ble_eq_true rfl)
  rw [show entryFrame m args 5 = entryFrame m ([.ref (ad o), .int x1, .int x2, .int x3] : List Value).toArray 5 from by rw [hav], lg_entry_eq]
  generalize (lg_sl ([.ref (ad o), .int x1, .int x2, .int x3]) ++ List.replicate (5 - (lg_sl ([.ref (ad o), .int x1, .int x2, .int x3])).length) Slot.unset).toArray = ls at hl ⊢
  have hl : lv_has ls 5 [(0, .ref (ad o)), (1, .int x1), (2, .int x2), (3, .int x3)] := hl
  have E0 : ∀ (H : Heap) (locs : List Loc) (ls : Array Slot), gG D cy ad (gA ad s.heap.size) s.heap h g H locs → lv_has ls 5 [(0, .ref (ad o)), (1, .int x1), (2, .int x2), (3, .int x3)] → W p l e ({ frames := 0, cells := 0, slots := 0, locals := 0 } : Room) s m args below meth c H locs 0 0 (MQ below (va_Qv (fun (u : HI × HL) => Q u.1 u.2) (gB D cy ad s.heap.size) (gA ad s.heap.size)) args s 0 0 (gA ad s.heap.size)) (F0 m 0 ls []) := by
    intro H locs ls hG hl
    unfold w_X8_put at HW
    refine lv_iload_n hx hb dX8_put_0 rfl (lv_at hl 1 rfl) ?_
    refine lv_if_lt (tgt := 24) hx hb dX8_put_1 (by decide) (fun c_1 => ?_) (fun c_1 => ?_)
    · replace HW := HW.1 c_1
      exact W.vret hx hb hr (fun t ht hW => ⟨⟨(h, g), rfl, HW, g_B ht hG⟩, hG.2.2.F ht⟩) hG.2.2.2.2 dX8_put_24
    · replace HW := HW.2 c_1
      refine lv_iload_n hx hb dX8_put_4 rfl (lv_at hl 1 rfl) ?_
      refine lv_aload_n hx hb dX8_put_5 rfl (lv_at hl 0 rfl) ?_
      refine g_geti hx hb hw inG8 hown hK hG hT.lt rfl hT.k (by decide) 3 (by decide) (by rw [hT.m]; decide) hT.r.2.2.2 lk22 dX8_put_6 ?_
      refine lv_icmp_ge (tgt := 24) hx hb dX8_put_9 (by decide) (fun c_9 => ?_) (fun c_9 => ?_)
      · replace HW := HW.1 c_9
        exact W.vret hx hb hr (fun t ht hW => ⟨⟨(h, g), rfl, HW, g_B ht hG⟩, hG.2.2.F ht⟩) hG.2.2.2.2 dX8_put_24
      · replace HW := HW.2 c_9
        refine lv_iload_n hx hb dX8_put_12 rfl (lv_at hl 2 rfl) ?_
        refine lv_if_lt (tgt := 24) hx hb dX8_put_13 (by decide) (fun c_13 => ?_) (fun c_13 => ?_)
        · replace HW := HW.1 c_13
          exact W.vret hx hb hr (fun t ht hW => ⟨⟨(h, g), rfl, HW, g_B ht hG⟩, hG.2.2.F ht⟩) hG.2.2.2.2 dX8_put_24
        · replace HW := HW.2 c_13
          refine lv_iload_n hx hb dX8_put_16 rfl (lv_at hl 2 rfl) ?_
          refine lv_aload_n hx hb dX8_put_17 rfl (lv_at hl 0 rfl) ?_
          refine g_geti hx hb hw inG8 hown hK hG hT.lt rfl hT.k (by decide) 1 (by decide) (by rw [hT.m]; decide) hT.r.2.1 lk15 dX8_put_18 ?_
          refine lv_icmp_lt (tgt := 25) hx hb dX8_put_21 (by decide) (fun c_21 => ?_) (fun c_21 => ?_)
          · replace HW := HW.1 c_21
            refine lv_iload_n hx hb dX8_put_25 rfl (lv_at hl 1 rfl) ?_
            refine lv_aload_n hx hb dX8_put_26 rfl (lv_at hl 0 rfl) ?_
            refine g_geti hx hb hw inG8 hown hK hG hT.lt rfl hT.k (by decide) 1 (by decide) (by rw [hT.m]; decide) hT.r.2.1 lk15 dX8_put_27 ?_
            refine lv_imul hx hb dX8_put_30 ?_
            refine lv_iload_n hx hb dX8_put_31 rfl (lv_at hl 2 rfl) ?_
            refine lv_iadd hx hb dX8_put_32 ?_
            refine lv_topi (fun x4_33 ex4_33 => ?_)
            replace HW := HW x4_33 ex4_33
            refine lv_istore (lv' := [(4, .int x4_33), (0, .ref (ad o)), (1, .int x1), (2, .int x2), (3, .int x3)]) hx hb dX8_put_33 hl (by decide) rfl (fun ls hl => ?_)
            refine lv_iload hx hb dX8_put_35 (lv_at hl 0 rfl) ?_
            refine lv_aload_n hx hb dX8_put_37 rfl (lv_at hl 1 rfl) ?_
            refine g_getr hx hb hw inG8 hown hK hG hT.lt rfl hT.k (by decide) 0 (by decide) (by rw [hT.m]; decide) (r := (o + 1)) hT.r.1 lk18 dX8_put_38 ?_
            refine g_alen hx hb hK hG hT.a.2 hT.a.1 (v := (Int32.ofNat (gN (o + 1)))) rfl dX8_put_41 ?_
            refine lv_icmp_ge (tgt := 53) hx hb dX8_put_42 (by decide) (fun c_42 => ?_) (fun c_42 => ?_)
            · replace HW := HW.1 c_42
              exact W.vret hx hb hr (fun t ht hW => ⟨⟨(h, g), rfl, HW, g_B ht hG⟩, hG.2.2.F ht⟩) hG.2.2.2.2 dX8_put_53
            · replace HW := HW.2 c_42
              refine lv_aload_n hx hb dX8_put_45 rfl (lv_at hl 1 rfl) ?_
              refine g_getr hx hb hw inG8 hown hK hG hT.lt rfl hT.k (by decide) 0 (by decide) (by rw [hT.m]; decide) (r := (o + 1)) hT.r.1 lk18 dX8_put_46 ?_
              refine lv_iload hx hb dX8_put_49 (lv_at hl 0 rfl) ?_
              refine lv_iload_n hx hb dX8_put_51 rfl (lv_at hl 4 rfl) ?_
              refine g_iast hx hb hK hG hT.a.2 hT.a.1 rfl HW.1 dX8_put_52 (fun H locs hG => ?_)
              replace HW := HW.2
              obtain ⟨h_52, eh_52⟩ : ∃ y : HI, y = hu h (o + 1) x4_33.toNatClampNeg x3 := ⟨_, rfl⟩
              rw [← eh_52] at hG
              replace HW := HW h_52 eh_52
              exact W.vret hx hb hr (fun t ht hW => ⟨⟨(h_52, g), rfl, HW, g_B ht hG⟩, hG.2.2.F ht⟩) hG.2.2.2.2 dX8_put_53
          · replace HW := HW.2 c_21
            exact W.vret hx hb hr (fun t ht hW => ⟨⟨(h, g), rfl, HW, g_B ht hG⟩, hG.2.2.F ht⟩) hG.2.2.2.2 dX8_put_24
  exact E0 _ _ _ hG hl

def b_X8_add_33 (o : Nat) (Q : Int32 → HI → HL → Prop) (K33 : Int32 → Int32 → Int32 → Int32 → Int32 → Int32 → HI → HL → Prop) (x1 : Int32) (x2 : Int32) (x3 : Int32) (x4 : Int32) (x5 : Int32) (x6 : Int32) (h : HI) (g : HL) : Prop :=
  (((h o 1) ≤ x6 → (∃ P_62 : HI → HL → Prop, w_X8_put o x5 (0 : Int32) x1 h g P_62 ∧ ∀ (h_62 : HI) (g_62 : HL), P_62 h_62 g_62 → (∃ P_70 : HI → HL → Prop, w_X8_put o x5 (1 : Int32) x2 h_62 g_62 P_70 ∧ ∀ (h_70 : HI) (g_70 : HL), P_70 h_70 g_70 → (∃ P_78 : HI → HL → Prop, w_X8_put o x5 (2 : Int32) x3 h_70 g_70 P_78 ∧ ∀ (h_78 : HI) (g_78 : HL), P_78 h_78 g_78 → (∃ P_87 : HI → HL → Prop, w_X8_put o x5 (3 : Int32) x4 h_78 g_78 P_87 ∧ ∀ (h_87 : HI) (g_87 : HL), P_87 h_87 g_87 → Q x5 h_87 g_87))))) ∧ (¬ (h o 1) ≤ x6 → (∃ P_48 : HI → HL → Prop, w_X8_put o x5 x6 (0 : Int32) h g P_48 ∧ ∀ (h_48 : HI) (g_48 : HL), P_48 h_48 g_48 → (∀ x6_51 : Int32, x6_51 = (x6 + 1) → K33 x1 x2 x3 x4 x5 x6_51 h_48 g_48))))
def F_X8_add_33 (o : Nat) (Q : Int32 → HI → HL → Prop) (K : Int32 × Int32 × Int32 × Int32 × Int32 × Int32 × HI × HL → Prop) (q : Int32 × Int32 × Int32 × Int32 × Int32 × Int32 × HI × HL) : Prop := b_X8_add_33 o Q (fun x1 x2 x3 x4 x5 x6 h g => K (x1, x2, x3, x4, x5, x6, h, g)) q.1 q.2.1 q.2.2.1 q.2.2.2.1 q.2.2.2.2.1 q.2.2.2.2.2.1 q.2.2.2.2.2.2.1 q.2.2.2.2.2.2.2
def w_X8_add (o : Nat) (x1 : Int32) (x2 : Int32) (x3 : Int32) (x4 : Int32) (h : HI) (g : HL) (Q : Int32 → HI → HL → Prop) : Prop :=
  (((h o 3) < (h o 2) → (∀ x5_18 : Int32, x5_18 = (h o 3) → (∀ h_27 : HI, h_27 = hu h o 3 ((h o 3) + (1 : Int32)) → lpE (F_X8_add_33 o Q) (x1, x2, x3, x4, x5_18, (4 : Int32), h_27, g)))) ∧ (¬ (h o 3) < (h o 2) → Q (-4 : Int32) h g))
set_option maxHeartbeats 8000000 in
set_option maxRecDepth 100000 in
theorem m_X8_add (l : Launch) (D : va_G) (cy : Nat → ClassId) (ad : Nat → Nat) (h : HI) (g : HL) (sz : Nat) (o : Nat) (hT : isT o) (x1 : Int32) (x2 : Int32) (x3 : Int32) (x4 : Int32) (Q : Int32 → HI → HL → Prop) (HW : w_X8_add o x1 x2 x3 x4 h g Q) : Met l yX8_add (wa yX8_add cX8_add 7 (some .int)) ({ frames := 1, cells := 0, slots := 0, locals := 24 }) (va_Pc [.ref (ad o), .int x1, .int x2, .int x3, .int x4] (gI D cy ad h g sz)) (va_Qi (fun (r : Int32) (u : HI × HL) => Q r u.1 u.2) (gB D cy ad sz) (gA ad sz)) 0 0 (gA ad sz) := by
  refine Met.ofW (cc := cX8_add) (maxL := 7) (ret := (some .int)) (by decide) rfl ?_
  intro p e s m args below meth c s₁ B hml hv
  obtain ⟨hav, hsz, hP, hK, hD0, hNw⟩ := hv
  have hx := B.exec
  have hb := B.bytes
  have hr := B.returns
  have hts := atoms_spec (ws := (wa yX8_add cX8_add 7 (some .int))) B.pre
  have hw := wa_hw hts
  have hown : s.vm.findClass RX8 = some m.cls := findClass_of_methodNamed B.named
  have hlocks := B.notSynchronized
  subst hsz
  have hG : gG D cy ad (gA ad s.heap.size) s.heap h g s.heap [] := ⟨hP, gA_self hD0, va_S.rf⟩
  clear hP hD0
  have lk22 := hw (.fieldLink RX8 22 "OldWorks$Table" "many" "I") (wm1 40 rfl rfl)
  have lk9 := hw (.fieldLink RX8 9 "OldWorks$Table" "most" "I") (wm1 39 rfl rfl)
  have lk15 := hw (.fieldLink RX8 15 "OldWorks$Table" "width" "I") (wm1 38 rfl rfl)
  rw [show (headSpec (wa yX8_add cX8_add 7 (some .int)) ({ frames := 1, cells := 0, slots := 0, locals := 24 } : Room)).room = ({ frames := 1, cells := 0, slots := 0, locals := 24 } : Room) from rfl]
  have hl := lv_entry ([.ref (ad o), .int x1, .int x2, .int x3, .int x4]) (n := 7) (Nat.le_of_ble_eq_true rfl)
  rw [show entryFrame m args 7 = entryFrame m ([.ref (ad o), .int x1, .int x2, .int x3, .int x4] : List Value).toArray 7 from by rw [hav], lg_entry_eq]
  generalize (lg_sl ([.ref (ad o), .int x1, .int x2, .int x3, .int x4]) ++ List.replicate (7 - (lg_sl ([.ref (ad o), .int x1, .int x2, .int x3, .int x4])).length) Slot.unset).toArray = ls at hl ⊢
  have hl : lv_has ls 7 [(0, .ref (ad o)), (1, .int x1), (2, .int x2), (3, .int x3), (4, .int x4)] := hl
  have L33 : ∀ (n : Nat) (x1 : Int32) (x2 : Int32) (x3 : Int32) (x4 : Int32) (x5 : Int32) (x6 : Int32) (h : HI) (g : HL) (H : Heap) (locs : List Loc) (ls : Array Slot), lpN (F_X8_add_33 o Q) n (x1, x2, x3, x4, x5, x6, h, g) → gG D cy ad (gA ad s.heap.size) s.heap h g H locs → lv_has ls 7 [(0, .ref (ad o)), (1, .int x1), (2, .int x2), (3, .int x3), (4, .int x4), (5, .int x5), (6, .int x6)] → W p l e ({ frames := 1, cells := 0, slots := 0, locals := 24 } : Room) s m args below meth c H locs 0 0 (MQ below (va_Qi (fun (r : Int32) (u : HI × HL) => Q r u.1 u.2) (gB D cy ad s.heap.size) (gA ad s.heap.size)) args s 0 0 (gA ad s.heap.size)) (F0 m 33 ls []) := by
    intro n
    induction n with
    | zero => intro x1 x2 x3 x4 x5 x6 h g H locs ls HW; exact HW.elim
    | succ n ih =>
      intro x1 x2 x3 x4 x5 x6 h g H locs ls HW hG hl
      have HW : b_X8_add_33 o Q (fun x1 x2 x3 x4 x5 x6 h g => lpN (F_X8_add_33 o Q) n (x1, x2, x3, x4, x5, x6, h, g)) x1 x2 x3 x4 x5 x6 h g := HW
      generalize hKe : (fun (x1 : Int32) (x2 : Int32) (x3 : Int32) (x4 : Int32) (x5 : Int32) (x6 : Int32) (h : HI) (g : HL) => lpN (F_X8_add_33 o Q) n (x1, x2, x3, x4, x5, x6, h, g)) = K33 at HW
      have hK33 : ∀ (x1 : Int32) (x2 : Int32) (x3 : Int32) (x4 : Int32) (x5 : Int32) (x6 : Int32) (h : HI) (g : HL) (H : Heap) (locs : List Loc) (ls : Array Slot), K33 x1 x2 x3 x4 x5 x6 h g → gG D cy ad (gA ad s.heap.size) s.heap h g H locs → lv_has ls 7 [(0, .ref (ad o)), (1, .int x1), (2, .int x2), (3, .int x3), (4, .int x4), (5, .int x5), (6, .int x6)] → W p l e ({ frames := 1, cells := 0, slots := 0, locals := 24 } : Room) s m args below meth c H locs 0 0 (MQ below (va_Qi (fun (r : Int32) (u : HI × HL) => Q r u.1 u.2) (gB D cy ad s.heap.size) (gA ad s.heap.size)) args s 0 0 (gA ad s.heap.size)) (F0 m 33 ls []) := by subst hKe; exact ih
      clear ih
      clear hKe
      unfold b_X8_add_33 at HW
      refine lv_iload hx hb dX8_add_33 (lv_at hl 6 rfl) ?_
      refine lv_aload_n hx hb dX8_add_35 rfl (lv_at hl 0 rfl) ?_
      refine g_geti hx hb hw inG8 hown hK hG hT.lt rfl hT.k (by decide) 1 (by decide) (by rw [hT.m]; decide) hT.r.2.1 lk15 dX8_add_36 ?_
      refine lv_icmp_ge (tgt := 57) hx hb dX8_add_39 (by decide) (fun c_39 => ?_) (fun c_39 => ?_)
      · replace HW := HW.1 c_39
        refine lv_aload_n hx hb dX8_add_57 rfl (lv_at hl 0 rfl) ?_
        refine lv_iload hx hb dX8_add_58 (lv_at hl 5 rfl) ?_
        refine lv_iconst (v := 0) hx hb dX8_add_60 (by decide) ?_
        refine lv_iload_n hx hb dX8_add_61 rfl (lv_at hl 1 rfl) ?_
        obtain ⟨P_62, HC_62, HW⟩ := HW
        refine g_callv (g_runV (As := [.int x5, .int (0 : Int32), .int x1]) (rest := []) ⟨hx, hb, hml, hown, hts⟩ (m_X8_put l D cy ad h g H.size o hT x5 (0 : Int32) x1 P_62 HC_62) (cwV 3 hts (gd_V (wm1 56 rfl rfl) (wm1 57 rfl rfl) (wm1 58 rfl rfl) (wm1 3 rfl rfl) (wm1 59 rfl rfl)) rfl rfl rfl (by decide +kernel) ⟨Nat.le_of_ble_eq_true rfl, Nat.le_of_ble_eq_true rfl⟩) hK hNw hG hT.lt rfl hT.k (by decide) rfl rfl hl.1 rfl (lv_room (Nat.le_of_ble_eq_true rfl)) dX8_add_62 ⟨Nat.zero_le _, Nat.zero_le _⟩) hG (fun h_62 g_62 H locs hq hG => ?_)
        replace HW := HW h_62 g_62 hq
        refine lv_aload_n hx hb dX8_add_65 rfl (lv_at hl 0 rfl) ?_
        refine lv_iload hx hb dX8_add_66 (lv_at hl 5 rfl) ?_
        refine lv_iconst (v := 1) hx hb dX8_add_68 (by decide) ?_
        refine lv_iload_n hx hb dX8_add_69 rfl (lv_at hl 2 rfl) ?_
        obtain ⟨P_70, HC_70, HW⟩ := HW
        refine g_callv (g_runV (As := [.int x5, .int (1 : Int32), .int x2]) (rest := []) ⟨hx, hb, hml, hown, hts⟩ (m_X8_put l D cy ad h_62 g_62 H.size o hT x5 (1 : Int32) x2 P_70 HC_70) (cwV 3 hts (gd_V (wm1 56 rfl rfl) (wm1 57 rfl rfl) (wm1 58 rfl rfl) (wm1 3 rfl rfl) (wm1 59 rfl rfl)) rfl rfl rfl (by decide +kernel) ⟨Nat.le_of_ble_eq_true rfl, Nat.le_of_ble_eq_true rfl⟩) hK hNw hG hT.lt rfl hT.k (by decide) rfl rfl hl.1 rfl (lv_room (Nat.le_of_ble_eq_true rfl)) dX8_add_70 ⟨Nat.zero_le _, Nat.zero_le _⟩) hG (fun h_70 g_70 H locs hq hG => ?_)
        replace HW := HW h_70 g_70 hq
        refine lv_aload_n hx hb dX8_add_73 rfl (lv_at hl 0 rfl) ?_
        refine lv_iload hx hb dX8_add_74 (lv_at hl 5 rfl) ?_
        refine lv_iconst (v := 2) hx hb dX8_add_76 (by decide) ?_
        refine lv_iload_n hx hb dX8_add_77 rfl (lv_at hl 3 rfl) ?_
        obtain ⟨P_78, HC_78, HW⟩ := HW
        refine g_callv (g_runV (As := [.int x5, .int (2 : Int32), .int x3]) (rest := []) ⟨hx, hb, hml, hown, hts⟩ (m_X8_put l D cy ad h_70 g_70 H.size o hT x5 (2 : Int32) x3 P_78 HC_78) (cwV 3 hts (gd_V (wm1 56 rfl rfl) (wm1 57 rfl rfl) (wm1 58 rfl rfl) (wm1 3 rfl rfl) (wm1 59 rfl rfl)) rfl rfl rfl (by decide +kernel) ⟨Nat.le_of_ble_eq_true rfl, Nat.le_of_ble_eq_true rfl⟩) hK hNw hG hT.lt rfl hT.k (by decide) rfl rfl hl.1 rfl (lv_room (Nat.le_of_ble_eq_true rfl)) dX8_add_78 ⟨Nat.zero_le _, Nat.zero_le _⟩) hG (fun h_78 g_78 H locs hq hG => ?_)
        replace HW := HW h_78 g_78 hq
        refine lv_aload_n hx hb dX8_add_81 rfl (lv_at hl 0 rfl) ?_
        refine lv_iload hx hb dX8_add_82 (lv_at hl 5 rfl) ?_
        refine lv_iconst (v := 3) hx hb dX8_add_84 (by decide) ?_
        refine lv_iload hx hb dX8_add_85 (lv_at hl 4 rfl) ?_
        obtain ⟨P_87, HC_87, HW⟩ := HW
        refine g_callv (g_runV (As := [.int x5, .int (3 : Int32), .int x4]) (rest := []) ⟨hx, hb, hml, hown, hts⟩ (m_X8_put l D cy ad h_78 g_78 H.size o hT x5 (3 : Int32) x4 P_87 HC_87) (cwV 3 hts (gd_V (wm1 56 rfl rfl) (wm1 57 rfl rfl) (wm1 58 rfl rfl) (wm1 3 rfl rfl) (wm1 59 rfl rfl)) rfl rfl rfl (by decide +kernel) ⟨Nat.le_of_ble_eq_true rfl, Nat.le_of_ble_eq_true rfl⟩) hK hNw hG hT.lt rfl hT.k (by decide) rfl rfl hl.1 rfl (lv_room (Nat.le_of_ble_eq_true rfl)) dX8_add_87 ⟨Nat.zero_le _, Nat.zero_le _⟩) hG (fun h_87 g_87 H locs hq hG => ?_)
        replace HW := HW h_87 g_87 hq
        refine lv_iload hx hb dX8_add_90 (lv_at hl 5 rfl) ?_
        exact W.iret (v := x5) hx hb hr (fun t ht hW => ⟨⟨x5, (h_87, g_87), rfl, HW, g_B ht hG⟩, hG.2.2.F ht⟩) hG.2.2.2.2 dX8_add_92
      · replace HW := HW.2 c_39
        refine lv_aload_n hx hb dX8_add_42 rfl (lv_at hl 0 rfl) ?_
        refine lv_iload hx hb dX8_add_43 (lv_at hl 5 rfl) ?_
        refine lv_iload hx hb dX8_add_45 (lv_at hl 6 rfl) ?_
        refine lv_iconst (v := 0) hx hb dX8_add_47 (by decide) ?_
        obtain ⟨P_48, HC_48, HW⟩ := HW
        refine g_callv (g_runV (As := [.int x5, .int x6, .int (0 : Int32)]) (rest := []) ⟨hx, hb, hml, hown, hts⟩ (m_X8_put l D cy ad h g H.size o hT x5 x6 (0 : Int32) P_48 HC_48) (cwV 3 hts (gd_V (wm1 56 rfl rfl) (wm1 57 rfl rfl) (wm1 58 rfl rfl) (wm1 3 rfl rfl) (wm1 59 rfl rfl)) rfl rfl rfl (by decide +kernel) ⟨Nat.le_of_ble_eq_true rfl, Nat.le_of_ble_eq_true rfl⟩) hK hNw hG hT.lt rfl hT.k (by decide) rfl rfl hl.1 rfl (lv_room (Nat.le_of_ble_eq_true rfl)) dX8_add_48 ⟨Nat.zero_le _, Nat.zero_le _⟩) hG (fun h_48 g_48 H locs hq hG => ?_)
        replace HW := HW h_48 g_48 hq
        obtain ⟨x6_51, ex6_51⟩ : ∃ y : Int32, y = (x6 + 1) := ⟨_, rfl⟩
        replace HW := HW x6_51 ex6_51
        refine lv_iinc (v := x6_51) (lv' := [(6, .int x6_51), (0, .ref (ad o)), (1, .int x1), (2, .int x2), (3, .int x3), (4, .int x4), (5, .int x5)]) hx hb dX8_add_51 hl (k := 6) rfl (by rw [ex6_51]; rfl) (by decide) rfl (fun ls hl => ?_)
        refine lv_goto (tgt := 33) hx hb dX8_add_54 (by decide) ?_
        exact hK33 x1 x2 x3 x4 x5 x6_51 h_48 g_48 _ _ _ HW hG (lv_sub hl [1, 2, 3, 4, 5, 6, 0] rfl)
  have E0 : ∀ (H : Heap) (locs : List Loc) (ls : Array Slot), gG D cy ad (gA ad s.heap.size) s.heap h g H locs → lv_has ls 7 [(0, .ref (ad o)), (1, .int x1), (2, .int x2), (3, .int x3), (4, .int x4)] → W p l e ({ frames := 1, cells := 0, slots := 0, locals := 24 } : Room) s m args below meth c H locs 0 0 (MQ below (va_Qi (fun (r : Int32) (u : HI × HL) => Q r u.1 u.2) (gB D cy ad s.heap.size) (gA ad s.heap.size)) args s 0 0 (gA ad s.heap.size)) (F0 m 0 ls []) := by
    intro H locs ls hG hl
    unfold w_X8_add at HW
    refine lv_aload_n hx hb dX8_add_0 rfl (lv_at hl 0 rfl) ?_
    refine g_geti hx hb hw inG8 hown hK hG hT.lt rfl hT.k (by decide) 3 (by decide) (by rw [hT.m]; decide) hT.r.2.2.2 lk22 dX8_add_1 ?_
    refine lv_aload_n hx hb dX8_add_4 rfl (lv_at hl 0 rfl) ?_
    refine g_geti hx hb hw inG8 hown hK hG hT.lt rfl hT.k (by decide) 2 (by decide) (by rw [hT.m]; decide) hT.r.2.2.1 lk9 dX8_add_5 ?_
    refine lv_icmp_lt (tgt := 14) hx hb dX8_add_8 (by decide) (fun c_8 => ?_) (fun c_8 => ?_)
    · replace HW := HW.1 c_8
      refine lv_aload_n hx hb dX8_add_14 rfl (lv_at hl 0 rfl) ?_
      refine g_geti hx hb hw inG8 hown hK hG hT.lt rfl hT.k (by decide) 3 (by decide) (by rw [hT.m]; decide) hT.r.2.2.2 lk22 dX8_add_15 ?_
      refine lv_topi (fun x5_18 ex5_18 => ?_)
      replace HW := HW x5_18 ex5_18
      refine lv_istore (lv' := [(5, .int x5_18), (0, .ref (ad o)), (1, .int x1), (2, .int x2), (3, .int x3), (4, .int x4)]) hx hb dX8_add_18 hl (by decide) rfl (fun ls hl => ?_)
      refine lv_aload_n hx hb dX8_add_20 rfl (lv_at hl 1 rfl) ?_
      refine lv_dup hx hb dX8_add_21 rfl ?_
      refine g_geti hx hb hw inG8 hown hK hG hT.lt rfl hT.k (by decide) 3 (by decide) (by rw [hT.m]; decide) hT.r.2.2.2 lk22 dX8_add_22 ?_
      refine lv_iconst (v := 1) hx hb dX8_add_25 (by decide) ?_
      refine lv_iadd hx hb dX8_add_26 ?_
      refine g_put hx hb hw inG8 tyX8 tyX8_ok nmX8 hown hK hG hT.lt rfl hT.k (by decide) 3 (by decide) (by rw [hT.m]; decide) hT.r.2.2.2 rfl (ty := .int) (by decide +kernel) rfl rfl lk22 dX8_add_27 (fun H locs hG => ?_)
      obtain ⟨h_27, eh_27⟩ : ∃ y : HI, y = hu h o 3 ((h o 3) + (1 : Int32)) := ⟨_, rfl⟩
      rw [← eh_27] at hG
      replace HW := HW h_27 eh_27
      refine lv_iconst (v := 4) hx hb dX8_add_30 (by decide) ?_
      refine lv_istore (lv' := [(6, .int (4 : Int32)), (5, .int x5_18), (0, .ref (ad o)), (1, .int x1), (2, .int x2), (3, .int x3), (4, .int x4)]) hx hb dX8_add_31 hl (by decide) rfl (fun ls hl => ?_)
      obtain ⟨n_33, HW⟩ := HW
      exact L33 n_33 x1 x2 x3 x4 x5_18 (4 : Int32) h_27 g _ _ _ HW hG (lv_sub hl [2, 3, 4, 5, 6, 1, 0] rfl)
    · replace HW := HW.2 c_8
      refine lv_bipush (v := (-4)) hx hb dX8_add_11 (by decide) ?_
      exact W.iret (v := (-4 : Int32)) hx hb hr (fun t ht hW => ⟨⟨(-4 : Int32), (h, g), rfl, HW, g_B ht hG⟩, hG.2.2.F ht⟩) hG.2.2.2.2 dX8_add_13
  exact E0 _ _ _ hG hl

def j_X9_reach_85 (Q : HI → HL → Prop) (x1 : Int32) (x2 : Int32) (x3 : Int32) (h : HI) (g : HL) : Prop :=
  (vp_in x1 2 ∧ (vp_in x2 3001 ∧ (((h (91 + x1.toNatClampNeg) x2.toNatClampNeg) ≤ x3 → Q h g) ∧ (¬ (h (91 + x1.toNatClampNeg) x2.toNatClampNeg) ≤ x3 → (vp_in x1 2 ∧ (vp_in x2 3001 ∧ ∀ h_105 : HI, h_105 = hu h (91 + x1.toNatClampNeg) x2.toNatClampNeg x3 → Q h_105 g))))))
def w_X9_reach (x1 : Int32) (x2 : Int32) (x3 : Int32) (h : HI) (g : HL) (Q : HI → HL → Prop) : Prop :=
  (∃ P_3 : Int32 → HI → HL → Prop, w_X10_within x1 (0 : Int32) (1 : Int32) h g P_3 ∧ ∀ (r_3 : Int32) (h_3 : HI) (g_3 : HL), zb r_3 → P_3 r_3 h_3 g_3 → ((r_3 = 0 → Q h_3 g_3) ∧ (¬ r_3 = 0 → (∃ P_14 : Int32 → HI → HL → Prop, w_X10_within x2 (1 : Int32) (3000 : Int32) h_3 g_3 P_14 ∧ ∀ (r_14 : Int32) (h_14 : HI) (g_14 : HL), zb r_14 → P_14 r_14 h_14 g_14 → ((¬ r_14 = 0 → (vp_in x1 2 ∧ (vp_in x2 3001 ∧ ((¬ (h_14 (91 + x1.toNatClampNeg) x2.toNatClampNeg) = (-1 : Int32) → j_X9_reach_85 Q x1 x2 x3 h_14 g_14) ∧ ((h_14 (91 + x1.toNatClampNeg) x2.toNatClampNeg) = (-1 : Int32) → (vp_in x1 2 ∧ (∃ P_43 : Int32 → HI → HL → Prop, w_X10_within (h_14 96 x1.toNatClampNeg) (0 : Int32) (2999 : Int32) h_14 g_14 P_43 ∧ ∀ (r_43 : Int32) (h_43 : HI) (g_43 : HL), zb r_43 → P_43 r_43 h_43 g_43 → ((r_43 = 0 → j_X9_reach_85 Q x1 x2 x3 h_43 g_43) ∧ (¬ r_43 = 0 → (vp_in x1 2 ∧ (vp_in x1 2 ∧ (vp_in (h_43 96 x1.toNatClampNeg) 3000 ∧ ∀ h_62 : HI, h_62 = hu h_43 (94 + x1.toNatClampNeg) (h_43 96 x1.toNatClampNeg).toNatClampNeg x2 → (vp_in x1 2 ∧ (vp_in x1 2 ∧ ∀ h_72 : HI, h_72 = hu h_62 96 x1.toNatClampNeg ((h_62 96 x1.toNatClampNeg) + (1 : Int32)) → (vp_in x1 2 ∧ (vp_in x2 3001 ∧ ∀ h_81 : HI, h_81 = hu h_72 (91 + x1.toNatClampNeg) x2.toNatClampNeg x3 → Q h_81 g_43)))))))))))))))) ∧ (r_14 = 0 → Q h_14 g_14))))))
set_option maxHeartbeats 8000000 in
set_option maxRecDepth 100000 in
theorem m_X9_reach (l : Launch) (D : va_G) (cy : Nat → ClassId) (ad : Nat → Nat) (h : HI) (g : HL) (sz : Nat) (x1 : Int32) (x2 : Int32) (x3 : Int32) (Q : HI → HL → Prop) (HW : w_X9_reach x1 x2 x3 h g Q) : Met l yX9_reach (wa yX9_reach cX9_reach 4 none) ({ frames := 1, cells := 0, slots := 0, locals := 22 }) (va_Pc [.ref (ad 89), .int x1, .int x2, .int x3] (gI D cy ad h g sz)) (va_Qv (fun (u : HI × HL) => Q u.1 u.2) (gB D cy ad sz) (gA ad sz)) 0 0 (gA ad sz) := by
  refine Met.ofW (cc := cX9_reach) (maxL := 4) (ret := none) (by decide) rfl ?_
  intro p e s m args below meth c s₁ B hml hv
  obtain ⟨hav, hsz, hP, hK, hD0, hNw⟩ := hv
  have hx := B.exec
  have hb := B.bytes
  have hr := B.returns
  have hts := atoms_spec (ws := (wa yX9_reach cX9_reach 4 none)) B.pre
  have hw := wa_hw hts
  have hown : s.vm.findClass RX9 = some m.cls := findClass_of_methodNamed B.named
  have hlocks := B.notSynchronized
  subst hsz
  have hG : gG D cy ad (gA ad s.heap.size) s.heap h g s.heap [] := ⟨hP, gA_self hD0, va_S.rf⟩
  clear hP hD0
  have lk11 := hw (.fieldLink RX9 11 "OldWorks$Ways" "best" "[[I") (wm2 20 rfl rfl)
  have lk19 := hw (.fieldLink RX9 19 "OldWorks$Ways" "many" "[I") (wm2 22 rfl rfl)
  have lk16 := hw (.fieldLink RX9 16 "OldWorks$Ways" "reached" "[[I") (wm2 21 rfl rfl)
  rw [show (headSpec (wa yX9_reach cX9_reach 4 none) ({ frames := 1, cells := 0, slots := 0, locals := 22 } : Room)).room = ({ frames := 1, cells := 0, slots := 0, locals := 22 } : Room) from rfl]
  have hl := lv_entry ([.ref (ad 89), .int x1, .int x2, .int x3]) (n := 4) (Nat.le_of_ble_eq_true rfl)
  rw [show entryFrame m args 4 = entryFrame m ([.ref (ad 89), .int x1, .int x2, .int x3] : List Value).toArray 4 from by rw [hav], lg_entry_eq]
  generalize (lg_sl ([.ref (ad 89), .int x1, .int x2, .int x3]) ++ List.replicate (4 - (lg_sl ([.ref (ad 89), .int x1, .int x2, .int x3])).length) Slot.unset).toArray = ls at hl ⊢
  have hl : lv_has ls 4 [(0, .ref (ad 89)), (1, .int x1), (2, .int x2), (3, .int x3)] := hl
  have B85 : ∀ (x1 : Int32) (x2 : Int32) (x3 : Int32) (h : HI) (g : HL) (H : Heap) (locs : List Loc) (ls : Array Slot), j_X9_reach_85 Q x1 x2 x3 h g → gG D cy ad (gA ad s.heap.size) s.heap h g H locs → lv_has ls 4 [(0, .ref (ad 89)), (1, .int x1), (2, .int x2), (3, .int x3)] → W p l e ({ frames := 1, cells := 0, slots := 0, locals := 22 } : Room) s m args below meth c H locs 0 0 (MQ below (va_Qv (fun (u : HI × HL) => Q u.1 u.2) (gB D cy ad s.heap.size) (gA ad s.heap.size)) args s 0 0 (gA ad s.heap.size)) (F0 m 85 ls []) := by
    intro x1 x2 x3 h g H locs ls HW hG hl
    unfold j_X9_reach_85 at HW
    refine lv_iload_n hx hb dX9_reach_85 rfl (lv_at hl 3 rfl) ?_
    refine lv_aload_n hx hb dX9_reach_86 rfl (lv_at hl 0 rfl) ?_
    refine g_getr hx hb hw inG9 hown hK hG gl_89 rfl gk_89 (by decide) 1 (by decide) (by rw [gm_89]; decide) (r := 90) gr_89_1 lk11 dX9_reach_87 ?_
    refine lv_iload_n hx hb dX9_reach_90 rfl (lv_at hl 1 rfl) ?_
    have hi_91 := vp_lt HW.1
    refine g_aald hx hb hK hG gl_90 gk_90 gn_90 HW.1 (go_90 _ hi_91).1 dX9_reach_91 ?_
    replace HW := HW.2
    refine lv_iload_n hx hb dX9_reach_92 rfl (lv_at hl 2 rfl) ?_
    refine g_iald hx hb hK hG ((go_90 _ hi_91).2.2.1) ((go_90 _ hi_91).2.1) ((go_90 _ hi_91).2.2.2) HW.1 dX9_reach_93 ?_
    replace HW := HW.2
    refine lv_icmp_ge (tgt := 106) hx hb dX9_reach_94 (by decide) (fun c_94 => ?_) (fun c_94 => ?_)
    · replace HW := HW.1 c_94
      exact W.vret hx hb hr (fun t ht hW => ⟨⟨(h, g), rfl, HW, g_B ht hG⟩, hG.2.2.F ht⟩) hG.2.2.2.2 dX9_reach_106
    · replace HW := HW.2 c_94
      refine lv_aload_n hx hb dX9_reach_97 rfl (lv_at hl 0 rfl) ?_
      refine g_getr hx hb hw inG9 hown hK hG gl_89 rfl gk_89 (by decide) 1 (by decide) (by rw [gm_89]; decide) (r := 90) gr_89_1 lk11 dX9_reach_98 ?_
      refine lv_iload_n hx hb dX9_reach_101 rfl (lv_at hl 1 rfl) ?_
      have hi_102 := vp_lt HW.1
      refine g_aald hx hb hK hG gl_90 gk_90 gn_90 HW.1 (go_90 _ hi_102).1 dX9_reach_102 ?_
      replace HW := HW.2
      refine lv_iload_n hx hb dX9_reach_103 rfl (lv_at hl 2 rfl) ?_
      refine lv_iload_n hx hb dX9_reach_104 rfl (lv_at hl 3 rfl) ?_
      refine g_iast hx hb hK hG ((go_90 _ hi_102).2.2.1) ((go_90 _ hi_102).2.1) ((go_90 _ hi_102).2.2.2) HW.1 dX9_reach_105 (fun H locs hG => ?_)
      replace HW := HW.2
      obtain ⟨h_105, eh_105⟩ : ∃ y : HI, y = hu h (91 + x1.toNatClampNeg) x2.toNatClampNeg x3 := ⟨_, rfl⟩
      rw [← eh_105] at hG
      replace HW := HW h_105 eh_105
      exact W.vret hx hb hr (fun t ht hW => ⟨⟨(h_105, g), rfl, HW, g_B ht hG⟩, hG.2.2.F ht⟩) hG.2.2.2.2 dX9_reach_106
  have E0 : ∀ (H : Heap) (locs : List Loc) (ls : Array Slot), gG D cy ad (gA ad s.heap.size) s.heap h g H locs → lv_has ls 4 [(0, .ref (ad 89)), (1, .int x1), (2, .int x2), (3, .int x3)] → W p l e ({ frames := 1, cells := 0, slots := 0, locals := 22 } : Room) s m args below meth c H locs 0 0 (MQ below (va_Qv (fun (u : HI × HL) => Q u.1 u.2) (gB D cy ad s.heap.size) (gA ad s.heap.size)) args s 0 0 (gA ad s.heap.size)) (F0 m 0 ls []) := by
    intro H locs ls hG hl
    unfold w_X9_reach at HW
    refine lv_iload_n hx hb dX9_reach_0 rfl (lv_at hl 1 rfl) ?_
    refine lv_iconst (v := 0) hx hb dX9_reach_1 (by decide) ?_
    refine lv_iconst (v := 1) hx hb dX9_reach_2 (by decide) ?_
    obtain ⟨P_3, HC_3, HW⟩ := HW
    refine g_callz (g_runSN (As := [.int x1, .int (0 : Int32), .int (1 : Int32)]) (rest := []) ⟨hx, hb, hml, hown, hts⟩ (m_X10_within l D cy ad h g H.size x1 (0 : Int32) (1 : Int32) P_3 HC_3) ⟨va_cnB 3 hts (gd_w (wm2 195 rfl rfl)) rfl rfl rfl (hNw _ (List.mem_of_getElem? (i := 5) rfl)) (hw (.initialized RX10) (wm1 1 rfl rfl)) (by decide +kernel) ⟨Nat.le_of_ble_eq_true rfl, Nat.le_of_ble_eq_true rfl⟩, hw (.static yX10_within) (wm2 194 rfl rfl), trivial⟩ hK hNw hG rfl rfl hl.1 rfl (lv_room (Nat.le_of_ble_eq_true rfl)) dX9_reach_3 ⟨Nat.zero_le _, Nat.zero_le _⟩) hG (fun r_3 h_3 g_3 H locs hz hq hG => ?_)
    replace HW := HW r_3 h_3 g_3 hz hq
    refine lv_if_eq (tgt := 20) hx hb dX9_reach_6 (by decide) (fun c_6 => ?_) (fun c_6 => ?_)
    · replace HW := HW.1 c_6
      exact W.vret hx hb hr (fun t ht hW => ⟨⟨(h_3, g_3), rfl, HW, g_B ht hG⟩, hG.2.2.F ht⟩) hG.2.2.2.2 dX9_reach_20
    · replace HW := HW.2 c_6
      refine lv_iload_n hx hb dX9_reach_9 rfl (lv_at hl 2 rfl) ?_
      refine lv_iconst (v := 1) hx hb dX9_reach_10 (by decide) ?_
      refine lv_sipush (v := 3000) hx hb dX9_reach_11 (by decide) ?_
      obtain ⟨P_14, HC_14, HW⟩ := HW
      refine g_callz (g_runSN (As := [.int x2, .int (1 : Int32), .int (3000 : Int32)]) (rest := []) ⟨hx, hb, hml, hown, hts⟩ (m_X10_within l D cy ad h_3 g_3 H.size x2 (1 : Int32) (3000 : Int32) P_14 HC_14) ⟨va_cnB 3 hts (gd_w (wm2 195 rfl rfl)) rfl rfl rfl (hNw _ (List.mem_of_getElem? (i := 5) rfl)) (hw (.initialized RX10) (wm1 1 rfl rfl)) (by decide +kernel) ⟨Nat.le_of_ble_eq_true rfl, Nat.le_of_ble_eq_true rfl⟩, hw (.static yX10_within) (wm2 194 rfl rfl), trivial⟩ hK hNw hG rfl rfl hl.1 rfl (lv_room (Nat.le_of_ble_eq_true rfl)) dX9_reach_14 ⟨Nat.zero_le _, Nat.zero_le _⟩) hG (fun r_14 h_14 g_14 H locs hz hq hG => ?_)
      replace HW := HW r_14 h_14 g_14 hz hq
      refine lv_if_ne (tgt := 21) hx hb dX9_reach_17 (by decide) (fun c_17 => ?_) (fun c_17 => ?_)
      · replace HW := HW.1 c_17
        refine lv_aload_n hx hb dX9_reach_21 rfl (lv_at hl 0 rfl) ?_
        refine g_getr hx hb hw inG9 hown hK hG gl_89 rfl gk_89 (by decide) 1 (by decide) (by rw [gm_89]; decide) (r := 90) gr_89_1 lk11 dX9_reach_22 ?_
        refine lv_iload_n hx hb dX9_reach_25 rfl (lv_at hl 1 rfl) ?_
        have hi_26 := vp_lt HW.1
        refine g_aald hx hb hK hG gl_90 gk_90 gn_90 HW.1 (go_90 _ hi_26).1 dX9_reach_26 ?_
        replace HW := HW.2
        refine lv_iload_n hx hb dX9_reach_27 rfl (lv_at hl 2 rfl) ?_
        refine g_iald hx hb hK hG ((go_90 _ hi_26).2.2.1) ((go_90 _ hi_26).2.1) ((go_90 _ hi_26).2.2.2) HW.1 dX9_reach_28 ?_
        replace HW := HW.2
        refine lv_iconst (v := (-1)) hx hb dX9_reach_29 (by decide) ?_
        refine lv_icmp_ne (tgt := 85) hx hb dX9_reach_30 (by decide) (fun c_30 => ?_) (fun c_30 => ?_)
        · replace HW := HW.1 c_30
          exact B85 x1 x2 x3 h_14 g_14 _ _ _ HW hG (lv_sub hl [0, 1, 2, 3] rfl)
        · replace HW := HW.2 c_30
          refine lv_aload_n hx hb dX9_reach_33 rfl (lv_at hl 0 rfl) ?_
          refine g_getr hx hb hw inG9 hown hK hG gl_89 rfl gk_89 (by decide) 3 (by decide) (by rw [gm_89]; decide) (r := 96) gr_89_3 lk19 dX9_reach_34 ?_
          refine lv_iload_n hx hb dX9_reach_37 rfl (lv_at hl 1 rfl) ?_
          refine g_iald hx hb hK hG gl_96 gk_96 gn_96 HW.1 dX9_reach_38 ?_
          replace HW := HW.2
          refine lv_iconst (v := 0) hx hb dX9_reach_39 (by decide) ?_
          refine lv_sipush (v := 2999) hx hb dX9_reach_40 (by decide) ?_
          obtain ⟨P_43, HC_43, HW⟩ := HW
          refine g_callz (g_runSN (As := [.int (h_14 96 x1.toNatClampNeg), .int (0 : Int32), .int (2999 : Int32)]) (rest := []) ⟨hx, hb, hml, hown, hts⟩ (m_X10_within l D cy ad h_14 g_14 H.size (h_14 96 x1.toNatClampNeg) (0 : Int32) (2999 : Int32) P_43 HC_43) ⟨va_cnB 3 hts (gd_w (wm2 195 rfl rfl)) rfl rfl rfl (hNw _ (List.mem_of_getElem? (i := 5) rfl)) (hw (.initialized RX10) (wm1 1 rfl rfl)) (by decide +kernel) ⟨Nat.le_of_ble_eq_true rfl, Nat.le_of_ble_eq_true rfl⟩, hw (.static yX10_within) (wm2 194 rfl rfl), trivial⟩ hK hNw hG rfl rfl hl.1 rfl (lv_room (Nat.le_of_ble_eq_true rfl)) dX9_reach_43 ⟨Nat.zero_le _, Nat.zero_le _⟩) hG (fun r_43 h_43 g_43 H locs hz hq hG => ?_)
          replace HW := HW r_43 h_43 g_43 hz hq
          refine lv_if_eq (tgt := 85) hx hb dX9_reach_46 (by decide) (fun c_46 => ?_) (fun c_46 => ?_)
          · replace HW := HW.1 c_46
            exact B85 x1 x2 x3 h_43 g_43 _ _ _ HW hG (lv_sub hl [0, 1, 2, 3] rfl)
          · replace HW := HW.2 c_46
            refine lv_aload_n hx hb dX9_reach_49 rfl (lv_at hl 0 rfl) ?_
            refine g_getr hx hb hw inG9 hown hK hG gl_89 rfl gk_89 (by decide) 2 (by decide) (by rw [gm_89]; decide) (r := 93) gr_89_2 lk16 dX9_reach_50 ?_
            refine lv_iload_n hx hb dX9_reach_53 rfl (lv_at hl 1 rfl) ?_
            have hi_54 := vp_lt HW.1
            refine g_aald hx hb hK hG gl_93 gk_93 gn_93 HW.1 (go_93 _ hi_54).1 dX9_reach_54 ?_
            replace HW := HW.2
            refine lv_aload_n hx hb dX9_reach_55 rfl (lv_at hl 0 rfl) ?_
            refine g_getr hx hb hw inG9 hown hK hG gl_89 rfl gk_89 (by decide) 3 (by decide) (by rw [gm_89]; decide) (r := 96) gr_89_3 lk19 dX9_reach_56 ?_
            refine lv_iload_n hx hb dX9_reach_59 rfl (lv_at hl 1 rfl) ?_
            refine g_iald hx hb hK hG gl_96 gk_96 gn_96 HW.1 dX9_reach_60 ?_
            replace HW := HW.2
            refine lv_iload_n hx hb dX9_reach_61 rfl (lv_at hl 2 rfl) ?_
            refine g_iast hx hb hK hG ((go_93 _ hi_54).2.2.1) ((go_93 _ hi_54).2.1) ((go_93 _ hi_54).2.2.2) HW.1 dX9_reach_62 (fun H locs hG => ?_)
            replace HW := HW.2
            obtain ⟨h_62, eh_62⟩ : ∃ y : HI, y = hu h_43 (94 + x1.toNatClampNeg) (h_43 96 x1.toNatClampNeg).toNatClampNeg x2 := ⟨_, rfl⟩
            rw [← eh_62] at hG
            replace HW := HW h_62 eh_62
            refine lv_aload_n hx hb dX9_reach_63 rfl (lv_at hl 0 rfl) ?_
            refine g_getr hx hb hw inG9 hown hK hG gl_89 rfl gk_89 (by decide) 3 (by decide) (by rw [gm_89]; decide) (r := 96) gr_89_3 lk19 dX9_reach_64 ?_
            refine lv_iload_n hx hb dX9_reach_67 rfl (lv_at hl 1 rfl) ?_
            refine lv_dup2_11 hx hb dX9_reach_68 rfl rfl ?_
            refine g_iald hx hb hK hG gl_96 gk_96 gn_96 HW.1 dX9_reach_69 ?_
            replace HW := HW.2
            refine lv_iconst (v := 1) hx hb dX9_reach_70 (by decide) ?_
            refine lv_iadd hx hb dX9_reach_71 ?_
            refine g_iast hx hb hK hG gl_96 gk_96 gn_96 HW.1 dX9_reach_72 (fun H locs hG => ?_)
            replace HW := HW.2
            obtain ⟨h_72, eh_72⟩ : ∃ y : HI, y = hu h_62 96 x1.toNatClampNeg ((h_62 96 x1.toNatClampNeg) + (1 : Int32)) := ⟨_, rfl⟩
            rw [← eh_72] at hG
            replace HW := HW h_72 eh_72
            refine lv_aload_n hx hb dX9_reach_73 rfl (lv_at hl 0 rfl) ?_
            refine g_getr hx hb hw inG9 hown hK hG gl_89 rfl gk_89 (by decide) 1 (by decide) (by rw [gm_89]; decide) (r := 90) gr_89_1 lk11 dX9_reach_74 ?_
            refine lv_iload_n hx hb dX9_reach_77 rfl (lv_at hl 1 rfl) ?_
            have hi_78 := vp_lt HW.1
            refine g_aald hx hb hK hG gl_90 gk_90 gn_90 HW.1 (go_90 _ hi_78).1 dX9_reach_78 ?_
            replace HW := HW.2
            refine lv_iload_n hx hb dX9_reach_79 rfl (lv_at hl 2 rfl) ?_
            refine lv_iload_n hx hb dX9_reach_80 rfl (lv_at hl 3 rfl) ?_
            refine g_iast hx hb hK hG ((go_90 _ hi_78).2.2.1) ((go_90 _ hi_78).2.1) ((go_90 _ hi_78).2.2.2) HW.1 dX9_reach_81 (fun H locs hG => ?_)
            replace HW := HW.2
            obtain ⟨h_81, eh_81⟩ : ∃ y : HI, y = hu h_72 (91 + x1.toNatClampNeg) x2.toNatClampNeg x3 := ⟨_, rfl⟩
            rw [← eh_81] at hG
            replace HW := HW h_81 eh_81
            refine lv_goto (tgt := 106) hx hb dX9_reach_82 (by decide) ?_
            exact W.vret hx hb hr (fun t ht hW => ⟨⟨(h_81, g_43), rfl, HW, g_B ht hG⟩, hG.2.2.F ht⟩) hG.2.2.2.2 dX9_reach_106
      · replace HW := HW.2 c_17
        exact W.vret hx hb hr (fun t ht hW => ⟨⟨(h_14, g_14), rfl, HW, g_B ht hG⟩, hG.2.2.F ht⟩) hG.2.2.2.2 dX9_reach_20
  exact E0 _ _ _ hG hl
end
