section
-- 03.w15
def j_X11_twoOf_140 (Q : Int64 → HI → HL → Prop) (h : HI) (g : HL) : Prop :=
  Q (1 : Int64) h g
def w_X11_twoOf (x0 : Int32) (x1 : Int64) (x3 : Int64) (h : HI) (g : HL) (Q : Int64 → HI → HL → Prop) : Prop :=
  ((x0 = 4 → Q (x1 * x3) h g) ∧ (x0 = 5 → ((¬ (lg_cmp x3 (0 : Int64)) = 0 → (¬ x3 = 0 ∧ Q (x1 / x3) h g)) ∧ ((lg_cmp x3 (0 : Int64)) = 0 → Q (0 : Int64) h g))) ∧ (x0 = 6 → Q (x1 + x3) h g) ∧ (x0 = 7 → Q (x1 - x3) h g) ∧ (x0 = 8 → ((0 ≤ (lg_cmp x1 x3) → Q (0 : Int64) h g) ∧ (¬ 0 ≤ (lg_cmp x1 x3) → Q (1 : Int64) h g))) ∧ (x0 = 9 → (((lg_cmp x1 x3) ≤ 0 → Q (0 : Int64) h g) ∧ (¬ (lg_cmp x1 x3) ≤ 0 → Q (1 : Int64) h g))) ∧ (x0 = 10 → ((¬ (lg_cmp x1 x3) = 0 → Q (0 : Int64) h g) ∧ ((lg_cmp x1 x3) = 0 → Q (1 : Int64) h g))) ∧ (x0 = 11 → (((lg_cmp x1 (0 : Int64)) = 0 → Q (0 : Int64) h g) ∧ (¬ (lg_cmp x1 (0 : Int64)) = 0 → (((lg_cmp x3 (0 : Int64)) = 0 → Q (0 : Int64) h g) ∧ (¬ (lg_cmp x3 (0 : Int64)) = 0 → Q (1 : Int64) h g))))) ∧ (¬ x0 = 4 → ¬ x0 = 5 → ¬ x0 = 6 → ¬ x0 = 7 → ¬ x0 = 8 → ¬ x0 = 9 → ¬ x0 = 10 → ¬ x0 = 11 → ((¬ (lg_cmp x1 (0 : Int64)) = 0 → j_X11_twoOf_140 Q h g) ∧ ((lg_cmp x1 (0 : Int64)) = 0 → (((lg_cmp x3 (0 : Int64)) = 0 → Q (0 : Int64) h g) ∧ (¬ (lg_cmp x3 (0 : Int64)) = 0 → j_X11_twoOf_140 Q h g))))))
set_option maxHeartbeats 8000000 in
set_option maxRecDepth 100000 in
theorem m_X11_twoOf (l : Launch) (D : va_G) (cy : Nat → ClassId) (ad : Nat → Nat) (h : HI) (g : HL) (sz : Nat) (x0 : Int32) (x1 : Int64) (x3 : Int64) (Q : Int64 → HI → HL → Prop) (HW : w_X11_twoOf x0 x1 x3 h g Q) : Met l yX11_twoOf (wa yX11_twoOf cX11_twoOf 5 (some .long)) ({ frames := 0, cells := 0, slots := 0, locals := 0 }) (va_Pc [.int x0, .long x1, .long x3] (gI D cy ad h g sz)) (va_Ql (fun (r : Int64) (u : HI × HL) => Q r u.1 u.2) (gB D cy ad sz) (gA ad sz)) 0 0 (gA ad sz) := by
  refine Met.ofW (cc := cX11_twoOf) (maxL := 5) (ret := (some .long)) (by decide) rfl ?_
  intro p e s m args below meth c s₁ B hml hv
  obtain ⟨hav, hsz, hP, hK, hD0, hNw⟩ := hv
  have hx := B.exec
  have hb := B.bytes
  have hr := B.returns
  have hts := atoms_spec (ws := (wa yX11_twoOf cX11_twoOf 5 (some .long))) B.pre
  have hw := wa_hw hts
  have hown : s.vm.findClass RX11 = some m.cls := findClass_of_methodNamed B.named
  have hlocks := B.notSynchronized
  subst hsz
  have hG : gG D cy ad (gA ad s.heap.size) s.heap h g s.heap [] := ⟨hP, gA_self hD0, va_S.rf⟩
  clear hP hD0
  rw [show (headSpec (wa yX11_twoOf cX11_twoOf 5 (some .long)) ({ frames := 0, cells := 0, slots := 0, locals := 0 } : Room)).room = ({ frames := 0, cells := 0, slots := 0, locals := 0 } : Room) from rfl]
  have hl := lv_entry ([.int x0, .long x1, .long x3]) (n := 5) (Nat.le_of_ble_eq_true rfl)
  rw [show entryFrame m args 5 = entryFrame m ([.int x0, .long x1, .long x3] : List Value).toArray 5 from by rw [hav], lg_entry_eq]
  generalize (lg_sl ([.int x0, .long x1, .long x3]) ++ List.replicate (5 - (lg_sl ([.int x0, .long x1, .long x3])).length) Slot.unset).toArray = ls at hl ⊢
  have hl : lv_has ls 5 [(0, .int x0), (1, .long x1), (3, .long x3)] := hl
  have B140 : ∀ (h : HI) (g : HL) (H : Heap) (locs : List Loc) (ls : Array Slot), j_X11_twoOf_140 Q h g → gG D cy ad (gA ad s.heap.size) s.heap h g H locs → lv_has ls 5 [] → W p l e ({ frames := 0, cells := 0, slots := 0, locals := 0 } : Room) s m args below meth c H locs 0 0 (MQ below (va_Ql (fun (r : Int64) (u : HI × HL) => Q r u.1 u.2) (gB D cy ad s.heap.size) (gA ad s.heap.size)) args s 0 0 (gA ad s.heap.size)) (F0 m 140 ls []) := by
    intro  h g H locs ls HW hG hl
    unfold j_X11_twoOf_140 at HW
    refine lv_lconst (v := 1) hx hb dX11_twoOf_140 (by decide) ?_
    refine lv_goto (tgt := 145) hx hb dX11_twoOf_141 (by decide) ?_
    exact W.lret (v := (1 : Int64)) hx hb hr (fun t ht hW => ⟨⟨(1 : Int64), (h, g), rfl, HW, g_B ht hG⟩, hG.2.2.F ht⟩) hG.2.2.2.2 dX11_twoOf_145
  have E0 : ∀ (H : Heap) (locs : List Loc) (ls : Array Slot), gG D cy ad (gA ad s.heap.size) s.heap h g H locs → lv_has ls 5 [(0, .int x0), (1, .long x1), (3, .long x3)] → W p l e ({ frames := 0, cells := 0, slots := 0, locals := 0 } : Room) s m args below meth c H locs 0 0 (MQ below (va_Ql (fun (r : Int64) (u : HI × HL) => Q r u.1 u.2) (gB D cy ad s.heap.size) (gA ad s.heap.size)) args s 0 0 (gA ad s.heap.size)) (F0 m 0 ls []) := by
    intro H locs ls hG hl
    unfold w_X11_twoOf at HW
    refine lv_iload_n hx hb dX11_twoOf_0 rfl (lv_at hl 0 rfl) ?_
    by_cases c_1_0 : x0 = 4
    · replace HW := HW.1 c_1_0
      refine lv_tableIn (tgt := 48) (off := 47) hx hb dX11_twoOf_1 (by rw [c_1_0]; first | done | decide) (by rw [c_1_0]; first | done | decide) (by rw [c_1_0]; first | done | rfl) (by decide) ?_
      refine lv_lload_n hx hb dX11_twoOf_48 rfl (lv_at hl 1 rfl) ?_
      refine lv_lload_n hx hb dX11_twoOf_49 rfl (lv_at hl 2 rfl) ?_
      refine lv_lmul hx hb dX11_twoOf_50 ?_
      exact W.lret (v := (x1 * x3)) hx hb hr (fun t ht hW => ⟨⟨(x1 * x3), (h, g), rfl, HW, g_B ht hG⟩, hG.2.2.F ht⟩) hG.2.2.2.2 dX11_twoOf_51
    · by_cases c_1_1 : x0 = 5
      · replace HW := HW.2.1 c_1_1
        refine lv_tableIn (tgt := 52) (off := 51) hx hb dX11_twoOf_1 (by rw [c_1_1]; first | done | decide) (by rw [c_1_1]; first | done | decide) (by rw [c_1_1]; first | done | rfl) (by decide) ?_
        refine lv_lload_n hx hb dX11_twoOf_52 rfl (lv_at hl 2 rfl) ?_
        refine lv_lconst (v := 0) hx hb dX11_twoOf_53 (by decide) ?_
        refine W.lcmp hx hb dX11_twoOf_54 ?_
        refine lv_if_ne (tgt := 62) hx hb dX11_twoOf_55 (by decide) (fun c_55 => ?_) (fun c_55 => ?_)
        · replace HW := HW.1 c_55
          refine lv_lload_n hx hb dX11_twoOf_62 rfl (lv_at hl 1 rfl) ?_
          refine lv_lload_n hx hb dX11_twoOf_63 rfl (lv_at hl 2 rfl) ?_
          refine lv_ldiv hx hb dX11_twoOf_64 HW.1 ?_
          replace HW := HW.2
          exact W.lret (v := (x1 / x3)) hx hb hr (fun t ht hW => ⟨⟨(x1 / x3), (h, g), rfl, HW, g_B ht hG⟩, hG.2.2.F ht⟩) hG.2.2.2.2 dX11_twoOf_65
        · replace HW := HW.2 c_55
          refine lv_lconst (v := 0) hx hb dX11_twoOf_58 (by decide) ?_
          refine lv_goto (tgt := 65) hx hb dX11_twoOf_59 (by decide) ?_
          exact W.lret (v := (0 : Int64)) hx hb hr (fun t ht hW => ⟨⟨(0 : Int64), (h, g), rfl, HW, g_B ht hG⟩, hG.2.2.F ht⟩) hG.2.2.2.2 dX11_twoOf_65
      · by_cases c_1_2 : x0 = 6
        · replace HW := HW.2.2.1 c_1_2
          refine lv_tableIn (tgt := 66) (off := 65) hx hb dX11_twoOf_1 (by rw [c_1_2]; first | done | decide) (by rw [c_1_2]; first | done | decide) (by rw [c_1_2]; first | done | rfl) (by decide) ?_
          refine lv_lload_n hx hb dX11_twoOf_66 rfl (lv_at hl 1 rfl) ?_
          refine lv_lload_n hx hb dX11_twoOf_67 rfl (lv_at hl 2 rfl) ?_
          refine lv_ladd hx hb dX11_twoOf_68 ?_
          exact W.lret (v := (x1 + x3)) hx hb hr (fun t ht hW => ⟨⟨(x1 + x3), (h, g), rfl, HW, g_B ht hG⟩, hG.2.2.F ht⟩) hG.2.2.2.2 dX11_twoOf_69
        · by_cases c_1_3 : x0 = 7
          · replace HW := HW.2.2.2.1 c_1_3
            refine lv_tableIn (tgt := 70) (off := 69) hx hb dX11_twoOf_1 (by rw [c_1_3]; first | done | decide) (by rw [c_1_3]; first | done | decide) (by rw [c_1_3]; first | done | rfl) (by decide) ?_
            refine lv_lload_n hx hb dX11_twoOf_70 rfl (lv_at hl 1 rfl) ?_
            refine lv_lload_n hx hb dX11_twoOf_71 rfl (lv_at hl 2 rfl) ?_
            refine lv_lsub hx hb dX11_twoOf_72 ?_
            exact W.lret (v := (x1 - x3)) hx hb hr (fun t ht hW => ⟨⟨(x1 - x3), (h, g), rfl, HW, g_B ht hG⟩, hG.2.2.F ht⟩) hG.2.2.2.2 dX11_twoOf_73
          · by_cases c_1_4 : x0 = 8
            · replace HW := HW.2.2.2.2.1 c_1_4
              refine lv_tableIn (tgt := 74) (off := 73) hx hb dX11_twoOf_1 (by rw [c_1_4]; first | done | decide) (by rw [c_1_4]; first | done | decide) (by rw [c_1_4]; first | done | rfl) (by decide) ?_
              refine lv_lload_n hx hb dX11_twoOf_74 rfl (lv_at hl 1 rfl) ?_
              refine lv_lload_n hx hb dX11_twoOf_75 rfl (lv_at hl 2 rfl) ?_
              refine W.lcmp hx hb dX11_twoOf_76 ?_
              refine lv_if_ge (tgt := 84) hx hb dX11_twoOf_77 (by decide) (fun c_77 => ?_) (fun c_77 => ?_)
              · replace HW := HW.1 c_77
                refine lv_lconst (v := 0) hx hb dX11_twoOf_84 (by decide) ?_
                exact W.lret (v := (0 : Int64)) hx hb hr (fun t ht hW => ⟨⟨(0 : Int64), (h, g), rfl, HW, g_B ht hG⟩, hG.2.2.F ht⟩) hG.2.2.2.2 dX11_twoOf_85
              · replace HW := HW.2 c_77
                refine lv_lconst (v := 1) hx hb dX11_twoOf_80 (by decide) ?_
                refine lv_goto (tgt := 85) hx hb dX11_twoOf_81 (by decide) ?_
                exact W.lret (v := (1 : Int64)) hx hb hr (fun t ht hW => ⟨⟨(1 : Int64), (h, g), rfl, HW, g_B ht hG⟩, hG.2.2.F ht⟩) hG.2.2.2.2 dX11_twoOf_85
            · by_cases c_1_5 : x0 = 9
              · replace HW := HW.2.2.2.2.2.1 c_1_5
                refine lv_tableIn (tgt := 86) (off := 85) hx hb dX11_twoOf_1 (by rw [c_1_5]; first | done | decide) (by rw [c_1_5]; first | done | decide) (by rw [c_1_5]; first | done | rfl) (by decide) ?_
                refine lv_lload_n hx hb dX11_twoOf_86 rfl (lv_at hl 1 rfl) ?_
                refine lv_lload_n hx hb dX11_twoOf_87 rfl (lv_at hl 2 rfl) ?_
                refine W.lcmp hx hb dX11_twoOf_88 ?_
                refine lv_if_le (tgt := 96) hx hb dX11_twoOf_89 (by decide) (fun c_89 => ?_) (fun c_89 => ?_)
                · replace HW := HW.1 c_89
                  refine lv_lconst (v := 0) hx hb dX11_twoOf_96 (by decide) ?_
                  exact W.lret (v := (0 : Int64)) hx hb hr (fun t ht hW => ⟨⟨(0 : Int64), (h, g), rfl, HW, g_B ht hG⟩, hG.2.2.F ht⟩) hG.2.2.2.2 dX11_twoOf_97
                · replace HW := HW.2 c_89
                  refine lv_lconst (v := 1) hx hb dX11_twoOf_92 (by decide) ?_
                  refine lv_goto (tgt := 97) hx hb dX11_twoOf_93 (by decide) ?_
                  exact W.lret (v := (1 : Int64)) hx hb hr (fun t ht hW => ⟨⟨(1 : Int64), (h, g), rfl, HW, g_B ht hG⟩, hG.2.2.F ht⟩) hG.2.2.2.2 dX11_twoOf_97
              · by_cases c_1_6 : x0 = 10
                · replace HW := HW.2.2.2.2.2.2.1 c_1_6
                  refine lv_tableIn (tgt := 98) (off := 97) hx hb dX11_twoOf_1 (by rw [c_1_6]; first | done | decide) (by rw [c_1_6]; first | done | decide) (by rw [c_1_6]; first | done | rfl) (by decide) ?_
                  refine lv_lload_n hx hb dX11_twoOf_98 rfl (lv_at hl 1 rfl) ?_
                  refine lv_lload_n hx hb dX11_twoOf_99 rfl (lv_at hl 2 rfl) ?_
                  refine W.lcmp hx hb dX11_twoOf_100 ?_
                  refine lv_if_ne (tgt := 108) hx hb dX11_twoOf_101 (by decide) (fun c_101 => ?_) (fun c_101 => ?_)
                  · replace HW := HW.1 c_101
                    refine lv_lconst (v := 0) hx hb dX11_twoOf_108 (by decide) ?_
                    exact W.lret (v := (0 : Int64)) hx hb hr (fun t ht hW => ⟨⟨(0 : Int64), (h, g), rfl, HW, g_B ht hG⟩, hG.2.2.F ht⟩) hG.2.2.2.2 dX11_twoOf_109
                  · replace HW := HW.2 c_101
                    refine lv_lconst (v := 1) hx hb dX11_twoOf_104 (by decide) ?_
                    refine lv_goto (tgt := 109) hx hb dX11_twoOf_105 (by decide) ?_
                    exact W.lret (v := (1 : Int64)) hx hb hr (fun t ht hW => ⟨⟨(1 : Int64), (h, g), rfl, HW, g_B ht hG⟩, hG.2.2.F ht⟩) hG.2.2.2.2 dX11_twoOf_109
                · by_cases c_1_7 : x0 = 11
                  · replace HW := HW.2.2.2.2.2.2.2.1 c_1_7
                    refine lv_tableIn (tgt := 110) (off := 109) hx hb dX11_twoOf_1 (by rw [c_1_7]; first | done | decide) (by rw [c_1_7]; first | done | decide) (by rw [c_1_7]; first | done | rfl) (by decide) ?_
                    refine lv_lload_n hx hb dX11_twoOf_110 rfl (lv_at hl 1 rfl) ?_
                    refine lv_lconst (v := 0) hx hb dX11_twoOf_111 (by decide) ?_
                    refine W.lcmp hx hb dX11_twoOf_112 ?_
                    refine lv_if_eq (tgt := 126) hx hb dX11_twoOf_113 (by decide) (fun c_113 => ?_) (fun c_113 => ?_)
                    · replace HW := HW.1 c_113
                      refine lv_lconst (v := 0) hx hb dX11_twoOf_126 (by decide) ?_
                      exact W.lret (v := (0 : Int64)) hx hb hr (fun t ht hW => ⟨⟨(0 : Int64), (h, g), rfl, HW, g_B ht hG⟩, hG.2.2.F ht⟩) hG.2.2.2.2 dX11_twoOf_127
                    · replace HW := HW.2 c_113
                      refine lv_lload_n hx hb dX11_twoOf_116 rfl (lv_at hl 2 rfl) ?_
                      refine lv_lconst (v := 0) hx hb dX11_twoOf_117 (by decide) ?_
                      refine W.lcmp hx hb dX11_twoOf_118 ?_
                      refine lv_if_eq (tgt := 126) hx hb dX11_twoOf_119 (by decide) (fun c_119 => ?_) (fun c_119 => ?_)
                      · replace HW := HW.1 c_119
                        refine lv_lconst (v := 0) hx hb dX11_twoOf_126 (by decide) ?_
                        exact W.lret (v := (0 : Int64)) hx hb hr (fun t ht hW => ⟨⟨(0 : Int64), (h, g), rfl, HW, g_B ht hG⟩, hG.2.2.F ht⟩) hG.2.2.2.2 dX11_twoOf_127
                      · replace HW := HW.2 c_119
                        refine lv_lconst (v := 1) hx hb dX11_twoOf_122 (by decide) ?_
                        refine lv_goto (tgt := 127) hx hb dX11_twoOf_123 (by decide) ?_
                        exact W.lret (v := (1 : Int64)) hx hb hr (fun t ht hW => ⟨⟨(1 : Int64), (h, g), rfl, HW, g_B ht hG⟩, hG.2.2.F ht⟩) hG.2.2.2.2 dX11_twoOf_127
                  · replace HW := HW.2.2.2.2.2.2.2.2 c_1_0 c_1_1 c_1_2 c_1_3 c_1_4 c_1_5 c_1_6 c_1_7
                    have z_1_0 := g_ne c_1_0 (n := 4) (by decide)
                    have z_1_1 := g_ne c_1_1 (n := 5) (by decide)
                    have z_1_2 := g_ne c_1_2 (n := 6) (by decide)
                    have z_1_3 := g_ne c_1_3 (n := 7) (by decide)
                    have z_1_4 := g_ne c_1_4 (n := 8) (by decide)
                    have z_1_5 := g_ne c_1_5 (n := 9) (by decide)
                    have z_1_6 := g_ne c_1_6 (n := 10) (by decide)
                    have z_1_7 := g_ne c_1_7 (n := 11) (by decide)
                    refine lv_tableOut (tgt := 128) hx hb dX11_twoOf_1 (by omega) (by decide) ?_
                    refine lv_lload_n hx hb dX11_twoOf_128 rfl (lv_at hl 1 rfl) ?_
                    refine lv_lconst (v := 0) hx hb dX11_twoOf_129 (by decide) ?_
                    refine W.lcmp hx hb dX11_twoOf_130 ?_
                    refine lv_if_ne (tgt := 140) hx hb dX11_twoOf_131 (by decide) (fun c_131 => ?_) (fun c_131 => ?_)
                    · replace HW := HW.1 c_131
                      exact B140 h g _ _ _ HW hG (lv_sub hl [] rfl)
                    · replace HW := HW.2 c_131
                      refine lv_lload_n hx hb dX11_twoOf_134 rfl (lv_at hl 2 rfl) ?_
                      refine lv_lconst (v := 0) hx hb dX11_twoOf_135 (by decide) ?_
                      refine W.lcmp hx hb dX11_twoOf_136 ?_
                      refine lv_if_eq (tgt := 144) hx hb dX11_twoOf_137 (by decide) (fun c_137 => ?_) (fun c_137 => ?_)
                      · replace HW := HW.1 c_137
                        refine lv_lconst (v := 0) hx hb dX11_twoOf_144 (by decide) ?_
                        exact W.lret (v := (0 : Int64)) hx hb hr (fun t ht hW => ⟨⟨(0 : Int64), (h, g), rfl, HW, g_B ht hG⟩, hG.2.2.F ht⟩) hG.2.2.2.2 dX11_twoOf_145
                      · replace HW := HW.2 c_137
                        exact B140 h g _ _ _ HW hG (lv_sub hl [] rfl)
  exact E0 _ _ _ hG hl

def j_X11_tells_196 (Q : Int64 → HI → HL → Prop) (K5 : Int32 → Int32 → Int32 → Int32 → HI → HL → Prop) (x1 : Int32) (x2 : Int32) (x3 : Int32) (x4 : Int32) (h : HI) (g : HL) : Prop :=
  (∀ x4_196 : Int32, x4_196 = (x4 + 1) → K5 x1 x2 x3 x4_196 h g)
def j_X11_tells_98 (Q : Int64 → HI → HL → Prop) (K5 : Int32 → Int32 → Int32 → Int32 → HI → HL → Prop) (x1 : Int32) (x2 : Int32) (x3 : Int32) (x4 : Int32) (s1 : Int32) (s2 : Int64) (h : HI) (g : HL) : Prop :=
  (vp_in s1 70 ∧ ∀ g_98 : HL, g_98 = hul g 142 s1.toNatClampNeg s2 → (∀ x3_99 : Int32, x3_99 = (x3 + 1) → j_X11_tells_196 Q K5 x1 x2 x3_99 x4 h g_98))
def j_X11_tells_34 (Q : Int64 → HI → HL → Prop) (K5 : Int32 → Int32 → Int32 → Int32 → HI → HL → Prop) (x1 : Int32) (x2 : Int32) (x3 : Int32) (x4 : Int32) (x5 : Int32) (h : HI) (g : HL) : Prop :=
  ((¬ x5 = 0 → (vp_in x4 70 ∧ ((¬ (h 140 x4.toNatClampNeg) = 0 → (vp_in x4 70 ∧ ((¬ (h 140 x4.toNatClampNeg) = (1 : Int32) → (∃ P_94 : Int32 → HI → HL → Prop, w_X11_partOf x1 (1 : Int32) h g P_94 ∧ ∀ (r_94 : Int32) (h_94 : HI) (g_94 : HL), P_94 r_94 h_94 g_94 → j_X11_tells_98 Q K5 x1 x2 x3 x4 x3 ((r_94).toInt64) h_94 g_94)) ∧ ((h 140 x4.toNatClampNeg) = (1 : Int32) → (∃ P_84 : Int32 → HI → HL → Prop, w_X11_partOf x1 (0 : Int32) h g P_84 ∧ ∀ (r_84 : Int32) (h_84 : HI) (g_84 : HL), P_84 r_84 h_84 g_84 → j_X11_tells_98 Q K5 x1 x2 x3 x4 x3 ((r_84).toInt64) h_84 g_84))))) ∧ ((h 140 x4.toNatClampNeg) = 0 → j_X11_tells_98 Q K5 x1 x2 x3 x4 x3 ((x2).toInt64) h g)))) ∧ (x5 = 0 → (vp_in x4 70 ∧ j_X11_tells_98 Q K5 x1 x2 x3 x4 x3 (((h 140 x4.toNatClampNeg)).toInt64) h g)))
def j_X11_tells_162 (Q : Int64 → HI → HL → Prop) (K5 : Int32 → Int32 → Int32 → Int32 → HI → HL → Prop) (x1 : Int32) (x2 : Int32) (x3 : Int32) (x4 : Int32) (s1 : Int32) (s2 : Int64) (h : HI) (g : HL) : Prop :=
  (vp_in s1 70 ∧ ∀ g_162 : HL, g_162 = hul g 142 s1.toNatClampNeg s2 → j_X11_tells_196 Q K5 x1 x2 x3 x4 h g_162)
def b_X11_tells_5 (Q : Int64 → HI → HL → Prop) (K5 : Int32 → Int32 → Int32 → Int32 → HI → HL → Prop) (x1 : Int32) (x2 : Int32) (x3 : Int32) (x4 : Int32) (h : HI) (g : HL) : Prop :=
  (((h 135 3) ≤ x4 → (vp_in (0 : Int32) 70 ∧ Q (g 142 (0 : Int32).toNatClampNeg) h g)) ∧ (¬ (h 135 3) ≤ x4 → (vp_in x4 70 ∧ (∀ x5_21 : Int32, x5_21 = (h 139 x4.toNatClampNeg) → ((x5_21 = 0 → j_X11_tells_34 Q K5 x1 x2 x3 x4 x5_21 h g) ∧ (¬ x5_21 = 0 → ((¬ x5_21 = (1 : Int32) → ((¬ x5_21 = (3 : Int32) → ((¬ x5_21 = (2 : Int32) → (∀ x3_166 : Int32, x3_166 = (x3 + (-1)) → (vp_in (x3_166 - (1 : Int32)) 70 ∧ (vp_in x3_166 70 ∧ (∃ P_192 : Int64 → HI → HL → Prop, w_X11_twoOf x5_21 (g 142 (x3_166 - (1 : Int32)).toNatClampNeg) (g 142 x3_166.toNatClampNeg) h g P_192 ∧ ∀ (r_192 : Int64) (h_192 : HI) (g_192 : HL), P_192 r_192 h_192 g_192 → (vp_in (x3_166 - (1 : Int32)) 70 ∧ ∀ g_195 : HL, g_195 = hul g_192 142 (x3_166 - (1 : Int32)).toNatClampNeg r_192 → j_X11_tells_196 Q K5 x1 x2 x3_166 x4 h_192 g_195)))))) ∧ (x5_21 = (2 : Int32) → (vp_in (x3 - (1 : Int32)) 70 ∧ ((¬ (lg_cmp (g 142 (x3 - (1 : Int32)).toNatClampNeg) (0 : Int64)) = 0 → j_X11_tells_162 Q K5 x1 x2 x3 x4 (x3 - (1 : Int32)) (0 : Int64) h g) ∧ ((lg_cmp (g 142 (x3 - (1 : Int32)).toNatClampNeg) (0 : Int64)) = 0 → j_X11_tells_162 Q K5 x1 x2 x3 x4 (x3 - (1 : Int32)) (1 : Int64) h g)))))) ∧ (x5_21 = (3 : Int32) → (vp_in (x3 - (1 : Int32)) 70 ∧ (vp_in (x3 - (1 : Int32)) 70 ∧ ∀ g_127 : HL, g_127 = hul g 142 (x3 - (1 : Int32)).toNatClampNeg (-(g 142 (x3 - (1 : Int32)).toNatClampNeg)) → j_X11_tells_196 Q K5 x1 x2 x3 x4 h g_127))))) ∧ (x5_21 = (1 : Int32) → j_X11_tells_34 Q K5 x1 x2 x3 x4 x5_21 h g))))))))
def F_X11_tells_5 (Q : Int64 → HI → HL → Prop) (K : Int32 × Int32 × Int32 × Int32 × HI × HL → Prop) (q : Int32 × Int32 × Int32 × Int32 × HI × HL) : Prop := b_X11_tells_5 Q (fun x1 x2 x3 x4 h g => K (x1, x2, x3, x4, h, g)) q.1 q.2.1 q.2.2.1 q.2.2.2.1 q.2.2.2.2.1 q.2.2.2.2.2
def w_X11_tells (x1 : Int32) (x2 : Int32) (h : HI) (g : HL) (Q : Int64 → HI → HL → Prop) : Prop :=
  lpE (F_X11_tells_5 Q) (x1, x2, (0 : Int32), (0 : Int32), h, g)
set_option maxHeartbeats 8000000 in
set_option maxRecDepth 100000 in
theorem m_X11_tells (l : Launch) (D : va_G) (cy : Nat → ClassId) (ad : Nat → Nat) (h : HI) (g : HL) (sz : Nat) (x1 : Int32) (x2 : Int32) (Q : Int64 → HI → HL → Prop) (HW : w_X11_tells x1 x2 h g Q) : Met l yX11_tells (wa yX11_tells cX11_tells 6 (some .long)) ({ frames := 1, cells := 0, slots := 0, locals := 24 }) (va_Pc [.ref (ad 135), .int x1, .int x2] (gI D cy ad h g sz)) (va_Ql (fun (r : Int64) (u : HI × HL) => Q r u.1 u.2) (gB D cy ad sz) (gA ad sz)) 0 0 (gA ad sz) := by
  refine Met.ofW (cc := cX11_tells) (maxL := 6) (ret := (some .long)) (by decide) rfl ?_
  intro p e s m args below meth c s₁ B hml hv
  obtain ⟨hav, hsz, hP, hK, hD0, hNw⟩ := hv
  have hx := B.exec
  have hb := B.bytes
  have hr := B.returns
  have hts := atoms_spec (ws := (wa yX11_tells cX11_tells 6 (some .long))) B.pre
  have hw := wa_hw hts
  have hown : s.vm.findClass RX11 = some m.cls := findClass_of_methodNamed B.named
  have hlocks := B.notSynchronized
  subst hsz
  have hG : gG D cy ad (gA ad s.heap.size) s.heap h g s.heap [] := ⟨hP, gA_self hD0, va_S.rf⟩
  clear hP hD0
  have lk78 := hw (.fieldLink RX11 78 "OldWorksModel" "steps" "I") (wm5 30 rfl rfl)
  have lk29 := hw (.fieldLink RX11 29 "OldWorksModel" "value" "[J") (wm5 35 rfl rfl)
  have lk20 := hw (.fieldLink RX11 20 "OldWorksModel" "step" "[I") (wm5 31 rfl rfl)
  have lk23 := hw (.fieldLink RX11 23 "OldWorksModel" "with" "[I") (wm5 32 rfl rfl)
  rw [show (headSpec (wa yX11_tells cX11_tells 6 (some .long)) ({ frames := 1, cells := 0, slots := 0, locals := 24 } : Room)).room = ({ frames := 1, cells := 0, slots := 0, locals := 24 } : Room) from rfl]
  have hl := lv_entry ([.ref (ad 135), .int x1, .int x2]) (n := 6) (Nat.le_of_ble_eq_true rfl)
  rw [show entryFrame m args 6 = entryFrame m ([.ref (ad 135), .int x1, .int x2] : List Value).toArray 6 from by rw [hav], lg_entry_eq]
  generalize (lg_sl ([.ref (ad 135), .int x1, .int x2]) ++ List.replicate (6 - (lg_sl ([.ref (ad 135), .int x1, .int x2])).length) Slot.unset).toArray = ls at hl ⊢
  have hl : lv_has ls 6 [(0, .ref (ad 135)), (1, .int x1), (2, .int x2)] := hl
  have B196 : ∀ (K5 : Int32 → Int32 → Int32 → Int32 → HI → HL → Prop) (hK5 : ∀ (x1 : Int32) (x2 : Int32) (x3 : Int32) (x4 : Int32) (h : HI) (g : HL) (H : Heap) (locs : List Loc) (ls : Array Slot), K5 x1 x2 x3 x4 h g → gG D cy ad (gA ad s.heap.size) s.heap h g H locs → lv_has ls 6 [(0, .ref (ad 135)), (1, .int x1), (2, .int x2), (3, .int x3), (4, .int x4)] → W p l e ({ frames := 1, cells := 0, slots := 0, locals := 24 } : Room) s m args below meth c H locs 0 0 (MQ below (va_Ql (fun (r : Int64) (u : HI × HL) => Q r u.1 u.2) (gB D cy ad s.heap.size) (gA ad s.heap.size)) args s 0 0 (gA ad s.heap.size)) (F0 m 5 ls [])) (x1 : Int32) (x2 : Int32) (x3 : Int32) (x4 : Int32) (h : HI) (g : HL) (H : Heap) (locs : List Loc) (ls : Array Slot), j_X11_tells_196 Q K5 x1 x2 x3 x4 h g → gG D cy ad (gA ad s.heap.size) s.heap h g H locs → lv_has ls 6 [(0, .ref (ad 135)), (1, .int x1), (2, .int x2), (3, .int x3), (4, .int x4)] → W p l e ({ frames := 1, cells := 0, slots := 0, locals := 24 } : Room) s m args below meth c H locs 0 0 (MQ below (va_Ql (fun (r : Int64) (u : HI × HL) => Q r u.1 u.2) (gB D cy ad s.heap.size) (gA ad s.heap.size)) args s 0 0 (gA ad s.heap.size)) (F0 m 196 ls []) := by
    intro K5 hK5 x1 x2 x3 x4 h g H locs ls HW hG hl
    unfold j_X11_tells_196 at HW
    obtain ⟨x4_196, ex4_196⟩ : ∃ y : Int32, y = (x4 + 1) := ⟨_, rfl⟩
    replace HW := HW x4_196 ex4_196
    refine lv_iinc (v := x4_196) (lv' := [(4, .int x4_196), (0, .ref (ad 135)), (1, .int x1), (2, .int x2), (3, .int x3)]) hx hb dX11_tells_196 hl (k := 4) rfl (by rw [ex4_196]; rfl) (by decide) rfl (fun ls hl => ?_)
    refine lv_goto (tgt := 5) hx hb dX11_tells_199 (by decide) ?_
    exact hK5 x1 x2 x3 x4_196 h g _ _ _ HW hG (lv_sub hl [1, 2, 3, 4, 0] rfl)
  have B98 : ∀ (K5 : Int32 → Int32 → Int32 → Int32 → HI → HL → Prop) (hK5 : ∀ (x1 : Int32) (x2 : Int32) (x3 : Int32) (x4 : Int32) (h : HI) (g : HL) (H : Heap) (locs : List Loc) (ls : Array Slot), K5 x1 x2 x3 x4 h g → gG D cy ad (gA ad s.heap.size) s.heap h g H locs → lv_has ls 6 [(0, .ref (ad 135)), (1, .int x1), (2, .int x2), (3, .int x3), (4, .int x4)] → W p l e ({ frames := 1, cells := 0, slots := 0, locals := 24 } : Room) s m args below meth c H locs 0 0 (MQ below (va_Ql (fun (r : Int64) (u : HI × HL) => Q r u.1 u.2) (gB D cy ad s.heap.size) (gA ad s.heap.size)) args s 0 0 (gA ad s.heap.size)) (F0 m 5 ls [])) (x1 : Int32) (x2 : Int32) (x3 : Int32) (x4 : Int32) (s1 : Int32) (s2 : Int64) (h : HI) (g : HL) (H : Heap) (locs : List Loc) (ls : Array Slot), j_X11_tells_98 Q K5 x1 x2 x3 x4 s1 s2 h g → gG D cy ad (gA ad s.heap.size) s.heap h g H locs → lv_has ls 6 [(0, .ref (ad 135)), (1, .int x1), (2, .int x2), (3, .int x3), (4, .int x4)] → W p l e ({ frames := 1, cells := 0, slots := 0, locals := 24 } : Room) s m args below meth c H locs 0 0 (MQ below (va_Ql (fun (r : Int64) (u : HI × HL) => Q r u.1 u.2) (gB D cy ad s.heap.size) (gA ad s.heap.size)) args s 0 0 (gA ad s.heap.size)) (F0 m 98 ls [.long s2, .int s1, .ref (ad 142)]) := by
    intro K5 hK5 x1 x2 x3 x4 s1 s2 h g H locs ls HW hG hl
    unfold j_X11_tells_98 at HW
    refine g_last hx hb hK hG gl_142 gk_142 gn_142 HW.1 dX11_tells_98 (fun H locs hG => ?_)
    replace HW := HW.2
    obtain ⟨g_98, eg_98⟩ : ∃ y : HL, y = hul g 142 s1.toNatClampNeg s2 := ⟨_, rfl⟩
    rw [← eg_98] at hG
    replace HW := HW g_98 eg_98
    obtain ⟨x3_99, ex3_99⟩ : ∃ y : Int32, y = (x3 + 1) := ⟨_, rfl⟩
    replace HW := HW x3_99 ex3_99
    refine lv_iinc (v := x3_99) (lv' := [(3, .int x3_99), (0, .ref (ad 135)), (1, .int x1), (2, .int x2), (4, .int x4)]) hx hb dX11_tells_99 hl (k := 3) rfl (by rw [ex3_99]; rfl) (by decide) rfl (fun ls hl => ?_)
    refine lv_goto (tgt := 196) hx hb dX11_tells_102 (by decide) ?_
    exact B196 K5 hK5 x1 x2 x3_99 x4 h g_98 _ _ _ HW hG (lv_sub hl [1, 2, 3, 0, 4] rfl)
  have B34 : ∀ (K5 : Int32 → Int32 → Int32 → Int32 → HI → HL → Prop) (hK5 : ∀ (x1 : Int32) (x2 : Int32) (x3 : Int32) (x4 : Int32) (h : HI) (g : HL) (H : Heap) (locs : List Loc) (ls : Array Slot), K5 x1 x2 x3 x4 h g → gG D cy ad (gA ad s.heap.size) s.heap h g H locs → lv_has ls 6 [(0, .ref (ad 135)), (1, .int x1), (2, .int x2), (3, .int x3), (4, .int x4)] → W p l e ({ frames := 1, cells := 0, slots := 0, locals := 24 } : Room) s m args below meth c H locs 0 0 (MQ below (va_Ql (fun (r : Int64) (u : HI × HL) => Q r u.1 u.2) (gB D cy ad s.heap.size) (gA ad s.heap.size)) args s 0 0 (gA ad s.heap.size)) (F0 m 5 ls [])) (x1 : Int32) (x2 : Int32) (x3 : Int32) (x4 : Int32) (x5 : Int32) (h : HI) (g : HL) (H : Heap) (locs : List Loc) (ls : Array Slot), j_X11_tells_34 Q K5 x1 x2 x3 x4 x5 h g → gG D cy ad (gA ad s.heap.size) s.heap h g H locs → lv_has ls 6 [(0, .ref (ad 135)), (1, .int x1), (2, .int x2), (3, .int x3), (4, .int x4), (5, .int x5)] → W p l e ({ frames := 1, cells := 0, slots := 0, locals := 24 } : Room) s m args below meth c H locs 0 0 (MQ below (va_Ql (fun (r : Int64) (u : HI × HL) => Q r u.1 u.2) (gB D cy ad s.heap.size) (gA ad s.heap.size)) args s 0 0 (gA ad s.heap.size)) (F0 m 34 ls []) := by
    intro K5 hK5 x1 x2 x3 x4 x5 h g H locs ls HW hG hl
    unfold j_X11_tells_34 at HW
    refine lv_aload_n hx hb dX11_tells_34 rfl (lv_at hl 0 rfl) ?_
    refine g_getr hx hb hw inG11 hown hK hG gl_135 rfl gk_135 (by decide) 8 (by decide) (by rw [gm_135]; decide) (r := 142) gr_135_8 lk29 dX11_tells_35 ?_
    refine lv_iload_n hx hb dX11_tells_38 rfl (lv_at hl 3 rfl) ?_
    refine lv_iload hx hb dX11_tells_39 (lv_at hl 5 rfl) ?_
    refine lv_if_ne (tgt := 55) hx hb dX11_tells_41 (by decide) (fun c_41 => ?_) (fun c_41 => ?_)
    · replace HW := HW.1 c_41
      refine lv_aload_n hx hb dX11_tells_55 rfl (lv_at hl 0 rfl) ?_
      refine g_getr hx hb hw inG11 hown hK hG gl_135 rfl gk_135 (by decide) 5 (by decide) (by rw [gm_135]; decide) (r := 140) gr_135_5 lk23 dX11_tells_56 ?_
      refine lv_iload hx hb dX11_tells_59 (lv_at hl 4 rfl) ?_
      refine g_iald hx hb hK hG gl_140 gk_140 gn_140 HW.1 dX11_tells_61 ?_
      replace HW := HW.2
      refine lv_if_ne (tgt := 70) hx hb dX11_tells_62 (by decide) (fun c_62 => ?_) (fun c_62 => ?_)
      · replace HW := HW.1 c_62
        refine lv_aload_n hx hb dX11_tells_70 rfl (lv_at hl 0 rfl) ?_
        refine g_getr hx hb hw inG11 hown hK hG gl_135 rfl gk_135 (by decide) 5 (by decide) (by rw [gm_135]; decide) (r := 140) gr_135_5 lk23 dX11_tells_71 ?_
        refine lv_iload hx hb dX11_tells_74 (lv_at hl 4 rfl) ?_
        refine g_iald hx hb hK hG gl_140 gk_140 gn_140 HW.1 dX11_tells_76 ?_
        replace HW := HW.2
        refine lv_iconst (v := 1) hx hb dX11_tells_77 (by decide) ?_
        refine lv_icmp_ne (tgt := 91) hx hb dX11_tells_78 (by decide) (fun c_78 => ?_) (fun c_78 => ?_)
        · replace HW := HW.1 c_78
          refine lv_aload_n hx hb dX11_tells_91 rfl (lv_at hl 0 rfl) ?_
          refine lv_iload_n hx hb dX11_tells_92 rfl (lv_at hl 1 rfl) ?_
          refine lv_iconst (v := 1) hx hb dX11_tells_93 (by decide) ?_
          obtain ⟨P_94, HC_94, HW⟩ := HW
          refine g_calli (g_runV (As := [.int x1, .int (1 : Int32)]) (rest := [.int x3, .ref (ad 142)]) ⟨hx, hb, hml, hown, hts⟩ (m_X11_partOf l D cy ad h g H.size x1 (1 : Int32) P_94 HC_94) (cwV 2 hts (gd_V (wm5 192 rfl rfl) (wm5 194 rfl rfl) (wmp4 (q := (yX11_partOf, 26)) 0 rfl) (wm1 13 rfl rfl) (wm5 195 rfl rfl)) rfl rfl rfl (by decide +kernel) ⟨Nat.le_of_ble_eq_true rfl, Nat.le_of_ble_eq_true rfl⟩) hK hNw hG gl_135 rfl gk_135 (by decide) rfl rfl hl.1 rfl (lv_room (Nat.le_of_ble_eq_true rfl)) dX11_tells_94 ⟨Nat.zero_le _, Nat.zero_le _⟩) hG (fun r_94 h_94 g_94 H locs hq hG => ?_)
          replace HW := HW r_94 h_94 g_94 hq
          refine lv_i2l hx hb dX11_tells_97 rfl ?_
          exact B98 K5 hK5 x1 x2 x3 x4 x3 ((r_94).toInt64) h_94 g_94 _ _ _ HW hG (lv_sub hl [0, 1, 2, 3, 4] rfl)
        · replace HW := HW.2 c_78
          refine lv_aload_n hx hb dX11_tells_81 rfl (lv_at hl 0 rfl) ?_
          refine lv_iload_n hx hb dX11_tells_82 rfl (lv_at hl 1 rfl) ?_
          refine lv_iconst (v := 0) hx hb dX11_tells_83 (by decide) ?_
          obtain ⟨P_84, HC_84, HW⟩ := HW
          refine g_calli (g_runV (As := [.int x1, .int (0 : Int32)]) (rest := [.int x3, .ref (ad 142)]) ⟨hx, hb, hml, hown, hts⟩ (m_X11_partOf l D cy ad h g H.size x1 (0 : Int32) P_84 HC_84) (cwV 2 hts (gd_V (wm5 192 rfl rfl) (wm5 194 rfl rfl) (wmp4 (q := (yX11_partOf, 26)) 0 rfl) (wm1 13 rfl rfl) (wm5 195 rfl rfl)) rfl rfl rfl (by decide +kernel) ⟨Nat.le_of_ble_eq_true rfl, Nat.le_of_ble_eq_true rfl⟩) hK hNw hG gl_135 rfl gk_135 (by decide) rfl rfl hl.1 rfl (lv_room (Nat.le_of_ble_eq_true rfl)) dX11_tells_84 ⟨Nat.zero_le _, Nat.zero_le _⟩) hG (fun r_84 h_84 g_84 H locs hq hG => ?_)
          replace HW := HW r_84 h_84 g_84 hq
          refine lv_i2l hx hb dX11_tells_87 rfl ?_
          refine lv_goto (tgt := 98) hx hb dX11_tells_88 (by decide) ?_
          exact B98 K5 hK5 x1 x2 x3 x4 x3 ((r_84).toInt64) h_84 g_84 _ _ _ HW hG (lv_sub hl [0, 1, 2, 3, 4] rfl)
      · replace HW := HW.2 c_62
        refine lv_iload_n hx hb dX11_tells_65 rfl (lv_at hl 2 rfl) ?_
        refine lv_i2l hx hb dX11_tells_66 rfl ?_
        refine lv_goto (tgt := 98) hx hb dX11_tells_67 (by decide) ?_
        exact B98 K5 hK5 x1 x2 x3 x4 x3 ((x2).toInt64) h g _ _ _ HW hG (lv_sub hl [0, 1, 2, 3, 4] rfl)
    · replace HW := HW.2 c_41
      refine lv_aload_n hx hb dX11_tells_44 rfl (lv_at hl 0 rfl) ?_
      refine g_getr hx hb hw inG11 hown hK hG gl_135 rfl gk_135 (by decide) 5 (by decide) (by rw [gm_135]; decide) (r := 140) gr_135_5 lk23 dX11_tells_45 ?_
      refine lv_iload hx hb dX11_tells_48 (lv_at hl 4 rfl) ?_
      refine g_iald hx hb hK hG gl_140 gk_140 gn_140 HW.1 dX11_tells_50 ?_
      replace HW := HW.2
      refine lv_i2l hx hb dX11_tells_51 rfl ?_
      refine lv_goto (tgt := 98) hx hb dX11_tells_52 (by decide) ?_
      exact B98 K5 hK5 x1 x2 x3 x4 x3 (((h 140 x4.toNatClampNeg)).toInt64) h g _ _ _ HW hG (lv_sub hl [0, 1, 2, 3, 4] rfl)
  have B162 : ∀ (K5 : Int32 → Int32 → Int32 → Int32 → HI → HL → Prop) (hK5 : ∀ (x1 : Int32) (x2 : Int32) (x3 : Int32) (x4 : Int32) (h : HI) (g : HL) (H : Heap) (locs : List Loc) (ls : Array Slot), K5 x1 x2 x3 x4 h g → gG D cy ad (gA ad s.heap.size) s.heap h g H locs → lv_has ls 6 [(0, .ref (ad 135)), (1, .int x1), (2, .int x2), (3, .int x3), (4, .int x4)] → W p l e ({ frames := 1, cells := 0, slots := 0, locals := 24 } : Room) s m args below meth c H locs 0 0 (MQ below (va_Ql (fun (r : Int64) (u : HI × HL) => Q r u.1 u.2) (gB D cy ad s.heap.size) (gA ad s.heap.size)) args s 0 0 (gA ad s.heap.size)) (F0 m 5 ls [])) (x1 : Int32) (x2 : Int32) (x3 : Int32) (x4 : Int32) (s1 : Int32) (s2 : Int64) (h : HI) (g : HL) (H : Heap) (locs : List Loc) (ls : Array Slot), j_X11_tells_162 Q K5 x1 x2 x3 x4 s1 s2 h g → gG D cy ad (gA ad s.heap.size) s.heap h g H locs → lv_has ls 6 [(0, .ref (ad 135)), (1, .int x1), (2, .int x2), (3, .int x3), (4, .int x4)] → W p l e ({ frames := 1, cells := 0, slots := 0, locals := 24 } : Room) s m args below meth c H locs 0 0 (MQ below (va_Ql (fun (r : Int64) (u : HI × HL) => Q r u.1 u.2) (gB D cy ad s.heap.size) (gA ad s.heap.size)) args s 0 0 (gA ad s.heap.size)) (F0 m 162 ls [.long s2, .int s1, .ref (ad 142)]) := by
    intro K5 hK5 x1 x2 x3 x4 s1 s2 h g H locs ls HW hG hl
    unfold j_X11_tells_162 at HW
    refine g_last hx hb hK hG gl_142 gk_142 gn_142 HW.1 dX11_tells_162 (fun H locs hG => ?_)
    replace HW := HW.2
    obtain ⟨g_162, eg_162⟩ : ∃ y : HL, y = hul g 142 s1.toNatClampNeg s2 := ⟨_, rfl⟩
    rw [← eg_162] at hG
    replace HW := HW g_162 eg_162
    refine lv_goto (tgt := 196) hx hb dX11_tells_163 (by decide) ?_
    exact B196 K5 hK5 x1 x2 x3 x4 h g_162 _ _ _ HW hG (lv_sub hl [0, 1, 2, 3, 4] rfl)
  have L5 : ∀ (n : Nat) (x1 : Int32) (x2 : Int32) (x3 : Int32) (x4 : Int32) (h : HI) (g : HL) (H : Heap) (locs : List Loc) (ls : Array Slot), lpN (F_X11_tells_5 Q) n (x1, x2, x3, x4, h, g) → gG D cy ad (gA ad s.heap.size) s.heap h g H locs → lv_has ls 6 [(0, .ref (ad 135)), (1, .int x1), (2, .int x2), (3, .int x3), (4, .int x4)] → W p l e ({ frames := 1, cells := 0, slots := 0, locals := 24 } : Room) s m args below meth c H locs 0 0 (MQ below (va_Ql (fun (r : Int64) (u : HI × HL) => Q r u.1 u.2) (gB D cy ad s.heap.size) (gA ad s.heap.size)) args s 0 0 (gA ad s.heap.size)) (F0 m 5 ls []) := by
    intro n
    induction n with
    | zero => intro x1 x2 x3 x4 h g H locs ls HW; exact HW.elim
    | succ n ih =>
      intro x1 x2 x3 x4 h g H locs ls HW hG hl
      have HW : b_X11_tells_5 Q (fun x1 x2 x3 x4 h g => lpN (F_X11_tells_5 Q) n (x1, x2, x3, x4, h, g)) x1 x2 x3 x4 h g := HW
      generalize hKe : (fun (x1 : Int32) (x2 : Int32) (x3 : Int32) (x4 : Int32) (h : HI) (g : HL) => lpN (F_X11_tells_5 Q) n (x1, x2, x3, x4, h, g)) = K5 at HW
      have hK5 : ∀ (x1 : Int32) (x2 : Int32) (x3 : Int32) (x4 : Int32) (h : HI) (g : HL) (H : Heap) (locs : List Loc) (ls : Array Slot), K5 x1 x2 x3 x4 h g → gG D cy ad (gA ad s.heap.size) s.heap h g H locs → lv_has ls 6 [(0, .ref (ad 135)), (1, .int x1), (2, .int x2), (3, .int x3), (4, .int x4)] → W p l e ({ frames := 1, cells := 0, slots := 0, locals := 24 } : Room) s m args below meth c H locs 0 0 (MQ below (va_Ql (fun (r : Int64) (u : HI × HL) => Q r u.1 u.2) (gB D cy ad s.heap.size) (gA ad s.heap.size)) args s 0 0 (gA ad s.heap.size)) (F0 m 5 ls []) := by subst hKe; exact ih
      clear ih
      clear hKe
      unfold b_X11_tells_5 at HW
      refine lv_iload hx hb dX11_tells_5 (lv_at hl 4 rfl) ?_
      refine lv_aload_n hx hb dX11_tells_7 rfl (lv_at hl 0 rfl) ?_
      refine g_geti hx hb hw inG11 hown hK hG gl_135 rfl gk_135 (by decide) 3 (by decide) (by rw [gm_135]; decide) gr_135_3 lk78 dX11_tells_8 ?_
      refine lv_icmp_ge (tgt := 202) hx hb dX11_tells_11 (by decide) (fun c_11 => ?_) (fun c_11 => ?_)
      · replace HW := HW.1 c_11
        refine lv_aload_n hx hb dX11_tells_202 rfl (lv_at hl 0 rfl) ?_
        refine g_getr hx hb hw inG11 hown hK hG gl_135 rfl gk_135 (by decide) 8 (by decide) (by rw [gm_135]; decide) (r := 142) gr_135_8 lk29 dX11_tells_203 ?_
        refine lv_iconst (v := 0) hx hb dX11_tells_206 (by decide) ?_
        refine g_lald hx hb hK hG gl_142 gk_142 gn_142 HW.1 dX11_tells_207 ?_
        replace HW := HW.2
        exact W.lret (v := (g 142 (0 : Int32).toNatClampNeg)) hx hb hr (fun t ht hW => ⟨⟨(g 142 (0 : Int32).toNatClampNeg), (h, g), rfl, HW, g_B ht hG⟩, hG.2.2.F ht⟩) hG.2.2.2.2 dX11_tells_208
      · replace HW := HW.2 c_11
        refine lv_aload_n hx hb dX11_tells_14 rfl (lv_at hl 0 rfl) ?_
        refine g_getr hx hb hw inG11 hown hK hG gl_135 rfl gk_135 (by decide) 4 (by decide) (by rw [gm_135]; decide) (r := 139) gr_135_4 lk20 dX11_tells_15 ?_
        refine lv_iload hx hb dX11_tells_18 (lv_at hl 4 rfl) ?_
        refine g_iald hx hb hK hG gl_139 gk_139 gn_139 HW.1 dX11_tells_20 ?_
        replace HW := HW.2
        refine lv_topi (fun x5_21 ex5_21 => ?_)
        replace HW := HW x5_21 ex5_21
        refine lv_istore (lv' := [(5, .int x5_21), (0, .ref (ad 135)), (1, .int x1), (2, .int x2), (3, .int x3), (4, .int x4)]) hx hb dX11_tells_21 hl (by decide) rfl (fun ls hl => ?_)
        refine lv_iload hx hb dX11_tells_23 (lv_at hl 0 rfl) ?_
        refine lv_if_eq (tgt := 34) hx hb dX11_tells_25 (by decide) (fun c_25 => ?_) (fun c_25 => ?_)
        · replace HW := HW.1 c_25
          exact B34 K5 hK5 x1 x2 x3 x4 x5_21 h g _ _ _ HW hG (lv_sub hl [1, 2, 3, 4, 5, 0] rfl)
        · replace HW := HW.2 c_25
          refine lv_iload hx hb dX11_tells_28 (lv_at hl 0 rfl) ?_
          refine lv_iconst (v := 1) hx hb dX11_tells_30 (by decide) ?_
          refine lv_icmp_ne (tgt := 105) hx hb dX11_tells_31 (by decide) (fun c_31 => ?_) (fun c_31 => ?_)
          · replace HW := HW.1 c_31
            refine lv_iload hx hb dX11_tells_105 (lv_at hl 0 rfl) ?_
            refine lv_iconst (v := 3) hx hb dX11_tells_107 (by decide) ?_
            refine lv_icmp_ne (tgt := 131) hx hb dX11_tells_108 (by decide) (fun c_108 => ?_) (fun c_108 => ?_)
            · replace HW := HW.1 c_108
              refine lv_iload hx hb dX11_tells_131 (lv_at hl 0 rfl) ?_
              refine lv_iconst (v := 2) hx hb dX11_tells_133 (by decide) ?_
              refine lv_icmp_ne (tgt := 166) hx hb dX11_tells_134 (by decide) (fun c_134 => ?_) (fun c_134 => ?_)
              · replace HW := HW.1 c_134
                obtain ⟨x3_166, ex3_166⟩ : ∃ y : Int32, y = (x3 + (-1)) := ⟨_, rfl⟩
                replace HW := HW x3_166 ex3_166
                refine lv_iinc (v := x3_166) (lv' := [(3, .int x3_166), (5, .int x5_21), (0, .ref (ad 135)), (1, .int x1), (2, .int x2), (4, .int x4)]) hx hb dX11_tells_166 hl (k := 4) rfl (by rw [ex3_166]; rfl) (by decide) rfl (fun ls hl => ?_)
                refine lv_aload_n hx hb dX11_tells_169 rfl (lv_at hl 2 rfl) ?_
                refine g_getr hx hb hw inG11 hown hK hG gl_135 rfl gk_135 (by decide) 8 (by decide) (by rw [gm_135]; decide) (r := 142) gr_135_8 lk29 dX11_tells_170 ?_
                refine lv_iload_n hx hb dX11_tells_173 rfl (lv_at hl 0 rfl) ?_
                refine lv_iconst (v := 1) hx hb dX11_tells_174 (by decide) ?_
                refine lv_isub hx hb dX11_tells_175 ?_
                refine lv_iload hx hb dX11_tells_176 (lv_at hl 1 rfl) ?_
                refine lv_aload_n hx hb dX11_tells_178 rfl (lv_at hl 2 rfl) ?_
                refine g_getr hx hb hw inG11 hown hK hG gl_135 rfl gk_135 (by decide) 8 (by decide) (by rw [gm_135]; decide) (r := 142) gr_135_8 lk29 dX11_tells_179 ?_
                refine lv_iload_n hx hb dX11_tells_182 rfl (lv_at hl 0 rfl) ?_
                refine lv_iconst (v := 1) hx hb dX11_tells_183 (by decide) ?_
                refine lv_isub hx hb dX11_tells_184 ?_
                refine g_lald hx hb hK hG gl_142 gk_142 gn_142 HW.1 dX11_tells_185 ?_
                replace HW := HW.2
                refine lv_aload_n hx hb dX11_tells_186 rfl (lv_at hl 2 rfl) ?_
                refine g_getr hx hb hw inG11 hown hK hG gl_135 rfl gk_135 (by decide) 8 (by decide) (by rw [gm_135]; decide) (r := 142) gr_135_8 lk29 dX11_tells_187 ?_
                refine lv_iload_n hx hb dX11_tells_190 rfl (lv_at hl 0 rfl) ?_
                refine g_lald hx hb hK hG gl_142 gk_142 gn_142 HW.1 dX11_tells_191 ?_
                replace HW := HW.2
                obtain ⟨P_192, HC_192, HW⟩ := HW
                refine g_calll (g_runS (As := [.int x5_21, .long (g 142 (x3_166 - (1 : Int32)).toNatClampNeg), .long (g 142 x3_166.toNatClampNeg)]) (rest := [.int (x3_166 - (1 : Int32)), .ref (ad 142)]) ⟨hx, hb, hml, hown, hts⟩ (m_X11_twoOf l D cy ad h g H.size x5_21 (g 142 (x3_166 - (1 : Int32)).toNatClampNeg) (g 142 x3_166.toNatClampNeg) P_192 HC_192) (va_cwS 3 hts (gd_S (wm5 200 rfl rfl) (wm5 201 rfl rfl) (wm1 13 rfl rfl) (wm5 202 rfl rfl)) rfl rfl rfl (by decide +kernel) ⟨Nat.le_of_ble_eq_true rfl, Nat.le_of_ble_eq_true rfl⟩) hK hNw hG rfl rfl hl.1 rfl (lv_room (Nat.le_of_ble_eq_true rfl)) dX11_tells_192 ⟨Nat.zero_le _, Nat.zero_le _⟩) hG (fun r_192 h_192 g_192 H locs hq hG => ?_)
                replace HW := HW r_192 h_192 g_192 hq
                refine g_last hx hb hK hG gl_142 gk_142 gn_142 HW.1 dX11_tells_195 (fun H locs hG => ?_)
                replace HW := HW.2
                obtain ⟨g_195, eg_195⟩ : ∃ y : HL, y = hul g_192 142 (x3_166 - (1 : Int32)).toNatClampNeg r_192 := ⟨_, rfl⟩
                rw [← eg_195] at hG
                replace HW := HW g_195 eg_195
                exact B196 K5 hK5 x1 x2 x3_166 x4 h_192 g_195 _ _ _ HW hG (lv_sub hl [2, 3, 4, 0, 5] rfl)
              · replace HW := HW.2 c_134
                refine lv_aload_n hx hb dX11_tells_137 rfl (lv_at hl 1 rfl) ?_
                refine g_getr hx hb hw inG11 hown hK hG gl_135 rfl gk_135 (by decide) 8 (by decide) (by rw [gm_135]; decide) (r := 142) gr_135_8 lk29 dX11_tells_138 ?_
                refine lv_iload_n hx hb dX11_tells_141 rfl (lv_at hl 4 rfl) ?_
                refine lv_iconst (v := 1) hx hb dX11_tells_142 (by decide) ?_
                refine lv_isub hx hb dX11_tells_143 ?_
                refine lv_aload_n hx hb dX11_tells_144 rfl (lv_at hl 1 rfl) ?_
                refine g_getr hx hb hw inG11 hown hK hG gl_135 rfl gk_135 (by decide) 8 (by decide) (by rw [gm_135]; decide) (r := 142) gr_135_8 lk29 dX11_tells_145 ?_
                refine lv_iload_n hx hb dX11_tells_148 rfl (lv_at hl 4 rfl) ?_
                refine lv_iconst (v := 1) hx hb dX11_tells_149 (by decide) ?_
                refine lv_isub hx hb dX11_tells_150 ?_
                refine g_lald hx hb hK hG gl_142 gk_142 gn_142 HW.1 dX11_tells_151 ?_
                replace HW := HW.2
                refine lv_lconst (v := 0) hx hb dX11_tells_152 (by decide) ?_
                refine W.lcmp hx hb dX11_tells_153 ?_
                refine lv_if_ne (tgt := 161) hx hb dX11_tells_154 (by decide) (fun c_154 => ?_) (fun c_154 => ?_)
                · replace HW := HW.1 c_154
                  refine lv_lconst (v := 0) hx hb dX11_tells_161 (by decide) ?_
                  exact B162 K5 hK5 x1 x2 x3 x4 (x3 - (1 : Int32)) (0 : Int64) h g _ _ _ HW hG (lv_sub hl [1, 2, 3, 4, 5] rfl)
                · replace HW := HW.2 c_154
                  refine lv_lconst (v := 1) hx hb dX11_tells_157 (by decide) ?_
                  refine lv_goto (tgt := 162) hx hb dX11_tells_158 (by decide) ?_
                  exact B162 K5 hK5 x1 x2 x3 x4 (x3 - (1 : Int32)) (1 : Int64) h g _ _ _ HW hG (lv_sub hl [1, 2, 3, 4, 5] rfl)
            · replace HW := HW.2 c_108
              refine lv_aload_n hx hb dX11_tells_111 rfl (lv_at hl 1 rfl) ?_
              refine g_getr hx hb hw inG11 hown hK hG gl_135 rfl gk_135 (by decide) 8 (by decide) (by rw [gm_135]; decide) (r := 142) gr_135_8 lk29 dX11_tells_112 ?_
              refine lv_iload_n hx hb dX11_tells_115 rfl (lv_at hl 4 rfl) ?_
              refine lv_iconst (v := 1) hx hb dX11_tells_116 (by decide) ?_
              refine lv_isub hx hb dX11_tells_117 ?_
              refine lv_aload_n hx hb dX11_tells_118 rfl (lv_at hl 1 rfl) ?_
              refine g_getr hx hb hw inG11 hown hK hG gl_135 rfl gk_135 (by decide) 8 (by decide) (by rw [gm_135]; decide) (r := 142) gr_135_8 lk29 dX11_tells_119 ?_
              refine lv_iload_n hx hb dX11_tells_122 rfl (lv_at hl 4 rfl) ?_
              refine lv_iconst (v := 1) hx hb dX11_tells_123 (by decide) ?_
              refine lv_isub hx hb dX11_tells_124 ?_
              refine g_lald hx hb hK hG gl_142 gk_142 gn_142 HW.1 dX11_tells_125 ?_
              replace HW := HW.2
              refine lv_lneg hx hb dX11_tells_126 ?_
              refine g_last hx hb hK hG gl_142 gk_142 gn_142 HW.1 dX11_tells_127 (fun H locs hG => ?_)
              replace HW := HW.2
              obtain ⟨g_127, eg_127⟩ : ∃ y : HL, y = hul g 142 (x3 - (1 : Int32)).toNatClampNeg (-(g 142 (x3 - (1 : Int32)).toNatClampNeg)) := ⟨_, rfl⟩
              rw [← eg_127] at hG
              replace HW := HW g_127 eg_127
              refine lv_goto (tgt := 196) hx hb dX11_tells_128 (by decide) ?_
              exact B196 K5 hK5 x1 x2 x3 x4 h g_127 _ _ _ HW hG (lv_sub hl [1, 2, 3, 4, 5] rfl)
          · replace HW := HW.2 c_31
            exact B34 K5 hK5 x1 x2 x3 x4 x5_21 h g _ _ _ HW hG (lv_sub hl [1, 2, 3, 4, 5, 0] rfl)
  have E0 : ∀ (H : Heap) (locs : List Loc) (ls : Array Slot), gG D cy ad (gA ad s.heap.size) s.heap h g H locs → lv_has ls 6 [(0, .ref (ad 135)), (1, .int x1), (2, .int x2)] → W p l e ({ frames := 1, cells := 0, slots := 0, locals := 24 } : Room) s m args below meth c H locs 0 0 (MQ below (va_Ql (fun (r : Int64) (u : HI × HL) => Q r u.1 u.2) (gB D cy ad s.heap.size) (gA ad s.heap.size)) args s 0 0 (gA ad s.heap.size)) (F0 m 0 ls []) := by
    intro H locs ls hG hl
    unfold w_X11_tells at HW
    refine lv_iconst (v := 0) hx hb dX11_tells_0 (by decide) ?_
    refine lv_istore_n (lv' := [(3, .int (0 : Int32)), (0, .ref (ad 135)), (1, .int x1), (2, .int x2)]) hx hb dX11_tells_1 rfl hl (by decide) rfl (fun ls hl => ?_)
    refine lv_iconst (v := 0) hx hb dX11_tells_2 (by decide) ?_
    refine lv_istore (lv' := [(4, .int (0 : Int32)), (3, .int (0 : Int32)), (0, .ref (ad 135)), (1, .int x1), (2, .int x2)]) hx hb dX11_tells_3 hl (by decide) rfl (fun ls hl => ?_)
    obtain ⟨n_5, HW⟩ := HW
    exact L5 n_5 x1 x2 (0 : Int32) (0 : Int32) h g _ _ _ HW hG (lv_sub hl [2, 3, 4, 1, 0] rfl)
  exact E0 _ _ _ hG hl

def j_X11_wornOf_42 (Q : Int32 → HI → HL → Prop) (s0 : Int64) (h : HI) (g : HL) : Prop :=
  ((0 ≤ (lg_cmp s0 (0 : Int64)) → (((lg_cmp s0 (10000 : Int64)) ≤ 0 → Q ((s0).toInt32) h g) ∧ (¬ (lg_cmp s0 (10000 : Int64)) ≤ 0 → Q (10000 : Int32) h g))) ∧ (¬ 0 ≤ (lg_cmp s0 (0 : Int64)) → Q (0 : Int32) h g))
def j_X11_wornOf_22 (Q : Int32 → HI → HL → Prop) (x1 : Int32) (s0 : Int32) (h : HI) (g : HL) : Prop :=
  (∃ P_24 : Int32 → HI → HL → Prop, w_X11_reads h g P_24 ∧ ∀ (r_24 : Int32) (h_24 : HI) (g_24 : HL), P_24 r_24 h_24 g_24 → ((¬ r_24 = (-1 : Int32) → j_X11_wornOf_42 Q ((s0).toInt64) h_24 g_24) ∧ (r_24 = (-1 : Int32) → (∃ P_34 : Int64 → HI → HL → Prop, w_X11_tells x1 s0 h_24 g_24 P_34 ∧ ∀ (r_34 : Int64) (h_34 : HI) (g_34 : HL), P_34 r_34 h_34 g_34 → j_X11_wornOf_42 Q r_34 h_34 g_34))))
def w_X11_wornOf (x1 : Int32) (x2 : Int32) (h : HI) (g : HL) (Q : Int32 → HI → HL → Prop) : Prop :=
  (∃ P_4 : Int32 → HI → HL → Prop, w_X11_partOf x1 (2 : Int32) h g P_4 ∧ ∀ (r_4 : Int32) (h_4 : HI) (g_4 : HL), P_4 r_4 h_4 g_4 → ((r_4 ≤ x2 → (∃ P_18 : Int32 → HI → HL → Prop, w_X11_partOf x1 (2 : Int32) h_4 g_4 P_18 ∧ ∀ (r_18 : Int32) (h_18 : HI) (g_18 : HL), P_18 r_18 h_18 g_18 → j_X11_wornOf_22 Q x1 (x2 - r_18) h_18 g_18)) ∧ (¬ r_4 ≤ x2 → j_X11_wornOf_22 Q x1 (0 : Int32) h_4 g_4)))
set_option maxHeartbeats 8000000 in
set_option maxRecDepth 100000 in
theorem m_X11_wornOf (l : Launch) (D : va_G) (cy : Nat → ClassId) (ad : Nat → Nat) (h : HI) (g : HL) (sz : Nat) (x1 : Int32) (x2 : Int32) (Q : Int32 → HI → HL → Prop) (HW : w_X11_wornOf x1 x2 h g Q) : Met l yX11_wornOf (wa yX11_wornOf cX11_wornOf 6 (some .int)) ({ frames := 4, cells := 0, slots := 0, locals := 92 }) (va_Pc [.ref (ad 135), .int x1, .int x2] (gI D cy ad h g sz)) (va_Qi (fun (r : Int32) (u : HI × HL) => Q r u.1 u.2) (gB D cy ad sz) (gA ad sz)) 0 0 (gA ad sz) := by
  refine Met.ofW (cc := cX11_wornOf) (maxL := 6) (ret := (some .int)) (by decide) rfl ?_
  intro p e s m args below meth c s₁ B hml hv
  obtain ⟨hav, hsz, hP, hK, hD0, hNw⟩ := hv
  have hx := B.exec
  have hb := B.bytes
  have hr := B.returns
  have hts := atoms_spec (ws := (wa yX11_wornOf cX11_wornOf 6 (some .int))) B.pre
  have hw := wa_hw hts
  have hown : s.vm.findClass RX11 = some m.cls := findClass_of_methodNamed B.named
  have hlocks := B.notSynchronized
  subst hsz
  have hG : gG D cy ad (gA ad s.heap.size) s.heap h g s.heap [] := ⟨hP, gA_self hD0, va_S.rf⟩
  clear hP hD0
  have cn128 := hw (.constantLong RX11 128 (10000)) (wm5 203 rfl rfl)
  rw [show (headSpec (wa yX11_wornOf cX11_wornOf 6 (some .int)) ({ frames := 4, cells := 0, slots := 0, locals := 92 } : Room)).room = ({ frames := 4, cells := 0, slots := 0, locals := 92 } : Room) from rfl]
  have hl := lv_entry ([.ref (ad 135), .int x1, .int x2]) (n := 6) (Nat.le_of_ble_eq_true rfl)
  rw [show entryFrame m args 6 = entryFrame m ([.ref (ad 135), .int x1, .int x2] : List Value).toArray 6 from by rw [hav], lg_entry_eq]
  generalize (lg_sl ([.ref (ad 135), .int x1, .int x2]) ++ List.replicate (6 - (lg_sl ([.ref (ad 135), .int x1, .int x2])).length) Slot.unset).toArray = ls at hl ⊢
  have hl : lv_has ls 6 [(0, .ref (ad 135)), (1, .int x1), (2, .int x2)] := hl
  have B42 : ∀ (s0 : Int64) (h : HI) (g : HL) (H : Heap) (locs : List Loc) (ls : Array Slot), j_X11_wornOf_42 Q s0 h g → gG D cy ad (gA ad s.heap.size) s.heap h g H locs → lv_has ls 6 [] → W p l e ({ frames := 4, cells := 0, slots := 0, locals := 92 } : Room) s m args below meth c H locs 0 0 (MQ below (va_Qi (fun (r : Int32) (u : HI × HL) => Q r u.1 u.2) (gB D cy ad s.heap.size) (gA ad s.heap.size)) args s 0 0 (gA ad s.heap.size)) (F0 m 42 ls [.long s0]) := by
    intro s0 h g H locs ls HW hG hl
    unfold j_X11_wornOf_42 at HW
    refine lv_lstore (lv' := [(4, .long s0)]) hx hb dX11_wornOf_42 hl (by decide) rfl (fun ls hl => ?_)
    refine lv_lload hx hb dX11_wornOf_44 (lv_at hl 0 rfl) ?_
    refine lv_lconst (v := 0) hx hb dX11_wornOf_46 (by decide) ?_
    refine W.lcmp hx hb dX11_wornOf_47 ?_
    refine lv_if_ge (tgt := 55) hx hb dX11_wornOf_48 (by decide) (fun c_48 => ?_) (fun c_48 => ?_)
    · replace HW := HW.1 c_48
      refine lv_lload hx hb dX11_wornOf_55 (lv_at hl 0 rfl) ?_
      refine lv_ldc2 (v := 10000) hx hb hown cn128 dX11_wornOf_57 ?_
      refine W.lcmp hx hb dX11_wornOf_60 ?_
      refine lv_if_le (tgt := 70) hx hb dX11_wornOf_61 (by decide) (fun c_61 => ?_) (fun c_61 => ?_)
      · replace HW := HW.1 c_61
        refine lv_lload hx hb dX11_wornOf_70 (lv_at hl 0 rfl) ?_
        refine lv_l2i hx hb dX11_wornOf_72 rfl ?_
        exact W.iret (v := ((s0).toInt32)) hx hb hr (fun t ht hW => ⟨⟨((s0).toInt32), (h, g), rfl, HW, g_B ht hG⟩, hG.2.2.F ht⟩) hG.2.2.2.2 dX11_wornOf_73
      · replace HW := HW.2 c_61
        refine lv_sipush (v := 10000) hx hb dX11_wornOf_64 (by decide) ?_
        refine lv_goto (tgt := 73) hx hb dX11_wornOf_67 (by decide) ?_
        exact W.iret (v := (10000 : Int32)) hx hb hr (fun t ht hW => ⟨⟨(10000 : Int32), (h, g), rfl, HW, g_B ht hG⟩, hG.2.2.F ht⟩) hG.2.2.2.2 dX11_wornOf_73
    · replace HW := HW.2 c_48
      refine lv_iconst (v := 0) hx hb dX11_wornOf_51 (by decide) ?_
      refine lv_goto (tgt := 73) hx hb dX11_wornOf_52 (by decide) ?_
      exact W.iret (v := (0 : Int32)) hx hb hr (fun t ht hW => ⟨⟨(0 : Int32), (h, g), rfl, HW, g_B ht hG⟩, hG.2.2.F ht⟩) hG.2.2.2.2 dX11_wornOf_73
  have B22 : ∀ (x1 : Int32) (s0 : Int32) (h : HI) (g : HL) (H : Heap) (locs : List Loc) (ls : Array Slot), j_X11_wornOf_22 Q x1 s0 h g → gG D cy ad (gA ad s.heap.size) s.heap h g H locs → lv_has ls 6 [(0, .ref (ad 135)), (1, .int x1)] → W p l e ({ frames := 4, cells := 0, slots := 0, locals := 92 } : Room) s m args below meth c H locs 0 0 (MQ below (va_Qi (fun (r : Int32) (u : HI × HL) => Q r u.1 u.2) (gB D cy ad s.heap.size) (gA ad s.heap.size)) args s 0 0 (gA ad s.heap.size)) (F0 m 22 ls [.int s0]) := by
    intro x1 s0 h g H locs ls HW hG hl
    unfold j_X11_wornOf_22 at HW
    refine lv_istore_n (lv' := [(3, .int s0), (0, .ref (ad 135)), (1, .int x1)]) hx hb dX11_wornOf_22 rfl hl (by decide) rfl (fun ls hl => ?_)
    refine lv_aload_n hx hb dX11_wornOf_23 rfl (lv_at hl 1 rfl) ?_
    obtain ⟨P_24, HC_24, HW⟩ := HW
    refine g_calli (g_runV (As := []) (rest := []) ⟨hx, hb, hml, hown, hts⟩ (m_X11_reads l D cy ad h g H.size  P_24 HC_24) (cwV 0 hts (gd_V (wm5 149 rfl rfl) (wm5 151 rfl rfl) (wmp3 (q := (yX11_reads, 26)) 9 rfl) (wm1 13 rfl rfl) (wm5 152 rfl rfl)) rfl rfl rfl (by decide +kernel) ⟨Nat.le_of_ble_eq_true rfl, Nat.le_of_ble_eq_true rfl⟩) hK hNw hG gl_135 rfl gk_135 (by decide) rfl rfl hl.1 rfl (lv_room (Nat.le_of_ble_eq_true rfl)) dX11_wornOf_24 ⟨Nat.zero_le _, Nat.zero_le _⟩) hG (fun r_24 h_24 g_24 H locs hq hG => ?_)
    replace HW := HW r_24 h_24 g_24 hq
    refine lv_iconst (v := (-1)) hx hb dX11_wornOf_27 (by decide) ?_
    refine lv_icmp_ne (tgt := 40) hx hb dX11_wornOf_28 (by decide) (fun c_28 => ?_) (fun c_28 => ?_)
    · replace HW := HW.1 c_28
      refine lv_iload_n hx hb dX11_wornOf_40 rfl (lv_at hl 0 rfl) ?_
      refine lv_i2l hx hb dX11_wornOf_41 rfl ?_
      exact B42 ((s0).toInt64) h_24 g_24 _ _ _ HW hG (lv_sub hl [] rfl)
    · replace HW := HW.2 c_28
      refine lv_aload_n hx hb dX11_wornOf_31 rfl (lv_at hl 1 rfl) ?_
      refine lv_iload_n hx hb dX11_wornOf_32 rfl (lv_at hl 2 rfl) ?_
      refine lv_iload_n hx hb dX11_wornOf_33 rfl (lv_at hl 0 rfl) ?_
      obtain ⟨P_34, HC_34, HW⟩ := HW
      refine g_calll (g_runV (As := [.int x1, .int s0]) (rest := []) ⟨hx, hb, hml, hown, hts⟩ (m_X11_tells l D cy ad h_24 g_24 H.size x1 s0 P_34 HC_34) (cwV 2 hts (gd_V (wm5 196 rfl rfl) (wm5 198 rfl rfl) (wmp4 (q := (yX11_tells, 26)) 1 rfl) (wm1 13 rfl rfl) (wm5 199 rfl rfl)) rfl rfl rfl (by decide +kernel) ⟨Nat.le_of_ble_eq_true rfl, Nat.le_of_ble_eq_true rfl⟩) hK hNw hG gl_135 rfl gk_135 (by decide) rfl rfl hl.1 rfl (lv_room (Nat.le_of_ble_eq_true rfl)) dX11_wornOf_34 ⟨Nat.zero_le _, Nat.zero_le _⟩) hG (fun r_34 h_34 g_34 H locs hq hG => ?_)
      replace HW := HW r_34 h_34 g_34 hq
      refine lv_goto (tgt := 42) hx hb dX11_wornOf_37 (by decide) ?_
      exact B42 r_34 h_34 g_34 _ _ _ HW hG (lv_sub hl [] rfl)
  have E0 : ∀ (H : Heap) (locs : List Loc) (ls : Array Slot), gG D cy ad (gA ad s.heap.size) s.heap h g H locs → lv_has ls 6 [(0, .ref (ad 135)), (1, .int x1), (2, .int x2)] → W p l e ({ frames := 4, cells := 0, slots := 0, locals := 92 } : Room) s m args below meth c H locs 0 0 (MQ below (va_Qi (fun (r : Int32) (u : HI × HL) => Q r u.1 u.2) (gB D cy ad s.heap.size) (gA ad s.heap.size)) args s 0 0 (gA ad s.heap.size)) (F0 m 0 ls []) := by
    intro H locs ls hG hl
    unfold w_X11_wornOf at HW
    refine lv_iload_n hx hb dX11_wornOf_0 rfl (lv_at hl 2 rfl) ?_
    refine lv_aload_n hx hb dX11_wornOf_1 rfl (lv_at hl 0 rfl) ?_
    refine lv_iload_n hx hb dX11_wornOf_2 rfl (lv_at hl 1 rfl) ?_
    refine lv_iconst (v := 2) hx hb dX11_wornOf_3 (by decide) ?_
    obtain ⟨P_4, HC_4, HW⟩ := HW
    refine g_calli (g_runV (As := [.int x1, .int (2 : Int32)]) (rest := [.int x2]) ⟨hx, hb, hml, hown, hts⟩ (m_X11_partOf l D cy ad h g H.size x1 (2 : Int32) P_4 HC_4) (cwV 2 hts (gd_V (wm5 192 rfl rfl) (wm5 194 rfl rfl) (wmp4 (q := (yX11_partOf, 26)) 0 rfl) (wm1 13 rfl rfl) (wm5 195 rfl rfl)) rfl rfl rfl (by decide +kernel) ⟨Nat.le_of_ble_eq_true rfl, Nat.le_of_ble_eq_true rfl⟩) hK hNw hG gl_135 rfl gk_135 (by decide) rfl rfl hl.1 rfl (lv_room (Nat.le_of_ble_eq_true rfl)) dX11_wornOf_4 ⟨Nat.zero_le _, Nat.zero_le _⟩) hG (fun r_4 h_4 g_4 H locs hq hG => ?_)
    replace HW := HW r_4 h_4 g_4 hq
    refine lv_icmp_ge (tgt := 14) hx hb dX11_wornOf_7 (by decide) (fun c_7 => ?_) (fun c_7 => ?_)
    · replace HW := HW.1 c_7
      refine lv_iload_n hx hb dX11_wornOf_14 rfl (lv_at hl 2 rfl) ?_
      refine lv_aload_n hx hb dX11_wornOf_15 rfl (lv_at hl 0 rfl) ?_
      refine lv_iload_n hx hb dX11_wornOf_16 rfl (lv_at hl 1 rfl) ?_
      refine lv_iconst (v := 2) hx hb dX11_wornOf_17 (by decide) ?_
      obtain ⟨P_18, HC_18, HW⟩ := HW
      refine g_calli (g_runV (As := [.int x1, .int (2 : Int32)]) (rest := [.int x2]) ⟨hx, hb, hml, hown, hts⟩ (m_X11_partOf l D cy ad h_4 g_4 H.size x1 (2 : Int32) P_18 HC_18) (cwV 2 hts (gd_V (wm5 192 rfl rfl) (wm5 194 rfl rfl) (wmp4 (q := (yX11_partOf, 26)) 0 rfl) (wm1 13 rfl rfl) (wm5 195 rfl rfl)) rfl rfl rfl (by decide +kernel) ⟨Nat.le_of_ble_eq_true rfl, Nat.le_of_ble_eq_true rfl⟩) hK hNw hG gl_135 rfl gk_135 (by decide) rfl rfl hl.1 rfl (lv_room (Nat.le_of_ble_eq_true rfl)) dX11_wornOf_18 ⟨Nat.zero_le _, Nat.zero_le _⟩) hG (fun r_18 h_18 g_18 H locs hq hG => ?_)
      replace HW := HW r_18 h_18 g_18 hq
      refine lv_isub hx hb dX11_wornOf_21 ?_
      exact B22 x1 (x2 - r_18) h_18 g_18 _ _ _ HW hG (lv_sub hl [0, 1] rfl)
    · replace HW := HW.2 c_7
      refine lv_iconst (v := 0) hx hb dX11_wornOf_10 (by decide) ?_
      refine lv_goto (tgt := 22) hx hb dX11_wornOf_11 (by decide) ?_
      exact B22 x1 (0 : Int32) h_4 g_4 _ _ _ HW hG (lv_sub hl [0, 1] rfl)
  exact E0 _ _ _ hG hl

def w_X11_write (x1 : Int32) (h : HI) (g : HL) (Q : Int32 → HI → HL → Prop) : Prop :=
  (∃ P_6 : Int32 → HI → HL → Prop, w_X11_in ((x1).toInt64) (0 : Int64) (127 : Int64) h g P_6 ∧ ∀ (r_6 : Int32) (h_6 : HI) (g_6 : HL), zb r_6 → P_6 r_6 h_6 g_6 → ((¬ r_6 = 0 → (vp_in (8 : Int32) 887 ∧ ((¬ (h_6 136 (8 : Int32).toNatClampNeg) = (60 : Int32) → (vp_in (8 : Int32) 887 ∧ (vp_in ((827 : Int32) + (h_6 136 (8 : Int32).toNatClampNeg)) 887 ∧ ∀ h_46 : HI, h_46 = hu h_6 136 ((827 : Int32) + (h_6 136 (8 : Int32).toNatClampNeg)).toNatClampNeg x1 → (∃ P_50 : Int32 → HI → HL → Prop, w_X11_one (8 : Int32) h_46 g_6 P_50 ∧ ∀ (r_50 : Int32) (h_50 : HI) (g_50 : HL), P_50 r_50 h_50 g_50 → Q (r_50 + (1 : Int32)) h_50 g_50)))) ∧ ((h_6 136 (8 : Int32).toNatClampNeg) = (60 : Int32) → Q (-4 : Int32) h_6 g_6)))) ∧ (r_6 = 0 → Q (-2 : Int32) h_6 g_6)))
set_option maxHeartbeats 8000000 in
set_option maxRecDepth 100000 in
theorem m_X11_write (l : Launch) (D : va_G) (cy : Nat → ClassId) (ad : Nat → Nat) (h : HI) (g : HL) (sz : Nat) (x1 : Int32) (Q : Int32 → HI → HL → Prop) (HW : w_X11_write x1 h g Q) : Met l yX11_write (wa yX11_write cX11_write 2 (some .int)) ({ frames := 1, cells := 0, slots := 0, locals := 25 }) (va_Pc [.ref (ad 135), .int x1] (gI D cy ad h g sz)) (va_Qi (fun (r : Int32) (u : HI × HL) => Q r u.1 u.2) (gB D cy ad sz) (gA ad sz)) 0 0 (gA ad sz) := by
  refine Met.ofW (cc := cX11_write) (maxL := 2) (ret := (some .int)) (by decide) rfl ?_
  intro p e s m args below meth c s₁ B hml hv
  obtain ⟨hav, hsz, hP, hK, hD0, hNw⟩ := hv
  have hx := B.exec
  have hb := B.bytes
  have hr := B.returns
  have hts := atoms_spec (ws := (wa yX11_write cX11_write 2 (some .int))) B.pre
  have hw := wa_hw hts
  have hown : s.vm.findClass RX11 = some m.cls := findClass_of_methodNamed B.named
  have hlocks := B.notSynchronized
  subst hsz
  have hG : gG D cy ad (gA ad s.heap.size) s.heap h g s.heap [] := ⟨hP, gA_self hD0, va_S.rf⟩
  clear hP hD0
  have cn130 := hw (.constantLong RX11 130 (127)) (wm5 136 rfl rfl)
  have lk7 := hw (.fieldLink RX11 7 "OldWorksModel" "st" "[I") (wm5 27 rfl rfl)
  rw [show (headSpec (wa yX11_write cX11_write 2 (some .int)) ({ frames := 1, cells := 0, slots := 0, locals := 25 } : Room)).room = ({ frames := 1, cells := 0, slots := 0, locals := 25 } : Room) from rfl]
  have hl := lv_entry ([.ref (ad 135), .int x1]) (n := 2) (Nat.le_of_ble_eq_true rfl)
  rw [show entryFrame m args 2 = entryFrame m ([.ref (ad 135), .int x1] : List Value).toArray 2 from by rw [hav], lg_entry_eq]
  generalize (lg_sl ([.ref (ad 135), .int x1]) ++ List.replicate (2 - (lg_sl ([.ref (ad 135), .int x1])).length) Slot.unset).toArray = ls at hl ⊢
  have hl : lv_has ls 2 [(0, .ref (ad 135)), (1, .int x1)] := hl
  have E0 : ∀ (H : Heap) (locs : List Loc) (ls : Array Slot), gG D cy ad (gA ad s.heap.size) s.heap h g H locs → lv_has ls 2 [(0, .ref (ad 135)), (1, .int x1)] → W p l e ({ frames := 1, cells := 0, slots := 0, locals := 25 } : Room) s m args below meth c H locs 0 0 (MQ below (va_Qi (fun (r : Int32) (u : HI × HL) => Q r u.1 u.2) (gB D cy ad s.heap.size) (gA ad s.heap.size)) args s 0 0 (gA ad s.heap.size)) (F0 m 0 ls []) := by
    intro H locs ls hG hl
    unfold w_X11_write at HW
    refine lv_iload_n hx hb dX11_write_0 rfl (lv_at hl 1 rfl) ?_
    refine lv_i2l hx hb dX11_write_1 rfl ?_
    refine lv_lconst (v := 0) hx hb dX11_write_2 (by decide) ?_
    refine lv_ldc2 (v := 127) hx hb hown cn130 dX11_write_3 ?_
    obtain ⟨P_6, HC_6, HW⟩ := HW
    refine g_callz (g_runS (As := [.long ((x1).toInt64), .long (0 : Int64), .long (127 : Int64)]) (rest := []) ⟨hx, hb, hml, hown, hts⟩ (m_X11_in l D cy ad h g H.size ((x1).toInt64) (0 : Int64) (127 : Int64) P_6 HC_6) (va_cwS 3 hts (gd_S (wm5 111 rfl rfl) (wm5 112 rfl rfl) (wm1 13 rfl rfl) (wm5 113 rfl rfl)) rfl rfl rfl (by decide +kernel) ⟨Nat.le_of_ble_eq_true rfl, Nat.le_of_ble_eq_true rfl⟩) hK hNw hG rfl rfl hl.1 rfl (lv_room (Nat.le_of_ble_eq_true rfl)) dX11_write_6 ⟨Nat.zero_le _, Nat.zero_le _⟩) hG (fun r_6 h_6 g_6 H locs hz hq hG => ?_)
    replace HW := HW r_6 h_6 g_6 hz hq
    refine lv_if_ne (tgt := 15) hx hb dX11_write_9 (by decide) (fun c_9 => ?_) (fun c_9 => ?_)
    · replace HW := HW.1 c_9
      refine lv_aload_n hx hb dX11_write_15 rfl (lv_at hl 0 rfl) ?_
      refine g_getr hx hb hw inG11 hown hK hG gl_135 rfl gk_135 (by decide) 0 (by decide) (by rw [gm_135]; decide) (r := 136) gr_135_0 lk7 dX11_write_16 ?_
      refine lv_bipush (v := 8) hx hb dX11_write_19 (by decide) ?_
      refine g_iald hx hb hK hG gl_136 gk_136 gn_136 HW.1 dX11_write_21 ?_
      replace HW := HW.2
      refine lv_bipush (v := 60) hx hb dX11_write_22 (by decide) ?_
      refine lv_icmp_ne (tgt := 30) hx hb dX11_write_24 (by decide) (fun c_24 => ?_) (fun c_24 => ?_)
      · replace HW := HW.1 c_24
        refine lv_aload_n hx hb dX11_write_30 rfl (lv_at hl 0 rfl) ?_
        refine g_getr hx hb hw inG11 hown hK hG gl_135 rfl gk_135 (by decide) 0 (by decide) (by rw [gm_135]; decide) (r := 136) gr_135_0 lk7 dX11_write_31 ?_
        refine lv_sipush (v := 827) hx hb dX11_write_34 (by decide) ?_
        refine lv_aload_n hx hb dX11_write_37 rfl (lv_at hl 0 rfl) ?_
        refine g_getr hx hb hw inG11 hown hK hG gl_135 rfl gk_135 (by decide) 0 (by decide) (by rw [gm_135]; decide) (r := 136) gr_135_0 lk7 dX11_write_38 ?_
        refine lv_bipush (v := 8) hx hb dX11_write_41 (by decide) ?_
        refine g_iald hx hb hK hG gl_136 gk_136 gn_136 HW.1 dX11_write_43 ?_
        replace HW := HW.2
        refine lv_iadd hx hb dX11_write_44 ?_
        refine lv_iload_n hx hb dX11_write_45 rfl (lv_at hl 1 rfl) ?_
        refine g_iast hx hb hK hG gl_136 gk_136 gn_136 HW.1 dX11_write_46 (fun H locs hG => ?_)
        replace HW := HW.2
        obtain ⟨h_46, eh_46⟩ : ∃ y : HI, y = hu h_6 136 ((827 : Int32) + (h_6 136 (8 : Int32).toNatClampNeg)).toNatClampNeg x1 := ⟨_, rfl⟩
        rw [← eh_46] at hG
        replace HW := HW h_46 eh_46
        refine lv_aload_n hx hb dX11_write_47 rfl (lv_at hl 0 rfl) ?_
        refine lv_bipush (v := 8) hx hb dX11_write_48 (by decide) ?_
        obtain ⟨P_50, HC_50, HW⟩ := HW
        refine g_calli (g_runV (As := [.int (8 : Int32)]) (rest := []) ⟨hx, hb, hml, hown, hts⟩ (m_X11_one l D cy ad h_46 g_6 H.size (8 : Int32) P_50 HC_50) (cwV 1 hts (gd_V (wm5 120 rfl rfl) (wm5 122 rfl rfl) (wmp3 (q := (yX11_one, 26)) 7 rfl) (wm1 13 rfl rfl) (wm5 123 rfl rfl)) rfl rfl rfl (by decide +kernel) ⟨Nat.le_of_ble_eq_true rfl, Nat.le_of_ble_eq_true rfl⟩) hK hNw hG gl_135 rfl gk_135 (by decide) rfl rfl hl.1 rfl (lv_room (Nat.le_of_ble_eq_true rfl)) dX11_write_50 ⟨Nat.zero_le _, Nat.zero_le _⟩) hG (fun r_50 h_50 g_50 H locs hq hG => ?_)
        replace HW := HW r_50 h_50 g_50 hq
        refine lv_iconst (v := 1) hx hb dX11_write_53 (by decide) ?_
        refine lv_iadd hx hb dX11_write_54 ?_
        exact W.iret (v := (r_50 + (1 : Int32))) hx hb hr (fun t ht hW => ⟨⟨(r_50 + (1 : Int32)), (h_50, g_50), rfl, HW, g_B ht hG⟩, hG.2.2.F ht⟩) hG.2.2.2.2 dX11_write_55
      · replace HW := HW.2 c_24
        refine lv_bipush (v := (-4)) hx hb dX11_write_27 (by decide) ?_
        exact W.iret (v := (-4 : Int32)) hx hb hr (fun t ht hW => ⟨⟨(-4 : Int32), (h_6, g_6), rfl, HW, g_B ht hG⟩, hG.2.2.F ht⟩) hG.2.2.2.2 dX11_write_29
    · replace HW := HW.2 c_9
      refine lv_bipush (v := (-2)) hx hb dX11_write_12 (by decide) ?_
      exact W.iret (v := (-2 : Int32)) hx hb hr (fun t ht hW => ⟨⟨(-2 : Int32), (h_6, g_6), rfl, HW, g_B ht hG⟩, hG.2.2.F ht⟩) hG.2.2.2.2 dX11_write_14
  exact E0 _ _ _ hG hl

def w_X11_erase  (h : HI) (g : HL) (Q : Int32 → HI → HL → Prop) : Prop :=
  (∃ P_4 : Int32 → HI → HL → Prop, w_X11_puts (8 : Int32) (0 : Int32) h g P_4 ∧ ∀ (r_4 : Int32) (h_4 : HI) (g_4 : HL), P_4 r_4 h_4 g_4 → Q r_4 h_4 g_4)
set_option maxHeartbeats 8000000 in
set_option maxRecDepth 100000 in
theorem m_X11_erase (l : Launch) (D : va_G) (cy : Nat → ClassId) (ad : Nat → Nat) (h : HI) (g : HL) (sz : Nat)  (Q : Int32 → HI → HL → Prop) (HW : w_X11_erase h g Q) : Met l yX11_erase (wa yX11_erase cX11_erase 1 (some .int)) ({ frames := 1, cells := 0, slots := 0, locals := 23 }) (va_Pc [.ref (ad 135)] (gI D cy ad h g sz)) (va_Qi (fun (r : Int32) (u : HI × HL) => Q r u.1 u.2) (gB D cy ad sz) (gA ad sz)) 0 0 (gA ad sz) := by
  refine Met.ofW (cc := cX11_erase) (maxL := 1) (ret := (some .int)) (by decide) rfl ?_
  intro p e s m args below meth c s₁ B hml hv
  obtain ⟨hav, hsz, hP, hK, hD0, hNw⟩ := hv
  have hx := B.exec
  have hb := B.bytes
  have hr := B.returns
  have hts := atoms_spec (ws := (wa yX11_erase cX11_erase 1 (some .int))) B.pre
  have hw := wa_hw hts
  have hown : s.vm.findClass RX11 = some m.cls := findClass_of_methodNamed B.named
  have hlocks := B.notSynchronized
  subst hsz
  have hG : gG D cy ad (gA ad s.heap.size) s.heap h g s.heap [] := ⟨hP, gA_self hD0, va_S.rf⟩
  clear hP hD0
  rw [show (headSpec (wa yX11_erase cX11_erase 1 (some .int)) ({ frames := 1, cells := 0, slots := 0, locals := 23 } : Room)).room = ({ frames := 1, cells := 0, slots := 0, locals := 23 } : Room) from rfl]
  have hl := lv_entry ([.ref (ad 135)]) (n := 1) (Nat.le_of_ble_eq_true rfl)
  rw [show entryFrame m args 1 = entryFrame m ([.ref (ad 135)] : List Value).toArray 1 from by rw [hav], lg_entry_eq]
  generalize (lg_sl ([.ref (ad 135)]) ++ List.replicate (1 - (lg_sl ([.ref (ad 135)])).length) Slot.unset).toArray = ls at hl ⊢
  have hl : lv_has ls 1 [(0, .ref (ad 135))] := hl
  have E0 : ∀ (H : Heap) (locs : List Loc) (ls : Array Slot), gG D cy ad (gA ad s.heap.size) s.heap h g H locs → lv_has ls 1 [(0, .ref (ad 135))] → W p l e ({ frames := 1, cells := 0, slots := 0, locals := 23 } : Room) s m args below meth c H locs 0 0 (MQ below (va_Qi (fun (r : Int32) (u : HI × HL) => Q r u.1 u.2) (gB D cy ad s.heap.size) (gA ad s.heap.size)) args s 0 0 (gA ad s.heap.size)) (F0 m 0 ls []) := by
    intro H locs ls hG hl
    unfold w_X11_erase at HW
    refine lv_aload_n hx hb dX11_erase_0 rfl (lv_at hl 0 rfl) ?_
    refine lv_bipush (v := 8) hx hb dX11_erase_1 (by decide) ?_
    refine lv_iconst (v := 0) hx hb dX11_erase_3 (by decide) ?_
    obtain ⟨P_4, HC_4, HW⟩ := HW
    refine g_calli (g_runV (As := [.int (8 : Int32), .int (0 : Int32)]) (rest := []) ⟨hx, hb, hml, hown, hts⟩ (m_X11_puts l D cy ad h g H.size (8 : Int32) (0 : Int32) P_4 HC_4) (cwV 2 hts (gd_V (wm5 141 rfl rfl) (wm5 143 rfl rfl) (wmp3 (q := (yX11_puts, 26)) 8 rfl) (wm1 13 rfl rfl) (wm5 144 rfl rfl)) rfl rfl rfl (by decide +kernel) ⟨Nat.le_of_ble_eq_true rfl, Nat.le_of_ble_eq_true rfl⟩) hK hNw hG gl_135 rfl gk_135 (by decide) rfl rfl hl.1 rfl (lv_room (Nat.le_of_ble_eq_true rfl)) dX11_erase_4 ⟨Nat.zero_le _, Nat.zero_le _⟩) hG (fun r_4 h_4 g_4 H locs hq hG => ?_)
    replace HW := HW r_4 h_4 g_4 hq
    exact W.iret (v := r_4) hx hb hr (fun t ht hW => ⟨⟨r_4, (h_4, g_4), rfl, HW, g_B ht hG⟩, hG.2.2.F ht⟩) hG.2.2.2.2 dX11_erase_7
  exact E0 _ _ _ hG hl

def w_X11_fault  (h : HI) (g : HL) (Q : Int32 → HI → HL → Prop) : Prop :=
  (∃ P_1 : Int32 → HI → HL → Prop, w_X11_reads h g P_1 ∧ ∀ (r_1 : Int32) (h_1 : HI) (g_1 : HL), P_1 r_1 h_1 g_1 → Q r_1 h_1 g_1)
set_option maxHeartbeats 8000000 in
set_option maxRecDepth 100000 in
theorem m_X11_fault (l : Launch) (D : va_G) (cy : Nat → ClassId) (ad : Nat → Nat) (h : HI) (g : HL) (sz : Nat)  (Q : Int32 → HI → HL → Prop) (HW : w_X11_fault h g Q) : Met l yX11_fault (wa yX11_fault cX11_fault 1 (some .int)) ({ frames := 4, cells := 0, slots := 0, locals := 92 }) (va_Pc [.ref (ad 135)] (gI D cy ad h g sz)) (va_Qi (fun (r : Int32) (u : HI × HL) => Q r u.1 u.2) (gB D cy ad sz) (gA ad sz)) 0 0 (gA ad sz) := by
  refine Met.ofW (cc := cX11_fault) (maxL := 1) (ret := (some .int)) (by decide) rfl ?_
  intro p e s m args below meth c s₁ B hml hv
  obtain ⟨hav, hsz, hP, hK, hD0, hNw⟩ := hv
  have hx := B.exec
  have hb := B.bytes
  have hr := B.returns
  have hts := atoms_spec (ws := (wa yX11_fault cX11_fault 1 (some .int))) B.pre
  have hw := wa_hw hts
  have hown : s.vm.findClass RX11 = some m.cls := findClass_of_methodNamed B.named
  have hlocks := B.notSynchronized
  subst hsz
  have hG : gG D cy ad (gA ad s.heap.size) s.heap h g s.heap [] := ⟨hP, gA_self hD0, va_S.rf⟩
  clear hP hD0
  rw [show (headSpec (wa yX11_fault cX11_fault 1 (some .int)) ({ frames := 4, cells := 0, slots := 0, locals := 92 } : Room)).room = ({ frames := 4, cells := 0, slots := 0, locals := 92 } : Room) from rfl]
  have hl := lv_entry ([.ref (ad 135)]) (n := 1) (Nat.le_of_ble_eq_true rfl)
  rw [show entryFrame m args 1 = entryFrame m ([.ref (ad 135)] : List Value).toArray 1 from by rw [hav], lg_entry_eq]
  generalize (lg_sl ([.ref (ad 135)]) ++ List.replicate (1 - (lg_sl ([.ref (ad 135)])).length) Slot.unset).toArray = ls at hl ⊢
  have hl : lv_has ls 1 [(0, .ref (ad 135))] := hl
  have E0 : ∀ (H : Heap) (locs : List Loc) (ls : Array Slot), gG D cy ad (gA ad s.heap.size) s.heap h g H locs → lv_has ls 1 [(0, .ref (ad 135))] → W p l e ({ frames := 4, cells := 0, slots := 0, locals := 92 } : Room) s m args below meth c H locs 0 0 (MQ below (va_Qi (fun (r : Int32) (u : HI × HL) => Q r u.1 u.2) (gB D cy ad s.heap.size) (gA ad s.heap.size)) args s 0 0 (gA ad s.heap.size)) (F0 m 0 ls []) := by
    intro H locs ls hG hl
    unfold w_X11_fault at HW
    refine lv_aload_n hx hb dX11_fault_0 rfl (lv_at hl 0 rfl) ?_
    obtain ⟨P_1, HC_1, HW⟩ := HW
    refine g_calli (g_runV (As := []) (rest := []) ⟨hx, hb, hml, hown, hts⟩ (m_X11_reads l D cy ad h g H.size  P_1 HC_1) (cwV 0 hts (gd_V (wm5 149 rfl rfl) (wm5 151 rfl rfl) (wmp3 (q := (yX11_reads, 26)) 9 rfl) (wm1 13 rfl rfl) (wm5 152 rfl rfl)) rfl rfl rfl (by decide +kernel) ⟨Nat.le_of_ble_eq_true rfl, Nat.le_of_ble_eq_true rfl⟩) hK hNw hG gl_135 rfl gk_135 (by decide) rfl rfl hl.1 rfl (lv_room (Nat.le_of_ble_eq_true rfl)) dX11_fault_1 ⟨Nat.zero_le _, Nat.zero_le _⟩) hG (fun r_1 h_1 g_1 H locs hq hG => ?_)
    replace HW := HW r_1 h_1 g_1 hq
    exact W.iret (v := r_1) hx hb hr (fun t ht hW => ⟨⟨r_1, (h_1, g_1), rfl, HW, g_B ht hG⟩, hG.2.2.F ht⟩) hG.2.2.2.2 dX11_fault_4
  exact E0 _ _ _ hG hl

def w_X11_worn (x1 : Int32) (x2 : Int32) (h : HI) (g : HL) (Q : Int32 → HI → HL → Prop) : Prop :=
  (∃ P_3 : Int32 → HI → HL → Prop, w_X11_is (0 : Int32) x1 h g P_3 ∧ ∀ (r_3 : Int32) (h_3 : HI) (g_3 : HL), zb r_3 → P_3 r_3 h_3 g_3 → ((r_3 = 0 → Q (-2 : Int32) h_3 g_3) ∧ (¬ r_3 = 0 → (∃ P_10 : Int32 → HI → HL → Prop, w_X11_isYear x2 h_3 g_3 P_10 ∧ ∀ (r_10 : Int32) (h_10 : HI) (g_10 : HL), zb r_10 → P_10 r_10 h_10 g_10 → ((r_10 = 0 → Q (-2 : Int32) h_10 g_10) ∧ (¬ r_10 = 0 → (∃ P_19 : Int32 → HI → HL → Prop, w_X11_wornOf x1 x2 h_10 g_10 P_19 ∧ ∀ (r_19 : Int32) (h_19 : HI) (g_19 : HL), P_19 r_19 h_19 g_19 → Q r_19 h_19 g_19)))))))
set_option maxHeartbeats 8000000 in
set_option maxRecDepth 100000 in
theorem m_X11_worn (l : Launch) (D : va_G) (cy : Nat → ClassId) (ad : Nat → Nat) (h : HI) (g : HL) (sz : Nat) (x1 : Int32) (x2 : Int32) (Q : Int32 → HI → HL → Prop) (HW : w_X11_worn x1 x2 h g Q) : Met l yX11_worn (wa yX11_worn cX11_worn 3 (some .int)) ({ frames := 5, cells := 0, slots := 0, locals := 117 }) (va_Pc [.ref (ad 135), .int x1, .int x2] (gI D cy ad h g sz)) (va_Qi (fun (r : Int32) (u : HI × HL) => Q r u.1 u.2) (gB D cy ad sz) (gA ad sz)) 0 0 (gA ad sz) := by
  refine Met.ofW (cc := cX11_worn) (maxL := 3) (ret := (some .int)) (by decide) rfl ?_
  intro p e s m args below meth c s₁ B hml hv
  obtain ⟨hav, hsz, hP, hK, hD0, hNw⟩ := hv
  have hx := B.exec
  have hb := B.bytes
  have hr := B.returns
  have hts := atoms_spec (ws := (wa yX11_worn cX11_worn 3 (some .int))) B.pre
  have hw := wa_hw hts
  have hown : s.vm.findClass RX11 = some m.cls := findClass_of_methodNamed B.named
  have hlocks := B.notSynchronized
  subst hsz
  have hG : gG D cy ad (gA ad s.heap.size) s.heap h g s.heap [] := ⟨hP, gA_self hD0, va_S.rf⟩
  clear hP hD0
  rw [show (headSpec (wa yX11_worn cX11_worn 3 (some .int)) ({ frames := 5, cells := 0, slots := 0, locals := 117 } : Room)).room = ({ frames := 5, cells := 0, slots := 0, locals := 117 } : Room) from rfl]
  have hl := lv_entry ([.ref (ad 135), .int x1, .int x2]) (n := 3) (Nat.le_of_ble_eq_true rfl)
  rw [show entryFrame m args 3 = entryFrame m ([.ref (ad 135), .int x1, .int x2] : List Value).toArray 3 from by rw [hav], lg_entry_eq]
  generalize (lg_sl ([.ref (ad 135), .int x1, .int x2]) ++ List.replicate (3 - (lg_sl ([.ref (ad 135), .int x1, .int x2])).length) Slot.unset).toArray = ls at hl ⊢
  have hl : lv_has ls 3 [(0, .ref (ad 135)), (1, .int x1), (2, .int x2)] := hl
  have E0 : ∀ (H : Heap) (locs : List Loc) (ls : Array Slot), gG D cy ad (gA ad s.heap.size) s.heap h g H locs → lv_has ls 3 [(0, .ref (ad 135)), (1, .int x1), (2, .int x2)] → W p l e ({ frames := 5, cells := 0, slots := 0, locals := 117 } : Room) s m args below meth c H locs 0 0 (MQ below (va_Qi (fun (r : Int32) (u : HI × HL) => Q r u.1 u.2) (gB D cy ad s.heap.size) (gA ad s.heap.size)) args s 0 0 (gA ad s.heap.size)) (F0 m 0 ls []) := by
    intro H locs ls hG hl
    unfold w_X11_worn at HW
    refine lv_aload_n hx hb dX11_worn_0 rfl (lv_at hl 0 rfl) ?_
    refine lv_iconst (v := 0) hx hb dX11_worn_1 (by decide) ?_
    refine lv_iload_n hx hb dX11_worn_2 rfl (lv_at hl 1 rfl) ?_
    obtain ⟨P_3, HC_3, HW⟩ := HW
    refine g_callz (g_runV (As := [.int (0 : Int32), .int x1]) (rest := []) ⟨hx, hb, hml, hown, hts⟩ (m_X11_is l D cy ad h g H.size (0 : Int32) x1 P_3 HC_3) (cwV 2 hts (gd_V (wm5 184 rfl rfl) (wm5 186 rfl rfl) (wmp3 (q := (yX11_is, 26)) 14 rfl) (wm1 13 rfl rfl) (wm5 187 rfl rfl)) rfl rfl rfl (by decide +kernel) ⟨Nat.le_of_ble_eq_true rfl, Nat.le_of_ble_eq_true rfl⟩) hK hNw hG gl_135 rfl gk_135 (by decide) rfl rfl hl.1 rfl (lv_room (Nat.le_of_ble_eq_true rfl)) dX11_worn_3 ⟨Nat.zero_le _, Nat.zero_le _⟩) hG (fun r_3 h_3 g_3 H locs hz hq hG => ?_)
    replace HW := HW r_3 h_3 g_3 hz hq
    refine lv_if_eq (tgt := 25) hx hb dX11_worn_6 (by decide) (fun c_6 => ?_) (fun c_6 => ?_)
    · replace HW := HW.1 c_6
      refine lv_bipush (v := (-2)) hx hb dX11_worn_25 (by decide) ?_
      exact W.iret (v := (-2 : Int32)) hx hb hr (fun t ht hW => ⟨⟨(-2 : Int32), (h_3, g_3), rfl, HW, g_B ht hG⟩, hG.2.2.F ht⟩) hG.2.2.2.2 dX11_worn_27
    · replace HW := HW.2 c_6
      refine lv_iload_n hx hb dX11_worn_9 rfl (lv_at hl 2 rfl) ?_
      obtain ⟨P_10, HC_10, HW⟩ := HW
      refine g_callz (g_runS (As := [.int x2]) (rest := []) ⟨hx, hb, hml, hown, hts⟩ (m_X11_isYear l D cy ad h_3 g_3 H.size x2 P_10 HC_10) (va_cwS 1 hts (gd_S (wm5 114 rfl rfl) (wm5 115 rfl rfl) (wm1 13 rfl rfl) (wm5 116 rfl rfl)) rfl rfl rfl (by decide +kernel) ⟨Nat.le_of_ble_eq_true rfl, Nat.le_of_ble_eq_true rfl⟩) hK hNw hG rfl rfl hl.1 rfl (lv_room (Nat.le_of_ble_eq_true rfl)) dX11_worn_10 ⟨Nat.zero_le _, Nat.zero_le _⟩) hG (fun r_10 h_10 g_10 H locs hz hq hG => ?_)
      replace HW := HW r_10 h_10 g_10 hz hq
      refine lv_if_eq (tgt := 25) hx hb dX11_worn_13 (by decide) (fun c_13 => ?_) (fun c_13 => ?_)
      · replace HW := HW.1 c_13
        refine lv_bipush (v := (-2)) hx hb dX11_worn_25 (by decide) ?_
        exact W.iret (v := (-2 : Int32)) hx hb hr (fun t ht hW => ⟨⟨(-2 : Int32), (h_10, g_10), rfl, HW, g_B ht hG⟩, hG.2.2.F ht⟩) hG.2.2.2.2 dX11_worn_27
      · replace HW := HW.2 c_13
        refine lv_aload_n hx hb dX11_worn_16 rfl (lv_at hl 0 rfl) ?_
        refine lv_iload_n hx hb dX11_worn_17 rfl (lv_at hl 1 rfl) ?_
        refine lv_iload_n hx hb dX11_worn_18 rfl (lv_at hl 2 rfl) ?_
        obtain ⟨P_19, HC_19, HW⟩ := HW
        refine g_calli (g_runV (As := [.int x1, .int x2]) (rest := []) ⟨hx, hb, hml, hown, hts⟩ (m_X11_wornOf l D cy ad h_10 g_10 H.size x1 x2 P_19 HC_19) (cwV 2 hts (gd_V (wm5 188 rfl rfl) (wm5 190 rfl rfl) (wmp3 (q := (yX11_wornOf, 26)) 15 rfl) (wm1 13 rfl rfl) (wm5 191 rfl rfl)) rfl rfl rfl (by decide +kernel) ⟨Nat.le_of_ble_eq_true rfl, Nat.le_of_ble_eq_true rfl⟩) hK hNw hG gl_135 rfl gk_135 (by decide) rfl rfl hl.1 rfl (lv_room (Nat.le_of_ble_eq_true rfl)) dX11_worn_19 ⟨Nat.zero_le _, Nat.zero_le _⟩) hG (fun r_19 h_19 g_19 H locs hq hG => ?_)
        replace HW := HW r_19 h_19 g_19 hq
        refine lv_goto (tgt := 27) hx hb dX11_worn_22 (by decide) ?_
        exact W.iret (v := r_19) hx hb hr (fun t ht hW => ⟨⟨r_19, (h_19, g_19), rfl, HW, g_B ht hG⟩, hG.2.2.F ht⟩) hG.2.2.2.2 dX11_worn_27
  exact E0 _ _ _ hG hl

def w_X11_sayOf (x1 : Int32) (x2 : Int32) (h : HI) (g : HL) (Q : Int32 → HI → HL → Prop) : Prop :=
  (vp_in (((152 : Int32) + ((6 : Int32) * x1)) + x2) 887 ∧ Q (h 136 (((152 : Int32) + ((6 : Int32) * x1)) + x2).toNatClampNeg) h g)
set_option maxHeartbeats 8000000 in
set_option maxRecDepth 100000 in
theorem m_X11_sayOf (l : Launch) (D : va_G) (cy : Nat → ClassId) (ad : Nat → Nat) (h : HI) (g : HL) (sz : Nat) (x1 : Int32) (x2 : Int32) (Q : Int32 → HI → HL → Prop) (HW : w_X11_sayOf x1 x2 h g Q) : Met l yX11_sayOf (wa yX11_sayOf cX11_sayOf 3 (some .int)) ({ frames := 0, cells := 0, slots := 0, locals := 0 }) (va_Pc [.ref (ad 135), .int x1, .int x2] (gI D cy ad h g sz)) (va_Qi (fun (r : Int32) (u : HI × HL) => Q r u.1 u.2) (gB D cy ad sz) (gA ad sz)) 0 0 (gA ad sz) := by
  refine Met.ofW (cc := cX11_sayOf) (maxL := 3) (ret := (some .int)) (by decide) rfl ?_
  intro p e s m args below meth c s₁ B hml hv
  obtain ⟨hav, hsz, hP, hK, hD0, hNw⟩ := hv
  have hx := B.exec
  have hb := B.bytes
  have hr := B.returns
  have hts := atoms_spec (ws := (wa yX11_sayOf cX11_sayOf 3 (some .int))) B.pre
  have hw := wa_hw hts
  have hown : s.vm.findClass RX11 = some m.cls := findClass_of_methodNamed B.named
  have hlocks := B.notSynchronized
  subst hsz
  have hG : gG D cy ad (gA ad s.heap.size) s.heap h g s.heap [] := ⟨hP, gA_self hD0, va_S.rf⟩
  clear hP hD0
  have lk7 := hw (.fieldLink RX11 7 "OldWorksModel" "st" "[I") (wm5 27 rfl rfl)
  rw [show (headSpec (wa yX11_sayOf cX11_sayOf 3 (some .int)) ({ frames := 0, cells := 0, slots := 0, locals := 0 } : Room)).room = ({ frames := 0, cells := 0, slots := 0, locals := 0 } : Room) from rfl]
  have hl := lv_entry ([.ref (ad 135), .int x1, .int x2]) (n := 3) (Nat.le_of_ble_eq_true rfl)
  rw [show entryFrame m args 3 = entryFrame m ([.ref (ad 135), .int x1, .int x2] : List Value).toArray 3 from by rw [hav], lg_entry_eq]
  generalize (lg_sl ([.ref (ad 135), .int x1, .int x2]) ++ List.replicate (3 - (lg_sl ([.ref (ad 135), .int x1, .int x2])).length) Slot.unset).toArray = ls at hl ⊢
  have hl : lv_has ls 3 [(0, .ref (ad 135)), (1, .int x1), (2, .int x2)] := hl
  have E0 : ∀ (H : Heap) (locs : List Loc) (ls : Array Slot), gG D cy ad (gA ad s.heap.size) s.heap h g H locs → lv_has ls 3 [(0, .ref (ad 135)), (1, .int x1), (2, .int x2)] → W p l e ({ frames := 0, cells := 0, slots := 0, locals := 0 } : Room) s m args below meth c H locs 0 0 (MQ below (va_Qi (fun (r : Int32) (u : HI × HL) => Q r u.1 u.2) (gB D cy ad s.heap.size) (gA ad s.heap.size)) args s 0 0 (gA ad s.heap.size)) (F0 m 0 ls []) := by
    intro H locs ls hG hl
    unfold w_X11_sayOf at HW
    refine lv_aload_n hx hb dX11_sayOf_0 rfl (lv_at hl 0 rfl) ?_
    refine g_getr hx hb hw inG11 hown hK hG gl_135 rfl gk_135 (by decide) 0 (by decide) (by rw [gm_135]; decide) (r := 136) gr_135_0 lk7 dX11_sayOf_1 ?_
    refine lv_sipush (v := 152) hx hb dX11_sayOf_4 (by decide) ?_
    refine lv_bipush (v := 6) hx hb dX11_sayOf_7 (by decide) ?_
    refine lv_iload_n hx hb dX11_sayOf_9 rfl (lv_at hl 1 rfl) ?_
    refine lv_imul hx hb dX11_sayOf_10 ?_
    refine lv_iadd hx hb dX11_sayOf_11 ?_
    refine lv_iload_n hx hb dX11_sayOf_12 rfl (lv_at hl 2 rfl) ?_
    refine lv_iadd hx hb dX11_sayOf_13 ?_
    refine g_iald hx hb hK hG gl_136 gk_136 gn_136 HW.1 dX11_sayOf_14 ?_
    replace HW := HW.2
    exact W.iret (v := (h 136 (((152 : Int32) + ((6 : Int32) * x1)) + x2).toNatClampNeg)) hx hb hr (fun t ht hW => ⟨⟨(h 136 (((152 : Int32) + ((6 : Int32) * x1)) + x2).toNatClampNeg), (h, g), rfl, HW, g_B ht hG⟩, hG.2.2.F ht⟩) hG.2.2.2.2 dX11_sayOf_15
  exact E0 _ _ _ hG hl

def j_X11_say_163 (Q : Int32 → HI → HL → Prop) (x6 : Int32) (s1 : Int32) (s2 : Int32) (h : HI) (g : HL) : Prop :=
  (vp_in s1 887 ∧ ∀ h_163 : HI, h_163 = hu h 136 s1.toNatClampNeg s2 → (vp_in (x6 + (5 : Int32)) 887 ∧ ∀ h_173 : HI, h_173 = hu h_163 136 (x6 + (5 : Int32)).toNatClampNeg (0 : Int32) → (∃ P_176 : Int32 → HI → HL → Prop, w_X11_one (1 : Int32) h_173 g P_176 ∧ ∀ (r_176 : Int32) (h_176 : HI) (g_176 : HL), P_176 r_176 h_176 g_176 → Q r_176 h_176 g_176)))
def j_X11_say_144 (Q : Int32 → HI → HL → Prop) (x2 : Int32) (x5 : Int32) (x6 : Int32) (s1 : Int32) (s2 : Int32) (h : HI) (g : HL) : Prop :=
  (vp_in s1 887 ∧ ∀ h_144 : HI, h_144 = hu h 136 s1.toNatClampNeg s2 → ((¬ x2 = 0 → j_X11_say_163 Q x6 (x6 + (4 : Int32)) (0 : Int32) h_144 g) ∧ (x2 = 0 → j_X11_say_163 Q x6 (x6 + (4 : Int32)) x5 h_144 g)))
def j_X11_say_68 (Q : Int32 → HI → HL → Prop) (x1 : Int32) (x2 : Int32) (x3 : Int32) (x4 : Int32) (x5 : Int32) (h : HI) (g : HL) : Prop :=
  (vp_in (1 : Int32) 887 ∧ ((¬ (h 136 (1 : Int32).toNatClampNeg) = (60 : Int32) → (vp_in (1 : Int32) 887 ∧ (∀ x6_95 : Int32, x6_95 = ((152 : Int32) + ((6 : Int32) * (h 136 (1 : Int32).toNatClampNeg))) → (vp_in x6_95 887 ∧ ∀ h_104 : HI, h_104 = hu h 136 x6_95.toNatClampNeg x1 → (vp_in (x6_95 + (1 : Int32)) 887 ∧ ∀ h_114 : HI, h_114 = hu h_104 136 (x6_95 + (1 : Int32)).toNatClampNeg x2 → (vp_in (x6_95 + (2 : Int32)) 887 ∧ ∀ h_124 : HI, h_124 = hu h_114 136 (x6_95 + (2 : Int32)).toNatClampNeg x3 → (((2 : Int32) ≤ x2 → j_X11_say_144 Q x2 x5 x6_95 (x6_95 + (3 : Int32)) (0 : Int32) h_124 g) ∧ (¬ (2 : Int32) ≤ x2 → j_X11_say_144 Q x2 x5 x6_95 (x6_95 + (3 : Int32)) x4 h_124 g)))))))) ∧ ((h 136 (1 : Int32).toNatClampNeg) = (60 : Int32) → Q (-4 : Int32) h g)))
def j_X11_say_53 (Q : Int32 → HI → HL → Prop) (x1 : Int32) (x2 : Int32) (x3 : Int32) (x4 : Int32) (x5 : Int32) (h : HI) (g : HL) : Prop :=
  ((¬ x2 = 0 → j_X11_say_68 Q x1 x2 x3 x4 x5 h g) ∧ (x2 = 0 → (∃ P_59 : Int32 → HI → HL → Prop, w_X11_isYear x5 h g P_59 ∧ ∀ (r_59 : Int32) (h_59 : HI) (g_59 : HL), zb r_59 → P_59 r_59 h_59 g_59 → ((¬ r_59 = 0 → j_X11_say_68 Q x1 x2 x3 x4 x5 h_59 g_59) ∧ (r_59 = 0 → Q (-2 : Int32) h_59 g_59)))))
def w_X11_say (x1 : Int32) (x2 : Int32) (x3 : Int32) (x4 : Int32) (x5 : Int32) (h : HI) (g : HL) (Q : Int32 → HI → HL → Prop) : Prop :=
  (∃ P_3 : Int32 → HI → HL → Prop, w_X11_is (0 : Int32) x1 h g P_3 ∧ ∀ (r_3 : Int32) (h_3 : HI) (g_3 : HL), zb r_3 → P_3 r_3 h_3 g_3 → ((r_3 = 0 → Q (-2 : Int32) h_3 g_3) ∧ (¬ r_3 = 0 → (∃ P_15 : Int32 → HI → HL → Prop, w_X11_in ((x2).toInt64) (0 : Int64) (3 : Int64) h_3 g_3 P_15 ∧ ∀ (r_15 : Int32) (h_15 : HI) (g_15 : HL), zb r_15 → P_15 r_15 h_15 g_15 → ((r_15 = 0 → Q (-2 : Int32) h_15 g_15) ∧ (¬ r_15 = 0 → (∃ P_29 : Int32 → HI → HL → Prop, w_X11_in ((x3).toInt64) (-10000 : Int64) (100000 : Int64) h_15 g_15 P_29 ∧ ∀ (r_29 : Int32) (h_29 : HI) (g_29 : HL), zb r_29 → P_29 r_29 h_29 g_29 → ((r_29 = 0 → Q (-2 : Int32) h_29 g_29) ∧ (¬ r_29 = 0 → (((2 : Int32) ≤ x2 → j_X11_say_53 Q x1 x2 x3 x4 x5 h_29 g_29) ∧ (¬ (2 : Int32) ≤ x2 → (∃ P_47 : Int32 → HI → HL → Prop, w_X11_in ((x4).toInt64) (0 : Int64) (10000 : Int64) h_29 g_29 P_47 ∧ ∀ (r_47 : Int32) (h_47 : HI) (g_47 : HL), zb r_47 → P_47 r_47 h_47 g_47 → ((r_47 = 0 → Q (-2 : Int32) h_47 g_47) ∧ (¬ r_47 = 0 → j_X11_say_53 Q x1 x2 x3 x4 x5 h_47 g_47))))))))))))))
set_option maxHeartbeats 8000000 in
set_option maxRecDepth 100000 in
theorem m_X11_say (l : Launch) (D : va_G) (cy : Nat → ClassId) (ad : Nat → Nat) (h : HI) (g : HL) (sz : Nat) (x1 : Int32) (x2 : Int32) (x3 : Int32) (x4 : Int32) (x5 : Int32) (Q : Int32 → HI → HL → Prop) (HW : w_X11_say x1 x2 x3 x4 x5 h g Q) : Met l yX11_say (wa yX11_say cX11_say 7 (some .int)) ({ frames := 2, cells := 0, slots := 0, locals := 47 }) (va_Pc [.ref (ad 135), .int x1, .int x2, .int x3, .int x4, .int x5] (gI D cy ad h g sz)) (va_Qi (fun (r : Int32) (u : HI × HL) => Q r u.1 u.2) (gB D cy ad sz) (gA ad sz)) 0 0 (gA ad sz) := by
  refine Met.ofW (cc := cX11_say) (maxL := 7) (ret := (some .int)) (by decide) rfl ?_
  intro p e s m args below meth c s₁ B hml hv
  obtain ⟨hav, hsz, hP, hK, hD0, hNw⟩ := hv
  have hx := B.exec
  have hb := B.bytes
  have hr := B.returns
  have hts := atoms_spec (ws := (wa yX11_say cX11_say 7 (some .int))) B.pre
  have hw := wa_hw hts
  have hown : s.vm.findClass RX11 = some m.cls := findClass_of_methodNamed B.named
  have hlocks := B.notSynchronized
  subst hsz
  have hG : gG D cy ad (gA ad s.heap.size) s.heap h g s.heap [] := ⟨hP, gA_self hD0, va_S.rf⟩
  clear hP hD0
  have cn67 := hw (.constantLong RX11 67 (3)) (wm5 119 rfl rfl)
  have cn142 := hw (.constantLong RX11 142 (-10000)) (wm5 208 rfl rfl)
  have cn73 := hw (.constantLong RX11 73 (100000)) (wm5 131 rfl rfl)
  have cn128 := hw (.constantLong RX11 128 (10000)) (wm5 203 rfl rfl)
  have lk7 := hw (.fieldLink RX11 7 "OldWorksModel" "st" "[I") (wm5 27 rfl rfl)
  rw [show (headSpec (wa yX11_say cX11_say 7 (some .int)) ({ frames := 2, cells := 0, slots := 0, locals := 47 } : Room)).room = ({ frames := 2, cells := 0, slots := 0, locals := 47 } : Room) from rfl]
  have hl := lv_entry ([.ref (ad 135), .int x1, .int x2, .int x3, .int x4, .int x5]) (n := 7) (Nat.le_of_ble_eq_true rfl)
  rw [show entryFrame m args 7 = entryFrame m ([.ref (ad 135), .int x1, .int x2, .int x3, .int x4, .int x5] : List Value).toArray 7 from by rw [hav], lg_entry_eq]
  generalize (lg_sl ([.ref (ad 135), .int x1, .int x2, .int x3, .int x4, .int x5]) ++ List.replicate (7 - (lg_sl ([.ref (ad 135), .int x1, .int x2, .int x3, .int x4, .int x5])).length) Slot.unset).toArray = ls at hl ⊢
  have hl : lv_has ls 7 [(0, .ref (ad 135)), (1, .int x1), (2, .int x2), (3, .int x3), (4, .int x4), (5, .int x5)] := hl
  have B163 : ∀ (x6 : Int32) (s1 : Int32) (s2 : Int32) (h : HI) (g : HL) (H : Heap) (locs : List Loc) (ls : Array Slot), j_X11_say_163 Q x6 s1 s2 h g → gG D cy ad (gA ad s.heap.size) s.heap h g H locs → lv_has ls 7 [(0, .ref (ad 135)), (6, .int x6)] → W p l e ({ frames := 2, cells := 0, slots := 0, locals := 47 } : Room) s m args below meth c H locs 0 0 (MQ below (va_Qi (fun (r : Int32) (u : HI × HL) => Q r u.1 u.2) (gB D cy ad s.heap.size) (gA ad s.heap.size)) args s 0 0 (gA ad s.heap.size)) (F0 m 163 ls [.int s2, .int s1, .ref (ad 136)]) := by
    intro x6 s1 s2 h g H locs ls HW hG hl
    unfold j_X11_say_163 at HW
    refine g_iast hx hb hK hG gl_136 gk_136 gn_136 HW.1 dX11_say_163 (fun H locs hG => ?_)
    replace HW := HW.2
    obtain ⟨h_163, eh_163⟩ : ∃ y : HI, y = hu h 136 s1.toNatClampNeg s2 := ⟨_, rfl⟩
    rw [← eh_163] at hG
    replace HW := HW h_163 eh_163
    refine lv_aload_n hx hb dX11_say_164 rfl (lv_at hl 0 rfl) ?_
    refine g_getr hx hb hw inG11 hown hK hG gl_135 rfl gk_135 (by decide) 0 (by decide) (by rw [gm_135]; decide) (r := 136) gr_135_0 lk7 dX11_say_165 ?_
    refine lv_iload hx hb dX11_say_168 (lv_at hl 1 rfl) ?_
    refine lv_iconst (v := 5) hx hb dX11_say_170 (by decide) ?_
    refine lv_iadd hx hb dX11_say_171 ?_
    refine lv_iconst (v := 0) hx hb dX11_say_172 (by decide) ?_
    refine g_iast hx hb hK hG gl_136 gk_136 gn_136 HW.1 dX11_say_173 (fun H locs hG => ?_)
    replace HW := HW.2
    obtain ⟨h_173, eh_173⟩ : ∃ y : HI, y = hu h_163 136 (x6 + (5 : Int32)).toNatClampNeg (0 : Int32) := ⟨_, rfl⟩
    rw [← eh_173] at hG
    replace HW := HW h_173 eh_173
    refine lv_aload_n hx hb dX11_say_174 rfl (lv_at hl 0 rfl) ?_
    refine lv_iconst (v := 1) hx hb dX11_say_175 (by decide) ?_
    obtain ⟨P_176, HC_176, HW⟩ := HW
    refine g_calli (g_runV (As := [.int (1 : Int32)]) (rest := []) ⟨hx, hb, hml, hown, hts⟩ (m_X11_one l D cy ad h_173 g H.size (1 : Int32) P_176 HC_176) (cwV 1 hts (gd_V (wm5 120 rfl rfl) (wm5 122 rfl rfl) (wmp3 (q := (yX11_one, 26)) 7 rfl) (wm1 13 rfl rfl) (wm5 123 rfl rfl)) rfl rfl rfl (by decide +kernel) ⟨Nat.le_of_ble_eq_true rfl, Nat.le_of_ble_eq_true rfl⟩) hK hNw hG gl_135 rfl gk_135 (by decide) rfl rfl hl.1 rfl (lv_room (Nat.le_of_ble_eq_true rfl)) dX11_say_176 ⟨Nat.zero_le _, Nat.zero_le _⟩) hG (fun r_176 h_176 g_176 H locs hq hG => ?_)
    replace HW := HW r_176 h_176 g_176 hq
    exact W.iret (v := r_176) hx hb hr (fun t ht hW => ⟨⟨r_176, (h_176, g_176), rfl, HW, g_B ht hG⟩, hG.2.2.F ht⟩) hG.2.2.2.2 dX11_say_179
  have B144 : ∀ (x2 : Int32) (x5 : Int32) (x6 : Int32) (s1 : Int32) (s2 : Int32) (h : HI) (g : HL) (H : Heap) (locs : List Loc) (ls : Array Slot), j_X11_say_144 Q x2 x5 x6 s1 s2 h g → gG D cy ad (gA ad s.heap.size) s.heap h g H locs → lv_has ls 7 [(0, .ref (ad 135)), (2, .int x2), (5, .int x5), (6, .int x6)] → W p l e ({ frames := 2, cells := 0, slots := 0, locals := 47 } : Room) s m args below meth c H locs 0 0 (MQ below (va_Qi (fun (r : Int32) (u : HI × HL) => Q r u.1 u.2) (gB D cy ad s.heap.size) (gA ad s.heap.size)) args s 0 0 (gA ad s.heap.size)) (F0 m 144 ls [.int s2, .int s1, .ref (ad 136)]) := by
    intro x2 x5 x6 s1 s2 h g H locs ls HW hG hl
    unfold j_X11_say_144 at HW
    refine g_iast hx hb hK hG gl_136 gk_136 gn_136 HW.1 dX11_say_144 (fun H locs hG => ?_)
    replace HW := HW.2
    obtain ⟨h_144, eh_144⟩ : ∃ y : HI, y = hu h 136 s1.toNatClampNeg s2 := ⟨_, rfl⟩
    rw [← eh_144] at hG
    replace HW := HW h_144 eh_144
    refine lv_aload_n hx hb dX11_say_145 rfl (lv_at hl 0 rfl) ?_
    refine g_getr hx hb hw inG11 hown hK hG gl_135 rfl gk_135 (by decide) 0 (by decide) (by rw [gm_135]; decide) (r := 136) gr_135_0 lk7 dX11_say_146 ?_
    refine lv_iload hx hb dX11_say_149 (lv_at hl 3 rfl) ?_
    refine lv_iconst (v := 4) hx hb dX11_say_151 (by decide) ?_
    refine lv_iadd hx hb dX11_say_152 ?_
    refine lv_iload_n hx hb dX11_say_153 rfl (lv_at hl 1 rfl) ?_
    refine lv_if_ne (tgt := 162) hx hb dX11_say_154 (by decide) (fun c_154 => ?_) (fun c_154 => ?_)
    · replace HW := HW.1 c_154
      refine lv_iconst (v := 0) hx hb dX11_say_162 (by decide) ?_
      exact B163 x6 (x6 + (4 : Int32)) (0 : Int32) h_144 g _ _ _ HW hG (lv_sub hl [0, 3] rfl)
    · replace HW := HW.2 c_154
      refine lv_iload hx hb dX11_say_157 (lv_at hl 2 rfl) ?_
      refine lv_goto (tgt := 163) hx hb dX11_say_159 (by decide) ?_
      exact B163 x6 (x6 + (4 : Int32)) x5 h_144 g _ _ _ HW hG (lv_sub hl [0, 3] rfl)
  have B68 : ∀ (x1 : Int32) (x2 : Int32) (x3 : Int32) (x4 : Int32) (x5 : Int32) (h : HI) (g : HL) (H : Heap) (locs : List Loc) (ls : Array Slot), j_X11_say_68 Q x1 x2 x3 x4 x5 h g → gG D cy ad (gA ad s.heap.size) s.heap h g H locs → lv_has ls 7 [(0, .ref (ad 135)), (1, .int x1), (2, .int x2), (3, .int x3), (4, .int x4), (5, .int x5)] → W p l e ({ frames := 2, cells := 0, slots := 0, locals := 47 } : Room) s m args below meth c H locs 0 0 (MQ below (va_Qi (fun (r : Int32) (u : HI × HL) => Q r u.1 u.2) (gB D cy ad s.heap.size) (gA ad s.heap.size)) args s 0 0 (gA ad s.heap.size)) (F0 m 68 ls []) := by
    intro x1 x2 x3 x4 x5 h g H locs ls HW hG hl
    unfold j_X11_say_68 at HW
    refine lv_aload_n hx hb dX11_say_68 rfl (lv_at hl 0 rfl) ?_
    refine g_getr hx hb hw inG11 hown hK hG gl_135 rfl gk_135 (by decide) 0 (by decide) (by rw [gm_135]; decide) (r := 136) gr_135_0 lk7 dX11_say_69 ?_
    refine lv_iconst (v := 1) hx hb dX11_say_72 (by decide) ?_
    refine g_iald hx hb hK hG gl_136 gk_136 gn_136 HW.1 dX11_say_73 ?_
    replace HW := HW.2
    refine lv_bipush (v := 60) hx hb dX11_say_74 (by decide) ?_
    refine lv_icmp_ne (tgt := 82) hx hb dX11_say_76 (by decide) (fun c_76 => ?_) (fun c_76 => ?_)
    · replace HW := HW.1 c_76
      refine lv_sipush (v := 152) hx hb dX11_say_82 (by decide) ?_
      refine lv_bipush (v := 6) hx hb dX11_say_85 (by decide) ?_
      refine lv_aload_n hx hb dX11_say_87 rfl (lv_at hl 0 rfl) ?_
      refine g_getr hx hb hw inG11 hown hK hG gl_135 rfl gk_135 (by decide) 0 (by decide) (by rw [gm_135]; decide) (r := 136) gr_135_0 lk7 dX11_say_88 ?_
      refine lv_iconst (v := 1) hx hb dX11_say_91 (by decide) ?_
      refine g_iald hx hb hK hG gl_136 gk_136 gn_136 HW.1 dX11_say_92 ?_
      replace HW := HW.2
      refine lv_imul hx hb dX11_say_93 ?_
      refine lv_iadd hx hb dX11_say_94 ?_
      refine lv_topi (fun x6_95 ex6_95 => ?_)
      replace HW := HW x6_95 ex6_95
      refine lv_istore (lv' := [(6, .int x6_95), (0, .ref (ad 135)), (1, .int x1), (2, .int x2), (3, .int x3), (4, .int x4), (5, .int x5)]) hx hb dX11_say_95 hl (by decide) rfl (fun ls hl => ?_)
      refine lv_aload_n hx hb dX11_say_97 rfl (lv_at hl 1 rfl) ?_
      refine g_getr hx hb hw inG11 hown hK hG gl_135 rfl gk_135 (by decide) 0 (by decide) (by rw [gm_135]; decide) (r := 136) gr_135_0 lk7 dX11_say_98 ?_
      refine lv_iload hx hb dX11_say_101 (lv_at hl 0 rfl) ?_
      refine lv_iload_n hx hb dX11_say_103 rfl (lv_at hl 2 rfl) ?_
      refine g_iast hx hb hK hG gl_136 gk_136 gn_136 HW.1 dX11_say_104 (fun H locs hG => ?_)
      replace HW := HW.2
      obtain ⟨h_104, eh_104⟩ : ∃ y : HI, y = hu h 136 x6_95.toNatClampNeg x1 := ⟨_, rfl⟩
      rw [← eh_104] at hG
      replace HW := HW h_104 eh_104
      refine lv_aload_n hx hb dX11_say_105 rfl (lv_at hl 1 rfl) ?_
      refine g_getr hx hb hw inG11 hown hK hG gl_135 rfl gk_135 (by decide) 0 (by decide) (by rw [gm_135]; decide) (r := 136) gr_135_0 lk7 dX11_say_106 ?_
      refine lv_iload hx hb dX11_say_109 (lv_at hl 0 rfl) ?_
      refine lv_iconst (v := 1) hx hb dX11_say_111 (by decide) ?_
      refine lv_iadd hx hb dX11_say_112 ?_
      refine lv_iload_n hx hb dX11_say_113 rfl (lv_at hl 3 rfl) ?_
      refine g_iast hx hb hK hG gl_136 gk_136 gn_136 HW.1 dX11_say_114 (fun H locs hG => ?_)
      replace HW := HW.2
      obtain ⟨h_114, eh_114⟩ : ∃ y : HI, y = hu h_104 136 (x6_95 + (1 : Int32)).toNatClampNeg x2 := ⟨_, rfl⟩
      rw [← eh_114] at hG
      replace HW := HW h_114 eh_114
      refine lv_aload_n hx hb dX11_say_115 rfl (lv_at hl 1 rfl) ?_
      refine g_getr hx hb hw inG11 hown hK hG gl_135 rfl gk_135 (by decide) 0 (by decide) (by rw [gm_135]; decide) (r := 136) gr_135_0 lk7 dX11_say_116 ?_
      refine lv_iload hx hb dX11_say_119 (lv_at hl 0 rfl) ?_
      refine lv_iconst (v := 2) hx hb dX11_say_121 (by decide) ?_
      refine lv_iadd hx hb dX11_say_122 ?_
      refine lv_iload_n hx hb dX11_say_123 rfl (lv_at hl 4 rfl) ?_
      refine g_iast hx hb hK hG gl_136 gk_136 gn_136 HW.1 dX11_say_124 (fun H locs hG => ?_)
      replace HW := HW.2
      obtain ⟨h_124, eh_124⟩ : ∃ y : HI, y = hu h_114 136 (x6_95 + (2 : Int32)).toNatClampNeg x3 := ⟨_, rfl⟩
      rw [← eh_124] at hG
      replace HW := HW h_124 eh_124
      refine lv_aload_n hx hb dX11_say_125 rfl (lv_at hl 1 rfl) ?_
      refine g_getr hx hb hw inG11 hown hK hG gl_135 rfl gk_135 (by decide) 0 (by decide) (by rw [gm_135]; decide) (r := 136) gr_135_0 lk7 dX11_say_126 ?_
      refine lv_iload hx hb dX11_say_129 (lv_at hl 0 rfl) ?_
      refine lv_iconst (v := 3) hx hb dX11_say_131 (by decide) ?_
      refine lv_iadd hx hb dX11_say_132 ?_
      refine lv_iload_n hx hb dX11_say_133 rfl (lv_at hl 3 rfl) ?_
      refine lv_iconst (v := 2) hx hb dX11_say_134 (by decide) ?_
      refine lv_icmp_ge (tgt := 143) hx hb dX11_say_135 (by decide) (fun c_135 => ?_) (fun c_135 => ?_)
      · replace HW := HW.1 c_135
        refine lv_iconst (v := 0) hx hb dX11_say_143 (by decide) ?_
        exact B144 x2 x5 x6_95 (x6_95 + (3 : Int32)) (0 : Int32) h_124 g _ _ _ HW hG (lv_sub hl [1, 3, 6, 0] rfl)
      · replace HW := HW.2 c_135
        refine lv_iload hx hb dX11_say_138 (lv_at hl 5 rfl) ?_
        refine lv_goto (tgt := 144) hx hb dX11_say_140 (by decide) ?_
        exact B144 x2 x5 x6_95 (x6_95 + (3 : Int32)) x4 h_124 g _ _ _ HW hG (lv_sub hl [1, 3, 6, 0] rfl)
    · replace HW := HW.2 c_76
      refine lv_bipush (v := (-4)) hx hb dX11_say_79 (by decide) ?_
      exact W.iret (v := (-4 : Int32)) hx hb hr (fun t ht hW => ⟨⟨(-4 : Int32), (h, g), rfl, HW, g_B ht hG⟩, hG.2.2.F ht⟩) hG.2.2.2.2 dX11_say_81
  have B53 : ∀ (x1 : Int32) (x2 : Int32) (x3 : Int32) (x4 : Int32) (x5 : Int32) (h : HI) (g : HL) (H : Heap) (locs : List Loc) (ls : Array Slot), j_X11_say_53 Q x1 x2 x3 x4 x5 h g → gG D cy ad (gA ad s.heap.size) s.heap h g H locs → lv_has ls 7 [(0, .ref (ad 135)), (1, .int x1), (2, .int x2), (3, .int x3), (4, .int x4), (5, .int x5)] → W p l e ({ frames := 2, cells := 0, slots := 0, locals := 47 } : Room) s m args below meth c H locs 0 0 (MQ below (va_Qi (fun (r : Int32) (u : HI × HL) => Q r u.1 u.2) (gB D cy ad s.heap.size) (gA ad s.heap.size)) args s 0 0 (gA ad s.heap.size)) (F0 m 53 ls []) := by
    intro x1 x2 x3 x4 x5 h g H locs ls HW hG hl
    unfold j_X11_say_53 at HW
    refine lv_iload_n hx hb dX11_say_53 rfl (lv_at hl 2 rfl) ?_
    refine lv_if_ne (tgt := 68) hx hb dX11_say_54 (by decide) (fun c_54 => ?_) (fun c_54 => ?_)
    · replace HW := HW.1 c_54
      exact B68 x1 x2 x3 x4 x5 h g _ _ _ HW hG (lv_sub hl [0, 1, 2, 3, 4, 5] rfl)
    · replace HW := HW.2 c_54
      refine lv_iload hx hb dX11_say_57 (lv_at hl 5 rfl) ?_
      obtain ⟨P_59, HC_59, HW⟩ := HW
      refine g_callz (g_runS (As := [.int x5]) (rest := []) ⟨hx, hb, hml, hown, hts⟩ (m_X11_isYear l D cy ad h g H.size x5 P_59 HC_59) (va_cwS 1 hts (gd_S (wm5 114 rfl rfl) (wm5 115 rfl rfl) (wm1 13 rfl rfl) (wm5 116 rfl rfl)) rfl rfl rfl (by decide +kernel) ⟨Nat.le_of_ble_eq_true rfl, Nat.le_of_ble_eq_true rfl⟩) hK hNw hG rfl rfl hl.1 rfl (lv_room (Nat.le_of_ble_eq_true rfl)) dX11_say_59 ⟨Nat.zero_le _, Nat.zero_le _⟩) hG (fun r_59 h_59 g_59 H locs hz hq hG => ?_)
      replace HW := HW r_59 h_59 g_59 hz hq
      refine lv_if_ne (tgt := 68) hx hb dX11_say_62 (by decide) (fun c_62 => ?_) (fun c_62 => ?_)
      · replace HW := HW.1 c_62
        exact B68 x1 x2 x3 x4 x5 h_59 g_59 _ _ _ HW hG (lv_sub hl [0, 1, 2, 3, 4, 5] rfl)
      · replace HW := HW.2 c_62
        refine lv_bipush (v := (-2)) hx hb dX11_say_65 (by decide) ?_
        exact W.iret (v := (-2 : Int32)) hx hb hr (fun t ht hW => ⟨⟨(-2 : Int32), (h_59, g_59), rfl, HW, g_B ht hG⟩, hG.2.2.F ht⟩) hG.2.2.2.2 dX11_say_67
  have E0 : ∀ (H : Heap) (locs : List Loc) (ls : Array Slot), gG D cy ad (gA ad s.heap.size) s.heap h g H locs → lv_has ls 7 [(0, .ref (ad 135)), (1, .int x1), (2, .int x2), (3, .int x3), (4, .int x4), (5, .int x5)] → W p l e ({ frames := 2, cells := 0, slots := 0, locals := 47 } : Room) s m args below meth c H locs 0 0 (MQ below (va_Qi (fun (r : Int32) (u : HI × HL) => Q r u.1 u.2) (gB D cy ad s.heap.size) (gA ad s.heap.size)) args s 0 0 (gA ad s.heap.size)) (F0 m 0 ls []) := by
    intro H locs ls hG hl
    unfold w_X11_say at HW
    refine lv_aload_n hx hb dX11_say_0 rfl (lv_at hl 0 rfl) ?_
    refine lv_iconst (v := 0) hx hb dX11_say_1 (by decide) ?_
    refine lv_iload_n hx hb dX11_say_2 rfl (lv_at hl 1 rfl) ?_
    obtain ⟨P_3, HC_3, HW⟩ := HW
    refine g_callz (g_runV (As := [.int (0 : Int32), .int x1]) (rest := []) ⟨hx, hb, hml, hown, hts⟩ (m_X11_is l D cy ad h g H.size (0 : Int32) x1 P_3 HC_3) (cwV 2 hts (gd_V (wm5 184 rfl rfl) (wm5 186 rfl rfl) (wmp3 (q := (yX11_is, 26)) 14 rfl) (wm1 13 rfl rfl) (wm5 187 rfl rfl)) rfl rfl rfl (by decide +kernel) ⟨Nat.le_of_ble_eq_true rfl, Nat.le_of_ble_eq_true rfl⟩) hK hNw hG gl_135 rfl gk_135 (by decide) rfl rfl hl.1 rfl (lv_room (Nat.le_of_ble_eq_true rfl)) dX11_say_3 ⟨Nat.zero_le _, Nat.zero_le _⟩) hG (fun r_3 h_3 g_3 H locs hz hq hG => ?_)
    replace HW := HW r_3 h_3 g_3 hz hq
    refine lv_if_eq (tgt := 65) hx hb dX11_say_6 (by decide) (fun c_6 => ?_) (fun c_6 => ?_)
    · replace HW := HW.1 c_6
      refine lv_bipush (v := (-2)) hx hb dX11_say_65 (by decide) ?_
      exact W.iret (v := (-2 : Int32)) hx hb hr (fun t ht hW => ⟨⟨(-2 : Int32), (h_3, g_3), rfl, HW, g_B ht hG⟩, hG.2.2.F ht⟩) hG.2.2.2.2 dX11_say_67
    · replace HW := HW.2 c_6
      refine lv_iload_n hx hb dX11_say_9 rfl (lv_at hl 2 rfl) ?_
      refine lv_i2l hx hb dX11_say_10 rfl ?_
      refine lv_lconst (v := 0) hx hb dX11_say_11 (by decide) ?_
      refine lv_ldc2 (v := 3) hx hb hown cn67 dX11_say_12 ?_
      obtain ⟨P_15, HC_15, HW⟩ := HW
      refine g_callz (g_runS (As := [.long ((x2).toInt64), .long (0 : Int64), .long (3 : Int64)]) (rest := []) ⟨hx, hb, hml, hown, hts⟩ (m_X11_in l D cy ad h_3 g_3 H.size ((x2).toInt64) (0 : Int64) (3 : Int64) P_15 HC_15) (va_cwS 3 hts (gd_S (wm5 111 rfl rfl) (wm5 112 rfl rfl) (wm1 13 rfl rfl) (wm5 113 rfl rfl)) rfl rfl rfl (by decide +kernel) ⟨Nat.le_of_ble_eq_true rfl, Nat.le_of_ble_eq_true rfl⟩) hK hNw hG rfl rfl hl.1 rfl (lv_room (Nat.le_of_ble_eq_true rfl)) dX11_say_15 ⟨Nat.zero_le _, Nat.zero_le _⟩) hG (fun r_15 h_15 g_15 H locs hz hq hG => ?_)
      replace HW := HW r_15 h_15 g_15 hz hq
      refine lv_if_eq (tgt := 65) hx hb dX11_say_18 (by decide) (fun c_18 => ?_) (fun c_18 => ?_)
      · replace HW := HW.1 c_18
        refine lv_bipush (v := (-2)) hx hb dX11_say_65 (by decide) ?_
        exact W.iret (v := (-2 : Int32)) hx hb hr (fun t ht hW => ⟨⟨(-2 : Int32), (h_15, g_15), rfl, HW, g_B ht hG⟩, hG.2.2.F ht⟩) hG.2.2.2.2 dX11_say_67
      · replace HW := HW.2 c_18
        refine lv_iload_n hx hb dX11_say_21 rfl (lv_at hl 3 rfl) ?_
        refine lv_i2l hx hb dX11_say_22 rfl ?_
        refine lv_ldc2 (v := (-10000)) hx hb hown cn142 dX11_say_23 ?_
        refine lv_ldc2 (v := 100000) hx hb hown cn73 dX11_say_26 ?_
        obtain ⟨P_29, HC_29, HW⟩ := HW
        refine g_callz (g_runS (As := [.long ((x3).toInt64), .long (-10000 : Int64), .long (100000 : Int64)]) (rest := []) ⟨hx, hb, hml, hown, hts⟩ (m_X11_in l D cy ad h_15 g_15 H.size ((x3).toInt64) (-10000 : Int64) (100000 : Int64) P_29 HC_29) (va_cwS 3 hts (gd_S (wm5 111 rfl rfl) (wm5 112 rfl rfl) (wm1 13 rfl rfl) (wm5 113 rfl rfl)) rfl rfl rfl (by decide +kernel) ⟨Nat.le_of_ble_eq_true rfl, Nat.le_of_ble_eq_true rfl⟩) hK hNw hG rfl rfl hl.1 rfl (lv_room (Nat.le_of_ble_eq_true rfl)) dX11_say_29 ⟨Nat.zero_le _, Nat.zero_le _⟩) hG (fun r_29 h_29 g_29 H locs hz hq hG => ?_)
        replace HW := HW r_29 h_29 g_29 hz hq
        refine lv_if_eq (tgt := 65) hx hb dX11_say_32 (by decide) (fun c_32 => ?_) (fun c_32 => ?_)
        · replace HW := HW.1 c_32
          refine lv_bipush (v := (-2)) hx hb dX11_say_65 (by decide) ?_
          exact W.iret (v := (-2 : Int32)) hx hb hr (fun t ht hW => ⟨⟨(-2 : Int32), (h_29, g_29), rfl, HW, g_B ht hG⟩, hG.2.2.F ht⟩) hG.2.2.2.2 dX11_say_67
        · replace HW := HW.2 c_32
          refine lv_iload_n hx hb dX11_say_35 rfl (lv_at hl 2 rfl) ?_
          refine lv_iconst (v := 2) hx hb dX11_say_36 (by decide) ?_
          refine lv_icmp_ge (tgt := 53) hx hb dX11_say_37 (by decide) (fun c_37 => ?_) (fun c_37 => ?_)
          · replace HW := HW.1 c_37
            exact B53 x1 x2 x3 x4 x5 h_29 g_29 _ _ _ HW hG (lv_sub hl [0, 1, 2, 3, 4, 5] rfl)
          · replace HW := HW.2 c_37
            refine lv_iload hx hb dX11_say_40 (lv_at hl 4 rfl) ?_
            refine lv_i2l hx hb dX11_say_42 rfl ?_
            refine lv_lconst (v := 0) hx hb dX11_say_43 (by decide) ?_
            refine lv_ldc2 (v := 10000) hx hb hown cn128 dX11_say_44 ?_
            obtain ⟨P_47, HC_47, HW⟩ := HW
            refine g_callz (g_runS (As := [.long ((x4).toInt64), .long (0 : Int64), .long (10000 : Int64)]) (rest := []) ⟨hx, hb, hml, hown, hts⟩ (m_X11_in l D cy ad h_29 g_29 H.size ((x4).toInt64) (0 : Int64) (10000 : Int64) P_47 HC_47) (va_cwS 3 hts (gd_S (wm5 111 rfl rfl) (wm5 112 rfl rfl) (wm1 13 rfl rfl) (wm5 113 rfl rfl)) rfl rfl rfl (by decide +kernel) ⟨Nat.le_of_ble_eq_true rfl, Nat.le_of_ble_eq_true rfl⟩) hK hNw hG rfl rfl hl.1 rfl (lv_room (Nat.le_of_ble_eq_true rfl)) dX11_say_47 ⟨Nat.zero_le _, Nat.zero_le _⟩) hG (fun r_47 h_47 g_47 H locs hz hq hG => ?_)
            replace HW := HW r_47 h_47 g_47 hz hq
            refine lv_if_eq (tgt := 65) hx hb dX11_say_50 (by decide) (fun c_50 => ?_) (fun c_50 => ?_)
            · replace HW := HW.1 c_50
              refine lv_bipush (v := (-2)) hx hb dX11_say_65 (by decide) ?_
              exact W.iret (v := (-2 : Int32)) hx hb hr (fun t ht hW => ⟨⟨(-2 : Int32), (h_47, g_47), rfl, HW, g_B ht hG⟩, hG.2.2.F ht⟩) hG.2.2.2.2 dX11_say_67
            · replace HW := HW.2 c_50
              exact B53 x1 x2 x3 x4 x5 h_47 g_47 _ _ _ HW hG (lv_sub hl [0, 1, 2, 3, 4, 5] rfl)
  exact E0 _ _ _ hG hl
end
section
-- 03.w16
def j_X11_deny_57 (Q : Int32 → HI → HL → Prop) (s1 : Int32) (s2 : Int32) (h : HI) (g : HL) : Prop :=
  (vp_in s1 887 ∧ ∀ h_57 : HI, h_57 = hu h 136 s1.toNatClampNeg s2 → Q (1 : Int32) h_57 g)
def j_X11_deny_27 (Q : Int32 → HI → HL → Prop) (x1 : Int32) (x2 : Int32) (s0 : Int32) (h : HI) (g : HL) : Prop :=
  ((¬ s0 = x2 → ((x2 = 0 → j_X11_deny_57 Q (((152 : Int32) + ((6 : Int32) * x1)) + (5 : Int32)) (0 : Int32) h g) ∧ (¬ x2 = 0 → j_X11_deny_57 Q (((152 : Int32) + ((6 : Int32) * x1)) + (5 : Int32)) (1 : Int32) h g))) ∧ (s0 = x2 → Q (-3 : Int32) h g))
def w_X11_deny (x1 : Int32) (x2 : Int32) (h : HI) (g : HL) (Q : Int32 → HI → HL → Prop) : Prop :=
  (∃ P_3 : Int32 → HI → HL → Prop, w_X11_is (1 : Int32) x1 h g P_3 ∧ ∀ (r_3 : Int32) (h_3 : HI) (g_3 : HL), zb r_3 → P_3 r_3 h_3 g_3 → ((¬ r_3 = 0 → (∃ P_15 : Int32 → HI → HL → Prop, w_X11_sayOf x1 (5 : Int32) h_3 g_3 P_15 ∧ ∀ (r_15 : Int32) (h_15 : HI) (g_15 : HL), P_15 r_15 h_15 g_15 → ((¬ r_15 = (1 : Int32) → j_X11_deny_27 Q x1 x2 (0 : Int32) h_15 g_15) ∧ (r_15 = (1 : Int32) → j_X11_deny_27 Q x1 x2 (1 : Int32) h_15 g_15)))) ∧ (r_3 = 0 → Q (-2 : Int32) h_3 g_3)))
set_option maxHeartbeats 8000000 in
set_option maxRecDepth 100000 in
theorem m_X11_deny (l : Launch) (D : va_G) (cy : Nat → ClassId) (ad : Nat → Nat) (h : HI) (g : HL) (sz : Nat) (x1 : Int32) (x2 : Int32) (Q : Int32 → HI → HL → Prop) (HW : w_X11_deny x1 x2 h g Q) : Met l yX11_deny (wa yX11_deny cX11_deny 3 (some .int)) ({ frames := 2, cells := 0, slots := 0, locals := 47 }) (va_Pc [.ref (ad 135), .int x1, .int x2] (gI D cy ad h g sz)) (va_Qi (fun (r : Int32) (u : HI × HL) => Q r u.1 u.2) (gB D cy ad sz) (gA ad sz)) 0 0 (gA ad sz) := by
  refine Met.ofW (cc := cX11_deny) (maxL := 3) (ret := (some .int)) (by decide) rfl ?_
  intro p e s m args below meth c s₁ B hml hv
  obtain ⟨hav, hsz, hP, hK, hD0, hNw⟩ := hv
  have hx := B.exec
  have hb := B.bytes
  have hr := B.returns
  have hts := atoms_spec (ws := (wa yX11_deny cX11_deny 3 (some .int))) B.pre
  have hw := wa_hw hts
  have hown : s.vm.findClass RX11 = some m.cls := findClass_of_methodNamed B.named
  have hlocks := B.notSynchronized
  subst hsz
  have hG : gG D cy ad (gA ad s.heap.size) s.heap h g s.heap [] := ⟨hP, gA_self hD0, va_S.rf⟩
  clear hP hD0
  have lk7 := hw (.fieldLink RX11 7 "OldWorksModel" "st" "[I") (wm5 27 rfl rfl)
  rw [show (headSpec (wa yX11_deny cX11_deny 3 (some .int)) ({ frames := 2, cells := 0, slots := 0, locals := 47 } : Room)).room = ({ frames := 2, cells := 0, slots := 0, locals := 47 } : Room) from rfl]
  have hl := lv_entry ([.ref (ad 135), .int x1, .int x2]) (n := 3) (Nat.le_of_ble_eq_true rfl)
  rw [show entryFrame m args 3 = entryFrame m ([.ref (ad 135), .int x1, .int x2] : List Value).toArray 3 from by rw [hav], lg_entry_eq]
  generalize (lg_sl ([.ref (ad 135), .int x1, .int x2]) ++ List.replicate (3 - (lg_sl ([.ref (ad 135), .int x1, .int x2])).length) Slot.unset).toArray = ls at hl ⊢
  have hl : lv_has ls 3 [(0, .ref (ad 135)), (1, .int x1), (2, .int x2)] := hl
  have B57 : ∀ (s1 : Int32) (s2 : Int32) (h : HI) (g : HL) (H : Heap) (locs : List Loc) (ls : Array Slot), j_X11_deny_57 Q s1 s2 h g → gG D cy ad (gA ad s.heap.size) s.heap h g H locs → lv_has ls 3 [] → W p l e ({ frames := 2, cells := 0, slots := 0, locals := 47 } : Room) s m args below meth c H locs 0 0 (MQ below (va_Qi (fun (r : Int32) (u : HI × HL) => Q r u.1 u.2) (gB D cy ad s.heap.size) (gA ad s.heap.size)) args s 0 0 (gA ad s.heap.size)) (F0 m 57 ls [.int s2, .int s1, .ref (ad 136)]) := by
    intro s1 s2 h g H locs ls HW hG hl
    unfold j_X11_deny_57 at HW
    refine g_iast hx hb hK hG gl_136 gk_136 gn_136 HW.1 dX11_deny_57 (fun H locs hG => ?_)
    replace HW := HW.2
    obtain ⟨h_57, eh_57⟩ : ∃ y : HI, y = hu h 136 s1.toNatClampNeg s2 := ⟨_, rfl⟩
    rw [← eh_57] at hG
    replace HW := HW h_57 eh_57
    refine lv_iconst (v := 1) hx hb dX11_deny_58 (by decide) ?_
    exact W.iret (v := (1 : Int32)) hx hb hr (fun t ht hW => ⟨⟨(1 : Int32), (h_57, g), rfl, HW, g_B ht hG⟩, hG.2.2.F ht⟩) hG.2.2.2.2 dX11_deny_59
  have B27 : ∀ (x1 : Int32) (x2 : Int32) (s0 : Int32) (h : HI) (g : HL) (H : Heap) (locs : List Loc) (ls : Array Slot), j_X11_deny_27 Q x1 x2 s0 h g → gG D cy ad (gA ad s.heap.size) s.heap h g H locs → lv_has ls 3 [(0, .ref (ad 135)), (1, .int x1), (2, .int x2)] → W p l e ({ frames := 2, cells := 0, slots := 0, locals := 47 } : Room) s m args below meth c H locs 0 0 (MQ below (va_Qi (fun (r : Int32) (u : HI × HL) => Q r u.1 u.2) (gB D cy ad s.heap.size) (gA ad s.heap.size)) args s 0 0 (gA ad s.heap.size)) (F0 m 27 ls [.int s0]) := by
    intro x1 x2 s0 h g H locs ls HW hG hl
    unfold j_X11_deny_27 at HW
    refine lv_iload_n hx hb dX11_deny_27 rfl (lv_at hl 2 rfl) ?_
    refine lv_icmp_ne (tgt := 34) hx hb dX11_deny_28 (by decide) (fun c_28 => ?_) (fun c_28 => ?_)
    · replace HW := HW.1 c_28
      refine lv_aload_n hx hb dX11_deny_34 rfl (lv_at hl 0 rfl) ?_
      refine g_getr hx hb hw inG11 hown hK hG gl_135 rfl gk_135 (by decide) 0 (by decide) (by rw [gm_135]; decide) (r := 136) gr_135_0 lk7 dX11_deny_35 ?_
      refine lv_sipush (v := 152) hx hb dX11_deny_38 (by decide) ?_
      refine lv_bipush (v := 6) hx hb dX11_deny_41 (by decide) ?_
      refine lv_iload_n hx hb dX11_deny_43 rfl (lv_at hl 1 rfl) ?_
      refine lv_imul hx hb dX11_deny_44 ?_
      refine lv_iadd hx hb dX11_deny_45 ?_
      refine lv_iconst (v := 5) hx hb dX11_deny_46 (by decide) ?_
      refine lv_iadd hx hb dX11_deny_47 ?_
      refine lv_iload_n hx hb dX11_deny_48 rfl (lv_at hl 2 rfl) ?_
      refine lv_if_eq (tgt := 56) hx hb dX11_deny_49 (by decide) (fun c_49 => ?_) (fun c_49 => ?_)
      · replace HW := HW.1 c_49
        refine lv_iconst (v := 0) hx hb dX11_deny_56 (by decide) ?_
        exact B57 (((152 : Int32) + ((6 : Int32) * x1)) + (5 : Int32)) (0 : Int32) h g _ _ _ HW hG (lv_sub hl [] rfl)
      · replace HW := HW.2 c_49
        refine lv_iconst (v := 1) hx hb dX11_deny_52 (by decide) ?_
        refine lv_goto (tgt := 57) hx hb dX11_deny_53 (by decide) ?_
        exact B57 (((152 : Int32) + ((6 : Int32) * x1)) + (5 : Int32)) (1 : Int32) h g _ _ _ HW hG (lv_sub hl [] rfl)
    · replace HW := HW.2 c_28
      refine lv_bipush (v := (-3)) hx hb dX11_deny_31 (by decide) ?_
      exact W.iret (v := (-3 : Int32)) hx hb hr (fun t ht hW => ⟨⟨(-3 : Int32), (h, g), rfl, HW, g_B ht hG⟩, hG.2.2.F ht⟩) hG.2.2.2.2 dX11_deny_33
  have E0 : ∀ (H : Heap) (locs : List Loc) (ls : Array Slot), gG D cy ad (gA ad s.heap.size) s.heap h g H locs → lv_has ls 3 [(0, .ref (ad 135)), (1, .int x1), (2, .int x2)] → W p l e ({ frames := 2, cells := 0, slots := 0, locals := 47 } : Room) s m args below meth c H locs 0 0 (MQ below (va_Qi (fun (r : Int32) (u : HI × HL) => Q r u.1 u.2) (gB D cy ad s.heap.size) (gA ad s.heap.size)) args s 0 0 (gA ad s.heap.size)) (F0 m 0 ls []) := by
    intro H locs ls hG hl
    unfold w_X11_deny at HW
    refine lv_aload_n hx hb dX11_deny_0 rfl (lv_at hl 0 rfl) ?_
    refine lv_iconst (v := 1) hx hb dX11_deny_1 (by decide) ?_
    refine lv_iload_n hx hb dX11_deny_2 rfl (lv_at hl 1 rfl) ?_
    obtain ⟨P_3, HC_3, HW⟩ := HW
    refine g_callz (g_runV (As := [.int (1 : Int32), .int x1]) (rest := []) ⟨hx, hb, hml, hown, hts⟩ (m_X11_is l D cy ad h g H.size (1 : Int32) x1 P_3 HC_3) (cwV 2 hts (gd_V (wm5 184 rfl rfl) (wm5 186 rfl rfl) (wmp3 (q := (yX11_is, 26)) 14 rfl) (wm1 13 rfl rfl) (wm5 187 rfl rfl)) rfl rfl rfl (by decide +kernel) ⟨Nat.le_of_ble_eq_true rfl, Nat.le_of_ble_eq_true rfl⟩) hK hNw hG gl_135 rfl gk_135 (by decide) rfl rfl hl.1 rfl (lv_room (Nat.le_of_ble_eq_true rfl)) dX11_deny_3 ⟨Nat.zero_le _, Nat.zero_le _⟩) hG (fun r_3 h_3 g_3 H locs hz hq hG => ?_)
    replace HW := HW r_3 h_3 g_3 hz hq
    refine lv_if_ne (tgt := 12) hx hb dX11_deny_6 (by decide) (fun c_6 => ?_) (fun c_6 => ?_)
    · replace HW := HW.1 c_6
      refine lv_aload_n hx hb dX11_deny_12 rfl (lv_at hl 0 rfl) ?_
      refine lv_iload_n hx hb dX11_deny_13 rfl (lv_at hl 1 rfl) ?_
      refine lv_iconst (v := 5) hx hb dX11_deny_14 (by decide) ?_
      obtain ⟨P_15, HC_15, HW⟩ := HW
      refine g_calli (g_runV (As := [.int x1, .int (5 : Int32)]) (rest := []) ⟨hx, hb, hml, hown, hts⟩ (m_X11_sayOf l D cy ad h_3 g_3 H.size x1 (5 : Int32) P_15 HC_15) (cwV 2 hts (gd_V (wm5 213 rfl rfl) (wm5 215 rfl rfl) (wmp4 (q := (yX11_sayOf, 26)) 2 rfl) (wm1 13 rfl rfl) (wm5 216 rfl rfl)) rfl rfl rfl (by decide +kernel) ⟨Nat.le_of_ble_eq_true rfl, Nat.le_of_ble_eq_true rfl⟩) hK hNw hG gl_135 rfl gk_135 (by decide) rfl rfl hl.1 rfl (lv_room (Nat.le_of_ble_eq_true rfl)) dX11_deny_15 ⟨Nat.zero_le _, Nat.zero_le _⟩) hG (fun r_15 h_15 g_15 H locs hq hG => ?_)
      replace HW := HW r_15 h_15 g_15 hq
      refine lv_iconst (v := 1) hx hb dX11_deny_18 (by decide) ?_
      refine lv_icmp_ne (tgt := 26) hx hb dX11_deny_19 (by decide) (fun c_19 => ?_) (fun c_19 => ?_)
      · replace HW := HW.1 c_19
        refine lv_iconst (v := 0) hx hb dX11_deny_26 (by decide) ?_
        exact B27 x1 x2 (0 : Int32) h_15 g_15 _ _ _ HW hG (lv_sub hl [0, 1, 2] rfl)
      · replace HW := HW.2 c_19
        refine lv_iconst (v := 1) hx hb dX11_deny_22 (by decide) ?_
        refine lv_goto (tgt := 27) hx hb dX11_deny_23 (by decide) ?_
        exact B27 x1 x2 (1 : Int32) h_15 g_15 _ _ _ HW hG (lv_sub hl [0, 1, 2] rfl)
    · replace HW := HW.2 c_6
      refine lv_bipush (v := (-2)) hx hb dX11_deny_9 (by decide) ?_
      exact W.iret (v := (-2 : Int32)) hx hb hr (fun t ht hW => ⟨⟨(-2 : Int32), (h_3, g_3), rfl, HW, g_B ht hG⟩, hG.2.2.F ht⟩) hG.2.2.2.2 dX11_deny_11
  exact E0 _ _ _ hG hl

def j_X11_lets_87 (Q : HI → HL → Prop) (s1 : Int32) (h : HI) (g : HL) : Prop :=
  (∀ h_87 : HI, h_87 = hu h 135 10 s1 → Q h_87 g)
def j_X11_lets_58 (Q : HI → HL → Prop) (x1 : Int32) (x2 : Int32) (x3 : Int32) (s1 : Int32) (h : HI) (g : HL) : Prop :=
  (∀ h_58 : HI, h_58 = hu h 135 9 s1 → ((¬ x2 = (3 : Int32) → (∃ P_75 : Int32 → HI → HL → Prop, w_X11_sayOf x1 (2 : Int32) h_58 g P_75 ∧ ∀ (r_75 : Int32) (h_75 : HI) (g_75 : HL), P_75 r_75 h_75 g_75 → (∃ P_81 : Int32 → HI → HL → Prop, w_X11_sayOf x1 (3 : Int32) h_75 g_75 P_81 ∧ ∀ (r_81 : Int32) (h_81 : HI) (g_81 : HL), P_81 r_81 h_81 g_81 → j_X11_lets_87 Q ((r_75 + r_81) + x3) h_81 g_81))) ∧ (x2 = (3 : Int32) → j_X11_lets_87 Q (300000 : Int32) h_58 g)))
def j_X11_lets_31 (Q : HI → HL → Prop) (x1 : Int32) (x2 : Int32) (s0 : Int32) (h : HI) (g : HL) : Prop :=
  ((¬ x2 = (2 : Int32) → (∃ P_46 : Int32 → HI → HL → Prop, w_X11_sayOf x1 (2 : Int32) h g P_46 ∧ ∀ (r_46 : Int32) (h_46 : HI) (g_46 : HL), P_46 r_46 h_46 g_46 → (∃ P_52 : Int32 → HI → HL → Prop, w_X11_sayOf x1 (3 : Int32) h_46 g_46 P_52 ∧ ∀ (r_52 : Int32) (h_52 : HI) (g_52 : HL), P_52 r_52 h_52 g_52 → j_X11_lets_58 Q x1 x2 s0 ((r_46 - r_52) + s0) h_52 g_52))) ∧ (x2 = (2 : Int32) → j_X11_lets_58 Q x1 x2 s0 (-100000 : Int32) h g))
def w_X11_lets (x1 : Int32) (h : HI) (g : HL) (Q : HI → HL → Prop) : Prop :=
  (∃ P_3 : Int32 → HI → HL → Prop, w_X11_sayOf x1 (1 : Int32) h g P_3 ∧ ∀ (r_3 : Int32) (h_3 : HI) (g_3 : HL), P_3 r_3 h_3 g_3 → ((¬ r_3 = 0 → j_X11_lets_31 Q x1 r_3 (0 : Int32) h_3 g_3) ∧ (r_3 = 0 → (∃ P_15 : Int32 → HI → HL → Prop, w_X11_sayOf x1 (0 : Int32) h_3 g_3 P_15 ∧ ∀ (r_15 : Int32) (h_15 : HI) (g_15 : HL), P_15 r_15 h_15 g_15 → (∃ P_21 : Int32 → HI → HL → Prop, w_X11_sayOf x1 (4 : Int32) h_15 g_15 P_21 ∧ ∀ (r_21 : Int32) (h_21 : HI) (g_21 : HL), P_21 r_21 h_21 g_21 → (∃ P_24 : Int32 → HI → HL → Prop, w_X11_wornOf r_15 r_21 h_21 g_21 P_24 ∧ ∀ (r_24 : Int32) (h_24 : HI) (g_24 : HL), P_24 r_24 h_24 g_24 → j_X11_lets_31 Q x1 r_3 r_24 h_24 g_24))))))
set_option maxHeartbeats 8000000 in
set_option maxRecDepth 100000 in
theorem m_X11_lets (l : Launch) (D : va_G) (cy : Nat → ClassId) (ad : Nat → Nat) (h : HI) (g : HL) (sz : Nat) (x1 : Int32) (Q : HI → HL → Prop) (HW : w_X11_lets x1 h g Q) : Met l yX11_lets (wa yX11_lets cX11_lets 4 none) ({ frames := 5, cells := 0, slots := 0, locals := 117 }) (va_Pc [.ref (ad 135), .int x1] (gI D cy ad h g sz)) (va_Qv (fun (u : HI × HL) => Q u.1 u.2) (gB D cy ad sz) (gA ad sz)) 0 0 (gA ad sz) := by
  refine Met.ofW (cc := cX11_lets) (maxL := 4) (ret := none) (by decide) rfl ?_
  intro p e s m args below meth c s₁ B hml hv
  obtain ⟨hav, hsz, hP, hK, hD0, hNw⟩ := hv
  have hx := B.exec
  have hb := B.bytes
  have hr := B.returns
  have hts := atoms_spec (ws := (wa yX11_lets cX11_lets 4 none)) B.pre
  have hw := wa_hw hts
  have hown : s.vm.findClass RX11 = some m.cls := findClass_of_methodNamed B.named
  have hlocks := B.notSynchronized
  subst hsz
  have hG : gG D cy ad (gA ad s.heap.size) s.heap h g s.heap [] := ⟨hP, gA_self hD0, va_S.rf⟩
  clear hP hD0
  have cn147 := hw (.constant RX11 147 (-100000)) (wm6 2 rfl rfl)
  have lk148 := hw (.fieldLink RX11 148 "OldWorksModel" "low" "I") (wm5 36 rfl rfl)
  have cn151 := hw (.constant RX11 151 (300000)) (wm6 3 rfl rfl)
  have lk152 := hw (.fieldLink RX11 152 "OldWorksModel" "high" "I") (wm5 37 rfl rfl)
  rw [show (headSpec (wa yX11_lets cX11_lets 4 none) ({ frames := 5, cells := 0, slots := 0, locals := 117 } : Room)).room = ({ frames := 5, cells := 0, slots := 0, locals := 117 } : Room) from rfl]
  have hl := lv_entry ([.ref (ad 135), .int x1]) (n := 4) (Nat.le_of_ble_eq_true rfl)
  rw [show entryFrame m args 4 = entryFrame m ([.ref (ad 135), .int x1] : List Value).toArray 4 from by rw [hav], lg_entry_eq]
  generalize (lg_sl ([.ref (ad 135), .int x1]) ++ List.replicate (4 - (lg_sl ([.ref (ad 135), .int x1])).length) Slot.unset).toArray = ls at hl ⊢
  have hl : lv_has ls 4 [(0, .ref (ad 135)), (1, .int x1)] := hl
  have B87 : ∀ (s1 : Int32) (h : HI) (g : HL) (H : Heap) (locs : List Loc) (ls : Array Slot), j_X11_lets_87 Q s1 h g → gG D cy ad (gA ad s.heap.size) s.heap h g H locs → lv_has ls 4 [] → W p l e ({ frames := 5, cells := 0, slots := 0, locals := 117 } : Room) s m args below meth c H locs 0 0 (MQ below (va_Qv (fun (u : HI × HL) => Q u.1 u.2) (gB D cy ad s.heap.size) (gA ad s.heap.size)) args s 0 0 (gA ad s.heap.size)) (F0 m 87 ls [.int s1, .ref (ad 135)]) := by
    intro s1 h g H locs ls HW hG hl
    unfold j_X11_lets_87 at HW
    refine g_put hx hb hw inG11 tyX11 tyX11_ok nmX11 hown hK hG gl_135 rfl gk_135 (by decide) 10 (by decide) (by rw [gm_135]; decide) gr_135_10 rfl (ty := .int) (by decide +kernel) rfl rfl lk152 dX11_lets_87 (fun H locs hG => ?_)
    obtain ⟨h_87, eh_87⟩ : ∃ y : HI, y = hu h 135 10 s1 := ⟨_, rfl⟩
    rw [← eh_87] at hG
    replace HW := HW h_87 eh_87
    exact W.vret hx hb hr (fun t ht hW => ⟨⟨(h_87, g), rfl, HW, g_B ht hG⟩, hG.2.2.F ht⟩) hG.2.2.2.2 dX11_lets_90
  have B58 : ∀ (x1 : Int32) (x2 : Int32) (x3 : Int32) (s1 : Int32) (h : HI) (g : HL) (H : Heap) (locs : List Loc) (ls : Array Slot), j_X11_lets_58 Q x1 x2 x3 s1 h g → gG D cy ad (gA ad s.heap.size) s.heap h g H locs → lv_has ls 4 [(0, .ref (ad 135)), (1, .int x1), (2, .int x2), (3, .int x3)] → W p l e ({ frames := 5, cells := 0, slots := 0, locals := 117 } : Room) s m args below meth c H locs 0 0 (MQ below (va_Qv (fun (u : HI × HL) => Q u.1 u.2) (gB D cy ad s.heap.size) (gA ad s.heap.size)) args s 0 0 (gA ad s.heap.size)) (F0 m 58 ls [.int s1, .ref (ad 135)]) := by
    intro x1 x2 x3 s1 h g H locs ls HW hG hl
    unfold j_X11_lets_58 at HW
    refine g_put hx hb hw inG11 tyX11 tyX11_ok nmX11 hown hK hG gl_135 rfl gk_135 (by decide) 9 (by decide) (by rw [gm_135]; decide) gr_135_9 rfl (ty := .int) (by decide +kernel) rfl rfl lk148 dX11_lets_58 (fun H locs hG => ?_)
    obtain ⟨h_58, eh_58⟩ : ∃ y : HI, y = hu h 135 9 s1 := ⟨_, rfl⟩
    rw [← eh_58] at hG
    replace HW := HW h_58 eh_58
    refine lv_aload_n hx hb dX11_lets_61 rfl (lv_at hl 0 rfl) ?_
    refine lv_iload_n hx hb dX11_lets_62 rfl (lv_at hl 2 rfl) ?_
    refine lv_iconst (v := 3) hx hb dX11_lets_63 (by decide) ?_
    refine lv_icmp_ne (tgt := 72) hx hb dX11_lets_64 (by decide) (fun c_64 => ?_) (fun c_64 => ?_)
    · replace HW := HW.1 c_64
      refine lv_aload_n hx hb dX11_lets_72 rfl (lv_at hl 0 rfl) ?_
      refine lv_iload_n hx hb dX11_lets_73 rfl (lv_at hl 1 rfl) ?_
      refine lv_iconst (v := 2) hx hb dX11_lets_74 (by decide) ?_
      obtain ⟨P_75, HC_75, HW⟩ := HW
      refine g_calli (g_runV (As := [.int x1, .int (2 : Int32)]) (rest := [.ref (ad 135)]) ⟨hx, hb, hml, hown, hts⟩ (m_X11_sayOf l D cy ad h_58 g H.size x1 (2 : Int32) P_75 HC_75) (cwV 2 hts (gd_V (wm5 213 rfl rfl) (wm5 215 rfl rfl) (wmp4 (q := (yX11_sayOf, 26)) 2 rfl) (wm1 13 rfl rfl) (wm5 216 rfl rfl)) rfl rfl rfl (by decide +kernel) ⟨Nat.le_of_ble_eq_true rfl, Nat.le_of_ble_eq_true rfl⟩) hK hNw hG gl_135 rfl gk_135 (by decide) rfl rfl hl.1 rfl (lv_room (Nat.le_of_ble_eq_true rfl)) dX11_lets_75 ⟨Nat.zero_le _, Nat.zero_le _⟩) hG (fun r_75 h_75 g_75 H locs hq hG => ?_)
      replace HW := HW r_75 h_75 g_75 hq
      refine lv_aload_n hx hb dX11_lets_78 rfl (lv_at hl 0 rfl) ?_
      refine lv_iload_n hx hb dX11_lets_79 rfl (lv_at hl 1 rfl) ?_
      refine lv_iconst (v := 3) hx hb dX11_lets_80 (by decide) ?_
      obtain ⟨P_81, HC_81, HW⟩ := HW
      refine g_calli (g_runV (As := [.int x1, .int (3 : Int32)]) (rest := [.int r_75, .ref (ad 135)]) ⟨hx, hb, hml, hown, hts⟩ (m_X11_sayOf l D cy ad h_75 g_75 H.size x1 (3 : Int32) P_81 HC_81) (cwV 2 hts (gd_V (wm5 213 rfl rfl) (wm5 215 rfl rfl) (wmp4 (q := (yX11_sayOf, 26)) 2 rfl) (wm1 13 rfl rfl) (wm5 216 rfl rfl)) rfl rfl rfl (by decide +kernel) ⟨Nat.le_of_ble_eq_true rfl, Nat.le_of_ble_eq_true rfl⟩) hK hNw hG gl_135 rfl gk_135 (by decide) rfl rfl hl.1 rfl (lv_room (Nat.le_of_ble_eq_true rfl)) dX11_lets_81 ⟨Nat.zero_le _, Nat.zero_le _⟩) hG (fun r_81 h_81 g_81 H locs hq hG => ?_)
      replace HW := HW r_81 h_81 g_81 hq
      refine lv_iadd hx hb dX11_lets_84 ?_
      refine lv_iload_n hx hb dX11_lets_85 rfl (lv_at hl 3 rfl) ?_
      refine lv_iadd hx hb dX11_lets_86 ?_
      exact B87 ((r_75 + r_81) + x3) h_81 g_81 _ _ _ HW hG (lv_sub hl [] rfl)
    · replace HW := HW.2 c_64
      refine lv_ldc (v := 300000) hx hb hown cn151 dX11_lets_67 ?_
      refine lv_goto (tgt := 87) hx hb dX11_lets_69 (by decide) ?_
      exact B87 (300000 : Int32) h_58 g _ _ _ HW hG (lv_sub hl [] rfl)
  have B31 : ∀ (x1 : Int32) (x2 : Int32) (s0 : Int32) (h : HI) (g : HL) (H : Heap) (locs : List Loc) (ls : Array Slot), j_X11_lets_31 Q x1 x2 s0 h g → gG D cy ad (gA ad s.heap.size) s.heap h g H locs → lv_has ls 4 [(0, .ref (ad 135)), (1, .int x1), (2, .int x2)] → W p l e ({ frames := 5, cells := 0, slots := 0, locals := 117 } : Room) s m args below meth c H locs 0 0 (MQ below (va_Qv (fun (u : HI × HL) => Q u.1 u.2) (gB D cy ad s.heap.size) (gA ad s.heap.size)) args s 0 0 (gA ad s.heap.size)) (F0 m 31 ls [.int s0]) := by
    intro x1 x2 s0 h g H locs ls HW hG hl
    unfold j_X11_lets_31 at HW
    refine lv_istore_n (lv' := [(3, .int s0), (0, .ref (ad 135)), (1, .int x1), (2, .int x2)]) hx hb dX11_lets_31 rfl hl (by decide) rfl (fun ls hl => ?_)
    refine lv_aload_n hx hb dX11_lets_32 rfl (lv_at hl 1 rfl) ?_
    refine lv_iload_n hx hb dX11_lets_33 rfl (lv_at hl 3 rfl) ?_
    refine lv_iconst (v := 2) hx hb dX11_lets_34 (by decide) ?_
    refine lv_icmp_ne (tgt := 43) hx hb dX11_lets_35 (by decide) (fun c_35 => ?_) (fun c_35 => ?_)
    · replace HW := HW.1 c_35
      refine lv_aload_n hx hb dX11_lets_43 rfl (lv_at hl 1 rfl) ?_
      refine lv_iload_n hx hb dX11_lets_44 rfl (lv_at hl 2 rfl) ?_
      refine lv_iconst (v := 2) hx hb dX11_lets_45 (by decide) ?_
      obtain ⟨P_46, HC_46, HW⟩ := HW
      refine g_calli (g_runV (As := [.int x1, .int (2 : Int32)]) (rest := [.ref (ad 135)]) ⟨hx, hb, hml, hown, hts⟩ (m_X11_sayOf l D cy ad h g H.size x1 (2 : Int32) P_46 HC_46) (cwV 2 hts (gd_V (wm5 213 rfl rfl) (wm5 215 rfl rfl) (wmp4 (q := (yX11_sayOf, 26)) 2 rfl) (wm1 13 rfl rfl) (wm5 216 rfl rfl)) rfl rfl rfl (by decide +kernel) ⟨Nat.le_of_ble_eq_true rfl, Nat.le_of_ble_eq_true rfl⟩) hK hNw hG gl_135 rfl gk_135 (by decide) rfl rfl hl.1 rfl (lv_room (Nat.le_of_ble_eq_true rfl)) dX11_lets_46 ⟨Nat.zero_le _, Nat.zero_le _⟩) hG (fun r_46 h_46 g_46 H locs hq hG => ?_)
      replace HW := HW r_46 h_46 g_46 hq
      refine lv_aload_n hx hb dX11_lets_49 rfl (lv_at hl 1 rfl) ?_
      refine lv_iload_n hx hb dX11_lets_50 rfl (lv_at hl 2 rfl) ?_
      refine lv_iconst (v := 3) hx hb dX11_lets_51 (by decide) ?_
      obtain ⟨P_52, HC_52, HW⟩ := HW
      refine g_calli (g_runV (As := [.int x1, .int (3 : Int32)]) (rest := [.int r_46, .ref (ad 135)]) ⟨hx, hb, hml, hown, hts⟩ (m_X11_sayOf l D cy ad h_46 g_46 H.size x1 (3 : Int32) P_52 HC_52) (cwV 2 hts (gd_V (wm5 213 rfl rfl) (wm5 215 rfl rfl) (wmp4 (q := (yX11_sayOf, 26)) 2 rfl) (wm1 13 rfl rfl) (wm5 216 rfl rfl)) rfl rfl rfl (by decide +kernel) ⟨Nat.le_of_ble_eq_true rfl, Nat.le_of_ble_eq_true rfl⟩) hK hNw hG gl_135 rfl gk_135 (by decide) rfl rfl hl.1 rfl (lv_room (Nat.le_of_ble_eq_true rfl)) dX11_lets_52 ⟨Nat.zero_le _, Nat.zero_le _⟩) hG (fun r_52 h_52 g_52 H locs hq hG => ?_)
      replace HW := HW r_52 h_52 g_52 hq
      refine lv_isub hx hb dX11_lets_55 ?_
      refine lv_iload_n hx hb dX11_lets_56 rfl (lv_at hl 0 rfl) ?_
      refine lv_iadd hx hb dX11_lets_57 ?_
      exact B58 x1 x2 s0 ((r_46 - r_52) + s0) h_52 g_52 _ _ _ HW hG (lv_sub hl [1, 2, 3, 0] rfl)
    · replace HW := HW.2 c_35
      refine lv_ldc (v := (-100000)) hx hb hown cn147 dX11_lets_38 ?_
      refine lv_goto (tgt := 58) hx hb dX11_lets_40 (by decide) ?_
      exact B58 x1 x2 s0 (-100000 : Int32) h g _ _ _ HW hG (lv_sub hl [1, 2, 3, 0] rfl)
  have E0 : ∀ (H : Heap) (locs : List Loc) (ls : Array Slot), gG D cy ad (gA ad s.heap.size) s.heap h g H locs → lv_has ls 4 [(0, .ref (ad 135)), (1, .int x1)] → W p l e ({ frames := 5, cells := 0, slots := 0, locals := 117 } : Room) s m args below meth c H locs 0 0 (MQ below (va_Qv (fun (u : HI × HL) => Q u.1 u.2) (gB D cy ad s.heap.size) (gA ad s.heap.size)) args s 0 0 (gA ad s.heap.size)) (F0 m 0 ls []) := by
    intro H locs ls hG hl
    unfold w_X11_lets at HW
    refine lv_aload_n hx hb dX11_lets_0 rfl (lv_at hl 0 rfl) ?_
    refine lv_iload_n hx hb dX11_lets_1 rfl (lv_at hl 1 rfl) ?_
    refine lv_iconst (v := 1) hx hb dX11_lets_2 (by decide) ?_
    obtain ⟨P_3, HC_3, HW⟩ := HW
    refine g_calli (g_runV (As := [.int x1, .int (1 : Int32)]) (rest := []) ⟨hx, hb, hml, hown, hts⟩ (m_X11_sayOf l D cy ad h g H.size x1 (1 : Int32) P_3 HC_3) (cwV 2 hts (gd_V (wm5 213 rfl rfl) (wm5 215 rfl rfl) (wmp4 (q := (yX11_sayOf, 26)) 2 rfl) (wm1 13 rfl rfl) (wm5 216 rfl rfl)) rfl rfl rfl (by decide +kernel) ⟨Nat.le_of_ble_eq_true rfl, Nat.le_of_ble_eq_true rfl⟩) hK hNw hG gl_135 rfl gk_135 (by decide) rfl rfl hl.1 rfl (lv_room (Nat.le_of_ble_eq_true rfl)) dX11_lets_3 ⟨Nat.zero_le _, Nat.zero_le _⟩) hG (fun r_3 h_3 g_3 H locs hq hG => ?_)
    replace HW := HW r_3 h_3 g_3 hq
    refine lv_istore_n (lv' := [(2, .int r_3), (0, .ref (ad 135)), (1, .int x1)]) hx hb dX11_lets_6 rfl hl (by decide) rfl (fun ls hl => ?_)
    refine lv_iload_n hx hb dX11_lets_7 rfl (lv_at hl 0 rfl) ?_
    refine lv_if_ne (tgt := 30) hx hb dX11_lets_8 (by decide) (fun c_8 => ?_) (fun c_8 => ?_)
    · replace HW := HW.1 c_8
      refine lv_iconst (v := 0) hx hb dX11_lets_30 (by decide) ?_
      exact B31 x1 r_3 (0 : Int32) h_3 g_3 _ _ _ HW hG (lv_sub hl [1, 2, 0] rfl)
    · replace HW := HW.2 c_8
      refine lv_aload_n hx hb dX11_lets_11 rfl (lv_at hl 1 rfl) ?_
      refine lv_aload_n hx hb dX11_lets_12 rfl (lv_at hl 1 rfl) ?_
      refine lv_iload_n hx hb dX11_lets_13 rfl (lv_at hl 2 rfl) ?_
      refine lv_iconst (v := 0) hx hb dX11_lets_14 (by decide) ?_
      obtain ⟨P_15, HC_15, HW⟩ := HW
      refine g_calli (g_runV (As := [.int x1, .int (0 : Int32)]) (rest := [.ref (ad 135)]) ⟨hx, hb, hml, hown, hts⟩ (m_X11_sayOf l D cy ad h_3 g_3 H.size x1 (0 : Int32) P_15 HC_15) (cwV 2 hts (gd_V (wm5 213 rfl rfl) (wm5 215 rfl rfl) (wmp4 (q := (yX11_sayOf, 26)) 2 rfl) (wm1 13 rfl rfl) (wm5 216 rfl rfl)) rfl rfl rfl (by decide +kernel) ⟨Nat.le_of_ble_eq_true rfl, Nat.le_of_ble_eq_true rfl⟩) hK hNw hG gl_135 rfl gk_135 (by decide) rfl rfl hl.1 rfl (lv_room (Nat.le_of_ble_eq_true rfl)) dX11_lets_15 ⟨Nat.zero_le _, Nat.zero_le _⟩) hG (fun r_15 h_15 g_15 H locs hq hG => ?_)
      replace HW := HW r_15 h_15 g_15 hq
      refine lv_aload_n hx hb dX11_lets_18 rfl (lv_at hl 1 rfl) ?_
      refine lv_iload_n hx hb dX11_lets_19 rfl (lv_at hl 2 rfl) ?_
      refine lv_iconst (v := 4) hx hb dX11_lets_20 (by decide) ?_
      obtain ⟨P_21, HC_21, HW⟩ := HW
      refine g_calli (g_runV (As := [.int x1, .int (4 : Int32)]) (rest := [.int r_15, .ref (ad 135)]) ⟨hx, hb, hml, hown, hts⟩ (m_X11_sayOf l D cy ad h_15 g_15 H.size x1 (4 : Int32) P_21 HC_21) (cwV 2 hts (gd_V (wm5 213 rfl rfl) (wm5 215 rfl rfl) (wmp4 (q := (yX11_sayOf, 26)) 2 rfl) (wm1 13 rfl rfl) (wm5 216 rfl rfl)) rfl rfl rfl (by decide +kernel) ⟨Nat.le_of_ble_eq_true rfl, Nat.le_of_ble_eq_true rfl⟩) hK hNw hG gl_135 rfl gk_135 (by decide) rfl rfl hl.1 rfl (lv_room (Nat.le_of_ble_eq_true rfl)) dX11_lets_21 ⟨Nat.zero_le _, Nat.zero_le _⟩) hG (fun r_21 h_21 g_21 H locs hq hG => ?_)
      replace HW := HW r_21 h_21 g_21 hq
      obtain ⟨P_24, HC_24, HW⟩ := HW
      refine g_calli (g_runV (As := [.int r_15, .int r_21]) (rest := []) ⟨hx, hb, hml, hown, hts⟩ (m_X11_wornOf l D cy ad h_21 g_21 H.size r_15 r_21 P_24 HC_24) (cwV 2 hts (gd_V (wm5 188 rfl rfl) (wm5 190 rfl rfl) (wmp3 (q := (yX11_wornOf, 26)) 15 rfl) (wm1 13 rfl rfl) (wm5 191 rfl rfl)) rfl rfl rfl (by decide +kernel) ⟨Nat.le_of_ble_eq_true rfl, Nat.le_of_ble_eq_true rfl⟩) hK hNw hG gl_135 rfl gk_135 (by decide) rfl rfl hl.1 rfl (lv_room (Nat.le_of_ble_eq_true rfl)) dX11_lets_24 ⟨Nat.zero_le _, Nat.zero_le _⟩) hG (fun r_24 h_24 g_24 H locs hq hG => ?_)
      replace HW := HW r_24 h_24 g_24 hq
      refine lv_goto (tgt := 31) hx hb dX11_lets_27 (by decide) ?_
      exact B31 x1 r_3 r_24 h_24 g_24 _ _ _ HW hG (lv_sub hl [1, 2, 0] rfl)
  exact E0 _ _ _ hG hl

def w_X11_isOf (x1 : Int32) (x2 : Int32) (h : HI) (g : HL) (Q : Int32 → HI → HL → Prop) : Prop :=
  (∃ P_3 : Int32 → HI → HL → Prop, w_X11_sayOf x1 (0 : Int32) h g P_3 ∧ ∀ (r_3 : Int32) (h_3 : HI) (g_3 : HL), P_3 r_3 h_3 g_3 → ((¬ r_3 = x2 → Q (0 : Int32) h_3 g_3) ∧ (r_3 = x2 → (∃ P_13 : Int32 → HI → HL → Prop, w_X11_sayOf x1 (5 : Int32) h_3 g_3 P_13 ∧ ∀ (r_13 : Int32) (h_13 : HI) (g_13 : HL), P_13 r_13 h_13 g_13 → ((¬ r_13 = 0 → Q (0 : Int32) h_13 g_13) ∧ (r_13 = 0 → Q (1 : Int32) h_13 g_13))))))
set_option maxHeartbeats 8000000 in
set_option maxRecDepth 100000 in
theorem m_X11_isOf (l : Launch) (D : va_G) (cy : Nat → ClassId) (ad : Nat → Nat) (h : HI) (g : HL) (sz : Nat) (x1 : Int32) (x2 : Int32) (Q : Int32 → HI → HL → Prop) (HW : w_X11_isOf x1 x2 h g Q) : Met l yX11_isOf (wa yX11_isOf cX11_isOf 3 (some .boolean)) ({ frames := 1, cells := 0, slots := 0, locals := 22 }) (va_Pc [.ref (ad 135), .int x1, .int x2] (gI D cy ad h g sz)) (va_Qi (fun (r : Int32) (u : HI × HL) => zb r ∧ Q r u.1 u.2) (gB D cy ad sz) (gA ad sz)) 0 0 (gA ad sz) := by
  refine Met.ofW (cc := cX11_isOf) (maxL := 3) (ret := (some .boolean)) (by decide) rfl ?_
  intro p e s m args below meth c s₁ B hml hv
  obtain ⟨hav, hsz, hP, hK, hD0, hNw⟩ := hv
  have hx := B.exec
  have hb := B.bytes
  have hr := B.returns
  have hts := atoms_spec (ws := (wa yX11_isOf cX11_isOf 3 (some .boolean))) B.pre
  have hw := wa_hw hts
  have hown : s.vm.findClass RX11 = some m.cls := findClass_of_methodNamed B.named
  have hlocks := B.notSynchronized
  subst hsz
  have hG : gG D cy ad (gA ad s.heap.size) s.heap h g s.heap [] := ⟨hP, gA_self hD0, va_S.rf⟩
  clear hP hD0
  rw [show (headSpec (wa yX11_isOf cX11_isOf 3 (some .boolean)) ({ frames := 1, cells := 0, slots := 0, locals := 22 } : Room)).room = ({ frames := 1, cells := 0, slots := 0, locals := 22 } : Room) from rfl]
  have hl := lv_entry ([.ref (ad 135), .int x1, .int x2]) (n := 3) (Nat.le_of_ble_eq_true rfl)
  rw [show entryFrame m args 3 = entryFrame m ([.ref (ad 135), .int x1, .int x2] : List Value).toArray 3 from by rw [hav], lg_entry_eq]
  generalize (lg_sl ([.ref (ad 135), .int x1, .int x2]) ++ List.replicate (3 - (lg_sl ([.ref (ad 135), .int x1, .int x2])).length) Slot.unset).toArray = ls at hl ⊢
  have hl : lv_has ls 3 [(0, .ref (ad 135)), (1, .int x1), (2, .int x2)] := hl
  have E0 : ∀ (H : Heap) (locs : List Loc) (ls : Array Slot), gG D cy ad (gA ad s.heap.size) s.heap h g H locs → lv_has ls 3 [(0, .ref (ad 135)), (1, .int x1), (2, .int x2)] → W p l e ({ frames := 1, cells := 0, slots := 0, locals := 22 } : Room) s m args below meth c H locs 0 0 (MQ below (va_Qi (fun (r : Int32) (u : HI × HL) => zb r ∧ Q r u.1 u.2) (gB D cy ad s.heap.size) (gA ad s.heap.size)) args s 0 0 (gA ad s.heap.size)) (F0 m 0 ls []) := by
    intro H locs ls hG hl
    unfold w_X11_isOf at HW
    refine lv_aload_n hx hb dX11_isOf_0 rfl (lv_at hl 0 rfl) ?_
    refine lv_iload_n hx hb dX11_isOf_1 rfl (lv_at hl 1 rfl) ?_
    refine lv_iconst (v := 0) hx hb dX11_isOf_2 (by decide) ?_
    obtain ⟨P_3, HC_3, HW⟩ := HW
    refine g_calli (g_runV (As := [.int x1, .int (0 : Int32)]) (rest := []) ⟨hx, hb, hml, hown, hts⟩ (m_X11_sayOf l D cy ad h g H.size x1 (0 : Int32) P_3 HC_3) (cwV 2 hts (gd_V (wm5 213 rfl rfl) (wm5 215 rfl rfl) (wmp4 (q := (yX11_sayOf, 26)) 2 rfl) (wm1 13 rfl rfl) (wm5 216 rfl rfl)) rfl rfl rfl (by decide +kernel) ⟨Nat.le_of_ble_eq_true rfl, Nat.le_of_ble_eq_true rfl⟩) hK hNw hG gl_135 rfl gk_135 (by decide) rfl rfl hl.1 rfl (lv_room (Nat.le_of_ble_eq_true rfl)) dX11_isOf_3 ⟨Nat.zero_le _, Nat.zero_le _⟩) hG (fun r_3 h_3 g_3 H locs hq hG => ?_)
    replace HW := HW r_3 h_3 g_3 hq
    refine lv_iload_n hx hb dX11_isOf_6 rfl (lv_at hl 2 rfl) ?_
    refine lv_icmp_ne (tgt := 23) hx hb dX11_isOf_7 (by decide) (fun c_7 => ?_) (fun c_7 => ?_)
    · replace HW := HW.1 c_7
      refine lv_iconst (v := 0) hx hb dX11_isOf_23 (by decide) ?_
      exact W.zret (v := (0 : Int32)) hx hb hr rfl (fun t ht hW => ⟨⟨(0 : Int32), (h_3, g_3), rfl, ⟨Or.inl rfl, HW⟩, g_B ht hG⟩, hG.2.2.F ht⟩) hG.2.2.2.2 dX11_isOf_24
    · replace HW := HW.2 c_7
      refine lv_aload_n hx hb dX11_isOf_10 rfl (lv_at hl 0 rfl) ?_
      refine lv_iload_n hx hb dX11_isOf_11 rfl (lv_at hl 1 rfl) ?_
      refine lv_iconst (v := 5) hx hb dX11_isOf_12 (by decide) ?_
      obtain ⟨P_13, HC_13, HW⟩ := HW
      refine g_calli (g_runV (As := [.int x1, .int (5 : Int32)]) (rest := []) ⟨hx, hb, hml, hown, hts⟩ (m_X11_sayOf l D cy ad h_3 g_3 H.size x1 (5 : Int32) P_13 HC_13) (cwV 2 hts (gd_V (wm5 213 rfl rfl) (wm5 215 rfl rfl) (wmp4 (q := (yX11_sayOf, 26)) 2 rfl) (wm1 13 rfl rfl) (wm5 216 rfl rfl)) rfl rfl rfl (by decide +kernel) ⟨Nat.le_of_ble_eq_true rfl, Nat.le_of_ble_eq_true rfl⟩) hK hNw hG gl_135 rfl gk_135 (by decide) rfl rfl hl.1 rfl (lv_room (Nat.le_of_ble_eq_true rfl)) dX11_isOf_13 ⟨Nat.zero_le _, Nat.zero_le _⟩) hG (fun r_13 h_13 g_13 H locs hq hG => ?_)
      replace HW := HW r_13 h_13 g_13 hq
      refine lv_if_ne (tgt := 23) hx hb dX11_isOf_16 (by decide) (fun c_16 => ?_) (fun c_16 => ?_)
      · replace HW := HW.1 c_16
        refine lv_iconst (v := 0) hx hb dX11_isOf_23 (by decide) ?_
        exact W.zret (v := (0 : Int32)) hx hb hr rfl (fun t ht hW => ⟨⟨(0 : Int32), (h_13, g_13), rfl, ⟨Or.inl rfl, HW⟩, g_B ht hG⟩, hG.2.2.F ht⟩) hG.2.2.2.2 dX11_isOf_24
      · replace HW := HW.2 c_16
        refine lv_iconst (v := 1) hx hb dX11_isOf_19 (by decide) ?_
        refine lv_goto (tgt := 24) hx hb dX11_isOf_20 (by decide) ?_
        exact W.zret (v := (1 : Int32)) hx hb hr rfl (fun t ht hW => ⟨⟨(1 : Int32), (h_13, g_13), rfl, ⟨Or.inr rfl, HW⟩, g_B ht hG⟩, hG.2.2.F ht⟩) hG.2.2.2.2 dX11_isOf_24
  exact E0 _ _ _ hG hl

def j_X11_findFamily_84 (Q : HI → HL → Prop) (s1 : Int32) (h : HI) (g : HL) : Prop :=
  (∀ h_84 : HI, h_84 = hu h 135 13 s1 → Q h_84 g)
def j_X11_findFamily_56 (Q : HI → HL → Prop) (x2 : Int32) (s1 : Int32) (h : HI) (g : HL) : Prop :=
  (∀ h_56 : HI, h_56 = hu h 135 12 s1 → ((¬ x2 = (-1 : Int32) → (vp_in (((140 : Int32) + ((3 : Int32) * x2)) + (2 : Int32)) 887 ∧ j_X11_findFamily_84 Q (h_56 136 (((140 : Int32) + ((3 : Int32) * x2)) + (2 : Int32)).toNatClampNeg) h_56 g)) ∧ (x2 = (-1 : Int32) → j_X11_findFamily_84 Q (100000 : Int32) h_56 g)))
def j_X11_findFamily_29 (Q : HI → HL → Prop) (x2 : Int32) (s1 : Int32) (h : HI) (g : HL) : Prop :=
  (∀ h_29 : HI, h_29 = hu h 135 11 s1 → ((¬ x2 = (-1 : Int32) → (vp_in (((140 : Int32) + ((3 : Int32) * x2)) + (1 : Int32)) 887 ∧ j_X11_findFamily_56 Q x2 (h_29 136 (((140 : Int32) + ((3 : Int32) * x2)) + (1 : Int32)).toNatClampNeg) h_29 g)) ∧ (x2 = (-1 : Int32) → j_X11_findFamily_56 Q x2 (1 : Int32) h_29 g)))
def w_X11_findFamily (x1 : Int32) (h : HI) (g : HL) (Q : HI → HL → Prop) : Prop :=
  (∃ P_3 : Int32 → HI → HL → Prop, w_X11_partOf x1 (3 : Int32) h g P_3 ∧ ∀ (r_3 : Int32) (h_3 : HI) (g_3 : HL), P_3 r_3 h_3 g_3 → ((¬ r_3 = (-1 : Int32) → (vp_in ((140 : Int32) + ((3 : Int32) * r_3)) 887 ∧ j_X11_findFamily_29 Q r_3 (h_3 136 ((140 : Int32) + ((3 : Int32) * r_3)).toNatClampNeg) h_3 g_3)) ∧ (r_3 = (-1 : Int32) → j_X11_findFamily_29 Q r_3 (1 : Int32) h_3 g_3)))
set_option maxHeartbeats 8000000 in
set_option maxRecDepth 100000 in
theorem m_X11_findFamily (l : Launch) (D : va_G) (cy : Nat → ClassId) (ad : Nat → Nat) (h : HI) (g : HL) (sz : Nat) (x1 : Int32) (Q : HI → HL → Prop) (HW : w_X11_findFamily x1 h g Q) : Met l yX11_findFamily (wa yX11_findFamily cX11_findFamily 3 none) ({ frames := 1, cells := 0, slots := 0, locals := 22 }) (va_Pc [.ref (ad 135), .int x1] (gI D cy ad h g sz)) (va_Qv (fun (u : HI × HL) => Q u.1 u.2) (gB D cy ad sz) (gA ad sz)) 0 0 (gA ad sz) := by
  refine Met.ofW (cc := cX11_findFamily) (maxL := 3) (ret := none) (by decide) rfl ?_
  intro p e s m args below meth c s₁ B hml hv
  obtain ⟨hav, hsz, hP, hK, hD0, hNw⟩ := hv
  have hx := B.exec
  have hb := B.bytes
  have hr := B.returns
  have hts := atoms_spec (ws := (wa yX11_findFamily cX11_findFamily 3 none)) B.pre
  have hw := wa_hw hts
  have hown : s.vm.findClass RX11 = some m.cls := findClass_of_methodNamed B.named
  have hlocks := B.notSynchronized
  subst hsz
  have hG : gG D cy ad (gA ad s.heap.size) s.heap h g s.heap [] := ⟨hP, gA_self hD0, va_S.rf⟩
  clear hP hD0
  have lk7 := hw (.fieldLink RX11 7 "OldWorksModel" "st" "[I") (wm5 27 rfl rfl)
  have lk155 := hw (.fieldLink RX11 155 "OldWorksModel" "least" "I") (wm5 38 rfl rfl)
  have lk158 := hw (.fieldLink RX11 158 "OldWorksModel" "stride" "I") (wm5 39 rfl rfl)
  have cn52 := hw (.constant RX11 52 (100000)) (wm5 26 rfl rfl)
  have lk161 := hw (.fieldLink RX11 161 "OldWorksModel" "many" "I") (wm5 40 rfl rfl)
  rw [show (headSpec (wa yX11_findFamily cX11_findFamily 3 none) ({ frames := 1, cells := 0, slots := 0, locals := 22 } : Room)).room = ({ frames := 1, cells := 0, slots := 0, locals := 22 } : Room) from rfl]
  have hl := lv_entry ([.ref (ad 135), .int x1]) (n := 3) (Nat.le_of_ble_eq_true rfl)
  rw [show entryFrame m args 3 = entryFrame m ([.ref (ad 135), .int x1] : List Value).toArray 3 from by rw [hav], lg_entry_eq]
  generalize (lg_sl ([.ref (ad 135), .int x1]) ++ List.replicate (3 - (lg_sl ([.ref (ad 135), .int x1])).length) Slot.unset).toArray = ls at hl ⊢
  have hl : lv_has ls 3 [(0, .ref (ad 135)), (1, .int x1)] := hl
  have B84 : ∀ (s1 : Int32) (h : HI) (g : HL) (H : Heap) (locs : List Loc) (ls : Array Slot), j_X11_findFamily_84 Q s1 h g → gG D cy ad (gA ad s.heap.size) s.heap h g H locs → lv_has ls 3 [] → W p l e ({ frames := 1, cells := 0, slots := 0, locals := 22 } : Room) s m args below meth c H locs 0 0 (MQ below (va_Qv (fun (u : HI × HL) => Q u.1 u.2) (gB D cy ad s.heap.size) (gA ad s.heap.size)) args s 0 0 (gA ad s.heap.size)) (F0 m 84 ls [.int s1, .ref (ad 135)]) := by
    intro s1 h g H locs ls HW hG hl
    unfold j_X11_findFamily_84 at HW
    refine g_put hx hb hw inG11 tyX11 tyX11_ok nmX11 hown hK hG gl_135 rfl gk_135 (by decide) 13 (by decide) (by rw [gm_135]; decide) gr_135_13 rfl (ty := .int) (by decide +kernel) rfl rfl lk161 dX11_findFamily_84 (fun H locs hG => ?_)
    obtain ⟨h_84, eh_84⟩ : ∃ y : HI, y = hu h 135 13 s1 := ⟨_, rfl⟩
    rw [← eh_84] at hG
    replace HW := HW h_84 eh_84
    exact W.vret hx hb hr (fun t ht hW => ⟨⟨(h_84, g), rfl, HW, g_B ht hG⟩, hG.2.2.F ht⟩) hG.2.2.2.2 dX11_findFamily_87
  have B56 : ∀ (x2 : Int32) (s1 : Int32) (h : HI) (g : HL) (H : Heap) (locs : List Loc) (ls : Array Slot), j_X11_findFamily_56 Q x2 s1 h g → gG D cy ad (gA ad s.heap.size) s.heap h g H locs → lv_has ls 3 [(0, .ref (ad 135)), (2, .int x2)] → W p l e ({ frames := 1, cells := 0, slots := 0, locals := 22 } : Room) s m args below meth c H locs 0 0 (MQ below (va_Qv (fun (u : HI × HL) => Q u.1 u.2) (gB D cy ad s.heap.size) (gA ad s.heap.size)) args s 0 0 (gA ad s.heap.size)) (F0 m 56 ls [.int s1, .ref (ad 135)]) := by
    intro x2 s1 h g H locs ls HW hG hl
    unfold j_X11_findFamily_56 at HW
    refine g_put hx hb hw inG11 tyX11 tyX11_ok nmX11 hown hK hG gl_135 rfl gk_135 (by decide) 12 (by decide) (by rw [gm_135]; decide) gr_135_12 rfl (ty := .int) (by decide +kernel) rfl rfl lk158 dX11_findFamily_56 (fun H locs hG => ?_)
    obtain ⟨h_56, eh_56⟩ : ∃ y : HI, y = hu h 135 12 s1 := ⟨_, rfl⟩
    rw [← eh_56] at hG
    replace HW := HW h_56 eh_56
    refine lv_aload_n hx hb dX11_findFamily_59 rfl (lv_at hl 0 rfl) ?_
    refine lv_iload_n hx hb dX11_findFamily_60 rfl (lv_at hl 1 rfl) ?_
    refine lv_iconst (v := (-1)) hx hb dX11_findFamily_61 (by decide) ?_
    refine lv_icmp_ne (tgt := 70) hx hb dX11_findFamily_62 (by decide) (fun c_62 => ?_) (fun c_62 => ?_)
    · replace HW := HW.1 c_62
      refine lv_aload_n hx hb dX11_findFamily_70 rfl (lv_at hl 0 rfl) ?_
      refine g_getr hx hb hw inG11 hown hK hG gl_135 rfl gk_135 (by decide) 0 (by decide) (by rw [gm_135]; decide) (r := 136) gr_135_0 lk7 dX11_findFamily_71 ?_
      refine lv_sipush (v := 140) hx hb dX11_findFamily_74 (by decide) ?_
      refine lv_iconst (v := 3) hx hb dX11_findFamily_77 (by decide) ?_
      refine lv_iload_n hx hb dX11_findFamily_78 rfl (lv_at hl 1 rfl) ?_
      refine lv_imul hx hb dX11_findFamily_79 ?_
      refine lv_iadd hx hb dX11_findFamily_80 ?_
      refine lv_iconst (v := 2) hx hb dX11_findFamily_81 (by decide) ?_
      refine lv_iadd hx hb dX11_findFamily_82 ?_
      refine g_iald hx hb hK hG gl_136 gk_136 gn_136 HW.1 dX11_findFamily_83 ?_
      replace HW := HW.2
      exact B84 (h_56 136 (((140 : Int32) + ((3 : Int32) * x2)) + (2 : Int32)).toNatClampNeg) h_56 g _ _ _ HW hG (lv_sub hl [] rfl)
    · replace HW := HW.2 c_62
      refine lv_ldc (v := 100000) hx hb hown cn52 dX11_findFamily_65 ?_
      refine lv_goto (tgt := 84) hx hb dX11_findFamily_67 (by decide) ?_
      exact B84 (100000 : Int32) h_56 g _ _ _ HW hG (lv_sub hl [] rfl)
  have B29 : ∀ (x2 : Int32) (s1 : Int32) (h : HI) (g : HL) (H : Heap) (locs : List Loc) (ls : Array Slot), j_X11_findFamily_29 Q x2 s1 h g → gG D cy ad (gA ad s.heap.size) s.heap h g H locs → lv_has ls 3 [(0, .ref (ad 135)), (2, .int x2)] → W p l e ({ frames := 1, cells := 0, slots := 0, locals := 22 } : Room) s m args below meth c H locs 0 0 (MQ below (va_Qv (fun (u : HI × HL) => Q u.1 u.2) (gB D cy ad s.heap.size) (gA ad s.heap.size)) args s 0 0 (gA ad s.heap.size)) (F0 m 29 ls [.int s1, .ref (ad 135)]) := by
    intro x2 s1 h g H locs ls HW hG hl
    unfold j_X11_findFamily_29 at HW
    refine g_put hx hb hw inG11 tyX11 tyX11_ok nmX11 hown hK hG gl_135 rfl gk_135 (by decide) 11 (by decide) (by rw [gm_135]; decide) gr_135_11 rfl (ty := .int) (by decide +kernel) rfl rfl lk155 dX11_findFamily_29 (fun H locs hG => ?_)
    obtain ⟨h_29, eh_29⟩ : ∃ y : HI, y = hu h 135 11 s1 := ⟨_, rfl⟩
    rw [← eh_29] at hG
    replace HW := HW h_29 eh_29
    refine lv_aload_n hx hb dX11_findFamily_32 rfl (lv_at hl 0 rfl) ?_
    refine lv_iload_n hx hb dX11_findFamily_33 rfl (lv_at hl 1 rfl) ?_
    refine lv_iconst (v := (-1)) hx hb dX11_findFamily_34 (by decide) ?_
    refine lv_icmp_ne (tgt := 42) hx hb dX11_findFamily_35 (by decide) (fun c_35 => ?_) (fun c_35 => ?_)
    · replace HW := HW.1 c_35
      refine lv_aload_n hx hb dX11_findFamily_42 rfl (lv_at hl 0 rfl) ?_
      refine g_getr hx hb hw inG11 hown hK hG gl_135 rfl gk_135 (by decide) 0 (by decide) (by rw [gm_135]; decide) (r := 136) gr_135_0 lk7 dX11_findFamily_43 ?_
      refine lv_sipush (v := 140) hx hb dX11_findFamily_46 (by decide) ?_
      refine lv_iconst (v := 3) hx hb dX11_findFamily_49 (by decide) ?_
      refine lv_iload_n hx hb dX11_findFamily_50 rfl (lv_at hl 1 rfl) ?_
      refine lv_imul hx hb dX11_findFamily_51 ?_
      refine lv_iadd hx hb dX11_findFamily_52 ?_
      refine lv_iconst (v := 1) hx hb dX11_findFamily_53 (by decide) ?_
      refine lv_iadd hx hb dX11_findFamily_54 ?_
      refine g_iald hx hb hK hG gl_136 gk_136 gn_136 HW.1 dX11_findFamily_55 ?_
      replace HW := HW.2
      exact B56 x2 (h_29 136 (((140 : Int32) + ((3 : Int32) * x2)) + (1 : Int32)).toNatClampNeg) h_29 g _ _ _ HW hG (lv_sub hl [0, 1] rfl)
    · replace HW := HW.2 c_35
      refine lv_iconst (v := 1) hx hb dX11_findFamily_38 (by decide) ?_
      refine lv_goto (tgt := 56) hx hb dX11_findFamily_39 (by decide) ?_
      exact B56 x2 (1 : Int32) h_29 g _ _ _ HW hG (lv_sub hl [0, 1] rfl)
  have E0 : ∀ (H : Heap) (locs : List Loc) (ls : Array Slot), gG D cy ad (gA ad s.heap.size) s.heap h g H locs → lv_has ls 3 [(0, .ref (ad 135)), (1, .int x1)] → W p l e ({ frames := 1, cells := 0, slots := 0, locals := 22 } : Room) s m args below meth c H locs 0 0 (MQ below (va_Qv (fun (u : HI × HL) => Q u.1 u.2) (gB D cy ad s.heap.size) (gA ad s.heap.size)) args s 0 0 (gA ad s.heap.size)) (F0 m 0 ls []) := by
    intro H locs ls hG hl
    unfold w_X11_findFamily at HW
    refine lv_aload_n hx hb dX11_findFamily_0 rfl (lv_at hl 0 rfl) ?_
    refine lv_iload_n hx hb dX11_findFamily_1 rfl (lv_at hl 1 rfl) ?_
    refine lv_iconst (v := 3) hx hb dX11_findFamily_2 (by decide) ?_
    obtain ⟨P_3, HC_3, HW⟩ := HW
    refine g_calli (g_runV (As := [.int x1, .int (3 : Int32)]) (rest := []) ⟨hx, hb, hml, hown, hts⟩ (m_X11_partOf l D cy ad h g H.size x1 (3 : Int32) P_3 HC_3) (cwV 2 hts (gd_V (wm5 192 rfl rfl) (wm5 194 rfl rfl) (wmp4 (q := (yX11_partOf, 26)) 0 rfl) (wm1 13 rfl rfl) (wm5 195 rfl rfl)) rfl rfl rfl (by decide +kernel) ⟨Nat.le_of_ble_eq_true rfl, Nat.le_of_ble_eq_true rfl⟩) hK hNw hG gl_135 rfl gk_135 (by decide) rfl rfl hl.1 rfl (lv_room (Nat.le_of_ble_eq_true rfl)) dX11_findFamily_3 ⟨Nat.zero_le _, Nat.zero_le _⟩) hG (fun r_3 h_3 g_3 H locs hq hG => ?_)
    replace HW := HW r_3 h_3 g_3 hq
    refine lv_istore_n (lv' := [(2, .int r_3), (0, .ref (ad 135)), (1, .int x1)]) hx hb dX11_findFamily_6 rfl hl (by decide) rfl (fun ls hl => ?_)
    refine lv_aload_n hx hb dX11_findFamily_7 rfl (lv_at hl 1 rfl) ?_
    refine lv_iload_n hx hb dX11_findFamily_8 rfl (lv_at hl 0 rfl) ?_
    refine lv_iconst (v := (-1)) hx hb dX11_findFamily_9 (by decide) ?_
    refine lv_icmp_ne (tgt := 17) hx hb dX11_findFamily_10 (by decide) (fun c_10 => ?_) (fun c_10 => ?_)
    · replace HW := HW.1 c_10
      refine lv_aload_n hx hb dX11_findFamily_17 rfl (lv_at hl 1 rfl) ?_
      refine g_getr hx hb hw inG11 hown hK hG gl_135 rfl gk_135 (by decide) 0 (by decide) (by rw [gm_135]; decide) (r := 136) gr_135_0 lk7 dX11_findFamily_18 ?_
      refine lv_sipush (v := 140) hx hb dX11_findFamily_21 (by decide) ?_
      refine lv_iconst (v := 3) hx hb dX11_findFamily_24 (by decide) ?_
      refine lv_iload_n hx hb dX11_findFamily_25 rfl (lv_at hl 0 rfl) ?_
      refine lv_imul hx hb dX11_findFamily_26 ?_
      refine lv_iadd hx hb dX11_findFamily_27 ?_
      refine g_iald hx hb hK hG gl_136 gk_136 gn_136 HW.1 dX11_findFamily_28 ?_
      replace HW := HW.2
      exact B29 r_3 (h_3 136 ((140 : Int32) + ((3 : Int32) * r_3)).toNatClampNeg) h_3 g_3 _ _ _ HW hG (lv_sub hl [1, 0] rfl)
    · replace HW := HW.2 c_10
      refine lv_iconst (v := 1) hx hb dX11_findFamily_13 (by decide) ?_
      refine lv_goto (tgt := 29) hx hb dX11_findFamily_14 (by decide) ?_
      exact B29 r_3 (1 : Int32) h_3 g_3 _ _ _ HW hG (lv_sub hl [1, 0] rfl)
  exact E0 _ _ _ hG hl

def w_X11_numberFrom (x1 : Int32) (h : HI) (g : HL) (Q : Int32 → HI → HL → Prop) : Prop :=
  (((h 135 11) < x1 → (¬ (h 135 12) = 0 ∧ Q ((((x1 - (h 135 11)) + (h 135 12)) - (1 : Int32)) / (h 135 12)) h g)) ∧ (¬ (h 135 11) < x1 → Q (0 : Int32) h g))
set_option maxHeartbeats 8000000 in
set_option maxRecDepth 100000 in
theorem m_X11_numberFrom (l : Launch) (D : va_G) (cy : Nat → ClassId) (ad : Nat → Nat) (h : HI) (g : HL) (sz : Nat) (x1 : Int32) (Q : Int32 → HI → HL → Prop) (HW : w_X11_numberFrom x1 h g Q) : Met l yX11_numberFrom (wa yX11_numberFrom cX11_numberFrom 2 (some .int)) ({ frames := 0, cells := 0, slots := 0, locals := 0 }) (va_Pc [.ref (ad 135), .int x1] (gI D cy ad h g sz)) (va_Qi (fun (r : Int32) (u : HI × HL) => Q r u.1 u.2) (gB D cy ad sz) (gA ad sz)) 0 0 (gA ad sz) := by
  refine Met.ofW (cc := cX11_numberFrom) (maxL := 2) (ret := (some .int)) (by decide) rfl ?_
  intro p e s m args below meth c s₁ B hml hv
  obtain ⟨hav, hsz, hP, hK, hD0, hNw⟩ := hv
  have hx := B.exec
  have hb := B.bytes
  have hr := B.returns
  have hts := atoms_spec (ws := (wa yX11_numberFrom cX11_numberFrom 2 (some .int))) B.pre
  have hw := wa_hw hts
  have hown : s.vm.findClass RX11 = some m.cls := findClass_of_methodNamed B.named
  have hlocks := B.notSynchronized
  subst hsz
  have hG : gG D cy ad (gA ad s.heap.size) s.heap h g s.heap [] := ⟨hP, gA_self hD0, va_S.rf⟩
  clear hP hD0
  have lk155 := hw (.fieldLink RX11 155 "OldWorksModel" "least" "I") (wm5 38 rfl rfl)
  have lk158 := hw (.fieldLink RX11 158 "OldWorksModel" "stride" "I") (wm5 39 rfl rfl)
  rw [show (headSpec (wa yX11_numberFrom cX11_numberFrom 2 (some .int)) ({ frames := 0, cells := 0, slots := 0, locals := 0 } : Room)).room = ({ frames := 0, cells := 0, slots := 0, locals := 0 } : Room) from rfl]
  have hl := lv_entry ([.ref (ad 135), .int x1]) (n := 2) (Nat.le_of_ble_eq_true rfl)
  rw [show entryFrame m args 2 = entryFrame m ([.ref (ad 135), .int x1] : List Value).toArray 2 from by rw [hav], lg_entry_eq]
  generalize (lg_sl ([.ref (ad 135), .int x1]) ++ List.replicate (2 - (lg_sl ([.ref (ad 135), .int x1])).length) Slot.unset).toArray = ls at hl ⊢
  have hl : lv_has ls 2 [(0, .ref (ad 135)), (1, .int x1)] := hl
  have E0 : ∀ (H : Heap) (locs : List Loc) (ls : Array Slot), gG D cy ad (gA ad s.heap.size) s.heap h g H locs → lv_has ls 2 [(0, .ref (ad 135)), (1, .int x1)] → W p l e ({ frames := 0, cells := 0, slots := 0, locals := 0 } : Room) s m args below meth c H locs 0 0 (MQ below (va_Qi (fun (r : Int32) (u : HI × HL) => Q r u.1 u.2) (gB D cy ad s.heap.size) (gA ad s.heap.size)) args s 0 0 (gA ad s.heap.size)) (F0 m 0 ls []) := by
    intro H locs ls hG hl
    unfold w_X11_numberFrom at HW
    refine lv_iload_n hx hb dX11_numberFrom_0 rfl (lv_at hl 1 rfl) ?_
    refine lv_aload_n hx hb dX11_numberFrom_1 rfl (lv_at hl 0 rfl) ?_
    refine g_geti hx hb hw inG11 hown hK hG gl_135 rfl gk_135 (by decide) 11 (by decide) (by rw [gm_135]; decide) gr_135_11 lk155 dX11_numberFrom_2 ?_
    refine lv_icmp_gt (tgt := 12) hx hb dX11_numberFrom_5 (by decide) (fun c_5 => ?_) (fun c_5 => ?_)
    · replace HW := HW.1 c_5
      refine lv_iload_n hx hb dX11_numberFrom_12 rfl (lv_at hl 1 rfl) ?_
      refine lv_aload_n hx hb dX11_numberFrom_13 rfl (lv_at hl 0 rfl) ?_
      refine g_geti hx hb hw inG11 hown hK hG gl_135 rfl gk_135 (by decide) 11 (by decide) (by rw [gm_135]; decide) gr_135_11 lk155 dX11_numberFrom_14 ?_
      refine lv_isub hx hb dX11_numberFrom_17 ?_
      refine lv_aload_n hx hb dX11_numberFrom_18 rfl (lv_at hl 0 rfl) ?_
      refine g_geti hx hb hw inG11 hown hK hG gl_135 rfl gk_135 (by decide) 12 (by decide) (by rw [gm_135]; decide) gr_135_12 lk158 dX11_numberFrom_19 ?_
      refine lv_iadd hx hb dX11_numberFrom_22 ?_
      refine lv_iconst (v := 1) hx hb dX11_numberFrom_23 (by decide) ?_
      refine lv_isub hx hb dX11_numberFrom_24 ?_
      refine lv_aload_n hx hb dX11_numberFrom_25 rfl (lv_at hl 0 rfl) ?_
      refine g_geti hx hb hw inG11 hown hK hG gl_135 rfl gk_135 (by decide) 12 (by decide) (by rw [gm_135]; decide) gr_135_12 lk158 dX11_numberFrom_26 ?_
      refine lv_idiv hx hb dX11_numberFrom_29 HW.1 ?_
      replace HW := HW.2
      exact W.iret (v := ((((x1 - (h 135 11)) + (h 135 12)) - (1 : Int32)) / (h 135 12))) hx hb hr (fun t ht hW => ⟨⟨((((x1 - (h 135 11)) + (h 135 12)) - (1 : Int32)) / (h 135 12)), (h, g), rfl, HW, g_B ht hG⟩, hG.2.2.F ht⟩) hG.2.2.2.2 dX11_numberFrom_30
    · replace HW := HW.2 c_5
      refine lv_iconst (v := 0) hx hb dX11_numberFrom_8 (by decide) ?_
      refine lv_goto (tgt := 30) hx hb dX11_numberFrom_9 (by decide) ?_
      exact W.iret (v := (0 : Int32)) hx hb hr (fun t ht hW => ⟨⟨(0 : Int32), (h, g), rfl, HW, g_B ht hG⟩, hG.2.2.F ht⟩) hG.2.2.2.2 dX11_numberFrom_30
  exact E0 _ _ _ hG hl

def j_X11_findFirst_137 (Q : HI → HL → Prop) (s1 : Int32) (h : HI) (g : HL) : Prop :=
  (∀ h_137 : HI, h_137 = hu h 135 15 s1 → Q h_137 g)
def j_X11_findFirst_111 (Q : HI → HL → Prop) (K17 : Int32 → Int32 → Int32 → Int32 → HI → HL → Prop) (x1 : Int32) (x2 : Int32) (x3 : Int32) (x4 : Int32) (h : HI) (g : HL) : Prop :=
  (∀ x4_111 : Int32, x4_111 = (x4 + 1) → K17 x1 x2 x3 x4_111 h g)
def j_X11_findFirst_110 (Q : HI → HL → Prop) (K17 : Int32 → Int32 → Int32 → Int32 → HI → HL → Prop) (x1 : Int32) (x2 : Int32) (x4 : Int32) (s0 : Int32) (h : HI) (g : HL) : Prop :=
  j_X11_findFirst_111 Q K17 x1 x2 s0 x4 h g
def j_X11_findFirst_97 (Q : HI → HL → Prop) (K17 : Int32 → Int32 → Int32 → Int32 → HI → HL → Prop) (x1 : Int32) (x3 : Int32) (x4 : Int32) (x6 : Int32) (s0 : Int32) (h : HI) (g : HL) : Prop :=
  ((x3 ≤ x6 → j_X11_findFirst_110 Q K17 x1 s0 x4 x3 h g) ∧ (¬ x3 ≤ x6 → j_X11_findFirst_110 Q K17 x1 s0 x4 x6 h g))
def j_X11_findFirst_83 (Q : HI → HL → Prop) (K17 : Int32 → Int32 → Int32 → Int32 → HI → HL → Prop) (x1 : Int32) (x2 : Int32) (x3 : Int32) (x4 : Int32) (x5 : Int32) (s0 : Int32) (h : HI) (g : HL) : Prop :=
  ((x5 ≤ x2 → j_X11_findFirst_97 Q K17 x1 x3 x4 s0 x2 h g) ∧ (¬ x5 ≤ x2 → j_X11_findFirst_97 Q K17 x1 x3 x4 s0 x5 h g))
def b_X11_findFirst_17 (Q : HI → HL → Prop) (K17 : Int32 → Int32 → Int32 → Int32 → HI → HL → Prop) (x1 : Int32) (x2 : Int32) (x3 : Int32) (x4 : Int32) (h : HI) (g : HL) : Prop :=
  (vp_in (1 : Int32) 887 ∧ (((h 136 (1 : Int32).toNatClampNeg) ≤ x4 → (∀ h_119 : HI, h_119 = hu h 135 14 x2 → ((x2 ≤ x3 → j_X11_findFirst_137 Q ((x3 - x2) + (1 : Int32)) h_119 g) ∧ (¬ x2 ≤ x3 → j_X11_findFirst_137 Q (0 : Int32) h_119 g)))) ∧ (¬ (h 136 (1 : Int32).toNatClampNeg) ≤ x4 → (∃ P_32 : Int32 → HI → HL → Prop, w_X11_isOf x4 x1 h g P_32 ∧ ∀ (r_32 : Int32) (h_32 : HI) (g_32 : HL), zb r_32 → P_32 r_32 h_32 g_32 → ((r_32 = 0 → j_X11_findFirst_111 Q K17 x1 x2 x3 x4 h_32 g_32) ∧ (¬ r_32 = 0 → (∃ P_41 : HI → HL → Prop, w_X11_lets x4 h_32 g_32 P_41 ∧ ∀ (h_41 : HI) (g_41 : HL), P_41 h_41 g_41 → (∃ P_49 : Int32 → HI → HL → Prop, w_X11_numberFrom (h_41 135 9) h_41 g_41 P_49 ∧ ∀ (r_49 : Int32) (h_49 : HI) (g_49 : HL), P_49 r_49 h_49 g_49 → (((h_49 135 11) ≤ (h_49 135 10) → (¬ (h_49 135 12) = 0 ∧ j_X11_findFirst_83 Q K17 x1 x2 x3 x4 r_49 (((h_49 135 10) - (h_49 135 11)) / (h_49 135 12)) h_49 g_49)) ∧ (¬ (h_49 135 11) ≤ (h_49 135 10) → j_X11_findFirst_83 Q K17 x1 x2 x3 x4 r_49 (-1 : Int32) h_49 g_49))))))))))
def F_X11_findFirst_17 (Q : HI → HL → Prop) (K : Int32 × Int32 × Int32 × Int32 × HI × HL → Prop) (q : Int32 × Int32 × Int32 × Int32 × HI × HL) : Prop := b_X11_findFirst_17 Q (fun x1 x2 x3 x4 h g => K (x1, x2, x3, x4, h, g)) q.1 q.2.1 q.2.2.1 q.2.2.2.1 q.2.2.2.2.1 q.2.2.2.2.2
def w_X11_findFirst (x1 : Int32) (h : HI) (g : HL) (Q : HI → HL → Prop) : Prop :=
  (∃ P_2 : HI → HL → Prop, w_X11_findFamily x1 h g P_2 ∧ ∀ (h_2 : HI) (g_2 : HL), P_2 h_2 g_2 → (∀ x3_13 : Int32, x3_13 = ((h_2 135 13) - (1 : Int32)) → lpE (F_X11_findFirst_17 Q) (x1, (0 : Int32), x3_13, (0 : Int32), h_2, g_2)))
set_option maxHeartbeats 8000000 in
set_option maxRecDepth 100000 in
theorem m_X11_findFirst (l : Launch) (D : va_G) (cy : Nat → ClassId) (ad : Nat → Nat) (h : HI) (g : HL) (sz : Nat) (x1 : Int32) (Q : HI → HL → Prop) (HW : w_X11_findFirst x1 h g Q) : Met l yX11_findFirst (wa yX11_findFirst cX11_findFirst 7 none) ({ frames := 6, cells := 0, slots := 0, locals := 140 }) (va_Pc [.ref (ad 135), .int x1] (gI D cy ad h g sz)) (va_Qv (fun (u : HI × HL) => Q u.1 u.2) (gB D cy ad sz) (gA ad sz)) 0 0 (gA ad sz) := by
  refine Met.ofW (cc := cX11_findFirst) (maxL := 7) (ret := none) (by decide) rfl ?_
  intro p e s m args below meth c s₁ B hml hv
  obtain ⟨hav, hsz, hP, hK, hD0, hNw⟩ := hv
  have hx := B.exec
  have hb := B.bytes
  have hr := B.returns
  have hts := atoms_spec (ws := (wa yX11_findFirst cX11_findFirst 7 none)) B.pre
  have hw := wa_hw hts
  have hown : s.vm.findClass RX11 = some m.cls := findClass_of_methodNamed B.named
  have hlocks := B.notSynchronized
  subst hsz
  have hG : gG D cy ad (gA ad s.heap.size) s.heap h g s.heap [] := ⟨hP, gA_self hD0, va_S.rf⟩
  clear hP hD0
  have lk161 := hw (.fieldLink RX11 161 "OldWorksModel" "many" "I") (wm5 40 rfl rfl)
  have lk7 := hw (.fieldLink RX11 7 "OldWorksModel" "st" "[I") (wm5 27 rfl rfl)
  have lk176 := hw (.fieldLink RX11 176 "OldWorksModel" "firstNumber" "I") (wm5 41 rfl rfl)
  have lk148 := hw (.fieldLink RX11 148 "OldWorksModel" "low" "I") (wm5 36 rfl rfl)
  have lk152 := hw (.fieldLink RX11 152 "OldWorksModel" "high" "I") (wm5 37 rfl rfl)
  have lk155 := hw (.fieldLink RX11 155 "OldWorksModel" "least" "I") (wm5 38 rfl rfl)
  have lk158 := hw (.fieldLink RX11 158 "OldWorksModel" "stride" "I") (wm5 39 rfl rfl)
  have lk179 := hw (.fieldLink RX11 179 "OldWorksModel" "firstMany" "I") (wm5 42 rfl rfl)
  rw [show (headSpec (wa yX11_findFirst cX11_findFirst 7 none) ({ frames := 6, cells := 0, slots := 0, locals := 140 } : Room)).room = ({ frames := 6, cells := 0, slots := 0, locals := 140 } : Room) from rfl]
  have hl := lv_entry ([.ref (ad 135), .int x1]) (n := 7) (Nat.le_of_ble_eq_true rfl)
  rw [show entryFrame m args 7 = entryFrame m ([.ref (ad 135), .int x1] : List Value).toArray 7 from by rw [hav], lg_entry_eq]
  generalize (lg_sl ([.ref (ad 135), .int x1]) ++ List.replicate (7 - (lg_sl ([.ref (ad 135), .int x1])).length) Slot.unset).toArray = ls at hl ⊢
  have hl : lv_has ls 7 [(0, .ref (ad 135)), (1, .int x1)] := hl
  have B137 : ∀ (s1 : Int32) (h : HI) (g : HL) (H : Heap) (locs : List Loc) (ls : Array Slot), j_X11_findFirst_137 Q s1 h g → gG D cy ad (gA ad s.heap.size) s.heap h g H locs → lv_has ls 7 [] → W p l e ({ frames := 6, cells := 0, slots := 0, locals := 140 } : Room) s m args below meth c H locs 0 0 (MQ below (va_Qv (fun (u : HI × HL) => Q u.1 u.2) (gB D cy ad s.heap.size) (gA ad s.heap.size)) args s 0 0 (gA ad s.heap.size)) (F0 m 137 ls [.int s1, .ref (ad 135)]) := by
    intro s1 h g H locs ls HW hG hl
    unfold j_X11_findFirst_137 at HW
    refine g_put hx hb hw inG11 tyX11 tyX11_ok nmX11 hown hK hG gl_135 rfl gk_135 (by decide) 15 (by decide) (by rw [gm_135]; decide) gr_135_15 rfl (ty := .int) (by decide +kernel) rfl rfl lk179 dX11_findFirst_137 (fun H locs hG => ?_)
    obtain ⟨h_137, eh_137⟩ : ∃ y : HI, y = hu h 135 15 s1 := ⟨_, rfl⟩
    rw [← eh_137] at hG
    replace HW := HW h_137 eh_137
    exact W.vret hx hb hr (fun t ht hW => ⟨⟨(h_137, g), rfl, HW, g_B ht hG⟩, hG.2.2.F ht⟩) hG.2.2.2.2 dX11_findFirst_140
  have B111 : ∀ (K17 : Int32 → Int32 → Int32 → Int32 → HI → HL → Prop) (hK17 : ∀ (x1 : Int32) (x2 : Int32) (x3 : Int32) (x4 : Int32) (h : HI) (g : HL) (H : Heap) (locs : List Loc) (ls : Array Slot), K17 x1 x2 x3 x4 h g → gG D cy ad (gA ad s.heap.size) s.heap h g H locs → lv_has ls 7 [(0, .ref (ad 135)), (1, .int x1), (2, .int x2), (3, .int x3), (4, .int x4)] → W p l e ({ frames := 6, cells := 0, slots := 0, locals := 140 } : Room) s m args below meth c H locs 0 0 (MQ below (va_Qv (fun (u : HI × HL) => Q u.1 u.2) (gB D cy ad s.heap.size) (gA ad s.heap.size)) args s 0 0 (gA ad s.heap.size)) (F0 m 17 ls [])) (x1 : Int32) (x2 : Int32) (x3 : Int32) (x4 : Int32) (h : HI) (g : HL) (H : Heap) (locs : List Loc) (ls : Array Slot), j_X11_findFirst_111 Q K17 x1 x2 x3 x4 h g → gG D cy ad (gA ad s.heap.size) s.heap h g H locs → lv_has ls 7 [(0, .ref (ad 135)), (1, .int x1), (2, .int x2), (3, .int x3), (4, .int x4)] → W p l e ({ frames := 6, cells := 0, slots := 0, locals := 140 } : Room) s m args below meth c H locs 0 0 (MQ below (va_Qv (fun (u : HI × HL) => Q u.1 u.2) (gB D cy ad s.heap.size) (gA ad s.heap.size)) args s 0 0 (gA ad s.heap.size)) (F0 m 111 ls []) := by
    intro K17 hK17 x1 x2 x3 x4 h g H locs ls HW hG hl
    unfold j_X11_findFirst_111 at HW
    obtain ⟨x4_111, ex4_111⟩ : ∃ y : Int32, y = (x4 + 1) := ⟨_, rfl⟩
    replace HW := HW x4_111 ex4_111
    refine lv_iinc (v := x4_111) (lv' := [(4, .int x4_111), (0, .ref (ad 135)), (1, .int x1), (2, .int x2), (3, .int x3)]) hx hb dX11_findFirst_111 hl (k := 4) rfl (by rw [ex4_111]; rfl) (by decide) rfl (fun ls hl => ?_)
    refine lv_goto (tgt := 17) hx hb dX11_findFirst_114 (by decide) ?_
    exact hK17 x1 x2 x3 x4_111 h g _ _ _ HW hG (lv_sub hl [1, 2, 3, 4, 0] rfl)
  have B110 : ∀ (K17 : Int32 → Int32 → Int32 → Int32 → HI → HL → Prop) (hK17 : ∀ (x1 : Int32) (x2 : Int32) (x3 : Int32) (x4 : Int32) (h : HI) (g : HL) (H : Heap) (locs : List Loc) (ls : Array Slot), K17 x1 x2 x3 x4 h g → gG D cy ad (gA ad s.heap.size) s.heap h g H locs → lv_has ls 7 [(0, .ref (ad 135)), (1, .int x1), (2, .int x2), (3, .int x3), (4, .int x4)] → W p l e ({ frames := 6, cells := 0, slots := 0, locals := 140 } : Room) s m args below meth c H locs 0 0 (MQ below (va_Qv (fun (u : HI × HL) => Q u.1 u.2) (gB D cy ad s.heap.size) (gA ad s.heap.size)) args s 0 0 (gA ad s.heap.size)) (F0 m 17 ls [])) (x1 : Int32) (x2 : Int32) (x4 : Int32) (s0 : Int32) (h : HI) (g : HL) (H : Heap) (locs : List Loc) (ls : Array Slot), j_X11_findFirst_110 Q K17 x1 x2 x4 s0 h g → gG D cy ad (gA ad s.heap.size) s.heap h g H locs → lv_has ls 7 [(0, .ref (ad 135)), (1, .int x1), (2, .int x2), (4, .int x4)] → W p l e ({ frames := 6, cells := 0, slots := 0, locals := 140 } : Room) s m args below meth c H locs 0 0 (MQ below (va_Qv (fun (u : HI × HL) => Q u.1 u.2) (gB D cy ad s.heap.size) (gA ad s.heap.size)) args s 0 0 (gA ad s.heap.size)) (F0 m 110 ls [.int s0]) := by
    intro K17 hK17 x1 x2 x4 s0 h g H locs ls HW hG hl
    unfold j_X11_findFirst_110 at HW
    refine lv_istore_n (lv' := [(3, .int s0), (0, .ref (ad 135)), (1, .int x1), (2, .int x2), (4, .int x4)]) hx hb dX11_findFirst_110 rfl hl (by decide) rfl (fun ls hl => ?_)
    exact B111 K17 hK17 x1 x2 s0 x4 h g _ _ _ HW hG (lv_sub hl [1, 2, 3, 0, 4] rfl)
  have B97 : ∀ (K17 : Int32 → Int32 → Int32 → Int32 → HI → HL → Prop) (hK17 : ∀ (x1 : Int32) (x2 : Int32) (x3 : Int32) (x4 : Int32) (h : HI) (g : HL) (H : Heap) (locs : List Loc) (ls : Array Slot), K17 x1 x2 x3 x4 h g → gG D cy ad (gA ad s.heap.size) s.heap h g H locs → lv_has ls 7 [(0, .ref (ad 135)), (1, .int x1), (2, .int x2), (3, .int x3), (4, .int x4)] → W p l e ({ frames := 6, cells := 0, slots := 0, locals := 140 } : Room) s m args below meth c H locs 0 0 (MQ below (va_Qv (fun (u : HI × HL) => Q u.1 u.2) (gB D cy ad s.heap.size) (gA ad s.heap.size)) args s 0 0 (gA ad s.heap.size)) (F0 m 17 ls [])) (x1 : Int32) (x3 : Int32) (x4 : Int32) (x6 : Int32) (s0 : Int32) (h : HI) (g : HL) (H : Heap) (locs : List Loc) (ls : Array Slot), j_X11_findFirst_97 Q K17 x1 x3 x4 x6 s0 h g → gG D cy ad (gA ad s.heap.size) s.heap h g H locs → lv_has ls 7 [(0, .ref (ad 135)), (1, .int x1), (3, .int x3), (4, .int x4), (6, .int x6)] → W p l e ({ frames := 6, cells := 0, slots := 0, locals := 140 } : Room) s m args below meth c H locs 0 0 (MQ below (va_Qv (fun (u : HI × HL) => Q u.1 u.2) (gB D cy ad s.heap.size) (gA ad s.heap.size)) args s 0 0 (gA ad s.heap.size)) (F0 m 97 ls [.int s0]) := by
    intro K17 hK17 x1 x3 x4 x6 s0 h g H locs ls HW hG hl
    unfold j_X11_findFirst_97 at HW
    refine lv_istore_n (lv' := [(2, .int s0), (0, .ref (ad 135)), (1, .int x1), (3, .int x3), (4, .int x4), (6, .int x6)]) hx hb dX11_findFirst_97 rfl hl (by decide) rfl (fun ls hl => ?_)
    refine lv_iload hx hb dX11_findFirst_98 (lv_at hl 5 rfl) ?_
    refine lv_iload_n hx hb dX11_findFirst_100 rfl (lv_at hl 3 rfl) ?_
    refine lv_icmp_ge (tgt := 109) hx hb dX11_findFirst_101 (by decide) (fun c_101 => ?_) (fun c_101 => ?_)
    · replace HW := HW.1 c_101
      refine lv_iload_n hx hb dX11_findFirst_109 rfl (lv_at hl 3 rfl) ?_
      exact B110 K17 hK17 x1 s0 x4 x3 h g _ _ _ HW hG (lv_sub hl [1, 2, 0, 4] rfl)
    · replace HW := HW.2 c_101
      refine lv_iload hx hb dX11_findFirst_104 (lv_at hl 5 rfl) ?_
      refine lv_goto (tgt := 110) hx hb dX11_findFirst_106 (by decide) ?_
      exact B110 K17 hK17 x1 s0 x4 x6 h g _ _ _ HW hG (lv_sub hl [1, 2, 0, 4] rfl)
  have B83 : ∀ (K17 : Int32 → Int32 → Int32 → Int32 → HI → HL → Prop) (hK17 : ∀ (x1 : Int32) (x2 : Int32) (x3 : Int32) (x4 : Int32) (h : HI) (g : HL) (H : Heap) (locs : List Loc) (ls : Array Slot), K17 x1 x2 x3 x4 h g → gG D cy ad (gA ad s.heap.size) s.heap h g H locs → lv_has ls 7 [(0, .ref (ad 135)), (1, .int x1), (2, .int x2), (3, .int x3), (4, .int x4)] → W p l e ({ frames := 6, cells := 0, slots := 0, locals := 140 } : Room) s m args below meth c H locs 0 0 (MQ below (va_Qv (fun (u : HI × HL) => Q u.1 u.2) (gB D cy ad s.heap.size) (gA ad s.heap.size)) args s 0 0 (gA ad s.heap.size)) (F0 m 17 ls [])) (x1 : Int32) (x2 : Int32) (x3 : Int32) (x4 : Int32) (x5 : Int32) (s0 : Int32) (h : HI) (g : HL) (H : Heap) (locs : List Loc) (ls : Array Slot), j_X11_findFirst_83 Q K17 x1 x2 x3 x4 x5 s0 h g → gG D cy ad (gA ad s.heap.size) s.heap h g H locs → lv_has ls 7 [(0, .ref (ad 135)), (1, .int x1), (2, .int x2), (3, .int x3), (4, .int x4), (5, .int x5)] → W p l e ({ frames := 6, cells := 0, slots := 0, locals := 140 } : Room) s m args below meth c H locs 0 0 (MQ below (va_Qv (fun (u : HI × HL) => Q u.1 u.2) (gB D cy ad s.heap.size) (gA ad s.heap.size)) args s 0 0 (gA ad s.heap.size)) (F0 m 83 ls [.int s0]) := by
    intro K17 hK17 x1 x2 x3 x4 x5 s0 h g H locs ls HW hG hl
    unfold j_X11_findFirst_83 at HW
    refine lv_istore (lv' := [(6, .int s0), (0, .ref (ad 135)), (1, .int x1), (2, .int x2), (3, .int x3), (4, .int x4), (5, .int x5)]) hx hb dX11_findFirst_83 hl (by decide) rfl (fun ls hl => ?_)
    refine lv_iload hx hb dX11_findFirst_85 (lv_at hl 6 rfl) ?_
    refine lv_iload_n hx hb dX11_findFirst_87 rfl (lv_at hl 3 rfl) ?_
    refine lv_icmp_le (tgt := 96) hx hb dX11_findFirst_88 (by decide) (fun c_88 => ?_) (fun c_88 => ?_)
    · replace HW := HW.1 c_88
      refine lv_iload_n hx hb dX11_findFirst_96 rfl (lv_at hl 3 rfl) ?_
      exact B97 K17 hK17 x1 x3 x4 s0 x2 h g _ _ _ HW hG (lv_sub hl [1, 2, 4, 5, 0] rfl)
    · replace HW := HW.2 c_88
      refine lv_iload hx hb dX11_findFirst_91 (lv_at hl 6 rfl) ?_
      refine lv_goto (tgt := 97) hx hb dX11_findFirst_93 (by decide) ?_
      exact B97 K17 hK17 x1 x3 x4 s0 x5 h g _ _ _ HW hG (lv_sub hl [1, 2, 4, 5, 0] rfl)
  have L17 : ∀ (n : Nat) (x1 : Int32) (x2 : Int32) (x3 : Int32) (x4 : Int32) (h : HI) (g : HL) (H : Heap) (locs : List Loc) (ls : Array Slot), lpN (F_X11_findFirst_17 Q) n (x1, x2, x3, x4, h, g) → gG D cy ad (gA ad s.heap.size) s.heap h g H locs → lv_has ls 7 [(0, .ref (ad 135)), (1, .int x1), (2, .int x2), (3, .int x3), (4, .int x4)] → W p l e ({ frames := 6, cells := 0, slots := 0, locals := 140 } : Room) s m args below meth c H locs 0 0 (MQ below (va_Qv (fun (u : HI × HL) => Q u.1 u.2) (gB D cy ad s.heap.size) (gA ad s.heap.size)) args s 0 0 (gA ad s.heap.size)) (F0 m 17 ls []) := by
    intro n
    induction n with
    | zero => intro x1 x2 x3 x4 h g H locs ls HW; exact HW.elim
    | succ n ih =>
      intro x1 x2 x3 x4 h g H locs ls HW hG hl
      have HW : b_X11_findFirst_17 Q (fun x1 x2 x3 x4 h g => lpN (F_X11_findFirst_17 Q) n (x1, x2, x3, x4, h, g)) x1 x2 x3 x4 h g := HW
      generalize hKe : (fun (x1 : Int32) (x2 : Int32) (x3 : Int32) (x4 : Int32) (h : HI) (g : HL) => lpN (F_X11_findFirst_17 Q) n (x1, x2, x3, x4, h, g)) = K17 at HW
      have hK17 : ∀ (x1 : Int32) (x2 : Int32) (x3 : Int32) (x4 : Int32) (h : HI) (g : HL) (H : Heap) (locs : List Loc) (ls : Array Slot), K17 x1 x2 x3 x4 h g → gG D cy ad (gA ad s.heap.size) s.heap h g H locs → lv_has ls 7 [(0, .ref (ad 135)), (1, .int x1), (2, .int x2), (3, .int x3), (4, .int x4)] → W p l e ({ frames := 6, cells := 0, slots := 0, locals := 140 } : Room) s m args below meth c H locs 0 0 (MQ below (va_Qv (fun (u : HI × HL) => Q u.1 u.2) (gB D cy ad s.heap.size) (gA ad s.heap.size)) args s 0 0 (gA ad s.heap.size)) (F0 m 17 ls []) := by subst hKe; exact ih
      clear ih
      clear hKe
      unfold b_X11_findFirst_17 at HW
      refine lv_iload hx hb dX11_findFirst_17 (lv_at hl 4 rfl) ?_
      refine lv_aload_n hx hb dX11_findFirst_19 rfl (lv_at hl 0 rfl) ?_
      refine g_getr hx hb hw inG11 hown hK hG gl_135 rfl gk_135 (by decide) 0 (by decide) (by rw [gm_135]; decide) (r := 136) gr_135_0 lk7 dX11_findFirst_20 ?_
      refine lv_iconst (v := 1) hx hb dX11_findFirst_23 (by decide) ?_
      refine g_iald hx hb hK hG gl_136 gk_136 gn_136 HW.1 dX11_findFirst_24 ?_
      replace HW := HW.2
      refine lv_icmp_ge (tgt := 117) hx hb dX11_findFirst_25 (by decide) (fun c_25 => ?_) (fun c_25 => ?_)
      · replace HW := HW.1 c_25
        refine lv_aload_n hx hb dX11_findFirst_117 rfl (lv_at hl 0 rfl) ?_
        refine lv_iload_n hx hb dX11_findFirst_118 rfl (lv_at hl 2 rfl) ?_
        refine g_put hx hb hw inG11 tyX11 tyX11_ok nmX11 hown hK hG gl_135 rfl gk_135 (by decide) 14 (by decide) (by rw [gm_135]; decide) gr_135_14 rfl (ty := .int) (by decide +kernel) rfl rfl lk176 dX11_findFirst_119 (fun H locs hG => ?_)
        obtain ⟨h_119, eh_119⟩ : ∃ y : HI, y = hu h 135 14 x2 := ⟨_, rfl⟩
        rw [← eh_119] at hG
        replace HW := HW h_119 eh_119
        refine lv_aload_n hx hb dX11_findFirst_122 rfl (lv_at hl 0 rfl) ?_
        refine lv_iload_n hx hb dX11_findFirst_123 rfl (lv_at hl 3 rfl) ?_
        refine lv_iload_n hx hb dX11_findFirst_124 rfl (lv_at hl 2 rfl) ?_
        refine lv_icmp_ge (tgt := 132) hx hb dX11_findFirst_125 (by decide) (fun c_125 => ?_) (fun c_125 => ?_)
        · replace HW := HW.1 c_125
          refine lv_iload_n hx hb dX11_findFirst_132 rfl (lv_at hl 3 rfl) ?_
          refine lv_iload_n hx hb dX11_findFirst_133 rfl (lv_at hl 2 rfl) ?_
          refine lv_isub hx hb dX11_findFirst_134 ?_
          refine lv_iconst (v := 1) hx hb dX11_findFirst_135 (by decide) ?_
          refine lv_iadd hx hb dX11_findFirst_136 ?_
          exact B137 ((x3 - x2) + (1 : Int32)) h_119 g _ _ _ HW hG (lv_sub hl [] rfl)
        · replace HW := HW.2 c_125
          refine lv_iconst (v := 0) hx hb dX11_findFirst_128 (by decide) ?_
          refine lv_goto (tgt := 137) hx hb dX11_findFirst_129 (by decide) ?_
          exact B137 (0 : Int32) h_119 g _ _ _ HW hG (lv_sub hl [] rfl)
      · replace HW := HW.2 c_25
        refine lv_aload_n hx hb dX11_findFirst_28 rfl (lv_at hl 0 rfl) ?_
        refine lv_iload hx hb dX11_findFirst_29 (lv_at hl 4 rfl) ?_
        refine lv_iload_n hx hb dX11_findFirst_31 rfl (lv_at hl 1 rfl) ?_
        obtain ⟨P_32, HC_32, HW⟩ := HW
        refine g_callz (g_runV (As := [.int x4, .int x1]) (rest := []) ⟨hx, hb, hml, hown, hts⟩ (m_X11_isOf l D cy ad h g H.size x4 x1 P_32 HC_32) (cwV 2 hts (gd_V (wm5 234 rfl rfl) (wm5 236 rfl rfl) (wmp4 (q := (yX11_isOf, 26)) 6 rfl) (wm1 13 rfl rfl) (wm5 237 rfl rfl)) rfl rfl rfl (by decide +kernel) ⟨Nat.le_of_ble_eq_true rfl, Nat.le_of_ble_eq_true rfl⟩) hK hNw hG gl_135 rfl gk_135 (by decide) rfl rfl hl.1 rfl (lv_room (Nat.le_of_ble_eq_true rfl)) dX11_findFirst_32 ⟨Nat.zero_le _, Nat.zero_le _⟩) hG (fun r_32 h_32 g_32 H locs hz hq hG => ?_)
        replace HW := HW r_32 h_32 g_32 hz hq
        refine lv_if_eq (tgt := 111) hx hb dX11_findFirst_35 (by decide) (fun c_35 => ?_) (fun c_35 => ?_)
        · replace HW := HW.1 c_35
          exact B111 K17 hK17 x1 x2 x3 x4 h_32 g_32 _ _ _ HW hG (lv_sub hl [0, 1, 2, 3, 4] rfl)
        · replace HW := HW.2 c_35
          refine lv_aload_n hx hb dX11_findFirst_38 rfl (lv_at hl 0 rfl) ?_
          refine lv_iload hx hb dX11_findFirst_39 (lv_at hl 4 rfl) ?_
          obtain ⟨P_41, HC_41, HW⟩ := HW
          refine g_callv (g_runV (As := [.int x4]) (rest := []) ⟨hx, hb, hml, hown, hts⟩ (m_X11_lets l D cy ad h_32 g_32 H.size x4 P_41 HC_41) (cwV 1 hts (gd_V (wm5 238 rfl rfl) (wm6 0 rfl rfl) (wmp4 (q := (yX11_lets, 26)) 7 rfl) (wm1 13 rfl rfl) (wm6 1 rfl rfl)) rfl rfl rfl (by decide +kernel) ⟨Nat.le_of_ble_eq_true rfl, Nat.le_of_ble_eq_true rfl⟩) hK hNw hG gl_135 rfl gk_135 (by decide) rfl rfl hl.1 rfl (lv_room (Nat.le_of_ble_eq_true rfl)) dX11_findFirst_41 ⟨Nat.zero_le _, Nat.zero_le _⟩) hG (fun h_41 g_41 H locs hq hG => ?_)
          replace HW := HW h_41 g_41 hq
          refine lv_aload_n hx hb dX11_findFirst_44 rfl (lv_at hl 0 rfl) ?_
          refine lv_aload_n hx hb dX11_findFirst_45 rfl (lv_at hl 0 rfl) ?_
          refine g_geti hx hb hw inG11 hown hK hG gl_135 rfl gk_135 (by decide) 9 (by decide) (by rw [gm_135]; decide) gr_135_9 lk148 dX11_findFirst_46 ?_
          obtain ⟨P_49, HC_49, HW⟩ := HW
          refine g_calli (g_runV (As := [.int (h_41 135 9)]) (rest := []) ⟨hx, hb, hml, hown, hts⟩ (m_X11_numberFrom l D cy ad h_41 g_41 H.size (h_41 135 9) P_49 HC_49) (cwV 1 hts (gd_V (wm6 4 rfl rfl) (wm6 6 rfl rfl) (wmp4 (q := (yX11_numberFrom, 26)) 8 rfl) (wm1 13 rfl rfl) (wm6 7 rfl rfl)) rfl rfl rfl (by decide +kernel) ⟨Nat.le_of_ble_eq_true rfl, Nat.le_of_ble_eq_true rfl⟩) hK hNw hG gl_135 rfl gk_135 (by decide) rfl rfl hl.1 rfl (lv_room (Nat.le_of_ble_eq_true rfl)) dX11_findFirst_49 ⟨Nat.zero_le _, Nat.zero_le _⟩) hG (fun r_49 h_49 g_49 H locs hq hG => ?_)
          replace HW := HW r_49 h_49 g_49 hq
          refine lv_istore (lv' := [(5, .int r_49), (0, .ref (ad 135)), (1, .int x1), (2, .int x2), (3, .int x3), (4, .int x4)]) hx hb dX11_findFirst_52 hl (by decide) rfl (fun ls hl => ?_)
          refine lv_aload_n hx hb dX11_findFirst_54 rfl (lv_at hl 1 rfl) ?_
          refine g_geti hx hb hw inG11 hown hK hG gl_135 rfl gk_135 (by decide) 10 (by decide) (by rw [gm_135]; decide) gr_135_10 lk152 dX11_findFirst_55 ?_
          refine lv_aload_n hx hb dX11_findFirst_58 rfl (lv_at hl 1 rfl) ?_
          refine g_geti hx hb hw inG11 hown hK hG gl_135 rfl gk_135 (by decide) 11 (by decide) (by rw [gm_135]; decide) gr_135_11 lk155 dX11_findFirst_59 ?_
          refine lv_icmp_ge (tgt := 69) hx hb dX11_findFirst_62 (by decide) (fun c_62 => ?_) (fun c_62 => ?_)
          · replace HW := HW.1 c_62
            refine lv_aload_n hx hb dX11_findFirst_69 rfl (lv_at hl 1 rfl) ?_
            refine g_geti hx hb hw inG11 hown hK hG gl_135 rfl gk_135 (by decide) 10 (by decide) (by rw [gm_135]; decide) gr_135_10 lk152 dX11_findFirst_70 ?_
            refine lv_aload_n hx hb dX11_findFirst_73 rfl (lv_at hl 1 rfl) ?_
            refine g_geti hx hb hw inG11 hown hK hG gl_135 rfl gk_135 (by decide) 11 (by decide) (by rw [gm_135]; decide) gr_135_11 lk155 dX11_findFirst_74 ?_
            refine lv_isub hx hb dX11_findFirst_77 ?_
            refine lv_aload_n hx hb dX11_findFirst_78 rfl (lv_at hl 1 rfl) ?_
            refine g_geti hx hb hw inG11 hown hK hG gl_135 rfl gk_135 (by decide) 12 (by decide) (by rw [gm_135]; decide) gr_135_12 lk158 dX11_findFirst_79 ?_
            refine lv_idiv hx hb dX11_findFirst_82 HW.1 ?_
            replace HW := HW.2
            exact B83 K17 hK17 x1 x2 x3 x4 r_49 (((h_49 135 10) - (h_49 135 11)) / (h_49 135 12)) h_49 g_49 _ _ _ HW hG (lv_sub hl [1, 2, 3, 4, 5, 0] rfl)
          · replace HW := HW.2 c_62
            refine lv_iconst (v := (-1)) hx hb dX11_findFirst_65 (by decide) ?_
            refine lv_goto (tgt := 83) hx hb dX11_findFirst_66 (by decide) ?_
            exact B83 K17 hK17 x1 x2 x3 x4 r_49 (-1 : Int32) h_49 g_49 _ _ _ HW hG (lv_sub hl [1, 2, 3, 4, 5, 0] rfl)
  have E0 : ∀ (H : Heap) (locs : List Loc) (ls : Array Slot), gG D cy ad (gA ad s.heap.size) s.heap h g H locs → lv_has ls 7 [(0, .ref (ad 135)), (1, .int x1)] → W p l e ({ frames := 6, cells := 0, slots := 0, locals := 140 } : Room) s m args below meth c H locs 0 0 (MQ below (va_Qv (fun (u : HI × HL) => Q u.1 u.2) (gB D cy ad s.heap.size) (gA ad s.heap.size)) args s 0 0 (gA ad s.heap.size)) (F0 m 0 ls []) := by
    intro H locs ls hG hl
    unfold w_X11_findFirst at HW
    refine lv_aload_n hx hb dX11_findFirst_0 rfl (lv_at hl 0 rfl) ?_
    refine lv_iload_n hx hb dX11_findFirst_1 rfl (lv_at hl 1 rfl) ?_
    obtain ⟨P_2, HC_2, HW⟩ := HW
    refine g_callv (g_runV (As := [.int x1]) (rest := []) ⟨hx, hb, hml, hown, hts⟩ (m_X11_findFamily l D cy ad h g H.size x1 P_2 HC_2) (cwV 1 hts (gd_V (wm5 230 rfl rfl) (wm5 232 rfl rfl) (wmp4 (q := (yX11_findFamily, 26)) 5 rfl) (wm1 13 rfl rfl) (wm5 233 rfl rfl)) rfl rfl rfl (by decide +kernel) ⟨Nat.le_of_ble_eq_true rfl, Nat.le_of_ble_eq_true rfl⟩) hK hNw hG gl_135 rfl gk_135 (by decide) rfl rfl hl.1 rfl (lv_room (Nat.le_of_ble_eq_true rfl)) dX11_findFirst_2 ⟨Nat.zero_le _, Nat.zero_le _⟩) hG (fun h_2 g_2 H locs hq hG => ?_)
    replace HW := HW h_2 g_2 hq
    refine lv_iconst (v := 0) hx hb dX11_findFirst_5 (by decide) ?_
    refine lv_istore_n (lv' := [(2, .int (0 : Int32)), (0, .ref (ad 135)), (1, .int x1)]) hx hb dX11_findFirst_6 rfl hl (by decide) rfl (fun ls hl => ?_)
    refine lv_aload_n hx hb dX11_findFirst_7 rfl (lv_at hl 1 rfl) ?_
    refine g_geti hx hb hw inG11 hown hK hG gl_135 rfl gk_135 (by decide) 13 (by decide) (by rw [gm_135]; decide) gr_135_13 lk161 dX11_findFirst_8 ?_
    refine lv_iconst (v := 1) hx hb dX11_findFirst_11 (by decide) ?_
    refine lv_isub hx hb dX11_findFirst_12 ?_
    refine lv_topi (fun x3_13 ex3_13 => ?_)
    replace HW := HW x3_13 ex3_13
    refine lv_istore_n (lv' := [(3, .int x3_13), (2, .int (0 : Int32)), (0, .ref (ad 135)), (1, .int x1)]) hx hb dX11_findFirst_13 rfl hl (by decide) rfl (fun ls hl => ?_)
    refine lv_iconst (v := 0) hx hb dX11_findFirst_14 (by decide) ?_
    refine lv_istore (lv' := [(4, .int (0 : Int32)), (3, .int x3_13), (2, .int (0 : Int32)), (0, .ref (ad 135)), (1, .int x1)]) hx hb dX11_findFirst_15 hl (by decide) rfl (fun ls hl => ?_)
    obtain ⟨n_17, HW⟩ := HW
    exact L17 n_17 x1 (0 : Int32) x3_13 (0 : Int32) h_2 g_2 _ _ _ HW hG (lv_sub hl [3, 4, 2, 1, 0] rfl)
  exact E0 _ _ _ hG hl

def j_X11_firstOf_56 (Q : Int32 → HI → HL → Prop) (s0 : Int32) (s1 : Int32) (s2 : Int32) (h : HI) (g : HL) : Prop :=
  Q (s0 + (s1 * s2)) h g
def w_X11_firstOf (x1 : Int32) (x2 : Int32) (h : HI) (g : HL) (Q : Int32 → HI → HL → Prop) : Prop :=
  (∃ P_2 : HI → HL → Prop, w_X11_findFirst x1 h g P_2 ∧ ∀ (h_2 : HI) (g_2 : HL), P_2 h_2 g_2 → ((¬ x2 = (2 : Int32) → ((¬ (h_2 135 15) = 0 → ((¬ x2 = 0 → j_X11_firstOf_56 Q (h_2 135 11) (h_2 135 12) (((h_2 135 14) + (h_2 135 15)) - (1 : Int32)) h_2 g_2) ∧ (x2 = 0 → j_X11_firstOf_56 Q (h_2 135 11) (h_2 135 12) (h_2 135 14) h_2 g_2))) ∧ ((h_2 135 15) = 0 → Q (-1 : Int32) h_2 g_2))) ∧ (x2 = (2 : Int32) → Q (h_2 135 15) h_2 g_2)))
set_option maxHeartbeats 8000000 in
set_option maxRecDepth 100000 in
theorem m_X11_firstOf (l : Launch) (D : va_G) (cy : Nat → ClassId) (ad : Nat → Nat) (h : HI) (g : HL) (sz : Nat) (x1 : Int32) (x2 : Int32) (Q : Int32 → HI → HL → Prop) (HW : w_X11_firstOf x1 x2 h g Q) : Met l yX11_firstOf (wa yX11_firstOf cX11_firstOf 3 (some .int)) ({ frames := 7, cells := 0, slots := 0, locals := 166 }) (va_Pc [.ref (ad 135), .int x1, .int x2] (gI D cy ad h g sz)) (va_Qi (fun (r : Int32) (u : HI × HL) => Q r u.1 u.2) (gB D cy ad sz) (gA ad sz)) 0 0 (gA ad sz) := by
  refine Met.ofW (cc := cX11_firstOf) (maxL := 3) (ret := (some .int)) (by decide) rfl ?_
  intro p e s m args below meth c s₁ B hml hv
  obtain ⟨hav, hsz, hP, hK, hD0, hNw⟩ := hv
  have hx := B.exec
  have hb := B.bytes
  have hr := B.returns
  have hts := atoms_spec (ws := (wa yX11_firstOf cX11_firstOf 3 (some .int))) B.pre
  have hw := wa_hw hts
  have hown : s.vm.findClass RX11 = some m.cls := findClass_of_methodNamed B.named
  have hlocks := B.notSynchronized
  subst hsz
  have hG : gG D cy ad (gA ad s.heap.size) s.heap h g s.heap [] := ⟨hP, gA_self hD0, va_S.rf⟩
  clear hP hD0
  have lk179 := hw (.fieldLink RX11 179 "OldWorksModel" "firstMany" "I") (wm5 42 rfl rfl)
  have lk155 := hw (.fieldLink RX11 155 "OldWorksModel" "least" "I") (wm5 38 rfl rfl)
  have lk158 := hw (.fieldLink RX11 158 "OldWorksModel" "stride" "I") (wm5 39 rfl rfl)
  have lk176 := hw (.fieldLink RX11 176 "OldWorksModel" "firstNumber" "I") (wm5 41 rfl rfl)
  rw [show (headSpec (wa yX11_firstOf cX11_firstOf 3 (some .int)) ({ frames := 7, cells := 0, slots := 0, locals := 166 } : Room)).room = ({ frames := 7, cells := 0, slots := 0, locals := 166 } : Room) from rfl]
  have hl := lv_entry ([.ref (ad 135), .int x1, .int x2]) (n := 3) (Nat.le_of_ble_eq_true rfl)
  rw [show entryFrame m args 3 = entryFrame m ([.ref (ad 135), .int x1, .int x2] : List Value).toArray 3 from by rw [hav], lg_entry_eq]
  generalize (lg_sl ([.ref (ad 135), .int x1, .int x2]) ++ List.replicate (3 - (lg_sl ([.ref (ad 135), .int x1, .int x2])).length) Slot.unset).toArray = ls at hl ⊢
  have hl : lv_has ls 3 [(0, .ref (ad 135)), (1, .int x1), (2, .int x2)] := hl
  have B56 : ∀ (s0 : Int32) (s1 : Int32) (s2 : Int32) (h : HI) (g : HL) (H : Heap) (locs : List Loc) (ls : Array Slot), j_X11_firstOf_56 Q s0 s1 s2 h g → gG D cy ad (gA ad s.heap.size) s.heap h g H locs → lv_has ls 3 [] → W p l e ({ frames := 7, cells := 0, slots := 0, locals := 166 } : Room) s m args below meth c H locs 0 0 (MQ below (va_Qi (fun (r : Int32) (u : HI × HL) => Q r u.1 u.2) (gB D cy ad s.heap.size) (gA ad s.heap.size)) args s 0 0 (gA ad s.heap.size)) (F0 m 56 ls [.int s2, .int s1, .int s0]) := by
    intro s0 s1 s2 h g H locs ls HW hG hl
    unfold j_X11_firstOf_56 at HW
    refine lv_imul hx hb dX11_firstOf_56 ?_
    refine lv_iadd hx hb dX11_firstOf_57 ?_
    exact W.iret (v := (s0 + (s1 * s2))) hx hb hr (fun t ht hW => ⟨⟨(s0 + (s1 * s2)), (h, g), rfl, HW, g_B ht hG⟩, hG.2.2.F ht⟩) hG.2.2.2.2 dX11_firstOf_58
  have E0 : ∀ (H : Heap) (locs : List Loc) (ls : Array Slot), gG D cy ad (gA ad s.heap.size) s.heap h g H locs → lv_has ls 3 [(0, .ref (ad 135)), (1, .int x1), (2, .int x2)] → W p l e ({ frames := 7, cells := 0, slots := 0, locals := 166 } : Room) s m args below meth c H locs 0 0 (MQ below (va_Qi (fun (r : Int32) (u : HI × HL) => Q r u.1 u.2) (gB D cy ad s.heap.size) (gA ad s.heap.size)) args s 0 0 (gA ad s.heap.size)) (F0 m 0 ls []) := by
    intro H locs ls hG hl
    unfold w_X11_firstOf at HW
    refine lv_aload_n hx hb dX11_firstOf_0 rfl (lv_at hl 0 rfl) ?_
    refine lv_iload_n hx hb dX11_firstOf_1 rfl (lv_at hl 1 rfl) ?_
    obtain ⟨P_2, HC_2, HW⟩ := HW
    refine g_callv (g_runV (As := [.int x1]) (rest := []) ⟨hx, hb, hml, hown, hts⟩ (m_X11_findFirst l D cy ad h g H.size x1 P_2 HC_2) (cwV 1 hts (gd_V (wm5 226 rfl rfl) (wm5 228 rfl rfl) (wmp4 (q := (yX11_findFirst, 26)) 4 rfl) (wm1 13 rfl rfl) (wm5 229 rfl rfl)) rfl rfl rfl (by decide +kernel) ⟨Nat.le_of_ble_eq_true rfl, Nat.le_of_ble_eq_true rfl⟩) hK hNw hG gl_135 rfl gk_135 (by decide) rfl rfl hl.1 rfl (lv_room (Nat.le_of_ble_eq_true rfl)) dX11_firstOf_2 ⟨Nat.zero_le _, Nat.zero_le _⟩) hG (fun h_2 g_2 H locs hq hG => ?_)
    replace HW := HW h_2 g_2 hq
    refine lv_iload_n hx hb dX11_firstOf_5 rfl (lv_at hl 2 rfl) ?_
    refine lv_iconst (v := 2) hx hb dX11_firstOf_6 (by decide) ?_
    refine lv_icmp_ne (tgt := 15) hx hb dX11_firstOf_7 (by decide) (fun c_7 => ?_) (fun c_7 => ?_)
    · replace HW := HW.1 c_7
      refine lv_aload_n hx hb dX11_firstOf_15 rfl (lv_at hl 0 rfl) ?_
      refine g_geti hx hb hw inG11 hown hK hG gl_135 rfl gk_135 (by decide) 15 (by decide) (by rw [gm_135]; decide) gr_135_15 lk179 dX11_firstOf_16 ?_
      refine lv_if_ne (tgt := 26) hx hb dX11_firstOf_19 (by decide) (fun c_19 => ?_) (fun c_19 => ?_)
      · replace HW := HW.1 c_19
        refine lv_aload_n hx hb dX11_firstOf_26 rfl (lv_at hl 0 rfl) ?_
        refine g_geti hx hb hw inG11 hown hK hG gl_135 rfl gk_135 (by decide) 11 (by decide) (by rw [gm_135]; decide) gr_135_11 lk155 dX11_firstOf_27 ?_
        refine lv_aload_n hx hb dX11_firstOf_30 rfl (lv_at hl 0 rfl) ?_
        refine g_geti hx hb hw inG11 hown hK hG gl_135 rfl gk_135 (by decide) 12 (by decide) (by rw [gm_135]; decide) gr_135_12 lk158 dX11_firstOf_31 ?_
        refine lv_iload_n hx hb dX11_firstOf_34 rfl (lv_at hl 2 rfl) ?_
        refine lv_if_ne (tgt := 45) hx hb dX11_firstOf_35 (by decide) (fun c_35 => ?_) (fun c_35 => ?_)
        · replace HW := HW.1 c_35
          refine lv_aload_n hx hb dX11_firstOf_45 rfl (lv_at hl 0 rfl) ?_
          refine g_geti hx hb hw inG11 hown hK hG gl_135 rfl gk_135 (by decide) 14 (by decide) (by rw [gm_135]; decide) gr_135_14 lk176 dX11_firstOf_46 ?_
          refine lv_aload_n hx hb dX11_firstOf_49 rfl (lv_at hl 0 rfl) ?_
          refine g_geti hx hb hw inG11 hown hK hG gl_135 rfl gk_135 (by decide) 15 (by decide) (by rw [gm_135]; decide) gr_135_15 lk179 dX11_firstOf_50 ?_
          refine lv_iadd hx hb dX11_firstOf_53 ?_
          refine lv_iconst (v := 1) hx hb dX11_firstOf_54 (by decide) ?_
          refine lv_isub hx hb dX11_firstOf_55 ?_
          exact B56 (h_2 135 11) (h_2 135 12) (((h_2 135 14) + (h_2 135 15)) - (1 : Int32)) h_2 g_2 _ _ _ HW hG (lv_sub hl [] rfl)
        · replace HW := HW.2 c_35
          refine lv_aload_n hx hb dX11_firstOf_38 rfl (lv_at hl 0 rfl) ?_
          refine g_geti hx hb hw inG11 hown hK hG gl_135 rfl gk_135 (by decide) 14 (by decide) (by rw [gm_135]; decide) gr_135_14 lk176 dX11_firstOf_39 ?_
          refine lv_goto (tgt := 56) hx hb dX11_firstOf_42 (by decide) ?_
          exact B56 (h_2 135 11) (h_2 135 12) (h_2 135 14) h_2 g_2 _ _ _ HW hG (lv_sub hl [] rfl)
      · replace HW := HW.2 c_19
        refine lv_iconst (v := (-1)) hx hb dX11_firstOf_22 (by decide) ?_
        refine lv_goto (tgt := 58) hx hb dX11_firstOf_23 (by decide) ?_
        exact W.iret (v := (-1 : Int32)) hx hb hr (fun t ht hW => ⟨⟨(-1 : Int32), (h_2, g_2), rfl, HW, g_B ht hG⟩, hG.2.2.F ht⟩) hG.2.2.2.2 dX11_firstOf_58
    · replace HW := HW.2 c_7
      refine lv_aload_n hx hb dX11_firstOf_10 rfl (lv_at hl 0 rfl) ?_
      refine g_geti hx hb hw inG11 hown hK hG gl_135 rfl gk_135 (by decide) 15 (by decide) (by rw [gm_135]; decide) gr_135_15 lk179 dX11_firstOf_11 ?_
      exact W.iret (v := (h_2 135 15)) hx hb hr (fun t ht hW => ⟨⟨(h_2 135 15), (h_2, g_2), rfl, HW, g_B ht hG⟩, hG.2.2.F ht⟩) hG.2.2.2.2 dX11_firstOf_14
  exact E0 _ _ _ hG hl

def w_X11_first (x1 : Int32) (x2 : Int32) (h : HI) (g : HL) (Q : Int32 → HI → HL → Prop) : Prop :=
  (∃ P_3 : Int32 → HI → HL → Prop, w_X11_is (0 : Int32) x1 h g P_3 ∧ ∀ (r_3 : Int32) (h_3 : HI) (g_3 : HL), zb r_3 → P_3 r_3 h_3 g_3 → ((r_3 = 0 → Q (-2 : Int32) h_3 g_3) ∧ (¬ r_3 = 0 → (∃ P_15 : Int32 → HI → HL → Prop, w_X11_in ((x2).toInt64) (0 : Int64) (2 : Int64) h_3 g_3 P_15 ∧ ∀ (r_15 : Int32) (h_15 : HI) (g_15 : HL), zb r_15 → P_15 r_15 h_15 g_15 → ((r_15 = 0 → Q (-2 : Int32) h_15 g_15) ∧ (¬ r_15 = 0 → (∃ P_24 : Int32 → HI → HL → Prop, w_X11_firstOf x1 x2 h_15 g_15 P_24 ∧ ∀ (r_24 : Int32) (h_24 : HI) (g_24 : HL), P_24 r_24 h_24 g_24 → Q r_24 h_24 g_24)))))))
set_option maxHeartbeats 8000000 in
set_option maxRecDepth 100000 in
theorem m_X11_first (l : Launch) (D : va_G) (cy : Nat → ClassId) (ad : Nat → Nat) (h : HI) (g : HL) (sz : Nat) (x1 : Int32) (x2 : Int32) (Q : Int32 → HI → HL → Prop) (HW : w_X11_first x1 x2 h g Q) : Met l yX11_first (wa yX11_first cX11_first 3 (some .int)) ({ frames := 8, cells := 0, slots := 0, locals := 188 }) (va_Pc [.ref (ad 135), .int x1, .int x2] (gI D cy ad h g sz)) (va_Qi (fun (r : Int32) (u : HI × HL) => Q r u.1 u.2) (gB D cy ad sz) (gA ad sz)) 0 0 (gA ad sz) := by
  refine Met.ofW (cc := cX11_first) (maxL := 3) (ret := (some .int)) (by decide) rfl ?_
  intro p e s m args below meth c s₁ B hml hv
  obtain ⟨hav, hsz, hP, hK, hD0, hNw⟩ := hv
  have hx := B.exec
  have hb := B.bytes
  have hr := B.returns
  have hts := atoms_spec (ws := (wa yX11_first cX11_first 3 (some .int))) B.pre
  have hw := wa_hw hts
  have hown : s.vm.findClass RX11 = some m.cls := findClass_of_methodNamed B.named
  have hlocks := B.notSynchronized
  subst hsz
  have hG : gG D cy ad (gA ad s.heap.size) s.heap h g s.heap [] := ⟨hP, gA_self hD0, va_S.rf⟩
  clear hP hD0
  have cn185 := hw (.constantLong RX11 185 (2)) (wm5 221 rfl rfl)
  rw [show (headSpec (wa yX11_first cX11_first 3 (some .int)) ({ frames := 8, cells := 0, slots := 0, locals := 188 } : Room)).room = ({ frames := 8, cells := 0, slots := 0, locals := 188 } : Room) from rfl]
  have hl := lv_entry ([.ref (ad 135), .int x1, .int x2]) (n := 3) (Nat.le_of_ble_eq_true rfl)
  rw [show entryFrame m args 3 = entryFrame m ([.ref (ad 135), .int x1, .int x2] : List Value).toArray 3 from by rw [hav], lg_entry_eq]
  generalize (lg_sl ([.ref (ad 135), .int x1, .int x2]) ++ List.replicate (3 - (lg_sl ([.ref (ad 135), .int x1, .int x2])).length) Slot.unset).toArray = ls at hl ⊢
  have hl : lv_has ls 3 [(0, .ref (ad 135)), (1, .int x1), (2, .int x2)] := hl
  have E0 : ∀ (H : Heap) (locs : List Loc) (ls : Array Slot), gG D cy ad (gA ad s.heap.size) s.heap h g H locs → lv_has ls 3 [(0, .ref (ad 135)), (1, .int x1), (2, .int x2)] → W p l e ({ frames := 8, cells := 0, slots := 0, locals := 188 } : Room) s m args below meth c H locs 0 0 (MQ below (va_Qi (fun (r : Int32) (u : HI × HL) => Q r u.1 u.2) (gB D cy ad s.heap.size) (gA ad s.heap.size)) args s 0 0 (gA ad s.heap.size)) (F0 m 0 ls []) := by
    intro H locs ls hG hl
    unfold w_X11_first at HW
    refine lv_aload_n hx hb dX11_first_0 rfl (lv_at hl 0 rfl) ?_
    refine lv_iconst (v := 0) hx hb dX11_first_1 (by decide) ?_
    refine lv_iload_n hx hb dX11_first_2 rfl (lv_at hl 1 rfl) ?_
    obtain ⟨P_3, HC_3, HW⟩ := HW
    refine g_callz (g_runV (As := [.int (0 : Int32), .int x1]) (rest := []) ⟨hx, hb, hml, hown, hts⟩ (m_X11_is l D cy ad h g H.size (0 : Int32) x1 P_3 HC_3) (cwV 2 hts (gd_V (wm5 184 rfl rfl) (wm5 186 rfl rfl) (wmp3 (q := (yX11_is, 26)) 14 rfl) (wm1 13 rfl rfl) (wm5 187 rfl rfl)) rfl rfl rfl (by decide +kernel) ⟨Nat.le_of_ble_eq_true rfl, Nat.le_of_ble_eq_true rfl⟩) hK hNw hG gl_135 rfl gk_135 (by decide) rfl rfl hl.1 rfl (lv_room (Nat.le_of_ble_eq_true rfl)) dX11_first_3 ⟨Nat.zero_le _, Nat.zero_le _⟩) hG (fun r_3 h_3 g_3 H locs hz hq hG => ?_)
    replace HW := HW r_3 h_3 g_3 hz hq
    refine lv_if_eq (tgt := 30) hx hb dX11_first_6 (by decide) (fun c_6 => ?_) (fun c_6 => ?_)
    · replace HW := HW.1 c_6
      refine lv_bipush (v := (-2)) hx hb dX11_first_30 (by decide) ?_
      exact W.iret (v := (-2 : Int32)) hx hb hr (fun t ht hW => ⟨⟨(-2 : Int32), (h_3, g_3), rfl, HW, g_B ht hG⟩, hG.2.2.F ht⟩) hG.2.2.2.2 dX11_first_32
    · replace HW := HW.2 c_6
      refine lv_iload_n hx hb dX11_first_9 rfl (lv_at hl 2 rfl) ?_
      refine lv_i2l hx hb dX11_first_10 rfl ?_
      refine lv_lconst (v := 0) hx hb dX11_first_11 (by decide) ?_
      refine lv_ldc2 (v := 2) hx hb hown cn185 dX11_first_12 ?_
      obtain ⟨P_15, HC_15, HW⟩ := HW
      refine g_callz (g_runS (As := [.long ((x2).toInt64), .long (0 : Int64), .long (2 : Int64)]) (rest := []) ⟨hx, hb, hml, hown, hts⟩ (m_X11_in l D cy ad h_3 g_3 H.size ((x2).toInt64) (0 : Int64) (2 : Int64) P_15 HC_15) (va_cwS 3 hts (gd_S (wm5 111 rfl rfl) (wm5 112 rfl rfl) (wm1 13 rfl rfl) (wm5 113 rfl rfl)) rfl rfl rfl (by decide +kernel) ⟨Nat.le_of_ble_eq_true rfl, Nat.le_of_ble_eq_true rfl⟩) hK hNw hG rfl rfl hl.1 rfl (lv_room (Nat.le_of_ble_eq_true rfl)) dX11_first_15 ⟨Nat.zero_le _, Nat.zero_le _⟩) hG (fun r_15 h_15 g_15 H locs hz hq hG => ?_)
      replace HW := HW r_15 h_15 g_15 hz hq
      refine lv_if_eq (tgt := 30) hx hb dX11_first_18 (by decide) (fun c_18 => ?_) (fun c_18 => ?_)
      · replace HW := HW.1 c_18
        refine lv_bipush (v := (-2)) hx hb dX11_first_30 (by decide) ?_
        exact W.iret (v := (-2 : Int32)) hx hb hr (fun t ht hW => ⟨⟨(-2 : Int32), (h_15, g_15), rfl, HW, g_B ht hG⟩, hG.2.2.F ht⟩) hG.2.2.2.2 dX11_first_32
      · replace HW := HW.2 c_18
        refine lv_aload_n hx hb dX11_first_21 rfl (lv_at hl 0 rfl) ?_
        refine lv_iload_n hx hb dX11_first_22 rfl (lv_at hl 1 rfl) ?_
        refine lv_iload_n hx hb dX11_first_23 rfl (lv_at hl 2 rfl) ?_
        obtain ⟨P_24, HC_24, HW⟩ := HW
        refine g_calli (g_runV (As := [.int x1, .int x2]) (rest := []) ⟨hx, hb, hml, hown, hts⟩ (m_X11_firstOf l D cy ad h_15 g_15 H.size x1 x2 P_24 HC_24) (cwV 2 hts (gd_V (wm5 222 rfl rfl) (wm5 224 rfl rfl) (wmp4 (q := (yX11_firstOf, 26)) 3 rfl) (wm1 13 rfl rfl) (wm5 225 rfl rfl)) rfl rfl rfl (by decide +kernel) ⟨Nat.le_of_ble_eq_true rfl, Nat.le_of_ble_eq_true rfl⟩) hK hNw hG gl_135 rfl gk_135 (by decide) rfl rfl hl.1 rfl (lv_room (Nat.le_of_ble_eq_true rfl)) dX11_first_24 ⟨Nat.zero_le _, Nat.zero_le _⟩) hG (fun r_24 h_24 g_24 H locs hq hG => ?_)
        replace HW := HW r_24 h_24 g_24 hq
        refine lv_goto (tgt := 32) hx hb dX11_first_27 (by decide) ?_
        exact W.iret (v := r_24) hx hb hr (fun t ht hW => ⟨⟨r_24, (h_24, g_24), rfl, HW, g_B ht hG⟩, hG.2.2.F ht⟩) hG.2.2.2.2 dX11_first_32
  exact E0 _ _ _ hG hl

def w_X11_quarrels (x1 : Int32) (x2 : Int32) (x3 : Int32) (h : HI) (g : HL) (Q : Int32 → HI → HL → Prop) : Prop :=
  (∃ P_3 : Int32 → HI → HL → Prop, w_X11_isOf x1 x2 h g P_3 ∧ ∀ (r_3 : Int32) (h_3 : HI) (g_3 : HL), zb r_3 → P_3 r_3 h_3 g_3 → ((¬ r_3 = 0 → (∃ P_13 : HI → HL → Prop, w_X11_lets x1 h_3 g_3 P_13 ∧ ∀ (h_13 : HI) (g_13 : HL), P_13 h_13 g_13 → (∃ P_28 : Int32 → HI → HL → Prop, w_X11_in ((x3).toInt64) (((h_13 135 9)).toInt64) (((h_13 135 10)).toInt64) h_13 g_13 P_28 ∧ ∀ (r_28 : Int32) (h_28 : HI) (g_28 : HL), zb r_28 → P_28 r_28 h_28 g_28 → ((¬ r_28 = 0 → Q (0 : Int32) h_28 g_28) ∧ (r_28 = 0 → Q (1 : Int32) h_28 g_28))))) ∧ (r_3 = 0 → Q (0 : Int32) h_3 g_3)))
set_option maxHeartbeats 8000000 in
set_option maxRecDepth 100000 in
theorem m_X11_quarrels (l : Launch) (D : va_G) (cy : Nat → ClassId) (ad : Nat → Nat) (h : HI) (g : HL) (sz : Nat) (x1 : Int32) (x2 : Int32) (x3 : Int32) (Q : Int32 → HI → HL → Prop) (HW : w_X11_quarrels x1 x2 x3 h g Q) : Met l yX11_quarrels (wa yX11_quarrels cX11_quarrels 4 (some .boolean)) ({ frames := 6, cells := 0, slots := 0, locals := 140 }) (va_Pc [.ref (ad 135), .int x1, .int x2, .int x3] (gI D cy ad h g sz)) (va_Qi (fun (r : Int32) (u : HI × HL) => zb r ∧ Q r u.1 u.2) (gB D cy ad sz) (gA ad sz)) 0 0 (gA ad sz) := by
  refine Met.ofW (cc := cX11_quarrels) (maxL := 4) (ret := (some .boolean)) (by decide) rfl ?_
  intro p e s m args below meth c s₁ B hml hv
  obtain ⟨hav, hsz, hP, hK, hD0, hNw⟩ := hv
  have hx := B.exec
  have hb := B.bytes
  have hr := B.returns
  have hts := atoms_spec (ws := (wa yX11_quarrels cX11_quarrels 4 (some .boolean))) B.pre
  have hw := wa_hw hts
  have hown : s.vm.findClass RX11 = some m.cls := findClass_of_methodNamed B.named
  have hlocks := B.notSynchronized
  subst hsz
  have hG : gG D cy ad (gA ad s.heap.size) s.heap h g s.heap [] := ⟨hP, gA_self hD0, va_S.rf⟩
  clear hP hD0
  have lk148 := hw (.fieldLink RX11 148 "OldWorksModel" "low" "I") (wm5 36 rfl rfl)
  have lk152 := hw (.fieldLink RX11 152 "OldWorksModel" "high" "I") (wm5 37 rfl rfl)
  rw [show (headSpec (wa yX11_quarrels cX11_quarrels 4 (some .boolean)) ({ frames := 6, cells := 0, slots := 0, locals := 140 } : Room)).room = ({ frames := 6, cells := 0, slots := 0, locals := 140 } : Room) from rfl]
  have hl := lv_entry ([.ref (ad 135), .int x1, .int x2, .int x3]) (n := 4) (Nat.le_of_ble_eq_true rfl)
  rw [show entryFrame m args 4 = entryFrame m ([.ref (ad 135), .int x1, .int x2, .int x3] : List Value).toArray 4 from by rw [hav], lg_entry_eq]
  generalize (lg_sl ([.ref (ad 135), .int x1, .int x2, .int x3]) ++ List.replicate (4 - (lg_sl ([.ref (ad 135), .int x1, .int x2, .int x3])).length) Slot.unset).toArray = ls at hl ⊢
  have hl : lv_has ls 4 [(0, .ref (ad 135)), (1, .int x1), (2, .int x2), (3, .int x3)] := hl
  have E0 : ∀ (H : Heap) (locs : List Loc) (ls : Array Slot), gG D cy ad (gA ad s.heap.size) s.heap h g H locs → lv_has ls 4 [(0, .ref (ad 135)), (1, .int x1), (2, .int x2), (3, .int x3)] → W p l e ({ frames := 6, cells := 0, slots := 0, locals := 140 } : Room) s m args below meth c H locs 0 0 (MQ below (va_Qi (fun (r : Int32) (u : HI × HL) => zb r ∧ Q r u.1 u.2) (gB D cy ad s.heap.size) (gA ad s.heap.size)) args s 0 0 (gA ad s.heap.size)) (F0 m 0 ls []) := by
    intro H locs ls hG hl
    unfold w_X11_quarrels at HW
    refine lv_aload_n hx hb dX11_quarrels_0 rfl (lv_at hl 0 rfl) ?_
    refine lv_iload_n hx hb dX11_quarrels_1 rfl (lv_at hl 1 rfl) ?_
    refine lv_iload_n hx hb dX11_quarrels_2 rfl (lv_at hl 2 rfl) ?_
    obtain ⟨P_3, HC_3, HW⟩ := HW
    refine g_callz (g_runV (As := [.int x1, .int x2]) (rest := []) ⟨hx, hb, hml, hown, hts⟩ (m_X11_isOf l D cy ad h g H.size x1 x2 P_3 HC_3) (cwV 2 hts (gd_V (wm5 234 rfl rfl) (wm5 236 rfl rfl) (wmp4 (q := (yX11_isOf, 26)) 6 rfl) (wm1 13 rfl rfl) (wm5 237 rfl rfl)) rfl rfl rfl (by decide +kernel) ⟨Nat.le_of_ble_eq_true rfl, Nat.le_of_ble_eq_true rfl⟩) hK hNw hG gl_135 rfl gk_135 (by decide) rfl rfl hl.1 rfl (lv_room (Nat.le_of_ble_eq_true rfl)) dX11_quarrels_3 ⟨Nat.zero_le _, Nat.zero_le _⟩) hG (fun r_3 h_3 g_3 H locs hz hq hG => ?_)
    replace HW := HW r_3 h_3 g_3 hz hq
    refine lv_if_ne (tgt := 11) hx hb dX11_quarrels_6 (by decide) (fun c_6 => ?_) (fun c_6 => ?_)
    · replace HW := HW.1 c_6
      refine lv_aload_n hx hb dX11_quarrels_11 rfl (lv_at hl 0 rfl) ?_
      refine lv_iload_n hx hb dX11_quarrels_12 rfl (lv_at hl 1 rfl) ?_
      obtain ⟨P_13, HC_13, HW⟩ := HW
      refine g_callv (g_runV (As := [.int x1]) (rest := []) ⟨hx, hb, hml, hown, hts⟩ (m_X11_lets l D cy ad h_3 g_3 H.size x1 P_13 HC_13) (cwV 1 hts (gd_V (wm5 238 rfl rfl) (wm6 0 rfl rfl) (wmp4 (q := (yX11_lets, 26)) 7 rfl) (wm1 13 rfl rfl) (wm6 1 rfl rfl)) rfl rfl rfl (by decide +kernel) ⟨Nat.le_of_ble_eq_true rfl, Nat.le_of_ble_eq_true rfl⟩) hK hNw hG gl_135 rfl gk_135 (by decide) rfl rfl hl.1 rfl (lv_room (Nat.le_of_ble_eq_true rfl)) dX11_quarrels_13 ⟨Nat.zero_le _, Nat.zero_le _⟩) hG (fun h_13 g_13 H locs hq hG => ?_)
      replace HW := HW h_13 g_13 hq
      refine lv_iload_n hx hb dX11_quarrels_16 rfl (lv_at hl 3 rfl) ?_
      refine lv_i2l hx hb dX11_quarrels_17 rfl ?_
      refine lv_aload_n hx hb dX11_quarrels_18 rfl (lv_at hl 0 rfl) ?_
      refine g_geti hx hb hw inG11 hown hK hG gl_135 rfl gk_135 (by decide) 9 (by decide) (by rw [gm_135]; decide) gr_135_9 lk148 dX11_quarrels_19 ?_
      refine lv_i2l hx hb dX11_quarrels_22 rfl ?_
      refine lv_aload_n hx hb dX11_quarrels_23 rfl (lv_at hl 0 rfl) ?_
      refine g_geti hx hb hw inG11 hown hK hG gl_135 rfl gk_135 (by decide) 10 (by decide) (by rw [gm_135]; decide) gr_135_10 lk152 dX11_quarrels_24 ?_
      refine lv_i2l hx hb dX11_quarrels_27 rfl ?_
      obtain ⟨P_28, HC_28, HW⟩ := HW
      refine g_callz (g_runS (As := [.long ((x3).toInt64), .long (((h_13 135 9)).toInt64), .long (((h_13 135 10)).toInt64)]) (rest := []) ⟨hx, hb, hml, hown, hts⟩ (m_X11_in l D cy ad h_13 g_13 H.size ((x3).toInt64) (((h_13 135 9)).toInt64) (((h_13 135 10)).toInt64) P_28 HC_28) (va_cwS 3 hts (gd_S (wm5 111 rfl rfl) (wm5 112 rfl rfl) (wm1 13 rfl rfl) (wm5 113 rfl rfl)) rfl rfl rfl (by decide +kernel) ⟨Nat.le_of_ble_eq_true rfl, Nat.le_of_ble_eq_true rfl⟩) hK hNw hG rfl rfl hl.1 rfl (lv_room (Nat.le_of_ble_eq_true rfl)) dX11_quarrels_28 ⟨Nat.zero_le _, Nat.zero_le _⟩) hG (fun r_28 h_28 g_28 H locs hz hq hG => ?_)
      replace HW := HW r_28 h_28 g_28 hz hq
      refine lv_if_ne (tgt := 38) hx hb dX11_quarrels_31 (by decide) (fun c_31 => ?_) (fun c_31 => ?_)
      · replace HW := HW.1 c_31
        refine lv_iconst (v := 0) hx hb dX11_quarrels_38 (by decide) ?_
        exact W.zret (v := (0 : Int32)) hx hb hr rfl (fun t ht hW => ⟨⟨(0 : Int32), (h_28, g_28), rfl, ⟨Or.inl rfl, HW⟩, g_B ht hG⟩, hG.2.2.F ht⟩) hG.2.2.2.2 dX11_quarrels_39
      · replace HW := HW.2 c_31
        refine lv_iconst (v := 1) hx hb dX11_quarrels_34 (by decide) ?_
        refine lv_goto (tgt := 39) hx hb dX11_quarrels_35 (by decide) ?_
        exact W.zret (v := (1 : Int32)) hx hb hr rfl (fun t ht hW => ⟨⟨(1 : Int32), (h_28, g_28), rfl, ⟨Or.inr rfl, HW⟩, g_B ht hG⟩, hG.2.2.F ht⟩) hG.2.2.2.2 dX11_quarrels_39
    · replace HW := HW.2 c_6
      refine lv_iconst (v := 0) hx hb dX11_quarrels_9 (by decide) ?_
      exact W.zret (v := (0 : Int32)) hx hb hr rfl (fun t ht hW => ⟨⟨(0 : Int32), (h_3, g_3), rfl, ⟨Or.inl rfl, HW⟩, g_B ht hG⟩, hG.2.2.F ht⟩) hG.2.2.2.2 dX11_quarrels_10
  exact E0 _ _ _ hG hl

def j_X11_tries_107 (Q : HI → HL → Prop) (x3 : Int32) (x4 : Int32) (h : HI) (g : HL) : Prop :=
  (∀ h_110 : HI, h_110 = hu h 135 17 x4 → (∀ h_115 : HI, h_115 = hu h_110 135 16 x3 → Q h_115 g))
def j_X11_tries_64 (Q : HI → HL → Prop) (K35 : Int32 → Int32 → Int32 → Int32 → HI → HL → Prop) (x1 : Int32) (x3 : Int32) (x5 : Int32) (s0 : Int32) (s1 : Int32) (h : HI) (g : HL) : Prop :=
  (∀ x4_65 : Int32, x4_65 = (s0 + s1) → (∀ x5_67 : Int32, x5_67 = (x5 + 1) → K35 x1 x3 x4_65 x5_67 h g))
def b_X11_tries_35 (Q : HI → HL → Prop) (K35 : Int32 → Int32 → Int32 → Int32 → HI → HL → Prop) (x1 : Int32) (x3 : Int32) (x4 : Int32) (x5 : Int32) (h : HI) (g : HL) : Prop :=
  (vp_in (1 : Int32) 887 ∧ (((h 136 (1 : Int32).toNatClampNeg) ≤ x5 → (((h 135 17) = (-1 : Int32) → j_X11_tries_107 Q x3 x4 h g) ∧ (¬ (h 135 17) = (-1 : Int32) → ((x4 < (h 135 17) → j_X11_tries_107 Q x3 x4 h g) ∧ (¬ x4 < (h 135 17) → ((¬ x4 = (h 135 17) → Q h g) ∧ (x4 = (h 135 17) → (((h 135 16) ≤ x3 → Q h g) ∧ (¬ (h 135 16) ≤ x3 → j_X11_tries_107 Q x3 x4 h g))))))))) ∧ (¬ (h 136 (1 : Int32).toNatClampNeg) ≤ x5 → (∃ P_53 : Int32 → HI → HL → Prop, w_X11_quarrels x5 x1 x3 h g P_53 ∧ ∀ (r_53 : Int32) (h_53 : HI) (g_53 : HL), zb r_53 → P_53 r_53 h_53 g_53 → ((r_53 = 0 → j_X11_tries_64 Q K35 x1 x3 x5 x4 (0 : Int32) h_53 g_53) ∧ (¬ r_53 = 0 → j_X11_tries_64 Q K35 x1 x3 x5 x4 (1 : Int32) h_53 g_53))))))
def F_X11_tries_35 (Q : HI → HL → Prop) (K : Int32 × Int32 × Int32 × Int32 × HI × HL → Prop) (q : Int32 × Int32 × Int32 × Int32 × HI × HL) : Prop := b_X11_tries_35 Q (fun x1 x3 x4 x5 h g => K (x1, x3, x4, x5, h, g)) q.1 q.2.1 q.2.2.1 q.2.2.2.1 q.2.2.2.2.1 q.2.2.2.2.2
def w_X11_tries (x1 : Int32) (x2 : Int32) (h : HI) (g : HL) (Q : HI → HL → Prop) : Prop :=
  (∃ P_10 : Int32 → HI → HL → Prop, w_X11_in ((x2).toInt64) (0 : Int64) ((((h 135 13) - (1 : Int32))).toInt64) h g P_10 ∧ ∀ (r_10 : Int32) (h_10 : HI) (g_10 : HL), zb r_10 → P_10 r_10 h_10 g_10 → ((¬ r_10 = 0 → (∀ x3_28 : Int32, x3_28 = ((h_10 135 11) + ((h_10 135 12) * x2)) → lpE (F_X11_tries_35 Q) (x1, x3_28, (0 : Int32), (0 : Int32), h_10, g_10))) ∧ (r_10 = 0 → Q h_10 g_10)))
set_option maxHeartbeats 8000000 in
set_option maxRecDepth 100000 in
theorem m_X11_tries (l : Launch) (D : va_G) (cy : Nat → ClassId) (ad : Nat → Nat) (h : HI) (g : HL) (sz : Nat) (x1 : Int32) (x2 : Int32) (Q : HI → HL → Prop) (HW : w_X11_tries x1 x2 h g Q) : Met l yX11_tries (wa yX11_tries cX11_tries 6 none) ({ frames := 7, cells := 0, slots := 0, locals := 163 }) (va_Pc [.ref (ad 135), .int x1, .int x2] (gI D cy ad h g sz)) (va_Qv (fun (u : HI × HL) => Q u.1 u.2) (gB D cy ad sz) (gA ad sz)) 0 0 (gA ad sz) := by
  refine Met.ofW (cc := cX11_tries) (maxL := 6) (ret := none) (by decide) rfl ?_
  intro p e s m args below meth c s₁ B hml hv
  obtain ⟨hav, hsz, hP, hK, hD0, hNw⟩ := hv
  have hx := B.exec
  have hb := B.bytes
  have hr := B.returns
  have hts := atoms_spec (ws := (wa yX11_tries cX11_tries 6 none)) B.pre
  have hw := wa_hw hts
  have hown : s.vm.findClass RX11 = some m.cls := findClass_of_methodNamed B.named
  have hlocks := B.notSynchronized
  subst hsz
  have hG : gG D cy ad (gA ad s.heap.size) s.heap h g s.heap [] := ⟨hP, gA_self hD0, va_S.rf⟩
  clear hP hD0
  have lk161 := hw (.fieldLink RX11 161 "OldWorksModel" "many" "I") (wm5 40 rfl rfl)
  have lk155 := hw (.fieldLink RX11 155 "OldWorksModel" "least" "I") (wm5 38 rfl rfl)
  have lk158 := hw (.fieldLink RX11 158 "OldWorksModel" "stride" "I") (wm5 39 rfl rfl)
  have lk7 := hw (.fieldLink RX11 7 "OldWorksModel" "st" "[I") (wm5 27 rfl rfl)
  have lk194 := hw (.fieldLink RX11 194 "OldWorksModel" "bestMany" "I") (wm5 44 rfl rfl)
  have lk197 := hw (.fieldLink RX11 197 "OldWorksModel" "bestSize" "I") (wm5 43 rfl rfl)
  rw [show (headSpec (wa yX11_tries cX11_tries 6 none) ({ frames := 7, cells := 0, slots := 0, locals := 163 } : Room)).room = ({ frames := 7, cells := 0, slots := 0, locals := 163 } : Room) from rfl]
  have hl := lv_entry ([.ref (ad 135), .int x1, .int x2]) (n := 6) (Nat.le_of_ble_eq_true rfl)
  rw [show entryFrame m args 6 = entryFrame m ([.ref (ad 135), .int x1, .int x2] : List Value).toArray 6 from by rw [hav], lg_entry_eq]
  generalize (lg_sl ([.ref (ad 135), .int x1, .int x2]) ++ List.replicate (6 - (lg_sl ([.ref (ad 135), .int x1, .int x2])).length) Slot.unset).toArray = ls at hl ⊢
  have hl : lv_has ls 6 [(0, .ref (ad 135)), (1, .int x1), (2, .int x2)] := hl
  have B107 : ∀ (x3 : Int32) (x4 : Int32) (h : HI) (g : HL) (H : Heap) (locs : List Loc) (ls : Array Slot), j_X11_tries_107 Q x3 x4 h g → gG D cy ad (gA ad s.heap.size) s.heap h g H locs → lv_has ls 6 [(0, .ref (ad 135)), (3, .int x3), (4, .int x4)] → W p l e ({ frames := 7, cells := 0, slots := 0, locals := 163 } : Room) s m args below meth c H locs 0 0 (MQ below (va_Qv (fun (u : HI × HL) => Q u.1 u.2) (gB D cy ad s.heap.size) (gA ad s.heap.size)) args s 0 0 (gA ad s.heap.size)) (F0 m 107 ls []) := by
    intro x3 x4 h g H locs ls HW hG hl
    unfold j_X11_tries_107 at HW
    refine lv_aload_n hx hb dX11_tries_107 rfl (lv_at hl 0 rfl) ?_
    refine lv_iload hx hb dX11_tries_108 (lv_at hl 2 rfl) ?_
    refine g_put hx hb hw inG11 tyX11 tyX11_ok nmX11 hown hK hG gl_135 rfl gk_135 (by decide) 17 (by decide) (by rw [gm_135]; decide) gr_135_17 rfl (ty := .int) (by decide +kernel) rfl rfl lk194 dX11_tries_110 (fun H locs hG => ?_)
    obtain ⟨h_110, eh_110⟩ : ∃ y : HI, y = hu h 135 17 x4 := ⟨_, rfl⟩
    rw [← eh_110] at hG
    replace HW := HW h_110 eh_110
    refine lv_aload_n hx hb dX11_tries_113 rfl (lv_at hl 0 rfl) ?_
    refine lv_iload_n hx hb dX11_tries_114 rfl (lv_at hl 1 rfl) ?_
    refine g_put hx hb hw inG11 tyX11 tyX11_ok nmX11 hown hK hG gl_135 rfl gk_135 (by decide) 16 (by decide) (by rw [gm_135]; decide) gr_135_16 rfl (ty := .int) (by decide +kernel) rfl rfl lk197 dX11_tries_115 (fun H locs hG => ?_)
    obtain ⟨h_115, eh_115⟩ : ∃ y : HI, y = hu h_110 135 16 x3 := ⟨_, rfl⟩
    rw [← eh_115] at hG
    replace HW := HW h_115 eh_115
    exact W.vret hx hb hr (fun t ht hW => ⟨⟨(h_115, g), rfl, HW, g_B ht hG⟩, hG.2.2.F ht⟩) hG.2.2.2.2 dX11_tries_118
  have B64 : ∀ (K35 : Int32 → Int32 → Int32 → Int32 → HI → HL → Prop) (hK35 : ∀ (x1 : Int32) (x3 : Int32) (x4 : Int32) (x5 : Int32) (h : HI) (g : HL) (H : Heap) (locs : List Loc) (ls : Array Slot), K35 x1 x3 x4 x5 h g → gG D cy ad (gA ad s.heap.size) s.heap h g H locs → lv_has ls 6 [(0, .ref (ad 135)), (1, .int x1), (3, .int x3), (4, .int x4), (5, .int x5)] → W p l e ({ frames := 7, cells := 0, slots := 0, locals := 163 } : Room) s m args below meth c H locs 0 0 (MQ below (va_Qv (fun (u : HI × HL) => Q u.1 u.2) (gB D cy ad s.heap.size) (gA ad s.heap.size)) args s 0 0 (gA ad s.heap.size)) (F0 m 35 ls [])) (x1 : Int32) (x3 : Int32) (x5 : Int32) (s0 : Int32) (s1 : Int32) (h : HI) (g : HL) (H : Heap) (locs : List Loc) (ls : Array Slot), j_X11_tries_64 Q K35 x1 x3 x5 s0 s1 h g → gG D cy ad (gA ad s.heap.size) s.heap h g H locs → lv_has ls 6 [(0, .ref (ad 135)), (1, .int x1), (3, .int x3), (5, .int x5)] → W p l e ({ frames := 7, cells := 0, slots := 0, locals := 163 } : Room) s m args below meth c H locs 0 0 (MQ below (va_Qv (fun (u : HI × HL) => Q u.1 u.2) (gB D cy ad s.heap.size) (gA ad s.heap.size)) args s 0 0 (gA ad s.heap.size)) (F0 m 64 ls [.int s1, .int s0]) := by
    intro K35 hK35 x1 x3 x5 s0 s1 h g H locs ls HW hG hl
    unfold j_X11_tries_64 at HW
    refine lv_iadd hx hb dX11_tries_64 ?_
    refine lv_topi (fun x4_65 ex4_65 => ?_)
    replace HW := HW x4_65 ex4_65
    refine lv_istore (lv' := [(4, .int x4_65), (0, .ref (ad 135)), (1, .int x1), (3, .int x3), (5, .int x5)]) hx hb dX11_tries_65 hl (by decide) rfl (fun ls hl => ?_)
    obtain ⟨x5_67, ex5_67⟩ : ∃ y : Int32, y = (x5 + 1) := ⟨_, rfl⟩
    replace HW := HW x5_67 ex5_67
    refine lv_iinc (v := x5_67) (lv' := [(5, .int x5_67), (4, .int x4_65), (0, .ref (ad 135)), (1, .int x1), (3, .int x3)]) hx hb dX11_tries_67 hl (k := 4) rfl (by rw [ex5_67]; rfl) (by decide) rfl (fun ls hl => ?_)
    refine lv_goto (tgt := 35) hx hb dX11_tries_70 (by decide) ?_
    exact hK35 x1 x3 x4_65 x5_67 h g _ _ _ HW hG (lv_sub hl [2, 3, 4, 1, 0] rfl)
  have L35 : ∀ (n : Nat) (x1 : Int32) (x3 : Int32) (x4 : Int32) (x5 : Int32) (h : HI) (g : HL) (H : Heap) (locs : List Loc) (ls : Array Slot), lpN (F_X11_tries_35 Q) n (x1, x3, x4, x5, h, g) → gG D cy ad (gA ad s.heap.size) s.heap h g H locs → lv_has ls 6 [(0, .ref (ad 135)), (1, .int x1), (3, .int x3), (4, .int x4), (5, .int x5)] → W p l e ({ frames := 7, cells := 0, slots := 0, locals := 163 } : Room) s m args below meth c H locs 0 0 (MQ below (va_Qv (fun (u : HI × HL) => Q u.1 u.2) (gB D cy ad s.heap.size) (gA ad s.heap.size)) args s 0 0 (gA ad s.heap.size)) (F0 m 35 ls []) := by
    intro n
    induction n with
    | zero => intro x1 x3 x4 x5 h g H locs ls HW; exact HW.elim
    | succ n ih =>
      intro x1 x3 x4 x5 h g H locs ls HW hG hl
      have HW : b_X11_tries_35 Q (fun x1 x3 x4 x5 h g => lpN (F_X11_tries_35 Q) n (x1, x3, x4, x5, h, g)) x1 x3 x4 x5 h g := HW
      generalize hKe : (fun (x1 : Int32) (x3 : Int32) (x4 : Int32) (x5 : Int32) (h : HI) (g : HL) => lpN (F_X11_tries_35 Q) n (x1, x3, x4, x5, h, g)) = K35 at HW
      have hK35 : ∀ (x1 : Int32) (x3 : Int32) (x4 : Int32) (x5 : Int32) (h : HI) (g : HL) (H : Heap) (locs : List Loc) (ls : Array Slot), K35 x1 x3 x4 x5 h g → gG D cy ad (gA ad s.heap.size) s.heap h g H locs → lv_has ls 6 [(0, .ref (ad 135)), (1, .int x1), (3, .int x3), (4, .int x4), (5, .int x5)] → W p l e ({ frames := 7, cells := 0, slots := 0, locals := 163 } : Room) s m args below meth c H locs 0 0 (MQ below (va_Qv (fun (u : HI × HL) => Q u.1 u.2) (gB D cy ad s.heap.size) (gA ad s.heap.size)) args s 0 0 (gA ad s.heap.size)) (F0 m 35 ls []) := by subst hKe; exact ih
      clear ih
      clear hKe
      unfold b_X11_tries_35 at HW
      refine lv_iload hx hb dX11_tries_35 (lv_at hl 4 rfl) ?_
      refine lv_aload_n hx hb dX11_tries_37 rfl (lv_at hl 0 rfl) ?_
      refine g_getr hx hb hw inG11 hown hK hG gl_135 rfl gk_135 (by decide) 0 (by decide) (by rw [gm_135]; decide) (r := 136) gr_135_0 lk7 dX11_tries_38 ?_
      refine lv_iconst (v := 1) hx hb dX11_tries_41 (by decide) ?_
      refine g_iald hx hb hK hG gl_136 gk_136 gn_136 HW.1 dX11_tries_42 ?_
      replace HW := HW.2
      refine lv_icmp_ge (tgt := 73) hx hb dX11_tries_43 (by decide) (fun c_43 => ?_) (fun c_43 => ?_)
      · replace HW := HW.1 c_43
        refine lv_aload_n hx hb dX11_tries_73 rfl (lv_at hl 0 rfl) ?_
        refine g_geti hx hb hw inG11 hown hK hG gl_135 rfl gk_135 (by decide) 17 (by decide) (by rw [gm_135]; decide) gr_135_17 lk194 dX11_tries_74 ?_
        refine lv_iconst (v := (-1)) hx hb dX11_tries_77 (by decide) ?_
        refine lv_icmp_eq (tgt := 107) hx hb dX11_tries_78 (by decide) (fun c_78 => ?_) (fun c_78 => ?_)
        · replace HW := HW.1 c_78
          exact B107 x3 x4 h g _ _ _ HW hG (lv_sub hl [0, 2, 3] rfl)
        · replace HW := HW.2 c_78
          refine lv_iload hx hb dX11_tries_81 (lv_at hl 3 rfl) ?_
          refine lv_aload_n hx hb dX11_tries_83 rfl (lv_at hl 0 rfl) ?_
          refine g_geti hx hb hw inG11 hown hK hG gl_135 rfl gk_135 (by decide) 17 (by decide) (by rw [gm_135]; decide) gr_135_17 lk194 dX11_tries_84 ?_
          refine lv_icmp_lt (tgt := 107) hx hb dX11_tries_87 (by decide) (fun c_87 => ?_) (fun c_87 => ?_)
          · replace HW := HW.1 c_87
            exact B107 x3 x4 h g _ _ _ HW hG (lv_sub hl [0, 2, 3] rfl)
          · replace HW := HW.2 c_87
            refine lv_iload hx hb dX11_tries_90 (lv_at hl 3 rfl) ?_
            refine lv_aload_n hx hb dX11_tries_92 rfl (lv_at hl 0 rfl) ?_
            refine g_geti hx hb hw inG11 hown hK hG gl_135 rfl gk_135 (by decide) 17 (by decide) (by rw [gm_135]; decide) gr_135_17 lk194 dX11_tries_93 ?_
            refine lv_icmp_ne (tgt := 118) hx hb dX11_tries_96 (by decide) (fun c_96 => ?_) (fun c_96 => ?_)
            · replace HW := HW.1 c_96
              exact W.vret hx hb hr (fun t ht hW => ⟨⟨(h, g), rfl, HW, g_B ht hG⟩, hG.2.2.F ht⟩) hG.2.2.2.2 dX11_tries_118
            · replace HW := HW.2 c_96
              refine lv_iload_n hx hb dX11_tries_99 rfl (lv_at hl 2 rfl) ?_
              refine lv_aload_n hx hb dX11_tries_100 rfl (lv_at hl 0 rfl) ?_
              refine g_geti hx hb hw inG11 hown hK hG gl_135 rfl gk_135 (by decide) 16 (by decide) (by rw [gm_135]; decide) gr_135_16 lk197 dX11_tries_101 ?_
              refine lv_icmp_ge (tgt := 118) hx hb dX11_tries_104 (by decide) (fun c_104 => ?_) (fun c_104 => ?_)
              · replace HW := HW.1 c_104
                exact W.vret hx hb hr (fun t ht hW => ⟨⟨(h, g), rfl, HW, g_B ht hG⟩, hG.2.2.F ht⟩) hG.2.2.2.2 dX11_tries_118
              · replace HW := HW.2 c_104
                exact B107 x3 x4 h g _ _ _ HW hG (lv_sub hl [0, 2, 3] rfl)
      · replace HW := HW.2 c_43
        refine lv_iload hx hb dX11_tries_46 (lv_at hl 3 rfl) ?_
        refine lv_aload_n hx hb dX11_tries_48 rfl (lv_at hl 0 rfl) ?_
        refine lv_iload hx hb dX11_tries_49 (lv_at hl 4 rfl) ?_
        refine lv_iload_n hx hb dX11_tries_51 rfl (lv_at hl 1 rfl) ?_
        refine lv_iload_n hx hb dX11_tries_52 rfl (lv_at hl 2 rfl) ?_
        obtain ⟨P_53, HC_53, HW⟩ := HW
        refine g_callz (g_runV (As := [.int x5, .int x1, .int x3]) (rest := [.int x4]) ⟨hx, hb, hml, hown, hts⟩ (m_X11_quarrels l D cy ad h g H.size x5 x1 x3 P_53 HC_53) (cwV 3 hts (gd_V (wm6 16 rfl rfl) (wm6 18 rfl rfl) (wmp4 (q := (yX11_quarrels, 26)) 10 rfl) (wm1 13 rfl rfl) (wm6 19 rfl rfl)) rfl rfl rfl (by decide +kernel) ⟨Nat.le_of_ble_eq_true rfl, Nat.le_of_ble_eq_true rfl⟩) hK hNw hG gl_135 rfl gk_135 (by decide) rfl rfl hl.1 rfl (lv_room (Nat.le_of_ble_eq_true rfl)) dX11_tries_53 ⟨Nat.zero_le _, Nat.zero_le _⟩) hG (fun r_53 h_53 g_53 H locs hz hq hG => ?_)
        replace HW := HW r_53 h_53 g_53 hz hq
        refine lv_if_eq (tgt := 63) hx hb dX11_tries_56 (by decide) (fun c_56 => ?_) (fun c_56 => ?_)
        · replace HW := HW.1 c_56
          refine lv_iconst (v := 0) hx hb dX11_tries_63 (by decide) ?_
          exact B64 K35 hK35 x1 x3 x5 x4 (0 : Int32) h_53 g_53 _ _ _ HW hG (lv_sub hl [0, 1, 2, 4] rfl)
        · replace HW := HW.2 c_56
          refine lv_iconst (v := 1) hx hb dX11_tries_59 (by decide) ?_
          refine lv_goto (tgt := 64) hx hb dX11_tries_60 (by decide) ?_
          exact B64 K35 hK35 x1 x3 x5 x4 (1 : Int32) h_53 g_53 _ _ _ HW hG (lv_sub hl [0, 1, 2, 4] rfl)
  have E0 : ∀ (H : Heap) (locs : List Loc) (ls : Array Slot), gG D cy ad (gA ad s.heap.size) s.heap h g H locs → lv_has ls 6 [(0, .ref (ad 135)), (1, .int x1), (2, .int x2)] → W p l e ({ frames := 7, cells := 0, slots := 0, locals := 163 } : Room) s m args below meth c H locs 0 0 (MQ below (va_Qv (fun (u : HI × HL) => Q u.1 u.2) (gB D cy ad s.heap.size) (gA ad s.heap.size)) args s 0 0 (gA ad s.heap.size)) (F0 m 0 ls []) := by
    intro H locs ls hG hl
    unfold w_X11_tries at HW
    refine lv_iload_n hx hb dX11_tries_0 rfl (lv_at hl 2 rfl) ?_
    refine lv_i2l hx hb dX11_tries_1 rfl ?_
    refine lv_lconst (v := 0) hx hb dX11_tries_2 (by decide) ?_
    refine lv_aload_n hx hb dX11_tries_3 rfl (lv_at hl 0 rfl) ?_
    refine g_geti hx hb hw inG11 hown hK hG gl_135 rfl gk_135 (by decide) 13 (by decide) (by rw [gm_135]; decide) gr_135_13 lk161 dX11_tries_4 ?_
    refine lv_iconst (v := 1) hx hb dX11_tries_7 (by decide) ?_
    refine lv_isub hx hb dX11_tries_8 ?_
    refine lv_i2l hx hb dX11_tries_9 rfl ?_
    obtain ⟨P_10, HC_10, HW⟩ := HW
    refine g_callz (g_runS (As := [.long ((x2).toInt64), .long (0 : Int64), .long ((((h 135 13) - (1 : Int32))).toInt64)]) (rest := []) ⟨hx, hb, hml, hown, hts⟩ (m_X11_in l D cy ad h g H.size ((x2).toInt64) (0 : Int64) ((((h 135 13) - (1 : Int32))).toInt64) P_10 HC_10) (va_cwS 3 hts (gd_S (wm5 111 rfl rfl) (wm5 112 rfl rfl) (wm1 13 rfl rfl) (wm5 113 rfl rfl)) rfl rfl rfl (by decide +kernel) ⟨Nat.le_of_ble_eq_true rfl, Nat.le_of_ble_eq_true rfl⟩) hK hNw hG rfl rfl hl.1 rfl (lv_room (Nat.le_of_ble_eq_true rfl)) dX11_tries_10 ⟨Nat.zero_le _, Nat.zero_le _⟩) hG (fun r_10 h_10 g_10 H locs hz hq hG => ?_)
    replace HW := HW r_10 h_10 g_10 hz hq
    refine lv_if_ne (tgt := 17) hx hb dX11_tries_13 (by decide) (fun c_13 => ?_) (fun c_13 => ?_)
    · replace HW := HW.1 c_13
      refine lv_aload_n hx hb dX11_tries_17 rfl (lv_at hl 0 rfl) ?_
      refine g_geti hx hb hw inG11 hown hK hG gl_135 rfl gk_135 (by decide) 11 (by decide) (by rw [gm_135]; decide) gr_135_11 lk155 dX11_tries_18 ?_
      refine lv_aload_n hx hb dX11_tries_21 rfl (lv_at hl 0 rfl) ?_
      refine g_geti hx hb hw inG11 hown hK hG gl_135 rfl gk_135 (by decide) 12 (by decide) (by rw [gm_135]; decide) gr_135_12 lk158 dX11_tries_22 ?_
      refine lv_iload_n hx hb dX11_tries_25 rfl (lv_at hl 2 rfl) ?_
      refine lv_imul hx hb dX11_tries_26 ?_
      refine lv_iadd hx hb dX11_tries_27 ?_
      refine lv_topi (fun x3_28 ex3_28 => ?_)
      replace HW := HW x3_28 ex3_28
      refine lv_istore_n (lv' := [(3, .int x3_28), (0, .ref (ad 135)), (1, .int x1), (2, .int x2)]) hx hb dX11_tries_28 rfl hl (by decide) rfl (fun ls hl => ?_)
      refine lv_iconst (v := 0) hx hb dX11_tries_29 (by decide) ?_
      refine lv_istore (lv' := [(4, .int (0 : Int32)), (3, .int x3_28), (0, .ref (ad 135)), (1, .int x1), (2, .int x2)]) hx hb dX11_tries_30 hl (by decide) rfl (fun ls hl => ?_)
      refine lv_iconst (v := 0) hx hb dX11_tries_32 (by decide) ?_
      refine lv_istore (lv' := [(5, .int (0 : Int32)), (4, .int (0 : Int32)), (3, .int x3_28), (0, .ref (ad 135)), (1, .int x1), (2, .int x2)]) hx hb dX11_tries_33 hl (by decide) rfl (fun ls hl => ?_)
      obtain ⟨n_35, HW⟩ := HW
      exact L35 n_35 x1 x3_28 (0 : Int32) (0 : Int32) h_10 g_10 _ _ _ HW hG (lv_sub hl [3, 4, 2, 1, 0] rfl)
    · replace HW := HW.2 c_13
      exact W.vret hx hb hr (fun t ht hW => ⟨⟨(h_10, g_10), rfl, HW, g_B ht hG⟩, hG.2.2.F ht⟩) hG.2.2.2.2 dX11_tries_16
  exact E0 _ _ _ hG hl
end
section
-- 03.w17
def j_X11_quarrel_165 (Q : Int32 → HI → HL → Prop) (K129 : Int32 → Int32 → Int32 → Int32 → HI → HL → Prop) (x1 : Int32) (x2 : Int32) (x3 : Int32) (x4 : Int32) (h : HI) (g : HL) : Prop :=
  (∀ x4_165 : Int32, x4_165 = (x4 + 1) → K129 x1 x2 x3 x4_165 h g)
def b_X11_quarrel_129 (Q : Int32 → HI → HL → Prop) (K129 : Int32 → Int32 → Int32 → Int32 → HI → HL → Prop) (x1 : Int32) (x2 : Int32) (x3 : Int32) (x4 : Int32) (h : HI) (g : HL) : Prop :=
  (vp_in (1 : Int32) 887 ∧ (((h 136 (1 : Int32).toNatClampNeg) ≤ x4 → Q (-1 : Int32) h g) ∧ (¬ (h 136 (1 : Int32).toNatClampNeg) ≤ x4 → (∃ P_148 : Int32 → HI → HL → Prop, w_X11_quarrels x4 x1 (h 135 16) h g P_148 ∧ ∀ (r_148 : Int32) (h_148 : HI) (g_148 : HL), zb r_148 → P_148 r_148 h_148 g_148 → ((r_148 = 0 → j_X11_quarrel_165 Q K129 x1 x2 x3 x4 h_148 g_148) ∧ (¬ r_148 = 0 → ((¬ x3 = x2 → (∀ x3_162 : Int32, x3_162 = (x3 + 1) → j_X11_quarrel_165 Q K129 x1 x2 x3_162 x4 h_148 g_148)) ∧ (x3 = x2 → Q x4 h_148 g_148))))))))
def F_X11_quarrel_129 (Q : Int32 → HI → HL → Prop) (K : Int32 × Int32 × Int32 × Int32 × HI × HL → Prop) (q : Int32 × Int32 × Int32 × Int32 × HI × HL) : Prop := b_X11_quarrel_129 Q (fun x1 x2 x3 x4 h g => K (x1, x2, x3, x4, h, g)) q.1 q.2.1 q.2.2.1 q.2.2.2.1 q.2.2.2.2.1 q.2.2.2.2.2
def j_X11_quarrel_97 (Q : Int32 → HI → HL → Prop) (K41 : Int32 → Int32 → Int32 → HI → HL → Prop) (x1 : Int32) (x2 : Int32) (x3 : Int32) (h : HI) (g : HL) : Prop :=
  (∀ x3_97 : Int32, x3_97 = (x3 + 1) → K41 x1 x2 x3_97 h g)
def b_X11_quarrel_41 (Q : Int32 → HI → HL → Prop) (K41 : Int32 → Int32 → Int32 → HI → HL → Prop) (x1 : Int32) (x2 : Int32) (x3 : Int32) (h : HI) (g : HL) : Prop :=
  (vp_in (1 : Int32) 887 ∧ (((h 136 (1 : Int32).toNatClampNeg) ≤ x3 → ((0 ≤ x2 → lpE (F_X11_quarrel_129 Q) (x1, x2, (0 : Int32), (0 : Int32), h, g)) ∧ (¬ 0 ≤ x2 → ((¬ x2 = (-1 : Int32) → Q (h 135 16) h g) ∧ (x2 = (-1 : Int32) → Q (h 135 17) h g))))) ∧ (¬ (h 136 (1 : Int32).toNatClampNeg) ≤ x3 → (∃ P_54 : Int32 → HI → HL → Prop, w_X11_isOf x3 x1 h g P_54 ∧ ∀ (r_54 : Int32) (h_54 : HI) (g_54 : HL), zb r_54 → P_54 r_54 h_54 g_54 → ((r_54 = 0 → j_X11_quarrel_97 Q K41 x1 x2 x3 h_54 g_54) ∧ (¬ r_54 = 0 → (∃ P_62 : HI → HL → Prop, w_X11_lets x3 h_54 g_54 P_62 ∧ ∀ (h_62 : HI) (g_62 : HL), P_62 h_62 g_62 → (∀ x4_69 : Int32, x4_69 = (h_62 135 10) → (∃ P_78 : Int32 → HI → HL → Prop, w_X11_numberFrom (h_62 135 9) h_62 g_62 P_78 ∧ ∀ (r_78 : Int32) (h_78 : HI) (g_78 : HL), P_78 r_78 h_78 g_78 → (∃ P_81 : HI → HL → Prop, w_X11_tries x1 r_78 h_78 g_78 P_81 ∧ ∀ (h_81 : HI) (g_81 : HL), P_81 h_81 g_81 → (∃ P_91 : Int32 → HI → HL → Prop, w_X11_numberFrom (x4_69 + (1 : Int32)) h_81 g_81 P_91 ∧ ∀ (r_91 : Int32) (h_91 : HI) (g_91 : HL), P_91 r_91 h_91 g_91 → (∃ P_94 : HI → HL → Prop, w_X11_tries x1 r_91 h_91 g_91 P_94 ∧ ∀ (h_94 : HI) (g_94 : HL), P_94 h_94 g_94 → j_X11_quarrel_97 Q K41 x1 x2 x3 h_94 g_94))))))))))))
def F_X11_quarrel_41 (Q : Int32 → HI → HL → Prop) (K : Int32 × Int32 × Int32 × HI × HL → Prop) (q : Int32 × Int32 × Int32 × HI × HL) : Prop := b_X11_quarrel_41 Q (fun x1 x2 x3 h g => K (x1, x2, x3, h, g)) q.1 q.2.1 q.2.2.1 q.2.2.2.1 q.2.2.2.2
def j_X11_quarrel_23 (Q : Int32 → HI → HL → Prop) (x1 : Int32) (x2 : Int32) (h : HI) (g : HL) : Prop :=
  (∃ P_25 : HI → HL → Prop, w_X11_findFamily x1 h g P_25 ∧ ∀ (h_25 : HI) (g_25 : HL), P_25 h_25 g_25 → (∀ h_30 : HI, h_30 = hu h_25 135 17 (-1 : Int32) → (∃ P_36 : HI → HL → Prop, w_X11_tries x1 (0 : Int32) h_30 g_25 P_36 ∧ ∀ (h_36 : HI) (g_36 : HL), P_36 h_36 g_36 → lpE (F_X11_quarrel_41 Q) (x1, x2, (0 : Int32), h_36, g_36))))
def w_X11_quarrel (x1 : Int32) (x2 : Int32) (h : HI) (g : HL) (Q : Int32 → HI → HL → Prop) : Prop :=
  (∃ P_3 : Int32 → HI → HL → Prop, w_X11_is (0 : Int32) x1 h g P_3 ∧ ∀ (r_3 : Int32) (h_3 : HI) (g_3 : HL), zb r_3 → P_3 r_3 h_3 g_3 → ((r_3 = 0 → Q (-10 : Int32) h_3 g_3) ∧ (¬ r_3 = 0 → (((-1 : Int32) ≤ x2 → j_X11_quarrel_23 Q x1 x2 h_3 g_3) ∧ (¬ (-1 : Int32) ≤ x2 → ((x2 = (-3 : Int32) → j_X11_quarrel_23 Q x1 x2 h_3 g_3) ∧ (¬ x2 = (-3 : Int32) → Q (-10 : Int32) h_3 g_3)))))))
set_option maxHeartbeats 8000000 in
set_option maxRecDepth 100000 in
theorem m_X11_quarrel (l : Launch) (D : va_G) (cy : Nat → ClassId) (ad : Nat → Nat) (h : HI) (g : HL) (sz : Nat) (x1 : Int32) (x2 : Int32) (Q : Int32 → HI → HL → Prop) (HW : w_X11_quarrel x1 x2 h g Q) : Met l yX11_quarrel (wa yX11_quarrel cX11_quarrel 5 (some .int)) ({ frames := 8, cells := 0, slots := 0, locals := 188 }) (va_Pc [.ref (ad 135), .int x1, .int x2] (gI D cy ad h g sz)) (va_Qi (fun (r : Int32) (u : HI × HL) => Q r u.1 u.2) (gB D cy ad sz) (gA ad sz)) 0 0 (gA ad sz) := by
  refine Met.ofW (cc := cX11_quarrel) (maxL := 5) (ret := (some .int)) (by decide) rfl ?_
  intro p e s m args below meth c s₁ B hml hv
  obtain ⟨hav, hsz, hP, hK, hD0, hNw⟩ := hv
  have hx := B.exec
  have hb := B.bytes
  have hr := B.returns
  have hts := atoms_spec (ws := (wa yX11_quarrel cX11_quarrel 5 (some .int))) B.pre
  have hw := wa_hw hts
  have hown : s.vm.findClass RX11 = some m.cls := findClass_of_methodNamed B.named
  have hlocks := B.notSynchronized
  subst hsz
  have hG : gG D cy ad (gA ad s.heap.size) s.heap h g s.heap [] := ⟨hP, gA_self hD0, va_S.rf⟩
  clear hP hD0
  have lk194 := hw (.fieldLink RX11 194 "OldWorksModel" "bestMany" "I") (wm5 44 rfl rfl)
  have lk7 := hw (.fieldLink RX11 7 "OldWorksModel" "st" "[I") (wm5 27 rfl rfl)
  have lk197 := hw (.fieldLink RX11 197 "OldWorksModel" "bestSize" "I") (wm5 43 rfl rfl)
  have lk152 := hw (.fieldLink RX11 152 "OldWorksModel" "high" "I") (wm5 37 rfl rfl)
  have lk148 := hw (.fieldLink RX11 148 "OldWorksModel" "low" "I") (wm5 36 rfl rfl)
  rw [show (headSpec (wa yX11_quarrel cX11_quarrel 5 (some .int)) ({ frames := 8, cells := 0, slots := 0, locals := 188 } : Room)).room = ({ frames := 8, cells := 0, slots := 0, locals := 188 } : Room) from rfl]
  have hl := lv_entry ([.ref (ad 135), .int x1, .int x2]) (n := 5) (Nat.le_of_ble_eq_true rfl)
  rw [show entryFrame m args 5 = entryFrame m ([.ref (ad 135), .int x1, .int x2] : List Value).toArray 5 from by rw [hav], lg_entry_eq]
  generalize (lg_sl ([.ref (ad 135), .int x1, .int x2]) ++ List.replicate (5 - (lg_sl ([.ref (ad 135), .int x1, .int x2])).length) Slot.unset).toArray = ls at hl ⊢
  have hl : lv_has ls 5 [(0, .ref (ad 135)), (1, .int x1), (2, .int x2)] := hl
  have B165 : ∀ (K129 : Int32 → Int32 → Int32 → Int32 → HI → HL → Prop) (hK129 : ∀ (x1 : Int32) (x2 : Int32) (x3 : Int32) (x4 : Int32) (h : HI) (g : HL) (H : Heap) (locs : List Loc) (ls : Array Slot), K129 x1 x2 x3 x4 h g → gG D cy ad (gA ad s.heap.size) s.heap h g H locs → lv_has ls 5 [(0, .ref (ad 135)), (1, .int x1), (2, .int x2), (3, .int x3), (4, .int x4)] → W p l e ({ frames := 8, cells := 0, slots := 0, locals := 188 } : Room) s m args below meth c H locs 0 0 (MQ below (va_Qi (fun (r : Int32) (u : HI × HL) => Q r u.1 u.2) (gB D cy ad s.heap.size) (gA ad s.heap.size)) args s 0 0 (gA ad s.heap.size)) (F0 m 129 ls [])) (x1 : Int32) (x2 : Int32) (x3 : Int32) (x4 : Int32) (h : HI) (g : HL) (H : Heap) (locs : List Loc) (ls : Array Slot), j_X11_quarrel_165 Q K129 x1 x2 x3 x4 h g → gG D cy ad (gA ad s.heap.size) s.heap h g H locs → lv_has ls 5 [(0, .ref (ad 135)), (1, .int x1), (2, .int x2), (3, .int x3), (4, .int x4)] → W p l e ({ frames := 8, cells := 0, slots := 0, locals := 188 } : Room) s m args below meth c H locs 0 0 (MQ below (va_Qi (fun (r : Int32) (u : HI × HL) => Q r u.1 u.2) (gB D cy ad s.heap.size) (gA ad s.heap.size)) args s 0 0 (gA ad s.heap.size)) (F0 m 165 ls []) := by
    intro K129 hK129 x1 x2 x3 x4 h g H locs ls HW hG hl
    unfold j_X11_quarrel_165 at HW
    obtain ⟨x4_165, ex4_165⟩ : ∃ y : Int32, y = (x4 + 1) := ⟨_, rfl⟩
    replace HW := HW x4_165 ex4_165
    refine lv_iinc (v := x4_165) (lv' := [(4, .int x4_165), (0, .ref (ad 135)), (1, .int x1), (2, .int x2), (3, .int x3)]) hx hb dX11_quarrel_165 hl (k := 4) rfl (by rw [ex4_165]; rfl) (by decide) rfl (fun ls hl => ?_)
    refine lv_goto (tgt := 129) hx hb dX11_quarrel_168 (by decide) ?_
    exact hK129 x1 x2 x3 x4_165 h g _ _ _ HW hG (lv_sub hl [1, 2, 3, 4, 0] rfl)
  have L129 : ∀ (n : Nat) (x1 : Int32) (x2 : Int32) (x3 : Int32) (x4 : Int32) (h : HI) (g : HL) (H : Heap) (locs : List Loc) (ls : Array Slot), lpN (F_X11_quarrel_129 Q) n (x1, x2, x3, x4, h, g) → gG D cy ad (gA ad s.heap.size) s.heap h g H locs → lv_has ls 5 [(0, .ref (ad 135)), (1, .int x1), (2, .int x2), (3, .int x3), (4, .int x4)] → W p l e ({ frames := 8, cells := 0, slots := 0, locals := 188 } : Room) s m args below meth c H locs 0 0 (MQ below (va_Qi (fun (r : Int32) (u : HI × HL) => Q r u.1 u.2) (gB D cy ad s.heap.size) (gA ad s.heap.size)) args s 0 0 (gA ad s.heap.size)) (F0 m 129 ls []) := by
    intro n
    induction n with
    | zero => intro x1 x2 x3 x4 h g H locs ls HW; exact HW.elim
    | succ n ih =>
      intro x1 x2 x3 x4 h g H locs ls HW hG hl
      have HW : b_X11_quarrel_129 Q (fun x1 x2 x3 x4 h g => lpN (F_X11_quarrel_129 Q) n (x1, x2, x3, x4, h, g)) x1 x2 x3 x4 h g := HW
      generalize hKe : (fun (x1 : Int32) (x2 : Int32) (x3 : Int32) (x4 : Int32) (h : HI) (g : HL) => lpN (F_X11_quarrel_129 Q) n (x1, x2, x3, x4, h, g)) = K129 at HW
      have hK129 : ∀ (x1 : Int32) (x2 : Int32) (x3 : Int32) (x4 : Int32) (h : HI) (g : HL) (H : Heap) (locs : List Loc) (ls : Array Slot), K129 x1 x2 x3 x4 h g → gG D cy ad (gA ad s.heap.size) s.heap h g H locs → lv_has ls 5 [(0, .ref (ad 135)), (1, .int x1), (2, .int x2), (3, .int x3), (4, .int x4)] → W p l e ({ frames := 8, cells := 0, slots := 0, locals := 188 } : Room) s m args below meth c H locs 0 0 (MQ below (va_Qi (fun (r : Int32) (u : HI × HL) => Q r u.1 u.2) (gB D cy ad s.heap.size) (gA ad s.heap.size)) args s 0 0 (gA ad s.heap.size)) (F0 m 129 ls []) := by subst hKe; exact ih
      clear ih
      clear hKe
      unfold b_X11_quarrel_129 at HW
      refine lv_iload hx hb dX11_quarrel_129 (lv_at hl 4 rfl) ?_
      refine lv_aload_n hx hb dX11_quarrel_131 rfl (lv_at hl 0 rfl) ?_
      refine g_getr hx hb hw inG11 hown hK hG gl_135 rfl gk_135 (by decide) 0 (by decide) (by rw [gm_135]; decide) (r := 136) gr_135_0 lk7 dX11_quarrel_132 ?_
      refine lv_iconst (v := 1) hx hb dX11_quarrel_135 (by decide) ?_
      refine g_iald hx hb hK hG gl_136 gk_136 gn_136 HW.1 dX11_quarrel_136 ?_
      replace HW := HW.2
      refine lv_icmp_ge (tgt := 171) hx hb dX11_quarrel_137 (by decide) (fun c_137 => ?_) (fun c_137 => ?_)
      · replace HW := HW.1 c_137
        refine lv_iconst (v := (-1)) hx hb dX11_quarrel_171 (by decide) ?_
        exact W.iret (v := (-1 : Int32)) hx hb hr (fun t ht hW => ⟨⟨(-1 : Int32), (h, g), rfl, HW, g_B ht hG⟩, hG.2.2.F ht⟩) hG.2.2.2.2 dX11_quarrel_172
      · replace HW := HW.2 c_137
        refine lv_aload_n hx hb dX11_quarrel_140 rfl (lv_at hl 0 rfl) ?_
        refine lv_iload hx hb dX11_quarrel_141 (lv_at hl 4 rfl) ?_
        refine lv_iload_n hx hb dX11_quarrel_143 rfl (lv_at hl 1 rfl) ?_
        refine lv_aload_n hx hb dX11_quarrel_144 rfl (lv_at hl 0 rfl) ?_
        refine g_geti hx hb hw inG11 hown hK hG gl_135 rfl gk_135 (by decide) 16 (by decide) (by rw [gm_135]; decide) gr_135_16 lk197 dX11_quarrel_145 ?_
        obtain ⟨P_148, HC_148, HW⟩ := HW
        refine g_callz (g_runV (As := [.int x4, .int x1, .int (h 135 16)]) (rest := []) ⟨hx, hb, hml, hown, hts⟩ (m_X11_quarrels l D cy ad h g H.size x4 x1 (h 135 16) P_148 HC_148) (cwV 3 hts (gd_V (wm6 16 rfl rfl) (wm6 18 rfl rfl) (wmp4 (q := (yX11_quarrels, 26)) 10 rfl) (wm1 13 rfl rfl) (wm6 19 rfl rfl)) rfl rfl rfl (by decide +kernel) ⟨Nat.le_of_ble_eq_true rfl, Nat.le_of_ble_eq_true rfl⟩) hK hNw hG gl_135 rfl gk_135 (by decide) rfl rfl hl.1 rfl (lv_room (Nat.le_of_ble_eq_true rfl)) dX11_quarrel_148 ⟨Nat.zero_le _, Nat.zero_le _⟩) hG (fun r_148 h_148 g_148 H locs hz hq hG => ?_)
        replace HW := HW r_148 h_148 g_148 hz hq
        refine lv_if_eq (tgt := 165) hx hb dX11_quarrel_151 (by decide) (fun c_151 => ?_) (fun c_151 => ?_)
        · replace HW := HW.1 c_151
          exact B165 K129 hK129 x1 x2 x3 x4 h_148 g_148 _ _ _ HW hG (lv_sub hl [0, 1, 2, 3, 4] rfl)
        · replace HW := HW.2 c_151
          refine lv_iload_n hx hb dX11_quarrel_154 rfl (lv_at hl 3 rfl) ?_
          refine lv_iload_n hx hb dX11_quarrel_155 rfl (lv_at hl 2 rfl) ?_
          refine lv_icmp_ne (tgt := 162) hx hb dX11_quarrel_156 (by decide) (fun c_156 => ?_) (fun c_156 => ?_)
          · replace HW := HW.1 c_156
            obtain ⟨x3_162, ex3_162⟩ : ∃ y : Int32, y = (x3 + 1) := ⟨_, rfl⟩
            replace HW := HW x3_162 ex3_162
            refine lv_iinc (v := x3_162) (lv' := [(3, .int x3_162), (0, .ref (ad 135)), (1, .int x1), (2, .int x2), (4, .int x4)]) hx hb dX11_quarrel_162 hl (k := 3) rfl (by rw [ex3_162]; rfl) (by decide) rfl (fun ls hl => ?_)
            exact B165 K129 hK129 x1 x2 x3_162 x4 h_148 g_148 _ _ _ HW hG (lv_sub hl [1, 2, 3, 0, 4] rfl)
          · replace HW := HW.2 c_156
            refine lv_iload hx hb dX11_quarrel_159 (lv_at hl 4 rfl) ?_
            exact W.iret (v := x4) hx hb hr (fun t ht hW => ⟨⟨x4, (h_148, g_148), rfl, HW, g_B ht hG⟩, hG.2.2.F ht⟩) hG.2.2.2.2 dX11_quarrel_161
  have B97 : ∀ (K41 : Int32 → Int32 → Int32 → HI → HL → Prop) (hK41 : ∀ (x1 : Int32) (x2 : Int32) (x3 : Int32) (h : HI) (g : HL) (H : Heap) (locs : List Loc) (ls : Array Slot), K41 x1 x2 x3 h g → gG D cy ad (gA ad s.heap.size) s.heap h g H locs → lv_has ls 5 [(0, .ref (ad 135)), (1, .int x1), (2, .int x2), (3, .int x3)] → W p l e ({ frames := 8, cells := 0, slots := 0, locals := 188 } : Room) s m args below meth c H locs 0 0 (MQ below (va_Qi (fun (r : Int32) (u : HI × HL) => Q r u.1 u.2) (gB D cy ad s.heap.size) (gA ad s.heap.size)) args s 0 0 (gA ad s.heap.size)) (F0 m 41 ls [])) (x1 : Int32) (x2 : Int32) (x3 : Int32) (h : HI) (g : HL) (H : Heap) (locs : List Loc) (ls : Array Slot), j_X11_quarrel_97 Q K41 x1 x2 x3 h g → gG D cy ad (gA ad s.heap.size) s.heap h g H locs → lv_has ls 5 [(0, .ref (ad 135)), (1, .int x1), (2, .int x2), (3, .int x3)] → W p l e ({ frames := 8, cells := 0, slots := 0, locals := 188 } : Room) s m args below meth c H locs 0 0 (MQ below (va_Qi (fun (r : Int32) (u : HI × HL) => Q r u.1 u.2) (gB D cy ad s.heap.size) (gA ad s.heap.size)) args s 0 0 (gA ad s.heap.size)) (F0 m 97 ls []) := by
    intro K41 hK41 x1 x2 x3 h g H locs ls HW hG hl
    unfold j_X11_quarrel_97 at HW
    obtain ⟨x3_97, ex3_97⟩ : ∃ y : Int32, y = (x3 + 1) := ⟨_, rfl⟩
    replace HW := HW x3_97 ex3_97
    refine lv_iinc (v := x3_97) (lv' := [(3, .int x3_97), (0, .ref (ad 135)), (1, .int x1), (2, .int x2)]) hx hb dX11_quarrel_97 hl (k := 3) rfl (by rw [ex3_97]; rfl) (by decide) rfl (fun ls hl => ?_)
    refine lv_goto (tgt := 41) hx hb dX11_quarrel_100 (by decide) ?_
    exact hK41 x1 x2 x3_97 h g _ _ _ HW hG (lv_sub hl [1, 2, 3, 0] rfl)
  have L41 : ∀ (n : Nat) (x1 : Int32) (x2 : Int32) (x3 : Int32) (h : HI) (g : HL) (H : Heap) (locs : List Loc) (ls : Array Slot), lpN (F_X11_quarrel_41 Q) n (x1, x2, x3, h, g) → gG D cy ad (gA ad s.heap.size) s.heap h g H locs → lv_has ls 5 [(0, .ref (ad 135)), (1, .int x1), (2, .int x2), (3, .int x3)] → W p l e ({ frames := 8, cells := 0, slots := 0, locals := 188 } : Room) s m args below meth c H locs 0 0 (MQ below (va_Qi (fun (r : Int32) (u : HI × HL) => Q r u.1 u.2) (gB D cy ad s.heap.size) (gA ad s.heap.size)) args s 0 0 (gA ad s.heap.size)) (F0 m 41 ls []) := by
    intro n
    induction n with
    | zero => intro x1 x2 x3 h g H locs ls HW; exact HW.elim
    | succ n ih =>
      intro x1 x2 x3 h g H locs ls HW hG hl
      have HW : b_X11_quarrel_41 Q (fun x1 x2 x3 h g => lpN (F_X11_quarrel_41 Q) n (x1, x2, x3, h, g)) x1 x2 x3 h g := HW
      generalize hKe : (fun (x1 : Int32) (x2 : Int32) (x3 : Int32) (h : HI) (g : HL) => lpN (F_X11_quarrel_41 Q) n (x1, x2, x3, h, g)) = K41 at HW
      have hK41 : ∀ (x1 : Int32) (x2 : Int32) (x3 : Int32) (h : HI) (g : HL) (H : Heap) (locs : List Loc) (ls : Array Slot), K41 x1 x2 x3 h g → gG D cy ad (gA ad s.heap.size) s.heap h g H locs → lv_has ls 5 [(0, .ref (ad 135)), (1, .int x1), (2, .int x2), (3, .int x3)] → W p l e ({ frames := 8, cells := 0, slots := 0, locals := 188 } : Room) s m args below meth c H locs 0 0 (MQ below (va_Qi (fun (r : Int32) (u : HI × HL) => Q r u.1 u.2) (gB D cy ad s.heap.size) (gA ad s.heap.size)) args s 0 0 (gA ad s.heap.size)) (F0 m 41 ls []) := by subst hKe; exact ih
      clear ih
      clear hKe
      unfold b_X11_quarrel_41 at HW
      refine lv_iload_n hx hb dX11_quarrel_41 rfl (lv_at hl 3 rfl) ?_
      refine lv_aload_n hx hb dX11_quarrel_42 rfl (lv_at hl 0 rfl) ?_
      refine g_getr hx hb hw inG11 hown hK hG gl_135 rfl gk_135 (by decide) 0 (by decide) (by rw [gm_135]; decide) (r := 136) gr_135_0 lk7 dX11_quarrel_43 ?_
      refine lv_iconst (v := 1) hx hb dX11_quarrel_46 (by decide) ?_
      refine g_iald hx hb hK hG gl_136 gk_136 gn_136 HW.1 dX11_quarrel_47 ?_
      replace HW := HW.2
      refine lv_icmp_ge (tgt := 103) hx hb dX11_quarrel_48 (by decide) (fun c_48 => ?_) (fun c_48 => ?_)
      · replace HW := HW.1 c_48
        refine lv_iload_n hx hb dX11_quarrel_103 rfl (lv_at hl 2 rfl) ?_
        refine lv_if_ge (tgt := 124) hx hb dX11_quarrel_104 (by decide) (fun c_104 => ?_) (fun c_104 => ?_)
        · replace HW := HW.1 c_104
          refine lv_iconst (v := 0) hx hb dX11_quarrel_124 (by decide) ?_
          refine lv_istore_n (lv' := [(3, .int (0 : Int32)), (0, .ref (ad 135)), (1, .int x1), (2, .int x2)]) hx hb dX11_quarrel_125 rfl hl (by decide) rfl (fun ls hl => ?_)
          refine lv_iconst (v := 0) hx hb dX11_quarrel_126 (by decide) ?_
          refine lv_istore (lv' := [(4, .int (0 : Int32)), (3, .int (0 : Int32)), (0, .ref (ad 135)), (1, .int x1), (2, .int x2)]) hx hb dX11_quarrel_127 hl (by decide) rfl (fun ls hl => ?_)
          obtain ⟨n_129, HW⟩ := HW
          exact L129 n_129 x1 x2 (0 : Int32) (0 : Int32) h g _ _ _ HW hG (lv_sub hl [2, 3, 4, 1, 0] rfl)
        · replace HW := HW.2 c_104
          refine lv_iload_n hx hb dX11_quarrel_107 rfl (lv_at hl 2 rfl) ?_
          refine lv_iconst (v := (-1)) hx hb dX11_quarrel_108 (by decide) ?_
          refine lv_icmp_ne (tgt := 119) hx hb dX11_quarrel_109 (by decide) (fun c_109 => ?_) (fun c_109 => ?_)
          · replace HW := HW.1 c_109
            refine lv_aload_n hx hb dX11_quarrel_119 rfl (lv_at hl 0 rfl) ?_
            refine g_geti hx hb hw inG11 hown hK hG gl_135 rfl gk_135 (by decide) 16 (by decide) (by rw [gm_135]; decide) gr_135_16 lk197 dX11_quarrel_120 ?_
            exact W.iret (v := (h 135 16)) hx hb hr (fun t ht hW => ⟨⟨(h 135 16), (h, g), rfl, HW, g_B ht hG⟩, hG.2.2.F ht⟩) hG.2.2.2.2 dX11_quarrel_123
          · replace HW := HW.2 c_109
            refine lv_aload_n hx hb dX11_quarrel_112 rfl (lv_at hl 0 rfl) ?_
            refine g_geti hx hb hw inG11 hown hK hG gl_135 rfl gk_135 (by decide) 17 (by decide) (by rw [gm_135]; decide) gr_135_17 lk194 dX11_quarrel_113 ?_
            refine lv_goto (tgt := 123) hx hb dX11_quarrel_116 (by decide) ?_
            exact W.iret (v := (h 135 17)) hx hb hr (fun t ht hW => ⟨⟨(h 135 17), (h, g), rfl, HW, g_B ht hG⟩, hG.2.2.F ht⟩) hG.2.2.2.2 dX11_quarrel_123
      · replace HW := HW.2 c_48
        refine lv_aload_n hx hb dX11_quarrel_51 rfl (lv_at hl 0 rfl) ?_
        refine lv_iload_n hx hb dX11_quarrel_52 rfl (lv_at hl 3 rfl) ?_
        refine lv_iload_n hx hb dX11_quarrel_53 rfl (lv_at hl 1 rfl) ?_
        obtain ⟨P_54, HC_54, HW⟩ := HW
        refine g_callz (g_runV (As := [.int x3, .int x1]) (rest := []) ⟨hx, hb, hml, hown, hts⟩ (m_X11_isOf l D cy ad h g H.size x3 x1 P_54 HC_54) (cwV 2 hts (gd_V (wm5 234 rfl rfl) (wm5 236 rfl rfl) (wmp4 (q := (yX11_isOf, 26)) 6 rfl) (wm1 13 rfl rfl) (wm5 237 rfl rfl)) rfl rfl rfl (by decide +kernel) ⟨Nat.le_of_ble_eq_true rfl, Nat.le_of_ble_eq_true rfl⟩) hK hNw hG gl_135 rfl gk_135 (by decide) rfl rfl hl.1 rfl (lv_room (Nat.le_of_ble_eq_true rfl)) dX11_quarrel_54 ⟨Nat.zero_le _, Nat.zero_le _⟩) hG (fun r_54 h_54 g_54 H locs hz hq hG => ?_)
        replace HW := HW r_54 h_54 g_54 hz hq
        refine lv_if_eq (tgt := 97) hx hb dX11_quarrel_57 (by decide) (fun c_57 => ?_) (fun c_57 => ?_)
        · replace HW := HW.1 c_57
          exact B97 K41 hK41 x1 x2 x3 h_54 g_54 _ _ _ HW hG (lv_sub hl [0, 1, 2, 3] rfl)
        · replace HW := HW.2 c_57
          refine lv_aload_n hx hb dX11_quarrel_60 rfl (lv_at hl 0 rfl) ?_
          refine lv_iload_n hx hb dX11_quarrel_61 rfl (lv_at hl 3 rfl) ?_
          obtain ⟨P_62, HC_62, HW⟩ := HW
          refine g_callv (g_runV (As := [.int x3]) (rest := []) ⟨hx, hb, hml, hown, hts⟩ (m_X11_lets l D cy ad h_54 g_54 H.size x3 P_62 HC_62) (cwV 1 hts (gd_V (wm5 238 rfl rfl) (wm6 0 rfl rfl) (wmp4 (q := (yX11_lets, 26)) 7 rfl) (wm1 13 rfl rfl) (wm6 1 rfl rfl)) rfl rfl rfl (by decide +kernel) ⟨Nat.le_of_ble_eq_true rfl, Nat.le_of_ble_eq_true rfl⟩) hK hNw hG gl_135 rfl gk_135 (by decide) rfl rfl hl.1 rfl (lv_room (Nat.le_of_ble_eq_true rfl)) dX11_quarrel_62 ⟨Nat.zero_le _, Nat.zero_le _⟩) hG (fun h_62 g_62 H locs hq hG => ?_)
          replace HW := HW h_62 g_62 hq
          refine lv_aload_n hx hb dX11_quarrel_65 rfl (lv_at hl 0 rfl) ?_
          refine g_geti hx hb hw inG11 hown hK hG gl_135 rfl gk_135 (by decide) 10 (by decide) (by rw [gm_135]; decide) gr_135_10 lk152 dX11_quarrel_66 ?_
          refine lv_topi (fun x4_69 ex4_69 => ?_)
          replace HW := HW x4_69 ex4_69
          refine lv_istore (lv' := [(4, .int x4_69), (0, .ref (ad 135)), (1, .int x1), (2, .int x2), (3, .int x3)]) hx hb dX11_quarrel_69 hl (by decide) rfl (fun ls hl => ?_)
          refine lv_aload_n hx hb dX11_quarrel_71 rfl (lv_at hl 1 rfl) ?_
          refine lv_iload_n hx hb dX11_quarrel_72 rfl (lv_at hl 2 rfl) ?_
          refine lv_aload_n hx hb dX11_quarrel_73 rfl (lv_at hl 1 rfl) ?_
          refine lv_aload_n hx hb dX11_quarrel_74 rfl (lv_at hl 1 rfl) ?_
          refine g_geti hx hb hw inG11 hown hK hG gl_135 rfl gk_135 (by decide) 9 (by decide) (by rw [gm_135]; decide) gr_135_9 lk148 dX11_quarrel_75 ?_
          obtain ⟨P_78, HC_78, HW⟩ := HW
          refine g_calli (g_runV (As := [.int (h_62 135 9)]) (rest := [.int x1, .ref (ad 135)]) ⟨hx, hb, hml, hown, hts⟩ (m_X11_numberFrom l D cy ad h_62 g_62 H.size (h_62 135 9) P_78 HC_78) (cwV 1 hts (gd_V (wm6 4 rfl rfl) (wm6 6 rfl rfl) (wmp4 (q := (yX11_numberFrom, 26)) 8 rfl) (wm1 13 rfl rfl) (wm6 7 rfl rfl)) rfl rfl rfl (by decide +kernel) ⟨Nat.le_of_ble_eq_true rfl, Nat.le_of_ble_eq_true rfl⟩) hK hNw hG gl_135 rfl gk_135 (by decide) rfl rfl hl.1 rfl (lv_room (Nat.le_of_ble_eq_true rfl)) dX11_quarrel_78 ⟨Nat.zero_le _, Nat.zero_le _⟩) hG (fun r_78 h_78 g_78 H locs hq hG => ?_)
          replace HW := HW r_78 h_78 g_78 hq
          obtain ⟨P_81, HC_81, HW⟩ := HW
          refine g_callv (g_runV (As := [.int x1, .int r_78]) (rest := []) ⟨hx, hb, hml, hown, hts⟩ (m_X11_tries l D cy ad h_78 g_78 H.size x1 r_78 P_81 HC_81) (cwV 2 hts (gd_V (wm6 12 rfl rfl) (wm6 14 rfl rfl) (wmp4 (q := (yX11_tries, 26)) 9 rfl) (wm1 13 rfl rfl) (wm6 15 rfl rfl)) rfl rfl rfl (by decide +kernel) ⟨Nat.le_of_ble_eq_true rfl, Nat.le_of_ble_eq_true rfl⟩) hK hNw hG gl_135 rfl gk_135 (by decide) rfl rfl hl.1 rfl (lv_room (Nat.le_of_ble_eq_true rfl)) dX11_quarrel_81 ⟨Nat.zero_le _, Nat.zero_le _⟩) hG (fun h_81 g_81 H locs hq hG => ?_)
          replace HW := HW h_81 g_81 hq
          refine lv_aload_n hx hb dX11_quarrel_84 rfl (lv_at hl 1 rfl) ?_
          refine lv_iload_n hx hb dX11_quarrel_85 rfl (lv_at hl 2 rfl) ?_
          refine lv_aload_n hx hb dX11_quarrel_86 rfl (lv_at hl 1 rfl) ?_
          refine lv_iload hx hb dX11_quarrel_87 (lv_at hl 0 rfl) ?_
          refine lv_iconst (v := 1) hx hb dX11_quarrel_89 (by decide) ?_
          refine lv_iadd hx hb dX11_quarrel_90 ?_
          obtain ⟨P_91, HC_91, HW⟩ := HW
          refine g_calli (g_runV (As := [.int (x4_69 + (1 : Int32))]) (rest := [.int x1, .ref (ad 135)]) ⟨hx, hb, hml, hown, hts⟩ (m_X11_numberFrom l D cy ad h_81 g_81 H.size (x4_69 + (1 : Int32)) P_91 HC_91) (cwV 1 hts (gd_V (wm6 4 rfl rfl) (wm6 6 rfl rfl) (wmp4 (q := (yX11_numberFrom, 26)) 8 rfl) (wm1 13 rfl rfl) (wm6 7 rfl rfl)) rfl rfl rfl (by decide +kernel) ⟨Nat.le_of_ble_eq_true rfl, Nat.le_of_ble_eq_true rfl⟩) hK hNw hG gl_135 rfl gk_135 (by decide) rfl rfl hl.1 rfl (lv_room (Nat.le_of_ble_eq_true rfl)) dX11_quarrel_91 ⟨Nat.zero_le _, Nat.zero_le _⟩) hG (fun r_91 h_91 g_91 H locs hq hG => ?_)
          replace HW := HW r_91 h_91 g_91 hq
          obtain ⟨P_94, HC_94, HW⟩ := HW
          refine g_callv (g_runV (As := [.int x1, .int r_91]) (rest := []) ⟨hx, hb, hml, hown, hts⟩ (m_X11_tries l D cy ad h_91 g_91 H.size x1 r_91 P_94 HC_94) (cwV 2 hts (gd_V (wm6 12 rfl rfl) (wm6 14 rfl rfl) (wmp4 (q := (yX11_tries, 26)) 9 rfl) (wm1 13 rfl rfl) (wm6 15 rfl rfl)) rfl rfl rfl (by decide +kernel) ⟨Nat.le_of_ble_eq_true rfl, Nat.le_of_ble_eq_true rfl⟩) hK hNw hG gl_135 rfl gk_135 (by decide) rfl rfl hl.1 rfl (lv_room (Nat.le_of_ble_eq_true rfl)) dX11_quarrel_94 ⟨Nat.zero_le _, Nat.zero_le _⟩) hG (fun h_94 g_94 H locs hq hG => ?_)
          replace HW := HW h_94 g_94 hq
          exact B97 K41 hK41 x1 x2 x3 h_94 g_94 _ _ _ HW hG (lv_sub hl [1, 2, 3, 4] rfl)
  have B23 : ∀ (x1 : Int32) (x2 : Int32) (h : HI) (g : HL) (H : Heap) (locs : List Loc) (ls : Array Slot), j_X11_quarrel_23 Q x1 x2 h g → gG D cy ad (gA ad s.heap.size) s.heap h g H locs → lv_has ls 5 [(0, .ref (ad 135)), (1, .int x1), (2, .int x2)] → W p l e ({ frames := 8, cells := 0, slots := 0, locals := 188 } : Room) s m args below meth c H locs 0 0 (MQ below (va_Qi (fun (r : Int32) (u : HI × HL) => Q r u.1 u.2) (gB D cy ad s.heap.size) (gA ad s.heap.size)) args s 0 0 (gA ad s.heap.size)) (F0 m 23 ls []) := by
    intro x1 x2 h g H locs ls HW hG hl
    unfold j_X11_quarrel_23 at HW
    refine lv_aload_n hx hb dX11_quarrel_23 rfl (lv_at hl 0 rfl) ?_
    refine lv_iload_n hx hb dX11_quarrel_24 rfl (lv_at hl 1 rfl) ?_
    obtain ⟨P_25, HC_25, HW⟩ := HW
    refine g_callv (g_runV (As := [.int x1]) (rest := []) ⟨hx, hb, hml, hown, hts⟩ (m_X11_findFamily l D cy ad h g H.size x1 P_25 HC_25) (cwV 1 hts (gd_V (wm5 230 rfl rfl) (wm5 232 rfl rfl) (wmp4 (q := (yX11_findFamily, 26)) 5 rfl) (wm1 13 rfl rfl) (wm5 233 rfl rfl)) rfl rfl rfl (by decide +kernel) ⟨Nat.le_of_ble_eq_true rfl, Nat.le_of_ble_eq_true rfl⟩) hK hNw hG gl_135 rfl gk_135 (by decide) rfl rfl hl.1 rfl (lv_room (Nat.le_of_ble_eq_true rfl)) dX11_quarrel_25 ⟨Nat.zero_le _, Nat.zero_le _⟩) hG (fun h_25 g_25 H locs hq hG => ?_)
    replace HW := HW h_25 g_25 hq
    refine lv_aload_n hx hb dX11_quarrel_28 rfl (lv_at hl 0 rfl) ?_
    refine lv_iconst (v := (-1)) hx hb dX11_quarrel_29 (by decide) ?_
    refine g_put hx hb hw inG11 tyX11 tyX11_ok nmX11 hown hK hG gl_135 rfl gk_135 (by decide) 17 (by decide) (by rw [gm_135]; decide) gr_135_17 rfl (ty := .int) (by decide +kernel) rfl rfl lk194 dX11_quarrel_30 (fun H locs hG => ?_)
    obtain ⟨h_30, eh_30⟩ : ∃ y : HI, y = hu h_25 135 17 (-1 : Int32) := ⟨_, rfl⟩
    rw [← eh_30] at hG
    replace HW := HW h_30 eh_30
    refine lv_aload_n hx hb dX11_quarrel_33 rfl (lv_at hl 0 rfl) ?_
    refine lv_iload_n hx hb dX11_quarrel_34 rfl (lv_at hl 1 rfl) ?_
    refine lv_iconst (v := 0) hx hb dX11_quarrel_35 (by decide) ?_
    obtain ⟨P_36, HC_36, HW⟩ := HW
    refine g_callv (g_runV (As := [.int x1, .int (0 : Int32)]) (rest := []) ⟨hx, hb, hml, hown, hts⟩ (m_X11_tries l D cy ad h_30 g_25 H.size x1 (0 : Int32) P_36 HC_36) (cwV 2 hts (gd_V (wm6 12 rfl rfl) (wm6 14 rfl rfl) (wmp4 (q := (yX11_tries, 26)) 9 rfl) (wm1 13 rfl rfl) (wm6 15 rfl rfl)) rfl rfl rfl (by decide +kernel) ⟨Nat.le_of_ble_eq_true rfl, Nat.le_of_ble_eq_true rfl⟩) hK hNw hG gl_135 rfl gk_135 (by decide) rfl rfl hl.1 rfl (lv_room (Nat.le_of_ble_eq_true rfl)) dX11_quarrel_36 ⟨Nat.zero_le _, Nat.zero_le _⟩) hG (fun h_36 g_36 H locs hq hG => ?_)
    replace HW := HW h_36 g_36 hq
    refine lv_iconst (v := 0) hx hb dX11_quarrel_39 (by decide) ?_
    refine lv_istore_n (lv' := [(3, .int (0 : Int32)), (0, .ref (ad 135)), (1, .int x1), (2, .int x2)]) hx hb dX11_quarrel_40 rfl hl (by decide) rfl (fun ls hl => ?_)
    obtain ⟨n_41, HW⟩ := HW
    exact L41 n_41 x1 x2 (0 : Int32) h_36 g_36 _ _ _ HW hG (lv_sub hl [1, 2, 3, 0] rfl)
  have E0 : ∀ (H : Heap) (locs : List Loc) (ls : Array Slot), gG D cy ad (gA ad s.heap.size) s.heap h g H locs → lv_has ls 5 [(0, .ref (ad 135)), (1, .int x1), (2, .int x2)] → W p l e ({ frames := 8, cells := 0, slots := 0, locals := 188 } : Room) s m args below meth c H locs 0 0 (MQ below (va_Qi (fun (r : Int32) (u : HI × HL) => Q r u.1 u.2) (gB D cy ad s.heap.size) (gA ad s.heap.size)) args s 0 0 (gA ad s.heap.size)) (F0 m 0 ls []) := by
    intro H locs ls hG hl
    unfold w_X11_quarrel at HW
    refine lv_aload_n hx hb dX11_quarrel_0 rfl (lv_at hl 0 rfl) ?_
    refine lv_iconst (v := 0) hx hb dX11_quarrel_1 (by decide) ?_
    refine lv_iload_n hx hb dX11_quarrel_2 rfl (lv_at hl 1 rfl) ?_
    obtain ⟨P_3, HC_3, HW⟩ := HW
    refine g_callz (g_runV (As := [.int (0 : Int32), .int x1]) (rest := []) ⟨hx, hb, hml, hown, hts⟩ (m_X11_is l D cy ad h g H.size (0 : Int32) x1 P_3 HC_3) (cwV 2 hts (gd_V (wm5 184 rfl rfl) (wm5 186 rfl rfl) (wmp3 (q := (yX11_is, 26)) 14 rfl) (wm1 13 rfl rfl) (wm5 187 rfl rfl)) rfl rfl rfl (by decide +kernel) ⟨Nat.le_of_ble_eq_true rfl, Nat.le_of_ble_eq_true rfl⟩) hK hNw hG gl_135 rfl gk_135 (by decide) rfl rfl hl.1 rfl (lv_room (Nat.le_of_ble_eq_true rfl)) dX11_quarrel_3 ⟨Nat.zero_le _, Nat.zero_le _⟩) hG (fun r_3 h_3 g_3 H locs hz hq hG => ?_)
    replace HW := HW r_3 h_3 g_3 hz hq
    refine lv_if_eq (tgt := 20) hx hb dX11_quarrel_6 (by decide) (fun c_6 => ?_) (fun c_6 => ?_)
    · replace HW := HW.1 c_6
      refine lv_bipush (v := (-10)) hx hb dX11_quarrel_20 (by decide) ?_
      exact W.iret (v := (-10 : Int32)) hx hb hr (fun t ht hW => ⟨⟨(-10 : Int32), (h_3, g_3), rfl, HW, g_B ht hG⟩, hG.2.2.F ht⟩) hG.2.2.2.2 dX11_quarrel_22
    · replace HW := HW.2 c_6
      refine lv_iload_n hx hb dX11_quarrel_9 rfl (lv_at hl 2 rfl) ?_
      refine lv_iconst (v := (-1)) hx hb dX11_quarrel_10 (by decide) ?_
      refine lv_icmp_ge (tgt := 23) hx hb dX11_quarrel_11 (by decide) (fun c_11 => ?_) (fun c_11 => ?_)
      · replace HW := HW.1 c_11
        exact B23 x1 x2 h_3 g_3 _ _ _ HW hG (lv_sub hl [0, 1, 2] rfl)
      · replace HW := HW.2 c_11
        refine lv_iload_n hx hb dX11_quarrel_14 rfl (lv_at hl 2 rfl) ?_
        refine lv_bipush (v := (-3)) hx hb dX11_quarrel_15 (by decide) ?_
        refine lv_icmp_eq (tgt := 23) hx hb dX11_quarrel_17 (by decide) (fun c_17 => ?_) (fun c_17 => ?_)
        · replace HW := HW.1 c_17
          exact B23 x1 x2 h_3 g_3 _ _ _ HW hG (lv_sub hl [0, 1, 2] rfl)
        · replace HW := HW.2 c_17
          refine lv_bipush (v := (-10)) hx hb dX11_quarrel_20 (by decide) ?_
          exact W.iret (v := (-10 : Int32)) hx hb hr (fun t ht hW => ⟨⟨(-10 : Int32), (h_3, g_3), rfl, HW, g_B ht hG⟩, hG.2.2.F ht⟩) hG.2.2.2.2 dX11_quarrel_22
  exact E0 _ _ _ hG hl

def w_X11_chainOf (x1 : Int32) (x2 : Int32) (h : HI) (g : HL) (Q : Int32 → HI → HL → Prop) : Prop :=
  (vp_in (((512 : Int32) + ((10 : Int32) * x1)) + x2) 887 ∧ Q (h 136 (((512 : Int32) + ((10 : Int32) * x1)) + x2).toNatClampNeg) h g)
set_option maxHeartbeats 8000000 in
set_option maxRecDepth 100000 in
theorem m_X11_chainOf (l : Launch) (D : va_G) (cy : Nat → ClassId) (ad : Nat → Nat) (h : HI) (g : HL) (sz : Nat) (x1 : Int32) (x2 : Int32) (Q : Int32 → HI → HL → Prop) (HW : w_X11_chainOf x1 x2 h g Q) : Met l yX11_chainOf (wa yX11_chainOf cX11_chainOf 3 (some .int)) ({ frames := 0, cells := 0, slots := 0, locals := 0 }) (va_Pc [.ref (ad 135), .int x1, .int x2] (gI D cy ad h g sz)) (va_Qi (fun (r : Int32) (u : HI × HL) => Q r u.1 u.2) (gB D cy ad sz) (gA ad sz)) 0 0 (gA ad sz) := by
  refine Met.ofW (cc := cX11_chainOf) (maxL := 3) (ret := (some .int)) (by decide) rfl ?_
  intro p e s m args below meth c s₁ B hml hv
  obtain ⟨hav, hsz, hP, hK, hD0, hNw⟩ := hv
  have hx := B.exec
  have hb := B.bytes
  have hr := B.returns
  have hts := atoms_spec (ws := (wa yX11_chainOf cX11_chainOf 3 (some .int))) B.pre
  have hw := wa_hw hts
  have hown : s.vm.findClass RX11 = some m.cls := findClass_of_methodNamed B.named
  have hlocks := B.notSynchronized
  subst hsz
  have hG : gG D cy ad (gA ad s.heap.size) s.heap h g s.heap [] := ⟨hP, gA_self hD0, va_S.rf⟩
  clear hP hD0
  have lk7 := hw (.fieldLink RX11 7 "OldWorksModel" "st" "[I") (wm5 27 rfl rfl)
  rw [show (headSpec (wa yX11_chainOf cX11_chainOf 3 (some .int)) ({ frames := 0, cells := 0, slots := 0, locals := 0 } : Room)).room = ({ frames := 0, cells := 0, slots := 0, locals := 0 } : Room) from rfl]
  have hl := lv_entry ([.ref (ad 135), .int x1, .int x2]) (n := 3) (Nat.le_of_ble_eq_true rfl)
  rw [show entryFrame m args 3 = entryFrame m ([.ref (ad 135), .int x1, .int x2] : List Value).toArray 3 from by rw [hav], lg_entry_eq]
  generalize (lg_sl ([.ref (ad 135), .int x1, .int x2]) ++ List.replicate (3 - (lg_sl ([.ref (ad 135), .int x1, .int x2])).length) Slot.unset).toArray = ls at hl ⊢
  have hl : lv_has ls 3 [(0, .ref (ad 135)), (1, .int x1), (2, .int x2)] := hl
  have E0 : ∀ (H : Heap) (locs : List Loc) (ls : Array Slot), gG D cy ad (gA ad s.heap.size) s.heap h g H locs → lv_has ls 3 [(0, .ref (ad 135)), (1, .int x1), (2, .int x2)] → W p l e ({ frames := 0, cells := 0, slots := 0, locals := 0 } : Room) s m args below meth c H locs 0 0 (MQ below (va_Qi (fun (r : Int32) (u : HI × HL) => Q r u.1 u.2) (gB D cy ad s.heap.size) (gA ad s.heap.size)) args s 0 0 (gA ad s.heap.size)) (F0 m 0 ls []) := by
    intro H locs ls hG hl
    unfold w_X11_chainOf at HW
    refine lv_aload_n hx hb dX11_chainOf_0 rfl (lv_at hl 0 rfl) ?_
    refine g_getr hx hb hw inG11 hown hK hG gl_135 rfl gk_135 (by decide) 0 (by decide) (by rw [gm_135]; decide) (r := 136) gr_135_0 lk7 dX11_chainOf_1 ?_
    refine lv_sipush (v := 512) hx hb dX11_chainOf_4 (by decide) ?_
    refine lv_bipush (v := 10) hx hb dX11_chainOf_7 (by decide) ?_
    refine lv_iload_n hx hb dX11_chainOf_9 rfl (lv_at hl 1 rfl) ?_
    refine lv_imul hx hb dX11_chainOf_10 ?_
    refine lv_iadd hx hb dX11_chainOf_11 ?_
    refine lv_iload_n hx hb dX11_chainOf_12 rfl (lv_at hl 2 rfl) ?_
    refine lv_iadd hx hb dX11_chainOf_13 ?_
    refine g_iald hx hb hK hG gl_136 gk_136 gn_136 HW.1 dX11_chainOf_14 ?_
    replace HW := HW.2
    exact W.iret (v := (h 136 (((512 : Int32) + ((10 : Int32) * x1)) + x2).toNatClampNeg)) hx hb hr (fun t ht hW => ⟨⟨(h 136 (((512 : Int32) + ((10 : Int32) * x1)) + x2).toNatClampNeg), (h, g), rfl, HW, g_B ht hG⟩, hG.2.2.F ht⟩) hG.2.2.2.2 dX11_chainOf_15
  exact E0 _ _ _ hG hl

def j_X11_chain_95 (Q : Int32 → HI → HL → Prop) (K60 : Int32 → Int32 → Int32 → Int32 → HI → HL → Prop) (x1 : Int32) (x2 : Int32) (x3 : Int32) (x4 : Int32) (s1 : Int32) (s2 : Int32) (h : HI) (g : HL) : Prop :=
  (vp_in s1 887 ∧ ∀ h_95 : HI, h_95 = hu h 136 s1.toNatClampNeg s2 → (∀ x4_96 : Int32, x4_96 = (x4 + 1) → K60 x1 x2 x3 x4_96 h_95 g))
def b_X11_chain_60 (Q : Int32 → HI → HL → Prop) (K60 : Int32 → Int32 → Int32 → Int32 → HI → HL → Prop) (x1 : Int32) (x2 : Int32) (x3 : Int32) (x4 : Int32) (h : HI) (g : HL) : Prop :=
  (((10 : Int32) ≤ x4 → (∃ P_104 : Int32 → HI → HL → Prop, w_X11_one (2 : Int32) h g P_104 ∧ ∀ (r_104 : Int32) (h_104 : HI) (g_104 : HL), P_104 r_104 h_104 g_104 → Q r_104 h_104 g_104)) ∧ (¬ (10 : Int32) ≤ x4 → ((¬ x4 = 0 → ((¬ x4 = (1 : Int32) → j_X11_chain_95 Q K60 x1 x2 x3 x4 (x3 + x4) (0 : Int32) h g) ∧ (x4 = (1 : Int32) → j_X11_chain_95 Q K60 x1 x2 x3 x4 (x3 + x4) x2 h g))) ∧ (x4 = 0 → j_X11_chain_95 Q K60 x1 x2 x3 x4 (x3 + x4) x1 h g))))
def F_X11_chain_60 (Q : Int32 → HI → HL → Prop) (K : Int32 × Int32 × Int32 × Int32 × HI × HL → Prop) (q : Int32 × Int32 × Int32 × Int32 × HI × HL) : Prop := b_X11_chain_60 Q (fun x1 x2 x3 x4 h g => K (x1, x2, x3, x4, h, g)) q.1 q.2.1 q.2.2.1 q.2.2.2.1 q.2.2.2.2.1 q.2.2.2.2.2
def w_X11_chain (x1 : Int32) (x2 : Int32) (h : HI) (g : HL) (Q : Int32 → HI → HL → Prop) : Prop :=
  (∃ P_7 : Int32 → HI → HL → Prop, w_X11_in ((x1).toInt64) (-100000 : Int64) ((x2).toInt64) h g P_7 ∧ ∀ (r_7 : Int32) (h_7 : HI) (g_7 : HL), zb r_7 → P_7 r_7 h_7 g_7 → ((r_7 = 0 → Q (-2 : Int32) h_7 g_7) ∧ (¬ r_7 = 0 → (∃ P_20 : Int32 → HI → HL → Prop, w_X11_in ((x2).toInt64) ((x1).toInt64) (100000 : Int64) h_7 g_7 P_20 ∧ ∀ (r_20 : Int32) (h_20 : HI) (g_20 : HL), zb r_20 → P_20 r_20 h_20 g_20 → ((¬ r_20 = 0 → (vp_in (2 : Int32) 887 ∧ ((¬ (h_20 136 (2 : Int32).toNatClampNeg) = (16 : Int32) → (vp_in (2 : Int32) 887 ∧ (∀ x3_56 : Int32, x3_56 = ((512 : Int32) + ((10 : Int32) * (h_20 136 (2 : Int32).toNatClampNeg))) → lpE (F_X11_chain_60 Q) (x1, x2, x3_56, (0 : Int32), h_20, g_20)))) ∧ ((h_20 136 (2 : Int32).toNatClampNeg) = (16 : Int32) → Q (-4 : Int32) h_20 g_20)))) ∧ (r_20 = 0 → Q (-2 : Int32) h_20 g_20))))))
set_option maxHeartbeats 8000000 in
set_option maxRecDepth 100000 in
theorem m_X11_chain (l : Launch) (D : va_G) (cy : Nat → ClassId) (ad : Nat → Nat) (h : HI) (g : HL) (sz : Nat) (x1 : Int32) (x2 : Int32) (Q : Int32 → HI → HL → Prop) (HW : w_X11_chain x1 x2 h g Q) : Met l yX11_chain (wa yX11_chain cX11_chain 5 (some .int)) ({ frames := 1, cells := 0, slots := 0, locals := 25 }) (va_Pc [.ref (ad 135), .int x1, .int x2] (gI D cy ad h g sz)) (va_Qi (fun (r : Int32) (u : HI × HL) => Q r u.1 u.2) (gB D cy ad sz) (gA ad sz)) 0 0 (gA ad sz) := by
  refine Met.ofW (cc := cX11_chain) (maxL := 5) (ret := (some .int)) (by decide) rfl ?_
  intro p e s m args below meth c s₁ B hml hv
  obtain ⟨hav, hsz, hP, hK, hD0, hNw⟩ := hv
  have hx := B.exec
  have hb := B.bytes
  have hr := B.returns
  have hts := atoms_spec (ws := (wa yX11_chain cX11_chain 5 (some .int))) B.pre
  have hw := wa_hw hts
  have hown : s.vm.findClass RX11 = some m.cls := findClass_of_methodNamed B.named
  have hlocks := B.notSynchronized
  subst hsz
  have hG : gG D cy ad (gA ad s.heap.size) s.heap h g s.heap [] := ⟨hP, gA_self hD0, va_S.rf⟩
  clear hP hD0
  have cn203 := hw (.constantLong RX11 203 (-100000)) (wm6 24 rfl rfl)
  have cn73 := hw (.constantLong RX11 73 (100000)) (wm5 131 rfl rfl)
  have lk7 := hw (.fieldLink RX11 7 "OldWorksModel" "st" "[I") (wm5 27 rfl rfl)
  rw [show (headSpec (wa yX11_chain cX11_chain 5 (some .int)) ({ frames := 1, cells := 0, slots := 0, locals := 25 } : Room)).room = ({ frames := 1, cells := 0, slots := 0, locals := 25 } : Room) from rfl]
  have hl := lv_entry ([.ref (ad 135), .int x1, .int x2]) (n := 5) (Nat.le_of_ble_eq_true rfl)
  rw [show entryFrame m args 5 = entryFrame m ([.ref (ad 135), .int x1, .int x2] : List Value).toArray 5 from by rw [hav], lg_entry_eq]
  generalize (lg_sl ([.ref (ad 135), .int x1, .int x2]) ++ List.replicate (5 - (lg_sl ([.ref (ad 135), .int x1, .int x2])).length) Slot.unset).toArray = ls at hl ⊢
  have hl : lv_has ls 5 [(0, .ref (ad 135)), (1, .int x1), (2, .int x2)] := hl
  have B95 : ∀ (K60 : Int32 → Int32 → Int32 → Int32 → HI → HL → Prop) (hK60 : ∀ (x1 : Int32) (x2 : Int32) (x3 : Int32) (x4 : Int32) (h : HI) (g : HL) (H : Heap) (locs : List Loc) (ls : Array Slot), K60 x1 x2 x3 x4 h g → gG D cy ad (gA ad s.heap.size) s.heap h g H locs → lv_has ls 5 [(0, .ref (ad 135)), (1, .int x1), (2, .int x2), (3, .int x3), (4, .int x4)] → W p l e ({ frames := 1, cells := 0, slots := 0, locals := 25 } : Room) s m args below meth c H locs 0 0 (MQ below (va_Qi (fun (r : Int32) (u : HI × HL) => Q r u.1 u.2) (gB D cy ad s.heap.size) (gA ad s.heap.size)) args s 0 0 (gA ad s.heap.size)) (F0 m 60 ls [])) (x1 : Int32) (x2 : Int32) (x3 : Int32) (x4 : Int32) (s1 : Int32) (s2 : Int32) (h : HI) (g : HL) (H : Heap) (locs : List Loc) (ls : Array Slot), j_X11_chain_95 Q K60 x1 x2 x3 x4 s1 s2 h g → gG D cy ad (gA ad s.heap.size) s.heap h g H locs → lv_has ls 5 [(0, .ref (ad 135)), (1, .int x1), (2, .int x2), (3, .int x3), (4, .int x4)] → W p l e ({ frames := 1, cells := 0, slots := 0, locals := 25 } : Room) s m args below meth c H locs 0 0 (MQ below (va_Qi (fun (r : Int32) (u : HI × HL) => Q r u.1 u.2) (gB D cy ad s.heap.size) (gA ad s.heap.size)) args s 0 0 (gA ad s.heap.size)) (F0 m 95 ls [.int s2, .int s1, .ref (ad 136)]) := by
    intro K60 hK60 x1 x2 x3 x4 s1 s2 h g H locs ls HW hG hl
    unfold j_X11_chain_95 at HW
    refine g_iast hx hb hK hG gl_136 gk_136 gn_136 HW.1 dX11_chain_95 (fun H locs hG => ?_)
    replace HW := HW.2
    obtain ⟨h_95, eh_95⟩ : ∃ y : HI, y = hu h 136 s1.toNatClampNeg s2 := ⟨_, rfl⟩
    rw [← eh_95] at hG
    replace HW := HW h_95 eh_95
    obtain ⟨x4_96, ex4_96⟩ : ∃ y : Int32, y = (x4 + 1) := ⟨_, rfl⟩
    replace HW := HW x4_96 ex4_96
    refine lv_iinc (v := x4_96) (lv' := [(4, .int x4_96), (0, .ref (ad 135)), (1, .int x1), (2, .int x2), (3, .int x3)]) hx hb dX11_chain_96 hl (k := 4) rfl (by rw [ex4_96]; rfl) (by decide) rfl (fun ls hl => ?_)
    refine lv_goto (tgt := 60) hx hb dX11_chain_99 (by decide) ?_
    exact hK60 x1 x2 x3 x4_96 h_95 g _ _ _ HW hG (lv_sub hl [1, 2, 3, 4, 0] rfl)
  have L60 : ∀ (n : Nat) (x1 : Int32) (x2 : Int32) (x3 : Int32) (x4 : Int32) (h : HI) (g : HL) (H : Heap) (locs : List Loc) (ls : Array Slot), lpN (F_X11_chain_60 Q) n (x1, x2, x3, x4, h, g) → gG D cy ad (gA ad s.heap.size) s.heap h g H locs → lv_has ls 5 [(0, .ref (ad 135)), (1, .int x1), (2, .int x2), (3, .int x3), (4, .int x4)] → W p l e ({ frames := 1, cells := 0, slots := 0, locals := 25 } : Room) s m args below meth c H locs 0 0 (MQ below (va_Qi (fun (r : Int32) (u : HI × HL) => Q r u.1 u.2) (gB D cy ad s.heap.size) (gA ad s.heap.size)) args s 0 0 (gA ad s.heap.size)) (F0 m 60 ls []) := by
    intro n
    induction n with
    | zero => intro x1 x2 x3 x4 h g H locs ls HW; exact HW.elim
    | succ n ih =>
      intro x1 x2 x3 x4 h g H locs ls HW hG hl
      have HW : b_X11_chain_60 Q (fun x1 x2 x3 x4 h g => lpN (F_X11_chain_60 Q) n (x1, x2, x3, x4, h, g)) x1 x2 x3 x4 h g := HW
      generalize hKe : (fun (x1 : Int32) (x2 : Int32) (x3 : Int32) (x4 : Int32) (h : HI) (g : HL) => lpN (F_X11_chain_60 Q) n (x1, x2, x3, x4, h, g)) = K60 at HW
      have hK60 : ∀ (x1 : Int32) (x2 : Int32) (x3 : Int32) (x4 : Int32) (h : HI) (g : HL) (H : Heap) (locs : List Loc) (ls : Array Slot), K60 x1 x2 x3 x4 h g → gG D cy ad (gA ad s.heap.size) s.heap h g H locs → lv_has ls 5 [(0, .ref (ad 135)), (1, .int x1), (2, .int x2), (3, .int x3), (4, .int x4)] → W p l e ({ frames := 1, cells := 0, slots := 0, locals := 25 } : Room) s m args below meth c H locs 0 0 (MQ below (va_Qi (fun (r : Int32) (u : HI × HL) => Q r u.1 u.2) (gB D cy ad s.heap.size) (gA ad s.heap.size)) args s 0 0 (gA ad s.heap.size)) (F0 m 60 ls []) := by subst hKe; exact ih
      clear ih
      clear hKe
      unfold b_X11_chain_60 at HW
      refine lv_iload hx hb dX11_chain_60 (lv_at hl 4 rfl) ?_
      refine lv_bipush (v := 10) hx hb dX11_chain_62 (by decide) ?_
      refine lv_icmp_ge (tgt := 102) hx hb dX11_chain_64 (by decide) (fun c_64 => ?_) (fun c_64 => ?_)
      · replace HW := HW.1 c_64
        refine lv_aload_n hx hb dX11_chain_102 rfl (lv_at hl 0 rfl) ?_
        refine lv_iconst (v := 2) hx hb dX11_chain_103 (by decide) ?_
        obtain ⟨P_104, HC_104, HW⟩ := HW
        refine g_calli (g_runV (As := [.int (2 : Int32)]) (rest := []) ⟨hx, hb, hml, hown, hts⟩ (m_X11_one l D cy ad h g H.size (2 : Int32) P_104 HC_104) (cwV 1 hts (gd_V (wm5 120 rfl rfl) (wm5 122 rfl rfl) (wmp3 (q := (yX11_one, 26)) 7 rfl) (wm1 13 rfl rfl) (wm5 123 rfl rfl)) rfl rfl rfl (by decide +kernel) ⟨Nat.le_of_ble_eq_true rfl, Nat.le_of_ble_eq_true rfl⟩) hK hNw hG gl_135 rfl gk_135 (by decide) rfl rfl hl.1 rfl (lv_room (Nat.le_of_ble_eq_true rfl)) dX11_chain_104 ⟨Nat.zero_le _, Nat.zero_le _⟩) hG (fun r_104 h_104 g_104 H locs hq hG => ?_)
        replace HW := HW r_104 h_104 g_104 hq
        exact W.iret (v := r_104) hx hb hr (fun t ht hW => ⟨⟨r_104, (h_104, g_104), rfl, HW, g_B ht hG⟩, hG.2.2.F ht⟩) hG.2.2.2.2 dX11_chain_107
      · replace HW := HW.2 c_64
        refine lv_aload_n hx hb dX11_chain_67 rfl (lv_at hl 0 rfl) ?_
        refine g_getr hx hb hw inG11 hown hK hG gl_135 rfl gk_135 (by decide) 0 (by decide) (by rw [gm_135]; decide) (r := 136) gr_135_0 lk7 dX11_chain_68 ?_
        refine lv_iload_n hx hb dX11_chain_71 rfl (lv_at hl 3 rfl) ?_
        refine lv_iload hx hb dX11_chain_72 (lv_at hl 4 rfl) ?_
        refine lv_iadd hx hb dX11_chain_74 ?_
        refine lv_iload hx hb dX11_chain_75 (lv_at hl 4 rfl) ?_
        refine lv_if_ne (tgt := 84) hx hb dX11_chain_77 (by decide) (fun c_77 => ?_) (fun c_77 => ?_)
        · replace HW := HW.1 c_77
          refine lv_iload hx hb dX11_chain_84 (lv_at hl 4 rfl) ?_
          refine lv_iconst (v := 1) hx hb dX11_chain_86 (by decide) ?_
          refine lv_icmp_ne (tgt := 94) hx hb dX11_chain_87 (by decide) (fun c_87 => ?_) (fun c_87 => ?_)
          · replace HW := HW.1 c_87
            refine lv_iconst (v := 0) hx hb dX11_chain_94 (by decide) ?_
            exact B95 K60 hK60 x1 x2 x3 x4 (x3 + x4) (0 : Int32) h g _ _ _ HW hG (lv_sub hl [0, 1, 2, 3, 4] rfl)
          · replace HW := HW.2 c_87
            refine lv_iload_n hx hb dX11_chain_90 rfl (lv_at hl 2 rfl) ?_
            refine lv_goto (tgt := 95) hx hb dX11_chain_91 (by decide) ?_
            exact B95 K60 hK60 x1 x2 x3 x4 (x3 + x4) x2 h g _ _ _ HW hG (lv_sub hl [0, 1, 2, 3, 4] rfl)
        · replace HW := HW.2 c_77
          refine lv_iload_n hx hb dX11_chain_80 rfl (lv_at hl 1 rfl) ?_
          refine lv_goto (tgt := 95) hx hb dX11_chain_81 (by decide) ?_
          exact B95 K60 hK60 x1 x2 x3 x4 (x3 + x4) x1 h g _ _ _ HW hG (lv_sub hl [0, 1, 2, 3, 4] rfl)
  have E0 : ∀ (H : Heap) (locs : List Loc) (ls : Array Slot), gG D cy ad (gA ad s.heap.size) s.heap h g H locs → lv_has ls 5 [(0, .ref (ad 135)), (1, .int x1), (2, .int x2)] → W p l e ({ frames := 1, cells := 0, slots := 0, locals := 25 } : Room) s m args below meth c H locs 0 0 (MQ below (va_Qi (fun (r : Int32) (u : HI × HL) => Q r u.1 u.2) (gB D cy ad s.heap.size) (gA ad s.heap.size)) args s 0 0 (gA ad s.heap.size)) (F0 m 0 ls []) := by
    intro H locs ls hG hl
    unfold w_X11_chain at HW
    refine lv_iload_n hx hb dX11_chain_0 rfl (lv_at hl 1 rfl) ?_
    refine lv_i2l hx hb dX11_chain_1 rfl ?_
    refine lv_ldc2 (v := (-100000)) hx hb hown cn203 dX11_chain_2 ?_
    refine lv_iload_n hx hb dX11_chain_5 rfl (lv_at hl 2 rfl) ?_
    refine lv_i2l hx hb dX11_chain_6 rfl ?_
    obtain ⟨P_7, HC_7, HW⟩ := HW
    refine g_callz (g_runS (As := [.long ((x1).toInt64), .long (-100000 : Int64), .long ((x2).toInt64)]) (rest := []) ⟨hx, hb, hml, hown, hts⟩ (m_X11_in l D cy ad h g H.size ((x1).toInt64) (-100000 : Int64) ((x2).toInt64) P_7 HC_7) (va_cwS 3 hts (gd_S (wm5 111 rfl rfl) (wm5 112 rfl rfl) (wm1 13 rfl rfl) (wm5 113 rfl rfl)) rfl rfl rfl (by decide +kernel) ⟨Nat.le_of_ble_eq_true rfl, Nat.le_of_ble_eq_true rfl⟩) hK hNw hG rfl rfl hl.1 rfl (lv_room (Nat.le_of_ble_eq_true rfl)) dX11_chain_7 ⟨Nat.zero_le _, Nat.zero_le _⟩) hG (fun r_7 h_7 g_7 H locs hz hq hG => ?_)
    replace HW := HW r_7 h_7 g_7 hz hq
    refine lv_if_eq (tgt := 26) hx hb dX11_chain_10 (by decide) (fun c_10 => ?_) (fun c_10 => ?_)
    · replace HW := HW.1 c_10
      refine lv_bipush (v := (-2)) hx hb dX11_chain_26 (by decide) ?_
      exact W.iret (v := (-2 : Int32)) hx hb hr (fun t ht hW => ⟨⟨(-2 : Int32), (h_7, g_7), rfl, HW, g_B ht hG⟩, hG.2.2.F ht⟩) hG.2.2.2.2 dX11_chain_28
    · replace HW := HW.2 c_10
      refine lv_iload_n hx hb dX11_chain_13 rfl (lv_at hl 2 rfl) ?_
      refine lv_i2l hx hb dX11_chain_14 rfl ?_
      refine lv_iload_n hx hb dX11_chain_15 rfl (lv_at hl 1 rfl) ?_
      refine lv_i2l hx hb dX11_chain_16 rfl ?_
      refine lv_ldc2 (v := 100000) hx hb hown cn73 dX11_chain_17 ?_
      obtain ⟨P_20, HC_20, HW⟩ := HW
      refine g_callz (g_runS (As := [.long ((x2).toInt64), .long ((x1).toInt64), .long (100000 : Int64)]) (rest := []) ⟨hx, hb, hml, hown, hts⟩ (m_X11_in l D cy ad h_7 g_7 H.size ((x2).toInt64) ((x1).toInt64) (100000 : Int64) P_20 HC_20) (va_cwS 3 hts (gd_S (wm5 111 rfl rfl) (wm5 112 rfl rfl) (wm1 13 rfl rfl) (wm5 113 rfl rfl)) rfl rfl rfl (by decide +kernel) ⟨Nat.le_of_ble_eq_true rfl, Nat.le_of_ble_eq_true rfl⟩) hK hNw hG rfl rfl hl.1 rfl (lv_room (Nat.le_of_ble_eq_true rfl)) dX11_chain_20 ⟨Nat.zero_le _, Nat.zero_le _⟩) hG (fun r_20 h_20 g_20 H locs hz hq hG => ?_)
      replace HW := HW r_20 h_20 g_20 hz hq
      refine lv_if_ne (tgt := 29) hx hb dX11_chain_23 (by decide) (fun c_23 => ?_) (fun c_23 => ?_)
      · replace HW := HW.1 c_23
        refine lv_aload_n hx hb dX11_chain_29 rfl (lv_at hl 0 rfl) ?_
        refine g_getr hx hb hw inG11 hown hK hG gl_135 rfl gk_135 (by decide) 0 (by decide) (by rw [gm_135]; decide) (r := 136) gr_135_0 lk7 dX11_chain_30 ?_
        refine lv_iconst (v := 2) hx hb dX11_chain_33 (by decide) ?_
        refine g_iald hx hb hK hG gl_136 gk_136 gn_136 HW.1 dX11_chain_34 ?_
        replace HW := HW.2
        refine lv_bipush (v := 16) hx hb dX11_chain_35 (by decide) ?_
        refine lv_icmp_ne (tgt := 43) hx hb dX11_chain_37 (by decide) (fun c_37 => ?_) (fun c_37 => ?_)
        · replace HW := HW.1 c_37
          refine lv_sipush (v := 512) hx hb dX11_chain_43 (by decide) ?_
          refine lv_bipush (v := 10) hx hb dX11_chain_46 (by decide) ?_
          refine lv_aload_n hx hb dX11_chain_48 rfl (lv_at hl 0 rfl) ?_
          refine g_getr hx hb hw inG11 hown hK hG gl_135 rfl gk_135 (by decide) 0 (by decide) (by rw [gm_135]; decide) (r := 136) gr_135_0 lk7 dX11_chain_49 ?_
          refine lv_iconst (v := 2) hx hb dX11_chain_52 (by decide) ?_
          refine g_iald hx hb hK hG gl_136 gk_136 gn_136 HW.1 dX11_chain_53 ?_
          replace HW := HW.2
          refine lv_imul hx hb dX11_chain_54 ?_
          refine lv_iadd hx hb dX11_chain_55 ?_
          refine lv_topi (fun x3_56 ex3_56 => ?_)
          replace HW := HW x3_56 ex3_56
          refine lv_istore_n (lv' := [(3, .int x3_56), (0, .ref (ad 135)), (1, .int x1), (2, .int x2)]) hx hb dX11_chain_56 rfl hl (by decide) rfl (fun ls hl => ?_)
          refine lv_iconst (v := 0) hx hb dX11_chain_57 (by decide) ?_
          refine lv_istore (lv' := [(4, .int (0 : Int32)), (3, .int x3_56), (0, .ref (ad 135)), (1, .int x1), (2, .int x2)]) hx hb dX11_chain_58 hl (by decide) rfl (fun ls hl => ?_)
          obtain ⟨n_60, HW⟩ := HW
          exact L60 n_60 x1 x2 x3_56 (0 : Int32) h_20 g_20 _ _ _ HW hG (lv_sub hl [2, 3, 4, 1, 0] rfl)
        · replace HW := HW.2 c_37
          refine lv_bipush (v := (-4)) hx hb dX11_chain_40 (by decide) ?_
          exact W.iret (v := (-4 : Int32)) hx hb hr (fun t ht hW => ⟨⟨(-4 : Int32), (h_20, g_20), rfl, HW, g_B ht hG⟩, hG.2.2.F ht⟩) hG.2.2.2.2 dX11_chain_42
      · replace HW := HW.2 c_23
        refine lv_bipush (v := (-2)) hx hb dX11_chain_26 (by decide) ?_
        exact W.iret (v := (-2 : Int32)) hx hb hr (fun t ht hW => ⟨⟨(-2 : Int32), (h_20, g_20), rfl, HW, g_B ht hG⟩, hG.2.2.F ht⟩) hG.2.2.2.2 dX11_chain_28
  exact E0 _ _ _ hG hl

def b_X11_has_2 (Q : Int32 → HI → HL → Prop) (K2 : Int32 → Int32 → Int32 → HI → HL → Prop) (x1 : Int32) (x2 : Int32) (x3 : Int32) (h : HI) (g : HL) : Prop :=
  (∃ P_6 : Int32 → HI → HL → Prop, w_X11_chainOf x1 (2 : Int32) h g P_6 ∧ ∀ (r_6 : Int32) (h_6 : HI) (g_6 : HL), P_6 r_6 h_6 g_6 → ((r_6 ≤ x3 → Q (0 : Int32) h_6 g_6) ∧ (¬ r_6 ≤ x3 → (∃ P_17 : Int32 → HI → HL → Prop, w_X11_chainOf x1 ((3 : Int32) + x3) h_6 g_6 P_17 ∧ ∀ (r_17 : Int32) (h_17 : HI) (g_17 : HL), P_17 r_17 h_17 g_17 → ((¬ r_17 = x2 → (∀ x3_26 : Int32, x3_26 = (x3 + 1) → K2 x1 x2 x3_26 h_17 g_17)) ∧ (r_17 = x2 → Q (1 : Int32) h_17 g_17))))))
def F_X11_has_2 (Q : Int32 → HI → HL → Prop) (K : Int32 × Int32 × Int32 × HI × HL → Prop) (q : Int32 × Int32 × Int32 × HI × HL) : Prop := b_X11_has_2 Q (fun x1 x2 x3 h g => K (x1, x2, x3, h, g)) q.1 q.2.1 q.2.2.1 q.2.2.2.1 q.2.2.2.2
def w_X11_has (x1 : Int32) (x2 : Int32) (h : HI) (g : HL) (Q : Int32 → HI → HL → Prop) : Prop :=
  lpE (F_X11_has_2 Q) (x1, x2, (0 : Int32), h, g)
set_option maxHeartbeats 8000000 in
set_option maxRecDepth 100000 in
theorem m_X11_has (l : Launch) (D : va_G) (cy : Nat → ClassId) (ad : Nat → Nat) (h : HI) (g : HL) (sz : Nat) (x1 : Int32) (x2 : Int32) (Q : Int32 → HI → HL → Prop) (HW : w_X11_has x1 x2 h g Q) : Met l yX11_has (wa yX11_has cX11_has 4 (some .boolean)) ({ frames := 1, cells := 0, slots := 0, locals := 22 }) (va_Pc [.ref (ad 135), .int x1, .int x2] (gI D cy ad h g sz)) (va_Qi (fun (r : Int32) (u : HI × HL) => zb r ∧ Q r u.1 u.2) (gB D cy ad sz) (gA ad sz)) 0 0 (gA ad sz) := by
  refine Met.ofW (cc := cX11_has) (maxL := 4) (ret := (some .boolean)) (by decide) rfl ?_
  intro p e s m args below meth c s₁ B hml hv
  obtain ⟨hav, hsz, hP, hK, hD0, hNw⟩ := hv
  have hx := B.exec
  have hb := B.bytes
  have hr := B.returns
  have hts := atoms_spec (ws := (wa yX11_has cX11_has 4 (some .boolean))) B.pre
  have hw := wa_hw hts
  have hown : s.vm.findClass RX11 = some m.cls := findClass_of_methodNamed B.named
  have hlocks := B.notSynchronized
  subst hsz
  have hG : gG D cy ad (gA ad s.heap.size) s.heap h g s.heap [] := ⟨hP, gA_self hD0, va_S.rf⟩
  clear hP hD0
  rw [show (headSpec (wa yX11_has cX11_has 4 (some .boolean)) ({ frames := 1, cells := 0, slots := 0, locals := 22 } : Room)).room = ({ frames := 1, cells := 0, slots := 0, locals := 22 } : Room) from rfl]
  have hl := lv_entry ([.ref (ad 135), .int x1, .int x2]) (n := 4) (Nat.le_of_ble_eq_true rfl)
  rw [show entryFrame m args 4 = entryFrame m ([.ref (ad 135), .int x1, .int x2] : List Value).toArray 4 from by rw [hav], lg_entry_eq]
  generalize (lg_sl ([.ref (ad 135), .int x1, .int x2]) ++ List.replicate (4 - (lg_sl ([.ref (ad 135), .int x1, .int x2])).length) Slot.unset).toArray = ls at hl ⊢
  have hl : lv_has ls 4 [(0, .ref (ad 135)), (1, .int x1), (2, .int x2)] := hl
  have L2 : ∀ (n : Nat) (x1 : Int32) (x2 : Int32) (x3 : Int32) (h : HI) (g : HL) (H : Heap) (locs : List Loc) (ls : Array Slot), lpN (F_X11_has_2 Q) n (x1, x2, x3, h, g) → gG D cy ad (gA ad s.heap.size) s.heap h g H locs → lv_has ls 4 [(0, .ref (ad 135)), (1, .int x1), (2, .int x2), (3, .int x3)] → W p l e ({ frames := 1, cells := 0, slots := 0, locals := 22 } : Room) s m args below meth c H locs 0 0 (MQ below (va_Qi (fun (r : Int32) (u : HI × HL) => zb r ∧ Q r u.1 u.2) (gB D cy ad s.heap.size) (gA ad s.heap.size)) args s 0 0 (gA ad s.heap.size)) (F0 m 2 ls []) := by
    intro n
    induction n with
    | zero => intro x1 x2 x3 h g H locs ls HW; exact HW.elim
    | succ n ih =>
      intro x1 x2 x3 h g H locs ls HW hG hl
      have HW : b_X11_has_2 Q (fun x1 x2 x3 h g => lpN (F_X11_has_2 Q) n (x1, x2, x3, h, g)) x1 x2 x3 h g := HW
      generalize hKe : (fun (x1 : Int32) (x2 : Int32) (x3 : Int32) (h : HI) (g : HL) => lpN (F_X11_has_2 Q) n (x1, x2, x3, h, g)) = K2 at HW
      have hK2 : ∀ (x1 : Int32) (x2 : Int32) (x3 : Int32) (h : HI) (g : HL) (H : Heap) (locs : List Loc) (ls : Array Slot), K2 x1 x2 x3 h g → gG D cy ad (gA ad s.heap.size) s.heap h g H locs → lv_has ls 4 [(0, .ref (ad 135)), (1, .int x1), (2, .int x2), (3, .int x3)] → W p l e ({ frames := 1, cells := 0, slots := 0, locals := 22 } : Room) s m args below meth c H locs 0 0 (MQ below (va_Qi (fun (r : Int32) (u : HI × HL) => zb r ∧ Q r u.1 u.2) (gB D cy ad s.heap.size) (gA ad s.heap.size)) args s 0 0 (gA ad s.heap.size)) (F0 m 2 ls []) := by subst hKe; exact ih
      clear ih
      clear hKe
      unfold b_X11_has_2 at HW
      refine lv_iload_n hx hb dX11_has_2 rfl (lv_at hl 3 rfl) ?_
      refine lv_aload_n hx hb dX11_has_3 rfl (lv_at hl 0 rfl) ?_
      refine lv_iload_n hx hb dX11_has_4 rfl (lv_at hl 1 rfl) ?_
      refine lv_iconst (v := 2) hx hb dX11_has_5 (by decide) ?_
      obtain ⟨P_6, HC_6, HW⟩ := HW
      refine g_calli (g_runV (As := [.int x1, .int (2 : Int32)]) (rest := [.int x3]) ⟨hx, hb, hml, hown, hts⟩ (m_X11_chainOf l D cy ad h g H.size x1 (2 : Int32) P_6 HC_6) (cwV 2 hts (gd_V (wm6 33 rfl rfl) (wm6 35 rfl rfl) (wmp4 (q := (yX11_chainOf, 26)) 12 rfl) (wm1 13 rfl rfl) (wm6 36 rfl rfl)) rfl rfl rfl (by decide +kernel) ⟨Nat.le_of_ble_eq_true rfl, Nat.le_of_ble_eq_true rfl⟩) hK hNw hG gl_135 rfl gk_135 (by decide) rfl rfl hl.1 rfl (lv_room (Nat.le_of_ble_eq_true rfl)) dX11_has_6 ⟨Nat.zero_le _, Nat.zero_le _⟩) hG (fun r_6 h_6 g_6 H locs hq hG => ?_)
      replace HW := HW r_6 h_6 g_6 hq
      refine lv_icmp_ge (tgt := 32) hx hb dX11_has_9 (by decide) (fun c_9 => ?_) (fun c_9 => ?_)
      · replace HW := HW.1 c_9
        refine lv_iconst (v := 0) hx hb dX11_has_32 (by decide) ?_
        exact W.zret (v := (0 : Int32)) hx hb hr rfl (fun t ht hW => ⟨⟨(0 : Int32), (h_6, g_6), rfl, ⟨Or.inl rfl, HW⟩, g_B ht hG⟩, hG.2.2.F ht⟩) hG.2.2.2.2 dX11_has_33
      · replace HW := HW.2 c_9
        refine lv_aload_n hx hb dX11_has_12 rfl (lv_at hl 0 rfl) ?_
        refine lv_iload_n hx hb dX11_has_13 rfl (lv_at hl 1 rfl) ?_
        refine lv_iconst (v := 3) hx hb dX11_has_14 (by decide) ?_
        refine lv_iload_n hx hb dX11_has_15 rfl (lv_at hl 3 rfl) ?_
        refine lv_iadd hx hb dX11_has_16 ?_
        obtain ⟨P_17, HC_17, HW⟩ := HW
        refine g_calli (g_runV (As := [.int x1, .int ((3 : Int32) + x3)]) (rest := []) ⟨hx, hb, hml, hown, hts⟩ (m_X11_chainOf l D cy ad h_6 g_6 H.size x1 ((3 : Int32) + x3) P_17 HC_17) (cwV 2 hts (gd_V (wm6 33 rfl rfl) (wm6 35 rfl rfl) (wmp4 (q := (yX11_chainOf, 26)) 12 rfl) (wm1 13 rfl rfl) (wm6 36 rfl rfl)) rfl rfl rfl (by decide +kernel) ⟨Nat.le_of_ble_eq_true rfl, Nat.le_of_ble_eq_true rfl⟩) hK hNw hG gl_135 rfl gk_135 (by decide) rfl rfl hl.1 rfl (lv_room (Nat.le_of_ble_eq_true rfl)) dX11_has_17 ⟨Nat.zero_le _, Nat.zero_le _⟩) hG (fun r_17 h_17 g_17 H locs hq hG => ?_)
        replace HW := HW r_17 h_17 g_17 hq
        refine lv_iload_n hx hb dX11_has_20 rfl (lv_at hl 2 rfl) ?_
        refine lv_icmp_ne (tgt := 26) hx hb dX11_has_21 (by decide) (fun c_21 => ?_) (fun c_21 => ?_)
        · replace HW := HW.1 c_21
          obtain ⟨x3_26, ex3_26⟩ : ∃ y : Int32, y = (x3 + 1) := ⟨_, rfl⟩
          replace HW := HW x3_26 ex3_26
          refine lv_iinc (v := x3_26) (lv' := [(3, .int x3_26), (0, .ref (ad 135)), (1, .int x1), (2, .int x2)]) hx hb dX11_has_26 hl (k := 3) rfl (by rw [ex3_26]; rfl) (by decide) rfl (fun ls hl => ?_)
          refine lv_goto (tgt := 2) hx hb dX11_has_29 (by decide) ?_
          exact hK2 x1 x2 x3_26 h_17 g_17 _ _ _ HW hG (lv_sub hl [1, 2, 3, 0] rfl)
        · replace HW := HW.2 c_21
          refine lv_iconst (v := 1) hx hb dX11_has_24 (by decide) ?_
          exact W.zret (v := (1 : Int32)) hx hb hr rfl (fun t ht hW => ⟨⟨(1 : Int32), (h_17, g_17), rfl, ⟨Or.inr rfl, HW⟩, g_B ht hG⟩, hG.2.2.F ht⟩) hG.2.2.2.2 dX11_has_25
  have E0 : ∀ (H : Heap) (locs : List Loc) (ls : Array Slot), gG D cy ad (gA ad s.heap.size) s.heap h g H locs → lv_has ls 4 [(0, .ref (ad 135)), (1, .int x1), (2, .int x2)] → W p l e ({ frames := 1, cells := 0, slots := 0, locals := 22 } : Room) s m args below meth c H locs 0 0 (MQ below (va_Qi (fun (r : Int32) (u : HI × HL) => zb r ∧ Q r u.1 u.2) (gB D cy ad s.heap.size) (gA ad s.heap.size)) args s 0 0 (gA ad s.heap.size)) (F0 m 0 ls []) := by
    intro H locs ls hG hl
    unfold w_X11_has at HW
    refine lv_iconst (v := 0) hx hb dX11_has_0 (by decide) ?_
    refine lv_istore_n (lv' := [(3, .int (0 : Int32)), (0, .ref (ad 135)), (1, .int x1), (2, .int x2)]) hx hb dX11_has_1 rfl hl (by decide) rfl (fun ls hl => ?_)
    obtain ⟨n_2, HW⟩ := HW
    exact L2 n_2 x1 x2 (0 : Int32) h g _ _ _ HW hG (lv_sub hl [1, 2, 3, 0] rfl)
  exact E0 _ _ _ hG hl

def j_X11_link_107 (Q : Int32 → HI → HL → Prop) (x4 : Int32) (s1 : Int32) (s2 : Int32) (s3 : Int32) (h : HI) (g : HL) : Prop :=
  (vp_in s1 887 ∧ ∀ h_108 : HI, h_108 = hu h 136 s1.toNatClampNeg (s2 ||| s3) → (vp_in (x4 + (2 : Int32)) 887 ∧ (vp_in (x4 + (2 : Int32)) 887 ∧ ∀ h_121 : HI, h_121 = hu h_108 136 (x4 + (2 : Int32)).toNatClampNeg ((h_108 136 (x4 + (2 : Int32)).toNatClampNeg) + (1 : Int32)) → (vp_in (x4 + (2 : Int32)) 887 ∧ Q (h_121 136 (x4 + (2 : Int32)).toNatClampNeg) h_121 g))))
def w_X11_link (x1 : Int32) (x2 : Int32) (x3 : Int32) (h : HI) (g : HL) (Q : Int32 → HI → HL → Prop) : Prop :=
  (∃ P_3 : Int32 → HI → HL → Prop, w_X11_is (2 : Int32) x1 h g P_3 ∧ ∀ (r_3 : Int32) (h_3 : HI) (g_3 : HL), zb r_3 → P_3 r_3 h_3 g_3 → ((r_3 = 0 → Q (-2 : Int32) h_3 g_3) ∧ (¬ r_3 = 0 → (∃ P_12 : Int32 → HI → HL → Prop, w_X11_is (0 : Int32) x2 h_3 g_3 P_12 ∧ ∀ (r_12 : Int32) (h_12 : HI) (g_12 : HL), zb r_12 → P_12 r_12 h_12 g_12 → ((r_12 = 0 → Q (-2 : Int32) h_12 g_12) ∧ (¬ r_12 = 0 → (∃ P_21 : Int32 → HI → HL → Prop, w_X11_has x1 x2 h_12 g_12 P_21 ∧ ∀ (r_21 : Int32) (h_21 : HI) (g_21 : HL), zb r_21 → P_21 r_21 h_21 g_21 → ((r_21 = 0 → (∀ x4_38 : Int32, x4_38 = ((512 : Int32) + ((10 : Int32) * x1)) → (vp_in (x4_38 + (2 : Int32)) 887 ∧ ((¬ (h_21 136 (x4_38 + (2 : Int32)).toNatClampNeg) = (6 : Int32) → (vp_in (x4_38 + (2 : Int32)) 887 ∧ (vp_in ((x4_38 + (3 : Int32)) + (h_21 136 (x4_38 + (2 : Int32)).toNatClampNeg)) 887 ∧ ∀ h_76 : HI, h_76 = hu h_21 136 ((x4_38 + (3 : Int32)) + (h_21 136 (x4_38 + (2 : Int32)).toNatClampNeg)).toNatClampNeg x2 → (vp_in (x4_38 + (9 : Int32)) 887 ∧ ((x3 = 0 → j_X11_link_107 Q x4_38 (x4_38 + (9 : Int32)) (h_76 136 (x4_38 + (9 : Int32)).toNatClampNeg) (0 : Int32) h_76 g_21) ∧ (¬ x3 = 0 → (vp_in (x4_38 + (2 : Int32)) 887 ∧ j_X11_link_107 Q x4_38 (x4_38 + (9 : Int32)) (h_76 136 (x4_38 + (9 : Int32)).toNatClampNeg) ((1 : Int32) <<< ((h_76 136 (x4_38 + (2 : Int32)).toNatClampNeg) &&& 31)) h_76 g_21))))))) ∧ ((h_21 136 (x4_38 + (2 : Int32)).toNatClampNeg) = (6 : Int32) → Q (-4 : Int32) h_21 g_21))))) ∧ (¬ r_21 = 0 → Q (-2 : Int32) h_21 g_21)))))))))
set_option maxHeartbeats 8000000 in
set_option maxRecDepth 100000 in
theorem m_X11_link (l : Launch) (D : va_G) (cy : Nat → ClassId) (ad : Nat → Nat) (h : HI) (g : HL) (sz : Nat) (x1 : Int32) (x2 : Int32) (x3 : Int32) (Q : Int32 → HI → HL → Prop) (HW : w_X11_link x1 x2 x3 h g Q) : Met l yX11_link (wa yX11_link cX11_link 5 (some .int)) ({ frames := 2, cells := 0, slots := 0, locals := 47 }) (va_Pc [.ref (ad 135), .int x1, .int x2, .int x3] (gI D cy ad h g sz)) (va_Qi (fun (r : Int32) (u : HI × HL) => Q r u.1 u.2) (gB D cy ad sz) (gA ad sz)) 0 0 (gA ad sz) := by
  refine Met.ofW (cc := cX11_link) (maxL := 5) (ret := (some .int)) (by decide) rfl ?_
  intro p e s m args below meth c s₁ B hml hv
  obtain ⟨hav, hsz, hP, hK, hD0, hNw⟩ := hv
  have hx := B.exec
  have hb := B.bytes
  have hr := B.returns
  have hts := atoms_spec (ws := (wa yX11_link cX11_link 5 (some .int))) B.pre
  have hw := wa_hw hts
  have hown : s.vm.findClass RX11 = some m.cls := findClass_of_methodNamed B.named
  have hlocks := B.notSynchronized
  subst hsz
  have hG : gG D cy ad (gA ad s.heap.size) s.heap h g s.heap [] := ⟨hP, gA_self hD0, va_S.rf⟩
  clear hP hD0
  have lk7 := hw (.fieldLink RX11 7 "OldWorksModel" "st" "[I") (wm5 27 rfl rfl)
  rw [show (headSpec (wa yX11_link cX11_link 5 (some .int)) ({ frames := 2, cells := 0, slots := 0, locals := 47 } : Room)).room = ({ frames := 2, cells := 0, slots := 0, locals := 47 } : Room) from rfl]
  have hl := lv_entry ([.ref (ad 135), .int x1, .int x2, .int x3]) (n := 5) (Nat.le_of_ble_eq_true rfl)
  rw [show entryFrame m args 5 = entryFrame m ([.ref (ad 135), .int x1, .int x2, .int x3] : List Value).toArray 5 from by rw [hav], lg_entry_eq]
  generalize (lg_sl ([.ref (ad 135), .int x1, .int x2, .int x3]) ++ List.replicate (5 - (lg_sl ([.ref (ad 135), .int x1, .int x2, .int x3])).length) Slot.unset).toArray = ls at hl ⊢
  have hl : lv_has ls 5 [(0, .ref (ad 135)), (1, .int x1), (2, .int x2), (3, .int x3)] := hl
  have B107 : ∀ (x4 : Int32) (s1 : Int32) (s2 : Int32) (s3 : Int32) (h : HI) (g : HL) (H : Heap) (locs : List Loc) (ls : Array Slot), j_X11_link_107 Q x4 s1 s2 s3 h g → gG D cy ad (gA ad s.heap.size) s.heap h g H locs → lv_has ls 5 [(0, .ref (ad 135)), (4, .int x4)] → W p l e ({ frames := 2, cells := 0, slots := 0, locals := 47 } : Room) s m args below meth c H locs 0 0 (MQ below (va_Qi (fun (r : Int32) (u : HI × HL) => Q r u.1 u.2) (gB D cy ad s.heap.size) (gA ad s.heap.size)) args s 0 0 (gA ad s.heap.size)) (F0 m 107 ls [.int s3, .int s2, .int s1, .ref (ad 136)]) := by
    intro x4 s1 s2 s3 h g H locs ls HW hG hl
    unfold j_X11_link_107 at HW
    refine lv_ior hx hb dX11_link_107 ?_
    refine g_iast hx hb hK hG gl_136 gk_136 gn_136 HW.1 dX11_link_108 (fun H locs hG => ?_)
    replace HW := HW.2
    obtain ⟨h_108, eh_108⟩ : ∃ y : HI, y = hu h 136 s1.toNatClampNeg (s2 ||| s3) := ⟨_, rfl⟩
    rw [← eh_108] at hG
    replace HW := HW h_108 eh_108
    refine lv_aload_n hx hb dX11_link_109 rfl (lv_at hl 0 rfl) ?_
    refine g_getr hx hb hw inG11 hown hK hG gl_135 rfl gk_135 (by decide) 0 (by decide) (by rw [gm_135]; decide) (r := 136) gr_135_0 lk7 dX11_link_110 ?_
    refine lv_iload hx hb dX11_link_113 (lv_at hl 1 rfl) ?_
    refine lv_iconst (v := 2) hx hb dX11_link_115 (by decide) ?_
    refine lv_iadd hx hb dX11_link_116 ?_
    refine lv_dup2_11 hx hb dX11_link_117 rfl rfl ?_
    refine g_iald hx hb hK hG gl_136 gk_136 gn_136 HW.1 dX11_link_118 ?_
    replace HW := HW.2
    refine lv_iconst (v := 1) hx hb dX11_link_119 (by decide) ?_
    refine lv_iadd hx hb dX11_link_120 ?_
    refine g_iast hx hb hK hG gl_136 gk_136 gn_136 HW.1 dX11_link_121 (fun H locs hG => ?_)
    replace HW := HW.2
    obtain ⟨h_121, eh_121⟩ : ∃ y : HI, y = hu h_108 136 (x4 + (2 : Int32)).toNatClampNeg ((h_108 136 (x4 + (2 : Int32)).toNatClampNeg) + (1 : Int32)) := ⟨_, rfl⟩
    rw [← eh_121] at hG
    replace HW := HW h_121 eh_121
    refine lv_aload_n hx hb dX11_link_122 rfl (lv_at hl 0 rfl) ?_
    refine g_getr hx hb hw inG11 hown hK hG gl_135 rfl gk_135 (by decide) 0 (by decide) (by rw [gm_135]; decide) (r := 136) gr_135_0 lk7 dX11_link_123 ?_
    refine lv_iload hx hb dX11_link_126 (lv_at hl 1 rfl) ?_
    refine lv_iconst (v := 2) hx hb dX11_link_128 (by decide) ?_
    refine lv_iadd hx hb dX11_link_129 ?_
    refine g_iald hx hb hK hG gl_136 gk_136 gn_136 HW.1 dX11_link_130 ?_
    replace HW := HW.2
    exact W.iret (v := (h_121 136 (x4 + (2 : Int32)).toNatClampNeg)) hx hb hr (fun t ht hW => ⟨⟨(h_121 136 (x4 + (2 : Int32)).toNatClampNeg), (h_121, g), rfl, HW, g_B ht hG⟩, hG.2.2.F ht⟩) hG.2.2.2.2 dX11_link_131
  have E0 : ∀ (H : Heap) (locs : List Loc) (ls : Array Slot), gG D cy ad (gA ad s.heap.size) s.heap h g H locs → lv_has ls 5 [(0, .ref (ad 135)), (1, .int x1), (2, .int x2), (3, .int x3)] → W p l e ({ frames := 2, cells := 0, slots := 0, locals := 47 } : Room) s m args below meth c H locs 0 0 (MQ below (va_Qi (fun (r : Int32) (u : HI × HL) => Q r u.1 u.2) (gB D cy ad s.heap.size) (gA ad s.heap.size)) args s 0 0 (gA ad s.heap.size)) (F0 m 0 ls []) := by
    intro H locs ls hG hl
    unfold w_X11_link at HW
    refine lv_aload_n hx hb dX11_link_0 rfl (lv_at hl 0 rfl) ?_
    refine lv_iconst (v := 2) hx hb dX11_link_1 (by decide) ?_
    refine lv_iload_n hx hb dX11_link_2 rfl (lv_at hl 1 rfl) ?_
    obtain ⟨P_3, HC_3, HW⟩ := HW
    refine g_callz (g_runV (As := [.int (2 : Int32), .int x1]) (rest := []) ⟨hx, hb, hml, hown, hts⟩ (m_X11_is l D cy ad h g H.size (2 : Int32) x1 P_3 HC_3) (cwV 2 hts (gd_V (wm5 184 rfl rfl) (wm5 186 rfl rfl) (wmp3 (q := (yX11_is, 26)) 14 rfl) (wm1 13 rfl rfl) (wm5 187 rfl rfl)) rfl rfl rfl (by decide +kernel) ⟨Nat.le_of_ble_eq_true rfl, Nat.le_of_ble_eq_true rfl⟩) hK hNw hG gl_135 rfl gk_135 (by decide) rfl rfl hl.1 rfl (lv_room (Nat.le_of_ble_eq_true rfl)) dX11_link_3 ⟨Nat.zero_le _, Nat.zero_le _⟩) hG (fun r_3 h_3 g_3 H locs hz hq hG => ?_)
    replace HW := HW r_3 h_3 g_3 hz hq
    refine lv_if_eq (tgt := 27) hx hb dX11_link_6 (by decide) (fun c_6 => ?_) (fun c_6 => ?_)
    · replace HW := HW.1 c_6
      refine lv_bipush (v := (-2)) hx hb dX11_link_27 (by decide) ?_
      exact W.iret (v := (-2 : Int32)) hx hb hr (fun t ht hW => ⟨⟨(-2 : Int32), (h_3, g_3), rfl, HW, g_B ht hG⟩, hG.2.2.F ht⟩) hG.2.2.2.2 dX11_link_29
    · replace HW := HW.2 c_6
      refine lv_aload_n hx hb dX11_link_9 rfl (lv_at hl 0 rfl) ?_
      refine lv_iconst (v := 0) hx hb dX11_link_10 (by decide) ?_
      refine lv_iload_n hx hb dX11_link_11 rfl (lv_at hl 2 rfl) ?_
      obtain ⟨P_12, HC_12, HW⟩ := HW
      refine g_callz (g_runV (As := [.int (0 : Int32), .int x2]) (rest := []) ⟨hx, hb, hml, hown, hts⟩ (m_X11_is l D cy ad h_3 g_3 H.size (0 : Int32) x2 P_12 HC_12) (cwV 2 hts (gd_V (wm5 184 rfl rfl) (wm5 186 rfl rfl) (wmp3 (q := (yX11_is, 26)) 14 rfl) (wm1 13 rfl rfl) (wm5 187 rfl rfl)) rfl rfl rfl (by decide +kernel) ⟨Nat.le_of_ble_eq_true rfl, Nat.le_of_ble_eq_true rfl⟩) hK hNw hG gl_135 rfl gk_135 (by decide) rfl rfl hl.1 rfl (lv_room (Nat.le_of_ble_eq_true rfl)) dX11_link_12 ⟨Nat.zero_le _, Nat.zero_le _⟩) hG (fun r_12 h_12 g_12 H locs hz hq hG => ?_)
      replace HW := HW r_12 h_12 g_12 hz hq
      refine lv_if_eq (tgt := 27) hx hb dX11_link_15 (by decide) (fun c_15 => ?_) (fun c_15 => ?_)
      · replace HW := HW.1 c_15
        refine lv_bipush (v := (-2)) hx hb dX11_link_27 (by decide) ?_
        exact W.iret (v := (-2 : Int32)) hx hb hr (fun t ht hW => ⟨⟨(-2 : Int32), (h_12, g_12), rfl, HW, g_B ht hG⟩, hG.2.2.F ht⟩) hG.2.2.2.2 dX11_link_29
      · replace HW := HW.2 c_15
        refine lv_aload_n hx hb dX11_link_18 rfl (lv_at hl 0 rfl) ?_
        refine lv_iload_n hx hb dX11_link_19 rfl (lv_at hl 1 rfl) ?_
        refine lv_iload_n hx hb dX11_link_20 rfl (lv_at hl 2 rfl) ?_
        obtain ⟨P_21, HC_21, HW⟩ := HW
        refine g_callz (g_runV (As := [.int x1, .int x2]) (rest := []) ⟨hx, hb, hml, hown, hts⟩ (m_X11_has l D cy ad h_12 g_12 H.size x1 x2 P_21 HC_21) (cwV 2 hts (gd_V (wm6 29 rfl rfl) (wm6 31 rfl rfl) (wmp4 (q := (yX11_has, 26)) 11 rfl) (wm1 13 rfl rfl) (wm6 32 rfl rfl)) rfl rfl rfl (by decide +kernel) ⟨Nat.le_of_ble_eq_true rfl, Nat.le_of_ble_eq_true rfl⟩) hK hNw hG gl_135 rfl gk_135 (by decide) rfl rfl hl.1 rfl (lv_room (Nat.le_of_ble_eq_true rfl)) dX11_link_21 ⟨Nat.zero_le _, Nat.zero_le _⟩) hG (fun r_21 h_21 g_21 H locs hz hq hG => ?_)
        replace HW := HW r_21 h_21 g_21 hz hq
        refine lv_if_eq (tgt := 30) hx hb dX11_link_24 (by decide) (fun c_24 => ?_) (fun c_24 => ?_)
        · replace HW := HW.1 c_24
          refine lv_sipush (v := 512) hx hb dX11_link_30 (by decide) ?_
          refine lv_bipush (v := 10) hx hb dX11_link_33 (by decide) ?_
          refine lv_iload_n hx hb dX11_link_35 rfl (lv_at hl 1 rfl) ?_
          refine lv_imul hx hb dX11_link_36 ?_
          refine lv_iadd hx hb dX11_link_37 ?_
          refine lv_topi (fun x4_38 ex4_38 => ?_)
          replace HW := HW x4_38 ex4_38
          refine lv_istore (lv' := [(4, .int x4_38), (0, .ref (ad 135)), (1, .int x1), (2, .int x2), (3, .int x3)]) hx hb dX11_link_38 hl (by decide) rfl (fun ls hl => ?_)
          refine lv_aload_n hx hb dX11_link_40 rfl (lv_at hl 1 rfl) ?_
          refine g_getr hx hb hw inG11 hown hK hG gl_135 rfl gk_135 (by decide) 0 (by decide) (by rw [gm_135]; decide) (r := 136) gr_135_0 lk7 dX11_link_41 ?_
          refine lv_iload hx hb dX11_link_44 (lv_at hl 0 rfl) ?_
          refine lv_iconst (v := 2) hx hb dX11_link_46 (by decide) ?_
          refine lv_iadd hx hb dX11_link_47 ?_
          refine g_iald hx hb hK hG gl_136 gk_136 gn_136 HW.1 dX11_link_48 ?_
          replace HW := HW.2
          refine lv_bipush (v := 6) hx hb dX11_link_49 (by decide) ?_
          refine lv_icmp_ne (tgt := 57) hx hb dX11_link_51 (by decide) (fun c_51 => ?_) (fun c_51 => ?_)
          · replace HW := HW.1 c_51
            refine lv_aload_n hx hb dX11_link_57 rfl (lv_at hl 1 rfl) ?_
            refine g_getr hx hb hw inG11 hown hK hG gl_135 rfl gk_135 (by decide) 0 (by decide) (by rw [gm_135]; decide) (r := 136) gr_135_0 lk7 dX11_link_58 ?_
            refine lv_iload hx hb dX11_link_61 (lv_at hl 0 rfl) ?_
            refine lv_iconst (v := 3) hx hb dX11_link_63 (by decide) ?_
            refine lv_iadd hx hb dX11_link_64 ?_
            refine lv_aload_n hx hb dX11_link_65 rfl (lv_at hl 1 rfl) ?_
            refine g_getr hx hb hw inG11 hown hK hG gl_135 rfl gk_135 (by decide) 0 (by decide) (by rw [gm_135]; decide) (r := 136) gr_135_0 lk7 dX11_link_66 ?_
            refine lv_iload hx hb dX11_link_69 (lv_at hl 0 rfl) ?_
            refine lv_iconst (v := 2) hx hb dX11_link_71 (by decide) ?_
            refine lv_iadd hx hb dX11_link_72 ?_
            refine g_iald hx hb hK hG gl_136 gk_136 gn_136 HW.1 dX11_link_73 ?_
            replace HW := HW.2
            refine lv_iadd hx hb dX11_link_74 ?_
            refine lv_iload_n hx hb dX11_link_75 rfl (lv_at hl 3 rfl) ?_
            refine g_iast hx hb hK hG gl_136 gk_136 gn_136 HW.1 dX11_link_76 (fun H locs hG => ?_)
            replace HW := HW.2
            obtain ⟨h_76, eh_76⟩ : ∃ y : HI, y = hu h_21 136 ((x4_38 + (3 : Int32)) + (h_21 136 (x4_38 + (2 : Int32)).toNatClampNeg)).toNatClampNeg x2 := ⟨_, rfl⟩
            rw [← eh_76] at hG
            replace HW := HW h_76 eh_76
            refine lv_aload_n hx hb dX11_link_77 rfl (lv_at hl 1 rfl) ?_
            refine g_getr hx hb hw inG11 hown hK hG gl_135 rfl gk_135 (by decide) 0 (by decide) (by rw [gm_135]; decide) (r := 136) gr_135_0 lk7 dX11_link_78 ?_
            refine lv_iload hx hb dX11_link_81 (lv_at hl 0 rfl) ?_
            refine lv_bipush (v := 9) hx hb dX11_link_83 (by decide) ?_
            refine lv_iadd hx hb dX11_link_85 ?_
            refine lv_dup2_11 hx hb dX11_link_86 rfl rfl ?_
            refine g_iald hx hb hK hG gl_136 gk_136 gn_136 HW.1 dX11_link_87 ?_
            replace HW := HW.2
            refine lv_iload_n hx hb dX11_link_88 rfl (lv_at hl 4 rfl) ?_
            refine lv_if_eq (tgt := 106) hx hb dX11_link_89 (by decide) (fun c_89 => ?_) (fun c_89 => ?_)
            · replace HW := HW.1 c_89
              refine lv_iconst (v := 0) hx hb dX11_link_106 (by decide) ?_
              exact B107 x4_38 (x4_38 + (9 : Int32)) (h_76 136 (x4_38 + (9 : Int32)).toNatClampNeg) (0 : Int32) h_76 g_21 _ _ _ HW hG (lv_sub hl [1, 0] rfl)
            · replace HW := HW.2 c_89
              refine lv_iconst (v := 1) hx hb dX11_link_92 (by decide) ?_
              refine lv_aload_n hx hb dX11_link_93 rfl (lv_at hl 1 rfl) ?_
              refine g_getr hx hb hw inG11 hown hK hG gl_135 rfl gk_135 (by decide) 0 (by decide) (by rw [gm_135]; decide) (r := 136) gr_135_0 lk7 dX11_link_94 ?_
              refine lv_iload hx hb dX11_link_97 (lv_at hl 0 rfl) ?_
              refine lv_iconst (v := 2) hx hb dX11_link_99 (by decide) ?_
              refine lv_iadd hx hb dX11_link_100 ?_
              refine g_iald hx hb hK hG gl_136 gk_136 gn_136 HW.1 dX11_link_101 ?_
              replace HW := HW.2
              refine lv_ishl hx hb dX11_link_102 ?_
              refine lv_goto (tgt := 107) hx hb dX11_link_103 (by decide) ?_
              exact B107 x4_38 (x4_38 + (9 : Int32)) (h_76 136 (x4_38 + (9 : Int32)).toNatClampNeg) ((1 : Int32) <<< ((h_76 136 (x4_38 + (2 : Int32)).toNatClampNeg) &&& 31)) h_76 g_21 _ _ _ HW hG (lv_sub hl [1, 0] rfl)
          · replace HW := HW.2 c_51
            refine lv_bipush (v := (-4)) hx hb dX11_link_54 (by decide) ?_
            exact W.iret (v := (-4 : Int32)) hx hb hr (fun t ht hW => ⟨⟨(-4 : Int32), (h_21, g_21), rfl, HW, g_B ht hG⟩, hG.2.2.F ht⟩) hG.2.2.2.2 dX11_link_56
        · replace HW := HW.2 c_24
          refine lv_bipush (v := (-2)) hx hb dX11_link_27 (by decide) ?_
          exact W.iret (v := (-2 : Int32)) hx hb hr (fun t ht hW => ⟨⟨(-2 : Int32), (h_21, g_21), rfl, HW, g_B ht hG⟩, hG.2.2.F ht⟩) hG.2.2.2.2 dX11_link_29
  exact E0 _ _ _ hG hl

def j_X11_sums_161 (Q : Int32 → HI → HL → Prop) (K13 : Int32 → Int32 → Int32 → Int32 → Int32 → HI → HL → Prop) (x1 : Int32) (x2 : Int32) (x3 : Int32) (x4 : Int32) (x5 : Int32) (s1 : Int32) (s2 : Int32) (h : HI) (g : HL) : Prop :=
  (∀ h_162 : HI, h_162 = hu h 135 19 (s1 + s2) → (∀ x5_165 : Int32, x5_165 = (x5 + 1) → K13 x1 x2 x3 x4 x5_165 h_162 g))
def j_X11_sums_139 (Q : Int32 → HI → HL → Prop) (K13 : Int32 → Int32 → Int32 → Int32 → Int32 → HI → HL → Prop) (x1 : Int32) (x2 : Int32) (x3 : Int32) (x4 : Int32) (x5 : Int32) (x7 : Int32) (x9 : Int32) (x10 : Int32) (s1 : Int32) (s2 : Int32) (h : HI) (g : HL) : Prop :=
  (∀ h_140 : HI, h_140 = hu h 135 18 (s1 + s2) → ((x10 = 0 → j_X11_sums_161 Q K13 x1 x2 x3 x4 x5 (h_140 135 19) x9 h_140 g) ∧ (¬ x10 = 0 → j_X11_sums_161 Q K13 x1 x2 x3 x4 x5 (h_140 135 19) (-x7) h_140 g)))
def j_X11_sums_119 (Q : Int32 → HI → HL → Prop) (K13 : Int32 → Int32 → Int32 → Int32 → Int32 → HI → HL → Prop) (x1 : Int32) (x2 : Int32) (x3 : Int32) (x4 : Int32) (x5 : Int32) (x7 : Int32) (x9 : Int32) (s0 : Int32) (h : HI) (g : HL) : Prop :=
  ((s0 = 0 → j_X11_sums_139 Q K13 x1 x2 x3 x4 x5 x7 x9 s0 (h 135 18) x7 h g) ∧ (¬ s0 = 0 → j_X11_sums_139 Q K13 x1 x2 x3 x4 x5 x7 x9 s0 (h 135 18) (-x9) h g))
def j_X11_sums_51 (Q : Int32 → HI → HL → Prop) (K13 : Int32 → Int32 → Int32 → Int32 → Int32 → HI → HL → Prop) (x1 : Int32) (x2 : Int32) (x3 : Int32) (x4 : Int32) (x5 : Int32) (s0 : Int32) (h : HI) (g : HL) : Prop :=
  (∃ P_57 : Int32 → HI → HL → Prop, w_X11_firstOf s0 (0 : Int32) h g P_57 ∧ ∀ (r_57 : Int32) (h_57 : HI) (g_57 : HL), P_57 r_57 h_57 g_57 → ((¬ r_57 = (-1 : Int32) → (∃ P_74 : Int32 → HI → HL → Prop, w_X11_wornOf s0 x2 h_57 g_57 P_74 ∧ ∀ (r_74 : Int32) (h_74 : HI) (g_74 : HL), P_74 r_74 h_74 g_74 → (∃ P_83 : Int32 → HI → HL → Prop, w_X11_firstOf s0 (1 : Int32) h_74 g_74 P_83 ∧ ∀ (r_83 : Int32) (h_83 : HI) (g_83 : HL), P_83 r_83 h_83 g_83 → (∀ x9_89 : Int32, x9_89 = (r_83 - r_74) → (∀ x7_96 : Int32, x7_96 = (r_57 - r_74) → (∃ P_102 : Int32 → HI → HL → Prop, w_X11_chainOf x1 (9 : Int32) h_83 g_83 P_102 ∧ ∀ (r_102 : Int32) (h_102 : HI) (g_102 : HL), P_102 r_102 h_102 g_102 → ((¬ ((r_102 >>> (x5 &&& 31)) &&& (1 : Int32)) = (1 : Int32) → j_X11_sums_119 Q K13 x1 x2 x3 x4 x5 x7_96 x9_89 (0 : Int32) h_102 g_102) ∧ (((r_102 >>> (x5 &&& 31)) &&& (1 : Int32)) = (1 : Int32) → j_X11_sums_119 Q K13 x1 x2 x3 x4 x5 x7_96 x9_89 (1 : Int32) h_102 g_102)))))))) ∧ (r_57 = (-1 : Int32) → Q (0 : Int32) h_57 g_57)))
def b_X11_sums_13 (Q : Int32 → HI → HL → Prop) (K13 : Int32 → Int32 → Int32 → Int32 → Int32 → HI → HL → Prop) (x1 : Int32) (x2 : Int32) (x3 : Int32) (x4 : Int32) (x5 : Int32) (h : HI) (g : HL) : Prop :=
  (∃ P_18 : Int32 → HI → HL → Prop, w_X11_chainOf x1 (2 : Int32) h g P_18 ∧ ∀ (r_18 : Int32) (h_18 : HI) (g_18 : HL), P_18 r_18 h_18 g_18 → ((r_18 ≤ x5 → Q (1 : Int32) h_18 g_18) ∧ (¬ r_18 ≤ x5 → (∃ P_30 : Int32 → HI → HL → Prop, w_X11_chainOf x1 ((3 : Int32) + x5) h_18 g_18 P_30 ∧ ∀ (r_30 : Int32) (h_30 : HI) (g_30 : HL), P_30 r_30 h_30 g_30 → ((¬ r_30 = x4 → (∃ P_48 : Int32 → HI → HL → Prop, w_X11_chainOf x1 ((3 : Int32) + x5) h_30 g_30 P_48 ∧ ∀ (r_48 : Int32) (h_48 : HI) (g_48 : HL), P_48 r_48 h_48 g_48 → j_X11_sums_51 Q K13 x1 x2 x3 x4 x5 r_48 h_48 g_48)) ∧ (r_30 = x4 → j_X11_sums_51 Q K13 x1 x2 x3 x4 x5 x3 h_30 g_30))))))
def F_X11_sums_13 (Q : Int32 → HI → HL → Prop) (K : Int32 × Int32 × Int32 × Int32 × Int32 × HI × HL → Prop) (q : Int32 × Int32 × Int32 × Int32 × Int32 × HI × HL) : Prop := b_X11_sums_13 Q (fun x1 x2 x3 x4 x5 h g => K (x1, x2, x3, x4, x5, h, g)) q.1 q.2.1 q.2.2.1 q.2.2.2.1 q.2.2.2.2.1 q.2.2.2.2.2.1 q.2.2.2.2.2.2
def w_X11_sums (x1 : Int32) (x2 : Int32) (x3 : Int32) (x4 : Int32) (h : HI) (g : HL) (Q : Int32 → HI → HL → Prop) : Prop :=
  (∀ h_2 : HI, h_2 = hu h 135 18 (0 : Int32) → (∀ h_7 : HI, h_7 = hu h_2 135 19 (0 : Int32) → lpE (F_X11_sums_13 Q) (x1, x2, x3, x4, (0 : Int32), h_7, g)))
set_option maxHeartbeats 8000000 in
set_option maxRecDepth 100000 in
theorem m_X11_sums (l : Launch) (D : va_G) (cy : Nat → ClassId) (ad : Nat → Nat) (h : HI) (g : HL) (sz : Nat) (x1 : Int32) (x2 : Int32) (x3 : Int32) (x4 : Int32) (Q : Int32 → HI → HL → Prop) (HW : w_X11_sums x1 x2 x3 x4 h g Q) : Met l yX11_sums (wa yX11_sums cX11_sums 11 (some .boolean)) ({ frames := 8, cells := 0, slots := 0, locals := 188 }) (va_Pc [.ref (ad 135), .int x1, .int x2, .int x3, .int x4] (gI D cy ad h g sz)) (va_Qi (fun (r : Int32) (u : HI × HL) => zb r ∧ Q r u.1 u.2) (gB D cy ad sz) (gA ad sz)) 0 0 (gA ad sz) := by
  refine Met.ofW (cc := cX11_sums) (maxL := 11) (ret := (some .boolean)) (by decide) rfl ?_
  intro p e s m args below meth c s₁ B hml hv
  obtain ⟨hav, hsz, hP, hK, hD0, hNw⟩ := hv
  have hx := B.exec
  have hb := B.bytes
  have hr := B.returns
  have hts := atoms_spec (ws := (wa yX11_sums cX11_sums 11 (some .boolean))) B.pre
  have hw := wa_hw hts
  have hown : s.vm.findClass RX11 = some m.cls := findClass_of_methodNamed B.named
  have hlocks := B.notSynchronized
  subst hsz
  have hG : gG D cy ad (gA ad s.heap.size) s.heap h g s.heap [] := ⟨hP, gA_self hD0, va_S.rf⟩
  clear hP hD0
  have lk211 := hw (.fieldLink RX11 211 "OldWorksModel" "sumLow" "I") (wm5 45 rfl rfl)
  have lk214 := hw (.fieldLink RX11 214 "OldWorksModel" "sumHigh" "I") (wm5 46 rfl rfl)
  rw [show (headSpec (wa yX11_sums cX11_sums 11 (some .boolean)) ({ frames := 8, cells := 0, slots := 0, locals := 188 } : Room)).room = ({ frames := 8, cells := 0, slots := 0, locals := 188 } : Room) from rfl]
  have hl := lv_entry ([.ref (ad 135), .int x1, .int x2, .int x3, .int x4]) (n := 11) (Nat.le_of_ble_eq_true rfl)
  rw [show entryFrame m args 11 = entryFrame m ([.ref (ad 135), .int x1, .int x2, .int x3, .int x4] : List Value).toArray 11 from by rw [hav], lg_entry_eq]
  generalize (lg_sl ([.ref (ad 135), .int x1, .int x2, .int x3, .int x4]) ++ List.replicate (11 - (lg_sl ([.ref (ad 135), .int x1, .int x2, .int x3, .int x4])).length) Slot.unset).toArray = ls at hl ⊢
  have hl : lv_has ls 11 [(0, .ref (ad 135)), (1, .int x1), (2, .int x2), (3, .int x3), (4, .int x4)] := hl
  have B161 : ∀ (K13 : Int32 → Int32 → Int32 → Int32 → Int32 → HI → HL → Prop) (hK13 : ∀ (x1 : Int32) (x2 : Int32) (x3 : Int32) (x4 : Int32) (x5 : Int32) (h : HI) (g : HL) (H : Heap) (locs : List Loc) (ls : Array Slot), K13 x1 x2 x3 x4 x5 h g → gG D cy ad (gA ad s.heap.size) s.heap h g H locs → lv_has ls 11 [(0, .ref (ad 135)), (1, .int x1), (2, .int x2), (3, .int x3), (4, .int x4), (5, .int x5)] → W p l e ({ frames := 8, cells := 0, slots := 0, locals := 188 } : Room) s m args below meth c H locs 0 0 (MQ below (va_Qi (fun (r : Int32) (u : HI × HL) => zb r ∧ Q r u.1 u.2) (gB D cy ad s.heap.size) (gA ad s.heap.size)) args s 0 0 (gA ad s.heap.size)) (F0 m 13 ls [])) (x1 : Int32) (x2 : Int32) (x3 : Int32) (x4 : Int32) (x5 : Int32) (s1 : Int32) (s2 : Int32) (h : HI) (g : HL) (H : Heap) (locs : List Loc) (ls : Array Slot), j_X11_sums_161 Q K13 x1 x2 x3 x4 x5 s1 s2 h g → gG D cy ad (gA ad s.heap.size) s.heap h g H locs → lv_has ls 11 [(0, .ref (ad 135)), (1, .int x1), (2, .int x2), (3, .int x3), (4, .int x4), (5, .int x5)] → W p l e ({ frames := 8, cells := 0, slots := 0, locals := 188 } : Room) s m args below meth c H locs 0 0 (MQ below (va_Qi (fun (r : Int32) (u : HI × HL) => zb r ∧ Q r u.1 u.2) (gB D cy ad s.heap.size) (gA ad s.heap.size)) args s 0 0 (gA ad s.heap.size)) (F0 m 161 ls [.int s2, .int s1, .ref (ad 135)]) := by
    intro K13 hK13 x1 x2 x3 x4 x5 s1 s2 h g H locs ls HW hG hl
    unfold j_X11_sums_161 at HW
    refine lv_iadd hx hb dX11_sums_161 ?_
    refine g_put hx hb hw inG11 tyX11 tyX11_ok nmX11 hown hK hG gl_135 rfl gk_135 (by decide) 19 (by decide) (by rw [gm_135]; decide) gr_135_19 rfl (ty := .int) (by decide +kernel) rfl rfl lk214 dX11_sums_162 (fun H locs hG => ?_)
    obtain ⟨h_162, eh_162⟩ : ∃ y : HI, y = hu h 135 19 (s1 + s2) := ⟨_, rfl⟩
    rw [← eh_162] at hG
    replace HW := HW h_162 eh_162
    obtain ⟨x5_165, ex5_165⟩ : ∃ y : Int32, y = (x5 + 1) := ⟨_, rfl⟩
    replace HW := HW x5_165 ex5_165
    refine lv_iinc (v := x5_165) (lv' := [(5, .int x5_165), (0, .ref (ad 135)), (1, .int x1), (2, .int x2), (3, .int x3), (4, .int x4)]) hx hb dX11_sums_165 hl (k := 5) rfl (by rw [ex5_165]; rfl) (by decide) rfl (fun ls hl => ?_)
    refine lv_goto (tgt := 13) hx hb dX11_sums_168 (by decide) ?_
    exact hK13 x1 x2 x3 x4 x5_165 h_162 g _ _ _ HW hG (lv_sub hl [1, 2, 3, 4, 5, 0] rfl)
  have B139 : ∀ (K13 : Int32 → Int32 → Int32 → Int32 → Int32 → HI → HL → Prop) (hK13 : ∀ (x1 : Int32) (x2 : Int32) (x3 : Int32) (x4 : Int32) (x5 : Int32) (h : HI) (g : HL) (H : Heap) (locs : List Loc) (ls : Array Slot), K13 x1 x2 x3 x4 x5 h g → gG D cy ad (gA ad s.heap.size) s.heap h g H locs → lv_has ls 11 [(0, .ref (ad 135)), (1, .int x1), (2, .int x2), (3, .int x3), (4, .int x4), (5, .int x5)] → W p l e ({ frames := 8, cells := 0, slots := 0, locals := 188 } : Room) s m args below meth c H locs 0 0 (MQ below (va_Qi (fun (r : Int32) (u : HI × HL) => zb r ∧ Q r u.1 u.2) (gB D cy ad s.heap.size) (gA ad s.heap.size)) args s 0 0 (gA ad s.heap.size)) (F0 m 13 ls [])) (x1 : Int32) (x2 : Int32) (x3 : Int32) (x4 : Int32) (x5 : Int32) (x7 : Int32) (x9 : Int32) (x10 : Int32) (s1 : Int32) (s2 : Int32) (h : HI) (g : HL) (H : Heap) (locs : List Loc) (ls : Array Slot), j_X11_sums_139 Q K13 x1 x2 x3 x4 x5 x7 x9 x10 s1 s2 h g → gG D cy ad (gA ad s.heap.size) s.heap h g H locs → lv_has ls 11 [(0, .ref (ad 135)), (1, .int x1), (2, .int x2), (3, .int x3), (4, .int x4), (5, .int x5), (7, .int x7), (9, .int x9), (10, .int x10)] → W p l e ({ frames := 8, cells := 0, slots := 0, locals := 188 } : Room) s m args below meth c H locs 0 0 (MQ below (va_Qi (fun (r : Int32) (u : HI × HL) => zb r ∧ Q r u.1 u.2) (gB D cy ad s.heap.size) (gA ad s.heap.size)) args s 0 0 (gA ad s.heap.size)) (F0 m 139 ls [.int s2, .int s1, .ref (ad 135)]) := by
    intro K13 hK13 x1 x2 x3 x4 x5 x7 x9 x10 s1 s2 h g H locs ls HW hG hl
    unfold j_X11_sums_139 at HW
    refine lv_iadd hx hb dX11_sums_139 ?_
    refine g_put hx hb hw inG11 tyX11 tyX11_ok nmX11 hown hK hG gl_135 rfl gk_135 (by decide) 18 (by decide) (by rw [gm_135]; decide) gr_135_18 rfl (ty := .int) (by decide +kernel) rfl rfl lk211 dX11_sums_140 (fun H locs hG => ?_)
    obtain ⟨h_140, eh_140⟩ : ∃ y : HI, y = hu h 135 18 (s1 + s2) := ⟨_, rfl⟩
    rw [← eh_140] at hG
    replace HW := HW h_140 eh_140
    refine lv_aload_n hx hb dX11_sums_143 rfl (lv_at hl 0 rfl) ?_
    refine lv_dup hx hb dX11_sums_144 rfl ?_
    refine g_geti hx hb hw inG11 hown hK hG gl_135 rfl gk_135 (by decide) 19 (by decide) (by rw [gm_135]; decide) gr_135_19 lk214 dX11_sums_145 ?_
    refine lv_iload hx hb dX11_sums_148 (lv_at hl 8 rfl) ?_
    refine lv_if_eq (tgt := 159) hx hb dX11_sums_150 (by decide) (fun c_150 => ?_) (fun c_150 => ?_)
    · replace HW := HW.1 c_150
      refine lv_iload hx hb dX11_sums_159 (lv_at hl 7 rfl) ?_
      exact B161 K13 hK13 x1 x2 x3 x4 x5 (h_140 135 19) x9 h_140 g _ _ _ HW hG (lv_sub hl [0, 1, 2, 3, 4, 5] rfl)
    · replace HW := HW.2 c_150
      refine lv_iload hx hb dX11_sums_153 (lv_at hl 6 rfl) ?_
      refine lv_ineg hx hb dX11_sums_155 ?_
      refine lv_goto (tgt := 161) hx hb dX11_sums_156 (by decide) ?_
      exact B161 K13 hK13 x1 x2 x3 x4 x5 (h_140 135 19) (-x7) h_140 g _ _ _ HW hG (lv_sub hl [0, 1, 2, 3, 4, 5] rfl)
  have B119 : ∀ (K13 : Int32 → Int32 → Int32 → Int32 → Int32 → HI → HL → Prop) (hK13 : ∀ (x1 : Int32) (x2 : Int32) (x3 : Int32) (x4 : Int32) (x5 : Int32) (h : HI) (g : HL) (H : Heap) (locs : List Loc) (ls : Array Slot), K13 x1 x2 x3 x4 x5 h g → gG D cy ad (gA ad s.heap.size) s.heap h g H locs → lv_has ls 11 [(0, .ref (ad 135)), (1, .int x1), (2, .int x2), (3, .int x3), (4, .int x4), (5, .int x5)] → W p l e ({ frames := 8, cells := 0, slots := 0, locals := 188 } : Room) s m args below meth c H locs 0 0 (MQ below (va_Qi (fun (r : Int32) (u : HI × HL) => zb r ∧ Q r u.1 u.2) (gB D cy ad s.heap.size) (gA ad s.heap.size)) args s 0 0 (gA ad s.heap.size)) (F0 m 13 ls [])) (x1 : Int32) (x2 : Int32) (x3 : Int32) (x4 : Int32) (x5 : Int32) (x7 : Int32) (x9 : Int32) (s0 : Int32) (h : HI) (g : HL) (H : Heap) (locs : List Loc) (ls : Array Slot), j_X11_sums_119 Q K13 x1 x2 x3 x4 x5 x7 x9 s0 h g → gG D cy ad (gA ad s.heap.size) s.heap h g H locs → lv_has ls 11 [(0, .ref (ad 135)), (1, .int x1), (2, .int x2), (3, .int x3), (4, .int x4), (5, .int x5), (7, .int x7), (9, .int x9)] → W p l e ({ frames := 8, cells := 0, slots := 0, locals := 188 } : Room) s m args below meth c H locs 0 0 (MQ below (va_Qi (fun (r : Int32) (u : HI × HL) => zb r ∧ Q r u.1 u.2) (gB D cy ad s.heap.size) (gA ad s.heap.size)) args s 0 0 (gA ad s.heap.size)) (F0 m 119 ls [.int s0]) := by
    intro K13 hK13 x1 x2 x3 x4 x5 x7 x9 s0 h g H locs ls HW hG hl
    unfold j_X11_sums_119 at HW
    refine lv_istore (lv' := [(10, .int s0), (0, .ref (ad 135)), (1, .int x1), (2, .int x2), (3, .int x3), (4, .int x4), (5, .int x5), (7, .int x7), (9, .int x9)]) hx hb dX11_sums_119 hl (by decide) rfl (fun ls hl => ?_)
    refine lv_aload_n hx hb dX11_sums_121 rfl (lv_at hl 1 rfl) ?_
    refine lv_dup hx hb dX11_sums_122 rfl ?_
    refine g_geti hx hb hw inG11 hown hK hG gl_135 rfl gk_135 (by decide) 18 (by decide) (by rw [gm_135]; decide) gr_135_18 lk211 dX11_sums_123 ?_
    refine lv_iload hx hb dX11_sums_126 (lv_at hl 0 rfl) ?_
    refine lv_if_eq (tgt := 137) hx hb dX11_sums_128 (by decide) (fun c_128 => ?_) (fun c_128 => ?_)
    · replace HW := HW.1 c_128
      refine lv_iload hx hb dX11_sums_137 (lv_at hl 7 rfl) ?_
      exact B139 K13 hK13 x1 x2 x3 x4 x5 x7 x9 s0 (h 135 18) x7 h g _ _ _ HW hG (lv_sub hl [1, 2, 3, 4, 5, 6, 7, 8, 0] rfl)
    · replace HW := HW.2 c_128
      refine lv_iload hx hb dX11_sums_131 (lv_at hl 8 rfl) ?_
      refine lv_ineg hx hb dX11_sums_133 ?_
      refine lv_goto (tgt := 139) hx hb dX11_sums_134 (by decide) ?_
      exact B139 K13 hK13 x1 x2 x3 x4 x5 x7 x9 s0 (h 135 18) (-x9) h g _ _ _ HW hG (lv_sub hl [1, 2, 3, 4, 5, 6, 7, 8, 0] rfl)
  have B51 : ∀ (K13 : Int32 → Int32 → Int32 → Int32 → Int32 → HI → HL → Prop) (hK13 : ∀ (x1 : Int32) (x2 : Int32) (x3 : Int32) (x4 : Int32) (x5 : Int32) (h : HI) (g : HL) (H : Heap) (locs : List Loc) (ls : Array Slot), K13 x1 x2 x3 x4 x5 h g → gG D cy ad (gA ad s.heap.size) s.heap h g H locs → lv_has ls 11 [(0, .ref (ad 135)), (1, .int x1), (2, .int x2), (3, .int x3), (4, .int x4), (5, .int x5)] → W p l e ({ frames := 8, cells := 0, slots := 0, locals := 188 } : Room) s m args below meth c H locs 0 0 (MQ below (va_Qi (fun (r : Int32) (u : HI × HL) => zb r ∧ Q r u.1 u.2) (gB D cy ad s.heap.size) (gA ad s.heap.size)) args s 0 0 (gA ad s.heap.size)) (F0 m 13 ls [])) (x1 : Int32) (x2 : Int32) (x3 : Int32) (x4 : Int32) (x5 : Int32) (s0 : Int32) (h : HI) (g : HL) (H : Heap) (locs : List Loc) (ls : Array Slot), j_X11_sums_51 Q K13 x1 x2 x3 x4 x5 s0 h g → gG D cy ad (gA ad s.heap.size) s.heap h g H locs → lv_has ls 11 [(0, .ref (ad 135)), (1, .int x1), (2, .int x2), (3, .int x3), (4, .int x4), (5, .int x5)] → W p l e ({ frames := 8, cells := 0, slots := 0, locals := 188 } : Room) s m args below meth c H locs 0 0 (MQ below (va_Qi (fun (r : Int32) (u : HI × HL) => zb r ∧ Q r u.1 u.2) (gB D cy ad s.heap.size) (gA ad s.heap.size)) args s 0 0 (gA ad s.heap.size)) (F0 m 51 ls [.int s0]) := by
    intro K13 hK13 x1 x2 x3 x4 x5 s0 h g H locs ls HW hG hl
    unfold j_X11_sums_51 at HW
    refine lv_istore (lv' := [(6, .int s0), (0, .ref (ad 135)), (1, .int x1), (2, .int x2), (3, .int x3), (4, .int x4), (5, .int x5)]) hx hb dX11_sums_51 hl (by decide) rfl (fun ls hl => ?_)
    refine lv_aload_n hx hb dX11_sums_53 rfl (lv_at hl 1 rfl) ?_
    refine lv_iload hx hb dX11_sums_54 (lv_at hl 0 rfl) ?_
    refine lv_iconst (v := 0) hx hb dX11_sums_56 (by decide) ?_
    obtain ⟨P_57, HC_57, HW⟩ := HW
    refine g_calli (g_runV (As := [.int s0, .int (0 : Int32)]) (rest := []) ⟨hx, hb, hml, hown, hts⟩ (m_X11_firstOf l D cy ad h g H.size s0 (0 : Int32) P_57 HC_57) (cwV 2 hts (gd_V (wm5 222 rfl rfl) (wm5 224 rfl rfl) (wmp4 (q := (yX11_firstOf, 26)) 3 rfl) (wm1 13 rfl rfl) (wm5 225 rfl rfl)) rfl rfl rfl (by decide +kernel) ⟨Nat.le_of_ble_eq_true rfl, Nat.le_of_ble_eq_true rfl⟩) hK hNw hG gl_135 rfl gk_135 (by decide) rfl rfl hl.1 rfl (lv_room (Nat.le_of_ble_eq_true rfl)) dX11_sums_57 ⟨Nat.zero_le _, Nat.zero_le _⟩) hG (fun r_57 h_57 g_57 H locs hq hG => ?_)
    replace HW := HW r_57 h_57 g_57 hq
    refine lv_istore (lv' := [(7, .int r_57), (6, .int s0), (0, .ref (ad 135)), (1, .int x1), (2, .int x2), (3, .int x3), (4, .int x4), (5, .int x5)]) hx hb dX11_sums_60 hl (by decide) rfl (fun ls hl => ?_)
    refine lv_iload hx hb dX11_sums_62 (lv_at hl 0 rfl) ?_
    refine lv_iconst (v := (-1)) hx hb dX11_sums_64 (by decide) ?_
    refine lv_icmp_ne (tgt := 70) hx hb dX11_sums_65 (by decide) (fun c_65 => ?_) (fun c_65 => ?_)
    · replace HW := HW.1 c_65
      refine lv_aload_n hx hb dX11_sums_70 rfl (lv_at hl 2 rfl) ?_
      refine lv_iload hx hb dX11_sums_71 (lv_at hl 1 rfl) ?_
      refine lv_iload_n hx hb dX11_sums_73 rfl (lv_at hl 4 rfl) ?_
      obtain ⟨P_74, HC_74, HW⟩ := HW
      refine g_calli (g_runV (As := [.int s0, .int x2]) (rest := []) ⟨hx, hb, hml, hown, hts⟩ (m_X11_wornOf l D cy ad h_57 g_57 H.size s0 x2 P_74 HC_74) (cwV 2 hts (gd_V (wm5 188 rfl rfl) (wm5 190 rfl rfl) (wmp3 (q := (yX11_wornOf, 26)) 15 rfl) (wm1 13 rfl rfl) (wm5 191 rfl rfl)) rfl rfl rfl (by decide +kernel) ⟨Nat.le_of_ble_eq_true rfl, Nat.le_of_ble_eq_true rfl⟩) hK hNw hG gl_135 rfl gk_135 (by decide) rfl rfl hl.1 rfl (lv_room (Nat.le_of_ble_eq_true rfl)) dX11_sums_74 ⟨Nat.zero_le _, Nat.zero_le _⟩) hG (fun r_74 h_74 g_74 H locs hq hG => ?_)
      replace HW := HW r_74 h_74 g_74 hq
      refine lv_istore (lv' := [(8, .int r_74), (7, .int r_57), (6, .int s0), (0, .ref (ad 135)), (1, .int x1), (2, .int x2), (3, .int x3), (4, .int x4), (5, .int x5)]) hx hb dX11_sums_77 hl (by decide) rfl (fun ls hl => ?_)
      refine lv_aload_n hx hb dX11_sums_79 rfl (lv_at hl 3 rfl) ?_
      refine lv_iload hx hb dX11_sums_80 (lv_at hl 2 rfl) ?_
      refine lv_iconst (v := 1) hx hb dX11_sums_82 (by decide) ?_
      obtain ⟨P_83, HC_83, HW⟩ := HW
      refine g_calli (g_runV (As := [.int s0, .int (1 : Int32)]) (rest := []) ⟨hx, hb, hml, hown, hts⟩ (m_X11_firstOf l D cy ad h_74 g_74 H.size s0 (1 : Int32) P_83 HC_83) (cwV 2 hts (gd_V (wm5 222 rfl rfl) (wm5 224 rfl rfl) (wmp4 (q := (yX11_firstOf, 26)) 3 rfl) (wm1 13 rfl rfl) (wm5 225 rfl rfl)) rfl rfl rfl (by decide +kernel) ⟨Nat.le_of_ble_eq_true rfl, Nat.le_of_ble_eq_true rfl⟩) hK hNw hG gl_135 rfl gk_135 (by decide) rfl rfl hl.1 rfl (lv_room (Nat.le_of_ble_eq_true rfl)) dX11_sums_83 ⟨Nat.zero_le _, Nat.zero_le _⟩) hG (fun r_83 h_83 g_83 H locs hq hG => ?_)
      replace HW := HW r_83 h_83 g_83 hq
      refine lv_iload hx hb dX11_sums_86 (lv_at hl 0 rfl) ?_
      refine lv_isub hx hb dX11_sums_88 ?_
      refine lv_topi (fun x9_89 ex9_89 => ?_)
      replace HW := HW x9_89 ex9_89
      refine lv_istore (lv' := [(9, .int x9_89), (8, .int r_74), (7, .int r_57), (6, .int s0), (0, .ref (ad 135)), (1, .int x1), (2, .int x2), (3, .int x3), (4, .int x4), (5, .int x5)]) hx hb dX11_sums_89 hl (by decide) rfl (fun ls hl => ?_)
      refine lv_iload hx hb dX11_sums_91 (lv_at hl 2 rfl) ?_
      refine lv_iload hx hb dX11_sums_93 (lv_at hl 1 rfl) ?_
      refine lv_isub hx hb dX11_sums_95 ?_
      refine lv_topi (fun x7_96 ex7_96 => ?_)
      replace HW := HW x7_96 ex7_96
      refine lv_istore (lv' := [(7, .int x7_96), (9, .int x9_89), (8, .int r_74), (6, .int s0), (0, .ref (ad 135)), (1, .int x1), (2, .int x2), (3, .int x3), (4, .int x4), (5, .int x5)]) hx hb dX11_sums_96 hl (by decide) rfl (fun ls hl => ?_)
      refine lv_aload_n hx hb dX11_sums_98 rfl (lv_at hl 4 rfl) ?_
      refine lv_iload_n hx hb dX11_sums_99 rfl (lv_at hl 5 rfl) ?_
      refine lv_bipush (v := 9) hx hb dX11_sums_100 (by decide) ?_
      obtain ⟨P_102, HC_102, HW⟩ := HW
      refine g_calli (g_runV (As := [.int x1, .int (9 : Int32)]) (rest := []) ⟨hx, hb, hml, hown, hts⟩ (m_X11_chainOf l D cy ad h_83 g_83 H.size x1 (9 : Int32) P_102 HC_102) (cwV 2 hts (gd_V (wm6 33 rfl rfl) (wm6 35 rfl rfl) (wmp4 (q := (yX11_chainOf, 26)) 12 rfl) (wm1 13 rfl rfl) (wm6 36 rfl rfl)) rfl rfl rfl (by decide +kernel) ⟨Nat.le_of_ble_eq_true rfl, Nat.le_of_ble_eq_true rfl⟩) hK hNw hG gl_135 rfl gk_135 (by decide) rfl rfl hl.1 rfl (lv_room (Nat.le_of_ble_eq_true rfl)) dX11_sums_102 ⟨Nat.zero_le _, Nat.zero_le _⟩) hG (fun r_102 h_102 g_102 H locs hq hG => ?_)
      replace HW := HW r_102 h_102 g_102 hq
      refine lv_iload hx hb dX11_sums_105 (lv_at hl 9 rfl) ?_
      refine lv_ishr hx hb dX11_sums_107 ?_
      refine lv_iconst (v := 1) hx hb dX11_sums_108 (by decide) ?_
      refine lv_iand hx hb dX11_sums_109 ?_
      refine lv_iconst (v := 1) hx hb dX11_sums_110 (by decide) ?_
      refine lv_icmp_ne (tgt := 118) hx hb dX11_sums_111 (by decide) (fun c_111 => ?_) (fun c_111 => ?_)
      · replace HW := HW.1 c_111
        refine lv_iconst (v := 0) hx hb dX11_sums_118 (by decide) ?_
        exact B119 K13 hK13 x1 x2 x3 x4 x5 x7_96 x9_89 (0 : Int32) h_102 g_102 _ _ _ HW hG (lv_sub hl [4, 5, 6, 7, 8, 9, 0, 1] rfl)
      · replace HW := HW.2 c_111
        refine lv_iconst (v := 1) hx hb dX11_sums_114 (by decide) ?_
        refine lv_goto (tgt := 119) hx hb dX11_sums_115 (by decide) ?_
        exact B119 K13 hK13 x1 x2 x3 x4 x5 x7_96 x9_89 (1 : Int32) h_102 g_102 _ _ _ HW hG (lv_sub hl [4, 5, 6, 7, 8, 9, 0, 1] rfl)
    · replace HW := HW.2 c_65
      refine lv_iconst (v := 0) hx hb dX11_sums_68 (by decide) ?_
      exact W.zret (v := (0 : Int32)) hx hb hr rfl (fun t ht hW => ⟨⟨(0 : Int32), (h_57, g_57), rfl, ⟨Or.inl rfl, HW⟩, g_B ht hG⟩, hG.2.2.F ht⟩) hG.2.2.2.2 dX11_sums_69
  have L13 : ∀ (n : Nat) (x1 : Int32) (x2 : Int32) (x3 : Int32) (x4 : Int32) (x5 : Int32) (h : HI) (g : HL) (H : Heap) (locs : List Loc) (ls : Array Slot), lpN (F_X11_sums_13 Q) n (x1, x2, x3, x4, x5, h, g) → gG D cy ad (gA ad s.heap.size) s.heap h g H locs → lv_has ls 11 [(0, .ref (ad 135)), (1, .int x1), (2, .int x2), (3, .int x3), (4, .int x4), (5, .int x5)] → W p l e ({ frames := 8, cells := 0, slots := 0, locals := 188 } : Room) s m args below meth c H locs 0 0 (MQ below (va_Qi (fun (r : Int32) (u : HI × HL) => zb r ∧ Q r u.1 u.2) (gB D cy ad s.heap.size) (gA ad s.heap.size)) args s 0 0 (gA ad s.heap.size)) (F0 m 13 ls []) := by
    intro n
    induction n with
    | zero => intro x1 x2 x3 x4 x5 h g H locs ls HW; exact HW.elim
    | succ n ih =>
      intro x1 x2 x3 x4 x5 h g H locs ls HW hG hl
      have HW : b_X11_sums_13 Q (fun x1 x2 x3 x4 x5 h g => lpN (F_X11_sums_13 Q) n (x1, x2, x3, x4, x5, h, g)) x1 x2 x3 x4 x5 h g := HW
      generalize hKe : (fun (x1 : Int32) (x2 : Int32) (x3 : Int32) (x4 : Int32) (x5 : Int32) (h : HI) (g : HL) => lpN (F_X11_sums_13 Q) n (x1, x2, x3, x4, x5, h, g)) = K13 at HW
      have hK13 : ∀ (x1 : Int32) (x2 : Int32) (x3 : Int32) (x4 : Int32) (x5 : Int32) (h : HI) (g : HL) (H : Heap) (locs : List Loc) (ls : Array Slot), K13 x1 x2 x3 x4 x5 h g → gG D cy ad (gA ad s.heap.size) s.heap h g H locs → lv_has ls 11 [(0, .ref (ad 135)), (1, .int x1), (2, .int x2), (3, .int x3), (4, .int x4), (5, .int x5)] → W p l e ({ frames := 8, cells := 0, slots := 0, locals := 188 } : Room) s m args below meth c H locs 0 0 (MQ below (va_Qi (fun (r : Int32) (u : HI × HL) => zb r ∧ Q r u.1 u.2) (gB D cy ad s.heap.size) (gA ad s.heap.size)) args s 0 0 (gA ad s.heap.size)) (F0 m 13 ls []) := by subst hKe; exact ih
      clear ih
      clear hKe
      unfold b_X11_sums_13 at HW
      refine lv_iload hx hb dX11_sums_13 (lv_at hl 5 rfl) ?_
      refine lv_aload_n hx hb dX11_sums_15 rfl (lv_at hl 0 rfl) ?_
      refine lv_iload_n hx hb dX11_sums_16 rfl (lv_at hl 1 rfl) ?_
      refine lv_iconst (v := 2) hx hb dX11_sums_17 (by decide) ?_
      obtain ⟨P_18, HC_18, HW⟩ := HW
      refine g_calli (g_runV (As := [.int x1, .int (2 : Int32)]) (rest := [.int x5]) ⟨hx, hb, hml, hown, hts⟩ (m_X11_chainOf l D cy ad h g H.size x1 (2 : Int32) P_18 HC_18) (cwV 2 hts (gd_V (wm6 33 rfl rfl) (wm6 35 rfl rfl) (wmp4 (q := (yX11_chainOf, 26)) 12 rfl) (wm1 13 rfl rfl) (wm6 36 rfl rfl)) rfl rfl rfl (by decide +kernel) ⟨Nat.le_of_ble_eq_true rfl, Nat.le_of_ble_eq_true rfl⟩) hK hNw hG gl_135 rfl gk_135 (by decide) rfl rfl hl.1 rfl (lv_room (Nat.le_of_ble_eq_true rfl)) dX11_sums_18 ⟨Nat.zero_le _, Nat.zero_le _⟩) hG (fun r_18 h_18 g_18 H locs hq hG => ?_)
      replace HW := HW r_18 h_18 g_18 hq
      refine lv_icmp_ge (tgt := 171) hx hb dX11_sums_21 (by decide) (fun c_21 => ?_) (fun c_21 => ?_)
      · replace HW := HW.1 c_21
        refine lv_iconst (v := 1) hx hb dX11_sums_171 (by decide) ?_
        exact W.zret (v := (1 : Int32)) hx hb hr rfl (fun t ht hW => ⟨⟨(1 : Int32), (h_18, g_18), rfl, ⟨Or.inr rfl, HW⟩, g_B ht hG⟩, hG.2.2.F ht⟩) hG.2.2.2.2 dX11_sums_172
      · replace HW := HW.2 c_21
        refine lv_aload_n hx hb dX11_sums_24 rfl (lv_at hl 0 rfl) ?_
        refine lv_iload_n hx hb dX11_sums_25 rfl (lv_at hl 1 rfl) ?_
        refine lv_iconst (v := 3) hx hb dX11_sums_26 (by decide) ?_
        refine lv_iload hx hb dX11_sums_27 (lv_at hl 5 rfl) ?_
        refine lv_iadd hx hb dX11_sums_29 ?_
        obtain ⟨P_30, HC_30, HW⟩ := HW
        refine g_calli (g_runV (As := [.int x1, .int ((3 : Int32) + x5)]) (rest := []) ⟨hx, hb, hml, hown, hts⟩ (m_X11_chainOf l D cy ad h_18 g_18 H.size x1 ((3 : Int32) + x5) P_30 HC_30) (cwV 2 hts (gd_V (wm6 33 rfl rfl) (wm6 35 rfl rfl) (wmp4 (q := (yX11_chainOf, 26)) 12 rfl) (wm1 13 rfl rfl) (wm6 36 rfl rfl)) rfl rfl rfl (by decide +kernel) ⟨Nat.le_of_ble_eq_true rfl, Nat.le_of_ble_eq_true rfl⟩) hK hNw hG gl_135 rfl gk_135 (by decide) rfl rfl hl.1 rfl (lv_room (Nat.le_of_ble_eq_true rfl)) dX11_sums_30 ⟨Nat.zero_le _, Nat.zero_le _⟩) hG (fun r_30 h_30 g_30 H locs hq hG => ?_)
        replace HW := HW r_30 h_30 g_30 hq
        refine lv_iload hx hb dX11_sums_33 (lv_at hl 4 rfl) ?_
        refine lv_icmp_ne (tgt := 42) hx hb dX11_sums_35 (by decide) (fun c_35 => ?_) (fun c_35 => ?_)
        · replace HW := HW.1 c_35
          refine lv_aload_n hx hb dX11_sums_42 rfl (lv_at hl 0 rfl) ?_
          refine lv_iload_n hx hb dX11_sums_43 rfl (lv_at hl 1 rfl) ?_
          refine lv_iconst (v := 3) hx hb dX11_sums_44 (by decide) ?_
          refine lv_iload hx hb dX11_sums_45 (lv_at hl 5 rfl) ?_
          refine lv_iadd hx hb dX11_sums_47 ?_
          obtain ⟨P_48, HC_48, HW⟩ := HW
          refine g_calli (g_runV (As := [.int x1, .int ((3 : Int32) + x5)]) (rest := []) ⟨hx, hb, hml, hown, hts⟩ (m_X11_chainOf l D cy ad h_30 g_30 H.size x1 ((3 : Int32) + x5) P_48 HC_48) (cwV 2 hts (gd_V (wm6 33 rfl rfl) (wm6 35 rfl rfl) (wmp4 (q := (yX11_chainOf, 26)) 12 rfl) (wm1 13 rfl rfl) (wm6 36 rfl rfl)) rfl rfl rfl (by decide +kernel) ⟨Nat.le_of_ble_eq_true rfl, Nat.le_of_ble_eq_true rfl⟩) hK hNw hG gl_135 rfl gk_135 (by decide) rfl rfl hl.1 rfl (lv_room (Nat.le_of_ble_eq_true rfl)) dX11_sums_48 ⟨Nat.zero_le _, Nat.zero_le _⟩) hG (fun r_48 h_48 g_48 H locs hq hG => ?_)
          replace HW := HW r_48 h_48 g_48 hq
          exact B51 K13 hK13 x1 x2 x3 x4 x5 r_48 h_48 g_48 _ _ _ HW hG (lv_sub hl [0, 1, 2, 3, 4, 5] rfl)
        · replace HW := HW.2 c_35
          refine lv_iload_n hx hb dX11_sums_38 rfl (lv_at hl 3 rfl) ?_
          refine lv_goto (tgt := 51) hx hb dX11_sums_39 (by decide) ?_
          exact B51 K13 hK13 x1 x2 x3 x4 x5 x3 h_30 g_30 _ _ _ HW hG (lv_sub hl [0, 1, 2, 3, 4, 5] rfl)
  have E0 : ∀ (H : Heap) (locs : List Loc) (ls : Array Slot), gG D cy ad (gA ad s.heap.size) s.heap h g H locs → lv_has ls 11 [(0, .ref (ad 135)), (1, .int x1), (2, .int x2), (3, .int x3), (4, .int x4)] → W p l e ({ frames := 8, cells := 0, slots := 0, locals := 188 } : Room) s m args below meth c H locs 0 0 (MQ below (va_Qi (fun (r : Int32) (u : HI × HL) => zb r ∧ Q r u.1 u.2) (gB D cy ad s.heap.size) (gA ad s.heap.size)) args s 0 0 (gA ad s.heap.size)) (F0 m 0 ls []) := by
    intro H locs ls hG hl
    unfold w_X11_sums at HW
    refine lv_aload_n hx hb dX11_sums_0 rfl (lv_at hl 0 rfl) ?_
    refine lv_iconst (v := 0) hx hb dX11_sums_1 (by decide) ?_
    refine g_put hx hb hw inG11 tyX11 tyX11_ok nmX11 hown hK hG gl_135 rfl gk_135 (by decide) 18 (by decide) (by rw [gm_135]; decide) gr_135_18 rfl (ty := .int) (by decide +kernel) rfl rfl lk211 dX11_sums_2 (fun H locs hG => ?_)
    obtain ⟨h_2, eh_2⟩ : ∃ y : HI, y = hu h 135 18 (0 : Int32) := ⟨_, rfl⟩
    rw [← eh_2] at hG
    replace HW := HW h_2 eh_2
    refine lv_aload_n hx hb dX11_sums_5 rfl (lv_at hl 0 rfl) ?_
    refine lv_iconst (v := 0) hx hb dX11_sums_6 (by decide) ?_
    refine g_put hx hb hw inG11 tyX11 tyX11_ok nmX11 hown hK hG gl_135 rfl gk_135 (by decide) 19 (by decide) (by rw [gm_135]; decide) gr_135_19 rfl (ty := .int) (by decide +kernel) rfl rfl lk214 dX11_sums_7 (fun H locs hG => ?_)
    obtain ⟨h_7, eh_7⟩ : ∃ y : HI, y = hu h_2 135 19 (0 : Int32) := ⟨_, rfl⟩
    rw [← eh_7] at hG
    replace HW := HW h_7 eh_7
    refine lv_iconst (v := 0) hx hb dX11_sums_10 (by decide) ?_
    refine lv_istore (lv' := [(5, .int (0 : Int32)), (0, .ref (ad 135)), (1, .int x1), (2, .int x2), (3, .int x3), (4, .int x4)]) hx hb dX11_sums_11 hl (by decide) rfl (fun ls hl => ?_)
    obtain ⟨n_13, HW⟩ := HW
    exact L13 n_13 x1 x2 x3 x4 (0 : Int32) h_7 g _ _ _ HW hG (lv_sub hl [1, 2, 3, 4, 5, 0] rfl)
  exact E0 _ _ _ hG hl

def w_X11_holds0 (x1 : Int32) (x2 : Int32) (x3 : Int32) (x4 : Int32) (h : HI) (g : HL) (Q : Int32 → HI → HL → Prop) : Prop :=
  (∃ P_6 : Int32 → HI → HL → Prop, w_X11_sums x1 x2 x3 x4 h g P_6 ∧ ∀ (r_6 : Int32) (h_6 : HI) (g_6 : HL), zb r_6 → P_6 r_6 h_6 g_6 → ((r_6 = 0 → Q (0 : Int32) h_6 g_6) ∧ (¬ r_6 = 0 → (∃ P_19 : Int32 → HI → HL → Prop, w_X11_chainOf x1 (0 : Int32) h_6 g_6 P_19 ∧ ∀ (r_19 : Int32) (h_19 : HI) (g_19 : HL), P_19 r_19 h_19 g_19 → (((h_6 135 18) < r_19 → Q (0 : Int32) h_19 g_19) ∧ (¬ (h_6 135 18) < r_19 → (∃ P_32 : Int32 → HI → HL → Prop, w_X11_chainOf x1 (1 : Int32) h_19 g_19 P_32 ∧ ∀ (r_32 : Int32) (h_32 : HI) (g_32 : HL), P_32 r_32 h_32 g_32 → ((r_32 < (h_19 135 19) → Q (0 : Int32) h_32 g_32) ∧ (¬ r_32 < (h_19 135 19) → Q (1 : Int32) h_32 g_32)))))))))
set_option maxHeartbeats 8000000 in
set_option maxRecDepth 100000 in
theorem m_X11_holds0 (l : Launch) (D : va_G) (cy : Nat → ClassId) (ad : Nat → Nat) (h : HI) (g : HL) (sz : Nat) (x1 : Int32) (x2 : Int32) (x3 : Int32) (x4 : Int32) (Q : Int32 → HI → HL → Prop) (HW : w_X11_holds0 x1 x2 x3 x4 h g Q) : Met l yX11_holds0 (wa yX11_holds0 cX11_holds0 5 (some .boolean)) ({ frames := 9, cells := 0, slots := 0, locals := 218 }) (va_Pc [.ref (ad 135), .int x1, .int x2, .int x3, .int x4] (gI D cy ad h g sz)) (va_Qi (fun (r : Int32) (u : HI × HL) => zb r ∧ Q r u.1 u.2) (gB D cy ad sz) (gA ad sz)) 0 0 (gA ad sz) := by
  refine Met.ofW (cc := cX11_holds0) (maxL := 5) (ret := (some .boolean)) (by decide) rfl ?_
  intro p e s m args below meth c s₁ B hml hv
  obtain ⟨hav, hsz, hP, hK, hD0, hNw⟩ := hv
  have hx := B.exec
  have hb := B.bytes
  have hr := B.returns
  have hts := atoms_spec (ws := (wa yX11_holds0 cX11_holds0 5 (some .boolean))) B.pre
  have hw := wa_hw hts
  have hown : s.vm.findClass RX11 = some m.cls := findClass_of_methodNamed B.named
  have hlocks := B.notSynchronized
  subst hsz
  have hG : gG D cy ad (gA ad s.heap.size) s.heap h g s.heap [] := ⟨hP, gA_self hD0, va_S.rf⟩
  clear hP hD0
  have lk211 := hw (.fieldLink RX11 211 "OldWorksModel" "sumLow" "I") (wm5 45 rfl rfl)
  have lk214 := hw (.fieldLink RX11 214 "OldWorksModel" "sumHigh" "I") (wm5 46 rfl rfl)
  rw [show (headSpec (wa yX11_holds0 cX11_holds0 5 (some .boolean)) ({ frames := 9, cells := 0, slots := 0, locals := 218 } : Room)).room = ({ frames := 9, cells := 0, slots := 0, locals := 218 } : Room) from rfl]
  have hl := lv_entry ([.ref (ad 135), .int x1, .int x2, .int x3, .int x4]) (n := 5) (Nat.le_of_ble_eq_true rfl)
  rw [show entryFrame m args 5 = entryFrame m ([.ref (ad 135), .int x1, .int x2, .int x3, .int x4] : List Value).toArray 5 from by rw [hav], lg_entry_eq]
  generalize (lg_sl ([.ref (ad 135), .int x1, .int x2, .int x3, .int x4]) ++ List.replicate (5 - (lg_sl ([.ref (ad 135), .int x1, .int x2, .int x3, .int x4])).length) Slot.unset).toArray = ls at hl ⊢
  have hl : lv_has ls 5 [(0, .ref (ad 135)), (1, .int x1), (2, .int x2), (3, .int x3), (4, .int x4)] := hl
  have E0 : ∀ (H : Heap) (locs : List Loc) (ls : Array Slot), gG D cy ad (gA ad s.heap.size) s.heap h g H locs → lv_has ls 5 [(0, .ref (ad 135)), (1, .int x1), (2, .int x2), (3, .int x3), (4, .int x4)] → W p l e ({ frames := 9, cells := 0, slots := 0, locals := 218 } : Room) s m args below meth c H locs 0 0 (MQ below (va_Qi (fun (r : Int32) (u : HI × HL) => zb r ∧ Q r u.1 u.2) (gB D cy ad s.heap.size) (gA ad s.heap.size)) args s 0 0 (gA ad s.heap.size)) (F0 m 0 ls []) := by
    intro H locs ls hG hl
    unfold w_X11_holds0 at HW
    refine lv_aload_n hx hb dX11_holds0_0 rfl (lv_at hl 0 rfl) ?_
    refine lv_iload_n hx hb dX11_holds0_1 rfl (lv_at hl 1 rfl) ?_
    refine lv_iload_n hx hb dX11_holds0_2 rfl (lv_at hl 2 rfl) ?_
    refine lv_iload_n hx hb dX11_holds0_3 rfl (lv_at hl 3 rfl) ?_
    refine lv_iload hx hb dX11_holds0_4 (lv_at hl 4 rfl) ?_
    obtain ⟨P_6, HC_6, HW⟩ := HW
    refine g_callz (g_runV (As := [.int x1, .int x2, .int x3, .int x4]) (rest := []) ⟨hx, hb, hml, hown, hts⟩ (m_X11_sums l D cy ad h g H.size x1 x2 x3 x4 P_6 HC_6) (cwV 4 hts (gd_V (wm6 46 rfl rfl) (wm6 48 rfl rfl) (wmp4 (q := (yX11_sums, 26)) 14 rfl) (wm1 13 rfl rfl) (wm6 49 rfl rfl)) rfl rfl rfl (by decide +kernel) ⟨Nat.le_of_ble_eq_true rfl, Nat.le_of_ble_eq_true rfl⟩) hK hNw hG gl_135 rfl gk_135 (by decide) rfl rfl hl.1 rfl (lv_room (Nat.le_of_ble_eq_true rfl)) dX11_holds0_6 ⟨Nat.zero_le _, Nat.zero_le _⟩) hG (fun r_6 h_6 g_6 H locs hz hq hG => ?_)
    replace HW := HW r_6 h_6 g_6 hz hq
    refine lv_if_eq (tgt := 42) hx hb dX11_holds0_9 (by decide) (fun c_9 => ?_) (fun c_9 => ?_)
    · replace HW := HW.1 c_9
      refine lv_iconst (v := 0) hx hb dX11_holds0_42 (by decide) ?_
      exact W.zret (v := (0 : Int32)) hx hb hr rfl (fun t ht hW => ⟨⟨(0 : Int32), (h_6, g_6), rfl, ⟨Or.inl rfl, HW⟩, g_B ht hG⟩, hG.2.2.F ht⟩) hG.2.2.2.2 dX11_holds0_43
    · replace HW := HW.2 c_9
      refine lv_aload_n hx hb dX11_holds0_12 rfl (lv_at hl 0 rfl) ?_
      refine g_geti hx hb hw inG11 hown hK hG gl_135 rfl gk_135 (by decide) 18 (by decide) (by rw [gm_135]; decide) gr_135_18 lk211 dX11_holds0_13 ?_
      refine lv_aload_n hx hb dX11_holds0_16 rfl (lv_at hl 0 rfl) ?_
      refine lv_iload_n hx hb dX11_holds0_17 rfl (lv_at hl 1 rfl) ?_
      refine lv_iconst (v := 0) hx hb dX11_holds0_18 (by decide) ?_
      obtain ⟨P_19, HC_19, HW⟩ := HW
      refine g_calli (g_runV (As := [.int x1, .int (0 : Int32)]) (rest := [.int (h_6 135 18)]) ⟨hx, hb, hml, hown, hts⟩ (m_X11_chainOf l D cy ad h_6 g_6 H.size x1 (0 : Int32) P_19 HC_19) (cwV 2 hts (gd_V (wm6 33 rfl rfl) (wm6 35 rfl rfl) (wmp4 (q := (yX11_chainOf, 26)) 12 rfl) (wm1 13 rfl rfl) (wm6 36 rfl rfl)) rfl rfl rfl (by decide +kernel) ⟨Nat.le_of_ble_eq_true rfl, Nat.le_of_ble_eq_true rfl⟩) hK hNw hG gl_135 rfl gk_135 (by decide) rfl rfl hl.1 rfl (lv_room (Nat.le_of_ble_eq_true rfl)) dX11_holds0_19 ⟨Nat.zero_le _, Nat.zero_le _⟩) hG (fun r_19 h_19 g_19 H locs hq hG => ?_)
      replace HW := HW r_19 h_19 g_19 hq
      refine lv_icmp_lt (tgt := 42) hx hb dX11_holds0_22 (by decide) (fun c_22 => ?_) (fun c_22 => ?_)
      · replace HW := HW.1 c_22
        refine lv_iconst (v := 0) hx hb dX11_holds0_42 (by decide) ?_
        exact W.zret (v := (0 : Int32)) hx hb hr rfl (fun t ht hW => ⟨⟨(0 : Int32), (h_19, g_19), rfl, ⟨Or.inl rfl, HW⟩, g_B ht hG⟩, hG.2.2.F ht⟩) hG.2.2.2.2 dX11_holds0_43
      · replace HW := HW.2 c_22
        refine lv_aload_n hx hb dX11_holds0_25 rfl (lv_at hl 0 rfl) ?_
        refine g_geti hx hb hw inG11 hown hK hG gl_135 rfl gk_135 (by decide) 19 (by decide) (by rw [gm_135]; decide) gr_135_19 lk214 dX11_holds0_26 ?_
        refine lv_aload_n hx hb dX11_holds0_29 rfl (lv_at hl 0 rfl) ?_
        refine lv_iload_n hx hb dX11_holds0_30 rfl (lv_at hl 1 rfl) ?_
        refine lv_iconst (v := 1) hx hb dX11_holds0_31 (by decide) ?_
        obtain ⟨P_32, HC_32, HW⟩ := HW
        refine g_calli (g_runV (As := [.int x1, .int (1 : Int32)]) (rest := [.int (h_19 135 19)]) ⟨hx, hb, hml, hown, hts⟩ (m_X11_chainOf l D cy ad h_19 g_19 H.size x1 (1 : Int32) P_32 HC_32) (cwV 2 hts (gd_V (wm6 33 rfl rfl) (wm6 35 rfl rfl) (wmp4 (q := (yX11_chainOf, 26)) 12 rfl) (wm1 13 rfl rfl) (wm6 36 rfl rfl)) rfl rfl rfl (by decide +kernel) ⟨Nat.le_of_ble_eq_true rfl, Nat.le_of_ble_eq_true rfl⟩) hK hNw hG gl_135 rfl gk_135 (by decide) rfl rfl hl.1 rfl (lv_room (Nat.le_of_ble_eq_true rfl)) dX11_holds0_32 ⟨Nat.zero_le _, Nat.zero_le _⟩) hG (fun r_32 h_32 g_32 H locs hq hG => ?_)
        replace HW := HW r_32 h_32 g_32 hq
        refine lv_icmp_gt (tgt := 42) hx hb dX11_holds0_35 (by decide) (fun c_35 => ?_) (fun c_35 => ?_)
        · replace HW := HW.1 c_35
          refine lv_iconst (v := 0) hx hb dX11_holds0_42 (by decide) ?_
          exact W.zret (v := (0 : Int32)) hx hb hr rfl (fun t ht hW => ⟨⟨(0 : Int32), (h_32, g_32), rfl, ⟨Or.inl rfl, HW⟩, g_B ht hG⟩, hG.2.2.F ht⟩) hG.2.2.2.2 dX11_holds0_43
        · replace HW := HW.2 c_35
          refine lv_iconst (v := 1) hx hb dX11_holds0_38 (by decide) ?_
          refine lv_goto (tgt := 43) hx hb dX11_holds0_39 (by decide) ?_
          exact W.zret (v := (1 : Int32)) hx hb hr rfl (fun t ht hW => ⟨⟨(1 : Int32), (h_32, g_32), rfl, ⟨Or.inr rfl, HW⟩, g_B ht hG⟩, hG.2.2.F ht⟩) hG.2.2.2.2 dX11_holds0_43
  exact E0 _ _ _ hG hl
end
