def j_X11_twoOf_140 (Q : Int64 → HI → HL → Prop) (h : HI) (g : HL) : Prop :=
  Q (1 : Int64) h g
def w_X11_twoOf (x0 : Int32) (x1 : Int64) (x3 : Int64) (h : HI) (g : HL) (Q : Int64 → HI → HL → Prop) : Prop :=
  ((x0 = 4 → Q (x1 * x3) h g) ∧ (x0 = 5 → ((¬ (lg_cmp x3 (0 : Int64)) = 0 → (¬ x3 = 0 ∧ Q (x1 / x3) h g)) ∧ ((lg_cmp x3 (0 : Int64)) = 0 → Q (0 : Int64) h g))) ∧ (x0 = 6 → Q (x1 + x3) h g) ∧ (x0 = 7 → Q (x1 - x3) h g) ∧ (x0 = 8 → ((0 ≤ (lg_cmp x1 x3) → Q (0 : Int64) h g) ∧ (¬ 0 ≤ (lg_cmp x1 x3) → Q (1 : Int64) h g))) ∧ (x0 = 9 → (((lg_cmp x1 x3) ≤ 0 → Q (0 : Int64) h g) ∧ (¬ (lg_cmp x1 x3) ≤ 0 → Q (1 : Int64) h g))) ∧ (x0 = 10 → ((¬ (lg_cmp x1 x3) = 0 → Q (0 : Int64) h g) ∧ ((lg_cmp x1 x3) = 0 → Q (1 : Int64) h g))) ∧ (x0 = 11 → (((lg_cmp x1 (0 : Int64)) = 0 → Q (0 : Int64) h g) ∧ (¬ (lg_cmp x1 (0 : Int64)) = 0 → (((lg_cmp x3 (0 : Int64)) = 0 → Q (0 : Int64) h g) ∧ (¬ (lg_cmp x3 (0 : Int64)) = 0 → Q (1 : Int64) h g))))) ∧ (¬ x0 = 4 → ¬ x0 = 5 → ¬ x0 = 6 → ¬ x0 = 7 → ¬ x0 = 8 → ¬ x0 = 9 → ¬ x0 = 10 → ¬ x0 = 11 → ((¬ (lg_cmp x1 (0 : Int64)) = 0 → j_X11_twoOf_140 Q h g) ∧ ((lg_cmp x1 (0 : Int64)) = 0 → (((lg_cmp x3 (0 : Int64)) = 0 → Q (0 : Int64) h g) ∧ (¬ (lg_cmp x3 (0 : Int64)) = 0 → j_X11_twoOf_140 Q h g))))))
set_option maxHeartbeats 8000000 in
set_option maxRecDepth 100000 in
theorem m_X11_twoOf (l : Launch) (D : va_G) (cy : Nat → ClassId) (ad : Nat → Nat) (h : HI) (g : HL) (sz : Nat) (x0 : Int32) (x1 : Int64) (x3 : Int64) (Q : Int64 → HI → HL → Prop) (HW : w_X11_twoOf x0 x1 x3 h g Q) : Met l yX11_twoOf (wa yX11_twoOf cX11_twoOf 5 (some .long)) ({ frames := 0, cells := 0, slots := 0, locals := 0 }) (va_Pc [.int x0, .long x1, .long x3] (gI D cy ad h g sz)) (va_Ql (fun (r : Int64) (u : HI × HL) => Q r u.1 u.2) (gB D cy ad sz) (gA ad sz)) 0 0 (gA ad sz) := by
  refine Met.ofW (cc := cX11_twoOf) (maxL := 5) (ret := (some .long)) (by decide) rfl ?_
  intro p e s m args below meth c s₁ B hml hv
  obtain ⟨hav, hsz, hP, hK, hD0, hNw⟩ := hv
  have hx := B.exec
  have hb := B.bytes
  have hr := B.returns
  have hts := atoms_spec (ws := (wa yX11_twoOf cX11_twoOf 5 (some .long))) B.pre
  have hw := wa_hw hts
  have hown : s.vm.findClass RX11 = some m.cls := findClass_of_methodNamed B.named
  have hlocks := B.notSynchronized
  subst hsz
  have hG : gG D cy ad (gA ad s.heap.size) s.heap h g s.heap [] := ⟨hP, gA_self hD0, va_S.rf⟩
  clear hP hD0
  rw [show (headSpec (wa yX11_twoOf cX11_twoOf 5 (some .long)) ({ frames := 0, cells := 0, slots := 0, locals := 0 } : Room)).room = ({ frames := 0, cells := 0, slots := 0, locals := 0 } : Room) from rfl]
  have hl := lv_entry ([.int x0, .long x1, .long x3]) (n := 5) (Nat.le_of_ble_eq_true rfl)
  rw [show entryFrame m args 5 = entryFrame m ([.int x0, .long x1, .long x3] : List Value).toArray 5 from by rw [hav], lg_entry_eq]
  generalize (lg_sl ([.int x0, .long x1, .long x3]) ++ List.replicate (5 - (lg_sl ([.int x0, .long x1, .long x3])).length) Slot.unset).toArray = ls at hl ⊢
  have hl : lv_has ls 5 [(0, .int x0), (1, .long x1), (3, .long x3)] := hl
  have B140 : ∀ (h : HI) (g : HL) (H : Heap) (locs : List Loc) (ls : Array Slot), j_X11_twoOf_140 Q h g → gG D cy ad (gA ad s.heap.size) s.heap h g H locs → lv_has ls 5 [] → W p l e ({ frames := 0, cells := 0, slots := 0, locals := 0 } : Room) s m args below meth c H locs 0 0 (MQ below (va_Ql (fun (r : Int64) (u : HI × HL) => Q r u.1 u.2) (gB D cy ad s.heap.size) (gA ad s.heap.size)) args s 0 0 (gA ad s.heap.size)) (F0 m 140 ls []) := by
    intro  h g H locs ls HW hG hl
    unfold j_X11_twoOf_140 at HW
    refine lv_lconst (v := 1) hx hb dX11_twoOf_140 (by decide) ?_
    refine lv_goto (tgt := 145) hx hb dX11_twoOf_141 (by decide) ?_
    exact W.lret (v := (1 : Int64)) hx hb hr (fun t ht hW => ⟨⟨(1 : Int64), (h, g), rfl, HW, g_B ht hG⟩, hG.2.2.F ht⟩) hG.2.2.2.2 dX11_twoOf_145
  have E0 : ∀ (H : Heap) (locs : List Loc) (ls : Array Slot), gG D cy ad (gA ad s.heap.size) s.heap h g H locs → lv_has ls 5 [(0, .int x0), (1, .long x1), (3, .long x3)] → W p l e ({ frames := 0, cells := 0, slots := 0, locals := 0 } : Room) s m args below meth c H locs 0 0 (MQ below (va_Ql (fun (r : Int64) (u : HI × HL) => Q r u.1 u.2) (gB D cy ad s.heap.size) (gA ad s.heap.size)) args s 0 0 (gA ad s.heap.size)) (F0 m 0 ls []) := by
    intro H locs ls hG hl
    unfold w_X11_twoOf at HW
    refine lv_iload_n hx hb dX11_twoOf_0 rfl (lv_at hl 0 rfl) ?_
    by_cases c_1_0 : x0 = 4
    · replace HW := HW.1 c_1_0
      refine lv_tableIn (tgt := 48) (off := 47) hx hb dX11_twoOf_1 (by rw [c_1_0]; first | done | decide) (by rw [c_1_0]; first | done | decide) (by rw [c_1_0]; first | done | rfl) (by decide) ?_
      refine lv_lload_n hx hb dX11_twoOf_48 rfl (lv_at hl 1 rfl) ?_
      refine lv_lload_n hx hb dX11_twoOf_49 rfl (lv_at hl 2 rfl) ?_
      refine lv_lmul hx hb dX11_twoOf_50 ?_
      exact W.lret (v := (x1 * x3)) hx hb hr (fun t ht hW => ⟨⟨(x1 * x3), (h, g), rfl, HW, g_B ht hG⟩, hG.2.2.F ht⟩) hG.2.2.2.2 dX11_twoOf_51
    · by_cases c_1_1 : x0 = 5
      · replace HW := HW.2.1 c_1_1
        refine lv_tableIn (tgt := 52) (off := 51) hx hb dX11_twoOf_1 (by rw [c_1_1]; first | done | decide) (by rw [c_1_1]; first | done | decide) (by rw [c_1_1]; first | done | rfl) (by decide) ?_
        refine lv_lload_n hx hb dX11_twoOf_52 rfl (lv_at hl 2 rfl) ?_
        refine lv_lconst (v := 0) hx hb dX11_twoOf_53 (by decide) ?_
        refine W.lcmp hx hb dX11_twoOf_54 ?_
        refine lv_if_ne (tgt := 62) hx hb dX11_twoOf_55 (by decide) (fun c_55 => ?_) (fun c_55 => ?_)
        · replace HW := HW.1 c_55
          refine lv_lload_n hx hb dX11_twoOf_62 rfl (lv_at hl 1 rfl) ?_
          refine lv_lload_n hx hb dX11_twoOf_63 rfl (lv_at hl 2 rfl) ?_
          refine lv_ldiv hx hb dX11_twoOf_64 HW.1 ?_
          replace HW := HW.2
          exact W.lret (v := (x1 / x3)) hx hb hr (fun t ht hW => ⟨⟨(x1 / x3), (h, g), rfl, HW, g_B ht hG⟩, hG.2.2.F ht⟩) hG.2.2.2.2 dX11_twoOf_65
        · replace HW := HW.2 c_55
          refine lv_lconst (v := 0) hx hb dX11_twoOf_58 (by decide) ?_
          refine lv_goto (tgt := 65) hx hb dX11_twoOf_59 (by decide) ?_
          exact W.lret (v := (0 : Int64)) hx hb hr (fun t ht hW => ⟨⟨(0 : Int64), (h, g), rfl, HW, g_B ht hG⟩, hG.2.2.F ht⟩) hG.2.2.2.2 dX11_twoOf_65
      · by_cases c_1_2 : x0 = 6
        · replace HW := HW.2.2.1 c_1_2
          refine lv_tableIn (tgt := 66) (off := 65) hx hb dX11_twoOf_1 (by rw [c_1_2]; first | done | decide) (by rw [c_1_2]; first | done | decide) (by rw [c_1_2]; first | done | rfl) (by decide) ?_
          refine lv_lload_n hx hb dX11_twoOf_66 rfl (lv_at hl 1 rfl) ?_
          refine lv_lload_n hx hb dX11_twoOf_67 rfl (lv_at hl 2 rfl) ?_
          refine lv_ladd hx hb dX11_twoOf_68 ?_
          exact W.lret (v := (x1 + x3)) hx hb hr (fun t ht hW => ⟨⟨(x1 + x3), (h, g), rfl, HW, g_B ht hG⟩, hG.2.2.F ht⟩) hG.2.2.2.2 dX11_twoOf_69
        · by_cases c_1_3 : x0 = 7
          · replace HW := HW.2.2.2.1 c_1_3
            refine lv_tableIn (tgt := 70) (off := 69) hx hb dX11_twoOf_1 (by rw [c_1_3]; first | done | decide) (by rw [c_1_3]; first | done | decide) (by rw [c_1_3]; first | done | rfl) (by decide) ?_
            refine lv_lload_n hx hb dX11_twoOf_70 rfl (lv_at hl 1 rfl) ?_
            refine lv_lload_n hx hb dX11_twoOf_71 rfl (lv_at hl 2 rfl) ?_
            refine lv_lsub hx hb dX11_twoOf_72 ?_
            exact W.lret (v := (x1 - x3)) hx hb hr (fun t ht hW => ⟨⟨(x1 - x3), (h, g), rfl, HW, g_B ht hG⟩, hG.2.2.F ht⟩) hG.2.2.2.2 dX11_twoOf_73
          · by_cases c_1_4 : x0 = 8
            · replace HW := HW.2.2.2.2.1 c_1_4
              refine lv_tableIn (tgt := 74) (off := 73) hx hb dX11_twoOf_1 (by rw [c_1_4]; first | done | decide) (by rw [c_1_4]; first | done | decide) (by rw [c_1_4]; first | done | rfl) (by decide) ?_
              refine lv_lload_n hx hb dX11_twoOf_74 rfl (lv_at hl 1 rfl) ?_
              refine lv_lload_n hx hb dX11_twoOf_75 rfl (lv_at hl 2 rfl) ?_
              refine W.lcmp hx hb dX11_twoOf_76 ?_
              refine lv_if_ge (tgt := 84) hx hb dX11_twoOf_77 (by decide) (fun c_77 => ?_) (fun c_77 => ?_)
              · replace HW := HW.1 c_77
                refine lv_lconst (v := 0) hx hb dX11_twoOf_84 (by decide) ?_
                exact W.lret (v := (0 : Int64)) hx hb hr (fun t ht hW => ⟨⟨(0 : Int64), (h, g), rfl, HW, g_B ht hG⟩, hG.2.2.F ht⟩) hG.2.2.2.2 dX11_twoOf_85
              · replace HW := HW.2 c_77
                refine lv_lconst (v := 1) hx hb dX11_twoOf_80 (by decide) ?_
                refine lv_goto (tgt := 85) hx hb dX11_twoOf_81 (by decide) ?_
                exact W.lret (v := (1 : Int64)) hx hb hr (fun t ht hW => ⟨⟨(1 : Int64), (h, g), rfl, HW, g_B ht hG⟩, hG.2.2.F ht⟩) hG.2.2.2.2 dX11_twoOf_85
            · by_cases c_1_5 : x0 = 9
              · replace HW := HW.2.2.2.2.2.1 c_1_5
                refine lv_tableIn (tgt := 86) (off := 85) hx hb dX11_twoOf_1 (by rw [c_1_5]; first | done | decide) (by rw [c_1_5]; first | done | decide) (by rw [c_1_5]; first | done | rfl) (by decide) ?_
                refine lv_lload_n hx hb dX11_twoOf_86 rfl (lv_at hl 1 rfl) ?_
                refine lv_lload_n hx hb dX11_twoOf_87 rfl (lv_at hl 2 rfl) ?_
                refine W.lcmp hx hb dX11_twoOf_88 ?_
                refine lv_if_le (tgt := 96) hx hb dX11_twoOf_89 (by decide) (fun c_89 => ?_) (fun c_89 => ?_)
                · replace HW := HW.1 c_89
                  refine lv_lconst (v := 0) hx hb dX11_twoOf_96 (by decide) ?_
                  exact W.lret (v := (0 : Int64)) hx hb hr (fun t ht hW => ⟨⟨(0 : Int64), (h, g), rfl, HW, g_B ht hG⟩, hG.2.2.F ht⟩) hG.2.2.2.2 dX11_twoOf_97
                · replace HW := HW.2 c_89
                  refine lv_lconst (v := 1) hx hb dX11_twoOf_92 (by decide) ?_
                  refine lv_goto (tgt := 97) hx hb dX11_twoOf_93 (by decide) ?_
                  exact W.lret (v := (1 : Int64)) hx hb hr (fun t ht hW => ⟨⟨(1 : Int64), (h, g), rfl, HW, g_B ht hG⟩, hG.2.2.F ht⟩) hG.2.2.2.2 dX11_twoOf_97
              · by_cases c_1_6 : x0 = 10
                · replace HW := HW.2.2.2.2.2.2.1 c_1_6
                  refine lv_tableIn (tgt := 98) (off := 97) hx hb dX11_twoOf_1 (by rw [c_1_6]; first | done | decide) (by rw [c_1_6]; first | done | decide) (by rw [c_1_6]; first | done | rfl) (by decide) ?_
                  refine lv_lload_n hx hb dX11_twoOf_98 rfl (lv_at hl 1 rfl) ?_
                  refine lv_lload_n hx hb dX11_twoOf_99 rfl (lv_at hl 2 rfl) ?_
                  refine W.lcmp hx hb dX11_twoOf_100 ?_
                  refine lv_if_ne (tgt := 108) hx hb dX11_twoOf_101 (by decide) (fun c_101 => ?_) (fun c_101 => ?_)
                  · replace HW := HW.1 c_101
                    refine lv_lconst (v := 0) hx hb dX11_twoOf_108 (by decide) ?_
                    exact W.lret (v := (0 : Int64)) hx hb hr (fun t ht hW => ⟨⟨(0 : Int64), (h, g), rfl, HW, g_B ht hG⟩, hG.2.2.F ht⟩) hG.2.2.2.2 dX11_twoOf_109
                  · replace HW := HW.2 c_101
                    refine lv_lconst (v := 1) hx hb dX11_twoOf_104 (by decide) ?_
                    refine lv_goto (tgt := 109) hx hb dX11_twoOf_105 (by decide) ?_
                    exact W.lret (v := (1 : Int64)) hx hb hr (fun t ht hW => ⟨⟨(1 : Int64), (h, g), rfl, HW, g_B ht hG⟩, hG.2.2.F ht⟩) hG.2.2.2.2 dX11_twoOf_109
                · by_cases c_1_7 : x0 = 11
                  · replace HW := HW.2.2.2.2.2.2.2.1 c_1_7
                    refine lv_tableIn (tgt := 110) (off := 109) hx hb dX11_twoOf_1 (by rw [c_1_7]; first | done | decide) (by rw [c_1_7]; first | done | decide) (by rw [c_1_7]; first | done | rfl) (by decide) ?_
                    refine lv_lload_n hx hb dX11_twoOf_110 rfl (lv_at hl 1 rfl) ?_
                    refine lv_lconst (v := 0) hx hb dX11_twoOf_111 (by decide) ?_
                    refine W.lcmp hx hb dX11_twoOf_112 ?_
                    refine lv_if_eq (tgt := 126) hx hb dX11_twoOf_113 (by decide) (fun c_113 => ?_) (fun c_113 => ?_)
                    · replace HW := HW.1 c_113
                      refine lv_lconst (v := 0) hx hb dX11_twoOf_126 (by decide) ?_
                      exact W.lret (v := (0 : Int64)) hx hb hr (fun t ht hW => ⟨⟨(0 : Int64), (h, g), rfl, HW, g_B ht hG⟩, hG.2.2.F ht⟩) hG.2.2.2.2 dX11_twoOf_127
                    · replace HW := HW.2 c_113
                      refine lv_lload_n hx hb dX11_twoOf_116 rfl (lv_at hl 2 rfl) ?_
                      refine lv_lconst (v := 0) hx hb dX11_twoOf_117 (by decide) ?_
                      refine W.lcmp hx hb dX11_twoOf_118 ?_
                      refine lv_if_eq (tgt := 126) hx hb dX11_twoOf_119 (by decide) (fun c_119 => ?_) (fun c_119 => ?_)
                      · replace HW := HW.1 c_119
                        refine lv_lconst (v := 0) hx hb dX11_twoOf_126 (by decide) ?_
                        exact W.lret (v := (0 : Int64)) hx hb hr (fun t ht hW => ⟨⟨(0 : Int64), (h, g), rfl, HW, g_B ht hG⟩, hG.2.2.F ht⟩) hG.2.2.2.2 dX11_twoOf_127
                      · replace HW := HW.2 c_119
                        refine lv_lconst (v := 1) hx hb dX11_twoOf_122 (by decide) ?_
                        refine lv_goto (tgt := 127) hx hb dX11_twoOf_123 (by decide) ?_
                        exact W.lret (v := (1 : Int64)) hx hb hr (fun t ht hW => ⟨⟨(1 : Int64), (h, g), rfl, HW, g_B ht hG⟩, hG.2.2.F ht⟩) hG.2.2.2.2 dX11_twoOf_127
                  · replace HW := HW.2.2.2.2.2.2.2.2 c_1_0 c_1_1 c_1_2 c_1_3 c_1_4 c_1_5 c_1_6 c_1_7
                    have z_1_0 := g_ne c_1_0 (n := 4) (by decide)
                    have z_1_1 := g_ne c_1_1 (n := 5) (by decide)
                    have z_1_2 := g_ne c_1_2 (n := 6) (by decide)
                    have z_1_3 := g_ne c_1_3 (n := 7) (by decide)
                    have z_1_4 := g_ne c_1_4 (n := 8) (by decide)
                    have z_1_5 := g_ne c_1_5 (n := 9) (by decide)
                    have z_1_6 := g_ne c_1_6 (n := 10) (by decide)
                    have z_1_7 := g_ne c_1_7 (n := 11) (by decide)
                    refine lv_tableOut (tgt := 128) hx hb dX11_twoOf_1 (by omega) (by decide) ?_
                    refine lv_lload_n hx hb dX11_twoOf_128 rfl (lv_at hl 1 rfl) ?_
                    refine lv_lconst (v := 0) hx hb dX11_twoOf_129 (by decide) ?_
                    refine W.lcmp hx hb dX11_twoOf_130 ?_
                    refine lv_if_ne (tgt := 140) hx hb dX11_twoOf_131 (by decide) (fun c_131 => ?_) (fun c_131 => ?_)
                    · replace HW := HW.1 c_131
                      exact B140 h g _ _ _ HW hG (lv_sub hl [] rfl)
                    · replace HW := HW.2 c_131
                      refine lv_lload_n hx hb dX11_twoOf_134 rfl (lv_at hl 2 rfl) ?_
                      refine lv_lconst (v := 0) hx hb dX11_twoOf_135 (by decide) ?_
                      refine W.lcmp hx hb dX11_twoOf_136 ?_
                      refine lv_if_eq (tgt := 144) hx hb dX11_twoOf_137 (by decide) (fun c_137 => ?_) (fun c_137 => ?_)
                      · replace HW := HW.1 c_137
                        refine lv_lconst (v := 0) hx hb dX11_twoOf_144 (by decide) ?_
                        exact W.lret (v := (0 : Int64)) hx hb hr (fun t ht hW => ⟨⟨(0 : Int64), (h, g), rfl, HW, g_B ht hG⟩, hG.2.2.F ht⟩) hG.2.2.2.2 dX11_twoOf_145
                      · replace HW := HW.2 c_137
                        exact B140 h g _ _ _ HW hG (lv_sub hl [] rfl)
  exact E0 _ _ _ hG hl

def j_X11_tells_196 (Q : Int64 → HI → HL → Prop) (K5 : Int32 → Int32 → Int32 → Int32 → HI → HL → Prop) (x1 : Int32) (x2 : Int32) (x3 : Int32) (x4 : Int32) (h : HI) (g : HL) : Prop :=
  (∀ x4_196 : Int32, x4_196 = (x4 + 1) → K5 x1 x2 x3 x4_196 h g)
def j_X11_tells_98 (Q : Int64 → HI → HL → Prop) (K5 : Int32 → Int32 → Int32 → Int32 → HI → HL → Prop) (x1 : Int32) (x2 : Int32) (x3 : Int32) (x4 : Int32) (s1 : Int32) (s2 : Int64) (h : HI) (g : HL) : Prop :=
  (vp_in s1 70 ∧ ∀ g_98 : HL, g_98 = hul g 142 s1.toNatClampNeg s2 → (∀ x3_99 : Int32, x3_99 = (x3 + 1) → j_X11_tells_196 Q K5 x1 x2 x3_99 x4 h g_98))
def j_X11_tells_34 (Q : Int64 → HI → HL → Prop) (K5 : Int32 → Int32 → Int32 → Int32 → HI → HL → Prop) (x1 : Int32) (x2 : Int32) (x3 : Int32) (x4 : Int32) (x5 : Int32) (h : HI) (g : HL) : Prop :=
  ((¬ x5 = 0 → (vp_in x4 70 ∧ ((¬ (h 140 x4.toNatClampNeg) = 0 → (vp_in x4 70 ∧ ((¬ (h 140 x4.toNatClampNeg) = (1 : Int32) → (∃ P_94 : Int32 → HI → HL → Prop, w_X11_partOf x1 (1 : Int32) h g P_94 ∧ ∀ (r_94 : Int32) (h_94 : HI) (g_94 : HL), P_94 r_94 h_94 g_94 → j_X11_tells_98 Q K5 x1 x2 x3 x4 x3 ((r_94).toInt64) h_94 g_94)) ∧ ((h 140 x4.toNatClampNeg) = (1 : Int32) → (∃ P_84 : Int32 → HI → HL → Prop, w_X11_partOf x1 (0 : Int32) h g P_84 ∧ ∀ (r_84 : Int32) (h_84 : HI) (g_84 : HL), P_84 r_84 h_84 g_84 → j_X11_tells_98 Q K5 x1 x2 x3 x4 x3 ((r_84).toInt64) h_84 g_84))))) ∧ ((h 140 x4.toNatClampNeg) = 0 → j_X11_tells_98 Q K5 x1 x2 x3 x4 x3 ((x2).toInt64) h g)))) ∧ (x5 = 0 → (vp_in x4 70 ∧ j_X11_tells_98 Q K5 x1 x2 x3 x4 x3 (((h 140 x4.toNatClampNeg)).toInt64) h g)))
def j_X11_tells_162 (Q : Int64 → HI → HL → Prop) (K5 : Int32 → Int32 → Int32 → Int32 → HI → HL → Prop) (x1 : Int32) (x2 : Int32) (x3 : Int32) (x4 : Int32) (s1 : Int32) (s2 : Int64) (h : HI) (g : HL) : Prop :=
  (vp_in s1 70 ∧ ∀ g_162 : HL, g_162 = hul g 142 s1.toNatClampNeg s2 → j_X11_tells_196 Q K5 x1 x2 x3 x4 h g_162)
def b_X11_tells_5 (Q : Int64 → HI → HL → Prop) (K5 : Int32 → Int32 → Int32 → Int32 → HI → HL → Prop) (x1 : Int32) (x2 : Int32) (x3 : Int32) (x4 : Int32) (h : HI) (g : HL) : Prop :=
  (((h 135 3) ≤ x4 → (vp_in (0 : Int32) 70 ∧ Q (g 142 (0 : Int32).toNatClampNeg) h g)) ∧ (¬ (h 135 3) ≤ x4 → (vp_in x4 70 ∧ (∀ x5_21 : Int32, x5_21 = (h 139 x4.toNatClampNeg) → ((x5_21 = 0 → j_X11_tells_34 Q K5 x1 x2 x3 x4 x5_21 h g) ∧ (¬ x5_21 = 0 → ((¬ x5_21 = (1 : Int32) → ((¬ x5_21 = (3 : Int32) → ((¬ x5_21 = (2 : Int32) → (∀ x3_166 : Int32, x3_166 = (x3 + (-1)) → (vp_in (x3_166 - (1 : Int32)) 70 ∧ (vp_in x3_166 70 ∧ (∃ P_192 : Int64 → HI → HL → Prop, w_X11_twoOf x5_21 (g 142 (x3_166 - (1 : Int32)).toNatClampNeg) (g 142 x3_166.toNatClampNeg) h g P_192 ∧ ∀ (r_192 : Int64) (h_192 : HI) (g_192 : HL), P_192 r_192 h_192 g_192 → (vp_in (x3_166 - (1 : Int32)) 70 ∧ ∀ g_195 : HL, g_195 = hul g_192 142 (x3_166 - (1 : Int32)).toNatClampNeg r_192 → j_X11_tells_196 Q K5 x1 x2 x3_166 x4 h_192 g_195)))))) ∧ (x5_21 = (2 : Int32) → (vp_in (x3 - (1 : Int32)) 70 ∧ ((¬ (lg_cmp (g 142 (x3 - (1 : Int32)).toNatClampNeg) (0 : Int64)) = 0 → j_X11_tells_162 Q K5 x1 x2 x3 x4 (x3 - (1 : Int32)) (0 : Int64) h g) ∧ ((lg_cmp (g 142 (x3 - (1 : Int32)).toNatClampNeg) (0 : Int64)) = 0 → j_X11_tells_162 Q K5 x1 x2 x3 x4 (x3 - (1 : Int32)) (1 : Int64) h g)))))) ∧ (x5_21 = (3 : Int32) → (vp_in (x3 - (1 : Int32)) 70 ∧ (vp_in (x3 - (1 : Int32)) 70 ∧ ∀ g_127 : HL, g_127 = hul g 142 (x3 - (1 : Int32)).toNatClampNeg (-(g 142 (x3 - (1 : Int32)).toNatClampNeg)) → j_X11_tells_196 Q K5 x1 x2 x3 x4 h g_127))))) ∧ (x5_21 = (1 : Int32) → j_X11_tells_34 Q K5 x1 x2 x3 x4 x5_21 h g))))))))
def F_X11_tells_5 (Q : Int64 → HI → HL → Prop) (K : Int32 × Int32 × Int32 × Int32 × HI × HL → Prop) (q : Int32 × Int32 × Int32 × Int32 × HI × HL) : Prop := b_X11_tells_5 Q (fun x1 x2 x3 x4 h g => K (x1, x2, x3, x4, h, g)) q.1 q.2.1 q.2.2.1 q.2.2.2.1 q.2.2.2.2.1 q.2.2.2.2.2
def w_X11_tells (x1 : Int32) (x2 : Int32) (h : HI) (g : HL) (Q : Int64 → HI → HL → Prop) : Prop :=
  lpE (F_X11_tells_5 Q) (x1, x2, (0 : Int32), (0 : Int32), h, g)
set_option maxHeartbeats 8000000 in
set_option maxRecDepth 100000 in
theorem m_X11_tells (l : Launch) (D : va_G) (cy : Nat → ClassId) (ad : Nat → Nat) (h : HI) (g : HL) (sz : Nat) (x1 : Int32) (x2 : Int32) (Q : Int64 → HI → HL → Prop) (HW : w_X11_tells x1 x2 h g Q) : Met l yX11_tells (wa yX11_tells cX11_tells 6 (some .long)) ({ frames := 1, cells := 0, slots := 0, locals := 24 }) (va_Pc [.ref (ad 135), .int x1, .int x2] (gI D cy ad h g sz)) (va_Ql (fun (r : Int64) (u : HI × HL) => Q r u.1 u.2) (gB D cy ad sz) (gA ad sz)) 0 0 (gA ad sz) := by
  refine Met.ofW (cc := cX11_tells) (maxL := 6) (ret := (some .long)) (by decide) rfl ?_
  intro p e s m args below meth c s₁ B hml hv
  obtain ⟨hav, hsz, hP, hK, hD0, hNw⟩ := hv
  have hx := B.exec
  have hb := B.bytes
  have hr := B.returns
  have hts := atoms_spec (ws := (wa yX11_tells cX11_tells 6 (some .long))) B.pre
  have hw := wa_hw hts
  have hown : s.vm.findClass RX11 = some m.cls := findClass_of_methodNamed B.named
  have hlocks := B.notSynchronized
  subst hsz
  have hG : gG D cy ad (gA ad s.heap.size) s.heap h g s.heap [] := ⟨hP, gA_self hD0, va_S.rf⟩
  clear hP hD0
  have lk78 := hw (.fieldLink RX11 78 "OldWorksModel" "steps" "I") (wm5 30 rfl rfl)
  have lk29 := hw (.fieldLink RX11 29 "OldWorksModel" "value" "[J") (wm5 35 rfl rfl)
  have lk20 := hw (.fieldLink RX11 20 "OldWorksModel" "step" "[I") (wm5 31 rfl rfl)
  have lk23 := hw (.fieldLink RX11 23 "OldWorksModel" "with" "[I") (wm5 32 rfl rfl)
  rw [show (headSpec (wa yX11_tells cX11_tells 6 (some .long)) ({ frames := 1, cells := 0, slots := 0, locals := 24 } : Room)).room = ({ frames := 1, cells := 0, slots := 0, locals := 24 } : Room) from rfl]
  have hl := lv_entry ([.ref (ad 135), .int x1, .int x2]) (n := 6) (Nat.le_of_ble_eq_true rfl)
  rw [show entryFrame m args 6 = entryFrame m ([.ref (ad 135), .int x1, .int x2] : List Value).toArray 6 from by rw [hav], lg_entry_eq]
  generalize (lg_sl ([.ref (ad 135), .int x1, .int x2]) ++ List.replicate (6 - (lg_sl ([.ref (ad 135), .int x1, .int x2])).length) Slot.unset).toArray = ls at hl ⊢
  have hl : lv_has ls 6 [(0, .ref (ad 135)), (1, .int x1), (2, .int x2)] := hl
  have B196 : ∀ (K5 : Int32 → Int32 → Int32 → Int32 → HI → HL → Prop) (hK5 : ∀ (x1 : Int32) (x2 : Int32) (x3 : Int32) (x4 : Int32) (h : HI) (g : HL) (H : Heap) (locs : List Loc) (ls : Array Slot), K5 x1 x2 x3 x4 h g → gG D cy ad (gA ad s.heap.size) s.heap h g H locs → lv_has ls 6 [(0, .ref (ad 135)), (1, .int x1), (2, .int x2), (3, .int x3), (4, .int x4)] → W p l e ({ frames := 1, cells := 0, slots := 0, locals := 24 } : Room) s m args below meth c H locs 0 0 (MQ below (va_Ql (fun (r : Int64) (u : HI × HL) => Q r u.1 u.2) (gB D cy ad s.heap.size) (gA ad s.heap.size)) args s 0 0 (gA ad s.heap.size)) (F0 m 5 ls [])) (x1 : Int32) (x2 : Int32) (x3 : Int32) (x4 : Int32) (h : HI) (g : HL) (H : Heap) (locs : List Loc) (ls : Array Slot), j_X11_tells_196 Q K5 x1 x2 x3 x4 h g → gG D cy ad (gA ad s.heap.size) s.heap h g H locs → lv_has ls 6 [(0, .ref (ad 135)), (1, .int x1), (2, .int x2), (3, .int x3), (4, .int x4)] → W p l e ({ frames := 1, cells := 0, slots := 0, locals := 24 } : Room) s m args below meth c H locs 0 0 (MQ below (va_Ql (fun (r : Int64) (u : HI × HL) => Q r u.1 u.2) (gB D cy ad s.heap.size) (gA ad s.heap.size)) args s 0 0 (gA ad s.heap.size)) (F0 m 196 ls []) := by
    intro K5 hK5 x1 x2 x3 x4 h g H locs ls HW hG hl
    unfold j_X11_tells_196 at HW
    obtain ⟨x4_196, ex4_196⟩ : ∃ y : Int32, y = (x4 + 1) := ⟨_, rfl⟩
    replace HW := HW x4_196 ex4_196
    refine lv_iinc (v := x4_196) (lv' := [(4, .int x4_196), (0, .ref (ad 135)), (1, .int x1), (2, .int x2), (3, .int x3)]) hx hb dX11_tells_196 hl (k := 4) rfl (by rw [ex4_196]; rfl) (by decide) rfl (fun ls hl => ?_)
    refine lv_goto (tgt := 5) hx hb dX11_tells_199 (by decide) ?_
    exact hK5 x1 x2 x3 x4_196 h g _ _ _ HW hG (lv_sub hl [1, 2, 3, 4, 0] rfl)
  have B98 : ∀ (K5 : Int32 → Int32 → Int32 → Int32 → HI → HL → Prop) (hK5 : ∀ (x1 : Int32) (x2 : Int32) (x3 : Int32) (x4 : Int32) (h : HI) (g : HL) (H : Heap) (locs : List Loc) (ls : Array Slot), K5 x1 x2 x3 x4 h g → gG D cy ad (gA ad s.heap.size) s.heap h g H locs → lv_has ls 6 [(0, .ref (ad 135)), (1, .int x1), (2, .int x2), (3, .int x3), (4, .int x4)] → W p l e ({ frames := 1, cells := 0, slots := 0, locals := 24 } : Room) s m args below meth c H locs 0 0 (MQ below (va_Ql (fun (r : Int64) (u : HI × HL) => Q r u.1 u.2) (gB D cy ad s.heap.size) (gA ad s.heap.size)) args s 0 0 (gA ad s.heap.size)) (F0 m 5 ls [])) (x1 : Int32) (x2 : Int32) (x3 : Int32) (x4 : Int32) (s1 : Int32) (s2 : Int64) (h : HI) (g : HL) (H : Heap) (locs : List Loc) (ls : Array Slot), j_X11_tells_98 Q K5 x1 x2 x3 x4 s1 s2 h g → gG D cy ad (gA ad s.heap.size) s.heap h g H locs → lv_has ls 6 [(0, .ref (ad 135)), (1, .int x1), (2, .int x2), (3, .int x3), (4, .int x4)] → W p l e ({ frames := 1, cells := 0, slots := 0, locals := 24 } : Room) s m args below meth c H locs 0 0 (MQ below (va_Ql (fun (r : Int64) (u : HI × HL) => Q r u.1 u.2) (gB D cy ad s.heap.size) (gA ad s.heap.size)) args s 0 0 (gA ad s.heap.size)) (F0 m 98 ls [.long s2, .int s1, .ref (ad 142)]) := by
    intro K5 hK5 x1 x2 x3 x4 s1 s2 h g H locs ls HW hG hl
    unfold j_X11_tells_98 at HW
    refine g_last hx hb hK hG gl_142 gk_142 gn_142 HW.1 dX11_tells_98 (fun H locs hG => ?_)
    replace HW := HW.2
    obtain ⟨g_98, eg_98⟩ : ∃ y : HL, y = hul g 142 s1.toNatClampNeg s2 := ⟨_, rfl⟩
    rw [← eg_98] at hG
    replace HW := HW g_98 eg_98
    obtain ⟨x3_99, ex3_99⟩ : ∃ y : Int32, y = (x3 + 1) := ⟨_, rfl⟩
    replace HW := HW x3_99 ex3_99
    refine lv_iinc (v := x3_99) (lv' := [(3, .int x3_99), (0, .ref (ad 135)), (1, .int x1), (2, .int x2), (4, .int x4)]) hx hb dX11_tells_99 hl (k := 3) rfl (by rw [ex3_99]; rfl) (by decide) rfl (fun ls hl => ?_)
    refine lv_goto (tgt := 196) hx hb dX11_tells_102 (by decide) ?_
    exact B196 K5 hK5 x1 x2 x3_99 x4 h g_98 _ _ _ HW hG (lv_sub hl [1, 2, 3, 0, 4] rfl)
  have B34 : ∀ (K5 : Int32 → Int32 → Int32 → Int32 → HI → HL → Prop) (hK5 : ∀ (x1 : Int32) (x2 : Int32) (x3 : Int32) (x4 : Int32) (h : HI) (g : HL) (H : Heap) (locs : List Loc) (ls : Array Slot), K5 x1 x2 x3 x4 h g → gG D cy ad (gA ad s.heap.size) s.heap h g H locs → lv_has ls 6 [(0, .ref (ad 135)), (1, .int x1), (2, .int x2), (3, .int x3), (4, .int x4)] → W p l e ({ frames := 1, cells := 0, slots := 0, locals := 24 } : Room) s m args below meth c H locs 0 0 (MQ below (va_Ql (fun (r : Int64) (u : HI × HL) => Q r u.1 u.2) (gB D cy ad s.heap.size) (gA ad s.heap.size)) args s 0 0 (gA ad s.heap.size)) (F0 m 5 ls [])) (x1 : Int32) (x2 : Int32) (x3 : Int32) (x4 : Int32) (x5 : Int32) (h : HI) (g : HL) (H : Heap) (locs : List Loc) (ls : Array Slot), j_X11_tells_34 Q K5 x1 x2 x3 x4 x5 h g → gG D cy ad (gA ad s.heap.size) s.heap h g H locs → lv_has ls 6 [(0, .ref (ad 135)), (1, .int x1), (2, .int x2), (3, .int x3), (4, .int x4), (5, .int x5)] → W p l e ({ frames := 1, cells := 0, slots := 0, locals := 24 } : Room) s m args below meth c H locs 0 0 (MQ below (va_Ql (fun (r : Int64) (u : HI × HL) => Q r u.1 u.2) (gB D cy ad s.heap.size) (gA ad s.heap.size)) args s 0 0 (gA ad s.heap.size)) (F0 m 34 ls []) := by
    intro K5 hK5 x1 x2 x3 x4 x5 h g H locs ls HW hG hl
    unfold j_X11_tells_34 at HW
    refine lv_aload_n hx hb dX11_tells_34 rfl (lv_at hl 0 rfl) ?_
    refine g_getr hx hb hw inG11 hown hK hG gl_135 rfl gk_135 (by decide) 8 (by decide) (by rw [gm_135]; decide) (r := 142) gr_135_8 lk29 dX11_tells_35 ?_
    refine lv_iload_n hx hb dX11_tells_38 rfl (lv_at hl 3 rfl) ?_
    refine lv_iload hx hb dX11_tells_39 (lv_at hl 5 rfl) ?_
    refine lv_if_ne (tgt := 55) hx hb dX11_tells_41 (by decide) (fun c_41 => ?_) (fun c_41 => ?_)
    · replace HW := HW.1 c_41
      refine lv_aload_n hx hb dX11_tells_55 rfl (lv_at hl 0 rfl) ?_
      refine g_getr hx hb hw inG11 hown hK hG gl_135 rfl gk_135 (by decide) 5 (by decide) (by rw [gm_135]; decide) (r := 140) gr_135_5 lk23 dX11_tells_56 ?_
      refine lv_iload hx hb dX11_tells_59 (lv_at hl 4 rfl) ?_
      refine g_iald hx hb hK hG gl_140 gk_140 gn_140 HW.1 dX11_tells_61 ?_
      replace HW := HW.2
      refine lv_if_ne (tgt := 70) hx hb dX11_tells_62 (by decide) (fun c_62 => ?_) (fun c_62 => ?_)
      · replace HW := HW.1 c_62
        refine lv_aload_n hx hb dX11_tells_70 rfl (lv_at hl 0 rfl) ?_
        refine g_getr hx hb hw inG11 hown hK hG gl_135 rfl gk_135 (by decide) 5 (by decide) (by rw [gm_135]; decide) (r := 140) gr_135_5 lk23 dX11_tells_71 ?_
        refine lv_iload hx hb dX11_tells_74 (lv_at hl 4 rfl) ?_
        refine g_iald hx hb hK hG gl_140 gk_140 gn_140 HW.1 dX11_tells_76 ?_
        replace HW := HW.2
        refine lv_iconst (v := 1) hx hb dX11_tells_77 (by decide) ?_
        refine lv_icmp_ne (tgt := 91) hx hb dX11_tells_78 (by decide) (fun c_78 => ?_) (fun c_78 => ?_)
        · replace HW := HW.1 c_78
          refine lv_aload_n hx hb dX11_tells_91 rfl (lv_at hl 0 rfl) ?_
          refine lv_iload_n hx hb dX11_tells_92 rfl (lv_at hl 1 rfl) ?_
          refine lv_iconst (v := 1) hx hb dX11_tells_93 (by decide) ?_
          obtain ⟨P_94, HC_94, HW⟩ := HW
          refine g_calli (g_runV (As := [.int x1, .int (1 : Int32)]) (rest := [.int x3, .ref (ad 142)]) ⟨hx, hb, hml, hown, hts⟩ (m_X11_partOf l D cy ad h g H.size x1 (1 : Int32) P_94 HC_94) (cwV 2 hts (gd_V (wm5 192 rfl rfl) (wm5 194 rfl rfl) (wmp4 (q := (yX11_partOf, 26)) 0 rfl) (wm1 13 rfl rfl) (wm5 195 rfl rfl)) rfl rfl rfl (by decide +kernel) ⟨Nat.le_of_ble_eq_true rfl, Nat.le_of_ble_eq_true rfl⟩) hK hNw hG gl_135 rfl gk_135 (by decide) rfl rfl hl.1 rfl (lv_room (Nat.le_of_ble_eq_true rfl)) dX11_tells_94 ⟨Nat.zero_le _, Nat.zero_le _⟩) hG (fun r_94 h_94 g_94 H locs hq hG => ?_)
          replace HW := HW r_94 h_94 g_94 hq
          refine lv_i2l hx hb dX11_tells_97 rfl ?_
          exact B98 K5 hK5 x1 x2 x3 x4 x3 ((r_94).toInt64) h_94 g_94 _ _ _ HW hG (lv_sub hl [0, 1, 2, 3, 4] rfl)
        · replace HW := HW.2 c_78
          refine lv_aload_n hx hb dX11_tells_81 rfl (lv_at hl 0 rfl) ?_
          refine lv_iload_n hx hb dX11_tells_82 rfl (lv_at hl 1 rfl) ?_
          refine lv_iconst (v := 0) hx hb dX11_tells_83 (by decide) ?_
          obtain ⟨P_84, HC_84, HW⟩ := HW
          refine g_calli (g_runV (As := [.int x1, .int (0 : Int32)]) (rest := [.int x3, .ref (ad 142)]) ⟨hx, hb, hml, hown, hts⟩ (m_X11_partOf l D cy ad h g H.size x1 (0 : Int32) P_84 HC_84) (cwV 2 hts (gd_V (wm5 192 rfl rfl) (wm5 194 rfl rfl) (wmp4 (q := (yX11_partOf, 26)) 0 rfl) (wm1 13 rfl rfl) (wm5 195 rfl rfl)) rfl rfl rfl (by decide +kernel) ⟨Nat.le_of_ble_eq_true rfl, Nat.le_of_ble_eq_true rfl⟩) hK hNw hG gl_135 rfl gk_135 (by decide) rfl rfl hl.1 rfl (lv_room (Nat.le_of_ble_eq_true rfl)) dX11_tells_84 ⟨Nat.zero_le _, Nat.zero_le _⟩) hG (fun r_84 h_84 g_84 H locs hq hG => ?_)
          replace HW := HW r_84 h_84 g_84 hq
          refine lv_i2l hx hb dX11_tells_87 rfl ?_
          refine lv_goto (tgt := 98) hx hb dX11_tells_88 (by decide) ?_
          exact B98 K5 hK5 x1 x2 x3 x4 x3 ((r_84).toInt64) h_84 g_84 _ _ _ HW hG (lv_sub hl [0, 1, 2, 3, 4] rfl)
      · replace HW := HW.2 c_62
        refine lv_iload_n hx hb dX11_tells_65 rfl (lv_at hl 2 rfl) ?_
        refine lv_i2l hx hb dX11_tells_66 rfl ?_
        refine lv_goto (tgt := 98) hx hb dX11_tells_67 (by decide) ?_
        exact B98 K5 hK5 x1 x2 x3 x4 x3 ((x2).toInt64) h g _ _ _ HW hG (lv_sub hl [0, 1, 2, 3, 4] rfl)
    · replace HW := HW.2 c_41
      refine lv_aload_n hx hb dX11_tells_44 rfl (lv_at hl 0 rfl) ?_
      refine g_getr hx hb hw inG11 hown hK hG gl_135 rfl gk_135 (by decide) 5 (by decide) (by rw [gm_135]; decide) (r := 140) gr_135_5 lk23 dX11_tells_45 ?_
      refine lv_iload hx hb dX11_tells_48 (lv_at hl 4 rfl) ?_
      refine g_iald hx hb hK hG gl_140 gk_140 gn_140 HW.1 dX11_tells_50 ?_
      replace HW := HW.2
      refine lv_i2l hx hb dX11_tells_51 rfl ?_
      refine lv_goto (tgt := 98) hx hb dX11_tells_52 (by decide) ?_
      exact B98 K5 hK5 x1 x2 x3 x4 x3 (((h 140 x4.toNatClampNeg)).toInt64) h g _ _ _ HW hG (lv_sub hl [0, 1, 2, 3, 4] rfl)
  have B162 : ∀ (K5 : Int32 → Int32 → Int32 → Int32 → HI → HL → Prop) (hK5 : ∀ (x1 : Int32) (x2 : Int32) (x3 : Int32) (x4 : Int32) (h : HI) (g : HL) (H : Heap) (locs : List Loc) (ls : Array Slot), K5 x1 x2 x3 x4 h g → gG D cy ad (gA ad s.heap.size) s.heap h g H locs → lv_has ls 6 [(0, .ref (ad 135)), (1, .int x1), (2, .int x2), (3, .int x3), (4, .int x4)] → W p l e ({ frames := 1, cells := 0, slots := 0, locals := 24 } : Room) s m args below meth c H locs 0 0 (MQ below (va_Ql (fun (r : Int64) (u : HI × HL) => Q r u.1 u.2) (gB D cy ad s.heap.size) (gA ad s.heap.size)) args s 0 0 (gA ad s.heap.size)) (F0 m 5 ls [])) (x1 : Int32) (x2 : Int32) (x3 : Int32) (x4 : Int32) (s1 : Int32) (s2 : Int64) (h : HI) (g : HL) (H : Heap) (locs : List Loc) (ls : Array Slot), j_X11_tells_162 Q K5 x1 x2 x3 x4 s1 s2 h g → gG D cy ad (gA ad s.heap.size) s.heap h g H locs → lv_has ls 6 [(0, .ref (ad 135)), (1, .int x1), (2, .int x2), (3, .int x3), (4, .int x4)] → W p l e ({ frames := 1, cells := 0, slots := 0, locals := 24 } : Room) s m args below meth c H locs 0 0 (MQ below (va_Ql (fun (r : Int64) (u : HI × HL) => Q r u.1 u.2) (gB D cy ad s.heap.size) (gA ad s.heap.size)) args s 0 0 (gA ad s.heap.size)) (F0 m 162 ls [.long s2, .int s1, .ref (ad 142)]) := by
    intro K5 hK5 x1 x2 x3 x4 s1 s2 h g H locs ls HW hG hl
    unfold j_X11_tells_162 at HW
    refine g_last hx hb hK hG gl_142 gk_142 gn_142 HW.1 dX11_tells_162 (fun H locs hG => ?_)
    replace HW := HW.2
    obtain ⟨g_162, eg_162⟩ : ∃ y : HL, y = hul g 142 s1.toNatClampNeg s2 := ⟨_, rfl⟩
    rw [← eg_162] at hG
    replace HW := HW g_162 eg_162
    refine lv_goto (tgt := 196) hx hb dX11_tells_163 (by decide) ?_
    exact B196 K5 hK5 x1 x2 x3 x4 h g_162 _ _ _ HW hG (lv_sub hl [0, 1, 2, 3, 4] rfl)
  have L5 : ∀ (n : Nat) (x1 : Int32) (x2 : Int32) (x3 : Int32) (x4 : Int32) (h : HI) (g : HL) (H : Heap) (locs : List Loc) (ls : Array Slot), lpN (F_X11_tells_5 Q) n (x1, x2, x3, x4, h, g) → gG D cy ad (gA ad s.heap.size) s.heap h g H locs → lv_has ls 6 [(0, .ref (ad 135)), (1, .int x1), (2, .int x2), (3, .int x3), (4, .int x4)] → W p l e ({ frames := 1, cells := 0, slots := 0, locals := 24 } : Room) s m args below meth c H locs 0 0 (MQ below (va_Ql (fun (r : Int64) (u : HI × HL) => Q r u.1 u.2) (gB D cy ad s.heap.size) (gA ad s.heap.size)) args s 0 0 (gA ad s.heap.size)) (F0 m 5 ls []) := by
    intro n
    induction n with
    | zero => intro x1 x2 x3 x4 h g H locs ls HW; exact HW.elim
    | succ n ih =>
      intro x1 x2 x3 x4 h g H locs ls HW hG hl
      have HW : b_X11_tells_5 Q (fun x1 x2 x3 x4 h g => lpN (F_X11_tells_5 Q) n (x1, x2, x3, x4, h, g)) x1 x2 x3 x4 h g := HW
      generalize hKe : (fun (x1 : Int32) (x2 : Int32) (x3 : Int32) (x4 : Int32) (h : HI) (g : HL) => lpN (F_X11_tells_5 Q) n (x1, x2, x3, x4, h, g)) = K5 at HW
      have hK5 : ∀ (x1 : Int32) (x2 : Int32) (x3 : Int32) (x4 : Int32) (h : HI) (g : HL) (H : Heap) (locs : List Loc) (ls : Array Slot), K5 x1 x2 x3 x4 h g → gG D cy ad (gA ad s.heap.size) s.heap h g H locs → lv_has ls 6 [(0, .ref (ad 135)), (1, .int x1), (2, .int x2), (3, .int x3), (4, .int x4)] → W p l e ({ frames := 1, cells := 0, slots := 0, locals := 24 } : Room) s m args below meth c H locs 0 0 (MQ below (va_Ql (fun (r : Int64) (u : HI × HL) => Q r u.1 u.2) (gB D cy ad s.heap.size) (gA ad s.heap.size)) args s 0 0 (gA ad s.heap.size)) (F0 m 5 ls []) := by subst hKe; exact ih
      clear ih
      clear hKe
      unfold b_X11_tells_5 at HW
      refine lv_iload hx hb dX11_tells_5 (lv_at hl 4 rfl) ?_
      refine lv_aload_n hx hb dX11_tells_7 rfl (lv_at hl 0 rfl) ?_
      refine g_geti hx hb hw inG11 hown hK hG gl_135 rfl gk_135 (by decide) 3 (by decide) (by rw [gm_135]; decide) gr_135_3 lk78 dX11_tells_8 ?_
      refine lv_icmp_ge (tgt := 202) hx hb dX11_tells_11 (by decide) (fun c_11 => ?_) (fun c_11 => ?_)
      · replace HW := HW.1 c_11
        refine lv_aload_n hx hb dX11_tells_202 rfl (lv_at hl 0 rfl) ?_
        refine g_getr hx hb hw inG11 hown hK hG gl_135 rfl gk_135 (by decide) 8 (by decide) (by rw [gm_135]; decide) (r := 142) gr_135_8 lk29 dX11_tells_203 ?_
        refine lv_iconst (v := 0) hx hb dX11_tells_206 (by decide) ?_
        refine g_lald hx hb hK hG gl_142 gk_142 gn_142 HW.1 dX11_tells_207 ?_
        replace HW := HW.2
        exact W.lret (v := (g 142 (0 : Int32).toNatClampNeg)) hx hb hr (fun t ht hW => ⟨⟨(g 142 (0 : Int32).toNatClampNeg), (h, g), rfl, HW, g_B ht hG⟩, hG.2.2.F ht⟩) hG.2.2.2.2 dX11_tells_208
      · replace HW := HW.2 c_11
        refine lv_aload_n hx hb dX11_tells_14 rfl (lv_at hl 0 rfl) ?_
        refine g_getr hx hb hw inG11 hown hK hG gl_135 rfl gk_135 (by decide) 4 (by decide) (by rw [gm_135]; decide) (r := 139) gr_135_4 lk20 dX11_tells_15 ?_
        refine lv_iload hx hb dX11_tells_18 (lv_at hl 4 rfl) ?_
        refine g_iald hx hb hK hG gl_139 gk_139 gn_139 HW.1 dX11_tells_20 ?_
        replace HW := HW.2
        refine lv_topi (fun x5_21 ex5_21 => ?_)
        replace HW := HW x5_21 ex5_21
        refine lv_istore (lv' := [(5, .int x5_21), (0, .ref (ad 135)), (1, .int x1), (2, .int x2), (3, .int x3), (4, .int x4)]) hx hb dX11_tells_21 hl (by decide) rfl (fun ls hl => ?_)
        refine lv_iload hx hb dX11_tells_23 (lv_at hl 0 rfl) ?_
        refine lv_if_eq (tgt := 34) hx hb dX11_tells_25 (by decide) (fun c_25 => ?_) (fun c_25 => ?_)
        · replace HW := HW.1 c_25
          exact B34 K5 hK5 x1 x2 x3 x4 x5_21 h g _ _ _ HW hG (lv_sub hl [1, 2, 3, 4, 5, 0] rfl)
        · replace HW := HW.2 c_25
          refine lv_iload hx hb dX11_tells_28 (lv_at hl 0 rfl) ?_
          refine lv_iconst (v := 1) hx hb dX11_tells_30 (by decide) ?_
          refine lv_icmp_ne (tgt := 105) hx hb dX11_tells_31 (by decide) (fun c_31 => ?_) (fun c_31 => ?_)
          · replace HW := HW.1 c_31
            refine lv_iload hx hb dX11_tells_105 (lv_at hl 0 rfl) ?_
            refine lv_iconst (v := 3) hx hb dX11_tells_107 (by decide) ?_
            refine lv_icmp_ne (tgt := 131) hx hb dX11_tells_108 (by decide) (fun c_108 => ?_) (fun c_108 => ?_)
            · replace HW := HW.1 c_108
              refine lv_iload hx hb dX11_tells_131 (lv_at hl 0 rfl) ?_
              refine lv_iconst (v := 2) hx hb dX11_tells_133 (by decide) ?_
              refine lv_icmp_ne (tgt := 166) hx hb dX11_tells_134 (by decide) (fun c_134 => ?_) (fun c_134 => ?_)
              · replace HW := HW.1 c_134
                obtain ⟨x3_166, ex3_166⟩ : ∃ y : Int32, y = (x3 + (-1)) := ⟨_, rfl⟩
                replace HW := HW x3_166 ex3_166
                refine lv_iinc (v := x3_166) (lv' := [(3, .int x3_166), (5, .int x5_21), (0, .ref (ad 135)), (1, .int x1), (2, .int x2), (4, .int x4)]) hx hb dX11_tells_166 hl (k := 4) rfl (by rw [ex3_166]; rfl) (by decide) rfl (fun ls hl => ?_)
                refine lv_aload_n hx hb dX11_tells_169 rfl (lv_at hl 2 rfl) ?_
                refine g_getr hx hb hw inG11 hown hK hG gl_135 rfl gk_135 (by decide) 8 (by decide) (by rw [gm_135]; decide) (r := 142) gr_135_8 lk29 dX11_tells_170 ?_
                refine lv_iload_n hx hb dX11_tells_173 rfl (lv_at hl 0 rfl) ?_
                refine lv_iconst (v := 1) hx hb dX11_tells_174 (by decide) ?_
                refine lv_isub hx hb dX11_tells_175 ?_
                refine lv_iload hx hb dX11_tells_176 (lv_at hl 1 rfl) ?_
                refine lv_aload_n hx hb dX11_tells_178 rfl (lv_at hl 2 rfl) ?_
                refine g_getr hx hb hw inG11 hown hK hG gl_135 rfl gk_135 (by decide) 8 (by decide) (by rw [gm_135]; decide) (r := 142) gr_135_8 lk29 dX11_tells_179 ?_
                refine lv_iload_n hx hb dX11_tells_182 rfl (lv_at hl 0 rfl) ?_
                refine lv_iconst (v := 1) hx hb dX11_tells_183 (by decide) ?_
                refine lv_isub hx hb dX11_tells_184 ?_
                refine g_lald hx hb hK hG gl_142 gk_142 gn_142 HW.1 dX11_tells_185 ?_
                replace HW := HW.2
                refine lv_aload_n hx hb dX11_tells_186 rfl (lv_at hl 2 rfl) ?_
                refine g_getr hx hb hw inG11 hown hK hG gl_135 rfl gk_135 (by decide) 8 (by decide) (by rw [gm_135]; decide) (r := 142) gr_135_8 lk29 dX11_tells_187 ?_
                refine lv_iload_n hx hb dX11_tells_190 rfl (lv_at hl 0 rfl) ?_
                refine g_lald hx hb hK hG gl_142 gk_142 gn_142 HW.1 dX11_tells_191 ?_
                replace HW := HW.2
                obtain ⟨P_192, HC_192, HW⟩ := HW
                refine g_calll (g_runS (As := [.int x5_21, .long (g 142 (x3_166 - (1 : Int32)).toNatClampNeg), .long (g 142 x3_166.toNatClampNeg)]) (rest := [.int (x3_166 - (1 : Int32)), .ref (ad 142)]) ⟨hx, hb, hml, hown, hts⟩ (m_X11_twoOf l D cy ad h g H.size x5_21 (g 142 (x3_166 - (1 : Int32)).toNatClampNeg) (g 142 x3_166.toNatClampNeg) P_192 HC_192) (va_cwS 3 hts (gd_S (wm5 200 rfl rfl) (wm5 201 rfl rfl) (wm1 13 rfl rfl) (wm5 202 rfl rfl)) rfl rfl rfl (by decide +kernel) ⟨Nat.le_of_ble_eq_true rfl, Nat.le_of_ble_eq_true rfl⟩) hK hNw hG rfl rfl hl.1 rfl (lv_room (Nat.le_of_ble_eq_true rfl)) dX11_tells_192 ⟨Nat.zero_le _, Nat.zero_le _⟩) hG (fun r_192 h_192 g_192 H locs hq hG => ?_)
                replace HW := HW r_192 h_192 g_192 hq
                refine g_last hx hb hK hG gl_142 gk_142 gn_142 HW.1 dX11_tells_195 (fun H locs hG => ?_)
                replace HW := HW.2
                obtain ⟨g_195, eg_195⟩ : ∃ y : HL, y = hul g_192 142 (x3_166 - (1 : Int32)).toNatClampNeg r_192 := ⟨_, rfl⟩
                rw [← eg_195] at hG
                replace HW := HW g_195 eg_195
                exact B196 K5 hK5 x1 x2 x3_166 x4 h_192 g_195 _ _ _ HW hG (lv_sub hl [2, 3, 4, 0, 5] rfl)
              · replace HW := HW.2 c_134
                refine lv_aload_n hx hb dX11_tells_137 rfl (lv_at hl 1 rfl) ?_
                refine g_getr hx hb hw inG11 hown hK hG gl_135 rfl gk_135 (by decide) 8 (by decide) (by rw [gm_135]; decide) (r := 142) gr_135_8 lk29 dX11_tells_138 ?_
                refine lv_iload_n hx hb dX11_tells_141 rfl (lv_at hl 4 rfl) ?_
                refine lv_iconst (v := 1) hx hb dX11_tells_142 (by decide) ?_
                refine lv_isub hx hb dX11_tells_143 ?_
                refine lv_aload_n hx hb dX11_tells_144 rfl (lv_at hl 1 rfl) ?_
                refine g_getr hx hb hw inG11 hown hK hG gl_135 rfl gk_135 (by decide) 8 (by decide) (by rw [gm_135]; decide) (r := 142) gr_135_8 lk29 dX11_tells_145 ?_
                refine lv_iload_n hx hb dX11_tells_148 rfl (lv_at hl 4 rfl) ?_
                refine lv_iconst (v := 1) hx hb dX11_tells_149 (by decide) ?_
                refine lv_isub hx hb dX11_tells_150 ?_
                refine g_lald hx hb hK hG gl_142 gk_142 gn_142 HW.1 dX11_tells_151 ?_
                replace HW := HW.2
                refine lv_lconst (v := 0) hx hb dX11_tells_152 (by decide) ?_
                refine W.lcmp hx hb dX11_tells_153 ?_
                refine lv_if_ne (tgt := 161) hx hb dX11_tells_154 (by decide) (fun c_154 => ?_) (fun c_154 => ?_)
                · replace HW := HW.1 c_154
                  refine lv_lconst (v := 0) hx hb dX11_tells_161 (by decide) ?_
                  exact B162 K5 hK5 x1 x2 x3 x4 (x3 - (1 : Int32)) (0 : Int64) h g _ _ _ HW hG (lv_sub hl [1, 2, 3, 4, 5] rfl)
                · replace HW := HW.2 c_154
                  refine lv_lconst (v := 1) hx hb dX11_tells_157 (by decide) ?_
                  refine lv_goto (tgt := 162) hx hb dX11_tells_158 (by decide) ?_
                  exact B162 K5 hK5 x1 x2 x3 x4 (x3 - (1 : Int32)) (1 : Int64) h g _ _ _ HW hG (lv_sub hl [1, 2, 3, 4, 5] rfl)
            · replace HW := HW.2 c_108
              refine lv_aload_n hx hb dX11_tells_111 rfl (lv_at hl 1 rfl) ?_
              refine g_getr hx hb hw inG11 hown hK hG gl_135 rfl gk_135 (by decide) 8 (by decide) (by rw [gm_135]; decide) (r := 142) gr_135_8 lk29 dX11_tells_112 ?_
              refine lv_iload_n hx hb dX11_tells_115 rfl (lv_at hl 4 rfl) ?_
              refine lv_iconst (v := 1) hx hb dX11_tells_116 (by decide) ?_
              refine lv_isub hx hb dX11_tells_117 ?_
              refine lv_aload_n hx hb dX11_tells_118 rfl (lv_at hl 1 rfl) ?_
              refine g_getr hx hb hw inG11 hown hK hG gl_135 rfl gk_135 (by decide) 8 (by decide) (by rw [gm_135]; decide) (r := 142) gr_135_8 lk29 dX11_tells_119 ?_
              refine lv_iload_n hx hb dX11_tells_122 rfl (lv_at hl 4 rfl) ?_
              refine lv_iconst (v := 1) hx hb dX11_tells_123 (by decide) ?_
              refine lv_isub hx hb dX11_tells_124 ?_
              refine g_lald hx hb hK hG gl_142 gk_142 gn_142 HW.1 dX11_tells_125 ?_
              replace HW := HW.2
              refine lv_lneg hx hb dX11_tells_126 ?_
              refine g_last hx hb hK hG gl_142 gk_142 gn_142 HW.1 dX11_tells_127 (fun H locs hG => ?_)
              replace HW := HW.2
              obtain ⟨g_127, eg_127⟩ : ∃ y : HL, y = hul g 142 (x3 - (1 : Int32)).toNatClampNeg (-(g 142 (x3 - (1 : Int32)).toNatClampNeg)) := ⟨_, rfl⟩
              rw [← eg_127] at hG
              replace HW := HW g_127 eg_127
              refine lv_goto (tgt := 196) hx hb dX11_tells_128 (by decide) ?_
              exact B196 K5 hK5 x1 x2 x3 x4 h g_127 _ _ _ HW hG (lv_sub hl [1, 2, 3, 4, 5] rfl)
          · replace HW := HW.2 c_31
            exact B34 K5 hK5 x1 x2 x3 x4 x5_21 h g _ _ _ HW hG (lv_sub hl [1, 2, 3, 4, 5, 0] rfl)
  have E0 : ∀ (H : Heap) (locs : List Loc) (ls : Array Slot), gG D cy ad (gA ad s.heap.size) s.heap h g H locs → lv_has ls 6 [(0, .ref (ad 135)), (1, .int x1), (2, .int x2)] → W p l e ({ frames := 1, cells := 0, slots := 0, locals := 24 } : Room) s m args below meth c H locs 0 0 (MQ below (va_Ql (fun (r : Int64) (u : HI × HL) => Q r u.1 u.2) (gB D cy ad s.heap.size) (gA ad s.heap.size)) args s 0 0 (gA ad s.heap.size)) (F0 m 0 ls []) := by
    intro H locs ls hG hl
    unfold w_X11_tells at HW
    refine lv_iconst (v := 0) hx hb dX11_tells_0 (by decide) ?_
    refine lv_istore_n (lv' := [(3, .int (0 : Int32)), (0, .ref (ad 135)), (1, .int x1), (2, .int x2)]) hx hb dX11_tells_1 rfl hl (by decide) rfl (fun ls hl => ?_)
    refine lv_iconst (v := 0) hx hb dX11_tells_2 (by decide) ?_
    refine lv_istore (lv' := [(4, .int (0 : Int32)), (3, .int (0 : Int32)), (0, .ref (ad 135)), (1, .int x1), (2, .int x2)]) hx hb dX11_tells_3 hl (by decide) rfl (fun ls hl => ?_)
    obtain ⟨n_5, HW⟩ := HW
    exact L5 n_5 x1 x2 (0 : Int32) (0 : Int32) h g _ _ _ HW hG (lv_sub hl [2, 3, 4, 1, 0] rfl)
  exact E0 _ _ _ hG hl

def j_X11_wornOf_42 (Q : Int32 → HI → HL → Prop) (s0 : Int64) (h : HI) (g : HL) : Prop :=
  ((0 ≤ (lg_cmp s0 (0 : Int64)) → (((lg_cmp s0 (10000 : Int64)) ≤ 0 → Q ((s0).toInt32) h g) ∧ (¬ (lg_cmp s0 (10000 : Int64)) ≤ 0 → Q (10000 : Int32) h g))) ∧ (¬ 0 ≤ (lg_cmp s0 (0 : Int64)) → Q (0 : Int32) h g))
def j_X11_wornOf_22 (Q : Int32 → HI → HL → Prop) (x1 : Int32) (s0 : Int32) (h : HI) (g : HL) : Prop :=
  (∃ P_24 : Int32 → HI → HL → Prop, w_X11_reads h g P_24 ∧ ∀ (r_24 : Int32) (h_24 : HI) (g_24 : HL), P_24 r_24 h_24 g_24 → ((¬ r_24 = (-1 : Int32) → j_X11_wornOf_42 Q ((s0).toInt64) h_24 g_24) ∧ (r_24 = (-1 : Int32) → (∃ P_34 : Int64 → HI → HL → Prop, w_X11_tells x1 s0 h_24 g_24 P_34 ∧ ∀ (r_34 : Int64) (h_34 : HI) (g_34 : HL), P_34 r_34 h_34 g_34 → j_X11_wornOf_42 Q r_34 h_34 g_34))))
def w_X11_wornOf (x1 : Int32) (x2 : Int32) (h : HI) (g : HL) (Q : Int32 → HI → HL → Prop) : Prop :=
  (∃ P_4 : Int32 → HI → HL → Prop, w_X11_partOf x1 (2 : Int32) h g P_4 ∧ ∀ (r_4 : Int32) (h_4 : HI) (g_4 : HL), P_4 r_4 h_4 g_4 → ((r_4 ≤ x2 → (∃ P_18 : Int32 → HI → HL → Prop, w_X11_partOf x1 (2 : Int32) h_4 g_4 P_18 ∧ ∀ (r_18 : Int32) (h_18 : HI) (g_18 : HL), P_18 r_18 h_18 g_18 → j_X11_wornOf_22 Q x1 (x2 - r_18) h_18 g_18)) ∧ (¬ r_4 ≤ x2 → j_X11_wornOf_22 Q x1 (0 : Int32) h_4 g_4)))
set_option maxHeartbeats 8000000 in
set_option maxRecDepth 100000 in
theorem m_X11_wornOf (l : Launch) (D : va_G) (cy : Nat → ClassId) (ad : Nat → Nat) (h : HI) (g : HL) (sz : Nat) (x1 : Int32) (x2 : Int32) (Q : Int32 → HI → HL → Prop) (HW : w_X11_wornOf x1 x2 h g Q) : Met l yX11_wornOf (wa yX11_wornOf cX11_wornOf 6 (some .int)) ({ frames := 4, cells := 0, slots := 0, locals := 92 }) (va_Pc [.ref (ad 135), .int x1, .int x2] (gI D cy ad h g sz)) (va_Qi (fun (r : Int32) (u : HI × HL) => Q r u.1 u.2) (gB D cy ad sz) (gA ad sz)) 0 0 (gA ad sz) := by
  refine Met.ofW (cc := cX11_wornOf) (maxL := 6) (ret := (some .int)) (by decide) rfl ?_
  intro p e s m args below meth c s₁ B hml hv
  obtain ⟨hav, hsz, hP, hK, hD0, hNw⟩ := hv
  have hx := B.exec
  have hb := B.bytes
  have hr := B.returns
  have hts := atoms_spec (ws := (wa yX11_wornOf cX11_wornOf 6 (some .int))) B.pre
  have hw := wa_hw hts
  have hown : s.vm.findClass RX11 = some m.cls := findClass_of_methodNamed B.named
  have hlocks := B.notSynchronized
  subst hsz
  have hG : gG D cy ad (gA ad s.heap.size) s.heap h g s.heap [] := ⟨hP, gA_self hD0, va_S.rf⟩
  clear hP hD0
  have cn128 := hw (.constantLong RX11 128 (10000)) (wm5 203 rfl rfl)
  rw [show (headSpec (wa yX11_wornOf cX11_wornOf 6 (some .int)) ({ frames := 4, cells := 0, slots := 0, locals := 92 } : Room)).room = ({ frames := 4, cells := 0, slots := 0, locals := 92 } : Room) from rfl]
  have hl := lv_entry ([.ref (ad 135), .int x1, .int x2]) (n := 6) (Nat.le_of_ble_eq_true rfl)
  rw [show entryFrame m args 6 = entryFrame m ([.ref (ad 135), .int x1, .int x2] : List Value).toArray 6 from by rw [hav], lg_entry_eq]
  generalize (lg_sl ([.ref (ad 135), .int x1, .int x2]) ++ List.replicate (6 - (lg_sl ([.ref (ad 135), .int x1, .int x2])).length) Slot.unset).toArray = ls at hl ⊢
  have hl : lv_has ls 6 [(0, .ref (ad 135)), (1, .int x1), (2, .int x2)] := hl
  have B42 : ∀ (s0 : Int64) (h : HI) (g : HL) (H : Heap) (locs : List Loc) (ls : Array Slot), j_X11_wornOf_42 Q s0 h g → gG D cy ad (gA ad s.heap.size) s.heap h g H locs → lv_has ls 6 [] → W p l e ({ frames := 4, cells := 0, slots := 0, locals := 92 } : Room) s m args below meth c H locs 0 0 (MQ below (va_Qi (fun (r : Int32) (u : HI × HL) => Q r u.1 u.2) (gB D cy ad s.heap.size) (gA ad s.heap.size)) args s 0 0 (gA ad s.heap.size)) (F0 m 42 ls [.long s0]) := by
    intro s0 h g H locs ls HW hG hl
    unfold j_X11_wornOf_42 at HW
    refine lv_lstore (lv' := [(4, .long s0)]) hx hb dX11_wornOf_42 hl (by decide) rfl (fun ls hl => ?_)
    refine lv_lload hx hb dX11_wornOf_44 (lv_at hl 0 rfl) ?_
    refine lv_lconst (v := 0) hx hb dX11_wornOf_46 (by decide) ?_
    refine W.lcmp hx hb dX11_wornOf_47 ?_
    refine lv_if_ge (tgt := 55) hx hb dX11_wornOf_48 (by decide) (fun c_48 => ?_) (fun c_48 => ?_)
    · replace HW := HW.1 c_48
      refine lv_lload hx hb dX11_wornOf_55 (lv_at hl 0 rfl) ?_
      refine lv_ldc2 (v := 10000) hx hb hown cn128 dX11_wornOf_57 ?_
      refine W.lcmp hx hb dX11_wornOf_60 ?_
      refine lv_if_le (tgt := 70) hx hb dX11_wornOf_61 (by decide) (fun c_61 => ?_) (fun c_61 => ?_)
      · replace HW := HW.1 c_61
        refine lv_lload hx hb dX11_wornOf_70 (lv_at hl 0 rfl) ?_
        refine lv_l2i hx hb dX11_wornOf_72 rfl ?_
        exact W.iret (v := ((s0).toInt32)) hx hb hr (fun t ht hW => ⟨⟨((s0).toInt32), (h, g), rfl, HW, g_B ht hG⟩, hG.2.2.F ht⟩) hG.2.2.2.2 dX11_wornOf_73
      · replace HW := HW.2 c_61
        refine lv_sipush (v := 10000) hx hb dX11_wornOf_64 (by decide) ?_
        refine lv_goto (tgt := 73) hx hb dX11_wornOf_67 (by decide) ?_
        exact W.iret (v := (10000 : Int32)) hx hb hr (fun t ht hW => ⟨⟨(10000 : Int32), (h, g), rfl, HW, g_B ht hG⟩, hG.2.2.F ht⟩) hG.2.2.2.2 dX11_wornOf_73
    · replace HW := HW.2 c_48
      refine lv_iconst (v := 0) hx hb dX11_wornOf_51 (by decide) ?_
      refine lv_goto (tgt := 73) hx hb dX11_wornOf_52 (by decide) ?_
      exact W.iret (v := (0 : Int32)) hx hb hr (fun t ht hW => ⟨⟨(0 : Int32), (h, g), rfl, HW, g_B ht hG⟩, hG.2.2.F ht⟩) hG.2.2.2.2 dX11_wornOf_73
  have B22 : ∀ (x1 : Int32) (s0 : Int32) (h : HI) (g : HL) (H : Heap) (locs : List Loc) (ls : Array Slot), j_X11_wornOf_22 Q x1 s0 h g → gG D cy ad (gA ad s.heap.size) s.heap h g H locs → lv_has ls 6 [(0, .ref (ad 135)), (1, .int x1)] → W p l e ({ frames := 4, cells := 0, slots := 0, locals := 92 } : Room) s m args below meth c H locs 0 0 (MQ below (va_Qi (fun (r : Int32) (u : HI × HL) => Q r u.1 u.2) (gB D cy ad s.heap.size) (gA ad s.heap.size)) args s 0 0 (gA ad s.heap.size)) (F0 m 22 ls [.int s0]) := by
    intro x1 s0 h g H locs ls HW hG hl
    unfold j_X11_wornOf_22 at HW
    refine lv_istore_n (lv' := [(3, .int s0), (0, .ref (ad 135)), (1, .int x1)]) hx hb dX11_wornOf_22 rfl hl (by decide) rfl (fun ls hl => ?_)
    refine lv_aload_n hx hb dX11_wornOf_23 rfl (lv_at hl 1 rfl) ?_
    obtain ⟨P_24, HC_24, HW⟩ := HW
    refine g_calli (g_runV (As := []) (rest := []) ⟨hx, hb, hml, hown, hts⟩ (m_X11_reads l D cy ad h g H.size  P_24 HC_24) (cwV 0 hts (gd_V (wm5 149 rfl rfl) (wm5 151 rfl rfl) (wmp3 (q := (yX11_reads, 26)) 9 rfl) (wm1 13 rfl rfl) (wm5 152 rfl rfl)) rfl rfl rfl (by decide +kernel) ⟨Nat.le_of_ble_eq_true rfl, Nat.le_of_ble_eq_true rfl⟩) hK hNw hG gl_135 rfl gk_135 (by decide) rfl rfl hl.1 rfl (lv_room (Nat.le_of_ble_eq_true rfl)) dX11_wornOf_24 ⟨Nat.zero_le _, Nat.zero_le _⟩) hG (fun r_24 h_24 g_24 H locs hq hG => ?_)
    replace HW := HW r_24 h_24 g_24 hq
    refine lv_iconst (v := (-1)) hx hb dX11_wornOf_27 (by decide) ?_
    refine lv_icmp_ne (tgt := 40) hx hb dX11_wornOf_28 (by decide) (fun c_28 => ?_) (fun c_28 => ?_)
    · replace HW := HW.1 c_28
      refine lv_iload_n hx hb dX11_wornOf_40 rfl (lv_at hl 0 rfl) ?_
      refine lv_i2l hx hb dX11_wornOf_41 rfl ?_
      exact B42 ((s0).toInt64) h_24 g_24 _ _ _ HW hG (lv_sub hl [] rfl)
    · replace HW := HW.2 c_28
      refine lv_aload_n hx hb dX11_wornOf_31 rfl (lv_at hl 1 rfl) ?_
      refine lv_iload_n hx hb dX11_wornOf_32 rfl (lv_at hl 2 rfl) ?_
      refine lv_iload_n hx hb dX11_wornOf_33 rfl (lv_at hl 0 rfl) ?_
      obtain ⟨P_34, HC_34, HW⟩ := HW
      refine g_calll (g_runV (As := [.int x1, .int s0]) (rest := []) ⟨hx, hb, hml, hown, hts⟩ (m_X11_tells l D cy ad h_24 g_24 H.size x1 s0 P_34 HC_34) (cwV 2 hts (gd_V (wm5 196 rfl rfl) (wm5 198 rfl rfl) (wmp4 (q := (yX11_tells, 26)) 1 rfl) (wm1 13 rfl rfl) (wm5 199 rfl rfl)) rfl rfl rfl (by decide +kernel) ⟨Nat.le_of_ble_eq_true rfl, Nat.le_of_ble_eq_true rfl⟩) hK hNw hG gl_135 rfl gk_135 (by decide) rfl rfl hl.1 rfl (lv_room (Nat.le_of_ble_eq_true rfl)) dX11_wornOf_34 ⟨Nat.zero_le _, Nat.zero_le _⟩) hG (fun r_34 h_34 g_34 H locs hq hG => ?_)
      replace HW := HW r_34 h_34 g_34 hq
      refine lv_goto (tgt := 42) hx hb dX11_wornOf_37 (by decide) ?_
      exact B42 r_34 h_34 g_34 _ _ _ HW hG (lv_sub hl [] rfl)
  have E0 : ∀ (H : Heap) (locs : List Loc) (ls : Array Slot), gG D cy ad (gA ad s.heap.size) s.heap h g H locs → lv_has ls 6 [(0, .ref (ad 135)), (1, .int x1), (2, .int x2)] → W p l e ({ frames := 4, cells := 0, slots := 0, locals := 92 } : Room) s m args below meth c H locs 0 0 (MQ below (va_Qi (fun (r : Int32) (u : HI × HL) => Q r u.1 u.2) (gB D cy ad s.heap.size) (gA ad s.heap.size)) args s 0 0 (gA ad s.heap.size)) (F0 m 0 ls []) := by
    intro H locs ls hG hl
    unfold w_X11_wornOf at HW
    refine lv_iload_n hx hb dX11_wornOf_0 rfl (lv_at hl 2 rfl) ?_
    refine lv_aload_n hx hb dX11_wornOf_1 rfl (lv_at hl 0 rfl) ?_
    refine lv_iload_n hx hb dX11_wornOf_2 rfl (lv_at hl 1 rfl) ?_
    refine lv_iconst (v := 2) hx hb dX11_wornOf_3 (by decide) ?_
    obtain ⟨P_4, HC_4, HW⟩ := HW
    refine g_calli (g_runV (As := [.int x1, .int (2 : Int32)]) (rest := [.int x2]) ⟨hx, hb, hml, hown, hts⟩ (m_X11_partOf l D cy ad h g H.size x1 (2 : Int32) P_4 HC_4) (cwV 2 hts (gd_V (wm5 192 rfl rfl) (wm5 194 rfl rfl) (wmp4 (q := (yX11_partOf, 26)) 0 rfl) (wm1 13 rfl rfl) (wm5 195 rfl rfl)) rfl rfl rfl (by decide +kernel) ⟨Nat.le_of_ble_eq_true rfl, Nat.le_of_ble_eq_true rfl⟩) hK hNw hG gl_135 rfl gk_135 (by decide) rfl rfl hl.1 rfl (lv_room (Nat.le_of_ble_eq_true rfl)) dX11_wornOf_4 ⟨Nat.zero_le _, Nat.zero_le _⟩) hG (fun r_4 h_4 g_4 H locs hq hG => ?_)
    replace HW := HW r_4 h_4 g_4 hq
    refine lv_icmp_ge (tgt := 14) hx hb dX11_wornOf_7 (by decide) (fun c_7 => ?_) (fun c_7 => ?_)
    · replace HW := HW.1 c_7
      refine lv_iload_n hx hb dX11_wornOf_14 rfl (lv_at hl 2 rfl) ?_
      refine lv_aload_n hx hb dX11_wornOf_15 rfl (lv_at hl 0 rfl) ?_
      refine lv_iload_n hx hb dX11_wornOf_16 rfl (lv_at hl 1 rfl) ?_
      refine lv_iconst (v := 2) hx hb dX11_wornOf_17 (by decide) ?_
      obtain ⟨P_18, HC_18, HW⟩ := HW
      refine g_calli (g_runV (As := [.int x1, .int (2 : Int32)]) (rest := [.int x2]) ⟨hx, hb, hml, hown, hts⟩ (m_X11_partOf l D cy ad h_4 g_4 H.size x1 (2 : Int32) P_18 HC_18) (cwV 2 hts (gd_V (wm5 192 rfl rfl) (wm5 194 rfl rfl) (wmp4 (q := (yX11_partOf, 26)) 0 rfl) (wm1 13 rfl rfl) (wm5 195 rfl rfl)) rfl rfl rfl (by decide +kernel) ⟨Nat.le_of_ble_eq_true rfl, Nat.le_of_ble_eq_true rfl⟩) hK hNw hG gl_135 rfl gk_135 (by decide) rfl rfl hl.1 rfl (lv_room (Nat.le_of_ble_eq_true rfl)) dX11_wornOf_18 ⟨Nat.zero_le _, Nat.zero_le _⟩) hG (fun r_18 h_18 g_18 H locs hq hG => ?_)
      replace HW := HW r_18 h_18 g_18 hq
      refine lv_isub hx hb dX11_wornOf_21 ?_
      exact B22 x1 (x2 - r_18) h_18 g_18 _ _ _ HW hG (lv_sub hl [0, 1] rfl)
    · replace HW := HW.2 c_7
      refine lv_iconst (v := 0) hx hb dX11_wornOf_10 (by decide) ?_
      refine lv_goto (tgt := 22) hx hb dX11_wornOf_11 (by decide) ?_
      exact B22 x1 (0 : Int32) h_4 g_4 _ _ _ HW hG (lv_sub hl [0, 1] rfl)
  exact E0 _ _ _ hG hl

def w_X11_write (x1 : Int32) (h : HI) (g : HL) (Q : Int32 → HI → HL → Prop) : Prop :=
  (∃ P_6 : Int32 → HI → HL → Prop, w_X11_in ((x1).toInt64) (0 : Int64) (127 : Int64) h g P_6 ∧ ∀ (r_6 : Int32) (h_6 : HI) (g_6 : HL), zb r_6 → P_6 r_6 h_6 g_6 → ((¬ r_6 = 0 → (vp_in (8 : Int32) 887 ∧ ((¬ (h_6 136 (8 : Int32).toNatClampNeg) = (60 : Int32) → (vp_in (8 : Int32) 887 ∧ (vp_in ((827 : Int32) + (h_6 136 (8 : Int32).toNatClampNeg)) 887 ∧ ∀ h_46 : HI, h_46 = hu h_6 136 ((827 : Int32) + (h_6 136 (8 : Int32).toNatClampNeg)).toNatClampNeg x1 → (∃ P_50 : Int32 → HI → HL → Prop, w_X11_one (8 : Int32) h_46 g_6 P_50 ∧ ∀ (r_50 : Int32) (h_50 : HI) (g_50 : HL), P_50 r_50 h_50 g_50 → Q (r_50 + (1 : Int32)) h_50 g_50)))) ∧ ((h_6 136 (8 : Int32).toNatClampNeg) = (60 : Int32) → Q (-4 : Int32) h_6 g_6)))) ∧ (r_6 = 0 → Q (-2 : Int32) h_6 g_6)))
set_option maxHeartbeats 8000000 in
set_option maxRecDepth 100000 in
theorem m_X11_write (l : Launch) (D : va_G) (cy : Nat → ClassId) (ad : Nat → Nat) (h : HI) (g : HL) (sz : Nat) (x1 : Int32) (Q : Int32 → HI → HL → Prop) (HW : w_X11_write x1 h g Q) : Met l yX11_write (wa yX11_write cX11_write 2 (some .int)) ({ frames := 1, cells := 0, slots := 0, locals := 25 }) (va_Pc [.ref (ad 135), .int x1] (gI D cy ad h g sz)) (va_Qi (fun (r : Int32) (u : HI × HL) => Q r u.1 u.2) (gB D cy ad sz) (gA ad sz)) 0 0 (gA ad sz) := by
  refine Met.ofW (cc := cX11_write) (maxL := 2) (ret := (some .int)) (by decide) rfl ?_
  intro p e s m args below meth c s₁ B hml hv
  obtain ⟨hav, hsz, hP, hK, hD0, hNw⟩ := hv
  have hx := B.exec
  have hb := B.bytes
  have hr := B.returns
  have hts := atoms_spec (ws := (wa yX11_write cX11_write 2 (some .int))) B.pre
  have hw := wa_hw hts
  have hown : s.vm.findClass RX11 = some m.cls := findClass_of_methodNamed B.named
  have hlocks := B.notSynchronized
  subst hsz
  have hG : gG D cy ad (gA ad s.heap.size) s.heap h g s.heap [] := ⟨hP, gA_self hD0, va_S.rf⟩
  clear hP hD0
  have cn130 := hw (.constantLong RX11 130 (127)) (wm5 136 rfl rfl)
  have lk7 := hw (.fieldLink RX11 7 "OldWorksModel" "st" "[I") (wm5 27 rfl rfl)
  rw [show (headSpec (wa yX11_write cX11_write 2 (some .int)) ({ frames := 1, cells := 0, slots := 0, locals := 25 } : Room)).room = ({ frames := 1, cells := 0, slots := 0, locals := 25 } : Room) from rfl]
  have hl := lv_entry ([.ref (ad 135), .int x1]) (n := 2) (Nat.le_of_ble_eq_true rfl)
  rw [show entryFrame m args 2 = entryFrame m ([.ref (ad 135), .int x1] : List Value).toArray 2 from by rw [hav], lg_entry_eq]
  generalize (lg_sl ([.ref (ad 135), .int x1]) ++ List.replicate (2 - (lg_sl ([.ref (ad 135), .int x1])).length) Slot.unset).toArray = ls at hl ⊢
  have hl : lv_has ls 2 [(0, .ref (ad 135)), (1, .int x1)] := hl
  have E0 : ∀ (H : Heap) (locs : List Loc) (ls : Array Slot), gG D cy ad (gA ad s.heap.size) s.heap h g H locs → lv_has ls 2 [(0, .ref (ad 135)), (1, .int x1)] → W p l e ({ frames := 1, cells := 0, slots := 0, locals := 25 } : Room) s m args below meth c H locs 0 0 (MQ below (va_Qi (fun (r : Int32) (u : HI × HL) => Q r u.1 u.2) (gB D cy ad s.heap.size) (gA ad s.heap.size)) args s 0 0 (gA ad s.heap.size)) (F0 m 0 ls []) := by
    intro H locs ls hG hl
    unfold w_X11_write at HW
    refine lv_iload_n hx hb dX11_write_0 rfl (lv_at hl 1 rfl) ?_
    refine lv_i2l hx hb dX11_write_1 rfl ?_
    refine lv_lconst (v := 0) hx hb dX11_write_2 (by decide) ?_
    refine lv_ldc2 (v := 127) hx hb hown cn130 dX11_write_3 ?_
    obtain ⟨P_6, HC_6, HW⟩ := HW
    refine g_callz (g_runS (As := [.long ((x1).toInt64), .long (0 : Int64), .long (127 : Int64)]) (rest := []) ⟨hx, hb, hml, hown, hts⟩ (m_X11_in l D cy ad h g H.size ((x1).toInt64) (0 : Int64) (127 : Int64) P_6 HC_6) (va_cwS 3 hts (gd_S (wm5 111 rfl rfl) (wm5 112 rfl rfl) (wm1 13 rfl rfl) (wm5 113 rfl rfl)) rfl rfl rfl (by decide +kernel) ⟨Nat.le_of_ble_eq_true rfl, Nat.le_of_ble_eq_true rfl⟩) hK hNw hG rfl rfl hl.1 rfl (lv_room (Nat.le_of_ble_eq_true rfl)) dX11_write_6 ⟨Nat.zero_le _, Nat.zero_le _⟩) hG (fun r_6 h_6 g_6 H locs hz hq hG => ?_)
    replace HW := HW r_6 h_6 g_6 hz hq
    refine lv_if_ne (tgt := 15) hx hb dX11_write_9 (by decide) (fun c_9 => ?_) (fun c_9 => ?_)
    · replace HW := HW.1 c_9
      refine lv_aload_n hx hb dX11_write_15 rfl (lv_at hl 0 rfl) ?_
      refine g_getr hx hb hw inG11 hown hK hG gl_135 rfl gk_135 (by decide) 0 (by decide) (by rw [gm_135]; decide) (r := 136) gr_135_0 lk7 dX11_write_16 ?_
      refine lv_bipush (v := 8) hx hb dX11_write_19 (by decide) ?_
      refine g_iald hx hb hK hG gl_136 gk_136 gn_136 HW.1 dX11_write_21 ?_
      replace HW := HW.2
      refine lv_bipush (v := 60) hx hb dX11_write_22 (by decide) ?_
      refine lv_icmp_ne (tgt := 30) hx hb dX11_write_24 (by decide) (fun c_24 => ?_) (fun c_24 => ?_)
      · replace HW := HW.1 c_24
        refine lv_aload_n hx hb dX11_write_30 rfl (lv_at hl 0 rfl) ?_
        refine g_getr hx hb hw inG11 hown hK hG gl_135 rfl gk_135 (by decide) 0 (by decide) (by rw [gm_135]; decide) (r := 136) gr_135_0 lk7 dX11_write_31 ?_
        refine lv_sipush (v := 827) hx hb dX11_write_34 (by decide) ?_
        refine lv_aload_n hx hb dX11_write_37 rfl (lv_at hl 0 rfl) ?_
        refine g_getr hx hb hw inG11 hown hK hG gl_135 rfl gk_135 (by decide) 0 (by decide) (by rw [gm_135]; decide) (r := 136) gr_135_0 lk7 dX11_write_38 ?_
        refine lv_bipush (v := 8) hx hb dX11_write_41 (by decide) ?_
        refine g_iald hx hb hK hG gl_136 gk_136 gn_136 HW.1 dX11_write_43 ?_
        replace HW := HW.2
        refine lv_iadd hx hb dX11_write_44 ?_
        refine lv_iload_n hx hb dX11_write_45 rfl (lv_at hl 1 rfl) ?_
        refine g_iast hx hb hK hG gl_136 gk_136 gn_136 HW.1 dX11_write_46 (fun H locs hG => ?_)
        replace HW := HW.2
        obtain ⟨h_46, eh_46⟩ : ∃ y : HI, y = hu h_6 136 ((827 : Int32) + (h_6 136 (8 : Int32).toNatClampNeg)).toNatClampNeg x1 := ⟨_, rfl⟩
        rw [← eh_46] at hG
        replace HW := HW h_46 eh_46
        refine lv_aload_n hx hb dX11_write_47 rfl (lv_at hl 0 rfl) ?_
        refine lv_bipush (v := 8) hx hb dX11_write_48 (by decide) ?_
        obtain ⟨P_50, HC_50, HW⟩ := HW
        refine g_calli (g_runV (As := [.int (8 : Int32)]) (rest := []) ⟨hx, hb, hml, hown, hts⟩ (m_X11_one l D cy ad h_46 g_6 H.size (8 : Int32) P_50 HC_50) (cwV 1 hts (gd_V (wm5 120 rfl rfl) (wm5 122 rfl rfl) (wmp3 (q := (yX11_one, 26)) 7 rfl) (wm1 13 rfl rfl) (wm5 123 rfl rfl)) rfl rfl rfl (by decide +kernel) ⟨Nat.le_of_ble_eq_true rfl, Nat.le_of_ble_eq_true rfl⟩) hK hNw hG gl_135 rfl gk_135 (by decide) rfl rfl hl.1 rfl (lv_room (Nat.le_of_ble_eq_true rfl)) dX11_write_50 ⟨Nat.zero_le _, Nat.zero_le _⟩) hG (fun r_50 h_50 g_50 H locs hq hG => ?_)
        replace HW := HW r_50 h_50 g_50 hq
        refine lv_iconst (v := 1) hx hb dX11_write_53 (by decide) ?_
        refine lv_iadd hx hb dX11_write_54 ?_
        exact W.iret (v := (r_50 + (1 : Int32))) hx hb hr (fun t ht hW => ⟨⟨(r_50 + (1 : Int32)), (h_50, g_50), rfl, HW, g_B ht hG⟩, hG.2.2.F ht⟩) hG.2.2.2.2 dX11_write_55
      · replace HW := HW.2 c_24
        refine lv_bipush (v := (-4)) hx hb dX11_write_27 (by decide) ?_
        exact W.iret (v := (-4 : Int32)) hx hb hr (fun t ht hW => ⟨⟨(-4 : Int32), (h_6, g_6), rfl, HW, g_B ht hG⟩, hG.2.2.F ht⟩) hG.2.2.2.2 dX11_write_29
    · replace HW := HW.2 c_9
      refine lv_bipush (v := (-2)) hx hb dX11_write_12 (by decide) ?_
      exact W.iret (v := (-2 : Int32)) hx hb hr (fun t ht hW => ⟨⟨(-2 : Int32), (h_6, g_6), rfl, HW, g_B ht hG⟩, hG.2.2.F ht⟩) hG.2.2.2.2 dX11_write_14
  exact E0 _ _ _ hG hl

def w_X11_erase  (h : HI) (g : HL) (Q : Int32 → HI → HL → Prop) : Prop :=
  (∃ P_4 : Int32 → HI → HL → Prop, w_X11_puts (8 : Int32) (0 : Int32) h g P_4 ∧ ∀ (r_4 : Int32) (h_4 : HI) (g_4 : HL), P_4 r_4 h_4 g_4 → Q r_4 h_4 g_4)
set_option maxHeartbeats 8000000 in
set_option maxRecDepth 100000 in
theorem m_X11_erase (l : Launch) (D : va_G) (cy : Nat → ClassId) (ad : Nat → Nat) (h : HI) (g : HL) (sz : Nat)  (Q : Int32 → HI → HL → Prop) (HW : w_X11_erase h g Q) : Met l yX11_erase (wa yX11_erase cX11_erase 1 (some .int)) ({ frames := 1, cells := 0, slots := 0, locals := 23 }) (va_Pc [.ref (ad 135)] (gI D cy ad h g sz)) (va_Qi (fun (r : Int32) (u : HI × HL) => Q r u.1 u.2) (gB D cy ad sz) (gA ad sz)) 0 0 (gA ad sz) := by
  refine Met.ofW (cc := cX11_erase) (maxL := 1) (ret := (some .int)) (by decide) rfl ?_
  intro p e s m args below meth c s₁ B hml hv
  obtain ⟨hav, hsz, hP, hK, hD0, hNw⟩ := hv
  have hx := B.exec
  have hb := B.bytes
  have hr := B.returns
  have hts := atoms_spec (ws := (wa yX11_erase cX11_erase 1 (some .int))) B.pre
  have hw := wa_hw hts
  have hown : s.vm.findClass RX11 = some m.cls := findClass_of_methodNamed B.named
  have hlocks := B.notSynchronized
  subst hsz
  have hG : gG D cy ad (gA ad s.heap.size) s.heap h g s.heap [] := ⟨hP, gA_self hD0, va_S.rf⟩
  clear hP hD0
  rw [show (headSpec (wa yX11_erase cX11_erase 1 (some .int)) ({ frames := 1, cells := 0, slots := 0, locals := 23 } : Room)).room = ({ frames := 1, cells := 0, slots := 0, locals := 23 } : Room) from rfl]
  have hl := lv_entry ([.ref (ad 135)]) (n := 1) (Nat.le_of_ble_eq_true rfl)
  rw [show entryFrame m args 1 = entryFrame m ([.ref (ad 135)] : List Value).toArray 1 from by rw [hav], lg_entry_eq]
  generalize (lg_sl ([.ref (ad 135)]) ++ List.replicate (1 - (lg_sl ([.ref (ad 135)])).length) Slot.unset).toArray = ls at hl ⊢
  have hl : lv_has ls 1 [(0, .ref (ad 135))] := hl
  have E0 : ∀ (H : Heap) (locs : List Loc) (ls : Array Slot), gG D cy ad (gA ad s.heap.size) s.heap h g H locs → lv_has ls 1 [(0, .ref (ad 135))] → W p l e ({ frames := 1, cells := 0, slots := 0, locals := 23 } : Room) s m args below meth c H locs 0 0 (MQ below (va_Qi (fun (r : Int32) (u : HI × HL) => Q r u.1 u.2) (gB D cy ad s.heap.size) (gA ad s.heap.size)) args s 0 0 (gA ad s.heap.size)) (F0 m 0 ls []) := by
    intro H locs ls hG hl
    unfold w_X11_erase at HW
    refine lv_aload_n hx hb dX11_erase_0 rfl (lv_at hl 0 rfl) ?_
    refine lv_bipush (v := 8) hx hb dX11_erase_1 (by decide) ?_
    refine lv_iconst (v := 0) hx hb dX11_erase_3 (by decide) ?_
    obtain ⟨P_4, HC_4, HW⟩ := HW
    refine g_calli (g_runV (As := [.int (8 : Int32), .int (0 : Int32)]) (rest := []) ⟨hx, hb, hml, hown, hts⟩ (m_X11_puts l D cy ad h g H.size (8 : Int32) (0 : Int32) P_4 HC_4) (cwV 2 hts (gd_V (wm5 141 rfl rfl) (wm5 143 rfl rfl) (wmp3 (q := (yX11_puts, 26)) 8 rfl) (wm1 13 rfl rfl) (wm5 144 rfl rfl)) rfl rfl rfl (by decide +kernel) ⟨Nat.le_of_ble_eq_true rfl, Nat.le_of_ble_eq_true rfl⟩) hK hNw hG gl_135 rfl gk_135 (by decide) rfl rfl hl.1 rfl (lv_room (Nat.le_of_ble_eq_true rfl)) dX11_erase_4 ⟨Nat.zero_le _, Nat.zero_le _⟩) hG (fun r_4 h_4 g_4 H locs hq hG => ?_)
    replace HW := HW r_4 h_4 g_4 hq
    exact W.iret (v := r_4) hx hb hr (fun t ht hW => ⟨⟨r_4, (h_4, g_4), rfl, HW, g_B ht hG⟩, hG.2.2.F ht⟩) hG.2.2.2.2 dX11_erase_7
  exact E0 _ _ _ hG hl

def w_X11_fault  (h : HI) (g : HL) (Q : Int32 → HI → HL → Prop) : Prop :=
  (∃ P_1 : Int32 → HI → HL → Prop, w_X11_reads h g P_1 ∧ ∀ (r_1 : Int32) (h_1 : HI) (g_1 : HL), P_1 r_1 h_1 g_1 → Q r_1 h_1 g_1)
set_option maxHeartbeats 8000000 in
set_option maxRecDepth 100000 in
theorem m_X11_fault (l : Launch) (D : va_G) (cy : Nat → ClassId) (ad : Nat → Nat) (h : HI) (g : HL) (sz : Nat)  (Q : Int32 → HI → HL → Prop) (HW : w_X11_fault h g Q) : Met l yX11_fault (wa yX11_fault cX11_fault 1 (some .int)) ({ frames := 4, cells := 0, slots := 0, locals := 92 }) (va_Pc [.ref (ad 135)] (gI D cy ad h g sz)) (va_Qi (fun (r : Int32) (u : HI × HL) => Q r u.1 u.2) (gB D cy ad sz) (gA ad sz)) 0 0 (gA ad sz) := by
  refine Met.ofW (cc := cX11_fault) (maxL := 1) (ret := (some .int)) (by decide) rfl ?_
  intro p e s m args below meth c s₁ B hml hv
  obtain ⟨hav, hsz, hP, hK, hD0, hNw⟩ := hv
  have hx := B.exec
  have hb := B.bytes
  have hr := B.returns
  have hts := atoms_spec (ws := (wa yX11_fault cX11_fault 1 (some .int))) B.pre
  have hw := wa_hw hts
  have hown : s.vm.findClass RX11 = some m.cls := findClass_of_methodNamed B.named
  have hlocks := B.notSynchronized
  subst hsz
  have hG : gG D cy ad (gA ad s.heap.size) s.heap h g s.heap [] := ⟨hP, gA_self hD0, va_S.rf⟩
  clear hP hD0
  rw [show (headSpec (wa yX11_fault cX11_fault 1 (some .int)) ({ frames := 4, cells := 0, slots := 0, locals := 92 } : Room)).room = ({ frames := 4, cells := 0, slots := 0, locals := 92 } : Room) from rfl]
  have hl := lv_entry ([.ref (ad 135)]) (n := 1) (Nat.le_of_ble_eq_true rfl)
  rw [show entryFrame m args 1 = entryFrame m ([.ref (ad 135)] : List Value).toArray 1 from by rw [hav], lg_entry_eq]
  generalize (lg_sl ([.ref (ad 135)]) ++ List.replicate (1 - (lg_sl ([.ref (ad 135)])).length) Slot.unset).toArray = ls at hl ⊢
  have hl : lv_has ls 1 [(0, .ref (ad 135))] := hl
  have E0 : ∀ (H : Heap) (locs : List Loc) (ls : Array Slot), gG D cy ad (gA ad s.heap.size) s.heap h g H locs → lv_has ls 1 [(0, .ref (ad 135))] → W p l e ({ frames := 4, cells := 0, slots := 0, locals := 92 } : Room) s m args below meth c H locs 0 0 (MQ below (va_Qi (fun (r : Int32) (u : HI × HL) => Q r u.1 u.2) (gB D cy ad s.heap.size) (gA ad s.heap.size)) args s 0 0 (gA ad s.heap.size)) (F0 m 0 ls []) := by
    intro H locs ls hG hl
    unfold w_X11_fault at HW
    refine lv_aload_n hx hb dX11_fault_0 rfl (lv_at hl 0 rfl) ?_
    obtain ⟨P_1, HC_1, HW⟩ := HW
    refine g_calli (g_runV (As := []) (rest := []) ⟨hx, hb, hml, hown, hts⟩ (m_X11_reads l D cy ad h g H.size  P_1 HC_1) (cwV 0 hts (gd_V (wm5 149 rfl rfl) (wm5 151 rfl rfl) (wmp3 (q := (yX11_reads, 26)) 9 rfl) (wm1 13 rfl rfl) (wm5 152 rfl rfl)) rfl rfl rfl (by decide +kernel) ⟨Nat.le_of_ble_eq_true rfl, Nat.le_of_ble_eq_true rfl⟩) hK hNw hG gl_135 rfl gk_135 (by decide) rfl rfl hl.1 rfl (lv_room (Nat.le_of_ble_eq_true rfl)) dX11_fault_1 ⟨Nat.zero_le _, Nat.zero_le _⟩) hG (fun r_1 h_1 g_1 H locs hq hG => ?_)
    replace HW := HW r_1 h_1 g_1 hq
    exact W.iret (v := r_1) hx hb hr (fun t ht hW => ⟨⟨r_1, (h_1, g_1), rfl, HW, g_B ht hG⟩, hG.2.2.F ht⟩) hG.2.2.2.2 dX11_fault_4
  exact E0 _ _ _ hG hl

def w_X11_worn (x1 : Int32) (x2 : Int32) (h : HI) (g : HL) (Q : Int32 → HI → HL → Prop) : Prop :=
  (∃ P_3 : Int32 → HI → HL → Prop, w_X11_is (0 : Int32) x1 h g P_3 ∧ ∀ (r_3 : Int32) (h_3 : HI) (g_3 : HL), zb r_3 → P_3 r_3 h_3 g_3 → ((r_3 = 0 → Q (-2 : Int32) h_3 g_3) ∧ (¬ r_3 = 0 → (∃ P_10 : Int32 → HI → HL → Prop, w_X11_isYear x2 h_3 g_3 P_10 ∧ ∀ (r_10 : Int32) (h_10 : HI) (g_10 : HL), zb r_10 → P_10 r_10 h_10 g_10 → ((r_10 = 0 → Q (-2 : Int32) h_10 g_10) ∧ (¬ r_10 = 0 → (∃ P_19 : Int32 → HI → HL → Prop, w_X11_wornOf x1 x2 h_10 g_10 P_19 ∧ ∀ (r_19 : Int32) (h_19 : HI) (g_19 : HL), P_19 r_19 h_19 g_19 → Q r_19 h_19 g_19)))))))
set_option maxHeartbeats 8000000 in
set_option maxRecDepth 100000 in
theorem m_X11_worn (l : Launch) (D : va_G) (cy : Nat → ClassId) (ad : Nat → Nat) (h : HI) (g : HL) (sz : Nat) (x1 : Int32) (x2 : Int32) (Q : Int32 → HI → HL → Prop) (HW : w_X11_worn x1 x2 h g Q) : Met l yX11_worn (wa yX11_worn cX11_worn 3 (some .int)) ({ frames := 5, cells := 0, slots := 0, locals := 117 }) (va_Pc [.ref (ad 135), .int x1, .int x2] (gI D cy ad h g sz)) (va_Qi (fun (r : Int32) (u : HI × HL) => Q r u.1 u.2) (gB D cy ad sz) (gA ad sz)) 0 0 (gA ad sz) := by
  refine Met.ofW (cc := cX11_worn) (maxL := 3) (ret := (some .int)) (by decide) rfl ?_
  intro p e s m args below meth c s₁ B hml hv
  obtain ⟨hav, hsz, hP, hK, hD0, hNw⟩ := hv
  have hx := B.exec
  have hb := B.bytes
  have hr := B.returns
  have hts := atoms_spec (ws := (wa yX11_worn cX11_worn 3 (some .int))) B.pre
  have hw := wa_hw hts
  have hown : s.vm.findClass RX11 = some m.cls := findClass_of_methodNamed B.named
  have hlocks := B.notSynchronized
  subst hsz
  have hG : gG D cy ad (gA ad s.heap.size) s.heap h g s.heap [] := ⟨hP, gA_self hD0, va_S.rf⟩
  clear hP hD0
  rw [show (headSpec (wa yX11_worn cX11_worn 3 (some .int)) ({ frames := 5, cells := 0, slots := 0, locals := 117 } : Room)).room = ({ frames := 5, cells := 0, slots := 0, locals := 117 } : Room) from rfl]
  have hl := lv_entry ([.ref (ad 135), .int x1, .int x2]) (n := 3) (Nat.le_of_ble_eq_true rfl)
  rw [show entryFrame m args 3 = entryFrame m ([.ref (ad 135), .int x1, .int x2] : List Value).toArray 3 from by rw [hav], lg_entry_eq]
  generalize (lg_sl ([.ref (ad 135), .int x1, .int x2]) ++ List.replicate (3 - (lg_sl ([.ref (ad 135), .int x1, .int x2])).length) Slot.unset).toArray = ls at hl ⊢
  have hl : lv_has ls 3 [(0, .ref (ad 135)), (1, .int x1), (2, .int x2)] := hl
  have E0 : ∀ (H : Heap) (locs : List Loc) (ls : Array Slot), gG D cy ad (gA ad s.heap.size) s.heap h g H locs → lv_has ls 3 [(0, .ref (ad 135)), (1, .int x1), (2, .int x2)] → W p l e ({ frames := 5, cells := 0, slots := 0, locals := 117 } : Room) s m args below meth c H locs 0 0 (MQ below (va_Qi (fun (r : Int32) (u : HI × HL) => Q r u.1 u.2) (gB D cy ad s.heap.size) (gA ad s.heap.size)) args s 0 0 (gA ad s.heap.size)) (F0 m 0 ls []) := by
    intro H locs ls hG hl
    unfold w_X11_worn at HW
    refine lv_aload_n hx hb dX11_worn_0 rfl (lv_at hl 0 rfl) ?_
    refine lv_iconst (v := 0) hx hb dX11_worn_1 (by decide) ?_
    refine lv_iload_n hx hb dX11_worn_2 rfl (lv_at hl 1 rfl) ?_
    obtain ⟨P_3, HC_3, HW⟩ := HW
    refine g_callz (g_runV (As := [.int (0 : Int32), .int x1]) (rest := []) ⟨hx, hb, hml, hown, hts⟩ (m_X11_is l D cy ad h g H.size (0 : Int32) x1 P_3 HC_3) (cwV 2 hts (gd_V (wm5 184 rfl rfl) (wm5 186 rfl rfl) (wmp3 (q := (yX11_is, 26)) 14 rfl) (wm1 13 rfl rfl) (wm5 187 rfl rfl)) rfl rfl rfl (by decide +kernel) ⟨Nat.le_of_ble_eq_true rfl, Nat.le_of_ble_eq_true rfl⟩) hK hNw hG gl_135 rfl gk_135 (by decide) rfl rfl hl.1 rfl (lv_room (Nat.le_of_ble_eq_true rfl)) dX11_worn_3 ⟨Nat.zero_le _, Nat.zero_le _⟩) hG (fun r_3 h_3 g_3 H locs hz hq hG => ?_)
    replace HW := HW r_3 h_3 g_3 hz hq
    refine lv_if_eq (tgt := 25) hx hb dX11_worn_6 (by decide) (fun c_6 => ?_) (fun c_6 => ?_)
    · replace HW := HW.1 c_6
      refine lv_bipush (v := (-2)) hx hb dX11_worn_25 (by decide) ?_
      exact W.iret (v := (-2 : Int32)) hx hb hr (fun t ht hW => ⟨⟨(-2 : Int32), (h_3, g_3), rfl, HW, g_B ht hG⟩, hG.2.2.F ht⟩) hG.2.2.2.2 dX11_worn_27
    · replace HW := HW.2 c_6
      refine lv_iload_n hx hb dX11_worn_9 rfl (lv_at hl 2 rfl) ?_
      obtain ⟨P_10, HC_10, HW⟩ := HW
      refine g_callz (g_runS (As := [.int x2]) (rest := []) ⟨hx, hb, hml, hown, hts⟩ (m_X11_isYear l D cy ad h_3 g_3 H.size x2 P_10 HC_10) (va_cwS 1 hts (gd_S (wm5 114 rfl rfl) (wm5 115 rfl rfl) (wm1 13 rfl rfl) (wm5 116 rfl rfl)) rfl rfl rfl (by decide +kernel) ⟨Nat.le_of_ble_eq_true rfl, Nat.le_of_ble_eq_true rfl⟩) hK hNw hG rfl rfl hl.1 rfl (lv_room (Nat.le_of_ble_eq_true rfl)) dX11_worn_10 ⟨Nat.zero_le _, Nat.zero_le _⟩) hG (fun r_10 h_10 g_10 H locs hz hq hG => ?_)
      replace HW := HW r_10 h_10 g_10 hz hq
      refine lv_if_eq (tgt := 25) hx hb dX11_worn_13 (by decide) (fun c_13 => ?_) (fun c_13 => ?_)
      · replace HW := HW.1 c_13
        refine lv_bipush (v := (-2)) hx hb dX11_worn_25 (by decide) ?_
        exact W.iret (v := (-2 : Int32)) hx hb hr (fun t ht hW => ⟨⟨(-2 : Int32), (h_10, g_10), rfl, HW, g_B ht hG⟩, hG.2.2.F ht⟩) hG.2.2.2.2 dX11_worn_27
      · replace HW := HW.2 c_13
        refine lv_aload_n hx hb dX11_worn_16 rfl (lv_at hl 0 rfl) ?_
        refine lv_iload_n hx hb dX11_worn_17 rfl (lv_at hl 1 rfl) ?_
        refine lv_iload_n hx hb dX11_worn_18 rfl (lv_at hl 2 rfl) ?_
        obtain ⟨P_19, HC_19, HW⟩ := HW
        refine g_calli (g_runV (As := [.int x1, .int x2]) (rest := []) ⟨hx, hb, hml, hown, hts⟩ (m_X11_wornOf l D cy ad h_10 g_10 H.size x1 x2 P_19 HC_19) (cwV 2 hts (gd_V (wm5 188 rfl rfl) (wm5 190 rfl rfl) (wmp3 (q := (yX11_wornOf, 26)) 15 rfl) (wm1 13 rfl rfl) (wm5 191 rfl rfl)) rfl rfl rfl (by decide +kernel) ⟨Nat.le_of_ble_eq_true rfl, Nat.le_of_ble_eq_true rfl⟩) hK hNw hG gl_135 rfl gk_135 (by decide) rfl rfl hl.1 rfl (lv_room (Nat.le_of_ble_eq_true rfl)) dX11_worn_19 ⟨Nat.zero_le _, Nat.zero_le _⟩) hG (fun r_19 h_19 g_19 H locs hq hG => ?_)
        replace HW := HW r_19 h_19 g_19 hq
        refine lv_goto (tgt := 27) hx hb dX11_worn_22 (by decide) ?_
        exact W.iret (v := r_19) hx hb hr (fun t ht hW => ⟨⟨r_19, (h_19, g_19), rfl, HW, g_B ht hG⟩, hG.2.2.F ht⟩) hG.2.2.2.2 dX11_worn_27
  exact E0 _ _ _ hG hl

def w_X11_sayOf (x1 : Int32) (x2 : Int32) (h : HI) (g : HL) (Q : Int32 → HI → HL → Prop) : Prop :=
  (vp_in (((152 : Int32) + ((6 : Int32) * x1)) + x2) 887 ∧ Q (h 136 (((152 : Int32) + ((6 : Int32) * x1)) + x2).toNatClampNeg) h g)
set_option maxHeartbeats 8000000 in
set_option maxRecDepth 100000 in
theorem m_X11_sayOf (l : Launch) (D : va_G) (cy : Nat → ClassId) (ad : Nat → Nat) (h : HI) (g : HL) (sz : Nat) (x1 : Int32) (x2 : Int32) (Q : Int32 → HI → HL → Prop) (HW : w_X11_sayOf x1 x2 h g Q) : Met l yX11_sayOf (wa yX11_sayOf cX11_sayOf 3 (some .int)) ({ frames := 0, cells := 0, slots := 0, locals := 0 }) (va_Pc [.ref (ad 135), .int x1, .int x2] (gI D cy ad h g sz)) (va_Qi (fun (r : Int32) (u : HI × HL) => Q r u.1 u.2) (gB D cy ad sz) (gA ad sz)) 0 0 (gA ad sz) := by
  refine Met.ofW (cc := cX11_sayOf) (maxL := 3) (ret := (some .int)) (by decide) rfl ?_
  intro p e s m args below meth c s₁ B hml hv
  obtain ⟨hav, hsz, hP, hK, hD0, hNw⟩ := hv
  have hx := B.exec
  have hb := B.bytes
  have hr := B.returns
  have hts := atoms_spec (ws := (wa yX11_sayOf cX11_sayOf 3 (some .int))) B.pre
  have hw := wa_hw hts
  have hown : s.vm.findClass RX11 = some m.cls := findClass_of_methodNamed B.named
  have hlocks := B.notSynchronized
  subst hsz
  have hG : gG D cy ad (gA ad s.heap.size) s.heap h g s.heap [] := ⟨hP, gA_self hD0, va_S.rf⟩
  clear hP hD0
  have lk7 := hw (.fieldLink RX11 7 "OldWorksModel" "st" "[I") (wm5 27 rfl rfl)
  rw [show (headSpec (wa yX11_sayOf cX11_sayOf 3 (some .int)) ({ frames := 0, cells := 0, slots := 0, locals := 0 } : Room)).room = ({ frames := 0, cells := 0, slots := 0, locals := 0 } : Room) from rfl]
  have hl := lv_entry ([.ref (ad 135), .int x1, .int x2]) (n := 3) (Nat.le_of_ble_eq_true rfl)
  rw [show entryFrame m args 3 = entryFrame m ([.ref (ad 135), .int x1, .int x2] : List Value).toArray 3 from by rw [hav], lg_entry_eq]
  generalize (lg_sl ([.ref (ad 135), .int x1, .int x2]) ++ List.replicate (3 - (lg_sl ([.ref (ad 135), .int x1, .int x2])).length) Slot.unset).toArray = ls at hl ⊢
  have hl : lv_has ls 3 [(0, .ref (ad 135)), (1, .int x1), (2, .int x2)] := hl
  have E0 : ∀ (H : Heap) (locs : List Loc) (ls : Array Slot), gG D cy ad (gA ad s.heap.size) s.heap h g H locs → lv_has ls 3 [(0, .ref (ad 135)), (1, .int x1), (2, .int x2)] → W p l e ({ frames := 0, cells := 0, slots := 0, locals := 0 } : Room) s m args below meth c H locs 0 0 (MQ below (va_Qi (fun (r : Int32) (u : HI × HL) => Q r u.1 u.2) (gB D cy ad s.heap.size) (gA ad s.heap.size)) args s 0 0 (gA ad s.heap.size)) (F0 m 0 ls []) := by
    intro H locs ls hG hl
    unfold w_X11_sayOf at HW
    refine lv_aload_n hx hb dX11_sayOf_0 rfl (lv_at hl 0 rfl) ?_
    refine g_getr hx hb hw inG11 hown hK hG gl_135 rfl gk_135 (by decide) 0 (by decide) (by rw [gm_135]; decide) (r := 136) gr_135_0 lk7 dX11_sayOf_1 ?_
    refine lv_sipush (v := 152) hx hb dX11_sayOf_4 (by decide) ?_
    refine lv_bipush (v := 6) hx hb dX11_sayOf_7 (by decide) ?_
    refine lv_iload_n hx hb dX11_sayOf_9 rfl (lv_at hl 1 rfl) ?_
    refine lv_imul hx hb dX11_sayOf_10 ?_
    refine lv_iadd hx hb dX11_sayOf_11 ?_
    refine lv_iload_n hx hb dX11_sayOf_12 rfl (lv_at hl 2 rfl) ?_
    refine lv_iadd hx hb dX11_sayOf_13 ?_
    refine g_iald hx hb hK hG gl_136 gk_136 gn_136 HW.1 dX11_sayOf_14 ?_
    replace HW := HW.2
    exact W.iret (v := (h 136 (((152 : Int32) + ((6 : Int32) * x1)) + x2).toNatClampNeg)) hx hb hr (fun t ht hW => ⟨⟨(h 136 (((152 : Int32) + ((6 : Int32) * x1)) + x2).toNatClampNeg), (h, g), rfl, HW, g_B ht hG⟩, hG.2.2.F ht⟩) hG.2.2.2.2 dX11_sayOf_15
  exact E0 _ _ _ hG hl

def j_X11_say_163 (Q : Int32 → HI → HL → Prop) (x6 : Int32) (s1 : Int32) (s2 : Int32) (h : HI) (g : HL) : Prop :=
  (vp_in s1 887 ∧ ∀ h_163 : HI, h_163 = hu h 136 s1.toNatClampNeg s2 → (vp_in (x6 + (5 : Int32)) 887 ∧ ∀ h_173 : HI, h_173 = hu h_163 136 (x6 + (5 : Int32)).toNatClampNeg (0 : Int32) → (∃ P_176 : Int32 → HI → HL → Prop, w_X11_one (1 : Int32) h_173 g P_176 ∧ ∀ (r_176 : Int32) (h_176 : HI) (g_176 : HL), P_176 r_176 h_176 g_176 → Q r_176 h_176 g_176)))
def j_X11_say_144 (Q : Int32 → HI → HL → Prop) (x2 : Int32) (x5 : Int32) (x6 : Int32) (s1 : Int32) (s2 : Int32) (h : HI) (g : HL) : Prop :=
  (vp_in s1 887 ∧ ∀ h_144 : HI, h_144 = hu h 136 s1.toNatClampNeg s2 → ((¬ x2 = 0 → j_X11_say_163 Q x6 (x6 + (4 : Int32)) (0 : Int32) h_144 g) ∧ (x2 = 0 → j_X11_say_163 Q x6 (x6 + (4 : Int32)) x5 h_144 g)))
def j_X11_say_68 (Q : Int32 → HI → HL → Prop) (x1 : Int32) (x2 : Int32) (x3 : Int32) (x4 : Int32) (x5 : Int32) (h : HI) (g : HL) : Prop :=
  (vp_in (1 : Int32) 887 ∧ ((¬ (h 136 (1 : Int32).toNatClampNeg) = (60 : Int32) → (vp_in (1 : Int32) 887 ∧ (∀ x6_95 : Int32, x6_95 = ((152 : Int32) + ((6 : Int32) * (h 136 (1 : Int32).toNatClampNeg))) → (vp_in x6_95 887 ∧ ∀ h_104 : HI, h_104 = hu h 136 x6_95.toNatClampNeg x1 → (vp_in (x6_95 + (1 : Int32)) 887 ∧ ∀ h_114 : HI, h_114 = hu h_104 136 (x6_95 + (1 : Int32)).toNatClampNeg x2 → (vp_in (x6_95 + (2 : Int32)) 887 ∧ ∀ h_124 : HI, h_124 = hu h_114 136 (x6_95 + (2 : Int32)).toNatClampNeg x3 → (((2 : Int32) ≤ x2 → j_X11_say_144 Q x2 x5 x6_95 (x6_95 + (3 : Int32)) (0 : Int32) h_124 g) ∧ (¬ (2 : Int32) ≤ x2 → j_X11_say_144 Q x2 x5 x6_95 (x6_95 + (3 : Int32)) x4 h_124 g)))))))) ∧ ((h 136 (1 : Int32).toNatClampNeg) = (60 : Int32) → Q (-4 : Int32) h g)))
def j_X11_say_53 (Q : Int32 → HI → HL → Prop) (x1 : Int32) (x2 : Int32) (x3 : Int32) (x4 : Int32) (x5 : Int32) (h : HI) (g : HL) : Prop :=
  ((¬ x2 = 0 → j_X11_say_68 Q x1 x2 x3 x4 x5 h g) ∧ (x2 = 0 → (∃ P_59 : Int32 → HI → HL → Prop, w_X11_isYear x5 h g P_59 ∧ ∀ (r_59 : Int32) (h_59 : HI) (g_59 : HL), zb r_59 → P_59 r_59 h_59 g_59 → ((¬ r_59 = 0 → j_X11_say_68 Q x1 x2 x3 x4 x5 h_59 g_59) ∧ (r_59 = 0 → Q (-2 : Int32) h_59 g_59)))))
def w_X11_say (x1 : Int32) (x2 : Int32) (x3 : Int32) (x4 : Int32) (x5 : Int32) (h : HI) (g : HL) (Q : Int32 → HI → HL → Prop) : Prop :=
  (∃ P_3 : Int32 → HI → HL → Prop, w_X11_is (0 : Int32) x1 h g P_3 ∧ ∀ (r_3 : Int32) (h_3 : HI) (g_3 : HL), zb r_3 → P_3 r_3 h_3 g_3 → ((r_3 = 0 → Q (-2 : Int32) h_3 g_3) ∧ (¬ r_3 = 0 → (∃ P_15 : Int32 → HI → HL → Prop, w_X11_in ((x2).toInt64) (0 : Int64) (3 : Int64) h_3 g_3 P_15 ∧ ∀ (r_15 : Int32) (h_15 : HI) (g_15 : HL), zb r_15 → P_15 r_15 h_15 g_15 → ((r_15 = 0 → Q (-2 : Int32) h_15 g_15) ∧ (¬ r_15 = 0 → (∃ P_29 : Int32 → HI → HL → Prop, w_X11_in ((x3).toInt64) (-10000 : Int64) (100000 : Int64) h_15 g_15 P_29 ∧ ∀ (r_29 : Int32) (h_29 : HI) (g_29 : HL), zb r_29 → P_29 r_29 h_29 g_29 → ((r_29 = 0 → Q (-2 : Int32) h_29 g_29) ∧ (¬ r_29 = 0 → (((2 : Int32) ≤ x2 → j_X11_say_53 Q x1 x2 x3 x4 x5 h_29 g_29) ∧ (¬ (2 : Int32) ≤ x2 → (∃ P_47 : Int32 → HI → HL → Prop, w_X11_in ((x4).toInt64) (0 : Int64) (10000 : Int64) h_29 g_29 P_47 ∧ ∀ (r_47 : Int32) (h_47 : HI) (g_47 : HL), zb r_47 → P_47 r_47 h_47 g_47 → ((r_47 = 0 → Q (-2 : Int32) h_47 g_47) ∧ (¬ r_47 = 0 → j_X11_say_53 Q x1 x2 x3 x4 x5 h_47 g_47))))))))))))))
set_option maxHeartbeats 8000000 in
set_option maxRecDepth 100000 in
theorem m_X11_say (l : Launch) (D : va_G) (cy : Nat → ClassId) (ad : Nat → Nat) (h : HI) (g : HL) (sz : Nat) (x1 : Int32) (x2 : Int32) (x3 : Int32) (x4 : Int32) (x5 : Int32) (Q : Int32 → HI → HL → Prop) (HW : w_X11_say x1 x2 x3 x4 x5 h g Q) : Met l yX11_say (wa yX11_say cX11_say 7 (some .int)) ({ frames := 2, cells := 0, slots := 0, locals := 47 }) (va_Pc [.ref (ad 135), .int x1, .int x2, .int x3, .int x4, .int x5] (gI D cy ad h g sz)) (va_Qi (fun (r : Int32) (u : HI × HL) => Q r u.1 u.2) (gB D cy ad sz) (gA ad sz)) 0 0 (gA ad sz) := by
  refine Met.ofW (cc := cX11_say) (maxL := 7) (ret := (some .int)) (by decide) rfl ?_
  intro p e s m args below meth c s₁ B hml hv
  obtain ⟨hav, hsz, hP, hK, hD0, hNw⟩ := hv
  have hx := B.exec
  have hb := B.bytes
  have hr := B.returns
  have hts := atoms_spec (ws := (wa yX11_say cX11_say 7 (some .int))) B.pre
  have hw := wa_hw hts
  have hown : s.vm.findClass RX11 = some m.cls := findClass_of_methodNamed B.named
  have hlocks := B.notSynchronized
  subst hsz
  have hG : gG D cy ad (gA ad s.heap.size) s.heap h g s.heap [] := ⟨hP, gA_self hD0, va_S.rf⟩
  clear hP hD0
  have cn67 := hw (.constantLong RX11 67 (3)) (wm5 119 rfl rfl)
  have cn142 := hw (.constantLong RX11 142 (-10000)) (wm5 208 rfl rfl)
  have cn73 := hw (.constantLong RX11 73 (100000)) (wm5 131 rfl rfl)
  have cn128 := hw (.constantLong RX11 128 (10000)) (wm5 203 rfl rfl)
  have lk7 := hw (.fieldLink RX11 7 "OldWorksModel" "st" "[I") (wm5 27 rfl rfl)
  rw [show (headSpec (wa yX11_say cX11_say 7 (some .int)) ({ frames := 2, cells := 0, slots := 0, locals := 47 } : Room)).room = ({ frames := 2, cells := 0, slots := 0, locals := 47 } : Room) from rfl]
  have hl := lv_entry ([.ref (ad 135), .int x1, .int x2, .int x3, .int x4, .int x5]) (n := 7) (Nat.le_of_ble_eq_true rfl)
  rw [show entryFrame m args 7 = entryFrame m ([.ref (ad 135), .int x1, .int x2, .int x3, .int x4, .int x5] : List Value).toArray 7 from by rw [hav], lg_entry_eq]
  generalize (lg_sl ([.ref (ad 135), .int x1, .int x2, .int x3, .int x4, .int x5]) ++ List.replicate (7 - (lg_sl ([.ref (ad 135), .int x1, .int x2, .int x3, .int x4, .int x5])).length) Slot.unset).toArray = ls at hl ⊢
  have hl : lv_has ls 7 [(0, .ref (ad 135)), (1, .int x1), (2, .int x2), (3, .int x3), (4, .int x4), (5, .int x5)] := hl
  have B163 : ∀ (x6 : Int32) (s1 : Int32) (s2 : Int32) (h : HI) (g : HL) (H : Heap) (locs : List Loc) (ls : Array Slot), j_X11_say_163 Q x6 s1 s2 h g → gG D cy ad (gA ad s.heap.size) s.heap h g H locs → lv_has ls 7 [(0, .ref (ad 135)), (6, .int x6)] → W p l e ({ frames := 2, cells := 0, slots := 0, locals := 47 } : Room) s m args below meth c H locs 0 0 (MQ below (va_Qi (fun (r : Int32) (u : HI × HL) => Q r u.1 u.2) (gB D cy ad s.heap.size) (gA ad s.heap.size)) args s 0 0 (gA ad s.heap.size)) (F0 m 163 ls [.int s2, .int s1, .ref (ad 136)]) := by
    intro x6 s1 s2 h g H locs ls HW hG hl
    unfold j_X11_say_163 at HW
    refine g_iast hx hb hK hG gl_136 gk_136 gn_136 HW.1 dX11_say_163 (fun H locs hG => ?_)
    replace HW := HW.2
    obtain ⟨h_163, eh_163⟩ : ∃ y : HI, y = hu h 136 s1.toNatClampNeg s2 := ⟨_, rfl⟩
    rw [← eh_163] at hG
    replace HW := HW h_163 eh_163
    refine lv_aload_n hx hb dX11_say_164 rfl (lv_at hl 0 rfl) ?_
    refine g_getr hx hb hw inG11 hown hK hG gl_135 rfl gk_135 (by decide) 0 (by decide) (by rw [gm_135]; decide) (r := 136) gr_135_0 lk7 dX11_say_165 ?_
    refine lv_iload hx hb dX11_say_168 (lv_at hl 1 rfl) ?_
    refine lv_iconst (v := 5) hx hb dX11_say_170 (by decide) ?_
    refine lv_iadd hx hb dX11_say_171 ?_
    refine lv_iconst (v := 0) hx hb dX11_say_172 (by decide) ?_
    refine g_iast hx hb hK hG gl_136 gk_136 gn_136 HW.1 dX11_say_173 (fun H locs hG => ?_)
    replace HW := HW.2
    obtain ⟨h_173, eh_173⟩ : ∃ y : HI, y = hu h_163 136 (x6 + (5 : Int32)).toNatClampNeg (0 : Int32) := ⟨_, rfl⟩
    rw [← eh_173] at hG
    replace HW := HW h_173 eh_173
    refine lv_aload_n hx hb dX11_say_174 rfl (lv_at hl 0 rfl) ?_
    refine lv_iconst (v := 1) hx hb dX11_say_175 (by decide) ?_
    obtain ⟨P_176, HC_176, HW⟩ := HW
    refine g_calli (g_runV (As := [.int (1 : Int32)]) (rest := []) ⟨hx, hb, hml, hown, hts⟩ (m_X11_one l D cy ad h_173 g H.size (1 : Int32) P_176 HC_176) (cwV 1 hts (gd_V (wm5 120 rfl rfl) (wm5 122 rfl rfl) (wmp3 (q := (yX11_one, 26)) 7 rfl) (wm1 13 rfl rfl) (wm5 123 rfl rfl)) rfl rfl rfl (by decide +kernel) ⟨Nat.le_of_ble_eq_true rfl, Nat.le_of_ble_eq_true rfl⟩) hK hNw hG gl_135 rfl gk_135 (by decide) rfl rfl hl.1 rfl (lv_room (Nat.le_of_ble_eq_true rfl)) dX11_say_176 ⟨Nat.zero_le _, Nat.zero_le _⟩) hG (fun r_176 h_176 g_176 H locs hq hG => ?_)
    replace HW := HW r_176 h_176 g_176 hq
    exact W.iret (v := r_176) hx hb hr (fun t ht hW => ⟨⟨r_176, (h_176, g_176), rfl, HW, g_B ht hG⟩, hG.2.2.F ht⟩) hG.2.2.2.2 dX11_say_179
  have B144 : ∀ (x2 : Int32) (x5 : Int32) (x6 : Int32) (s1 : Int32) (s2 : Int32) (h : HI) (g : HL) (H : Heap) (locs : List Loc) (ls : Array Slot), j_X11_say_144 Q x2 x5 x6 s1 s2 h g → gG D cy ad (gA ad s.heap.size) s.heap h g H locs → lv_has ls 7 [(0, .ref (ad 135)), (2, .int x2), (5, .int x5), (6, .int x6)] → W p l e ({ frames := 2, cells := 0, slots := 0, locals := 47 } : Room) s m args below meth c H locs 0 0 (MQ below (va_Qi (fun (r : Int32) (u : HI × HL) => Q r u.1 u.2) (gB D cy ad s.heap.size) (gA ad s.heap.size)) args s 0 0 (gA ad s.heap.size)) (F0 m 144 ls [.int s2, .int s1, .ref (ad 136)]) := by
    intro x2 x5 x6 s1 s2 h g H locs ls HW hG hl
    unfold j_X11_say_144 at HW
    refine g_iast hx hb hK hG gl_136 gk_136 gn_136 HW.1 dX11_say_144 (fun H locs hG => ?_)
    replace HW := HW.2
    obtain ⟨h_144, eh_144⟩ : ∃ y : HI, y = hu h 136 s1.toNatClampNeg s2 := ⟨_, rfl⟩
    rw [← eh_144] at hG
    replace HW := HW h_144 eh_144
    refine lv_aload_n hx hb dX11_say_145 rfl (lv_at hl 0 rfl) ?_
    refine g_getr hx hb hw inG11 hown hK hG gl_135 rfl gk_135 (by decide) 0 (by decide) (by rw [gm_135]; decide) (r := 136) gr_135_0 lk7 dX11_say_146 ?_
    refine lv_iload hx hb dX11_say_149 (lv_at hl 3 rfl) ?_
    refine lv_iconst (v := 4) hx hb dX11_say_151 (by decide) ?_
    refine lv_iadd hx hb dX11_say_152 ?_
    refine lv_iload_n hx hb dX11_say_153 rfl (lv_at hl 1 rfl) ?_
    refine lv_if_ne (tgt := 162) hx hb dX11_say_154 (by decide) (fun c_154 => ?_) (fun c_154 => ?_)
    · replace HW := HW.1 c_154
      refine lv_iconst (v := 0) hx hb dX11_say_162 (by decide) ?_
      exact B163 x6 (x6 + (4 : Int32)) (0 : Int32) h_144 g _ _ _ HW hG (lv_sub hl [0, 3] rfl)
    · replace HW := HW.2 c_154
      refine lv_iload hx hb dX11_say_157 (lv_at hl 2 rfl) ?_
      refine lv_goto (tgt := 163) hx hb dX11_say_159 (by decide) ?_
      exact B163 x6 (x6 + (4 : Int32)) x5 h_144 g _ _ _ HW hG (lv_sub hl [0, 3] rfl)
  have B68 : ∀ (x1 : Int32) (x2 : Int32) (x3 : Int32) (x4 : Int32) (x5 : Int32) (h : HI) (g : HL) (H : Heap) (locs : List Loc) (ls : Array Slot), j_X11_say_68 Q x1 x2 x3 x4 x5 h g → gG D cy ad (gA ad s.heap.size) s.heap h g H locs → lv_has ls 7 [(0, .ref (ad 135)), (1, .int x1), (2, .int x2), (3, .int x3), (4, .int x4), (5, .int x5)] → W p l e ({ frames := 2, cells := 0, slots := 0, locals := 47 } : Room) s m args below meth c H locs 0 0 (MQ below (va_Qi (fun (r : Int32) (u : HI × HL) => Q r u.1 u.2) (gB D cy ad s.heap.size) (gA ad s.heap.size)) args s 0 0 (gA ad s.heap.size)) (F0 m 68 ls []) := by
    intro x1 x2 x3 x4 x5 h g H locs ls HW hG hl
    unfold j_X11_say_68 at HW
    refine lv_aload_n hx hb dX11_say_68 rfl (lv_at hl 0 rfl) ?_
    refine g_getr hx hb hw inG11 hown hK hG gl_135 rfl gk_135 (by decide) 0 (by decide) (by rw [gm_135]; decide) (r := 136) gr_135_0 lk7 dX11_say_69 ?_
    refine lv_iconst (v := 1) hx hb dX11_say_72 (by decide) ?_
    refine g_iald hx hb hK hG gl_136 gk_136 gn_136 HW.1 dX11_say_73 ?_
    replace HW := HW.2
    refine lv_bipush (v := 60) hx hb dX11_say_74 (by decide) ?_
    refine lv_icmp_ne (tgt := 82) hx hb dX11_say_76 (by decide) (fun c_76 => ?_) (fun c_76 => ?_)
    · replace HW := HW.1 c_76
      refine lv_sipush (v := 152) hx hb dX11_say_82 (by decide) ?_
      refine lv_bipush (v := 6) hx hb dX11_say_85 (by decide) ?_
      refine lv_aload_n hx hb dX11_say_87 rfl (lv_at hl 0 rfl) ?_
      refine g_getr hx hb hw inG11 hown hK hG gl_135 rfl gk_135 (by decide) 0 (by decide) (by rw [gm_135]; decide) (r := 136) gr_135_0 lk7 dX11_say_88 ?_
      refine lv_iconst (v := 1) hx hb dX11_say_91 (by decide) ?_
      refine g_iald hx hb hK hG gl_136 gk_136 gn_136 HW.1 dX11_say_92 ?_
      replace HW := HW.2
      refine lv_imul hx hb dX11_say_93 ?_
      refine lv_iadd hx hb dX11_say_94 ?_
      refine lv_topi (fun x6_95 ex6_95 => ?_)
      replace HW := HW x6_95 ex6_95
      refine lv_istore (lv' := [(6, .int x6_95), (0, .ref (ad 135)), (1, .int x1), (2, .int x2), (3, .int x3), (4, .int x4), (5, .int x5)]) hx hb dX11_say_95 hl (by decide) rfl (fun ls hl => ?_)
      refine lv_aload_n hx hb dX11_say_97 rfl (lv_at hl 1 rfl) ?_
      refine g_getr hx hb hw inG11 hown hK hG gl_135 rfl gk_135 (by decide) 0 (by decide) (by rw [gm_135]; decide) (r := 136) gr_135_0 lk7 dX11_say_98 ?_
      refine lv_iload hx hb dX11_say_101 (lv_at hl 0 rfl) ?_
      refine lv_iload_n hx hb dX11_say_103 rfl (lv_at hl 2 rfl) ?_
      refine g_iast hx hb hK hG gl_136 gk_136 gn_136 HW.1 dX11_say_104 (fun H locs hG => ?_)
      replace HW := HW.2
      obtain ⟨h_104, eh_104⟩ : ∃ y : HI, y = hu h 136 x6_95.toNatClampNeg x1 := ⟨_, rfl⟩
      rw [← eh_104] at hG
      replace HW := HW h_104 eh_104
      refine lv_aload_n hx hb dX11_say_105 rfl (lv_at hl 1 rfl) ?_
      refine g_getr hx hb hw inG11 hown hK hG gl_135 rfl gk_135 (by decide) 0 (by decide) (by rw [gm_135]; decide) (r := 136) gr_135_0 lk7 dX11_say_106 ?_
      refine lv_iload hx hb dX11_say_109 (lv_at hl 0 rfl) ?_
      refine lv_iconst (v := 1) hx hb dX11_say_111 (by decide) ?_
      refine lv_iadd hx hb dX11_say_112 ?_
      refine lv_iload_n hx hb dX11_say_113 rfl (lv_at hl 3 rfl) ?_
      refine g_iast hx hb hK hG gl_136 gk_136 gn_136 HW.1 dX11_say_114 (fun H locs hG => ?_)
      replace HW := HW.2
      obtain ⟨h_114, eh_114⟩ : ∃ y : HI, y = hu h_104 136 (x6_95 + (1 : Int32)).toNatClampNeg x2 := ⟨_, rfl⟩
      rw [← eh_114] at hG
      replace HW := HW h_114 eh_114
      refine lv_aload_n hx hb dX11_say_115 rfl (lv_at hl 1 rfl) ?_
      refine g_getr hx hb hw inG11 hown hK hG gl_135 rfl gk_135 (by decide) 0 (by decide) (by rw [gm_135]; decide) (r := 136) gr_135_0 lk7 dX11_say_116 ?_
      refine lv_iload hx hb dX11_say_119 (lv_at hl 0 rfl) ?_
      refine lv_iconst (v := 2) hx hb dX11_say_121 (by decide) ?_
      refine lv_iadd hx hb dX11_say_122 ?_
      refine lv_iload_n hx hb dX11_say_123 rfl (lv_at hl 4 rfl) ?_
      refine g_iast hx hb hK hG gl_136 gk_136 gn_136 HW.1 dX11_say_124 (fun H locs hG => ?_)
      replace HW := HW.2
      obtain ⟨h_124, eh_124⟩ : ∃ y : HI, y = hu h_114 136 (x6_95 + (2 : Int32)).toNatClampNeg x3 := ⟨_, rfl⟩
      rw [← eh_124] at hG
      replace HW := HW h_124 eh_124
      refine lv_aload_n hx hb dX11_say_125 rfl (lv_at hl 1 rfl) ?_
      refine g_getr hx hb hw inG11 hown hK hG gl_135 rfl gk_135 (by decide) 0 (by decide) (by rw [gm_135]; decide) (r := 136) gr_135_0 lk7 dX11_say_126 ?_
      refine lv_iload hx hb dX11_say_129 (lv_at hl 0 rfl) ?_
      refine lv_iconst (v := 3) hx hb dX11_say_131 (by decide) ?_
      refine lv_iadd hx hb dX11_say_132 ?_
      refine lv_iload_n hx hb dX11_say_133 rfl (lv_at hl 3 rfl) ?_
      refine lv_iconst (v := 2) hx hb dX11_say_134 (by decide) ?_
      refine lv_icmp_ge (tgt := 143) hx hb dX11_say_135 (by decide) (fun c_135 => ?_) (fun c_135 => ?_)
      · replace HW := HW.1 c_135
        refine lv_iconst (v := 0) hx hb dX11_say_143 (by decide) ?_
        exact B144 x2 x5 x6_95 (x6_95 + (3 : Int32)) (0 : Int32) h_124 g _ _ _ HW hG (lv_sub hl [1, 3, 6, 0] rfl)
      · replace HW := HW.2 c_135
        refine lv_iload hx hb dX11_say_138 (lv_at hl 5 rfl) ?_
        refine lv_goto (tgt := 144) hx hb dX11_say_140 (by decide) ?_
        exact B144 x2 x5 x6_95 (x6_95 + (3 : Int32)) x4 h_124 g _ _ _ HW hG (lv_sub hl [1, 3, 6, 0] rfl)
    · replace HW := HW.2 c_76
      refine lv_bipush (v := (-4)) hx hb dX11_say_79 (by decide) ?_
      exact W.iret (v := (-4 : Int32)) hx hb hr (fun t ht hW => ⟨⟨(-4 : Int32), (h, g), rfl, HW, g_B ht hG⟩, hG.2.2.F ht⟩) hG.2.2.2.2 dX11_say_81
  have B53 : ∀ (x1 : Int32) (x2 : Int32) (x3 : Int32) (x4 : Int32) (x5 : Int32) (h : HI) (g : HL) (H : Heap) (locs : List Loc) (ls : Array Slot), j_X11_say_53 Q x1 x2 x3 x4 x5 h g → gG D cy ad (gA ad s.heap.size) s.heap h g H locs → lv_has ls 7 [(0, .ref (ad 135)), (1, .int x1), (2, .int x2), (3, .int x3), (4, .int x4), (5, .int x5)] → W p l e ({ frames := 2, cells := 0, slots := 0, locals := 47 } : Room) s m args below meth c H locs 0 0 (MQ below (va_Qi (fun (r : Int32) (u : HI × HL) => Q r u.1 u.2) (gB D cy ad s.heap.size) (gA ad s.heap.size)) args s 0 0 (gA ad s.heap.size)) (F0 m 53 ls []) := by
    intro x1 x2 x3 x4 x5 h g H locs ls HW hG hl
    unfold j_X11_say_53 at HW
    refine lv_iload_n hx hb dX11_say_53 rfl (lv_at hl 2 rfl) ?_
    refine lv_if_ne (tgt := 68) hx hb dX11_say_54 (by decide) (fun c_54 => ?_) (fun c_54 => ?_)
    · replace HW := HW.1 c_54
      exact B68 x1 x2 x3 x4 x5 h g _ _ _ HW hG (lv_sub hl [0, 1, 2, 3, 4, 5] rfl)
    · replace HW := HW.2 c_54
      refine lv_iload hx hb dX11_say_57 (lv_at hl 5 rfl) ?_
      obtain ⟨P_59, HC_59, HW⟩ := HW
      refine g_callz (g_runS (As := [.int x5]) (rest := []) ⟨hx, hb, hml, hown, hts⟩ (m_X11_isYear l D cy ad h g H.size x5 P_59 HC_59) (va_cwS 1 hts (gd_S (wm5 114 rfl rfl) (wm5 115 rfl rfl) (wm1 13 rfl rfl) (wm5 116 rfl rfl)) rfl rfl rfl (by decide +kernel) ⟨Nat.le_of_ble_eq_true rfl, Nat.le_of_ble_eq_true rfl⟩) hK hNw hG rfl rfl hl.1 rfl (lv_room (Nat.le_of_ble_eq_true rfl)) dX11_say_59 ⟨Nat.zero_le _, Nat.zero_le _⟩) hG (fun r_59 h_59 g_59 H locs hz hq hG => ?_)
      replace HW := HW r_59 h_59 g_59 hz hq
      refine lv_if_ne (tgt := 68) hx hb dX11_say_62 (by decide) (fun c_62 => ?_) (fun c_62 => ?_)
      · replace HW := HW.1 c_62
        exact B68 x1 x2 x3 x4 x5 h_59 g_59 _ _ _ HW hG (lv_sub hl [0, 1, 2, 3, 4, 5] rfl)
      · replace HW := HW.2 c_62
        refine lv_bipush (v := (-2)) hx hb dX11_say_65 (by decide) ?_
        exact W.iret (v := (-2 : Int32)) hx hb hr (fun t ht hW => ⟨⟨(-2 : Int32), (h_59, g_59), rfl, HW, g_B ht hG⟩, hG.2.2.F ht⟩) hG.2.2.2.2 dX11_say_67
  have E0 : ∀ (H : Heap) (locs : List Loc) (ls : Array Slot), gG D cy ad (gA ad s.heap.size) s.heap h g H locs → lv_has ls 7 [(0, .ref (ad 135)), (1, .int x1), (2, .int x2), (3, .int x3), (4, .int x4), (5, .int x5)] → W p l e ({ frames := 2, cells := 0, slots := 0, locals := 47 } : Room) s m args below meth c H locs 0 0 (MQ below (va_Qi (fun (r : Int32) (u : HI × HL) => Q r u.1 u.2) (gB D cy ad s.heap.size) (gA ad s.heap.size)) args s 0 0 (gA ad s.heap.size)) (F0 m 0 ls []) := by
    intro H locs ls hG hl
    unfold w_X11_say at HW
    refine lv_aload_n hx hb dX11_say_0 rfl (lv_at hl 0 rfl) ?_
    refine lv_iconst (v := 0) hx hb dX11_say_1 (by decide) ?_
    refine lv_iload_n hx hb dX11_say_2 rfl (lv_at hl 1 rfl) ?_
    obtain ⟨P_3, HC_3, HW⟩ := HW
    refine g_callz (g_runV (As := [.int (0 : Int32), .int x1]) (rest := []) ⟨hx, hb, hml, hown, hts⟩ (m_X11_is l D cy ad h g H.size (0 : Int32) x1 P_3 HC_3) (cwV 2 hts (gd_V (wm5 184 rfl rfl) (wm5 186 rfl rfl) (wmp3 (q := (yX11_is, 26)) 14 rfl) (wm1 13 rfl rfl) (wm5 187 rfl rfl)) rfl rfl rfl (by decide +kernel) ⟨Nat.le_of_ble_eq_true rfl, Nat.le_of_ble_eq_true rfl⟩) hK hNw hG gl_135 rfl gk_135 (by decide) rfl rfl hl.1 rfl (lv_room (Nat.le_of_ble_eq_true rfl)) dX11_say_3 ⟨Nat.zero_le _, Nat.zero_le _⟩) hG (fun r_3 h_3 g_3 H locs hz hq hG => ?_)
    replace HW := HW r_3 h_3 g_3 hz hq
    refine lv_if_eq (tgt := 65) hx hb dX11_say_6 (by decide) (fun c_6 => ?_) (fun c_6 => ?_)
    · replace HW := HW.1 c_6
      refine lv_bipush (v := (-2)) hx hb dX11_say_65 (by decide) ?_
      exact W.iret (v := (-2 : Int32)) hx hb hr (fun t ht hW => ⟨⟨(-2 : Int32), (h_3, g_3), rfl, HW, g_B ht hG⟩, hG.2.2.F ht⟩) hG.2.2.2.2 dX11_say_67
    · replace HW := HW.2 c_6
      refine lv_iload_n hx hb dX11_say_9 rfl (lv_at hl 2 rfl) ?_
      refine lv_i2l hx hb dX11_say_10 rfl ?_
      refine lv_lconst (v := 0) hx hb dX11_say_11 (by decide) ?_
      refine lv_ldc2 (v := 3) hx hb hown cn67 dX11_say_12 ?_
      obtain ⟨P_15, HC_15, HW⟩ := HW
      refine g_callz (g_runS (As := [.long ((x2).toInt64), .long (0 : Int64), .long (3 : Int64)]) (rest := []) ⟨hx, hb, hml, hown, hts⟩ (m_X11_in l D cy ad h_3 g_3 H.size ((x2).toInt64) (0 : Int64) (3 : Int64) P_15 HC_15) (va_cwS 3 hts (gd_S (wm5 111 rfl rfl) (wm5 112 rfl rfl) (wm1 13 rfl rfl) (wm5 113 rfl rfl)) rfl rfl rfl (by decide +kernel) ⟨Nat.le_of_ble_eq_true rfl, Nat.le_of_ble_eq_true rfl⟩) hK hNw hG rfl rfl hl.1 rfl (lv_room (Nat.le_of_ble_eq_true rfl)) dX11_say_15 ⟨Nat.zero_le _, Nat.zero_le _⟩) hG (fun r_15 h_15 g_15 H locs hz hq hG => ?_)
      replace HW := HW r_15 h_15 g_15 hz hq
      refine lv_if_eq (tgt := 65) hx hb dX11_say_18 (by decide) (fun c_18 => ?_) (fun c_18 => ?_)
      · replace HW := HW.1 c_18
        refine lv_bipush (v := (-2)) hx hb dX11_say_65 (by decide) ?_
        exact W.iret (v := (-2 : Int32)) hx hb hr (fun t ht hW => ⟨⟨(-2 : Int32), (h_15, g_15), rfl, HW, g_B ht hG⟩, hG.2.2.F ht⟩) hG.2.2.2.2 dX11_say_67
      · replace HW := HW.2 c_18
        refine lv_iload_n hx hb dX11_say_21 rfl (lv_at hl 3 rfl) ?_
        refine lv_i2l hx hb dX11_say_22 rfl ?_
        refine lv_ldc2 (v := (-10000)) hx hb hown cn142 dX11_say_23 ?_
        refine lv_ldc2 (v := 100000) hx hb hown cn73 dX11_say_26 ?_
        obtain ⟨P_29, HC_29, HW⟩ := HW
        refine g_callz (g_runS (As := [.long ((x3).toInt64), .long (-10000 : Int64), .long (100000 : Int64)]) (rest := []) ⟨hx, hb, hml, hown, hts⟩ (m_X11_in l D cy ad h_15 g_15 H.size ((x3).toInt64) (-10000 : Int64) (100000 : Int64) P_29 HC_29) (va_cwS 3 hts (gd_S (wm5 111 rfl rfl) (wm5 112 rfl rfl) (wm1 13 rfl rfl) (wm5 113 rfl rfl)) rfl rfl rfl (by decide +kernel) ⟨Nat.le_of_ble_eq_true rfl, Nat.le_of_ble_eq_true rfl⟩) hK hNw hG rfl rfl hl.1 rfl (lv_room (Nat.le_of_ble_eq_true rfl)) dX11_say_29 ⟨Nat.zero_le _, Nat.zero_le _⟩) hG (fun r_29 h_29 g_29 H locs hz hq hG => ?_)
        replace HW := HW r_29 h_29 g_29 hz hq
        refine lv_if_eq (tgt := 65) hx hb dX11_say_32 (by decide) (fun c_32 => ?_) (fun c_32 => ?_)
        · replace HW := HW.1 c_32
          refine lv_bipush (v := (-2)) hx hb dX11_say_65 (by decide) ?_
          exact W.iret (v := (-2 : Int32)) hx hb hr (fun t ht hW => ⟨⟨(-2 : Int32), (h_29, g_29), rfl, HW, g_B ht hG⟩, hG.2.2.F ht⟩) hG.2.2.2.2 dX11_say_67
        · replace HW := HW.2 c_32
          refine lv_iload_n hx hb dX11_say_35 rfl (lv_at hl 2 rfl) ?_
          refine lv_iconst (v := 2) hx hb dX11_say_36 (by decide) ?_
          refine lv_icmp_ge (tgt := 53) hx hb dX11_say_37 (by decide) (fun c_37 => ?_) (fun c_37 => ?_)
          · replace HW := HW.1 c_37
            exact B53 x1 x2 x3 x4 x5 h_29 g_29 _ _ _ HW hG (lv_sub hl [0, 1, 2, 3, 4, 5] rfl)
          · replace HW := HW.2 c_37
            refine lv_iload hx hb dX11_say_40 (lv_at hl 4 rfl) ?_
            refine lv_i2l hx hb dX11_say_42 rfl ?_
            refine lv_lconst (v := 0) hx hb dX11_say_43 (by decide) ?_
            refine lv_ldc2 (v := 10000) hx hb hown cn128 dX11_say_44 ?_
            obtain ⟨P_47, HC_47, HW⟩ := HW
            refine g_callz (g_runS (As := [.long ((x4).toInt64), .long (0 : Int64), .long (10000 : Int64)]) (rest := []) ⟨hx, hb, hml, hown, hts⟩ (m_X11_in l D cy ad h_29 g_29 H.size ((x4).toInt64) (0 : Int64) (10000 : Int64) P_47 HC_47) (va_cwS 3 hts (gd_S (wm5 111 rfl rfl) (wm5 112 rfl rfl) (wm1 13 rfl rfl) (wm5 113 rfl rfl)) rfl rfl rfl (by decide +kernel) ⟨Nat.le_of_ble_eq_true rfl, Nat.le_of_ble_eq_true rfl⟩) hK hNw hG rfl rfl hl.1 rfl (lv_room (Nat.le_of_ble_eq_true rfl)) dX11_say_47 ⟨Nat.zero_le _, Nat.zero_le _⟩) hG (fun r_47 h_47 g_47 H locs hz hq hG => ?_)
            replace HW := HW r_47 h_47 g_47 hz hq
            refine lv_if_eq (tgt := 65) hx hb dX11_say_50 (by decide) (fun c_50 => ?_) (fun c_50 => ?_)
            · replace HW := HW.1 c_50
              refine lv_bipush (v := (-2)) hx hb dX11_say_65 (by decide) ?_
              exact W.iret (v := (-2 : Int32)) hx hb hr (fun t ht hW => ⟨⟨(-2 : Int32), (h_47, g_47), rfl, HW, g_B ht hG⟩, hG.2.2.F ht⟩) hG.2.2.2.2 dX11_say_67
            · replace HW := HW.2 c_50
              exact B53 x1 x2 x3 x4 x5 h_47 g_47 _ _ _ HW hG (lv_sub hl [0, 1, 2, 3, 4, 5] rfl)
  exact E0 _ _ _ hG hl
