theorem eu_eu {E : Nat → Option (List Value)} {o : Nat} {a b : List Value} : eu (eu E o a) o b = eu E o b := by
  funext q
  unfold eu
  by_cases h : q = o
  · rw [if_pos h, if_pos h]
  · rw [if_neg h, if_neg h, if_neg h]
theorem isT.b {o : Nat} (h : isT o) : gN (o + 1) ≤ 100000 := co_l (P := fun o => gN (o + 1) ≤ 100000) (by decide +kernel) h
theorem gF_n {ad : Nat → Nat} {h : HI} {o n : Nat} (hm : gM o = n) : gF ad h o = (List.range n).map (fun k => match gR o k with | some r => Value.ref (ad r) | none => .int (h o k)) := by subst hm; rfl
theorem gF_T {ad : Nat → Nat} {h : HI} {o : Nat} (hT : isT o) : gF ad h o = [.ref (ad (o + 1)), .int (h o 1), .int (h o 2), .int (h o 3)] := by
  rw [gF_n hT.m]
  show [_, _, _, _] = _
  dsimp only
  rw [hT.r.1, hT.r.2.1, hT.r.2.2.1, hT.r.2.2.2]
theorem gF_B {ad : Nat → Nat} {h : HI} {o : Nat} (hT : isB o) : gF ad h o = [.ref (ad (o + 1)), .int (h o 1)] := by
  rw [gF_n hT.m]
  show [_, _] = _
  dsimp only
  rw [hT.r.1, hT.r.2]
theorem gF_S {ad : Nat → Nat} {h : HI} {o : Nat} (hT : isS o) : gF ad h o = (List.range 12).map (fun j => .ref (ad (o + (1 + 2 * j)))) := by
  rw [gF_n hT.m]
  apply List.map_congr_left
  intro j hj
  rw [(hT.r j (List.mem_range.mp hj)).1]
theorem isS.n0 {o : Nat} (h : isS o) : gN (o + (1 + 2 * 0) + 1) = 120 := co_l (P := fun o => gN (o + (1 + 2 * 0) + 1) = 120) (by decide +kernel) h
theorem isS.n1 {o : Nat} (h : isS o) : gN (o + (1 + 2 * 1) + 1) = 12 := co_l (P := fun o => gN (o + (1 + 2 * 1) + 1) = 12) (by decide +kernel) h
theorem isS.n2 {o : Nat} (h : isS o) : gN (o + (1 + 2 * 2) + 1) = 360 := co_l (P := fun o => gN (o + (1 + 2 * 2) + 1) = 360) (by decide +kernel) h
theorem isS.n3 {o : Nat} (h : isS o) : gN (o + (1 + 2 * 3) + 1) = 240 := co_l (P := fun o => gN (o + (1 + 2 * 3) + 1) = 240) (by decide +kernel) h
theorem isS.n4 {o : Nat} (h : isS o) : gN (o + (1 + 2 * 4) + 1) = 32 := co_l (P := fun o => gN (o + (1 + 2 * 4) + 1) = 32) (by decide +kernel) h
theorem isS.n5 {o : Nat} (h : isS o) : gN (o + (1 + 2 * 5) + 1) = 6 := co_l (P := fun o => gN (o + (1 + 2 * 5) + 1) = 6) (by decide +kernel) h
theorem isS.n6 {o : Nat} (h : isS o) : gN (o + (1 + 2 * 6) + 1) = 27 := co_l (P := fun o => gN (o + (1 + 2 * 6) + 1) = 27) (by decide +kernel) h
theorem isS.n7 {o : Nat} (h : isS o) : gN (o + (1 + 2 * 7) + 1) = 2 := co_l (P := fun o => gN (o + (1 + 2 * 7) + 1) = 2) (by decide +kernel) h
theorem isS.n8 {o : Nat} (h : isS o) : gN (o + (1 + 2 * 8) + 1) = 80 := co_l (P := fun o => gN (o + (1 + 2 * 8) + 1) = 80) (by decide +kernel) h
theorem isS.n9 {o : Nat} (h : isS o) : gN (o + (1 + 2 * 9) + 1) = 6 := co_l (P := fun o => gN (o + (1 + 2 * 9) + 1) = 6) (by decide +kernel) h
theorem isS.n10 {o : Nat} (h : isS o) : gN (o + (1 + 2 * 10) + 1) = 4 := co_l (P := fun o => gN (o + (1 + 2 * 10) + 1) = 4) (by decide +kernel) h
theorem isS.n11 {o : Nat} (h : isS o) : gN (o + (1 + 2 * 11) + 1) = 60 := co_l (P := fun o => gN (o + (1 + 2 * 11) + 1) = 60) (by decide +kernel) h
def j_X8_init_68 (o : Nat) (Q : HI → HL → Prop) (s1 : Int32) (f1 : Int32) (f2 : Int32) (h : HI) (g : HL) : Prop :=
  ((¬ s1 < 0 ∧ s1.toNatClampNeg = (gN (o + 1))) ∧ ∀ h_68 : HI, h_68 = hua h (o + 1) (fun _ => 0) → (∀ h_73 : HI, h_73 = hua h_68 o (fun k => ([0, f1, f2, 0] : List Int32).getD k 0) → Q h_73 g))
def j_X8_init_53 (o : Nat) (Q : HI → HL → Prop) (x1 : Int32) (x2 : Int32) (x3 : Int32) (s1 : Int32) (f2 : Int32) (h : HI) (g : HL) : Prop :=
  ((x3 = 0 → j_X8_init_68 o Q (0 : Int32) s1 f2 h g) ∧ (¬ x3 = 0 → j_X8_init_68 o Q (x1 * x2) s1 f2 h g))
def j_X8_init_40 (o : Nat) (Q : HI → HL → Prop) (x1 : Int32) (x2 : Int32) (x3 : Int32) (s1 : Int32) (h : HI) (g : HL) : Prop :=
  ((x3 = 0 → j_X8_init_53 o Q x1 x2 x3 (0 : Int32) s1 h g) ∧ (¬ x3 = 0 → j_X8_init_53 o Q x1 x2 x3 x2 s1 h g))
def j_X8_init_29 (o : Nat) (Q : HI → HL → Prop) (x1 : Int32) (x2 : Int32) (s0 : Int32) (h : HI) (g : HL) : Prop :=
  ((s0 = 0 → j_X8_init_40 o Q x1 x2 s0 (0 : Int32) h g) ∧ (¬ s0 = 0 → j_X8_init_40 o Q x1 x2 s0 x1 h g))
def j_X8_init_28 (o : Nat) (Q : HI → HL → Prop) (x1 : Int32) (x2 : Int32) (h : HI) (g : HL) : Prop :=
  j_X8_init_29 o Q x1 x2 (0 : Int32) h g
def w_X8_init (o : Nat) (x1 : Int32) (x2 : Int32) (h : HI) (g : HL) (Q : HI → HL → Prop) : Prop :=
  ((x1 ≤ 0 → j_X8_init_28 o Q x1 x2 h g) ∧ (¬ x1 ≤ 0 → (((100 : Int32) < x1 → j_X8_init_28 o Q x1 x2 h g) ∧ (¬ (100 : Int32) < x1 → ((x2 ≤ 0 → j_X8_init_28 o Q x1 x2 h g) ∧ (¬ x2 ≤ 0 → (((20 : Int32) < x2 → j_X8_init_28 o Q x1 x2 h g) ∧ (¬ (20 : Int32) < x2 → j_X8_init_29 o Q x1 x2 (1 : Int32) h g))))))))
set_option maxHeartbeats 40000000 in
set_option maxRecDepth 100000 in
theorem n_X8_init (l : Launch) (D : va_G) (cy : Nat → ClassId) (bs : Nat) (E : Nat → Option (List Value)) (h : HI) (g : HL) (o : Nat) (hT : isT o) (hE : ∀ q, o ≤ q → E q = none) {N : Nat} (hN : gN (o + 1) = N) (x1 : Int32) (x2 : Int32) (Q : HI → HL → Prop) (HW : w_X8_init o x1 x2 h g Q) : Met l yX8_init (wa yX8_init cX8_init 4 none) ({ frames := 1, cells := 1, slots := N, locals := 20 } : Room) (va_Pc [.ref (adB bs o), .int x1, .int x2] (pI D cy bs (o + 1) (eu E o [.null, .int 0, .int 0, .int 0]) h g)) (va_Qv (fun (u : HI × HL) => Q u.1 u.2) (pB D cy bs (o + 2) E) (pA bs)) 1 N (pA bs) := by
  subst hN
  refine Met.ofW (cc := cX8_init) (maxL := 4) (ret := none) (by decide) rfl ?_
  intro p e s m args below meth c s₁ B hml hv
  obtain ⟨hav, hP, hsz, hK, hNw, hAO⟩ := hv
  have hx := B.exec
  have hb := B.bytes
  have hr := B.returns
  have hts := atoms_spec (ws := (wa yX8_init cX8_init 4 none)) B.pre
  have hw := wa_hw hts
  have hown : s.vm.findClass RX8 = some m.cls := findClass_of_methodNamed B.named
  have hlocks := B.notSynchronized
  have hin : meth.name = "<init>" := (name_of_methodNamed B.named B.method).1
  have hG : pG D cy bs (o + 1) (eu E o [.null, .int 0, .int 0, .int 0]) s.heap h g s.heap [] := ⟨hP, va_S.rf, hsz⟩
  clear hP
  have ob1 := hw (.methodLink RX8 3 objectInit) (wm1 36 rfl rfl)
  have ob2 := hw (.instanceMethod objectInit) (wm1 23 rfl rfl)
  have ob3 := hw (.code objectInit ⟨#[0xb1]⟩ 1 none) (wm1 24 rfl rfl)
  have lk9 := hw (.fieldLink RX8 9 "OldWorks$Table" "most" "I") (wm1 39 rfl rfl)
  have lk15 := hw (.fieldLink RX8 15 "OldWorks$Table" "width" "I") (wm1 38 rfl rfl)
  have ac_int := hw (.arrayClass .int) (wm1 50 rfl rfl)
  have lk18 := hw (.fieldLink RX8 18 "OldWorks$Table" "cells" "[I") (wm1 37 rfl rfl)
  rw [show (headSpec (wa yX8_init cX8_init 4 none) ({ frames := 1, cells := 1, slots := gN (o + 1), locals := 20 } : Room)).room = ({ frames := 1, cells := 1, slots := gN (o + 1), locals := 20 } : Room) from rfl]
  have hl := lv_entry ([.ref (adB bs o), .int x1, .int x2]) (n := 4) (Nat.le_of_ble_eq_true rfl)
  rw [show entryFrame m args 4 = entryFrame m ([.ref (adB bs o), .int x1, .int x2] : List Value).toArray 4 from by rw [hav], lg_entry_eq]
  generalize (lg_sl ([.ref (adB bs o), .int x1, .int x2]) ++ List.replicate (4 - (lg_sl ([.ref (adB bs o), .int x1, .int x2])).length) Slot.unset).toArray = ls at hl ⊢
  have hl : lv_has ls 4 [(0, .ref (adB bs o)), (1, .int x1), (2, .int x2)] := hl
  have B68 : ∀ (s1 : Int32) (f1 : Int32) (f2 : Int32) (h : HI) (g : HL) (H : Heap) (locs : List Loc) (ls : Array Slot), j_X8_init_68 o Q s1 f1 f2 h g → pG D cy bs (o + 1) (eu E o [.null, .int f1, .int f2, .int 0]) s.heap h g H locs → lv_has ls 4 [] → W p l e ({ frames := 1, cells := 1, slots := gN (o + 1), locals := 20 } : Room) s m args below meth c H locs 0 0 (MQ below (va_Qv (fun (u : HI × HL) => Q u.1 u.2) (pB D cy bs (o + 2) E) (pA bs)) args s 1 (gN (o + 1)) (pA bs)) (F0 m 68 ls [.int s1, .ref (adB bs o)]) := by
    intro s1 f1 f2 h g H locs ls HW hG hl
    unfold j_X8_init_68 at HW
    refine p_newi hx hb ac_int hK hG hT.a.1 ((eu_ne (by omega)).trans (hE _ (by omega))) HW.1.1 HW.1.2 rfl (isT.b hT) (Nat.le_of_ble_eq_true rfl) (Nat.le_of_eq (Nat.zero_add _)) dX8_init_68 (fun H hG => ?_)
    replace HW := HW.2
    obtain ⟨h_68, eh_68⟩ : ∃ y : HI, y = hua h (o + 1) (fun _ => 0) := ⟨_, rfl⟩
    rw [← eh_68] at hG
    replace HW := HW h_68 eh_68
    have hG : pG D cy bs (o + 2) (eu E o [.null, .int f1, .int f2, .int 0]) s.heap h_68 g H locs := hG
    refine p_putE hx hb hw inG8 tyX8 tyX8_ok nmX8 hown hK hG (by omega) eu_eq rfl hT.k 0 (by decide) (Nat.le_of_ble_eq_true rfl) (ty := .array .int) (by decide +kernel) rfl rfl lk18 (Or.inr ⟨rfl, hin, rfl⟩) dX8_init_70 (fun H locs hG => ?_)
    rw [eu_eu] at hG
    have hG : pG D cy bs (o + 2) (eu E o [.ref (adB bs (o + 1)), .int f1, .int f2, .int 0]) s.heap h_68 g H locs := hG
    have hG := pG_done (f := (fun k => ([0, f1, f2, 0] : List Int32).getD k 0)) hG (hE _ (Nat.le_refl _)) (by rw [hT.k]; decide) (by rw [gF_T hT, hua_eq]; rfl)
    obtain ⟨h_73, eh_73⟩ : ∃ y : HI, y = hua h_68 o (fun k => ([0, f1, f2, 0] : List Int32).getD k 0) := ⟨_, rfl⟩
    rw [← eh_73] at hG
    replace HW := HW h_73 eh_73
    refine W.widen (k := 1) (n := (gN (o + 1))) (by first | exact Nat.le_refl _ | decide | omega) (by first | exact Nat.le_refl _ | decide | omega) ?_
    exact W.vret hx hb hr (fun t ht hW => ⟨⟨(h_73, g), rfl, HW, p_B ht hG⟩, hG.2.1.F ht⟩) hG.2.1.2.2 dX8_init_73
  have B53 : ∀ (x1 : Int32) (x2 : Int32) (x3 : Int32) (s1 : Int32) (f2 : Int32) (h : HI) (g : HL) (H : Heap) (locs : List Loc) (ls : Array Slot), j_X8_init_53 o Q x1 x2 x3 s1 f2 h g → pG D cy bs (o + 1) (eu E o [.null, .int 0, .int f2, .int 0]) s.heap h g H locs → lv_has ls 4 [(0, .ref (adB bs o)), (1, .int x1), (2, .int x2), (3, .int x3)] → W p l e ({ frames := 1, cells := 1, slots := gN (o + 1), locals := 20 } : Room) s m args below meth c H locs 0 0 (MQ below (va_Qv (fun (u : HI × HL) => Q u.1 u.2) (pB D cy bs (o + 2) E) (pA bs)) args s 1 (gN (o + 1)) (pA bs)) (F0 m 53 ls [.int s1, .ref (adB bs o)]) := by
    intro x1 x2 x3 s1 f2 h g H locs ls HW hG hl
    unfold j_X8_init_53 at HW
    refine p_putE hx hb hw inG8 tyX8 tyX8_ok nmX8 hown hK hG (by omega) eu_eq rfl hT.k 1 (by decide) (Nat.le_of_ble_eq_true rfl) (ty := .int) (by decide +kernel) rfl rfl lk15 (Or.inr ⟨rfl, hin, rfl⟩) dX8_init_53 (fun H locs hG => ?_)
    rw [eu_eu] at hG
    have hG : pG D cy bs (o + 1) (eu E o [.null, .int s1, .int f2, .int 0]) s.heap h g H locs := hG
    refine lv_aload_n hx hb dX8_init_56 rfl (lv_at hl 0 rfl) ?_
    refine lv_iload_n hx hb dX8_init_57 rfl (lv_at hl 3 rfl) ?_
    refine lv_if_eq (tgt := 67) hx hb dX8_init_58 (by decide) (fun c_58 => ?_) (fun c_58 => ?_)
    · replace HW := HW.1 c_58
      refine lv_iconst (v := 0) hx hb dX8_init_67 (by decide) ?_
      exact B68 (0 : Int32) s1 f2 h g _ _ _ HW hG (lv_sub hl [] rfl)
    · replace HW := HW.2 c_58
      refine lv_iload_n hx hb dX8_init_61 rfl (lv_at hl 1 rfl) ?_
      refine lv_iload_n hx hb dX8_init_62 rfl (lv_at hl 2 rfl) ?_
      refine lv_imul hx hb dX8_init_63 ?_
      refine lv_goto (tgt := 68) hx hb dX8_init_64 (by decide) ?_
      exact B68 (x1 * x2) s1 f2 h g _ _ _ HW hG (lv_sub hl [] rfl)
  have B40 : ∀ (x1 : Int32) (x2 : Int32) (x3 : Int32) (s1 : Int32) (h : HI) (g : HL) (H : Heap) (locs : List Loc) (ls : Array Slot), j_X8_init_40 o Q x1 x2 x3 s1 h g → pG D cy bs (o + 1) (eu E o [.null, .int 0, .int 0, .int 0]) s.heap h g H locs → lv_has ls 4 [(0, .ref (adB bs o)), (1, .int x1), (2, .int x2), (3, .int x3)] → W p l e ({ frames := 1, cells := 1, slots := gN (o + 1), locals := 20 } : Room) s m args below meth c H locs 0 0 (MQ below (va_Qv (fun (u : HI × HL) => Q u.1 u.2) (pB D cy bs (o + 2) E) (pA bs)) args s 1 (gN (o + 1)) (pA bs)) (F0 m 40 ls [.int s1, .ref (adB bs o)]) := by
    intro x1 x2 x3 s1 h g H locs ls HW hG hl
    unfold j_X8_init_40 at HW
    refine p_putE hx hb hw inG8 tyX8 tyX8_ok nmX8 hown hK hG (by omega) eu_eq rfl hT.k 2 (by decide) (Nat.le_of_ble_eq_true rfl) (ty := .int) (by decide +kernel) rfl rfl lk9 (Or.inr ⟨rfl, hin, rfl⟩) dX8_init_40 (fun H locs hG => ?_)
    rw [eu_eu] at hG
    have hG : pG D cy bs (o + 1) (eu E o [.null, .int 0, .int s1, .int 0]) s.heap h g H locs := hG
    refine lv_aload_n hx hb dX8_init_43 rfl (lv_at hl 0 rfl) ?_
    refine lv_iload_n hx hb dX8_init_44 rfl (lv_at hl 3 rfl) ?_
    refine lv_if_eq (tgt := 52) hx hb dX8_init_45 (by decide) (fun c_45 => ?_) (fun c_45 => ?_)
    · replace HW := HW.1 c_45
      refine lv_iconst (v := 0) hx hb dX8_init_52 (by decide) ?_
      exact B53 x1 x2 x3 (0 : Int32) s1 h g _ _ _ HW hG (lv_sub hl [0, 1, 2, 3] rfl)
    · replace HW := HW.2 c_45
      refine lv_iload_n hx hb dX8_init_48 rfl (lv_at hl 2 rfl) ?_
      refine lv_goto (tgt := 53) hx hb dX8_init_49 (by decide) ?_
      exact B53 x1 x2 x3 x2 s1 h g _ _ _ HW hG (lv_sub hl [0, 1, 2, 3] rfl)
  have B29 : ∀ (x1 : Int32) (x2 : Int32) (s0 : Int32) (h : HI) (g : HL) (H : Heap) (locs : List Loc) (ls : Array Slot), j_X8_init_29 o Q x1 x2 s0 h g → pG D cy bs (o + 1) (eu E o [.null, .int 0, .int 0, .int 0]) s.heap h g H locs → lv_has ls 4 [(0, .ref (adB bs o)), (1, .int x1), (2, .int x2)] → W p l e ({ frames := 1, cells := 1, slots := gN (o + 1), locals := 20 } : Room) s m args below meth c H locs 0 0 (MQ below (va_Qv (fun (u : HI × HL) => Q u.1 u.2) (pB D cy bs (o + 2) E) (pA bs)) args s 1 (gN (o + 1)) (pA bs)) (F0 m 29 ls [.int s0]) := by
    intro x1 x2 s0 h g H locs ls HW hG hl
    unfold j_X8_init_29 at HW
    refine lv_istore_n (lv' := [(3, .int s0), (0, .ref (adB bs o)), (1, .int x1), (2, .int x2)]) hx hb dX8_init_29 rfl hl (by decide) rfl (fun ls hl => ?_)
    refine lv_aload_n hx hb dX8_init_30 rfl (lv_at hl 1 rfl) ?_
    refine lv_iload_n hx hb dX8_init_31 rfl (lv_at hl 0 rfl) ?_
    refine lv_if_eq (tgt := 39) hx hb dX8_init_32 (by decide) (fun c_32 => ?_) (fun c_32 => ?_)
    · replace HW := HW.1 c_32
      refine lv_iconst (v := 0) hx hb dX8_init_39 (by decide) ?_
      exact B40 x1 x2 s0 (0 : Int32) h g _ _ _ HW hG (lv_sub hl [1, 2, 3, 0] rfl)
    · replace HW := HW.2 c_32
      refine lv_iload_n hx hb dX8_init_35 rfl (lv_at hl 2 rfl) ?_
      refine lv_goto (tgt := 40) hx hb dX8_init_36 (by decide) ?_
      exact B40 x1 x2 s0 x1 h g _ _ _ HW hG (lv_sub hl [1, 2, 3, 0] rfl)
  have B28 : ∀ (x1 : Int32) (x2 : Int32) (h : HI) (g : HL) (H : Heap) (locs : List Loc) (ls : Array Slot), j_X8_init_28 o Q x1 x2 h g → pG D cy bs (o + 1) (eu E o [.null, .int 0, .int 0, .int 0]) s.heap h g H locs → lv_has ls 4 [(0, .ref (adB bs o)), (1, .int x1), (2, .int x2)] → W p l e ({ frames := 1, cells := 1, slots := gN (o + 1), locals := 20 } : Room) s m args below meth c H locs 0 0 (MQ below (va_Qv (fun (u : HI × HL) => Q u.1 u.2) (pB D cy bs (o + 2) E) (pA bs)) args s 1 (gN (o + 1)) (pA bs)) (F0 m 28 ls []) := by
    intro x1 x2 h g H locs ls HW hG hl
    unfold j_X8_init_28 at HW
    refine lv_iconst (v := 0) hx hb dX8_init_28 (by decide) ?_
    exact B29 x1 x2 (0 : Int32) h g _ _ _ HW hG (lv_sub hl [0, 1, 2] rfl)
  have E0 : ∀ (H : Heap) (locs : List Loc) (ls : Array Slot), pG D cy bs (o + 1) (eu E o [.null, .int 0, .int 0, .int 0]) s.heap h g H locs → lv_has ls 4 [(0, .ref (adB bs o)), (1, .int x1), (2, .int x2)] → W p l e ({ frames := 1, cells := 1, slots := gN (o + 1), locals := 20 } : Room) s m args below meth c H locs 0 0 (MQ below (va_Qv (fun (u : HI × HL) => Q u.1 u.2) (pB D cy bs (o + 2) E) (pA bs)) args s 1 (gN (o + 1)) (pA bs)) (F0 m 0 ls []) := by
    intro H locs ls hG hl
    unfold w_X8_init at HW
    refine lv_aload_n hx hb dX8_init_0 rfl (lv_at hl 0 rfl) ?_
    refine W.objInit hx hb hown ob1 ob2 ob3 rfl (hl.1.trans hml.symm) rfl dX8_init_1 (Nat.le_of_ble_eq_true rfl) (Nat.le_of_ble_eq_true rfl) ?_
    refine W.eq (g2 := F0 m 4 ls []) rfl ?_
    refine lv_iload_n hx hb dX8_init_4 rfl (lv_at hl 1 rfl) ?_
    refine lv_if_le (tgt := 28) hx hb dX8_init_5 (by decide) (fun c_5 => ?_) (fun c_5 => ?_)
    · replace HW := HW.1 c_5
      exact B28 x1 x2 h g _ _ _ HW hG (lv_sub hl [0, 1, 2] rfl)
    · replace HW := HW.2 c_5
      refine lv_iload_n hx hb dX8_init_8 rfl (lv_at hl 1 rfl) ?_
      refine lv_bipush (v := 100) hx hb dX8_init_9 (by decide) ?_
      refine lv_icmp_gt (tgt := 28) hx hb dX8_init_11 (by decide) (fun c_11 => ?_) (fun c_11 => ?_)
      · replace HW := HW.1 c_11
        exact B28 x1 x2 h g _ _ _ HW hG (lv_sub hl [0, 1, 2] rfl)
      · replace HW := HW.2 c_11
        refine lv_iload_n hx hb dX8_init_14 rfl (lv_at hl 2 rfl) ?_
        refine lv_if_le (tgt := 28) hx hb dX8_init_15 (by decide) (fun c_15 => ?_) (fun c_15 => ?_)
        · replace HW := HW.1 c_15
          exact B28 x1 x2 h g _ _ _ HW hG (lv_sub hl [0, 1, 2] rfl)
        · replace HW := HW.2 c_15
          refine lv_iload_n hx hb dX8_init_18 rfl (lv_at hl 2 rfl) ?_
          refine lv_bipush (v := 20) hx hb dX8_init_19 (by decide) ?_
          refine lv_icmp_gt (tgt := 28) hx hb dX8_init_21 (by decide) (fun c_21 => ?_) (fun c_21 => ?_)
          · replace HW := HW.1 c_21
            exact B28 x1 x2 h g _ _ _ HW hG (lv_sub hl [0, 1, 2] rfl)
          · replace HW := HW.2 c_21
            refine lv_iconst (v := 1) hx hb dX8_init_24 (by decide) ?_
            refine lv_goto (tgt := 29) hx hb dX8_init_25 (by decide) ?_
            exact B29 x1 x2 (1 : Int32) h g _ _ _ HW hG (lv_sub hl [0, 1, 2] rfl)
  exact E0 _ _ _ hG hl

def w_X0_init (o : Nat) (h : HI) (g : HL) (Q : HI → HL → Prop) : Prop :=
  (∀ h_7 : HI, h_7 = hua h (o + 1) (fun _ => 0) → (∀ h_17 : HI, h_17 = hua h_7 o (fun k => ([0, (1 : Int32)] : List Int32).getD k 0) → Q h_17 g))
set_option maxHeartbeats 40000000 in
set_option maxRecDepth 100000 in
theorem n_X0_init (l : Launch) (D : va_G) (cy : Nat → ClassId) (bs : Nat) (E : Nat → Option (List Value)) (h : HI) (g : HL) (o : Nat) (hT : isB o) (hE : ∀ q, o ≤ q → E q = none)  (Q : HI → HL → Prop) (HW : w_X0_init o h g Q) : Met l yX0_init (wa yX0_init cX0_init 1 none) ({ frames := 1, cells := 1, slots := 70, locals := 20 } : Room) (va_Pc [.ref (adB bs o)] (pI D cy bs (o + 1) (eu E o [.null, .int 0]) h g)) (va_Qv (fun (u : HI × HL) => Q u.1 u.2) (pB D cy bs (o + 2) E) (pA bs)) 1 70 (pA bs) := by
  refine Met.ofW (cc := cX0_init) (maxL := 1) (ret := none) (by decide) rfl ?_
  intro p e s m args below meth c s₁ B hml hv
  obtain ⟨hav, hP, hsz, hK, hNw, hAO⟩ := hv
  have hx := B.exec
  have hb := B.bytes
  have hr := B.returns
  have hts := atoms_spec (ws := (wa yX0_init cX0_init 1 none)) B.pre
  have hw := wa_hw hts
  have hown : s.vm.findClass RX0 = some m.cls := findClass_of_methodNamed B.named
  have hlocks := B.notSynchronized
  have hin : meth.name = "<init>" := (name_of_methodNamed B.named B.method).1
  have hG : pG D cy bs (o + 1) (eu E o [.null, .int 0]) s.heap h g s.heap [] := ⟨hP, va_S.rf, hsz⟩
  clear hP
  have ob1 := hw (.methodLink RX0 5 objectInit) (wm2 80 rfl rfl)
  have ob2 := hw (.instanceMethod objectInit) (wm1 23 rfl rfl)
  have ob3 := hw (.code objectInit ⟨#[0xb1]⟩ 1 none) (wm1 24 rfl rfl)
  have ac_int := hw (.arrayClass .int) (wm1 50 rfl rfl)
  have lk11 := hw (.fieldLink RX0 11 "OldWorks$Big" "digits" "[I") (wm2 81 rfl rfl)
  have lk15 := hw (.fieldLink RX0 15 "OldWorks$Big" "many" "I") (wm2 82 rfl rfl)
  rw [show (headSpec (wa yX0_init cX0_init 1 none) ({ frames := 1, cells := 1, slots := 70, locals := 20 } : Room)).room = ({ frames := 1, cells := 1, slots := 70, locals := 20 } : Room) from rfl]
  have hl := lv_entry ([.ref (adB bs o)]) (n := 1) (Nat.le_of_ble_eq_true rfl)
  rw [show entryFrame m args 1 = entryFrame m ([.ref (adB bs o)] : List Value).toArray 1 from by rw [hav], lg_entry_eq]
  generalize (lg_sl ([.ref (adB bs o)]) ++ List.replicate (1 - (lg_sl ([.ref (adB bs o)])).length) Slot.unset).toArray = ls at hl ⊢
  have hl : lv_has ls 1 [(0, .ref (adB bs o))] := hl
  have E0 : ∀ (H : Heap) (locs : List Loc) (ls : Array Slot), pG D cy bs (o + 1) (eu E o [.null, .int 0]) s.heap h g H locs → lv_has ls 1 [(0, .ref (adB bs o))] → W p l e ({ frames := 1, cells := 1, slots := 70, locals := 20 } : Room) s m args below meth c H locs 0 0 (MQ below (va_Qv (fun (u : HI × HL) => Q u.1 u.2) (pB D cy bs (o + 2) E) (pA bs)) args s 1 70 (pA bs)) (F0 m 0 ls []) := by
    intro H locs ls hG hl
    unfold w_X0_init at HW
    refine lv_aload_n hx hb dX0_init_0 rfl (lv_at hl 0 rfl) ?_
    refine W.objInit hx hb hown ob1 ob2 ob3 rfl (hl.1.trans hml.symm) rfl dX0_init_1 (Nat.le_of_ble_eq_true rfl) (Nat.le_of_ble_eq_true rfl) ?_
    refine W.eq (g2 := F0 m 4 ls []) rfl ?_
    refine lv_aload_n hx hb dX0_init_4 rfl (lv_at hl 0 rfl) ?_
    refine lv_bipush (v := 70) hx hb dX0_init_5 (by decide) ?_
    refine p_newi hx hb ac_int hK hG hT.a.1 ((eu_ne (by omega)).trans (hE _ (by omega))) (by decide) (by decide) (hT.a.2.2) (by decide) (Nat.le_of_ble_eq_true rfl) (Nat.le_of_ble_eq_true rfl) dX0_init_7 (fun H hG => ?_)
    obtain ⟨h_7, eh_7⟩ : ∃ y : HI, y = hua h (o + 1) (fun _ => 0) := ⟨_, rfl⟩
    rw [← eh_7] at hG
    replace HW := HW h_7 eh_7
    have hG : pG D cy bs (o + 2) (eu E o [.null, .int 0]) s.heap h_7 g H locs := hG
    refine p_putE hx hb hw inG0 tyX0 tyX0_ok nmX0 hown hK hG (by omega) eu_eq rfl hT.k 0 (by decide) (Nat.le_of_ble_eq_true rfl) (ty := .array .int) (by decide +kernel) rfl rfl lk11 (Or.inr ⟨rfl, hin, rfl⟩) dX0_init_9 (fun H locs hG => ?_)
    rw [eu_eu] at hG
    have hG : pG D cy bs (o + 2) (eu E o [.ref (adB bs (o + 1)), .int 0]) s.heap h_7 g H locs := hG
    refine lv_aload_n hx hb dX0_init_12 rfl (lv_at hl 0 rfl) ?_
    refine lv_iconst (v := 1) hx hb dX0_init_13 (by decide) ?_
    refine p_putE hx hb hw inG0 tyX0 tyX0_ok nmX0 hown hK hG (by omega) eu_eq rfl hT.k 1 (by decide) (Nat.le_of_ble_eq_true rfl) (ty := .int) (by decide +kernel) rfl rfl lk15 (Or.inl rfl) dX0_init_14 (fun H locs hG => ?_)
    rw [eu_eu] at hG
    have hG : pG D cy bs (o + 2) (eu E o [.ref (adB bs (o + 1)), .int (1 : Int32)]) s.heap h_7 g H locs := hG
    have hG := pG_done (f := (fun k => ([0, (1 : Int32)] : List Int32).getD k 0)) hG (hE _ (Nat.le_refl _)) (by rw [hT.k]; decide) (by rw [gF_B hT, hua_eq]; rfl)
    obtain ⟨h_17, eh_17⟩ : ∃ y : HI, y = hua h_7 o (fun k => ([0, (1 : Int32)] : List Int32).getD k 0) := ⟨_, rfl⟩
    rw [← eh_17] at hG
    replace HW := HW h_17 eh_17
    refine W.widen (k := 1) (n := 70) (by first | exact Nat.le_refl _ | decide | omega) (by first | exact Nat.le_refl _ | decide | omega) ?_
    exact W.vret hx hb hr (fun t ht hW => ⟨⟨(h_17, g), rfl, HW, p_B ht hG⟩, hG.2.1.F ht⟩) hG.2.1.2.2 dX0_init_17
  exact E0 _ _ _ hG hl

def b_X6_init_198 (o : Nat) (Q : HI → HL → Prop) (K198 : Int32 → HI → HL → Prop) (x1 : Int32) (h : HI) (g : HL) : Prop :=
  (((4 : Int32) ≤ x1 → (∃ P_229 : Int32 → HI → HL → Prop, w_X8_add (o + 15) (0 : Int32) (0 : Int32) (0 : Int32) (0 : Int32) h g P_229 ∧ ∀ (r_229 : Int32) (h_229 : HI) (g_229 : HL), P_229 r_229 h_229 g_229 → (∀ h_233 : HI, h_233 = hua h_229 o (fun k => ([0, 0, 0, 0, 0, 0, 0, 0, 0, 0, 0, 0] : List Int32).getD k 0) → Q h_233 g_229))) ∧ (¬ (4 : Int32) ≤ x1 → (∃ P_211 : Int32 → HI → HL → Prop, w_X8_add (o + 21) (0 : Int32) (0 : Int32) (0 : Int32) (0 : Int32) h g P_211 ∧ ∀ (r_211 : Int32) (h_211 : HI) (g_211 : HL), P_211 r_211 h_211 g_211 → (∀ x1_215 : Int32, x1_215 = (x1 + 1) → K198 x1_215 h_211 g_211))))
def F_X6_init_198 (o : Nat) (Q : HI → HL → Prop) (K : Int32 × HI × HL → Prop) (q : Int32 × HI × HL) : Prop := b_X6_init_198 o Q (fun x1 h g => K (x1, h, g)) q.1 q.2.1 q.2.2
def b_X6_init_172 (o : Nat) (Q : HI → HL → Prop) (K172 : Int32 → HI → HL → Prop) (x1 : Int32) (h : HI) (g : HL) : Prop :=
  (((4 : Int32) ≤ x1 → lpE (F_X6_init_198 o Q) ((0 : Int32), h, g)) ∧ (¬ (4 : Int32) ≤ x1 → (∃ P_186 : Int32 → HI → HL → Prop, w_X8_add (o + 3) (1 : Int32) (1 : Int32) (100000 : Int32) (0 : Int32) h g P_186 ∧ ∀ (r_186 : Int32) (h_186 : HI) (g_186 : HL), P_186 r_186 h_186 g_186 → (∀ x1_190 : Int32, x1_190 = (x1 + 1) → K172 x1_190 h_186 g_186))))
def F_X6_init_172 (o : Nat) (Q : HI → HL → Prop) (K : Int32 × HI × HL → Prop) (q : Int32 × HI × HL) : Prop := b_X6_init_172 o Q (fun x1 h g => K (x1, h, g)) q.1 q.2.1 q.2.2
def w_X6_init (o : Nat) (h : HI) (g : HL) (Q : HI → HL → Prop) : Prop :=
  (∃ P_12 : HI → HL → Prop, w_X8_init (o + 1) (24 : Int32) (5 : Int32) h g P_12 ∧ ∀ (h_12 : HI) (g_12 : HL), P_12 h_12 g_12 → (∃ P_25 : HI → HL → Prop, w_X8_init (o + 3) (4 : Int32) (3 : Int32) h_12 g_12 P_25 ∧ ∀ (h_25 : HI) (g_25 : HL), P_25 h_25 g_25 → (∃ P_40 : HI → HL → Prop, w_X8_init (o + 5) (60 : Int32) (6 : Int32) h_25 g_25 P_40 ∧ ∀ (h_40 : HI) (g_40 : HL), P_40 h_40 g_40 → (∃ P_55 : HI → HL → Prop, w_X8_init (o + 7) (16 : Int32) (15 : Int32) h_40 g_40 P_55 ∧ ∀ (h_55 : HI) (g_55 : HL), P_55 h_55 g_55 → (∃ P_69 : HI → HL → Prop, w_X8_init (o + 9) (8 : Int32) (4 : Int32) h_55 g_55 P_69 ∧ ∀ (h_69 : HI) (g_69 : HL), P_69 h_69 g_69 → (∃ P_83 : HI → HL → Prop, w_X8_init (o + 11) (6 : Int32) (1 : Int32) h_69 g_69 P_83 ∧ ∀ (h_83 : HI) (g_83 : HL), P_83 h_83 g_83 → (∃ P_97 : HI → HL → Prop, w_X8_init (o + 13) (9 : Int32) (3 : Int32) h_83 g_83 P_97 ∧ ∀ (h_97 : HI) (g_97 : HL), P_97 h_97 g_97 → (∃ P_110 : HI → HL → Prop, w_X8_init (o + 15) (1 : Int32) (2 : Int32) h_97 g_97 P_110 ∧ ∀ (h_110 : HI) (g_110 : HL), P_110 h_110 g_110 → (∃ P_124 : HI → HL → Prop, w_X8_init (o + 17) (40 : Int32) (2 : Int32) h_110 g_110 P_124 ∧ ∀ (h_124 : HI) (g_124 : HL), P_124 h_124 g_124 → (∃ P_137 : HI → HL → Prop, w_X8_init (o + 19) (3 : Int32) (2 : Int32) h_124 g_124 P_137 ∧ ∀ (h_137 : HI) (g_137 : HL), P_137 h_137 g_137 → (∃ P_150 : HI → HL → Prop, w_X8_init (o + 21) (4 : Int32) (1 : Int32) h_137 g_137 P_150 ∧ ∀ (h_150 : HI) (g_150 : HL), P_150 h_150 g_150 → (∃ P_164 : HI → HL → Prop, w_X8_init (o + 23) (60 : Int32) (1 : Int32) h_150 g_150 P_164 ∧ ∀ (h_164 : HI) (g_164 : HL), P_164 h_164 g_164 → lpE (F_X6_init_172 o Q) ((0 : Int32), h_164, g_164)))))))))))))
set_option maxHeartbeats 40000000 in
set_option maxRecDepth 100000 in
theorem n_X6_init (l : Launch) (D : va_G) (cy : Nat → ClassId) (bs : Nat) (E : Nat → Option (List Value)) (h : HI) (g : HL) (o : Nat) (hT : isS o) (hE : ∀ q, o ≤ q → E q = none)  (Q : HI → HL → Prop) (HW : w_X6_init o h g Q) : Met l yX6_init (wa yX6_init cX6_init 2 none) ({ frames := 2, cells := 24, slots := 997, locals := 50 } : Room) (va_Pc [.ref (adB bs o)] (pI D cy bs (o + 1) (eu E o [.null, .null, .null, .null, .null, .null, .null, .null, .null, .null, .null, .null]) h g)) (va_Qv (fun (u : HI × HL) => Q u.1 u.2) (pB D cy bs (o + 25) E) (pA bs)) 24 997 (pA bs) := by
  refine Met.ofW (cc := cX6_init) (maxL := 2) (ret := none) (by decide) rfl ?_
  intro p e s m args below meth c s₁ B hml hv
  obtain ⟨hav, hP, hsz, hK, hNw, hAO⟩ := hv
  have hx := B.exec
  have hb := B.bytes
  have hr := B.returns
  have hts := atoms_spec (ws := (wa yX6_init cX6_init 2 none)) B.pre
  have hw := wa_hw hts
  have hown : s.vm.findClass RX6 = some m.cls := findClass_of_methodNamed B.named
  have hlocks := B.notSynchronized
  have hin : meth.name = "<init>" := (name_of_methodNamed B.named B.method).1
  have hG : pG D cy bs (o + 1) (eu E o [.null, .null, .null, .null, .null, .null, .null, .null, .null, .null, .null, .null]) s.heap h g s.heap [] := ⟨hP, va_S.rf, hsz⟩
  clear hP
  have ob1 := hw (.methodLink RX6 3 objectInit) (wm1 30 rfl rfl)
  have ob2 := hw (.instanceMethod objectInit) (wm1 23 rfl rfl)
  have ob3 := hw (.code objectInit ⟨#[0xb1]⟩ 1 none) (wm1 24 rfl rfl)
  have lk14 := hw (.fieldLink RX6 14 "OldWorks$Shop" "parts" "LOldWorks$Table;") (wm1 60 rfl rfl)
  have lk20 := hw (.fieldLink RX6 20 "OldWorks$Shop" "families" "LOldWorks$Table;") (wm1 65 rfl rfl)
  have lk23 := hw (.fieldLink RX6 23 "OldWorks$Shop" "sayings" "LOldWorks$Table;") (wm1 68 rfl rfl)
  have lk26 := hw (.fieldLink RX6 26 "OldWorks$Shop" "chains" "LOldWorks$Table;") (wm1 71 rfl rfl)
  have lk29 := hw (.fieldLink RX6 29 "OldWorks$Shop" "works" "LOldWorks$Table;") (wm1 74 rfl rfl)
  have lk32 := hw (.fieldLink RX6 32 "OldWorks$Shop" "machines" "LOldWorks$Table;") (wm1 77 rfl rfl)
  have lk35 := hw (.fieldLink RX6 35 "OldWorks$Shop" "spares" "LOldWorks$Table;") (wm1 80 rfl rfl)
  have lk38 := hw (.fieldLink RX6 38 "OldWorks$Shop" "odds" "LOldWorks$Table;") (wm1 83 rfl rfl)
  have lk41 := hw (.fieldLink RX6 41 "OldWorks$Shop" "loads" "LOldWorks$Table;") (wm1 86 rfl rfl)
  have lk44 := hw (.fieldLink RX6 44 "OldWorks$Shop" "hands" "LOldWorks$Table;") (wm1 89 rfl rfl)
  have lk47 := hw (.fieldLink RX6 47 "OldWorks$Shop" "runs" "LOldWorks$Table;") (wm1 92 rfl rfl)
  have lk52 := hw (.fieldLink RX6 52 "OldWorks$Shop" "signs" "LOldWorks$Table;") (wm1 95 rfl rfl)
  have cn55 := hw (.constant RX6 55 (100000)) (wm1 51 rfl rfl)
  rw [show (headSpec (wa yX6_init cX6_init 2 none) ({ frames := 2, cells := 24, slots := 997, locals := 50 } : Room)).room = ({ frames := 2, cells := 24, slots := 997, locals := 50 } : Room) from rfl]
  have hl := lv_entry ([.ref (adB bs o)]) (n := 2) (Nat.le_of_ble_eq_true rfl)
  rw [show entryFrame m args 2 = entryFrame m ([.ref (adB bs o)] : List Value).toArray 2 from by rw [hav], lg_entry_eq]
  generalize (lg_sl ([.ref (adB bs o)]) ++ List.replicate (2 - (lg_sl ([.ref (adB bs o)])).length) Slot.unset).toArray = ls at hl ⊢
  have hl : lv_has ls 2 [(0, .ref (adB bs o))] := hl
  have L198 : ∀ (n : Nat) (x1 : Int32) (h : HI) (g : HL) (H : Heap) (locs : List Loc) (ls : Array Slot), lpN (F_X6_init_198 o Q) n (x1, h, g) → pG D cy bs (o + 25) (eu E o [.ref (adB bs (o + 1)), .ref (adB bs (o + 3)), .ref (adB bs (o + 5)), .ref (adB bs (o + 7)), .ref (adB bs (o + 9)), .ref (adB bs (o + 11)), .ref (adB bs (o + 13)), .ref (adB bs (o + 15)), .ref (adB bs (o + 17)), .ref (adB bs (o + 19)), .ref (adB bs (o + 21)), .ref (adB bs (o + 23))]) s.heap h g H locs → lv_has ls 2 [(0, .ref (adB bs o)), (1, .int x1)] → W p l e ({ frames := 2, cells := 24, slots := 997, locals := 50 } : Room) s m args below meth c H locs 24 (0 + 4 + 120 + 4 + 12 + 4 + 360 + 4 + 240 + 4 + 32 + 4 + 6 + 4 + 27 + 4 + 2 + 4 + 80 + 4 + 6 + 4 + 4 + 4 + 60) (MQ below (va_Qv (fun (u : HI × HL) => Q u.1 u.2) (pB D cy bs (o + 25) E) (pA bs)) args s 24 997 (pA bs)) (F0 m 198 ls []) := by
    intro n
    induction n with
    | zero => intro x1 h g H locs ls HW; exact HW.elim
    | succ n ih =>
      intro x1 h g H locs ls HW hG hl
      have HW : b_X6_init_198 o Q (fun x1 h g => lpN (F_X6_init_198 o Q) n (x1, h, g)) x1 h g := HW
      generalize hKe : (fun (x1 : Int32) (h : HI) (g : HL) => lpN (F_X6_init_198 o Q) n (x1, h, g)) = K198 at HW
      have hK198 : ∀ (x1 : Int32) (h : HI) (g : HL) (H : Heap) (locs : List Loc) (ls : Array Slot), K198 x1 h g → pG D cy bs (o + 25) (eu E o [.ref (adB bs (o + 1)), .ref (adB bs (o + 3)), .ref (adB bs (o + 5)), .ref (adB bs (o + 7)), .ref (adB bs (o + 9)), .ref (adB bs (o + 11)), .ref (adB bs (o + 13)), .ref (adB bs (o + 15)), .ref (adB bs (o + 17)), .ref (adB bs (o + 19)), .ref (adB bs (o + 21)), .ref (adB bs (o + 23))]) s.heap h g H locs → lv_has ls 2 [(0, .ref (adB bs o)), (1, .int x1)] → W p l e ({ frames := 2, cells := 24, slots := 997, locals := 50 } : Room) s m args below meth c H locs 24 (0 + 4 + 120 + 4 + 12 + 4 + 360 + 4 + 240 + 4 + 32 + 4 + 6 + 4 + 27 + 4 + 2 + 4 + 80 + 4 + 6 + 4 + 4 + 4 + 60) (MQ below (va_Qv (fun (u : HI × HL) => Q u.1 u.2) (pB D cy bs (o + 25) E) (pA bs)) args s 24 997 (pA bs)) (F0 m 198 ls []) := by subst hKe; exact ih
      clear ih
      clear hKe
      unfold b_X6_init_198 at HW
      refine lv_iload_n hx hb dX6_init_198 rfl (lv_at hl 1 rfl) ?_
      refine lv_iconst (v := 4) hx hb dX6_init_199 (by decide) ?_
      refine lv_icmp_ge (tgt := 221) hx hb dX6_init_200 (by decide) (fun c_200 => ?_) (fun c_200 => ?_)
      · replace HW := HW.1 c_200
        refine lv_aload_n hx hb dX6_init_221 rfl (lv_at hl 0 rfl) ?_
        refine p_getE hx hb hw inG6 hown hK hG (by omega) eu_eq rfl hT.k 7 (by decide) (v := .ref (adB bs (o + 15))) rfl lk38 dX6_init_222 ?_
        refine lv_iconst (v := 0) hx hb dX6_init_225 (by decide) ?_
        refine lv_iconst (v := 0) hx hb dX6_init_226 (by decide) ?_
        refine lv_iconst (v := 0) hx hb dX6_init_227 (by decide) ?_
        refine lv_iconst (v := 0) hx hb dX6_init_228 (by decide) ?_
        obtain ⟨P_229, HC_229, HW⟩ := HW
        refine p_calli (p_runV (As := [.int (0 : Int32), .int (0 : Int32), .int (0 : Int32), .int (0 : Int32)]) (rest := []) ⟨hx, hb, hml, hown, hts⟩ (n_X8_add l D cy bs (o + 25) (eu E o [.ref (adB bs (o + 1)), .ref (adB bs (o + 3)), .ref (adB bs (o + 5)), .ref (adB bs (o + 7)), .ref (adB bs (o + 9)), .ref (adB bs (o + 11)), .ref (adB bs (o + 13)), .ref (adB bs (o + 15)), .ref (adB bs (o + 17)), .ref (adB bs (o + 19)), .ref (adB bs (o + 21)), .ref (adB bs (o + 23))]) h g (o + 15) (show isT (o + 15) from (hT.r 7 (by decide)).2) ⟨by omega, ((eu_ne (by omega)).trans (hE _ (by omega)))⟩ ⟨by omega, ((eu_ne (by omega)).trans (hE _ (by omega)))⟩ (0 : Int32) (0 : Int32) (0 : Int32) (0 : Int32) P_229 HC_229) (cwV 4 hts (gd_V (wm1 52 rfl rfl) (wm1 53 rfl rfl) (wm1 54 rfl rfl) (wm1 3 rfl rfl) (wm1 55 rfl rfl)) rfl rfl rfl (by decide +kernel) ⟨Nat.le_of_ble_eq_true rfl, Nat.le_of_ble_eq_true rfl⟩) hK hNw hAO hG ⟨by omega, ((eu_ne (by omega)).trans (hE _ (by omega)))⟩ rfl (show gK (o + 15) = 8 from ((hT.r 7 (by decide)).2).k) (by decide) rfl rfl hl.1 rfl (lv_room (Nat.le_of_ble_eq_true rfl)) dX6_init_229 ⟨Nat.le_of_ble_eq_true rfl, Nat.le_of_ble_eq_true rfl⟩) hG (fun r_229 h_229 g_229 H locs hq hG => ?_)
        replace HW := HW r_229 h_229 g_229 hq
        refine lv_pop hx hb dX6_init_232 rfl ?_
        have hG := pG_done (f := (fun k => ([0, 0, 0, 0, 0, 0, 0, 0, 0, 0, 0, 0] : List Int32).getD k 0)) hG (hE _ (Nat.le_refl _)) (by rw [hT.k]; decide) (by rw [gF_S hT]; rfl)
        obtain ⟨h_233, eh_233⟩ : ∃ y : HI, y = hua h_229 o (fun k => ([0, 0, 0, 0, 0, 0, 0, 0, 0, 0, 0, 0] : List Int32).getD k 0) := ⟨_, rfl⟩
        rw [← eh_233] at hG
        replace HW := HW h_233 eh_233
        refine W.widen (k := 24) (n := 997) (by first | exact Nat.le_refl _ | decide | omega) (by first | exact Nat.le_refl _ | decide | omega) ?_
        exact W.vret hx hb hr (fun t ht hW => ⟨⟨(h_233, g_229), rfl, HW, p_B ht hG⟩, hG.2.1.F ht⟩) hG.2.1.2.2 dX6_init_233
      · replace HW := HW.2 c_200
        refine lv_aload_n hx hb dX6_init_203 rfl (lv_at hl 0 rfl) ?_
        refine p_getE hx hb hw inG6 hown hK hG (by omega) eu_eq rfl hT.k 10 (by decide) (v := .ref (adB bs (o + 21))) rfl lk47 dX6_init_204 ?_
        refine lv_iconst (v := 0) hx hb dX6_init_207 (by decide) ?_
        refine lv_iconst (v := 0) hx hb dX6_init_208 (by decide) ?_
        refine lv_iconst (v := 0) hx hb dX6_init_209 (by decide) ?_
        refine lv_iconst (v := 0) hx hb dX6_init_210 (by decide) ?_
        obtain ⟨P_211, HC_211, HW⟩ := HW
        refine p_calli (p_runV (As := [.int (0 : Int32), .int (0 : Int32), .int (0 : Int32), .int (0 : Int32)]) (rest := []) ⟨hx, hb, hml, hown, hts⟩ (n_X8_add l D cy bs (o + 25) (eu E o [.ref (adB bs (o + 1)), .ref (adB bs (o + 3)), .ref (adB bs (o + 5)), .ref (adB bs (o + 7)), .ref (adB bs (o + 9)), .ref (adB bs (o + 11)), .ref (adB bs (o + 13)), .ref (adB bs (o + 15)), .ref (adB bs (o + 17)), .ref (adB bs (o + 19)), .ref (adB bs (o + 21)), .ref (adB bs (o + 23))]) h g (o + 21) (show isT (o + 21) from (hT.r 10 (by decide)).2) ⟨by omega, ((eu_ne (by omega)).trans (hE _ (by omega)))⟩ ⟨by omega, ((eu_ne (by omega)).trans (hE _ (by omega)))⟩ (0 : Int32) (0 : Int32) (0 : Int32) (0 : Int32) P_211 HC_211) (cwV 4 hts (gd_V (wm1 52 rfl rfl) (wm1 53 rfl rfl) (wm1 54 rfl rfl) (wm1 3 rfl rfl) (wm1 55 rfl rfl)) rfl rfl rfl (by decide +kernel) ⟨Nat.le_of_ble_eq_true rfl, Nat.le_of_ble_eq_true rfl⟩) hK hNw hAO hG ⟨by omega, ((eu_ne (by omega)).trans (hE _ (by omega)))⟩ rfl (show gK (o + 21) = 8 from ((hT.r 10 (by decide)).2).k) (by decide) rfl rfl hl.1 rfl (lv_room (Nat.le_of_ble_eq_true rfl)) dX6_init_211 ⟨Nat.le_of_ble_eq_true rfl, Nat.le_of_ble_eq_true rfl⟩) hG (fun r_211 h_211 g_211 H locs hq hG => ?_)
        replace HW := HW r_211 h_211 g_211 hq
        refine lv_pop hx hb dX6_init_214 rfl ?_
        obtain ⟨x1_215, ex1_215⟩ : ∃ y : Int32, y = (x1 + 1) := ⟨_, rfl⟩
        replace HW := HW x1_215 ex1_215
        refine lv_iinc (v := x1_215) (lv' := [(1, .int x1_215), (0, .ref (adB bs o))]) hx hb dX6_init_215 hl (k := 1) rfl (by rw [ex1_215]; rfl) (by decide) rfl (fun ls hl => ?_)
        refine lv_goto (tgt := 198) hx hb dX6_init_218 (by decide) ?_
        exact hK198 x1_215 h_211 g_211 _ _ _ HW hG (lv_sub hl [1, 0] rfl)
  have L172 : ∀ (n : Nat) (x1 : Int32) (h : HI) (g : HL) (H : Heap) (locs : List Loc) (ls : Array Slot), lpN (F_X6_init_172 o Q) n (x1, h, g) → pG D cy bs (o + 25) (eu E o [.ref (adB bs (o + 1)), .ref (adB bs (o + 3)), .ref (adB bs (o + 5)), .ref (adB bs (o + 7)), .ref (adB bs (o + 9)), .ref (adB bs (o + 11)), .ref (adB bs (o + 13)), .ref (adB bs (o + 15)), .ref (adB bs (o + 17)), .ref (adB bs (o + 19)), .ref (adB bs (o + 21)), .ref (adB bs (o + 23))]) s.heap h g H locs → lv_has ls 2 [(0, .ref (adB bs o)), (1, .int x1)] → W p l e ({ frames := 2, cells := 24, slots := 997, locals := 50 } : Room) s m args below meth c H locs 24 (0 + 4 + 120 + 4 + 12 + 4 + 360 + 4 + 240 + 4 + 32 + 4 + 6 + 4 + 27 + 4 + 2 + 4 + 80 + 4 + 6 + 4 + 4 + 4 + 60) (MQ below (va_Qv (fun (u : HI × HL) => Q u.1 u.2) (pB D cy bs (o + 25) E) (pA bs)) args s 24 997 (pA bs)) (F0 m 172 ls []) := by
    intro n
    induction n with
    | zero => intro x1 h g H locs ls HW; exact HW.elim
    | succ n ih =>
      intro x1 h g H locs ls HW hG hl
      have HW : b_X6_init_172 o Q (fun x1 h g => lpN (F_X6_init_172 o Q) n (x1, h, g)) x1 h g := HW
      generalize hKe : (fun (x1 : Int32) (h : HI) (g : HL) => lpN (F_X6_init_172 o Q) n (x1, h, g)) = K172 at HW
      have hK172 : ∀ (x1 : Int32) (h : HI) (g : HL) (H : Heap) (locs : List Loc) (ls : Array Slot), K172 x1 h g → pG D cy bs (o + 25) (eu E o [.ref (adB bs (o + 1)), .ref (adB bs (o + 3)), .ref (adB bs (o + 5)), .ref (adB bs (o + 7)), .ref (adB bs (o + 9)), .ref (adB bs (o + 11)), .ref (adB bs (o + 13)), .ref (adB bs (o + 15)), .ref (adB bs (o + 17)), .ref (adB bs (o + 19)), .ref (adB bs (o + 21)), .ref (adB bs (o + 23))]) s.heap h g H locs → lv_has ls 2 [(0, .ref (adB bs o)), (1, .int x1)] → W p l e ({ frames := 2, cells := 24, slots := 997, locals := 50 } : Room) s m args below meth c H locs 24 (0 + 4 + 120 + 4 + 12 + 4 + 360 + 4 + 240 + 4 + 32 + 4 + 6 + 4 + 27 + 4 + 2 + 4 + 80 + 4 + 6 + 4 + 4 + 4 + 60) (MQ below (va_Qv (fun (u : HI × HL) => Q u.1 u.2) (pB D cy bs (o + 25) E) (pA bs)) args s 24 997 (pA bs)) (F0 m 172 ls []) := by subst hKe; exact ih
      clear ih
      clear hKe
      unfold b_X6_init_172 at HW
      refine lv_iload_n hx hb dX6_init_172 rfl (lv_at hl 1 rfl) ?_
      refine lv_iconst (v := 4) hx hb dX6_init_173 (by decide) ?_
      refine lv_icmp_ge (tgt := 196) hx hb dX6_init_174 (by decide) (fun c_174 => ?_) (fun c_174 => ?_)
      · replace HW := HW.1 c_174
        refine lv_iconst (v := 0) hx hb dX6_init_196 (by decide) ?_
        refine lv_istore_n (lv' := [(1, .int (0 : Int32)), (0, .ref (adB bs o))]) hx hb dX6_init_197 rfl hl (by decide) rfl (fun ls hl => ?_)
        obtain ⟨n_198, HW⟩ := HW
        exact L198 n_198 (0 : Int32) h g _ _ _ HW hG (lv_sub hl [1, 0] rfl)
      · replace HW := HW.2 c_174
        refine lv_aload_n hx hb dX6_init_177 rfl (lv_at hl 0 rfl) ?_
        refine p_getE hx hb hw inG6 hown hK hG (by omega) eu_eq rfl hT.k 1 (by decide) (v := .ref (adB bs (o + 3))) rfl lk20 dX6_init_178 ?_
        refine lv_iconst (v := 1) hx hb dX6_init_181 (by decide) ?_
        refine lv_iconst (v := 1) hx hb dX6_init_182 (by decide) ?_
        refine lv_ldc (v := 100000) hx hb hown cn55 dX6_init_183 ?_
        refine lv_iconst (v := 0) hx hb dX6_init_185 (by decide) ?_
        obtain ⟨P_186, HC_186, HW⟩ := HW
        refine p_calli (p_runV (As := [.int (1 : Int32), .int (1 : Int32), .int (100000 : Int32), .int (0 : Int32)]) (rest := []) ⟨hx, hb, hml, hown, hts⟩ (n_X8_add l D cy bs (o + 25) (eu E o [.ref (adB bs (o + 1)), .ref (adB bs (o + 3)), .ref (adB bs (o + 5)), .ref (adB bs (o + 7)), .ref (adB bs (o + 9)), .ref (adB bs (o + 11)), .ref (adB bs (o + 13)), .ref (adB bs (o + 15)), .ref (adB bs (o + 17)), .ref (adB bs (o + 19)), .ref (adB bs (o + 21)), .ref (adB bs (o + 23))]) h g (o + 3) (show isT (o + 3) from (hT.r 1 (by decide)).2) ⟨by omega, ((eu_ne (by omega)).trans (hE _ (by omega)))⟩ ⟨by omega, ((eu_ne (by omega)).trans (hE _ (by omega)))⟩ (1 : Int32) (1 : Int32) (100000 : Int32) (0 : Int32) P_186 HC_186) (cwV 4 hts (gd_V (wm1 52 rfl rfl) (wm1 53 rfl rfl) (wm1 54 rfl rfl) (wm1 3 rfl rfl) (wm1 55 rfl rfl)) rfl rfl rfl (by decide +kernel) ⟨Nat.le_of_ble_eq_true rfl, Nat.le_of_ble_eq_true rfl⟩) hK hNw hAO hG ⟨by omega, ((eu_ne (by omega)).trans (hE _ (by omega)))⟩ rfl (show gK (o + 3) = 8 from ((hT.r 1 (by decide)).2).k) (by decide) rfl rfl hl.1 rfl (lv_room (Nat.le_of_ble_eq_true rfl)) dX6_init_186 ⟨Nat.le_of_ble_eq_true rfl, Nat.le_of_ble_eq_true rfl⟩) hG (fun r_186 h_186 g_186 H locs hq hG => ?_)
        replace HW := HW r_186 h_186 g_186 hq
        refine lv_pop hx hb dX6_init_189 rfl ?_
        obtain ⟨x1_190, ex1_190⟩ : ∃ y : Int32, y = (x1 + 1) := ⟨_, rfl⟩
        replace HW := HW x1_190 ex1_190
        refine lv_iinc (v := x1_190) (lv' := [(1, .int x1_190), (0, .ref (adB bs o))]) hx hb dX6_init_190 hl (k := 1) rfl (by rw [ex1_190]; rfl) (by decide) rfl (fun ls hl => ?_)
        refine lv_goto (tgt := 172) hx hb dX6_init_193 (by decide) ?_
        exact hK172 x1_190 h_186 g_186 _ _ _ HW hG (lv_sub hl [1, 0] rfl)
  have E0 : ∀ (H : Heap) (locs : List Loc) (ls : Array Slot), pG D cy bs (o + 1) (eu E o [.null, .null, .null, .null, .null, .null, .null, .null, .null, .null, .null, .null]) s.heap h g H locs → lv_has ls 2 [(0, .ref (adB bs o))] → W p l e ({ frames := 2, cells := 24, slots := 997, locals := 50 } : Room) s m args below meth c H locs 0 0 (MQ below (va_Qv (fun (u : HI × HL) => Q u.1 u.2) (pB D cy bs (o + 25) E) (pA bs)) args s 24 997 (pA bs)) (F0 m 0 ls []) := by
    intro H locs ls hG hl
    unfold w_X6_init at HW
    refine lv_aload_n hx hb dX6_init_0 rfl (lv_at hl 0 rfl) ?_
    refine W.objInit hx hb hown ob1 ob2 ob3 rfl (hl.1.trans hml.symm) rfl dX6_init_1 (Nat.le_of_ble_eq_true rfl) (Nat.le_of_ble_eq_true rfl) ?_
    refine W.eq (g2 := F0 m 4 ls []) rfl ?_
    refine lv_aload_n hx hb dX6_init_4 rfl (lv_at hl 0 rfl) ?_
    refine p_new hx hb hw inG8 tyX8 tyX8_ok hown (hw (.classLink RX6 9 RX8) (wm1 31 rfl rfl)) (hw (.instantiable RX8 4) (wm1 32 rfl rfl)) (hw (.initialized RX8) (wm1 3 rfl rfl)) hK hG rfl (show gK (o + 1) = 8 from ((hT.r 0 (by decide)).2).k) (fs := [.null, .int 0, .int 0, .int 0]) (fun j hj => by rcases (show j = 0 ∨ j = 1 ∨ j = 2 ∨ j = 3 by omega) with rfl | rfl | rfl | rfl <;> rfl) (Nat.le_of_ble_eq_true rfl) (Nat.le_of_ble_eq_true rfl) dX6_init_5 (fun H hG => ?_)
    have hG : pG D cy bs (o + 2) (eu (eu E o [.null, .null, .null, .null, .null, .null, .null, .null, .null, .null, .null, .null]) (o + 1) [.null, .int 0, .int 0, .int 0]) s.heap h g H locs := hG
    refine lv_dup hx hb dX6_init_8 rfl ?_
    refine lv_bipush (v := 24) hx hb dX6_init_9 (by decide) ?_
    refine lv_iconst (v := 5) hx hb dX6_init_11 (by decide) ?_
    obtain ⟨P_12, HC_12, HW⟩ := HW
    refine p_callv (n' := (o + 3)) (E' := (eu E o [.null, .null, .null, .null, .null, .null, .null, .null, .null, .null, .null, .null])) (p_runI (As := [.int (24 : Int32), .int (5 : Int32)]) (rest := [.ref (adB bs (o + 1)), .ref (adB bs o)]) ⟨hx, hb, hml, hown, hts⟩ (n_X8_init l D cy bs (eu E o [.null, .null, .null, .null, .null, .null, .null, .null, .null, .null, .null, .null]) h g (o + 1) (show isT (o + 1) from (hT.r 0 (by decide)).2) (fun q hq => ((eu_ne (by omega)).trans (hE _ (by omega)))) (by exact isS.n0 hT) (N := 120) (24 : Int32) (5 : Int32) P_12 HC_12) (cwI 2 hts (gd_w (wm1 35 rfl rfl)) rfl rfl rfl (hw (.initialized RX8) (wm1 3 rfl rfl)) (hw (.methodLink RX6 11 yX8_init) (wm1 33 rfl rfl)) (hw (.instanceMethod yX8_init) (wm1 34 rfl rfl)) rfl (by decide +kernel) ⟨Nat.le_of_ble_eq_true rfl, Nat.le_of_ble_eq_true rfl⟩) hK hNw hAO hG rfl rfl hl.1 rfl (lv_room (Nat.le_of_ble_eq_true rfl)) dX6_init_12 ⟨Nat.le_of_ble_eq_true rfl, Nat.le_of_ble_eq_true rfl⟩) hG (fun h_12 g_12 H locs hq hG => ?_)
    replace HW := HW h_12 g_12 hq
    have hG : pG D cy bs (o + 3) (eu E o [.null, .null, .null, .null, .null, .null, .null, .null, .null, .null, .null, .null]) s.heap h_12 g_12 H locs := hG
    refine p_putE hx hb hw inG6 tyX6 tyX6_ok nmX6 hown hK hG (by omega) eu_eq rfl hT.k 0 (by decide) (Nat.le_of_ble_eq_true rfl) (ty := .object "OldWorks$Table") (by decide +kernel) rfl rfl lk14 (Or.inr ⟨rfl, hin, rfl⟩) dX6_init_15 (fun H locs hG => ?_)
    rw [eu_eu] at hG
    have hG : pG D cy bs (o + 3) (eu E o [.ref (adB bs (o + 1)), .null, .null, .null, .null, .null, .null, .null, .null, .null, .null, .null]) s.heap h_12 g_12 H locs := hG
    refine lv_aload_n hx hb dX6_init_18 rfl (lv_at hl 0 rfl) ?_
    refine p_new hx hb hw inG8 tyX8 tyX8_ok hown (hw (.classLink RX6 9 RX8) (wm1 31 rfl rfl)) (hw (.instantiable RX8 4) (wm1 32 rfl rfl)) (hw (.initialized RX8) (wm1 3 rfl rfl)) hK hG rfl (show gK (o + 3) = 8 from ((hT.r 1 (by decide)).2).k) (fs := [.null, .int 0, .int 0, .int 0]) (fun j hj => by rcases (show j = 0 ∨ j = 1 ∨ j = 2 ∨ j = 3 by omega) with rfl | rfl | rfl | rfl <;> rfl) (Nat.le_of_ble_eq_true rfl) (Nat.le_of_ble_eq_true rfl) dX6_init_19 (fun H hG => ?_)
    have hG : pG D cy bs (o + 4) (eu (eu E o [.ref (adB bs (o + 1)), .null, .null, .null, .null, .null, .null, .null, .null, .null, .null, .null]) (o + 3) [.null, .int 0, .int 0, .int 0]) s.heap h_12 g_12 H locs := hG
    refine lv_dup hx hb dX6_init_22 rfl ?_
    refine lv_iconst (v := 4) hx hb dX6_init_23 (by decide) ?_
    refine lv_iconst (v := 3) hx hb dX6_init_24 (by decide) ?_
    obtain ⟨P_25, HC_25, HW⟩ := HW
    refine p_callv (n' := (o + 5)) (E' := (eu E o [.ref (adB bs (o + 1)), .null, .null, .null, .null, .null, .null, .null, .null, .null, .null, .null])) (p_runI (As := [.int (4 : Int32), .int (3 : Int32)]) (rest := [.ref (adB bs (o + 3)), .ref (adB bs o)]) ⟨hx, hb, hml, hown, hts⟩ (n_X8_init l D cy bs (eu E o [.ref (adB bs (o + 1)), .null, .null, .null, .null, .null, .null, .null, .null, .null, .null, .null]) h_12 g_12 (o + 3) (show isT (o + 3) from (hT.r 1 (by decide)).2) (fun q hq => ((eu_ne (by omega)).trans (hE _ (by omega)))) (by exact isS.n1 hT) (N := 12) (4 : Int32) (3 : Int32) P_25 HC_25) (cwI 2 hts (gd_w (wm1 35 rfl rfl)) rfl rfl rfl (hw (.initialized RX8) (wm1 3 rfl rfl)) (hw (.methodLink RX6 11 yX8_init) (wm1 33 rfl rfl)) (hw (.instanceMethod yX8_init) (wm1 34 rfl rfl)) rfl (by decide +kernel) ⟨Nat.le_of_ble_eq_true rfl, Nat.le_of_ble_eq_true rfl⟩) hK hNw hAO hG rfl rfl hl.1 rfl (lv_room (Nat.le_of_ble_eq_true rfl)) dX6_init_25 ⟨Nat.le_of_ble_eq_true rfl, Nat.le_of_ble_eq_true rfl⟩) hG (fun h_25 g_25 H locs hq hG => ?_)
    replace HW := HW h_25 g_25 hq
    have hG : pG D cy bs (o + 5) (eu E o [.ref (adB bs (o + 1)), .null, .null, .null, .null, .null, .null, .null, .null, .null, .null, .null]) s.heap h_25 g_25 H locs := hG
    refine p_putE hx hb hw inG6 tyX6 tyX6_ok nmX6 hown hK hG (by omega) eu_eq rfl hT.k 1 (by decide) (Nat.le_of_ble_eq_true rfl) (ty := .object "OldWorks$Table") (by decide +kernel) rfl rfl lk20 (Or.inr ⟨rfl, hin, rfl⟩) dX6_init_28 (fun H locs hG => ?_)
    rw [eu_eu] at hG
    have hG : pG D cy bs (o + 5) (eu E o [.ref (adB bs (o + 1)), .ref (adB bs (o + 3)), .null, .null, .null, .null, .null, .null, .null, .null, .null, .null]) s.heap h_25 g_25 H locs := hG
    refine lv_aload_n hx hb dX6_init_31 rfl (lv_at hl 0 rfl) ?_
    refine p_new hx hb hw inG8 tyX8 tyX8_ok hown (hw (.classLink RX6 9 RX8) (wm1 31 rfl rfl)) (hw (.instantiable RX8 4) (wm1 32 rfl rfl)) (hw (.initialized RX8) (wm1 3 rfl rfl)) hK hG rfl (show gK (o + 5) = 8 from ((hT.r 2 (by decide)).2).k) (fs := [.null, .int 0, .int 0, .int 0]) (fun j hj => by rcases (show j = 0 ∨ j = 1 ∨ j = 2 ∨ j = 3 by omega) with rfl | rfl | rfl | rfl <;> rfl) (Nat.le_of_ble_eq_true rfl) (Nat.le_of_ble_eq_true rfl) dX6_init_32 (fun H hG => ?_)
    have hG : pG D cy bs (o + 6) (eu (eu E o [.ref (adB bs (o + 1)), .ref (adB bs (o + 3)), .null, .null, .null, .null, .null, .null, .null, .null, .null, .null]) (o + 5) [.null, .int 0, .int 0, .int 0]) s.heap h_25 g_25 H locs := hG
    refine lv_dup hx hb dX6_init_35 rfl ?_
    refine lv_bipush (v := 60) hx hb dX6_init_36 (by decide) ?_
    refine lv_bipush (v := 6) hx hb dX6_init_38 (by decide) ?_
    obtain ⟨P_40, HC_40, HW⟩ := HW
    refine p_callv (n' := (o + 7)) (E' := (eu E o [.ref (adB bs (o + 1)), .ref (adB bs (o + 3)), .null, .null, .null, .null, .null, .null, .null, .null, .null, .null])) (p_runI (As := [.int (60 : Int32), .int (6 : Int32)]) (rest := [.ref (adB bs (o + 5)), .ref (adB bs o)]) ⟨hx, hb, hml, hown, hts⟩ (n_X8_init l D cy bs (eu E o [.ref (adB bs (o + 1)), .ref (adB bs (o + 3)), .null, .null, .null, .null, .null, .null, .null, .null, .null, .null]) h_25 g_25 (o + 5) (show isT (o + 5) from (hT.r 2 (by decide)).2) (fun q hq => ((eu_ne (by omega)).trans (hE _ (by omega)))) (by exact isS.n2 hT) (N := 360) (60 : Int32) (6 : Int32) P_40 HC_40) (cwI 2 hts (gd_w (wm1 35 rfl rfl)) rfl rfl rfl (hw (.initialized RX8) (wm1 3 rfl rfl)) (hw (.methodLink RX6 11 yX8_init) (wm1 33 rfl rfl)) (hw (.instanceMethod yX8_init) (wm1 34 rfl rfl)) rfl (by decide +kernel) ⟨Nat.le_of_ble_eq_true rfl, Nat.le_of_ble_eq_true rfl⟩) hK hNw hAO hG rfl rfl hl.1 rfl (lv_room (Nat.le_of_ble_eq_true rfl)) dX6_init_40 ⟨Nat.le_of_ble_eq_true rfl, Nat.le_of_ble_eq_true rfl⟩) hG (fun h_40 g_40 H locs hq hG => ?_)
    replace HW := HW h_40 g_40 hq
    have hG : pG D cy bs (o + 7) (eu E o [.ref (adB bs (o + 1)), .ref (adB bs (o + 3)), .null, .null, .null, .null, .null, .null, .null, .null, .null, .null]) s.heap h_40 g_40 H locs := hG
    refine p_putE hx hb hw inG6 tyX6 tyX6_ok nmX6 hown hK hG (by omega) eu_eq rfl hT.k 2 (by decide) (Nat.le_of_ble_eq_true rfl) (ty := .object "OldWorks$Table") (by decide +kernel) rfl rfl lk23 (Or.inr ⟨rfl, hin, rfl⟩) dX6_init_43 (fun H locs hG => ?_)
    rw [eu_eu] at hG
    have hG : pG D cy bs (o + 7) (eu E o [.ref (adB bs (o + 1)), .ref (adB bs (o + 3)), .ref (adB bs (o + 5)), .null, .null, .null, .null, .null, .null, .null, .null, .null]) s.heap h_40 g_40 H locs := hG
    refine lv_aload_n hx hb dX6_init_46 rfl (lv_at hl 0 rfl) ?_
    refine p_new hx hb hw inG8 tyX8 tyX8_ok hown (hw (.classLink RX6 9 RX8) (wm1 31 rfl rfl)) (hw (.instantiable RX8 4) (wm1 32 rfl rfl)) (hw (.initialized RX8) (wm1 3 rfl rfl)) hK hG rfl (show gK (o + 7) = 8 from ((hT.r 3 (by decide)).2).k) (fs := [.null, .int 0, .int 0, .int 0]) (fun j hj => by rcases (show j = 0 ∨ j = 1 ∨ j = 2 ∨ j = 3 by omega) with rfl | rfl | rfl | rfl <;> rfl) (Nat.le_of_ble_eq_true rfl) (Nat.le_of_ble_eq_true rfl) dX6_init_47 (fun H hG => ?_)
    have hG : pG D cy bs (o + 8) (eu (eu E o [.ref (adB bs (o + 1)), .ref (adB bs (o + 3)), .ref (adB bs (o + 5)), .null, .null, .null, .null, .null, .null, .null, .null, .null]) (o + 7) [.null, .int 0, .int 0, .int 0]) s.heap h_40 g_40 H locs := hG
    refine lv_dup hx hb dX6_init_50 rfl ?_
    refine lv_bipush (v := 16) hx hb dX6_init_51 (by decide) ?_
    refine lv_bipush (v := 15) hx hb dX6_init_53 (by decide) ?_
    obtain ⟨P_55, HC_55, HW⟩ := HW
    refine p_callv (n' := (o + 9)) (E' := (eu E o [.ref (adB bs (o + 1)), .ref (adB bs (o + 3)), .ref (adB bs (o + 5)), .null, .null, .null, .null, .null, .null, .null, .null, .null])) (p_runI (As := [.int (16 : Int32), .int (15 : Int32)]) (rest := [.ref (adB bs (o + 7)), .ref (adB bs o)]) ⟨hx, hb, hml, hown, hts⟩ (n_X8_init l D cy bs (eu E o [.ref (adB bs (o + 1)), .ref (adB bs (o + 3)), .ref (adB bs (o + 5)), .null, .null, .null, .null, .null, .null, .null, .null, .null]) h_40 g_40 (o + 7) (show isT (o + 7) from (hT.r 3 (by decide)).2) (fun q hq => ((eu_ne (by omega)).trans (hE _ (by omega)))) (by exact isS.n3 hT) (N := 240) (16 : Int32) (15 : Int32) P_55 HC_55) (cwI 2 hts (gd_w (wm1 35 rfl rfl)) rfl rfl rfl (hw (.initialized RX8) (wm1 3 rfl rfl)) (hw (.methodLink RX6 11 yX8_init) (wm1 33 rfl rfl)) (hw (.instanceMethod yX8_init) (wm1 34 rfl rfl)) rfl (by decide +kernel) ⟨Nat.le_of_ble_eq_true rfl, Nat.le_of_ble_eq_true rfl⟩) hK hNw hAO hG rfl rfl hl.1 rfl (lv_room (Nat.le_of_ble_eq_true rfl)) dX6_init_55 ⟨Nat.le_of_ble_eq_true rfl, Nat.le_of_ble_eq_true rfl⟩) hG (fun h_55 g_55 H locs hq hG => ?_)
    replace HW := HW h_55 g_55 hq
    have hG : pG D cy bs (o + 9) (eu E o [.ref (adB bs (o + 1)), .ref (adB bs (o + 3)), .ref (adB bs (o + 5)), .null, .null, .null, .null, .null, .null, .null, .null, .null]) s.heap h_55 g_55 H locs := hG
    refine p_putE hx hb hw inG6 tyX6 tyX6_ok nmX6 hown hK hG (by omega) eu_eq rfl hT.k 3 (by decide) (Nat.le_of_ble_eq_true rfl) (ty := .object "OldWorks$Table") (by decide +kernel) rfl rfl lk26 (Or.inr ⟨rfl, hin, rfl⟩) dX6_init_58 (fun H locs hG => ?_)
    rw [eu_eu] at hG
    have hG : pG D cy bs (o + 9) (eu E o [.ref (adB bs (o + 1)), .ref (adB bs (o + 3)), .ref (adB bs (o + 5)), .ref (adB bs (o + 7)), .null, .null, .null, .null, .null, .null, .null, .null]) s.heap h_55 g_55 H locs := hG
    refine lv_aload_n hx hb dX6_init_61 rfl (lv_at hl 0 rfl) ?_
    refine p_new hx hb hw inG8 tyX8 tyX8_ok hown (hw (.classLink RX6 9 RX8) (wm1 31 rfl rfl)) (hw (.instantiable RX8 4) (wm1 32 rfl rfl)) (hw (.initialized RX8) (wm1 3 rfl rfl)) hK hG rfl (show gK (o + 9) = 8 from ((hT.r 4 (by decide)).2).k) (fs := [.null, .int 0, .int 0, .int 0]) (fun j hj => by rcases (show j = 0 ∨ j = 1 ∨ j = 2 ∨ j = 3 by omega) with rfl | rfl | rfl | rfl <;> rfl) (Nat.le_of_ble_eq_true rfl) (Nat.le_of_ble_eq_true rfl) dX6_init_62 (fun H hG => ?_)
    have hG : pG D cy bs (o + 10) (eu (eu E o [.ref (adB bs (o + 1)), .ref (adB bs (o + 3)), .ref (adB bs (o + 5)), .ref (adB bs (o + 7)), .null, .null, .null, .null, .null, .null, .null, .null]) (o + 9) [.null, .int 0, .int 0, .int 0]) s.heap h_55 g_55 H locs := hG
    refine lv_dup hx hb dX6_init_65 rfl ?_
    refine lv_bipush (v := 8) hx hb dX6_init_66 (by decide) ?_
    refine lv_iconst (v := 4) hx hb dX6_init_68 (by decide) ?_
    obtain ⟨P_69, HC_69, HW⟩ := HW
    refine p_callv (n' := (o + 11)) (E' := (eu E o [.ref (adB bs (o + 1)), .ref (adB bs (o + 3)), .ref (adB bs (o + 5)), .ref (adB bs (o + 7)), .null, .null, .null, .null, .null, .null, .null, .null])) (p_runI (As := [.int (8 : Int32), .int (4 : Int32)]) (rest := [.ref (adB bs (o + 9)), .ref (adB bs o)]) ⟨hx, hb, hml, hown, hts⟩ (n_X8_init l D cy bs (eu E o [.ref (adB bs (o + 1)), .ref (adB bs (o + 3)), .ref (adB bs (o + 5)), .ref (adB bs (o + 7)), .null, .null, .null, .null, .null, .null, .null, .null]) h_55 g_55 (o + 9) (show isT (o + 9) from (hT.r 4 (by decide)).2) (fun q hq => ((eu_ne (by omega)).trans (hE _ (by omega)))) (by exact isS.n4 hT) (N := 32) (8 : Int32) (4 : Int32) P_69 HC_69) (cwI 2 hts (gd_w (wm1 35 rfl rfl)) rfl rfl rfl (hw (.initialized RX8) (wm1 3 rfl rfl)) (hw (.methodLink RX6 11 yX8_init) (wm1 33 rfl rfl)) (hw (.instanceMethod yX8_init) (wm1 34 rfl rfl)) rfl (by decide +kernel) ⟨Nat.le_of_ble_eq_true rfl, Nat.le_of_ble_eq_true rfl⟩) hK hNw hAO hG rfl rfl hl.1 rfl (lv_room (Nat.le_of_ble_eq_true rfl)) dX6_init_69 ⟨Nat.le_of_ble_eq_true rfl, Nat.le_of_ble_eq_true rfl⟩) hG (fun h_69 g_69 H locs hq hG => ?_)
    replace HW := HW h_69 g_69 hq
    have hG : pG D cy bs (o + 11) (eu E o [.ref (adB bs (o + 1)), .ref (adB bs (o + 3)), .ref (adB bs (o + 5)), .ref (adB bs (o + 7)), .null, .null, .null, .null, .null, .null, .null, .null]) s.heap h_69 g_69 H locs := hG
    refine p_putE hx hb hw inG6 tyX6 tyX6_ok nmX6 hown hK hG (by omega) eu_eq rfl hT.k 4 (by decide) (Nat.le_of_ble_eq_true rfl) (ty := .object "OldWorks$Table") (by decide +kernel) rfl rfl lk29 (Or.inr ⟨rfl, hin, rfl⟩) dX6_init_72 (fun H locs hG => ?_)
    rw [eu_eu] at hG
    have hG : pG D cy bs (o + 11) (eu E o [.ref (adB bs (o + 1)), .ref (adB bs (o + 3)), .ref (adB bs (o + 5)), .ref (adB bs (o + 7)), .ref (adB bs (o + 9)), .null, .null, .null, .null, .null, .null, .null]) s.heap h_69 g_69 H locs := hG
    refine lv_aload_n hx hb dX6_init_75 rfl (lv_at hl 0 rfl) ?_
    refine p_new hx hb hw inG8 tyX8 tyX8_ok hown (hw (.classLink RX6 9 RX8) (wm1 31 rfl rfl)) (hw (.instantiable RX8 4) (wm1 32 rfl rfl)) (hw (.initialized RX8) (wm1 3 rfl rfl)) hK hG rfl (show gK (o + 11) = 8 from ((hT.r 5 (by decide)).2).k) (fs := [.null, .int 0, .int 0, .int 0]) (fun j hj => by rcases (show j = 0 ∨ j = 1 ∨ j = 2 ∨ j = 3 by omega) with rfl | rfl | rfl | rfl <;> rfl) (Nat.le_of_ble_eq_true rfl) (Nat.le_of_ble_eq_true rfl) dX6_init_76 (fun H hG => ?_)
    have hG : pG D cy bs (o + 12) (eu (eu E o [.ref (adB bs (o + 1)), .ref (adB bs (o + 3)), .ref (adB bs (o + 5)), .ref (adB bs (o + 7)), .ref (adB bs (o + 9)), .null, .null, .null, .null, .null, .null, .null]) (o + 11) [.null, .int 0, .int 0, .int 0]) s.heap h_69 g_69 H locs := hG
    refine lv_dup hx hb dX6_init_79 rfl ?_
    refine lv_bipush (v := 6) hx hb dX6_init_80 (by decide) ?_
    refine lv_iconst (v := 1) hx hb dX6_init_82 (by decide) ?_
    obtain ⟨P_83, HC_83, HW⟩ := HW
    refine p_callv (n' := (o + 13)) (E' := (eu E o [.ref (adB bs (o + 1)), .ref (adB bs (o + 3)), .ref (adB bs (o + 5)), .ref (adB bs (o + 7)), .ref (adB bs (o + 9)), .null, .null, .null, .null, .null, .null, .null])) (p_runI (As := [.int (6 : Int32), .int (1 : Int32)]) (rest := [.ref (adB bs (o + 11)), .ref (adB bs o)]) ⟨hx, hb, hml, hown, hts⟩ (n_X8_init l D cy bs (eu E o [.ref (adB bs (o + 1)), .ref (adB bs (o + 3)), .ref (adB bs (o + 5)), .ref (adB bs (o + 7)), .ref (adB bs (o + 9)), .null, .null, .null, .null, .null, .null, .null]) h_69 g_69 (o + 11) (show isT (o + 11) from (hT.r 5 (by decide)).2) (fun q hq => ((eu_ne (by omega)).trans (hE _ (by omega)))) (by exact isS.n5 hT) (N := 6) (6 : Int32) (1 : Int32) P_83 HC_83) (cwI 2 hts (gd_w (wm1 35 rfl rfl)) rfl rfl rfl (hw (.initialized RX8) (wm1 3 rfl rfl)) (hw (.methodLink RX6 11 yX8_init) (wm1 33 rfl rfl)) (hw (.instanceMethod yX8_init) (wm1 34 rfl rfl)) rfl (by decide +kernel) ⟨Nat.le_of_ble_eq_true rfl, Nat.le_of_ble_eq_true rfl⟩) hK hNw hAO hG rfl rfl hl.1 rfl (lv_room (Nat.le_of_ble_eq_true rfl)) dX6_init_83 ⟨Nat.le_of_ble_eq_true rfl, Nat.le_of_ble_eq_true rfl⟩) hG (fun h_83 g_83 H locs hq hG => ?_)
    replace HW := HW h_83 g_83 hq
    have hG : pG D cy bs (o + 13) (eu E o [.ref (adB bs (o + 1)), .ref (adB bs (o + 3)), .ref (adB bs (o + 5)), .ref (adB bs (o + 7)), .ref (adB bs (o + 9)), .null, .null, .null, .null, .null, .null, .null]) s.heap h_83 g_83 H locs := hG
    refine p_putE hx hb hw inG6 tyX6 tyX6_ok nmX6 hown hK hG (by omega) eu_eq rfl hT.k 5 (by decide) (Nat.le_of_ble_eq_true rfl) (ty := .object "OldWorks$Table") (by decide +kernel) rfl rfl lk32 (Or.inr ⟨rfl, hin, rfl⟩) dX6_init_86 (fun H locs hG => ?_)
    rw [eu_eu] at hG
    have hG : pG D cy bs (o + 13) (eu E o [.ref (adB bs (o + 1)), .ref (adB bs (o + 3)), .ref (adB bs (o + 5)), .ref (adB bs (o + 7)), .ref (adB bs (o + 9)), .ref (adB bs (o + 11)), .null, .null, .null, .null, .null, .null]) s.heap h_83 g_83 H locs := hG
    refine lv_aload_n hx hb dX6_init_89 rfl (lv_at hl 0 rfl) ?_
    refine p_new hx hb hw inG8 tyX8 tyX8_ok hown (hw (.classLink RX6 9 RX8) (wm1 31 rfl rfl)) (hw (.instantiable RX8 4) (wm1 32 rfl rfl)) (hw (.initialized RX8) (wm1 3 rfl rfl)) hK hG rfl (show gK (o + 13) = 8 from ((hT.r 6 (by decide)).2).k) (fs := [.null, .int 0, .int 0, .int 0]) (fun j hj => by rcases (show j = 0 ∨ j = 1 ∨ j = 2 ∨ j = 3 by omega) with rfl | rfl | rfl | rfl <;> rfl) (Nat.le_of_ble_eq_true rfl) (Nat.le_of_ble_eq_true rfl) dX6_init_90 (fun H hG => ?_)
    have hG : pG D cy bs (o + 14) (eu (eu E o [.ref (adB bs (o + 1)), .ref (adB bs (o + 3)), .ref (adB bs (o + 5)), .ref (adB bs (o + 7)), .ref (adB bs (o + 9)), .ref (adB bs (o + 11)), .null, .null, .null, .null, .null, .null]) (o + 13) [.null, .int 0, .int 0, .int 0]) s.heap h_83 g_83 H locs := hG
    refine lv_dup hx hb dX6_init_93 rfl ?_
    refine lv_bipush (v := 9) hx hb dX6_init_94 (by decide) ?_
    refine lv_iconst (v := 3) hx hb dX6_init_96 (by decide) ?_
    obtain ⟨P_97, HC_97, HW⟩ := HW
    refine p_callv (n' := (o + 15)) (E' := (eu E o [.ref (adB bs (o + 1)), .ref (adB bs (o + 3)), .ref (adB bs (o + 5)), .ref (adB bs (o + 7)), .ref (adB bs (o + 9)), .ref (adB bs (o + 11)), .null, .null, .null, .null, .null, .null])) (p_runI (As := [.int (9 : Int32), .int (3 : Int32)]) (rest := [.ref (adB bs (o + 13)), .ref (adB bs o)]) ⟨hx, hb, hml, hown, hts⟩ (n_X8_init l D cy bs (eu E o [.ref (adB bs (o + 1)), .ref (adB bs (o + 3)), .ref (adB bs (o + 5)), .ref (adB bs (o + 7)), .ref (adB bs (o + 9)), .ref (adB bs (o + 11)), .null, .null, .null, .null, .null, .null]) h_83 g_83 (o + 13) (show isT (o + 13) from (hT.r 6 (by decide)).2) (fun q hq => ((eu_ne (by omega)).trans (hE _ (by omega)))) (by exact isS.n6 hT) (N := 27) (9 : Int32) (3 : Int32) P_97 HC_97) (cwI 2 hts (gd_w (wm1 35 rfl rfl)) rfl rfl rfl (hw (.initialized RX8) (wm1 3 rfl rfl)) (hw (.methodLink RX6 11 yX8_init) (wm1 33 rfl rfl)) (hw (.instanceMethod yX8_init) (wm1 34 rfl rfl)) rfl (by decide +kernel) ⟨Nat.le_of_ble_eq_true rfl, Nat.le_of_ble_eq_true rfl⟩) hK hNw hAO hG rfl rfl hl.1 rfl (lv_room (Nat.le_of_ble_eq_true rfl)) dX6_init_97 ⟨Nat.le_of_ble_eq_true rfl, Nat.le_of_ble_eq_true rfl⟩) hG (fun h_97 g_97 H locs hq hG => ?_)
    replace HW := HW h_97 g_97 hq
    have hG : pG D cy bs (o + 15) (eu E o [.ref (adB bs (o + 1)), .ref (adB bs (o + 3)), .ref (adB bs (o + 5)), .ref (adB bs (o + 7)), .ref (adB bs (o + 9)), .ref (adB bs (o + 11)), .null, .null, .null, .null, .null, .null]) s.heap h_97 g_97 H locs := hG
    refine p_putE hx hb hw inG6 tyX6 tyX6_ok nmX6 hown hK hG (by omega) eu_eq rfl hT.k 6 (by decide) (Nat.le_of_ble_eq_true rfl) (ty := .object "OldWorks$Table") (by decide +kernel) rfl rfl lk35 (Or.inr ⟨rfl, hin, rfl⟩) dX6_init_100 (fun H locs hG => ?_)
    rw [eu_eu] at hG
    have hG : pG D cy bs (o + 15) (eu E o [.ref (adB bs (o + 1)), .ref (adB bs (o + 3)), .ref (adB bs (o + 5)), .ref (adB bs (o + 7)), .ref (adB bs (o + 9)), .ref (adB bs (o + 11)), .ref (adB bs (o + 13)), .null, .null, .null, .null, .null]) s.heap h_97 g_97 H locs := hG
    refine lv_aload_n hx hb dX6_init_103 rfl (lv_at hl 0 rfl) ?_
    refine p_new hx hb hw inG8 tyX8 tyX8_ok hown (hw (.classLink RX6 9 RX8) (wm1 31 rfl rfl)) (hw (.instantiable RX8 4) (wm1 32 rfl rfl)) (hw (.initialized RX8) (wm1 3 rfl rfl)) hK hG rfl (show gK (o + 15) = 8 from ((hT.r 7 (by decide)).2).k) (fs := [.null, .int 0, .int 0, .int 0]) (fun j hj => by rcases (show j = 0 ∨ j = 1 ∨ j = 2 ∨ j = 3 by omega) with rfl | rfl | rfl | rfl <;> rfl) (Nat.le_of_ble_eq_true rfl) (Nat.le_of_ble_eq_true rfl) dX6_init_104 (fun H hG => ?_)
    have hG : pG D cy bs (o + 16) (eu (eu E o [.ref (adB bs (o + 1)), .ref (adB bs (o + 3)), .ref (adB bs (o + 5)), .ref (adB bs (o + 7)), .ref (adB bs (o + 9)), .ref (adB bs (o + 11)), .ref (adB bs (o + 13)), .null, .null, .null, .null, .null]) (o + 15) [.null, .int 0, .int 0, .int 0]) s.heap h_97 g_97 H locs := hG
    refine lv_dup hx hb dX6_init_107 rfl ?_
    refine lv_iconst (v := 1) hx hb dX6_init_108 (by decide) ?_
    refine lv_iconst (v := 2) hx hb dX6_init_109 (by decide) ?_
    obtain ⟨P_110, HC_110, HW⟩ := HW
    refine p_callv (n' := (o + 17)) (E' := (eu E o [.ref (adB bs (o + 1)), .ref (adB bs (o + 3)), .ref (adB bs (o + 5)), .ref (adB bs (o + 7)), .ref (adB bs (o + 9)), .ref (adB bs (o + 11)), .ref (adB bs (o + 13)), .null, .null, .null, .null, .null])) (p_runI (As := [.int (1 : Int32), .int (2 : Int32)]) (rest := [.ref (adB bs (o + 15)), .ref (adB bs o)]) ⟨hx, hb, hml, hown, hts⟩ (n_X8_init l D cy bs (eu E o [.ref (adB bs (o + 1)), .ref (adB bs (o + 3)), .ref (adB bs (o + 5)), .ref (adB bs (o + 7)), .ref (adB bs (o + 9)), .ref (adB bs (o + 11)), .ref (adB bs (o + 13)), .null, .null, .null, .null, .null]) h_97 g_97 (o + 15) (show isT (o + 15) from (hT.r 7 (by decide)).2) (fun q hq => ((eu_ne (by omega)).trans (hE _ (by omega)))) (by exact isS.n7 hT) (N := 2) (1 : Int32) (2 : Int32) P_110 HC_110) (cwI 2 hts (gd_w (wm1 35 rfl rfl)) rfl rfl rfl (hw (.initialized RX8) (wm1 3 rfl rfl)) (hw (.methodLink RX6 11 yX8_init) (wm1 33 rfl rfl)) (hw (.instanceMethod yX8_init) (wm1 34 rfl rfl)) rfl (by decide +kernel) ⟨Nat.le_of_ble_eq_true rfl, Nat.le_of_ble_eq_true rfl⟩) hK hNw hAO hG rfl rfl hl.1 rfl (lv_room (Nat.le_of_ble_eq_true rfl)) dX6_init_110 ⟨Nat.le_of_ble_eq_true rfl, Nat.le_of_ble_eq_true rfl⟩) hG (fun h_110 g_110 H locs hq hG => ?_)
    replace HW := HW h_110 g_110 hq
    have hG : pG D cy bs (o + 17) (eu E o [.ref (adB bs (o + 1)), .ref (adB bs (o + 3)), .ref (adB bs (o + 5)), .ref (adB bs (o + 7)), .ref (adB bs (o + 9)), .ref (adB bs (o + 11)), .ref (adB bs (o + 13)), .null, .null, .null, .null, .null]) s.heap h_110 g_110 H locs := hG
    refine p_putE hx hb hw inG6 tyX6 tyX6_ok nmX6 hown hK hG (by omega) eu_eq rfl hT.k 7 (by decide) (Nat.le_of_ble_eq_true rfl) (ty := .object "OldWorks$Table") (by decide +kernel) rfl rfl lk38 (Or.inr ⟨rfl, hin, rfl⟩) dX6_init_113 (fun H locs hG => ?_)
    rw [eu_eu] at hG
    have hG : pG D cy bs (o + 17) (eu E o [.ref (adB bs (o + 1)), .ref (adB bs (o + 3)), .ref (adB bs (o + 5)), .ref (adB bs (o + 7)), .ref (adB bs (o + 9)), .ref (adB bs (o + 11)), .ref (adB bs (o + 13)), .ref (adB bs (o + 15)), .null, .null, .null, .null]) s.heap h_110 g_110 H locs := hG
    refine lv_aload_n hx hb dX6_init_116 rfl (lv_at hl 0 rfl) ?_
    refine p_new hx hb hw inG8 tyX8 tyX8_ok hown (hw (.classLink RX6 9 RX8) (wm1 31 rfl rfl)) (hw (.instantiable RX8 4) (wm1 32 rfl rfl)) (hw (.initialized RX8) (wm1 3 rfl rfl)) hK hG rfl (show gK (o + 17) = 8 from ((hT.r 8 (by decide)).2).k) (fs := [.null, .int 0, .int 0, .int 0]) (fun j hj => by rcases (show j = 0 ∨ j = 1 ∨ j = 2 ∨ j = 3 by omega) with rfl | rfl | rfl | rfl <;> rfl) (Nat.le_of_ble_eq_true rfl) (Nat.le_of_ble_eq_true rfl) dX6_init_117 (fun H hG => ?_)
    have hG : pG D cy bs (o + 18) (eu (eu E o [.ref (adB bs (o + 1)), .ref (adB bs (o + 3)), .ref (adB bs (o + 5)), .ref (adB bs (o + 7)), .ref (adB bs (o + 9)), .ref (adB bs (o + 11)), .ref (adB bs (o + 13)), .ref (adB bs (o + 15)), .null, .null, .null, .null]) (o + 17) [.null, .int 0, .int 0, .int 0]) s.heap h_110 g_110 H locs := hG
    refine lv_dup hx hb dX6_init_120 rfl ?_
    refine lv_bipush (v := 40) hx hb dX6_init_121 (by decide) ?_
    refine lv_iconst (v := 2) hx hb dX6_init_123 (by decide) ?_
    obtain ⟨P_124, HC_124, HW⟩ := HW
    refine p_callv (n' := (o + 19)) (E' := (eu E o [.ref (adB bs (o + 1)), .ref (adB bs (o + 3)), .ref (adB bs (o + 5)), .ref (adB bs (o + 7)), .ref (adB bs (o + 9)), .ref (adB bs (o + 11)), .ref (adB bs (o + 13)), .ref (adB bs (o + 15)), .null, .null, .null, .null])) (p_runI (As := [.int (40 : Int32), .int (2 : Int32)]) (rest := [.ref (adB bs (o + 17)), .ref (adB bs o)]) ⟨hx, hb, hml, hown, hts⟩ (n_X8_init l D cy bs (eu E o [.ref (adB bs (o + 1)), .ref (adB bs (o + 3)), .ref (adB bs (o + 5)), .ref (adB bs (o + 7)), .ref (adB bs (o + 9)), .ref (adB bs (o + 11)), .ref (adB bs (o + 13)), .ref (adB bs (o + 15)), .null, .null, .null, .null]) h_110 g_110 (o + 17) (show isT (o + 17) from (hT.r 8 (by decide)).2) (fun q hq => ((eu_ne (by omega)).trans (hE _ (by omega)))) (by exact isS.n8 hT) (N := 80) (40 : Int32) (2 : Int32) P_124 HC_124) (cwI 2 hts (gd_w (wm1 35 rfl rfl)) rfl rfl rfl (hw (.initialized RX8) (wm1 3 rfl rfl)) (hw (.methodLink RX6 11 yX8_init) (wm1 33 rfl rfl)) (hw (.instanceMethod yX8_init) (wm1 34 rfl rfl)) rfl (by decide +kernel) ⟨Nat.le_of_ble_eq_true rfl, Nat.le_of_ble_eq_true rfl⟩) hK hNw hAO hG rfl rfl hl.1 rfl (lv_room (Nat.le_of_ble_eq_true rfl)) dX6_init_124 ⟨Nat.le_of_ble_eq_true rfl, Nat.le_of_ble_eq_true rfl⟩) hG (fun h_124 g_124 H locs hq hG => ?_)
    replace HW := HW h_124 g_124 hq
    have hG : pG D cy bs (o + 19) (eu E o [.ref (adB bs (o + 1)), .ref (adB bs (o + 3)), .ref (adB bs (o + 5)), .ref (adB bs (o + 7)), .ref (adB bs (o + 9)), .ref (adB bs (o + 11)), .ref (adB bs (o + 13)), .ref (adB bs (o + 15)), .null, .null, .null, .null]) s.heap h_124 g_124 H locs := hG
    refine p_putE hx hb hw inG6 tyX6 tyX6_ok nmX6 hown hK hG (by omega) eu_eq rfl hT.k 8 (by decide) (Nat.le_of_ble_eq_true rfl) (ty := .object "OldWorks$Table") (by decide +kernel) rfl rfl lk41 (Or.inr ⟨rfl, hin, rfl⟩) dX6_init_127 (fun H locs hG => ?_)
    rw [eu_eu] at hG
    have hG : pG D cy bs (o + 19) (eu E o [.ref (adB bs (o + 1)), .ref (adB bs (o + 3)), .ref (adB bs (o + 5)), .ref (adB bs (o + 7)), .ref (adB bs (o + 9)), .ref (adB bs (o + 11)), .ref (adB bs (o + 13)), .ref (adB bs (o + 15)), .ref (adB bs (o + 17)), .null, .null, .null]) s.heap h_124 g_124 H locs := hG
    refine lv_aload_n hx hb dX6_init_130 rfl (lv_at hl 0 rfl) ?_
    refine p_new hx hb hw inG8 tyX8 tyX8_ok hown (hw (.classLink RX6 9 RX8) (wm1 31 rfl rfl)) (hw (.instantiable RX8 4) (wm1 32 rfl rfl)) (hw (.initialized RX8) (wm1 3 rfl rfl)) hK hG rfl (show gK (o + 19) = 8 from ((hT.r 9 (by decide)).2).k) (fs := [.null, .int 0, .int 0, .int 0]) (fun j hj => by rcases (show j = 0 ∨ j = 1 ∨ j = 2 ∨ j = 3 by omega) with rfl | rfl | rfl | rfl <;> rfl) (Nat.le_of_ble_eq_true rfl) (Nat.le_of_ble_eq_true rfl) dX6_init_131 (fun H hG => ?_)
    have hG : pG D cy bs (o + 20) (eu (eu E o [.ref (adB bs (o + 1)), .ref (adB bs (o + 3)), .ref (adB bs (o + 5)), .ref (adB bs (o + 7)), .ref (adB bs (o + 9)), .ref (adB bs (o + 11)), .ref (adB bs (o + 13)), .ref (adB bs (o + 15)), .ref (adB bs (o + 17)), .null, .null, .null]) (o + 19) [.null, .int 0, .int 0, .int 0]) s.heap h_124 g_124 H locs := hG
    refine lv_dup hx hb dX6_init_134 rfl ?_
    refine lv_iconst (v := 3) hx hb dX6_init_135 (by decide) ?_
    refine lv_iconst (v := 2) hx hb dX6_init_136 (by decide) ?_
    obtain ⟨P_137, HC_137, HW⟩ := HW
    refine p_callv (n' := (o + 21)) (E' := (eu E o [.ref (adB bs (o + 1)), .ref (adB bs (o + 3)), .ref (adB bs (o + 5)), .ref (adB bs (o + 7)), .ref (adB bs (o + 9)), .ref (adB bs (o + 11)), .ref (adB bs (o + 13)), .ref (adB bs (o + 15)), .ref (adB bs (o + 17)), .null, .null, .null])) (p_runI (As := [.int (3 : Int32), .int (2 : Int32)]) (rest := [.ref (adB bs (o + 19)), .ref (adB bs o)]) ⟨hx, hb, hml, hown, hts⟩ (n_X8_init l D cy bs (eu E o [.ref (adB bs (o + 1)), .ref (adB bs (o + 3)), .ref (adB bs (o + 5)), .ref (adB bs (o + 7)), .ref (adB bs (o + 9)), .ref (adB bs (o + 11)), .ref (adB bs (o + 13)), .ref (adB bs (o + 15)), .ref (adB bs (o + 17)), .null, .null, .null]) h_124 g_124 (o + 19) (show isT (o + 19) from (hT.r 9 (by decide)).2) (fun q hq => ((eu_ne (by omega)).trans (hE _ (by omega)))) (by exact isS.n9 hT) (N := 6) (3 : Int32) (2 : Int32) P_137 HC_137) (cwI 2 hts (gd_w (wm1 35 rfl rfl)) rfl rfl rfl (hw (.initialized RX8) (wm1 3 rfl rfl)) (hw (.methodLink RX6 11 yX8_init) (wm1 33 rfl rfl)) (hw (.instanceMethod yX8_init) (wm1 34 rfl rfl)) rfl (by decide +kernel) ⟨Nat.le_of_ble_eq_true rfl, Nat.le_of_ble_eq_true rfl⟩) hK hNw hAO hG rfl rfl hl.1 rfl (lv_room (Nat.le_of_ble_eq_true rfl)) dX6_init_137 ⟨Nat.le_of_ble_eq_true rfl, Nat.le_of_ble_eq_true rfl⟩) hG (fun h_137 g_137 H locs hq hG => ?_)
    replace HW := HW h_137 g_137 hq
    have hG : pG D cy bs (o + 21) (eu E o [.ref (adB bs (o + 1)), .ref (adB bs (o + 3)), .ref (adB bs (o + 5)), .ref (adB bs (o + 7)), .ref (adB bs (o + 9)), .ref (adB bs (o + 11)), .ref (adB bs (o + 13)), .ref (adB bs (o + 15)), .ref (adB bs (o + 17)), .null, .null, .null]) s.heap h_137 g_137 H locs := hG
    refine p_putE hx hb hw inG6 tyX6 tyX6_ok nmX6 hown hK hG (by omega) eu_eq rfl hT.k 9 (by decide) (Nat.le_of_ble_eq_true rfl) (ty := .object "OldWorks$Table") (by decide +kernel) rfl rfl lk44 (Or.inr ⟨rfl, hin, rfl⟩) dX6_init_140 (fun H locs hG => ?_)
    rw [eu_eu] at hG
    have hG : pG D cy bs (o + 21) (eu E o [.ref (adB bs (o + 1)), .ref (adB bs (o + 3)), .ref (adB bs (o + 5)), .ref (adB bs (o + 7)), .ref (adB bs (o + 9)), .ref (adB bs (o + 11)), .ref (adB bs (o + 13)), .ref (adB bs (o + 15)), .ref (adB bs (o + 17)), .ref (adB bs (o + 19)), .null, .null]) s.heap h_137 g_137 H locs := hG
    refine lv_aload_n hx hb dX6_init_143 rfl (lv_at hl 0 rfl) ?_
    refine p_new hx hb hw inG8 tyX8 tyX8_ok hown (hw (.classLink RX6 9 RX8) (wm1 31 rfl rfl)) (hw (.instantiable RX8 4) (wm1 32 rfl rfl)) (hw (.initialized RX8) (wm1 3 rfl rfl)) hK hG rfl (show gK (o + 21) = 8 from ((hT.r 10 (by decide)).2).k) (fs := [.null, .int 0, .int 0, .int 0]) (fun j hj => by rcases (show j = 0 ∨ j = 1 ∨ j = 2 ∨ j = 3 by omega) with rfl | rfl | rfl | rfl <;> rfl) (Nat.le_of_ble_eq_true rfl) (Nat.le_of_ble_eq_true rfl) dX6_init_144 (fun H hG => ?_)
    have hG : pG D cy bs (o + 22) (eu (eu E o [.ref (adB bs (o + 1)), .ref (adB bs (o + 3)), .ref (adB bs (o + 5)), .ref (adB bs (o + 7)), .ref (adB bs (o + 9)), .ref (adB bs (o + 11)), .ref (adB bs (o + 13)), .ref (adB bs (o + 15)), .ref (adB bs (o + 17)), .ref (adB bs (o + 19)), .null, .null]) (o + 21) [.null, .int 0, .int 0, .int 0]) s.heap h_137 g_137 H locs := hG
    refine lv_dup hx hb dX6_init_147 rfl ?_
    refine lv_iconst (v := 4) hx hb dX6_init_148 (by decide) ?_
    refine lv_iconst (v := 1) hx hb dX6_init_149 (by decide) ?_
    obtain ⟨P_150, HC_150, HW⟩ := HW
    refine p_callv (n' := (o + 23)) (E' := (eu E o [.ref (adB bs (o + 1)), .ref (adB bs (o + 3)), .ref (adB bs (o + 5)), .ref (adB bs (o + 7)), .ref (adB bs (o + 9)), .ref (adB bs (o + 11)), .ref (adB bs (o + 13)), .ref (adB bs (o + 15)), .ref (adB bs (o + 17)), .ref (adB bs (o + 19)), .null, .null])) (p_runI (As := [.int (4 : Int32), .int (1 : Int32)]) (rest := [.ref (adB bs (o + 21)), .ref (adB bs o)]) ⟨hx, hb, hml, hown, hts⟩ (n_X8_init l D cy bs (eu E o [.ref (adB bs (o + 1)), .ref (adB bs (o + 3)), .ref (adB bs (o + 5)), .ref (adB bs (o + 7)), .ref (adB bs (o + 9)), .ref (adB bs (o + 11)), .ref (adB bs (o + 13)), .ref (adB bs (o + 15)), .ref (adB bs (o + 17)), .ref (adB bs (o + 19)), .null, .null]) h_137 g_137 (o + 21) (show isT (o + 21) from (hT.r 10 (by decide)).2) (fun q hq => ((eu_ne (by omega)).trans (hE _ (by omega)))) (by exact isS.n10 hT) (N := 4) (4 : Int32) (1 : Int32) P_150 HC_150) (cwI 2 hts (gd_w (wm1 35 rfl rfl)) rfl rfl rfl (hw (.initialized RX8) (wm1 3 rfl rfl)) (hw (.methodLink RX6 11 yX8_init) (wm1 33 rfl rfl)) (hw (.instanceMethod yX8_init) (wm1 34 rfl rfl)) rfl (by decide +kernel) ⟨Nat.le_of_ble_eq_true rfl, Nat.le_of_ble_eq_true rfl⟩) hK hNw hAO hG rfl rfl hl.1 rfl (lv_room (Nat.le_of_ble_eq_true rfl)) dX6_init_150 ⟨Nat.le_of_ble_eq_true rfl, Nat.le_of_ble_eq_true rfl⟩) hG (fun h_150 g_150 H locs hq hG => ?_)
    replace HW := HW h_150 g_150 hq
    have hG : pG D cy bs (o + 23) (eu E o [.ref (adB bs (o + 1)), .ref (adB bs (o + 3)), .ref (adB bs (o + 5)), .ref (adB bs (o + 7)), .ref (adB bs (o + 9)), .ref (adB bs (o + 11)), .ref (adB bs (o + 13)), .ref (adB bs (o + 15)), .ref (adB bs (o + 17)), .ref (adB bs (o + 19)), .null, .null]) s.heap h_150 g_150 H locs := hG
    refine p_putE hx hb hw inG6 tyX6 tyX6_ok nmX6 hown hK hG (by omega) eu_eq rfl hT.k 10 (by decide) (Nat.le_of_ble_eq_true rfl) (ty := .object "OldWorks$Table") (by decide +kernel) rfl rfl lk47 (Or.inr ⟨rfl, hin, rfl⟩) dX6_init_153 (fun H locs hG => ?_)
    rw [eu_eu] at hG
    have hG : pG D cy bs (o + 23) (eu E o [.ref (adB bs (o + 1)), .ref (adB bs (o + 3)), .ref (adB bs (o + 5)), .ref (adB bs (o + 7)), .ref (adB bs (o + 9)), .ref (adB bs (o + 11)), .ref (adB bs (o + 13)), .ref (adB bs (o + 15)), .ref (adB bs (o + 17)), .ref (adB bs (o + 19)), .ref (adB bs (o + 21)), .null]) s.heap h_150 g_150 H locs := hG
    refine lv_aload_n hx hb dX6_init_156 rfl (lv_at hl 0 rfl) ?_
    refine p_new hx hb hw inG8 tyX8 tyX8_ok hown (hw (.classLink RX6 9 RX8) (wm1 31 rfl rfl)) (hw (.instantiable RX8 4) (wm1 32 rfl rfl)) (hw (.initialized RX8) (wm1 3 rfl rfl)) hK hG rfl (show gK (o + 23) = 8 from ((hT.r 11 (by decide)).2).k) (fs := [.null, .int 0, .int 0, .int 0]) (fun j hj => by rcases (show j = 0 ∨ j = 1 ∨ j = 2 ∨ j = 3 by omega) with rfl | rfl | rfl | rfl <;> rfl) (Nat.le_of_ble_eq_true rfl) (Nat.le_of_ble_eq_true rfl) dX6_init_157 (fun H hG => ?_)
    have hG : pG D cy bs (o + 24) (eu (eu E o [.ref (adB bs (o + 1)), .ref (adB bs (o + 3)), .ref (adB bs (o + 5)), .ref (adB bs (o + 7)), .ref (adB bs (o + 9)), .ref (adB bs (o + 11)), .ref (adB bs (o + 13)), .ref (adB bs (o + 15)), .ref (adB bs (o + 17)), .ref (adB bs (o + 19)), .ref (adB bs (o + 21)), .null]) (o + 23) [.null, .int 0, .int 0, .int 0]) s.heap h_150 g_150 H locs := hG
    refine lv_dup hx hb dX6_init_160 rfl ?_
    refine lv_bipush (v := 60) hx hb dX6_init_161 (by decide) ?_
    refine lv_iconst (v := 1) hx hb dX6_init_163 (by decide) ?_
    obtain ⟨P_164, HC_164, HW⟩ := HW
    refine p_callv (n' := (o + 25)) (E' := (eu E o [.ref (adB bs (o + 1)), .ref (adB bs (o + 3)), .ref (adB bs (o + 5)), .ref (adB bs (o + 7)), .ref (adB bs (o + 9)), .ref (adB bs (o + 11)), .ref (adB bs (o + 13)), .ref (adB bs (o + 15)), .ref (adB bs (o + 17)), .ref (adB bs (o + 19)), .ref (adB bs (o + 21)), .null])) (p_runI (As := [.int (60 : Int32), .int (1 : Int32)]) (rest := [.ref (adB bs (o + 23)), .ref (adB bs o)]) ⟨hx, hb, hml, hown, hts⟩ (n_X8_init l D cy bs (eu E o [.ref (adB bs (o + 1)), .ref (adB bs (o + 3)), .ref (adB bs (o + 5)), .ref (adB bs (o + 7)), .ref (adB bs (o + 9)), .ref (adB bs (o + 11)), .ref (adB bs (o + 13)), .ref (adB bs (o + 15)), .ref (adB bs (o + 17)), .ref (adB bs (o + 19)), .ref (adB bs (o + 21)), .null]) h_150 g_150 (o + 23) (show isT (o + 23) from (hT.r 11 (by decide)).2) (fun q hq => ((eu_ne (by omega)).trans (hE _ (by omega)))) (by exact isS.n11 hT) (N := 60) (60 : Int32) (1 : Int32) P_164 HC_164) (cwI 2 hts (gd_w (wm1 35 rfl rfl)) rfl rfl rfl (hw (.initialized RX8) (wm1 3 rfl rfl)) (hw (.methodLink RX6 11 yX8_init) (wm1 33 rfl rfl)) (hw (.instanceMethod yX8_init) (wm1 34 rfl rfl)) rfl (by decide +kernel) ⟨Nat.le_of_ble_eq_true rfl, Nat.le_of_ble_eq_true rfl⟩) hK hNw hAO hG rfl rfl hl.1 rfl (lv_room (Nat.le_of_ble_eq_true rfl)) dX6_init_164 ⟨Nat.le_of_ble_eq_true rfl, Nat.le_of_ble_eq_true rfl⟩) hG (fun h_164 g_164 H locs hq hG => ?_)
    replace HW := HW h_164 g_164 hq
    have hG : pG D cy bs (o + 25) (eu E o [.ref (adB bs (o + 1)), .ref (adB bs (o + 3)), .ref (adB bs (o + 5)), .ref (adB bs (o + 7)), .ref (adB bs (o + 9)), .ref (adB bs (o + 11)), .ref (adB bs (o + 13)), .ref (adB bs (o + 15)), .ref (adB bs (o + 17)), .ref (adB bs (o + 19)), .ref (adB bs (o + 21)), .null]) s.heap h_164 g_164 H locs := hG
    refine p_putE hx hb hw inG6 tyX6 tyX6_ok nmX6 hown hK hG (by omega) eu_eq rfl hT.k 11 (by decide) (Nat.le_of_ble_eq_true rfl) (ty := .object "OldWorks$Table") (by decide +kernel) rfl rfl lk52 (Or.inr ⟨rfl, hin, rfl⟩) dX6_init_167 (fun H locs hG => ?_)
    rw [eu_eu] at hG
    have hG : pG D cy bs (o + 25) (eu E o [.ref (adB bs (o + 1)), .ref (adB bs (o + 3)), .ref (adB bs (o + 5)), .ref (adB bs (o + 7)), .ref (adB bs (o + 9)), .ref (adB bs (o + 11)), .ref (adB bs (o + 13)), .ref (adB bs (o + 15)), .ref (adB bs (o + 17)), .ref (adB bs (o + 19)), .ref (adB bs (o + 21)), .ref (adB bs (o + 23))]) s.heap h_164 g_164 H locs := hG
    refine lv_iconst (v := 0) hx hb dX6_init_170 (by decide) ?_
    refine lv_istore_n (lv' := [(1, .int (0 : Int32)), (0, .ref (adB bs o))]) hx hb dX6_init_171 rfl hl (by decide) rfl (fun ls hl => ?_)
    obtain ⟨n_172, HW⟩ := HW
    exact L172 n_172 (0 : Int32) h_164 g_164 _ _ _ HW hG (lv_sub hl [1, 0] rfl)
  exact E0 _ _ _ hG hl

def w_X4_init  (h : HI) (g : HL) (Q : HI → HL → Prop) : Prop :=
  (∀ h_7 : HI, h_7 = hua h 78 (fun _ => 0) → (∀ h_15 : HI, h_15 = hua h_7 79 (fun _ => 0) → (∀ g_23 : HL, g_23 = (fun q => if q = 80 then (fun _ => 0) else g q) → (∀ h_38 : HI, h_38 = hua h_15 77 (fun k => ([0, 0, 0, 0, 0, 0, 0, 0, 0, (1 : Int32)] : List Int32).getD k 0) → Q h_38 g_23))))
set_option maxHeartbeats 40000000 in
set_option maxRecDepth 100000 in
theorem n_X4_init (l : Launch) (D : va_G) (cy : Nat → ClassId) (bs : Nat) (E : Nat → Option (List Value)) (h : HI) (g : HL) (hE : ∀ q, 77 ≤ q → E q = none)  (Q : HI → HL → Prop) (HW : w_X4_init h g Q) : Met l yX4_init (wa yX4_init cX4_init 2 none) ({ frames := 1, cells := 3, slots := 180, locals := 20 } : Room) (va_Pc [.ref (adB bs 77), .ref (adB bs 1)] (pI D cy bs 78 (eu E 77 [.null, .null, .null, .null, .int 0, .int 0, .int 0, .int 0, .int 0, .int 0]) h g)) (va_Qv (fun (u : HI × HL) => Q u.1 u.2) (pB D cy bs 81 E) (pA bs)) 3 180 (pA bs) := by
  refine Met.ofW (cc := cX4_init) (maxL := 2) (ret := none) (by decide) rfl ?_
  intro p e s m args below meth c s₁ B hml hv
  obtain ⟨hav, hP, hsz, hK, hNw, hAO⟩ := hv
  have hx := B.exec
  have hb := B.bytes
  have hr := B.returns
  have hts := atoms_spec (ws := (wa yX4_init cX4_init 2 none)) B.pre
  have hw := wa_hw hts
  have hown : s.vm.findClass RX4 = some m.cls := findClass_of_methodNamed B.named
  have hlocks := B.notSynchronized
  have hin : meth.name = "<init>" := (name_of_methodNamed B.named B.method).1
  have hG : pG D cy bs 78 (eu E 77 [.null, .null, .null, .null, .int 0, .int 0, .int 0, .int 0, .int 0, .int 0]) s.heap h g s.heap [] := ⟨hP, va_S.rf, hsz⟩
  clear hP
  have ob1 := hw (.methodLink RX4 3 objectInit) (wm1 128 rfl rfl)
  have ob2 := hw (.instanceMethod objectInit) (wm1 23 rfl rfl)
  have ob3 := hw (.code objectInit ⟨#[0xb1]⟩ 1 none) (wm1 24 rfl rfl)
  have ac_int := hw (.arrayClass .int) (wm1 50 rfl rfl)
  have lk11 := hw (.fieldLink RX4 11 "OldWorks$Law" "steps" "[I") (wm1 130 rfl rfl)
  have lk15 := hw (.fieldLink RX4 15 "OldWorks$Law" "waiting" "[I") (wm1 131 rfl rfl)
  have ac_long := hw (.arrayClass .long) (wm1 161 rfl rfl)
  have lk18 := hw (.fieldLink RX4 18 "OldWorks$Law" "pile" "[J") (wm1 132 rfl rfl)
  have lk22 := hw (.fieldLink RX4 22 "OldWorks$Law" "shop" "LOldWorks$Shop;") (wm1 129 rfl rfl)
  have lk26 := hw (.fieldLink RX4 26 "OldWorks$Law" "flaw" "I") (wm1 138 rfl rfl)
  rw [show (headSpec (wa yX4_init cX4_init 2 none) ({ frames := 1, cells := 3, slots := 180, locals := 20 } : Room)).room = ({ frames := 1, cells := 3, slots := 180, locals := 20 } : Room) from rfl]
  have hl := lv_entry ([.ref (adB bs 77), .ref (adB bs 1)]) (n := 2) (Nat.le_of_ble_eq_true rfl)
  rw [show entryFrame m args 2 = entryFrame m ([.ref (adB bs 77), .ref (adB bs 1)] : List Value).toArray 2 from by rw [hav], lg_entry_eq]
  generalize (lg_sl ([.ref (adB bs 77), .ref (adB bs 1)]) ++ List.replicate (2 - (lg_sl ([.ref (adB bs 77), .ref (adB bs 1)])).length) Slot.unset).toArray = ls at hl ⊢
  have hl : lv_has ls 2 [(0, .ref (adB bs 77)), (1, .ref (adB bs 1))] := hl
  have E0 : ∀ (H : Heap) (locs : List Loc) (ls : Array Slot), pG D cy bs 78 (eu E 77 [.null, .null, .null, .null, .int 0, .int 0, .int 0, .int 0, .int 0, .int 0]) s.heap h g H locs → lv_has ls 2 [(0, .ref (adB bs 77)), (1, .ref (adB bs 1))] → W p l e ({ frames := 1, cells := 3, slots := 180, locals := 20 } : Room) s m args below meth c H locs 0 0 (MQ below (va_Qv (fun (u : HI × HL) => Q u.1 u.2) (pB D cy bs 81 E) (pA bs)) args s 3 180 (pA bs)) (F0 m 0 ls []) := by
    intro H locs ls hG hl
    unfold w_X4_init at HW
    refine lv_aload_n hx hb dX4_init_0 rfl (lv_at hl 0 rfl) ?_
    refine W.objInit hx hb hown ob1 ob2 ob3 rfl (hl.1.trans hml.symm) rfl dX4_init_1 (Nat.le_of_ble_eq_true rfl) (Nat.le_of_ble_eq_true rfl) ?_
    refine W.eq (g2 := F0 m 4 ls []) rfl ?_
    refine lv_aload_n hx hb dX4_init_4 rfl (lv_at hl 0 rfl) ?_
    refine lv_bipush (v := 60) hx hb dX4_init_5 (by decide) ?_
    refine p_newi hx hb ac_int hK hG gk_78 ((eu_ne (by omega)).trans (hE _ (by omega))) (by decide) (by decide) (gn_78) (by decide) (Nat.le_of_ble_eq_true rfl) (Nat.le_of_ble_eq_true rfl) dX4_init_7 (fun H hG => ?_)
    obtain ⟨h_7, eh_7⟩ : ∃ y : HI, y = hua h 78 (fun _ => 0) := ⟨_, rfl⟩
    rw [← eh_7] at hG
    replace HW := HW h_7 eh_7
    have hG : pG D cy bs 79 (eu E 77 [.null, .null, .null, .null, .int 0, .int 0, .int 0, .int 0, .int 0, .int 0]) s.heap h_7 g H locs := hG
    refine p_putE hx hb hw inG4 tyX4 tyX4_ok nmX4 hown hK hG (by omega) eu_eq rfl gk_77 1 (by decide) (Nat.le_of_ble_eq_true rfl) (ty := .array .int) (by decide +kernel) rfl rfl lk11 (Or.inr ⟨rfl, hin, rfl⟩) dX4_init_9 (fun H locs hG => ?_)
    rw [eu_eu] at hG
    have hG : pG D cy bs 79 (eu E 77 [.null, .ref (adB bs 78), .null, .null, .int 0, .int 0, .int 0, .int 0, .int 0, .int 0]) s.heap h_7 g H locs := hG
    refine lv_aload_n hx hb dX4_init_12 rfl (lv_at hl 0 rfl) ?_
    refine lv_bipush (v := 60) hx hb dX4_init_13 (by decide) ?_
    refine p_newi hx hb ac_int hK hG gk_79 ((eu_ne (by omega)).trans (hE _ (by omega))) (by decide) (by decide) (gn_79) (by decide) (Nat.le_of_ble_eq_true rfl) (Nat.le_of_ble_eq_true rfl) dX4_init_15 (fun H hG => ?_)
    obtain ⟨h_15, eh_15⟩ : ∃ y : HI, y = hua h_7 79 (fun _ => 0) := ⟨_, rfl⟩
    rw [← eh_15] at hG
    replace HW := HW h_15 eh_15
    have hG : pG D cy bs 80 (eu E 77 [.null, .ref (adB bs 78), .null, .null, .int 0, .int 0, .int 0, .int 0, .int 0, .int 0]) s.heap h_15 g H locs := hG
    refine p_putE hx hb hw inG4 tyX4 tyX4_ok nmX4 hown hK hG (by omega) eu_eq rfl gk_77 2 (by decide) (Nat.le_of_ble_eq_true rfl) (ty := .array .int) (by decide +kernel) rfl rfl lk15 (Or.inr ⟨rfl, hin, rfl⟩) dX4_init_17 (fun H locs hG => ?_)
    rw [eu_eu] at hG
    have hG : pG D cy bs 80 (eu E 77 [.null, .ref (adB bs 78), .ref (adB bs 79), .null, .int 0, .int 0, .int 0, .int 0, .int 0, .int 0]) s.heap h_15 g H locs := hG
    refine lv_aload_n hx hb dX4_init_20 rfl (lv_at hl 0 rfl) ?_
    refine lv_bipush (v := 60) hx hb dX4_init_21 (by decide) ?_
    refine p_newj hx hb ac_long hK hG gk_80 ((eu_ne (by omega)).trans (hE _ (by omega))) (by decide) (by decide) (gn_80) (by decide) (Nat.le_of_ble_eq_true rfl) (Nat.le_of_ble_eq_true rfl) dX4_init_23 (fun H hG => ?_)
    obtain ⟨g_23, eg_23⟩ : ∃ y : HL, y = (fun q => if q = 80 then (fun _ => 0) else g q) := ⟨_, rfl⟩
    rw [← eg_23] at hG
    replace HW := HW g_23 eg_23
    have hG : pG D cy bs 81 (eu E 77 [.null, .ref (adB bs 78), .ref (adB bs 79), .null, .int 0, .int 0, .int 0, .int 0, .int 0, .int 0]) s.heap h_15 g_23 H locs := hG
    refine p_putE hx hb hw inG4 tyX4 tyX4_ok nmX4 hown hK hG (by omega) eu_eq rfl gk_77 3 (by decide) (Nat.le_of_ble_eq_true rfl) (ty := .array .long) (by decide +kernel) rfl rfl lk18 (Or.inr ⟨rfl, hin, rfl⟩) dX4_init_25 (fun H locs hG => ?_)
    rw [eu_eu] at hG
    have hG : pG D cy bs 81 (eu E 77 [.null, .ref (adB bs 78), .ref (adB bs 79), .ref (adB bs 80), .int 0, .int 0, .int 0, .int 0, .int 0, .int 0]) s.heap h_15 g_23 H locs := hG
    refine lv_aload_n hx hb dX4_init_28 rfl (lv_at hl 0 rfl) ?_
    refine lv_aload_n hx hb dX4_init_29 rfl (lv_at hl 1 rfl) ?_
    refine p_putE hx hb hw inG4 tyX4 tyX4_ok nmX4 hown hK hG (by omega) eu_eq rfl gk_77 0 (by decide) (Nat.le_of_ble_eq_true rfl) (ty := .object "OldWorks$Shop") (by decide +kernel) rfl rfl lk22 (Or.inr ⟨rfl, hin, rfl⟩) dX4_init_30 (fun H locs hG => ?_)
    rw [eu_eu] at hG
    have hG : pG D cy bs 81 (eu E 77 [.ref (adB bs 1), .ref (adB bs 78), .ref (adB bs 79), .ref (adB bs 80), .int 0, .int 0, .int 0, .int 0, .int 0, .int 0]) s.heap h_15 g_23 H locs := hG
    refine lv_aload_n hx hb dX4_init_33 rfl (lv_at hl 0 rfl) ?_
    refine lv_iconst (v := 1) hx hb dX4_init_34 (by decide) ?_
    refine p_putE hx hb hw inG4 tyX4 tyX4_ok nmX4 hown hK hG (by omega) eu_eq rfl gk_77 9 (by decide) (Nat.le_of_ble_eq_true rfl) (ty := .int) (by decide +kernel) rfl rfl lk26 (Or.inl rfl) dX4_init_35 (fun H locs hG => ?_)
    rw [eu_eu] at hG
    have hG : pG D cy bs 81 (eu E 77 [.ref (adB bs 1), .ref (adB bs 78), .ref (adB bs 79), .ref (adB bs 80), .int 0, .int 0, .int 0, .int 0, .int 0, .int (1 : Int32)]) s.heap h_15 g_23 H locs := hG
    have hG := pG_done (f := (fun k => ([0, 0, 0, 0, 0, 0, 0, 0, 0, (1 : Int32)] : List Int32).getD k 0)) hG (hE _ (Nat.le_refl _)) (by rw [gk_77]; decide) rfl
    obtain ⟨h_38, eh_38⟩ : ∃ y : HI, y = hua h_15 77 (fun k => ([0, 0, 0, 0, 0, 0, 0, 0, 0, (1 : Int32)] : List Int32).getD k 0) := ⟨_, rfl⟩
    rw [← eh_38] at hG
    replace HW := HW h_38 eh_38
    refine W.widen (k := 3) (n := 180) (by first | exact Nat.le_refl _ | decide | omega) (by first | exact Nat.le_refl _ | decide | omega) ?_
    exact W.vret hx hb hr (fun t ht hW => ⟨⟨(h_38, g_23), rfl, HW, p_B ht hG⟩, hG.2.1.F ht⟩) hG.2.1.2.2 dX4_init_38
  exact E0 _ _ _ hG hl

def w_X7_init  (h : HI) (g : HL) (Q : HI → HL → Prop) : Prop :=
  (∀ h_17 : HI, h_17 = hua h 82 (fun _ => 0) → (∀ h_25 : HI, h_25 = hua h_17 83 (fun _ => 0) → (∀ h_33 : HI, h_33 = hua h_25 84 (fun _ => 0) → (∀ h_38 : HI, h_38 = hua h_33 81 (fun k => ([0, 0, 0, 0, 0, 0, 0, 0, 0, 0, 0, 0] : List Int32).getD k 0) → Q h_38 g))))
set_option maxHeartbeats 40000000 in
set_option maxRecDepth 100000 in
theorem n_X7_init (l : Launch) (D : va_G) (cy : Nat → ClassId) (bs : Nat) (E : Nat → Option (List Value)) (h : HI) (g : HL) (hE : ∀ q, 81 ≤ q → E q = none)  (Q : HI → HL → Prop) (HW : w_X7_init h g Q) : Met l yX7_init (wa yX7_init cX7_init 3 none) ({ frames := 1, cells := 3, slots := 180, locals := 20 } : Room) (va_Pc [.ref (adB bs 81), .ref (adB bs 1), .ref (adB bs 77)] (pI D cy bs 82 (eu E 81 [.null, .null, .null, .null, .null, .int 0, .int 0, .int 0, .int 0, .int 0, .int 0, .int 0]) h g)) (va_Qv (fun (u : HI × HL) => Q u.1 u.2) (pB D cy bs 85 E) (pA bs)) 3 180 (pA bs) := by
  refine Met.ofW (cc := cX7_init) (maxL := 3) (ret := none) (by decide) rfl ?_
  intro p e s m args below meth c s₁ B hml hv
  obtain ⟨hav, hP, hsz, hK, hNw, hAO⟩ := hv
  have hx := B.exec
  have hb := B.bytes
  have hr := B.returns
  have hts := atoms_spec (ws := (wa yX7_init cX7_init 3 none)) B.pre
  have hw := wa_hw hts
  have hown : s.vm.findClass RX7 = some m.cls := findClass_of_methodNamed B.named
  have hlocks := B.notSynchronized
  have hin : meth.name = "<init>" := (name_of_methodNamed B.named B.method).1
  have hG : pG D cy bs 82 (eu E 81 [.null, .null, .null, .null, .null, .int 0, .int 0, .int 0, .int 0, .int 0, .int 0, .int 0]) s.heap h g s.heap [] := ⟨hP, va_S.rf, hsz⟩
  clear hP
  have ob1 := hw (.methodLink RX7 3 objectInit) (wm1 167 rfl rfl)
  have ob2 := hw (.instanceMethod objectInit) (wm1 23 rfl rfl)
  have ob3 := hw (.code objectInit ⟨#[0xb1]⟩ 1 none) (wm1 24 rfl rfl)
  have lk9 := hw (.fieldLink RX7 9 "OldWorks$Sizes" "shop" "LOldWorks$Shop;") (wm1 168 rfl rfl)
  have lk15 := hw (.fieldLink RX7 15 "OldWorks$Sizes" "law" "LOldWorks$Law;") (wm1 169 rfl rfl)
  have ac_int := hw (.arrayClass .int) (wm1 50 rfl rfl)
  have lk19 := hw (.fieldLink RX7 19 "OldWorks$Sizes" "lows" "[I") (wm1 170 rfl rfl)
  have lk23 := hw (.fieldLink RX7 23 "OldWorks$Sizes" "highs" "[I") (wm1 171 rfl rfl)
  have lk26 := hw (.fieldLink RX7 26 "OldWorks$Sizes" "sayings" "[I") (wm1 172 rfl rfl)
  rw [show (headSpec (wa yX7_init cX7_init 3 none) ({ frames := 1, cells := 3, slots := 180, locals := 20 } : Room)).room = ({ frames := 1, cells := 3, slots := 180, locals := 20 } : Room) from rfl]
  have hl := lv_entry ([.ref (adB bs 81), .ref (adB bs 1), .ref (adB bs 77)]) (n := 3) (Nat.le_of_ble_eq_true rfl)
  rw [show entryFrame m args 3 = entryFrame m ([.ref (adB bs 81), .ref (adB bs 1), .ref (adB bs 77)] : List Value).toArray 3 from by rw [hav], lg_entry_eq]
  generalize (lg_sl ([.ref (adB bs 81), .ref (adB bs 1), .ref (adB bs 77)]) ++ List.replicate (3 - (lg_sl ([.ref (adB bs 81), .ref (adB bs 1), .ref (adB bs 77)])).length) Slot.unset).toArray = ls at hl ⊢
  have hl : lv_has ls 3 [(0, .ref (adB bs 81)), (1, .ref (adB bs 1)), (2, .ref (adB bs 77))] := hl
  have E0 : ∀ (H : Heap) (locs : List Loc) (ls : Array Slot), pG D cy bs 82 (eu E 81 [.null, .null, .null, .null, .null, .int 0, .int 0, .int 0, .int 0, .int 0, .int 0, .int 0]) s.heap h g H locs → lv_has ls 3 [(0, .ref (adB bs 81)), (1, .ref (adB bs 1)), (2, .ref (adB bs 77))] → W p l e ({ frames := 1, cells := 3, slots := 180, locals := 20 } : Room) s m args below meth c H locs 0 0 (MQ below (va_Qv (fun (u : HI × HL) => Q u.1 u.2) (pB D cy bs 85 E) (pA bs)) args s 3 180 (pA bs)) (F0 m 0 ls []) := by
    intro H locs ls hG hl
    unfold w_X7_init at HW
    refine lv_aload_n hx hb dX7_init_0 rfl (lv_at hl 0 rfl) ?_
    refine W.objInit hx hb hown ob1 ob2 ob3 rfl (hl.1.trans hml.symm) rfl dX7_init_1 (Nat.le_of_ble_eq_true rfl) (Nat.le_of_ble_eq_true rfl) ?_
    refine W.eq (g2 := F0 m 4 ls []) rfl ?_
    refine lv_aload_n hx hb dX7_init_4 rfl (lv_at hl 0 rfl) ?_
    refine lv_aload_n hx hb dX7_init_5 rfl (lv_at hl 1 rfl) ?_
    refine p_putE hx hb hw inG7 tyX7 tyX7_ok nmX7 hown hK hG (by omega) eu_eq rfl gk_81 0 (by decide) (Nat.le_of_ble_eq_true rfl) (ty := .object "OldWorks$Shop") (by decide +kernel) rfl rfl lk9 (Or.inr ⟨rfl, hin, rfl⟩) dX7_init_6 (fun H locs hG => ?_)
    rw [eu_eu] at hG
    have hG : pG D cy bs 82 (eu E 81 [.ref (adB bs 1), .null, .null, .null, .null, .int 0, .int 0, .int 0, .int 0, .int 0, .int 0, .int 0]) s.heap h g H locs := hG
    refine lv_aload_n hx hb dX7_init_9 rfl (lv_at hl 0 rfl) ?_
    refine lv_aload_n hx hb dX7_init_10 rfl (lv_at hl 2 rfl) ?_
    refine p_putE hx hb hw inG7 tyX7 tyX7_ok nmX7 hown hK hG (by omega) eu_eq rfl gk_81 1 (by decide) (Nat.le_of_ble_eq_true rfl) (ty := .object "OldWorks$Law") (by decide +kernel) rfl rfl lk15 (Or.inr ⟨rfl, hin, rfl⟩) dX7_init_11 (fun H locs hG => ?_)
    rw [eu_eu] at hG
    have hG : pG D cy bs 82 (eu E 81 [.ref (adB bs 1), .ref (adB bs 77), .null, .null, .null, .int 0, .int 0, .int 0, .int 0, .int 0, .int 0, .int 0]) s.heap h g H locs := hG
    refine lv_aload_n hx hb dX7_init_14 rfl (lv_at hl 0 rfl) ?_
    refine lv_bipush (v := 60) hx hb dX7_init_15 (by decide) ?_
    refine p_newi hx hb ac_int hK hG gk_82 ((eu_ne (by omega)).trans (hE _ (by omega))) (by decide) (by decide) (gn_82) (by decide) (Nat.le_of_ble_eq_true rfl) (Nat.le_of_ble_eq_true rfl) dX7_init_17 (fun H hG => ?_)
    obtain ⟨h_17, eh_17⟩ : ∃ y : HI, y = hua h 82 (fun _ => 0) := ⟨_, rfl⟩
    rw [← eh_17] at hG
    replace HW := HW h_17 eh_17
    have hG : pG D cy bs 83 (eu E 81 [.ref (adB bs 1), .ref (adB bs 77), .null, .null, .null, .int 0, .int 0, .int 0, .int 0, .int 0, .int 0, .int 0]) s.heap h_17 g H locs := hG
    refine p_putE hx hb hw inG7 tyX7 tyX7_ok nmX7 hown hK hG (by omega) eu_eq rfl gk_81 2 (by decide) (Nat.le_of_ble_eq_true rfl) (ty := .array .int) (by decide +kernel) rfl rfl lk19 (Or.inr ⟨rfl, hin, rfl⟩) dX7_init_19 (fun H locs hG => ?_)
    rw [eu_eu] at hG
    have hG : pG D cy bs 83 (eu E 81 [.ref (adB bs 1), .ref (adB bs 77), .ref (adB bs 82), .null, .null, .int 0, .int 0, .int 0, .int 0, .int 0, .int 0, .int 0]) s.heap h_17 g H locs := hG
    refine lv_aload_n hx hb dX7_init_22 rfl (lv_at hl 0 rfl) ?_
    refine lv_bipush (v := 60) hx hb dX7_init_23 (by decide) ?_
    refine p_newi hx hb ac_int hK hG gk_83 ((eu_ne (by omega)).trans (hE _ (by omega))) (by decide) (by decide) (gn_83) (by decide) (Nat.le_of_ble_eq_true rfl) (Nat.le_of_ble_eq_true rfl) dX7_init_25 (fun H hG => ?_)
    obtain ⟨h_25, eh_25⟩ : ∃ y : HI, y = hua h_17 83 (fun _ => 0) := ⟨_, rfl⟩
    rw [← eh_25] at hG
    replace HW := HW h_25 eh_25
    have hG : pG D cy bs 84 (eu E 81 [.ref (adB bs 1), .ref (adB bs 77), .ref (adB bs 82), .null, .null, .int 0, .int 0, .int 0, .int 0, .int 0, .int 0, .int 0]) s.heap h_25 g H locs := hG
    refine p_putE hx hb hw inG7 tyX7 tyX7_ok nmX7 hown hK hG (by omega) eu_eq rfl gk_81 3 (by decide) (Nat.le_of_ble_eq_true rfl) (ty := .array .int) (by decide +kernel) rfl rfl lk23 (Or.inr ⟨rfl, hin, rfl⟩) dX7_init_27 (fun H locs hG => ?_)
    rw [eu_eu] at hG
    have hG : pG D cy bs 84 (eu E 81 [.ref (adB bs 1), .ref (adB bs 77), .ref (adB bs 82), .ref (adB bs 83), .null, .int 0, .int 0, .int 0, .int 0, .int 0, .int 0, .int 0]) s.heap h_25 g H locs := hG
    refine lv_aload_n hx hb dX7_init_30 rfl (lv_at hl 0 rfl) ?_
    refine lv_bipush (v := 60) hx hb dX7_init_31 (by decide) ?_
    refine p_newi hx hb ac_int hK hG gk_84 ((eu_ne (by omega)).trans (hE _ (by omega))) (by decide) (by decide) (gn_84) (by decide) (Nat.le_of_ble_eq_true rfl) (Nat.le_of_ble_eq_true rfl) dX7_init_33 (fun H hG => ?_)
    obtain ⟨h_33, eh_33⟩ : ∃ y : HI, y = hua h_25 84 (fun _ => 0) := ⟨_, rfl⟩
    rw [← eh_33] at hG
    replace HW := HW h_33 eh_33
    have hG : pG D cy bs 85 (eu E 81 [.ref (adB bs 1), .ref (adB bs 77), .ref (adB bs 82), .ref (adB bs 83), .null, .int 0, .int 0, .int 0, .int 0, .int 0, .int 0, .int 0]) s.heap h_33 g H locs := hG
    refine p_putE hx hb hw inG7 tyX7 tyX7_ok nmX7 hown hK hG (by omega) eu_eq rfl gk_81 4 (by decide) (Nat.le_of_ble_eq_true rfl) (ty := .array .int) (by decide +kernel) rfl rfl lk26 (Or.inr ⟨rfl, hin, rfl⟩) dX7_init_35 (fun H locs hG => ?_)
    rw [eu_eu] at hG
    have hG : pG D cy bs 85 (eu E 81 [.ref (adB bs 1), .ref (adB bs 77), .ref (adB bs 82), .ref (adB bs 83), .ref (adB bs 84), .int 0, .int 0, .int 0, .int 0, .int 0, .int 0, .int 0]) s.heap h_33 g H locs := hG
    have hG := pG_done (f := (fun k => ([0, 0, 0, 0, 0, 0, 0, 0, 0, 0, 0, 0] : List Int32).getD k 0)) hG (hE _ (Nat.le_refl _)) (by rw [gk_81]; decide) rfl
    obtain ⟨h_38, eh_38⟩ : ∃ y : HI, y = hua h_33 81 (fun k => ([0, 0, 0, 0, 0, 0, 0, 0, 0, 0, 0, 0] : List Int32).getD k 0) := ⟨_, rfl⟩
    rw [← eh_38] at hG
    replace HW := HW h_38 eh_38
    refine W.widen (k := 3) (n := 180) (by first | exact Nat.le_refl _ | decide | omega) (by first | exact Nat.le_refl _ | decide | omega) ?_
    exact W.vret hx hb hr (fun t ht hW => ⟨⟨(h_38, g), rfl, HW, p_B ht hG⟩, hG.2.1.F ht⟩) hG.2.1.2.2 dX7_init_38
  exact E0 _ _ _ hG hl

def w_X2_init  (h : HI) (g : HL) (Q : HI → HL → Prop) : Prop :=
  (∀ h_7 : HI, h_7 = hua h 86 (fun _ => 0) → (∀ h_15 : HI, h_15 = hua h_7 87 (fun _ => 0) → (∀ h_23 : HI, h_23 = hua h_15 88 (fun _ => 0) → (∀ h_43 : HI, h_43 = hua h_23 85 (fun k => ([0, 0, 0, 0, 0, 0, 0, 0, 0, 0] : List Int32).getD k 0) → Q h_43 g))))
set_option maxHeartbeats 40000000 in
set_option maxRecDepth 100000 in
theorem n_X2_init (l : Launch) (D : va_G) (cy : Nat → ClassId) (bs : Nat) (E : Nat → Option (List Value)) (h : HI) (g : HL) (hE : ∀ q, 85 ≤ q → E q = none)  (Q : HI → HL → Prop) (HW : w_X2_init h g Q) : Met l yX2_init (wa yX2_init cX2_init 4 none) ({ frames := 1, cells := 3, slots := 18, locals := 20 } : Room) (va_Pc [.ref (adB bs 85), .ref (adB bs 1), .ref (adB bs 77), .ref (adB bs 81)] (pI D cy bs 86 (eu E 85 [.null, .null, .null, .null, .null, .null, .int 0, .int 0, .int 0, .int 0]) h g)) (va_Qv (fun (u : HI × HL) => Q u.1 u.2) (pB D cy bs 89 E) (pA bs)) 3 18 (pA bs) := by
  refine Met.ofW (cc := cX2_init) (maxL := 4) (ret := none) (by decide) rfl ?_
  intro p e s m args below meth c s₁ B hml hv
  obtain ⟨hav, hP, hsz, hK, hNw, hAO⟩ := hv
  have hx := B.exec
  have hb := B.bytes
  have hr := B.returns
  have hts := atoms_spec (ws := (wa yX2_init cX2_init 4 none)) B.pre
  have hw := wa_hw hts
  have hown : s.vm.findClass RX2 = some m.cls := findClass_of_methodNamed B.named
  have hlocks := B.notSynchronized
  have hin : meth.name = "<init>" := (name_of_methodNamed B.named B.method).1
  have hG : pG D cy bs 86 (eu E 85 [.null, .null, .null, .null, .null, .null, .int 0, .int 0, .int 0, .int 0]) s.heap h g s.heap [] := ⟨hP, va_S.rf, hsz⟩
  clear hP
  have ob1 := hw (.methodLink RX2 1 objectInit) (wm1 213 rfl rfl)
  have ob2 := hw (.instanceMethod objectInit) (wm1 23 rfl rfl)
  have ob3 := hw (.code objectInit ⟨#[0xb1]⟩ 1 none) (wm1 24 rfl rfl)
  have ac_int := hw (.arrayClass .int) (wm1 50 rfl rfl)
  have lk9 := hw (.fieldLink RX2 9 "OldWorks$Fits" "parts" "[I") (wm1 217 rfl rfl)
  have lk15 := hw (.fieldLink RX2 15 "OldWorks$Fits" "leasts" "[I") (wm1 218 rfl rfl)
  have lk18 := hw (.fieldLink RX2 18 "OldWorks$Fits" "greatests" "[I") (wm1 219 rfl rfl)
  have lk21 := hw (.fieldLink RX2 21 "OldWorks$Fits" "shop" "LOldWorks$Shop;") (wm1 214 rfl rfl)
  have lk25 := hw (.fieldLink RX2 25 "OldWorks$Fits" "law" "LOldWorks$Law;") (wm1 215 rfl rfl)
  have lk29 := hw (.fieldLink RX2 29 "OldWorks$Fits" "sizes" "LOldWorks$Sizes;") (wm1 216 rfl rfl)
  rw [show (headSpec (wa yX2_init cX2_init 4 none) ({ frames := 1, cells := 3, slots := 18, locals := 20 } : Room)).room = ({ frames := 1, cells := 3, slots := 18, locals := 20 } : Room) from rfl]
  have hl := lv_entry ([.ref (adB bs 85), .ref (adB bs 1), .ref (adB bs 77), .ref (adB bs 81)]) (n := 4) (Nat.le_of_ble_eq_true rfl)
  rw [show entryFrame m args 4 = entryFrame m ([.ref (adB bs 85), .ref (adB bs 1), .ref (adB bs 77), .ref (adB bs 81)] : List Value).toArray 4 from by rw [hav], lg_entry_eq]
  generalize (lg_sl ([.ref (adB bs 85), .ref (adB bs 1), .ref (adB bs 77), .ref (adB bs 81)]) ++ List.replicate (4 - (lg_sl ([.ref (adB bs 85), .ref (adB bs 1), .ref (adB bs 77), .ref (adB bs 81)])).length) Slot.unset).toArray = ls at hl ⊢
  have hl : lv_has ls 4 [(0, .ref (adB bs 85)), (1, .ref (adB bs 1)), (2, .ref (adB bs 77)), (3, .ref (adB bs 81))] := hl
  have E0 : ∀ (H : Heap) (locs : List Loc) (ls : Array Slot), pG D cy bs 86 (eu E 85 [.null, .null, .null, .null, .null, .null, .int 0, .int 0, .int 0, .int 0]) s.heap h g H locs → lv_has ls 4 [(0, .ref (adB bs 85)), (1, .ref (adB bs 1)), (2, .ref (adB bs 77)), (3, .ref (adB bs 81))] → W p l e ({ frames := 1, cells := 3, slots := 18, locals := 20 } : Room) s m args below meth c H locs 0 0 (MQ below (va_Qv (fun (u : HI × HL) => Q u.1 u.2) (pB D cy bs 89 E) (pA bs)) args s 3 18 (pA bs)) (F0 m 0 ls []) := by
    intro H locs ls hG hl
    unfold w_X2_init at HW
    refine lv_aload_n hx hb dX2_init_0 rfl (lv_at hl 0 rfl) ?_
    refine W.objInit hx hb hown ob1 ob2 ob3 rfl (hl.1.trans hml.symm) rfl dX2_init_1 (Nat.le_of_ble_eq_true rfl) (Nat.le_of_ble_eq_true rfl) ?_
    refine W.eq (g2 := F0 m 4 ls []) rfl ?_
    refine lv_aload_n hx hb dX2_init_4 rfl (lv_at hl 0 rfl) ?_
    refine lv_bipush (v := 6) hx hb dX2_init_5 (by decide) ?_
    refine p_newi hx hb ac_int hK hG gk_86 ((eu_ne (by omega)).trans (hE _ (by omega))) (by decide) (by decide) (gn_86) (by decide) (Nat.le_of_ble_eq_true rfl) (Nat.le_of_ble_eq_true rfl) dX2_init_7 (fun H hG => ?_)
    obtain ⟨h_7, eh_7⟩ : ∃ y : HI, y = hua h 86 (fun _ => 0) := ⟨_, rfl⟩
    rw [← eh_7] at hG
    replace HW := HW h_7 eh_7
    have hG : pG D cy bs 87 (eu E 85 [.null, .null, .null, .null, .null, .null, .int 0, .int 0, .int 0, .int 0]) s.heap h_7 g H locs := hG
    refine p_putE hx hb hw inG2 tyX2 tyX2_ok nmX2 hown hK hG (by omega) eu_eq rfl gk_85 3 (by decide) (Nat.le_of_ble_eq_true rfl) (ty := .array .int) (by decide +kernel) rfl rfl lk9 (Or.inr ⟨rfl, hin, rfl⟩) dX2_init_9 (fun H locs hG => ?_)
    rw [eu_eu] at hG
    have hG : pG D cy bs 87 (eu E 85 [.null, .null, .null, .ref (adB bs 86), .null, .null, .int 0, .int 0, .int 0, .int 0]) s.heap h_7 g H locs := hG
    refine lv_aload_n hx hb dX2_init_12 rfl (lv_at hl 0 rfl) ?_
    refine lv_bipush (v := 6) hx hb dX2_init_13 (by decide) ?_
    refine p_newi hx hb ac_int hK hG gk_87 ((eu_ne (by omega)).trans (hE _ (by omega))) (by decide) (by decide) (gn_87) (by decide) (Nat.le_of_ble_eq_true rfl) (Nat.le_of_ble_eq_true rfl) dX2_init_15 (fun H hG => ?_)
    obtain ⟨h_15, eh_15⟩ : ∃ y : HI, y = hua h_7 87 (fun _ => 0) := ⟨_, rfl⟩
    rw [← eh_15] at hG
    replace HW := HW h_15 eh_15
    have hG : pG D cy bs 88 (eu E 85 [.null, .null, .null, .ref (adB bs 86), .null, .null, .int 0, .int 0, .int 0, .int 0]) s.heap h_15 g H locs := hG
    refine p_putE hx hb hw inG2 tyX2 tyX2_ok nmX2 hown hK hG (by omega) eu_eq rfl gk_85 4 (by decide) (Nat.le_of_ble_eq_true rfl) (ty := .array .int) (by decide +kernel) rfl rfl lk15 (Or.inr ⟨rfl, hin, rfl⟩) dX2_init_17 (fun H locs hG => ?_)
    rw [eu_eu] at hG
    have hG : pG D cy bs 88 (eu E 85 [.null, .null, .null, .ref (adB bs 86), .ref (adB bs 87), .null, .int 0, .int 0, .int 0, .int 0]) s.heap h_15 g H locs := hG
    refine lv_aload_n hx hb dX2_init_20 rfl (lv_at hl 0 rfl) ?_
    refine lv_bipush (v := 6) hx hb dX2_init_21 (by decide) ?_
    refine p_newi hx hb ac_int hK hG gk_88 ((eu_ne (by omega)).trans (hE _ (by omega))) (by decide) (by decide) (gn_88) (by decide) (Nat.le_of_ble_eq_true rfl) (Nat.le_of_ble_eq_true rfl) dX2_init_23 (fun H hG => ?_)
    obtain ⟨h_23, eh_23⟩ : ∃ y : HI, y = hua h_15 88 (fun _ => 0) := ⟨_, rfl⟩
    rw [← eh_23] at hG
    replace HW := HW h_23 eh_23
    have hG : pG D cy bs 89 (eu E 85 [.null, .null, .null, .ref (adB bs 86), .ref (adB bs 87), .null, .int 0, .int 0, .int 0, .int 0]) s.heap h_23 g H locs := hG
    refine p_putE hx hb hw inG2 tyX2 tyX2_ok nmX2 hown hK hG (by omega) eu_eq rfl gk_85 5 (by decide) (Nat.le_of_ble_eq_true rfl) (ty := .array .int) (by decide +kernel) rfl rfl lk18 (Or.inr ⟨rfl, hin, rfl⟩) dX2_init_25 (fun H locs hG => ?_)
    rw [eu_eu] at hG
    have hG : pG D cy bs 89 (eu E 85 [.null, .null, .null, .ref (adB bs 86), .ref (adB bs 87), .ref (adB bs 88), .int 0, .int 0, .int 0, .int 0]) s.heap h_23 g H locs := hG
    refine lv_aload_n hx hb dX2_init_28 rfl (lv_at hl 0 rfl) ?_
    refine lv_aload_n hx hb dX2_init_29 rfl (lv_at hl 1 rfl) ?_
    refine p_putE hx hb hw inG2 tyX2 tyX2_ok nmX2 hown hK hG (by omega) eu_eq rfl gk_85 0 (by decide) (Nat.le_of_ble_eq_true rfl) (ty := .object "OldWorks$Shop") (by decide +kernel) rfl rfl lk21 (Or.inr ⟨rfl, hin, rfl⟩) dX2_init_30 (fun H locs hG => ?_)
    rw [eu_eu] at hG
    have hG : pG D cy bs 89 (eu E 85 [.ref (adB bs 1), .null, .null, .ref (adB bs 86), .ref (adB bs 87), .ref (adB bs 88), .int 0, .int 0, .int 0, .int 0]) s.heap h_23 g H locs := hG
    refine lv_aload_n hx hb dX2_init_33 rfl (lv_at hl 0 rfl) ?_
    refine lv_aload_n hx hb dX2_init_34 rfl (lv_at hl 2 rfl) ?_
    refine p_putE hx hb hw inG2 tyX2 tyX2_ok nmX2 hown hK hG (by omega) eu_eq rfl gk_85 1 (by decide) (Nat.le_of_ble_eq_true rfl) (ty := .object "OldWorks$Law") (by decide +kernel) rfl rfl lk25 (Or.inr ⟨rfl, hin, rfl⟩) dX2_init_35 (fun H locs hG => ?_)
    rw [eu_eu] at hG
    have hG : pG D cy bs 89 (eu E 85 [.ref (adB bs 1), .ref (adB bs 77), .null, .ref (adB bs 86), .ref (adB bs 87), .ref (adB bs 88), .int 0, .int 0, .int 0, .int 0]) s.heap h_23 g H locs := hG
    refine lv_aload_n hx hb dX2_init_38 rfl (lv_at hl 0 rfl) ?_
    refine lv_aload_n hx hb dX2_init_39 rfl (lv_at hl 3 rfl) ?_
    refine p_putE hx hb hw inG2 tyX2 tyX2_ok nmX2 hown hK hG (by omega) eu_eq rfl gk_85 2 (by decide) (Nat.le_of_ble_eq_true rfl) (ty := .object "OldWorks$Sizes") (by decide +kernel) rfl rfl lk29 (Or.inr ⟨rfl, hin, rfl⟩) dX2_init_40 (fun H locs hG => ?_)
    rw [eu_eu] at hG
    have hG : pG D cy bs 89 (eu E 85 [.ref (adB bs 1), .ref (adB bs 77), .ref (adB bs 81), .ref (adB bs 86), .ref (adB bs 87), .ref (adB bs 88), .int 0, .int 0, .int 0, .int 0]) s.heap h_23 g H locs := hG
    have hG := pG_done (f := (fun k => ([0, 0, 0, 0, 0, 0, 0, 0, 0, 0] : List Int32).getD k 0)) hG (hE _ (Nat.le_refl _)) (by rw [gk_85]; decide) rfl
    obtain ⟨h_43, eh_43⟩ : ∃ y : HI, y = hua h_23 85 (fun k => ([0, 0, 0, 0, 0, 0, 0, 0, 0, 0] : List Int32).getD k 0) := ⟨_, rfl⟩
    rw [← eh_43] at hG
    replace HW := HW h_43 eh_43
    refine W.widen (k := 3) (n := 18) (by first | exact Nat.le_refl _ | decide | omega) (by first | exact Nat.le_refl _ | decide | omega) ?_
    exact W.vret hx hb hr (fun t ht hW => ⟨⟨(h_43, g), rfl, HW, p_B ht hG⟩, hG.2.1.F ht⟩) hG.2.1.2.2 dX2_init_43
  exact E0 _ _ _ hG hl

def w_X9_init  (h : HI) (g : HL) (Q : HI → HL → Prop) : Prop :=
  (∀ h_9 : HI, h_9 = hz h 90 2 → (∀ h_21 : HI, h_21 = hz h_9 93 2 → (∀ h_30 : HI, h_30 = hua h_21 96 (fun _ => 0) → (∃ P_47 : HI → HL → Prop, w_J7_fill_53178 91 (-1 : Int32) h_30 g P_47 ∧ ∀ (h_47 : HI) (g_47 : HL), P_47 h_47 g_47 → (∃ P_57 : HI → HL → Prop, w_J7_fill_53178 92 (-1 : Int32) h_47 g_47 P_57 ∧ ∀ (h_57 : HI) (g_57 : HL), P_57 h_57 g_57 → (∀ h_60 : HI, h_60 = hua h_57 89 (fun k => ([0, 0, 0, 0, 0, 0, 0] : List Int32).getD k 0) → Q h_60 g_57))))))
set_option maxHeartbeats 40000000 in
set_option maxRecDepth 100000 in
theorem n_X9_init (l : Launch) (D : va_G) (cy : Nat → ClassId) (bs : Nat) (E : Nat → Option (List Value)) (h : HI) (g : HL) (hE : ∀ q, 89 ≤ q → E q = none)  (Q : HI → HL → Prop) (HW : w_X9_init h g Q) : Met l yX9_init (wa yX9_init cX9_init 2 none) ({ frames := 1, cells := 7, slots := 12008, locals := 23 } : Room) (va_Pc [.ref (adB bs 89), .ref (adB bs 1)] (pI D cy bs 90 (eu E 89 [.null, .null, .null, .null, .int 0, .int 0, .int 0]) h g)) (va_Qv (fun (u : HI × HL) => Q u.1 u.2) (pB D cy bs 97 E) (pA bs)) 7 12008 (pA bs) := by
  refine Met.ofW (cc := cX9_init) (maxL := 2) (ret := none) (by decide) rfl ?_
  intro p e s m args below meth c s₁ B hml hv
  obtain ⟨hav, hP, hsz, hK, hNw, hAO⟩ := hv
  have hx := B.exec
  have hb := B.bytes
  have hr := B.returns
  have hts := atoms_spec (ws := (wa yX9_init cX9_init 2 none)) B.pre
  have hw := wa_hw hts
  have hown : s.vm.findClass RX9 = some m.cls := findClass_of_methodNamed B.named
  have hlocks := B.notSynchronized
  have hin : meth.name = "<init>" := (name_of_methodNamed B.named B.method).1
  have hG : pG D cy bs 90 (eu E 89 [.null, .null, .null, .null, .int 0, .int 0, .int 0]) s.heap h g s.heap [] := ⟨hP, va_S.rf, hsz⟩
  clear hP
  have ob1 := hw (.methodLink RX9 3 objectInit) (wm2 13 rfl rfl)
  have ob2 := hw (.instanceMethod objectInit) (wm1 23 rfl rfl)
  have ob3 := hw (.code objectInit ⟨#[0xb1]⟩ 1 none) (wm1 24 rfl rfl)
  have cl9 := hw (.classLink RX9 9 "[[I") (wm2 14 rfl rfl)
  have ac_int := hw (.arrayClass .int) (wm1 50 rfl rfl)
  have lk11 := hw (.fieldLink RX9 11 "OldWorks$Ways" "best" "[[I") (wm2 20 rfl rfl)
  have lk16 := hw (.fieldLink RX9 16 "OldWorks$Ways" "reached" "[[I") (wm2 21 rfl rfl)
  have lk19 := hw (.fieldLink RX9 19 "OldWorks$Ways" "many" "[I") (wm2 22 rfl rfl)
  have lk23 := hw (.fieldLink RX9 23 "OldWorks$Ways" "shop" "LOldWorks$Shop;") (wm2 19 rfl rfl)
  rw [show (headSpec (wa yX9_init cX9_init 2 none) ({ frames := 1, cells := 7, slots := 12008, locals := 23 } : Room)).room = ({ frames := 1, cells := 7, slots := 12008, locals := 23 } : Room) from rfl]
  have hl := lv_entry ([.ref (adB bs 89), .ref (adB bs 1)]) (n := 2) (Nat.le_of_ble_eq_true rfl)
  rw [show entryFrame m args 2 = entryFrame m ([.ref (adB bs 89), .ref (adB bs 1)] : List Value).toArray 2 from by rw [hav], lg_entry_eq]
  generalize (lg_sl ([.ref (adB bs 89), .ref (adB bs 1)]) ++ List.replicate (2 - (lg_sl ([.ref (adB bs 89), .ref (adB bs 1)])).length) Slot.unset).toArray = ls at hl ⊢
  have hl : lv_has ls 2 [(0, .ref (adB bs 89)), (1, .ref (adB bs 1))] := hl
  have E0 : ∀ (H : Heap) (locs : List Loc) (ls : Array Slot), pG D cy bs 90 (eu E 89 [.null, .null, .null, .null, .int 0, .int 0, .int 0]) s.heap h g H locs → lv_has ls 2 [(0, .ref (adB bs 89)), (1, .ref (adB bs 1))] → W p l e ({ frames := 1, cells := 7, slots := 12008, locals := 23 } : Room) s m args below meth c H locs 0 0 (MQ below (va_Qv (fun (u : HI × HL) => Q u.1 u.2) (pB D cy bs 97 E) (pA bs)) args s 7 12008 (pA bs)) (F0 m 0 ls []) := by
    intro H locs ls hG hl
    unfold w_X9_init at HW
    refine lv_aload_n hx hb dX9_init_0 rfl (lv_at hl 0 rfl) ?_
    refine W.objInit hx hb hown ob1 ob2 ob3 rfl (hl.1.trans hml.symm) rfl dX9_init_1 (Nat.le_of_ble_eq_true rfl) (Nat.le_of_ble_eq_true rfl) ?_
    refine W.eq (g2 := F0 m 4 ls []) rfl ?_
    refine lv_aload_n hx hb dX9_init_4 rfl (lv_at hl 0 rfl) ?_
    refine lv_iconst (v := 2) hx hb dX9_init_5 (by decide) ?_
    refine lv_sipush (v := 3001) hx hb dX9_init_6 (by decide) ?_
    refine p_mna hx hb hown cl9 hAO ac_int hK hG gk_90 gn_90 (K := 3001) (fun j hj => ⟨(go_90 j hj).1, (go_90 j hj).2.1, (go_90 j hj).2.2.2⟩) (fun q hq => ((eu_ne (by omega)).trans (hE _ (by omega)))) (by decide) (by decide) (by decide) (by decide) (by decide) (by decide) (Nat.le_of_ble_eq_true rfl) (Nat.le_of_ble_eq_true rfl) dX9_init_9 (fun H hG => ?_)
    obtain ⟨h_9, eh_9⟩ : ∃ y : HI, y = hz h 90 2 := ⟨_, rfl⟩
    rw [← eh_9] at hG
    replace HW := HW h_9 eh_9
    have hG : pG D cy bs 93 (eu E 89 [.null, .null, .null, .null, .int 0, .int 0, .int 0]) s.heap h_9 g H locs := hG
    refine p_putE hx hb hw inG9 tyX9 tyX9_ok nmX9 hown hK hG (by omega) eu_eq rfl gk_89 1 (by decide) (Nat.le_of_ble_eq_true rfl) (ty := .array (.array .int)) (by decide +kernel) rfl rfl lk11 (Or.inr ⟨rfl, hin, rfl⟩) dX9_init_13 (fun H locs hG => ?_)
    rw [eu_eu] at hG
    have hG : pG D cy bs 93 (eu E 89 [.null, .ref (adB bs 90), .null, .null, .int 0, .int 0, .int 0]) s.heap h_9 g H locs := hG
    refine lv_aload_n hx hb dX9_init_16 rfl (lv_at hl 0 rfl) ?_
    refine lv_iconst (v := 2) hx hb dX9_init_17 (by decide) ?_
    refine lv_sipush (v := 3000) hx hb dX9_init_18 (by decide) ?_
    refine p_mna hx hb hown cl9 hAO ac_int hK hG gk_93 gn_93 (K := 3000) (fun j hj => ⟨(go_93 j hj).1, (go_93 j hj).2.1, (go_93 j hj).2.2.2⟩) (fun q hq => ((eu_ne (by omega)).trans (hE _ (by omega)))) (by decide) (by decide) (by decide) (by decide) (by decide) (by decide) (Nat.le_of_ble_eq_true rfl) (Nat.le_of_ble_eq_true rfl) dX9_init_21 (fun H hG => ?_)
    obtain ⟨h_21, eh_21⟩ : ∃ y : HI, y = hz h_9 93 2 := ⟨_, rfl⟩
    rw [← eh_21] at hG
    replace HW := HW h_21 eh_21
    have hG : pG D cy bs 96 (eu E 89 [.null, .ref (adB bs 90), .null, .null, .int 0, .int 0, .int 0]) s.heap h_21 g H locs := hG
    refine p_putE hx hb hw inG9 tyX9 tyX9_ok nmX9 hown hK hG (by omega) eu_eq rfl gk_89 2 (by decide) (Nat.le_of_ble_eq_true rfl) (ty := .array (.array .int)) (by decide +kernel) rfl rfl lk16 (Or.inr ⟨rfl, hin, rfl⟩) dX9_init_25 (fun H locs hG => ?_)
    rw [eu_eu] at hG
    have hG : pG D cy bs 96 (eu E 89 [.null, .ref (adB bs 90), .ref (adB bs 93), .null, .int 0, .int 0, .int 0]) s.heap h_21 g H locs := hG
    refine lv_aload_n hx hb dX9_init_28 rfl (lv_at hl 0 rfl) ?_
    refine lv_iconst (v := 2) hx hb dX9_init_29 (by decide) ?_
    refine p_newi hx hb ac_int hK hG gk_96 ((eu_ne (by omega)).trans (hE _ (by omega))) (by decide) (by decide) (gn_96) (by decide) (Nat.le_of_ble_eq_true rfl) (Nat.le_of_ble_eq_true rfl) dX9_init_30 (fun H hG => ?_)
    obtain ⟨h_30, eh_30⟩ : ∃ y : HI, y = hua h_21 96 (fun _ => 0) := ⟨_, rfl⟩
    rw [← eh_30] at hG
    replace HW := HW h_30 eh_30
    have hG : pG D cy bs 97 (eu E 89 [.null, .ref (adB bs 90), .ref (adB bs 93), .null, .int 0, .int 0, .int 0]) s.heap h_30 g H locs := hG
    refine p_putE hx hb hw inG9 tyX9 tyX9_ok nmX9 hown hK hG (by omega) eu_eq rfl gk_89 3 (by decide) (Nat.le_of_ble_eq_true rfl) (ty := .array .int) (by decide +kernel) rfl rfl lk19 (Or.inr ⟨rfl, hin, rfl⟩) dX9_init_32 (fun H locs hG => ?_)
    rw [eu_eu] at hG
    have hG : pG D cy bs 97 (eu E 89 [.null, .ref (adB bs 90), .ref (adB bs 93), .ref (adB bs 96), .int 0, .int 0, .int 0]) s.heap h_30 g H locs := hG
    refine lv_aload_n hx hb dX9_init_35 rfl (lv_at hl 0 rfl) ?_
    refine lv_aload_n hx hb dX9_init_36 rfl (lv_at hl 1 rfl) ?_
    refine p_putE hx hb hw inG9 tyX9 tyX9_ok nmX9 hown hK hG (by omega) eu_eq rfl gk_89 0 (by decide) (Nat.le_of_ble_eq_true rfl) (ty := .object "OldWorks$Shop") (by decide +kernel) rfl rfl lk23 (Or.inr ⟨rfl, hin, rfl⟩) dX9_init_37 (fun H locs hG => ?_)
    rw [eu_eu] at hG
    have hG : pG D cy bs 97 (eu E 89 [.ref (adB bs 1), .ref (adB bs 90), .ref (adB bs 93), .ref (adB bs 96), .int 0, .int 0, .int 0]) s.heap h_30 g H locs := hG
    refine lv_aload_n hx hb dX9_init_40 rfl (lv_at hl 0 rfl) ?_
    refine p_getE hx hb hw inG9 hown hK hG (by omega) eu_eq rfl gk_89 1 (by decide) (v := .ref (adB bs 90)) rfl lk11 dX9_init_41 ?_
    refine lv_iconst (v := 0) hx hb dX9_init_44 (by decide) ?_
    refine p_aald hx hb hK hG ⟨by omega, ((eu_ne (by omega)).trans (hE _ (by omega)))⟩ gk_90 gn_90 (i := (0 : Int32)) (by unfold vp_in; decide) (r := 91) (go_90 0 (by decide)).1 dX9_init_45 ?_
    refine lv_iconst (v := (-1)) hx hb dX9_init_46 (by decide) ?_
    obtain ⟨P_47, HC_47, HW⟩ := HW
    refine p_callv (p_runS (As := [.ref (adB bs 91), .int (-1 : Int32)]) (rest := []) ⟨hx, hb, hml, hown, hts⟩ (n_J7_fill_53178 l D cy bs 97 (eu E 89 [.ref (adB bs 1), .ref (adB bs 90), .ref (adB bs 93), .ref (adB bs 96), .int 0, .int 0, .int 0]) h_30 g 91 gk_91 ⟨by omega, ((eu_ne (by omega)).trans (hE _ (by omega)))⟩ (-1 : Int32) P_47 HC_47) (va_cwS 2 hts (gd_S (wm2 16 rfl rfl) (wm2 17 rfl rfl) (wm1 8 rfl rfl) (wm2 18 rfl rfl)) rfl rfl rfl (by decide +kernel) ⟨Nat.le_of_ble_eq_true rfl, Nat.le_of_ble_eq_true rfl⟩) hK hNw hAO hG rfl rfl hl.1 rfl (lv_room (Nat.le_of_ble_eq_true rfl)) dX9_init_47 ⟨Nat.le_of_ble_eq_true rfl, Nat.le_of_ble_eq_true rfl⟩) hG (fun h_47 g_47 H locs hq hG => ?_)
    replace HW := HW h_47 g_47 hq
    refine lv_aload_n hx hb dX9_init_50 rfl (lv_at hl 0 rfl) ?_
    refine p_getE hx hb hw inG9 hown hK hG (by omega) eu_eq rfl gk_89 1 (by decide) (v := .ref (adB bs 90)) rfl lk11 dX9_init_51 ?_
    refine lv_iconst (v := 1) hx hb dX9_init_54 (by decide) ?_
    refine p_aald hx hb hK hG ⟨by omega, ((eu_ne (by omega)).trans (hE _ (by omega)))⟩ gk_90 gn_90 (i := (1 : Int32)) (by unfold vp_in; decide) (r := 92) (go_90 1 (by decide)).1 dX9_init_55 ?_
    refine lv_iconst (v := (-1)) hx hb dX9_init_56 (by decide) ?_
    obtain ⟨P_57, HC_57, HW⟩ := HW
    refine p_callv (p_runS (As := [.ref (adB bs 92), .int (-1 : Int32)]) (rest := []) ⟨hx, hb, hml, hown, hts⟩ (n_J7_fill_53178 l D cy bs 97 (eu E 89 [.ref (adB bs 1), .ref (adB bs 90), .ref (adB bs 93), .ref (adB bs 96), .int 0, .int 0, .int 0]) h_47 g_47 92 gk_92 ⟨by omega, ((eu_ne (by omega)).trans (hE _ (by omega)))⟩ (-1 : Int32) P_57 HC_57) (va_cwS 2 hts (gd_S (wm2 16 rfl rfl) (wm2 17 rfl rfl) (wm1 8 rfl rfl) (wm2 18 rfl rfl)) rfl rfl rfl (by decide +kernel) ⟨Nat.le_of_ble_eq_true rfl, Nat.le_of_ble_eq_true rfl⟩) hK hNw hAO hG rfl rfl hl.1 rfl (lv_room (Nat.le_of_ble_eq_true rfl)) dX9_init_57 ⟨Nat.le_of_ble_eq_true rfl, Nat.le_of_ble_eq_true rfl⟩) hG (fun h_57 g_57 H locs hq hG => ?_)
    replace HW := HW h_57 g_57 hq
    have hG := pG_done (f := (fun k => ([0, 0, 0, 0, 0, 0, 0] : List Int32).getD k 0)) hG (hE _ (Nat.le_refl _)) (by rw [gk_89]; decide) rfl
    obtain ⟨h_60, eh_60⟩ : ∃ y : HI, y = hua h_57 89 (fun k => ([0, 0, 0, 0, 0, 0, 0] : List Int32).getD k 0) := ⟨_, rfl⟩
    rw [← eh_60] at hG
    replace HW := HW h_60 eh_60
    refine W.widen (k := 7) (n := 12008) (by first | exact Nat.le_refl _ | decide | omega) (by first | exact Nat.le_refl _ | decide | omega) ?_
    exact W.vret hx hb hr (fun t ht hW => ⟨⟨(h_60, g_57), rfl, HW, p_B ht hG⟩, hG.2.1.F ht⟩) hG.2.1.2.2 dX9_init_60
  exact E0 _ _ _ hG hl

def w_X3_init  (h : HI) (g : HL) (Q : HI → HL → Prop) : Prop :=
  (∀ h_10 : HI, h_10 = hz h 98 7 → (∀ h_21 : HI, h_21 = hua h_10 106 (fun _ => 0) → (∀ h_28 : HI, h_28 = hua h_21 107 (fun _ => 0) → (∀ h_35 : HI, h_35 = hua h_28 108 (fun _ => 0) → (∀ h_45 : HI, h_45 = hua h_35 97 (fun k => ([0, 0, 0, 0, 0, 0] : List Int32).getD k 0) → Q h_45 g)))))
set_option maxHeartbeats 40000000 in
set_option maxRecDepth 100000 in
theorem n_X3_init (l : Launch) (D : va_G) (cy : Nat → ClassId) (bs : Nat) (E : Nat → Option (List Value)) (h : HI) (g : HL) (hE : ∀ q, 97 ≤ q → E q = none)  (Q : HI → HL → Prop) (HW : w_X3_init h g Q) : Met l yX3_init (wa yX3_init cX3_init 2 none) ({ frames := 1, cells := 11, slots := 4111, locals := 20 } : Room) (va_Pc [.ref (adB bs 97), .ref (adB bs 1)] (pI D cy bs 98 (eu E 97 [.null, .null, .null, .null, .null, .int 0]) h g)) (va_Qv (fun (u : HI × HL) => Q u.1 u.2) (pB D cy bs 109 E) (pA bs)) 11 4111 (pA bs) := by
  refine Met.ofW (cc := cX3_init) (maxL := 2) (ret := none) (by decide) rfl ?_
  intro p e s m args below meth c s₁ B hml hv
  obtain ⟨hav, hP, hsz, hK, hNw, hAO⟩ := hv
  have hx := B.exec
  have hb := B.bytes
  have hr := B.returns
  have hts := atoms_spec (ws := (wa yX3_init cX3_init 2 none)) B.pre
  have hw := wa_hw hts
  have hown : s.vm.findClass RX3 = some m.cls := findClass_of_methodNamed B.named
  have hlocks := B.notSynchronized
  have hin : meth.name = "<init>" := (name_of_methodNamed B.named B.method).1
  have hG : pG D cy bs 98 (eu E 97 [.null, .null, .null, .null, .null, .int 0]) s.heap h g s.heap [] := ⟨hP, va_S.rf, hsz⟩
  clear hP
  have ob1 := hw (.methodLink RX3 5 objectInit) (wm2 48 rfl rfl)
  have ob2 := hw (.instanceMethod objectInit) (wm1 23 rfl rfl)
  have ob3 := hw (.code objectInit ⟨#[0xb1]⟩ 1 none) (wm1 24 rfl rfl)
  have cl11 := hw (.classLink RX3 11 "[[I") (wm2 49 rfl rfl)
  have ac_int := hw (.arrayClass .int) (wm1 50 rfl rfl)
  have lk13 := hw (.fieldLink RX3 13 "OldWorks$Givings" "most" "[[I") (wm2 51 rfl rfl)
  have lk16 := hw (.fieldLink RX3 16 "OldWorks$Givings" "years" "[I") (wm2 52 rfl rfl)
  have lk20 := hw (.fieldLink RX3 20 "OldWorks$Givings" "kinds" "[I") (wm2 53 rfl rfl)
  have lk23 := hw (.fieldLink RX3 23 "OldWorks$Givings" "pairs" "[I") (wm2 54 rfl rfl)
  have lk26 := hw (.fieldLink RX3 26 "OldWorks$Givings" "shop" "LOldWorks$Shop;") (wm2 50 rfl rfl)
  rw [show (headSpec (wa yX3_init cX3_init 2 none) ({ frames := 1, cells := 11, slots := 4111, locals := 20 } : Room)).room = ({ frames := 1, cells := 11, slots := 4111, locals := 20 } : Room) from rfl]
  have hl := lv_entry ([.ref (adB bs 97), .ref (adB bs 1)]) (n := 2) (Nat.le_of_ble_eq_true rfl)
  rw [show entryFrame m args 2 = entryFrame m ([.ref (adB bs 97), .ref (adB bs 1)] : List Value).toArray 2 from by rw [hav], lg_entry_eq]
  generalize (lg_sl ([.ref (adB bs 97), .ref (adB bs 1)]) ++ List.replicate (2 - (lg_sl ([.ref (adB bs 97), .ref (adB bs 1)])).length) Slot.unset).toArray = ls at hl ⊢
  have hl : lv_has ls 2 [(0, .ref (adB bs 97)), (1, .ref (adB bs 1))] := hl
  have E0 : ∀ (H : Heap) (locs : List Loc) (ls : Array Slot), pG D cy bs 98 (eu E 97 [.null, .null, .null, .null, .null, .int 0]) s.heap h g H locs → lv_has ls 2 [(0, .ref (adB bs 97)), (1, .ref (adB bs 1))] → W p l e ({ frames := 1, cells := 11, slots := 4111, locals := 20 } : Room) s m args below meth c H locs 0 0 (MQ below (va_Qv (fun (u : HI × HL) => Q u.1 u.2) (pB D cy bs 109 E) (pA bs)) args s 11 4111 (pA bs)) (F0 m 0 ls []) := by
    intro H locs ls hG hl
    unfold w_X3_init at HW
    refine lv_aload_n hx hb dX3_init_0 rfl (lv_at hl 0 rfl) ?_
    refine W.objInit hx hb hown ob1 ob2 ob3 rfl (hl.1.trans hml.symm) rfl dX3_init_1 (Nat.le_of_ble_eq_true rfl) (Nat.le_of_ble_eq_true rfl) ?_
    refine W.eq (g2 := F0 m 4 ls []) rfl ?_
    refine lv_aload_n hx hb dX3_init_4 rfl (lv_at hl 0 rfl) ?_
    refine lv_bipush (v := 7) hx hb dX3_init_5 (by decide) ?_
    refine lv_sipush (v := 512) hx hb dX3_init_7 (by decide) ?_
    refine p_mna hx hb hown cl11 hAO ac_int hK hG gk_98 gn_98 (K := 512) (fun j hj => ⟨(go_98 j hj).1, (go_98 j hj).2.1, (go_98 j hj).2.2.2⟩) (fun q hq => ((eu_ne (by omega)).trans (hE _ (by omega)))) (by decide) (by decide) (by decide) (by decide) (by decide) (by decide) (Nat.le_of_ble_eq_true rfl) (Nat.le_of_ble_eq_true rfl) dX3_init_10 (fun H hG => ?_)
    obtain ⟨h_10, eh_10⟩ : ∃ y : HI, y = hz h 98 7 := ⟨_, rfl⟩
    rw [← eh_10] at hG
    replace HW := HW h_10 eh_10
    have hG : pG D cy bs 106 (eu E 97 [.null, .null, .null, .null, .null, .int 0]) s.heap h_10 g H locs := hG
    refine p_putE hx hb hw inG3 tyX3 tyX3_ok nmX3 hown hK hG (by omega) eu_eq rfl gk_97 1 (by decide) (Nat.le_of_ble_eq_true rfl) (ty := .array (.array .int)) (by decide +kernel) rfl rfl lk13 (Or.inr ⟨rfl, hin, rfl⟩) dX3_init_14 (fun H locs hG => ?_)
    rw [eu_eu] at hG
    have hG : pG D cy bs 106 (eu E 97 [.null, .ref (adB bs 98), .null, .null, .null, .int 0]) s.heap h_10 g H locs := hG
    refine lv_aload_n hx hb dX3_init_17 rfl (lv_at hl 0 rfl) ?_
    refine lv_sipush (v := 512) hx hb dX3_init_18 (by decide) ?_
    refine p_newi hx hb ac_int hK hG gk_106 ((eu_ne (by omega)).trans (hE _ (by omega))) (by decide) (by decide) (gn_106) (by decide) (Nat.le_of_ble_eq_true rfl) (Nat.le_of_ble_eq_true rfl) dX3_init_21 (fun H hG => ?_)
    obtain ⟨h_21, eh_21⟩ : ∃ y : HI, y = hua h_10 106 (fun _ => 0) := ⟨_, rfl⟩
    rw [← eh_21] at hG
    replace HW := HW h_21 eh_21
    have hG : pG D cy bs 107 (eu E 97 [.null, .ref (adB bs 98), .null, .null, .null, .int 0]) s.heap h_21 g H locs := hG
    refine p_putE hx hb hw inG3 tyX3 tyX3_ok nmX3 hown hK hG (by omega) eu_eq rfl gk_97 2 (by decide) (Nat.le_of_ble_eq_true rfl) (ty := .array .int) (by decide +kernel) rfl rfl lk16 (Or.inr ⟨rfl, hin, rfl⟩) dX3_init_23 (fun H locs hG => ?_)
    rw [eu_eu] at hG
    have hG : pG D cy bs 107 (eu E 97 [.null, .ref (adB bs 98), .ref (adB bs 106), .null, .null, .int 0]) s.heap h_21 g H locs := hG
    refine lv_aload_n hx hb dX3_init_26 rfl (lv_at hl 0 rfl) ?_
    refine lv_iconst (v := 4) hx hb dX3_init_27 (by decide) ?_
    refine p_newi hx hb ac_int hK hG gk_107 ((eu_ne (by omega)).trans (hE _ (by omega))) (by decide) (by decide) (gn_107) (by decide) (Nat.le_of_ble_eq_true rfl) (Nat.le_of_ble_eq_true rfl) dX3_init_28 (fun H hG => ?_)
    obtain ⟨h_28, eh_28⟩ : ∃ y : HI, y = hua h_21 107 (fun _ => 0) := ⟨_, rfl⟩
    rw [← eh_28] at hG
    replace HW := HW h_28 eh_28
    have hG : pG D cy bs 108 (eu E 97 [.null, .ref (adB bs 98), .ref (adB bs 106), .null, .null, .int 0]) s.heap h_28 g H locs := hG
    refine p_putE hx hb hw inG3 tyX3 tyX3_ok nmX3 hown hK hG (by omega) eu_eq rfl gk_97 3 (by decide) (Nat.le_of_ble_eq_true rfl) (ty := .array .int) (by decide +kernel) rfl rfl lk20 (Or.inr ⟨rfl, hin, rfl⟩) dX3_init_30 (fun H locs hG => ?_)
    rw [eu_eu] at hG
    have hG : pG D cy bs 108 (eu E 97 [.null, .ref (adB bs 98), .ref (adB bs 106), .ref (adB bs 107), .null, .int 0]) s.heap h_28 g H locs := hG
    refine lv_aload_n hx hb dX3_init_33 rfl (lv_at hl 0 rfl) ?_
    refine lv_iconst (v := 4) hx hb dX3_init_34 (by decide) ?_
    refine p_newi hx hb ac_int hK hG gk_108 ((eu_ne (by omega)).trans (hE _ (by omega))) (by decide) (by decide) (gn_108) (by decide) (Nat.le_of_ble_eq_true rfl) (Nat.le_of_ble_eq_true rfl) dX3_init_35 (fun H hG => ?_)
    obtain ⟨h_35, eh_35⟩ : ∃ y : HI, y = hua h_28 108 (fun _ => 0) := ⟨_, rfl⟩
    rw [← eh_35] at hG
    replace HW := HW h_35 eh_35
    have hG : pG D cy bs 109 (eu E 97 [.null, .ref (adB bs 98), .ref (adB bs 106), .ref (adB bs 107), .null, .int 0]) s.heap h_35 g H locs := hG
    refine p_putE hx hb hw inG3 tyX3 tyX3_ok nmX3 hown hK hG (by omega) eu_eq rfl gk_97 4 (by decide) (Nat.le_of_ble_eq_true rfl) (ty := .array .int) (by decide +kernel) rfl rfl lk23 (Or.inr ⟨rfl, hin, rfl⟩) dX3_init_37 (fun H locs hG => ?_)
    rw [eu_eu] at hG
    have hG : pG D cy bs 109 (eu E 97 [.null, .ref (adB bs 98), .ref (adB bs 106), .ref (adB bs 107), .ref (adB bs 108), .int 0]) s.heap h_35 g H locs := hG
    refine lv_aload_n hx hb dX3_init_40 rfl (lv_at hl 0 rfl) ?_
    refine lv_aload_n hx hb dX3_init_41 rfl (lv_at hl 1 rfl) ?_
    refine p_putE hx hb hw inG3 tyX3 tyX3_ok nmX3 hown hK hG (by omega) eu_eq rfl gk_97 0 (by decide) (Nat.le_of_ble_eq_true rfl) (ty := .object "OldWorks$Shop") (by decide +kernel) rfl rfl lk26 (Or.inr ⟨rfl, hin, rfl⟩) dX3_init_42 (fun H locs hG => ?_)
    rw [eu_eu] at hG
    have hG : pG D cy bs 109 (eu E 97 [.ref (adB bs 1), .ref (adB bs 98), .ref (adB bs 106), .ref (adB bs 107), .ref (adB bs 108), .int 0]) s.heap h_35 g H locs := hG
    have hG := pG_done (f := (fun k => ([0, 0, 0, 0, 0, 0] : List Int32).getD k 0)) hG (hE _ (Nat.le_refl _)) (by rw [gk_97]; decide) rfl
    obtain ⟨h_45, eh_45⟩ : ∃ y : HI, y = hua h_35 97 (fun k => ([0, 0, 0, 0, 0, 0] : List Int32).getD k 0) := ⟨_, rfl⟩
    rw [← eh_45] at hG
    replace HW := HW h_45 eh_45
    refine W.widen (k := 11) (n := 4111) (by first | exact Nat.le_refl _ | decide | omega) (by first | exact Nat.le_refl _ | decide | omega) ?_
    exact W.vret hx hb hr (fun t ht hW => ⟨⟨(h_45, g), rfl, HW, p_B ht hG⟩, hG.2.1.F ht⟩) hG.2.1.2.2 dX3_init_45
  exact E0 _ _ _ hG hl

def w_X1_init  (h : HI) (g : HL) (Q : HI → HL → Prop) : Prop :=
  (∃ P_9 : HI → HL → Prop, w_X0_init 110 h g P_9 ∧ ∀ (h_9 : HI) (g_9 : HL), P_9 h_9 g_9 → (∃ P_20 : HI → HL → Prop, w_X0_init 112 h_9 g_9 P_20 ∧ ∀ (h_20 : HI) (g_20 : HL), P_20 h_20 g_20 → (∃ P_31 : HI → HL → Prop, w_X0_init 114 h_20 g_20 P_31 ∧ ∀ (h_31 : HI) (g_31 : HL), P_31 h_31 g_31 → (∃ P_42 : HI → HL → Prop, w_X0_init 116 h_31 g_31 P_42 ∧ ∀ (h_42 : HI) (g_42 : HL), P_42 h_42 g_42 → (∃ P_58 : HI → HL → Prop, w_X0_set 112 (1 : Int32) h_42 g_42 P_58 ∧ ∀ (h_58 : HI) (g_58 : HL), P_58 h_58 g_58 → (∀ h_61 : HI, h_61 = hua h_58 109 (fun k => ([0, 0, 0, 0, 0, 0, 0] : List Int32).getD k 0) → Q h_61 g_58))))))
set_option maxHeartbeats 40000000 in
set_option maxRecDepth 100000 in
theorem n_X1_init (l : Launch) (D : va_G) (cy : Nat → ClassId) (bs : Nat) (E : Nat → Option (List Value)) (h : HI) (g : HL) (hE : ∀ q, 109 ≤ q → E q = none)  (Q : HI → HL → Prop) (HW : w_X1_init h g Q) : Met l yX1_init (wa yX1_init cX1_init 2 none) ({ frames := 2, cells := 8, slots := 288, locals := 40 } : Room) (va_Pc [.ref (adB bs 109), .ref (adB bs 1)] (pI D cy bs 110 (eu E 109 [.null, .null, .null, .null, .null, .int 0, .int 0]) h g)) (va_Qv (fun (u : HI × HL) => Q u.1 u.2) (pB D cy bs 118 E) (pA bs)) 8 288 (pA bs) := by
  refine Met.ofW (cc := cX1_init) (maxL := 2) (ret := none) (by decide) rfl ?_
  intro p e s m args below meth c s₁ B hml hv
  obtain ⟨hav, hP, hsz, hK, hNw, hAO⟩ := hv
  have hx := B.exec
  have hb := B.bytes
  have hr := B.returns
  have hts := atoms_spec (ws := (wa yX1_init cX1_init 2 none)) B.pre
  have hw := wa_hw hts
  have hown : s.vm.findClass RX1 = some m.cls := findClass_of_methodNamed B.named
  have hlocks := B.notSynchronized
  have hin : meth.name = "<init>" := (name_of_methodNamed B.named B.method).1
  have hG : pG D cy bs 110 (eu E 109 [.null, .null, .null, .null, .null, .int 0, .int 0]) s.heap h g s.heap [] := ⟨hP, va_S.rf, hsz⟩
  clear hP
  have ob1 := hw (.methodLink RX1 3 objectInit) (wm2 74 rfl rfl)
  have ob2 := hw (.instanceMethod objectInit) (wm1 23 rfl rfl)
  have ob3 := hw (.code objectInit ⟨#[0xb1]⟩ 1 none) (wm1 24 rfl rfl)
  have lk12 := hw (.fieldLink RX1 12 "OldWorks$Breaks" "above" "LOldWorks$Big;") (wm2 93 rfl rfl)
  have lk18 := hw (.fieldLink RX1 18 "OldWorks$Breaks" "below" "LOldWorks$Big;") (wm2 94 rfl rfl)
  have lk21 := hw (.fieldLink RX1 21 "OldWorks$Breaks" "left" "LOldWorks$Big;") (wm2 95 rfl rfl)
  have lk24 := hw (.fieldLink RX1 24 "OldWorks$Breaks" "right" "LOldWorks$Big;") (wm2 96 rfl rfl)
  have lk27 := hw (.fieldLink RX1 27 "OldWorks$Breaks" "shop" "LOldWorks$Shop;") (wm2 92 rfl rfl)
  rw [show (headSpec (wa yX1_init cX1_init 2 none) ({ frames := 2, cells := 8, slots := 288, locals := 40 } : Room)).room = ({ frames := 2, cells := 8, slots := 288, locals := 40 } : Room) from rfl]
  have hl := lv_entry ([.ref (adB bs 109), .ref (adB bs 1)]) (n := 2) (Nat.le_of_ble_eq_true rfl)
  rw [show entryFrame m args 2 = entryFrame m ([.ref (adB bs 109), .ref (adB bs 1)] : List Value).toArray 2 from by rw [hav], lg_entry_eq]
  generalize (lg_sl ([.ref (adB bs 109), .ref (adB bs 1)]) ++ List.replicate (2 - (lg_sl ([.ref (adB bs 109), .ref (adB bs 1)])).length) Slot.unset).toArray = ls at hl ⊢
  have hl : lv_has ls 2 [(0, .ref (adB bs 109)), (1, .ref (adB bs 1))] := hl
  have E0 : ∀ (H : Heap) (locs : List Loc) (ls : Array Slot), pG D cy bs 110 (eu E 109 [.null, .null, .null, .null, .null, .int 0, .int 0]) s.heap h g H locs → lv_has ls 2 [(0, .ref (adB bs 109)), (1, .ref (adB bs 1))] → W p l e ({ frames := 2, cells := 8, slots := 288, locals := 40 } : Room) s m args below meth c H locs 0 0 (MQ below (va_Qv (fun (u : HI × HL) => Q u.1 u.2) (pB D cy bs 118 E) (pA bs)) args s 8 288 (pA bs)) (F0 m 0 ls []) := by
    intro H locs ls hG hl
    unfold w_X1_init at HW
    refine lv_aload_n hx hb dX1_init_0 rfl (lv_at hl 0 rfl) ?_
    refine W.objInit hx hb hown ob1 ob2 ob3 rfl (hl.1.trans hml.symm) rfl dX1_init_1 (Nat.le_of_ble_eq_true rfl) (Nat.le_of_ble_eq_true rfl) ?_
    refine W.eq (g2 := F0 m 4 ls []) rfl ?_
    refine lv_aload_n hx hb dX1_init_4 rfl (lv_at hl 0 rfl) ?_
    refine p_new hx hb hw inG0 tyX0 tyX0_ok hown (hw (.classLink RX1 9 RX0) (wm2 75 rfl rfl)) (hw (.instantiable RX0 2) (wm2 76 rfl rfl)) (hw (.initialized RX0) (wm1 11 rfl rfl)) hK hG rfl gk_110 (fs := [.null, .int 0]) (fun j hj => by rcases (show j = 0 ∨ j = 1 by omega) with rfl | rfl <;> rfl) (Nat.le_of_ble_eq_true rfl) (Nat.le_of_ble_eq_true rfl) dX1_init_5 (fun H hG => ?_)
    have hG : pG D cy bs 111 (eu (eu E 109 [.null, .null, .null, .null, .null, .int 0, .int 0]) 110 [.null, .int 0]) s.heap h g H locs := hG
    refine lv_dup hx hb dX1_init_8 rfl ?_
    obtain ⟨P_9, HC_9, HW⟩ := HW
    refine p_callv (n' := 112) (E' := (eu E 109 [.null, .null, .null, .null, .null, .int 0, .int 0])) (p_runIN (As := []) (rest := [.ref (adB bs 110), .ref (adB bs 109)]) ⟨hx, hb, hml, hown, hts⟩ (n_X0_init l D cy bs (eu E 109 [.null, .null, .null, .null, .null, .int 0, .int 0]) h g 110 gs_110 (fun q hq => ((eu_ne (by omega)).trans (hE _ (by omega))))  P_9 HC_9) ⟨va_cnB 0 hts (gd_w (wm2 79 rfl rfl)) rfl rfl rfl (hNw _ (List.mem_of_getElem? (i := 1) rfl)) (hw (.initialized RX0) (wm1 11 rfl rfl)) (by decide +kernel) ⟨Nat.le_of_ble_eq_true rfl, Nat.le_of_ble_eq_true rfl⟩, rfl, hw (.instanceMethod yX0_init) (wm2 78 rfl rfl)⟩ hK hNw hAO hG rfl rfl hl.1 rfl (lv_room (Nat.le_of_ble_eq_true rfl)) dX1_init_9 ⟨Nat.le_of_ble_eq_true rfl, Nat.le_of_ble_eq_true rfl⟩) hG (fun h_9 g_9 H locs hq hG => ?_)
    replace HW := HW h_9 g_9 hq
    have hG : pG D cy bs 112 (eu E 109 [.null, .null, .null, .null, .null, .int 0, .int 0]) s.heap h_9 g_9 H locs := hG
    refine p_putE hx hb hw inG1 tyX1 tyX1_ok nmX1 hown hK hG (by omega) eu_eq rfl gk_109 1 (by decide) (Nat.le_of_ble_eq_true rfl) (ty := .object "OldWorks$Big") (by decide +kernel) rfl rfl lk12 (Or.inr ⟨rfl, hin, rfl⟩) dX1_init_12 (fun H locs hG => ?_)
    rw [eu_eu] at hG
    have hG : pG D cy bs 112 (eu E 109 [.null, .ref (adB bs 110), .null, .null, .null, .int 0, .int 0]) s.heap h_9 g_9 H locs := hG
    refine lv_aload_n hx hb dX1_init_15 rfl (lv_at hl 0 rfl) ?_
    refine p_new hx hb hw inG0 tyX0 tyX0_ok hown (hw (.classLink RX1 9 RX0) (wm2 75 rfl rfl)) (hw (.instantiable RX0 2) (wm2 76 rfl rfl)) (hw (.initialized RX0) (wm1 11 rfl rfl)) hK hG rfl gk_112 (fs := [.null, .int 0]) (fun j hj => by rcases (show j = 0 ∨ j = 1 by omega) with rfl | rfl <;> rfl) (Nat.le_of_ble_eq_true rfl) (Nat.le_of_ble_eq_true rfl) dX1_init_16 (fun H hG => ?_)
    have hG : pG D cy bs 113 (eu (eu E 109 [.null, .ref (adB bs 110), .null, .null, .null, .int 0, .int 0]) 112 [.null, .int 0]) s.heap h_9 g_9 H locs := hG
    refine lv_dup hx hb dX1_init_19 rfl ?_
    obtain ⟨P_20, HC_20, HW⟩ := HW
    refine p_callv (n' := 114) (E' := (eu E 109 [.null, .ref (adB bs 110), .null, .null, .null, .int 0, .int 0])) (p_runIN (As := []) (rest := [.ref (adB bs 112), .ref (adB bs 109)]) ⟨hx, hb, hml, hown, hts⟩ (n_X0_init l D cy bs (eu E 109 [.null, .ref (adB bs 110), .null, .null, .null, .int 0, .int 0]) h_9 g_9 112 gs_112 (fun q hq => ((eu_ne (by omega)).trans (hE _ (by omega))))  P_20 HC_20) ⟨va_cnB 0 hts (gd_w (wm2 79 rfl rfl)) rfl rfl rfl (hNw _ (List.mem_of_getElem? (i := 1) rfl)) (hw (.initialized RX0) (wm1 11 rfl rfl)) (by decide +kernel) ⟨Nat.le_of_ble_eq_true rfl, Nat.le_of_ble_eq_true rfl⟩, rfl, hw (.instanceMethod yX0_init) (wm2 78 rfl rfl)⟩ hK hNw hAO hG rfl rfl hl.1 rfl (lv_room (Nat.le_of_ble_eq_true rfl)) dX1_init_20 ⟨Nat.le_of_ble_eq_true rfl, Nat.le_of_ble_eq_true rfl⟩) hG (fun h_20 g_20 H locs hq hG => ?_)
    replace HW := HW h_20 g_20 hq
    have hG : pG D cy bs 114 (eu E 109 [.null, .ref (adB bs 110), .null, .null, .null, .int 0, .int 0]) s.heap h_20 g_20 H locs := hG
    refine p_putE hx hb hw inG1 tyX1 tyX1_ok nmX1 hown hK hG (by omega) eu_eq rfl gk_109 2 (by decide) (Nat.le_of_ble_eq_true rfl) (ty := .object "OldWorks$Big") (by decide +kernel) rfl rfl lk18 (Or.inr ⟨rfl, hin, rfl⟩) dX1_init_23 (fun H locs hG => ?_)
    rw [eu_eu] at hG
    have hG : pG D cy bs 114 (eu E 109 [.null, .ref (adB bs 110), .ref (adB bs 112), .null, .null, .int 0, .int 0]) s.heap h_20 g_20 H locs := hG
    refine lv_aload_n hx hb dX1_init_26 rfl (lv_at hl 0 rfl) ?_
    refine p_new hx hb hw inG0 tyX0 tyX0_ok hown (hw (.classLink RX1 9 RX0) (wm2 75 rfl rfl)) (hw (.instantiable RX0 2) (wm2 76 rfl rfl)) (hw (.initialized RX0) (wm1 11 rfl rfl)) hK hG rfl gk_114 (fs := [.null, .int 0]) (fun j hj => by rcases (show j = 0 ∨ j = 1 by omega) with rfl | rfl <;> rfl) (Nat.le_of_ble_eq_true rfl) (Nat.le_of_ble_eq_true rfl) dX1_init_27 (fun H hG => ?_)
    have hG : pG D cy bs 115 (eu (eu E 109 [.null, .ref (adB bs 110), .ref (adB bs 112), .null, .null, .int 0, .int 0]) 114 [.null, .int 0]) s.heap h_20 g_20 H locs := hG
    refine lv_dup hx hb dX1_init_30 rfl ?_
    obtain ⟨P_31, HC_31, HW⟩ := HW
    refine p_callv (n' := 116) (E' := (eu E 109 [.null, .ref (adB bs 110), .ref (adB bs 112), .null, .null, .int 0, .int 0])) (p_runIN (As := []) (rest := [.ref (adB bs 114), .ref (adB bs 109)]) ⟨hx, hb, hml, hown, hts⟩ (n_X0_init l D cy bs (eu E 109 [.null, .ref (adB bs 110), .ref (adB bs 112), .null, .null, .int 0, .int 0]) h_20 g_20 114 gs_114 (fun q hq => ((eu_ne (by omega)).trans (hE _ (by omega))))  P_31 HC_31) ⟨va_cnB 0 hts (gd_w (wm2 79 rfl rfl)) rfl rfl rfl (hNw _ (List.mem_of_getElem? (i := 1) rfl)) (hw (.initialized RX0) (wm1 11 rfl rfl)) (by decide +kernel) ⟨Nat.le_of_ble_eq_true rfl, Nat.le_of_ble_eq_true rfl⟩, rfl, hw (.instanceMethod yX0_init) (wm2 78 rfl rfl)⟩ hK hNw hAO hG rfl rfl hl.1 rfl (lv_room (Nat.le_of_ble_eq_true rfl)) dX1_init_31 ⟨Nat.le_of_ble_eq_true rfl, Nat.le_of_ble_eq_true rfl⟩) hG (fun h_31 g_31 H locs hq hG => ?_)
    replace HW := HW h_31 g_31 hq
    have hG : pG D cy bs 116 (eu E 109 [.null, .ref (adB bs 110), .ref (adB bs 112), .null, .null, .int 0, .int 0]) s.heap h_31 g_31 H locs := hG
    refine p_putE hx hb hw inG1 tyX1 tyX1_ok nmX1 hown hK hG (by omega) eu_eq rfl gk_109 3 (by decide) (Nat.le_of_ble_eq_true rfl) (ty := .object "OldWorks$Big") (by decide +kernel) rfl rfl lk21 (Or.inr ⟨rfl, hin, rfl⟩) dX1_init_34 (fun H locs hG => ?_)
    rw [eu_eu] at hG
    have hG : pG D cy bs 116 (eu E 109 [.null, .ref (adB bs 110), .ref (adB bs 112), .ref (adB bs 114), .null, .int 0, .int 0]) s.heap h_31 g_31 H locs := hG
    refine lv_aload_n hx hb dX1_init_37 rfl (lv_at hl 0 rfl) ?_
    refine p_new hx hb hw inG0 tyX0 tyX0_ok hown (hw (.classLink RX1 9 RX0) (wm2 75 rfl rfl)) (hw (.instantiable RX0 2) (wm2 76 rfl rfl)) (hw (.initialized RX0) (wm1 11 rfl rfl)) hK hG rfl gk_116 (fs := [.null, .int 0]) (fun j hj => by rcases (show j = 0 ∨ j = 1 by omega) with rfl | rfl <;> rfl) (Nat.le_of_ble_eq_true rfl) (Nat.le_of_ble_eq_true rfl) dX1_init_38 (fun H hG => ?_)
    have hG : pG D cy bs 117 (eu (eu E 109 [.null, .ref (adB bs 110), .ref (adB bs 112), .ref (adB bs 114), .null, .int 0, .int 0]) 116 [.null, .int 0]) s.heap h_31 g_31 H locs := hG
    refine lv_dup hx hb dX1_init_41 rfl ?_
    obtain ⟨P_42, HC_42, HW⟩ := HW
    refine p_callv (n' := 118) (E' := (eu E 109 [.null, .ref (adB bs 110), .ref (adB bs 112), .ref (adB bs 114), .null, .int 0, .int 0])) (p_runIN (As := []) (rest := [.ref (adB bs 116), .ref (adB bs 109)]) ⟨hx, hb, hml, hown, hts⟩ (n_X0_init l D cy bs (eu E 109 [.null, .ref (adB bs 110), .ref (adB bs 112), .ref (adB bs 114), .null, .int 0, .int 0]) h_31 g_31 116 gs_116 (fun q hq => ((eu_ne (by omega)).trans (hE _ (by omega))))  P_42 HC_42) ⟨va_cnB 0 hts (gd_w (wm2 79 rfl rfl)) rfl rfl rfl (hNw _ (List.mem_of_getElem? (i := 1) rfl)) (hw (.initialized RX0) (wm1 11 rfl rfl)) (by decide +kernel) ⟨Nat.le_of_ble_eq_true rfl, Nat.le_of_ble_eq_true rfl⟩, rfl, hw (.instanceMethod yX0_init) (wm2 78 rfl rfl)⟩ hK hNw hAO hG rfl rfl hl.1 rfl (lv_room (Nat.le_of_ble_eq_true rfl)) dX1_init_42 ⟨Nat.le_of_ble_eq_true rfl, Nat.le_of_ble_eq_true rfl⟩) hG (fun h_42 g_42 H locs hq hG => ?_)
    replace HW := HW h_42 g_42 hq
    have hG : pG D cy bs 118 (eu E 109 [.null, .ref (adB bs 110), .ref (adB bs 112), .ref (adB bs 114), .null, .int 0, .int 0]) s.heap h_42 g_42 H locs := hG
    refine p_putE hx hb hw inG1 tyX1 tyX1_ok nmX1 hown hK hG (by omega) eu_eq rfl gk_109 4 (by decide) (Nat.le_of_ble_eq_true rfl) (ty := .object "OldWorks$Big") (by decide +kernel) rfl rfl lk24 (Or.inr ⟨rfl, hin, rfl⟩) dX1_init_45 (fun H locs hG => ?_)
    rw [eu_eu] at hG
    have hG : pG D cy bs 118 (eu E 109 [.null, .ref (adB bs 110), .ref (adB bs 112), .ref (adB bs 114), .ref (adB bs 116), .int 0, .int 0]) s.heap h_42 g_42 H locs := hG
    refine lv_aload_n hx hb dX1_init_48 rfl (lv_at hl 0 rfl) ?_
    refine lv_aload_n hx hb dX1_init_49 rfl (lv_at hl 1 rfl) ?_
    refine p_putE hx hb hw inG1 tyX1 tyX1_ok nmX1 hown hK hG (by omega) eu_eq rfl gk_109 0 (by decide) (Nat.le_of_ble_eq_true rfl) (ty := .object "OldWorks$Shop") (by decide +kernel) rfl rfl lk27 (Or.inr ⟨rfl, hin, rfl⟩) dX1_init_50 (fun H locs hG => ?_)
    rw [eu_eu] at hG
    have hG : pG D cy bs 118 (eu E 109 [.ref (adB bs 1), .ref (adB bs 110), .ref (adB bs 112), .ref (adB bs 114), .ref (adB bs 116), .int 0, .int 0]) s.heap h_42 g_42 H locs := hG
    refine lv_aload_n hx hb dX1_init_53 rfl (lv_at hl 0 rfl) ?_
    refine p_getE hx hb hw inG1 hown hK hG (by omega) eu_eq rfl gk_109 2 (by decide) (v := .ref (adB bs 112)) rfl lk18 dX1_init_54 ?_
    refine lv_iconst (v := 1) hx hb dX1_init_57 (by decide) ?_
    obtain ⟨P_58, HC_58, HW⟩ := HW
    refine p_callv (p_runV (As := [.int (1 : Int32)]) (rest := []) ⟨hx, hb, hml, hown, hts⟩ (n_X0_set l D cy bs 118 (eu E 109 [.ref (adB bs 1), .ref (adB bs 110), .ref (adB bs 112), .ref (adB bs 114), .ref (adB bs 116), .int 0, .int 0]) h_42 g_42 112 gs_112 ⟨by omega, ((eu_ne (by omega)).trans (hE _ (by omega)))⟩ ⟨by omega, ((eu_ne (by omega)).trans (hE _ (by omega)))⟩ (1 : Int32) P_58 HC_58) (cwV 1 hts (gd_V (wm2 88 rfl rfl) (wm2 89 rfl rfl) (wm2 90 rfl rfl) (wm1 11 rfl rfl) (wm2 91 rfl rfl)) rfl rfl rfl (by decide +kernel) ⟨Nat.le_of_ble_eq_true rfl, Nat.le_of_ble_eq_true rfl⟩) hK hNw hAO hG ⟨by omega, ((eu_ne (by omega)).trans (hE _ (by omega)))⟩ rfl gk_112 (by decide) rfl rfl hl.1 rfl (lv_room (Nat.le_of_ble_eq_true rfl)) dX1_init_58 ⟨Nat.le_of_ble_eq_true rfl, Nat.le_of_ble_eq_true rfl⟩) hG (fun h_58 g_58 H locs hq hG => ?_)
    replace HW := HW h_58 g_58 hq
    have hG := pG_done (f := (fun k => ([0, 0, 0, 0, 0, 0, 0] : List Int32).getD k 0)) hG (hE _ (Nat.le_refl _)) (by rw [gk_109]; decide) rfl
    obtain ⟨h_61, eh_61⟩ : ∃ y : HI, y = hua h_58 109 (fun k => ([0, 0, 0, 0, 0, 0, 0] : List Int32).getD k 0) := ⟨_, rfl⟩
    rw [← eh_61] at hG
    replace HW := HW h_61 eh_61
    refine W.widen (k := 8) (n := 288) (by first | exact Nat.le_refl _ | decide | omega) (by first | exact Nat.le_refl _ | decide | omega) ?_
    exact W.vret hx hb hr (fun t ht hW => ⟨⟨(h_61, g_58), rfl, HW, p_B ht hG⟩, hG.2.1.F ht⟩) hG.2.1.2.2 dX1_init_61
  exact E0 _ _ _ hG hl

def w_X5_init  (h : HI) (g : HL) (Q : HI → HL → Prop) : Prop :=
  (∀ h_7 : HI, h_7 = hua h 119 (fun _ => 0) → (∀ h_15 : HI, h_15 = hua h_7 120 (fun _ => 0) → (∀ h_23 : HI, h_23 = hua h_15 121 (fun _ => 0) → (∀ h_32 : HI, h_32 = hua h_23 122 (fun _ => 0) → (∀ h_40 : HI, h_40 = hua h_32 123 (fun _ => 0) → (∀ h_48 : HI, h_48 = hua h_40 124 (fun _ => 0) → (∀ h_59 : HI, h_59 = hz h_48 125 9 → (∀ h_71 : HI, h_71 = hua h_59 118 (fun k => ([0, 0, 0, 0, 0, 0, 0, 0, 0, 0, 0] : List Int32).getD k 0) → Q h_71 g))))))))
set_option maxHeartbeats 40000000 in
set_option maxRecDepth 100000 in
theorem n_X5_init (l : Launch) (D : va_G) (cy : Nat → ClassId) (bs : Nat) (E : Nat → Option (List Value)) (h : HI) (g : HL) (hE : ∀ q, 118 ≤ q → E q = none)  (Q : HI → HL → Prop) (HW : w_X5_init h g Q) : Met l yX5_init (wa yX5_init cX5_init 2 none) ({ frames := 1, cells := 16, slots := 2637, locals := 20 } : Room) (va_Pc [.ref (adB bs 118), .ref (adB bs 1)] (pI D cy bs 119 (eu E 118 [.null, .null, .null, .null, .null, .null, .null, .null, .int 0, .int 0, .int 0]) h g)) (va_Qv (fun (u : HI × HL) => Q u.1 u.2) (pB D cy bs 135 E) (pA bs)) 16 2637 (pA bs) := by
  refine Met.ofW (cc := cX5_init) (maxL := 2) (ret := none) (by decide) rfl ?_
  intro p e s m args below meth c s₁ B hml hv
  obtain ⟨hav, hP, hsz, hK, hNw, hAO⟩ := hv
  have hx := B.exec
  have hb := B.bytes
  have hr := B.returns
  have hts := atoms_spec (ws := (wa yX5_init cX5_init 2 none)) B.pre
  have hw := wa_hw hts
  have hown : s.vm.findClass RX5 = some m.cls := findClass_of_methodNamed B.named
  have hlocks := B.notSynchronized
  have hin : meth.name = "<init>" := (name_of_methodNamed B.named B.method).1
  have hG : pG D cy bs 119 (eu E 118 [.null, .null, .null, .null, .null, .null, .null, .null, .int 0, .int 0, .int 0]) s.heap h g s.heap [] := ⟨hP, va_S.rf, hsz⟩
  clear hP
  have ob1 := hw (.methodLink RX5 5 objectInit) (wm2 119 rfl rfl)
  have ob2 := hw (.instanceMethod objectInit) (wm1 23 rfl rfl)
  have ob3 := hw (.code objectInit ⟨#[0xb1]⟩ 1 none) (wm1 24 rfl rfl)
  have ac_int := hw (.arrayClass .int) (wm1 50 rfl rfl)
  have lk11 := hw (.fieldLink RX5 11 "OldWorks$Plans" "lessons" "[I") (wm2 122 rfl rfl)
  have lk15 := hw (.fieldLink RX5 15 "OldWorks$Plans" "learns" "[I") (wm2 123 rfl rfl)
  have lk18 := hw (.fieldLink RX5 18 "OldWorks$Plans" "bits" "[I") (wm2 124 rfl rfl)
  have lk21 := hw (.fieldLink RX5 21 "OldWorks$Plans" "skilled" "[I") (wm2 125 rfl rfl)
  have lk24 := hw (.fieldLink RX5 24 "OldWorks$Plans" "runsOf" "[I") (wm2 126 rfl rfl)
  have lk27 := hw (.fieldLink RX5 27 "OldWorks$Plans" "there" "[I") (wm2 127 rfl rfl)
  have cl30 := hw (.classLink RX5 30 "[[I") (wm2 120 rfl rfl)
  have lk32 := hw (.fieldLink RX5 32 "OldWorks$Plans" "most" "[[I") (wm2 128 rfl rfl)
  have lk35 := hw (.fieldLink RX5 35 "OldWorks$Plans" "shop" "LOldWorks$Shop;") (wm2 121 rfl rfl)
  rw [show (headSpec (wa yX5_init cX5_init 2 none) ({ frames := 1, cells := 16, slots := 2637, locals := 20 } : Room)).room = ({ frames := 1, cells := 16, slots := 2637, locals := 20 } : Room) from rfl]
  have hl := lv_entry ([.ref (adB bs 118), .ref (adB bs 1)]) (n := 2) (Nat.le_of_ble_eq_true rfl)
  rw [show entryFrame m args 2 = entryFrame m ([.ref (adB bs 118), .ref (adB bs 1)] : List Value).toArray 2 from by rw [hav], lg_entry_eq]
  generalize (lg_sl ([.ref (adB bs 118), .ref (adB bs 1)]) ++ List.replicate (2 - (lg_sl ([.ref (adB bs 118), .ref (adB bs 1)])).length) Slot.unset).toArray = ls at hl ⊢
  have hl : lv_has ls 2 [(0, .ref (adB bs 118)), (1, .ref (adB bs 1))] := hl
  have E0 : ∀ (H : Heap) (locs : List Loc) (ls : Array Slot), pG D cy bs 119 (eu E 118 [.null, .null, .null, .null, .null, .null, .null, .null, .int 0, .int 0, .int 0]) s.heap h g H locs → lv_has ls 2 [(0, .ref (adB bs 118)), (1, .ref (adB bs 1))] → W p l e ({ frames := 1, cells := 16, slots := 2637, locals := 20 } : Room) s m args below meth c H locs 0 0 (MQ below (va_Qv (fun (u : HI × HL) => Q u.1 u.2) (pB D cy bs 135 E) (pA bs)) args s 16 2637 (pA bs)) (F0 m 0 ls []) := by
    intro H locs ls hG hl
    unfold w_X5_init at HW
    refine lv_aload_n hx hb dX5_init_0 rfl (lv_at hl 0 rfl) ?_
    refine W.objInit hx hb hown ob1 ob2 ob3 rfl (hl.1.trans hml.symm) rfl dX5_init_1 (Nat.le_of_ble_eq_true rfl) (Nat.le_of_ble_eq_true rfl) ?_
    refine W.eq (g2 := F0 m 4 ls []) rfl ?_
    refine lv_aload_n hx hb dX5_init_4 rfl (lv_at hl 0 rfl) ?_
    refine lv_bipush (v := 16) hx hb dX5_init_5 (by decide) ?_
    refine p_newi hx hb ac_int hK hG gk_119 ((eu_ne (by omega)).trans (hE _ (by omega))) (by decide) (by decide) (gn_119) (by decide) (Nat.le_of_ble_eq_true rfl) (Nat.le_of_ble_eq_true rfl) dX5_init_7 (fun H hG => ?_)
    obtain ⟨h_7, eh_7⟩ : ∃ y : HI, y = hua h 119 (fun _ => 0) := ⟨_, rfl⟩
    rw [← eh_7] at hG
    replace HW := HW h_7 eh_7
    have hG : pG D cy bs 120 (eu E 118 [.null, .null, .null, .null, .null, .null, .null, .null, .int 0, .int 0, .int 0]) s.heap h_7 g H locs := hG
    refine p_putE hx hb hw inG5 tyX5 tyX5_ok nmX5 hown hK hG (by omega) eu_eq rfl gk_118 1 (by decide) (Nat.le_of_ble_eq_true rfl) (ty := .array .int) (by decide +kernel) rfl rfl lk11 (Or.inr ⟨rfl, hin, rfl⟩) dX5_init_9 (fun H locs hG => ?_)
    rw [eu_eu] at hG
    have hG : pG D cy bs 120 (eu E 118 [.null, .ref (adB bs 119), .null, .null, .null, .null, .null, .null, .int 0, .int 0, .int 0]) s.heap h_7 g H locs := hG
    refine lv_aload_n hx hb dX5_init_12 rfl (lv_at hl 0 rfl) ?_
    refine lv_bipush (v := 16) hx hb dX5_init_13 (by decide) ?_
    refine p_newi hx hb ac_int hK hG gk_120 ((eu_ne (by omega)).trans (hE _ (by omega))) (by decide) (by decide) (gn_120) (by decide) (Nat.le_of_ble_eq_true rfl) (Nat.le_of_ble_eq_true rfl) dX5_init_15 (fun H hG => ?_)
    obtain ⟨h_15, eh_15⟩ : ∃ y : HI, y = hua h_7 120 (fun _ => 0) := ⟨_, rfl⟩
    rw [← eh_15] at hG
    replace HW := HW h_15 eh_15
    have hG : pG D cy bs 121 (eu E 118 [.null, .ref (adB bs 119), .null, .null, .null, .null, .null, .null, .int 0, .int 0, .int 0]) s.heap h_15 g H locs := hG
    refine p_putE hx hb hw inG5 tyX5 tyX5_ok nmX5 hown hK hG (by omega) eu_eq rfl gk_118 2 (by decide) (Nat.le_of_ble_eq_true rfl) (ty := .array .int) (by decide +kernel) rfl rfl lk15 (Or.inr ⟨rfl, hin, rfl⟩) dX5_init_17 (fun H locs hG => ?_)
    rw [eu_eu] at hG
    have hG : pG D cy bs 121 (eu E 118 [.null, .ref (adB bs 119), .ref (adB bs 120), .null, .null, .null, .null, .null, .int 0, .int 0, .int 0]) s.heap h_15 g H locs := hG
    refine lv_aload_n hx hb dX5_init_20 rfl (lv_at hl 0 rfl) ?_
    refine lv_bipush (v := 12) hx hb dX5_init_21 (by decide) ?_
    refine p_newi hx hb ac_int hK hG gk_121 ((eu_ne (by omega)).trans (hE _ (by omega))) (by decide) (by decide) (gn_121) (by decide) (Nat.le_of_ble_eq_true rfl) (Nat.le_of_ble_eq_true rfl) dX5_init_23 (fun H hG => ?_)
    obtain ⟨h_23, eh_23⟩ : ∃ y : HI, y = hua h_15 121 (fun _ => 0) := ⟨_, rfl⟩
    rw [← eh_23] at hG
    replace HW := HW h_23 eh_23
    have hG : pG D cy bs 122 (eu E 118 [.null, .ref (adB bs 119), .ref (adB bs 120), .null, .null, .null, .null, .null, .int 0, .int 0, .int 0]) s.heap h_23 g H locs := hG
    refine p_putE hx hb hw inG5 tyX5 tyX5_ok nmX5 hown hK hG (by omega) eu_eq rfl gk_118 3 (by decide) (Nat.le_of_ble_eq_true rfl) (ty := .array .int) (by decide +kernel) rfl rfl lk18 (Or.inr ⟨rfl, hin, rfl⟩) dX5_init_25 (fun H locs hG => ?_)
    rw [eu_eu] at hG
    have hG : pG D cy bs 122 (eu E 118 [.null, .ref (adB bs 119), .ref (adB bs 120), .ref (adB bs 121), .null, .null, .null, .null, .int 0, .int 0, .int 0]) s.heap h_23 g H locs := hG
    refine lv_aload_n hx hb dX5_init_28 rfl (lv_at hl 0 rfl) ?_
    refine lv_sipush (v := 256) hx hb dX5_init_29 (by decide) ?_
    refine p_newi hx hb ac_int hK hG gk_122 ((eu_ne (by omega)).trans (hE _ (by omega))) (by decide) (by decide) (gn_122) (by decide) (Nat.le_of_ble_eq_true rfl) (Nat.le_of_ble_eq_true rfl) dX5_init_32 (fun H hG => ?_)
    obtain ⟨h_32, eh_32⟩ : ∃ y : HI, y = hua h_23 122 (fun _ => 0) := ⟨_, rfl⟩
    rw [← eh_32] at hG
    replace HW := HW h_32 eh_32
    have hG : pG D cy bs 123 (eu E 118 [.null, .ref (adB bs 119), .ref (adB bs 120), .ref (adB bs 121), .null, .null, .null, .null, .int 0, .int 0, .int 0]) s.heap h_32 g H locs := hG
    refine p_putE hx hb hw inG5 tyX5 tyX5_ok nmX5 hown hK hG (by omega) eu_eq rfl gk_118 4 (by decide) (Nat.le_of_ble_eq_true rfl) (ty := .array .int) (by decide +kernel) rfl rfl lk21 (Or.inr ⟨rfl, hin, rfl⟩) dX5_init_34 (fun H locs hG => ?_)
    rw [eu_eu] at hG
    have hG : pG D cy bs 123 (eu E 118 [.null, .ref (adB bs 119), .ref (adB bs 120), .ref (adB bs 121), .ref (adB bs 122), .null, .null, .null, .int 0, .int 0, .int 0]) s.heap h_32 g H locs := hG
    refine lv_aload_n hx hb dX5_init_37 rfl (lv_at hl 0 rfl) ?_
    refine lv_bipush (v := 16) hx hb dX5_init_38 (by decide) ?_
    refine p_newi hx hb ac_int hK hG gk_123 ((eu_ne (by omega)).trans (hE _ (by omega))) (by decide) (by decide) (gn_123) (by decide) (Nat.le_of_ble_eq_true rfl) (Nat.le_of_ble_eq_true rfl) dX5_init_40 (fun H hG => ?_)
    obtain ⟨h_40, eh_40⟩ : ∃ y : HI, y = hua h_32 123 (fun _ => 0) := ⟨_, rfl⟩
    rw [← eh_40] at hG
    replace HW := HW h_40 eh_40
    have hG : pG D cy bs 124 (eu E 118 [.null, .ref (adB bs 119), .ref (adB bs 120), .ref (adB bs 121), .ref (adB bs 122), .null, .null, .null, .int 0, .int 0, .int 0]) s.heap h_40 g H locs := hG
    refine p_putE hx hb hw inG5 tyX5 tyX5_ok nmX5 hown hK hG (by omega) eu_eq rfl gk_118 5 (by decide) (Nat.le_of_ble_eq_true rfl) (ty := .array .int) (by decide +kernel) rfl rfl lk24 (Or.inr ⟨rfl, hin, rfl⟩) dX5_init_42 (fun H locs hG => ?_)
    rw [eu_eu] at hG
    have hG : pG D cy bs 124 (eu E 118 [.null, .ref (adB bs 119), .ref (adB bs 120), .ref (adB bs 121), .ref (adB bs 122), .ref (adB bs 123), .null, .null, .int 0, .int 0, .int 0]) s.heap h_40 g H locs := hG
    refine lv_aload_n hx hb dX5_init_45 rfl (lv_at hl 0 rfl) ?_
    refine lv_bipush (v := 8) hx hb dX5_init_46 (by decide) ?_
    refine p_newi hx hb ac_int hK hG gk_124 ((eu_ne (by omega)).trans (hE _ (by omega))) (by decide) (by decide) (gn_124) (by decide) (Nat.le_of_ble_eq_true rfl) (Nat.le_of_ble_eq_true rfl) dX5_init_48 (fun H hG => ?_)
    obtain ⟨h_48, eh_48⟩ : ∃ y : HI, y = hua h_40 124 (fun _ => 0) := ⟨_, rfl⟩
    rw [← eh_48] at hG
    replace HW := HW h_48 eh_48
    have hG : pG D cy bs 125 (eu E 118 [.null, .ref (adB bs 119), .ref (adB bs 120), .ref (adB bs 121), .ref (adB bs 122), .ref (adB bs 123), .null, .null, .int 0, .int 0, .int 0]) s.heap h_48 g H locs := hG
    refine p_putE hx hb hw inG5 tyX5 tyX5_ok nmX5 hown hK hG (by omega) eu_eq rfl gk_118 6 (by decide) (Nat.le_of_ble_eq_true rfl) (ty := .array .int) (by decide +kernel) rfl rfl lk27 (Or.inr ⟨rfl, hin, rfl⟩) dX5_init_50 (fun H locs hG => ?_)
    rw [eu_eu] at hG
    have hG : pG D cy bs 125 (eu E 118 [.null, .ref (adB bs 119), .ref (adB bs 120), .ref (adB bs 121), .ref (adB bs 122), .ref (adB bs 123), .ref (adB bs 124), .null, .int 0, .int 0, .int 0]) s.heap h_48 g H locs := hG
    refine lv_aload_n hx hb dX5_init_53 rfl (lv_at hl 0 rfl) ?_
    refine lv_bipush (v := 9) hx hb dX5_init_54 (by decide) ?_
    refine lv_sipush (v := 256) hx hb dX5_init_56 (by decide) ?_
    refine p_mna hx hb hown cl30 hAO ac_int hK hG gk_125 gn_125 (K := 256) (fun j hj => ⟨(go_125 j hj).1, (go_125 j hj).2.1, (go_125 j hj).2.2.2⟩) (fun q hq => ((eu_ne (by omega)).trans (hE _ (by omega)))) (by decide) (by decide) (by decide) (by decide) (by decide) (by decide) (Nat.le_of_ble_eq_true rfl) (Nat.le_of_ble_eq_true rfl) dX5_init_59 (fun H hG => ?_)
    obtain ⟨h_59, eh_59⟩ : ∃ y : HI, y = hz h_48 125 9 := ⟨_, rfl⟩
    rw [← eh_59] at hG
    replace HW := HW h_59 eh_59
    have hG : pG D cy bs 135 (eu E 118 [.null, .ref (adB bs 119), .ref (adB bs 120), .ref (adB bs 121), .ref (adB bs 122), .ref (adB bs 123), .ref (adB bs 124), .null, .int 0, .int 0, .int 0]) s.heap h_59 g H locs := hG
    refine p_putE hx hb hw inG5 tyX5 tyX5_ok nmX5 hown hK hG (by omega) eu_eq rfl gk_118 7 (by decide) (Nat.le_of_ble_eq_true rfl) (ty := .array (.array .int)) (by decide +kernel) rfl rfl lk32 (Or.inr ⟨rfl, hin, rfl⟩) dX5_init_63 (fun H locs hG => ?_)
    rw [eu_eu] at hG
    have hG : pG D cy bs 135 (eu E 118 [.null, .ref (adB bs 119), .ref (adB bs 120), .ref (adB bs 121), .ref (adB bs 122), .ref (adB bs 123), .ref (adB bs 124), .ref (adB bs 125), .int 0, .int 0, .int 0]) s.heap h_59 g H locs := hG
    refine lv_aload_n hx hb dX5_init_66 rfl (lv_at hl 0 rfl) ?_
    refine lv_aload_n hx hb dX5_init_67 rfl (lv_at hl 1 rfl) ?_
    refine p_putE hx hb hw inG5 tyX5 tyX5_ok nmX5 hown hK hG (by omega) eu_eq rfl gk_118 0 (by decide) (Nat.le_of_ble_eq_true rfl) (ty := .object "OldWorks$Shop") (by decide +kernel) rfl rfl lk35 (Or.inr ⟨rfl, hin, rfl⟩) dX5_init_68 (fun H locs hG => ?_)
    rw [eu_eu] at hG
    have hG : pG D cy bs 135 (eu E 118 [.ref (adB bs 1), .ref (adB bs 119), .ref (adB bs 120), .ref (adB bs 121), .ref (adB bs 122), .ref (adB bs 123), .ref (adB bs 124), .ref (adB bs 125), .int 0, .int 0, .int 0]) s.heap h_59 g H locs := hG
    have hG := pG_done (f := (fun k => ([0, 0, 0, 0, 0, 0, 0, 0, 0, 0, 0] : List Int32).getD k 0)) hG (hE _ (Nat.le_refl _)) (by rw [gk_118]; decide) rfl
    obtain ⟨h_71, eh_71⟩ : ∃ y : HI, y = hua h_59 118 (fun k => ([0, 0, 0, 0, 0, 0, 0, 0, 0, 0, 0] : List Int32).getD k 0) := ⟨_, rfl⟩
    rw [← eh_71] at hG
    replace HW := HW h_71 eh_71
    refine W.widen (k := 16) (n := 2637) (by first | exact Nat.le_refl _ | decide | omega) (by first | exact Nat.le_refl _ | decide | omega) ?_
    exact W.vret hx hb hr (fun t ht hW => ⟨⟨(h_71, g), rfl, HW, p_B ht hG⟩, hG.2.1.F ht⟩) hG.2.1.2.2 dX5_init_71
  exact E0 _ _ _ hG hl

def w_X10_init  (h : HI) (g : HL) (Q : HI → HL → Prop) : Prop :=
  (∃ P_9 : HI → HL → Prop, w_X6_init 1 h g P_9 ∧ ∀ (h_9 : HI) (g_9 : HL), P_9 h_9 g_9 → (∃ P_20 : HI → HL → Prop, w_X6_init 26 h_9 g_9 P_20 ∧ ∀ (h_20 : HI) (g_20 : HL), P_20 h_20 g_20 → (∃ P_31 : HI → HL → Prop, w_X6_init 51 h_20 g_20 P_31 ∧ ∀ (h_31 : HI) (g_31 : HL), P_31 h_31 g_31 → (∀ h_39 : HI, h_39 = hua h_31 76 (fun _ => 0) → (∃ P_53 : HI → HL → Prop, w_X4_init h_39 g_31 P_53 ∧ ∀ (h_53 : HI) (g_53 : HL), P_53 h_53 g_53 → (∃ P_72 : HI → HL → Prop, w_X7_init h_53 g_53 P_72 ∧ ∀ (h_72 : HI) (g_72 : HL), P_72 h_72 g_72 → (∃ P_95 : HI → HL → Prop, w_X2_init h_72 g_72 P_95 ∧ ∀ (h_95 : HI) (g_95 : HL), P_95 h_95 g_95 → (∃ P_110 : HI → HL → Prop, w_X9_init h_95 g_95 P_110 ∧ ∀ (h_110 : HI) (g_110 : HL), P_110 h_110 g_110 → (∃ P_125 : HI → HL → Prop, w_X3_init h_110 g_110 P_125 ∧ ∀ (h_125 : HI) (g_125 : HL), P_125 h_125 g_125 → (∃ P_140 : HI → HL → Prop, w_X1_init h_125 g_125 P_140 ∧ ∀ (h_140 : HI) (g_140 : HL), P_140 h_140 g_140 → (∃ P_155 : HI → HL → Prop, w_X5_init h_140 g_140 P_155 ∧ ∀ (h_155 : HI) (g_155 : HL), P_155 h_155 g_155 → (∀ h_161 : HI, h_161 = hua h_155 0 (fun k => ([0, 0, 0, 0, 0, 0, 0, 0, 0, 0, 0] : List Int32).getD k 0) → Q h_161 g_155))))))))))))
set_option maxHeartbeats 40000000 in
set_option maxRecDepth 100000 in
theorem n_X10_init (l : Launch) (D : va_G) (cy : Nat → ClassId) (bs : Nat) (E : Nat → Option (List Value)) (h : HI) (g : HL) (hE : ∀ q, 0 ≤ q → E q = none)  (Q : HI → HL → Prop) (HW : w_X10_init h g Q) : Met l yX10_init (wa yX10_init cX10_init 1 none) ({ frames := 3, cells := 134, slots := 22514, locals := 71 } : Room) (va_Pc [.ref (adB bs 0)] (pI D cy bs 1 (eu E 0 [.null, .null, .null, .null, .null, .null, .null, .null, .null, .null, .null]) h g)) (va_Qv (fun (u : HI × HL) => Q u.1 u.2) (pB D cy bs 135 E) (pA bs)) 134 22514 (pA bs) := by
  refine Met.ofW (cc := cX10_init) (maxL := 1) (ret := none) (by decide) rfl ?_
  intro p e s m args below meth c s₁ B hml hv
  obtain ⟨hav, hP, hsz, hK, hNw, hAO⟩ := hv
  have hx := B.exec
  have hb := B.bytes
  have hr := B.returns
  have hts := atoms_spec (ws := (wa yX10_init cX10_init 1 none)) B.pre
  have hw := wa_hw hts
  have hown : s.vm.findClass RX10 = some m.cls := findClass_of_methodNamed B.named
  have hlocks := B.notSynchronized
  have hin : meth.name = "<init>" := (name_of_methodNamed B.named B.method).1
  have hG : pG D cy bs 1 (eu E 0 [.null, .null, .null, .null, .null, .null, .null, .null, .null, .null, .null]) s.heap h g s.heap [] := ⟨hP, va_S.rf, hsz⟩
  clear hP
  have ob1 := hw (.methodLink RX10 1 objectInit) (wm1 22 rfl rfl)
  have ob2 := hw (.instanceMethod objectInit) (wm1 23 rfl rfl)
  have ob3 := hw (.code objectInit ⟨#[0xb1]⟩ 1 none) (wm1 24 rfl rfl)
  have lk10 := hw (.fieldLink RX10 10 "OldWorks" "shop" "LOldWorks$Shop;") (wm2 155 rfl rfl)
  have lk16 := hw (.fieldLink RX10 16 "OldWorks" "firstImage" "LOldWorks$Shop;") (wm2 156 rfl rfl)
  have lk19 := hw (.fieldLink RX10 19 "OldWorks" "secondImage" "LOldWorks$Shop;") (wm2 157 rfl rfl)
  have ac_boolean := hw (.arrayClass .boolean) (wm1 160 rfl rfl)
  have lk22 := hw (.fieldLink RX10 22 "OldWorks" "kept" "[Z") (wm2 158 rfl rfl)
  have lk31 := hw (.fieldLink RX10 31 "OldWorks" "law" "LOldWorks$Law;") (wm2 159 rfl rfl)
  have lk40 := hw (.fieldLink RX10 40 "OldWorks" "sizes" "LOldWorks$Sizes;") (wm2 160 rfl rfl)
  have lk49 := hw (.fieldLink RX10 49 "OldWorks" "fits" "LOldWorks$Fits;") (wm2 161 rfl rfl)
  have lk56 := hw (.fieldLink RX10 56 "OldWorks" "ways" "LOldWorks$Ways;") (wm2 162 rfl rfl)
  have lk63 := hw (.fieldLink RX10 63 "OldWorks" "givings" "LOldWorks$Givings;") (wm2 163 rfl rfl)
  have lk70 := hw (.fieldLink RX10 70 "OldWorks" "breaks" "LOldWorks$Breaks;") (wm2 164 rfl rfl)
  have lk77 := hw (.fieldLink RX10 77 "OldWorks" "plans" "LOldWorks$Plans;") (wm2 165 rfl rfl)
  rw [show (headSpec (wa yX10_init cX10_init 1 none) ({ frames := 3, cells := 134, slots := 22514, locals := 71 } : Room)).room = ({ frames := 3, cells := 134, slots := 22514, locals := 71 } : Room) from rfl]
  have hl := lv_entry ([.ref (adB bs 0)]) (n := 1) (Nat.le_of_ble_eq_true rfl)
  rw [show entryFrame m args 1 = entryFrame m ([.ref (adB bs 0)] : List Value).toArray 1 from by rw [hav], lg_entry_eq]
  generalize (lg_sl ([.ref (adB bs 0)]) ++ List.replicate (1 - (lg_sl ([.ref (adB bs 0)])).length) Slot.unset).toArray = ls at hl ⊢
  have hl : lv_has ls 1 [(0, .ref (adB bs 0))] := hl
  have E0 : ∀ (H : Heap) (locs : List Loc) (ls : Array Slot), pG D cy bs 1 (eu E 0 [.null, .null, .null, .null, .null, .null, .null, .null, .null, .null, .null]) s.heap h g H locs → lv_has ls 1 [(0, .ref (adB bs 0))] → W p l e ({ frames := 3, cells := 134, slots := 22514, locals := 71 } : Room) s m args below meth c H locs 0 0 (MQ below (va_Qv (fun (u : HI × HL) => Q u.1 u.2) (pB D cy bs 135 E) (pA bs)) args s 134 22514 (pA bs)) (F0 m 0 ls []) := by
    intro H locs ls hG hl
    unfold w_X10_init at HW
    refine lv_aload_n hx hb dX10_init_0 rfl (lv_at hl 0 rfl) ?_
    refine W.objInit hx hb hown ob1 ob2 ob3 rfl (hl.1.trans hml.symm) rfl dX10_init_1 (Nat.le_of_ble_eq_true rfl) (Nat.le_of_ble_eq_true rfl) ?_
    refine W.eq (g2 := F0 m 4 ls []) rfl ?_
    refine lv_aload_n hx hb dX10_init_4 rfl (lv_at hl 0 rfl) ?_
    refine p_new hx hb hw inG6 tyX6 tyX6_ok hown (hw (.classLink RX10 7 RX6) (wm1 25 rfl rfl)) (hw (.instantiable RX6 12) (wm1 26 rfl rfl)) (hw (.initialized RX6) (wm1 2 rfl rfl)) hK hG rfl gk_1 (fs := [.null, .null, .null, .null, .null, .null, .null, .null, .null, .null, .null, .null]) (fun j hj => by rcases (show j = 0 ∨ j = 1 ∨ j = 2 ∨ j = 3 ∨ j = 4 ∨ j = 5 ∨ j = 6 ∨ j = 7 ∨ j = 8 ∨ j = 9 ∨ j = 10 ∨ j = 11 by omega) with rfl | rfl | rfl | rfl | rfl | rfl | rfl | rfl | rfl | rfl | rfl | rfl <;> rfl) (Nat.le_of_ble_eq_true rfl) (Nat.le_of_ble_eq_true rfl) dX10_init_5 (fun H hG => ?_)
    have hG : pG D cy bs 2 (eu (eu E 0 [.null, .null, .null, .null, .null, .null, .null, .null, .null, .null, .null]) 1 [.null, .null, .null, .null, .null, .null, .null, .null, .null, .null, .null, .null]) s.heap h g H locs := hG
    refine lv_dup hx hb dX10_init_8 rfl ?_
    obtain ⟨P_9, HC_9, HW⟩ := HW
    refine p_callv (n' := 26) (E' := (eu E 0 [.null, .null, .null, .null, .null, .null, .null, .null, .null, .null, .null])) (p_runI (As := []) (rest := [.ref (adB bs 1), .ref (adB bs 0)]) ⟨hx, hb, hml, hown, hts⟩ (n_X6_init l D cy bs (eu E 0 [.null, .null, .null, .null, .null, .null, .null, .null, .null, .null, .null]) h g 1 gs_1 (fun q hq => ((eu_ne (by omega)).trans (hE _ (by omega))))  P_9 HC_9) (cwI 0 hts (gd_w (wm1 29 rfl rfl)) rfl rfl rfl (hw (.initialized RX6) (wm1 2 rfl rfl)) (hw (.methodLink RX10 9 yX6_init) (wm1 27 rfl rfl)) (hw (.instanceMethod yX6_init) (wm1 28 rfl rfl)) rfl (by decide +kernel) ⟨Nat.le_of_ble_eq_true rfl, Nat.le_of_ble_eq_true rfl⟩) hK hNw hAO hG rfl rfl hl.1 rfl (lv_room (Nat.le_of_ble_eq_true rfl)) dX10_init_9 ⟨Nat.le_of_ble_eq_true rfl, Nat.le_of_ble_eq_true rfl⟩) hG (fun h_9 g_9 H locs hq hG => ?_)
    replace HW := HW h_9 g_9 hq
    have hG : pG D cy bs 26 (eu E 0 [.null, .null, .null, .null, .null, .null, .null, .null, .null, .null, .null]) s.heap h_9 g_9 H locs := hG
    refine p_putE hx hb hw inG10 tyX10 tyX10_ok nmX10 hown hK hG (by omega) eu_eq rfl gk_0 0 (by decide) (Nat.le_of_ble_eq_true rfl) (ty := .object "OldWorks$Shop") (by decide +kernel) rfl rfl lk10 (Or.inr ⟨rfl, hin, rfl⟩) dX10_init_12 (fun H locs hG => ?_)
    rw [eu_eu] at hG
    have hG : pG D cy bs 26 (eu E 0 [.ref (adB bs 1), .null, .null, .null, .null, .null, .null, .null, .null, .null, .null]) s.heap h_9 g_9 H locs := hG
    refine lv_aload_n hx hb dX10_init_15 rfl (lv_at hl 0 rfl) ?_
    refine p_new hx hb hw inG6 tyX6 tyX6_ok hown (hw (.classLink RX10 7 RX6) (wm1 25 rfl rfl)) (hw (.instantiable RX6 12) (wm1 26 rfl rfl)) (hw (.initialized RX6) (wm1 2 rfl rfl)) hK hG rfl gk_26 (fs := [.null, .null, .null, .null, .null, .null, .null, .null, .null, .null, .null, .null]) (fun j hj => by rcases (show j = 0 ∨ j = 1 ∨ j = 2 ∨ j = 3 ∨ j = 4 ∨ j = 5 ∨ j = 6 ∨ j = 7 ∨ j = 8 ∨ j = 9 ∨ j = 10 ∨ j = 11 by omega) with rfl | rfl | rfl | rfl | rfl | rfl | rfl | rfl | rfl | rfl | rfl | rfl <;> rfl) (Nat.le_of_ble_eq_true rfl) (Nat.le_of_ble_eq_true rfl) dX10_init_16 (fun H hG => ?_)
    have hG : pG D cy bs 27 (eu (eu E 0 [.ref (adB bs 1), .null, .null, .null, .null, .null, .null, .null, .null, .null, .null]) 26 [.null, .null, .null, .null, .null, .null, .null, .null, .null, .null, .null, .null]) s.heap h_9 g_9 H locs := hG
    refine lv_dup hx hb dX10_init_19 rfl ?_
    obtain ⟨P_20, HC_20, HW⟩ := HW
    refine p_callv (n' := 51) (E' := (eu E 0 [.ref (adB bs 1), .null, .null, .null, .null, .null, .null, .null, .null, .null, .null])) (p_runI (As := []) (rest := [.ref (adB bs 26), .ref (adB bs 0)]) ⟨hx, hb, hml, hown, hts⟩ (n_X6_init l D cy bs (eu E 0 [.ref (adB bs 1), .null, .null, .null, .null, .null, .null, .null, .null, .null, .null]) h_9 g_9 26 gs_26 (fun q hq => ((eu_ne (by omega)).trans (hE _ (by omega))))  P_20 HC_20) (cwI 0 hts (gd_w (wm1 29 rfl rfl)) rfl rfl rfl (hw (.initialized RX6) (wm1 2 rfl rfl)) (hw (.methodLink RX10 9 yX6_init) (wm1 27 rfl rfl)) (hw (.instanceMethod yX6_init) (wm1 28 rfl rfl)) rfl (by decide +kernel) ⟨Nat.le_of_ble_eq_true rfl, Nat.le_of_ble_eq_true rfl⟩) hK hNw hAO hG rfl rfl hl.1 rfl (lv_room (Nat.le_of_ble_eq_true rfl)) dX10_init_20 ⟨Nat.le_of_ble_eq_true rfl, Nat.le_of_ble_eq_true rfl⟩) hG (fun h_20 g_20 H locs hq hG => ?_)
    replace HW := HW h_20 g_20 hq
    have hG : pG D cy bs 51 (eu E 0 [.ref (adB bs 1), .null, .null, .null, .null, .null, .null, .null, .null, .null, .null]) s.heap h_20 g_20 H locs := hG
    refine p_putE hx hb hw inG10 tyX10 tyX10_ok nmX10 hown hK hG (by omega) eu_eq rfl gk_0 1 (by decide) (Nat.le_of_ble_eq_true rfl) (ty := .object "OldWorks$Shop") (by decide +kernel) rfl rfl lk16 (Or.inr ⟨rfl, hin, rfl⟩) dX10_init_23 (fun H locs hG => ?_)
    rw [eu_eu] at hG
    have hG : pG D cy bs 51 (eu E 0 [.ref (adB bs 1), .ref (adB bs 26), .null, .null, .null, .null, .null, .null, .null, .null, .null]) s.heap h_20 g_20 H locs := hG
    refine lv_aload_n hx hb dX10_init_26 rfl (lv_at hl 0 rfl) ?_
    refine p_new hx hb hw inG6 tyX6 tyX6_ok hown (hw (.classLink RX10 7 RX6) (wm1 25 rfl rfl)) (hw (.instantiable RX6 12) (wm1 26 rfl rfl)) (hw (.initialized RX6) (wm1 2 rfl rfl)) hK hG rfl gk_51 (fs := [.null, .null, .null, .null, .null, .null, .null, .null, .null, .null, .null, .null]) (fun j hj => by rcases (show j = 0 ∨ j = 1 ∨ j = 2 ∨ j = 3 ∨ j = 4 ∨ j = 5 ∨ j = 6 ∨ j = 7 ∨ j = 8 ∨ j = 9 ∨ j = 10 ∨ j = 11 by omega) with rfl | rfl | rfl | rfl | rfl | rfl | rfl | rfl | rfl | rfl | rfl | rfl <;> rfl) (Nat.le_of_ble_eq_true rfl) (Nat.le_of_ble_eq_true rfl) dX10_init_27 (fun H hG => ?_)
    have hG : pG D cy bs 52 (eu (eu E 0 [.ref (adB bs 1), .ref (adB bs 26), .null, .null, .null, .null, .null, .null, .null, .null, .null]) 51 [.null, .null, .null, .null, .null, .null, .null, .null, .null, .null, .null, .null]) s.heap h_20 g_20 H locs := hG
    refine lv_dup hx hb dX10_init_30 rfl ?_
    obtain ⟨P_31, HC_31, HW⟩ := HW
    refine p_callv (n' := 76) (E' := (eu E 0 [.ref (adB bs 1), .ref (adB bs 26), .null, .null, .null, .null, .null, .null, .null, .null, .null])) (p_runI (As := []) (rest := [.ref (adB bs 51), .ref (adB bs 0)]) ⟨hx, hb, hml, hown, hts⟩ (n_X6_init l D cy bs (eu E 0 [.ref (adB bs 1), .ref (adB bs 26), .null, .null, .null, .null, .null, .null, .null, .null, .null]) h_20 g_20 51 gs_51 (fun q hq => ((eu_ne (by omega)).trans (hE _ (by omega))))  P_31 HC_31) (cwI 0 hts (gd_w (wm1 29 rfl rfl)) rfl rfl rfl (hw (.initialized RX6) (wm1 2 rfl rfl)) (hw (.methodLink RX10 9 yX6_init) (wm1 27 rfl rfl)) (hw (.instanceMethod yX6_init) (wm1 28 rfl rfl)) rfl (by decide +kernel) ⟨Nat.le_of_ble_eq_true rfl, Nat.le_of_ble_eq_true rfl⟩) hK hNw hAO hG rfl rfl hl.1 rfl (lv_room (Nat.le_of_ble_eq_true rfl)) dX10_init_31 ⟨Nat.le_of_ble_eq_true rfl, Nat.le_of_ble_eq_true rfl⟩) hG (fun h_31 g_31 H locs hq hG => ?_)
    replace HW := HW h_31 g_31 hq
    have hG : pG D cy bs 76 (eu E 0 [.ref (adB bs 1), .ref (adB bs 26), .null, .null, .null, .null, .null, .null, .null, .null, .null]) s.heap h_31 g_31 H locs := hG
    refine p_putE hx hb hw inG10 tyX10 tyX10_ok nmX10 hown hK hG (by omega) eu_eq rfl gk_0 2 (by decide) (Nat.le_of_ble_eq_true rfl) (ty := .object "OldWorks$Shop") (by decide +kernel) rfl rfl lk19 (Or.inr ⟨rfl, hin, rfl⟩) dX10_init_34 (fun H locs hG => ?_)
    rw [eu_eu] at hG
    have hG : pG D cy bs 76 (eu E 0 [.ref (adB bs 1), .ref (adB bs 26), .ref (adB bs 51), .null, .null, .null, .null, .null, .null, .null, .null]) s.heap h_31 g_31 H locs := hG
    refine lv_aload_n hx hb dX10_init_37 rfl (lv_at hl 0 rfl) ?_
    refine lv_iconst (v := 2) hx hb dX10_init_38 (by decide) ?_
    refine p_newz hx hb ac_boolean hK hG gk_76 ((eu_ne (by omega)).trans (hE _ (by omega))) (by decide) (by decide) (gn_76) (by decide) (Nat.le_of_ble_eq_true rfl) (Nat.le_of_ble_eq_true rfl) dX10_init_39 (fun H hG => ?_)
    obtain ⟨h_39, eh_39⟩ : ∃ y : HI, y = hua h_31 76 (fun _ => 0) := ⟨_, rfl⟩
    rw [← eh_39] at hG
    replace HW := HW h_39 eh_39
    have hG : pG D cy bs 77 (eu E 0 [.ref (adB bs 1), .ref (adB bs 26), .ref (adB bs 51), .null, .null, .null, .null, .null, .null, .null, .null]) s.heap h_39 g_31 H locs := hG
    refine p_putE hx hb hw inG10 tyX10 tyX10_ok nmX10 hown hK hG (by omega) eu_eq rfl gk_0 3 (by decide) (Nat.le_of_ble_eq_true rfl) (ty := .array .boolean) (by decide +kernel) rfl rfl lk22 (Or.inr ⟨rfl, hin, rfl⟩) dX10_init_41 (fun H locs hG => ?_)
    rw [eu_eu] at hG
    have hG : pG D cy bs 77 (eu E 0 [.ref (adB bs 1), .ref (adB bs 26), .ref (adB bs 51), .ref (adB bs 76), .null, .null, .null, .null, .null, .null, .null]) s.heap h_39 g_31 H locs := hG
    refine lv_aload_n hx hb dX10_init_44 rfl (lv_at hl 0 rfl) ?_
    refine p_new hx hb hw inG4 tyX4 tyX4_ok hown (hw (.classLink RX10 26 RX4) (wm1 123 rfl rfl)) (hw (.instantiable RX4 10) (wm1 124 rfl rfl)) (hw (.initialized RX4) (wm1 4 rfl rfl)) hK hG rfl gk_77 (fs := [.null, .null, .null, .null, .int 0, .int 0, .int 0, .int 0, .int 0, .int 0]) (fun j hj => by rcases (show j = 0 ∨ j = 1 ∨ j = 2 ∨ j = 3 ∨ j = 4 ∨ j = 5 ∨ j = 6 ∨ j = 7 ∨ j = 8 ∨ j = 9 by omega) with rfl | rfl | rfl | rfl | rfl | rfl | rfl | rfl | rfl | rfl <;> rfl) (Nat.le_of_ble_eq_true rfl) (Nat.le_of_ble_eq_true rfl) dX10_init_45 (fun H hG => ?_)
    have hG : pG D cy bs 78 (eu (eu E 0 [.ref (adB bs 1), .ref (adB bs 26), .ref (adB bs 51), .ref (adB bs 76), .null, .null, .null, .null, .null, .null, .null]) 77 [.null, .null, .null, .null, .int 0, .int 0, .int 0, .int 0, .int 0, .int 0]) s.heap h_39 g_31 H locs := hG
    refine lv_dup hx hb dX10_init_48 rfl ?_
    refine lv_aload_n hx hb dX10_init_49 rfl (lv_at hl 0 rfl) ?_
    refine p_getE hx hb hw inG10 hown hK hG (by omega) ((eu_ne (by omega)).trans eu_eq) rfl gk_0 0 (by decide) (v := .ref (adB bs 1)) rfl lk10 dX10_init_50 ?_
    obtain ⟨P_53, HC_53, HW⟩ := HW
    refine p_callv (n' := 81) (E' := (eu E 0 [.ref (adB bs 1), .ref (adB bs 26), .ref (adB bs 51), .ref (adB bs 76), .null, .null, .null, .null, .null, .null, .null])) (p_runI (As := [.ref (adB bs 1)]) (rest := [.ref (adB bs 77), .ref (adB bs 0)]) ⟨hx, hb, hml, hown, hts⟩ (n_X4_init l D cy bs (eu E 0 [.ref (adB bs 1), .ref (adB bs 26), .ref (adB bs 51), .ref (adB bs 76), .null, .null, .null, .null, .null, .null, .null]) h_39 g_31  (fun q hq => ((eu_ne (by omega)).trans (hE _ (by omega))))  P_53 HC_53) (cwI 1 hts (gd_w (wm1 127 rfl rfl)) rfl rfl rfl (hw (.initialized RX4) (wm1 4 rfl rfl)) (hw (.methodLink RX10 28 yX4_init) (wm1 125 rfl rfl)) (hw (.instanceMethod yX4_init) (wm1 126 rfl rfl)) rfl (by decide +kernel) ⟨Nat.le_of_ble_eq_true rfl, Nat.le_of_ble_eq_true rfl⟩) hK hNw hAO hG rfl rfl hl.1 rfl (lv_room (Nat.le_of_ble_eq_true rfl)) dX10_init_53 ⟨Nat.le_of_ble_eq_true rfl, Nat.le_of_ble_eq_true rfl⟩) hG (fun h_53 g_53 H locs hq hG => ?_)
    replace HW := HW h_53 g_53 hq
    have hG : pG D cy bs 81 (eu E 0 [.ref (adB bs 1), .ref (adB bs 26), .ref (adB bs 51), .ref (adB bs 76), .null, .null, .null, .null, .null, .null, .null]) s.heap h_53 g_53 H locs := hG
    refine p_putE hx hb hw inG10 tyX10 tyX10_ok nmX10 hown hK hG (by omega) eu_eq rfl gk_0 4 (by decide) (Nat.le_of_ble_eq_true rfl) (ty := .object "OldWorks$Law") (by decide +kernel) rfl rfl lk31 (Or.inr ⟨rfl, hin, rfl⟩) dX10_init_56 (fun H locs hG => ?_)
    rw [eu_eu] at hG
    have hG : pG D cy bs 81 (eu E 0 [.ref (adB bs 1), .ref (adB bs 26), .ref (adB bs 51), .ref (adB bs 76), .ref (adB bs 77), .null, .null, .null, .null, .null, .null]) s.heap h_53 g_53 H locs := hG
    refine lv_aload_n hx hb dX10_init_59 rfl (lv_at hl 0 rfl) ?_
    refine p_new hx hb hw inG7 tyX7 tyX7_ok hown (hw (.classLink RX10 35 RX7) (wm1 162 rfl rfl)) (hw (.instantiable RX7 12) (wm1 163 rfl rfl)) (hw (.initialized RX7) (wm1 5 rfl rfl)) hK hG rfl gk_81 (fs := [.null, .null, .null, .null, .null, .int 0, .int 0, .int 0, .int 0, .int 0, .int 0, .int 0]) (fun j hj => by rcases (show j = 0 ∨ j = 1 ∨ j = 2 ∨ j = 3 ∨ j = 4 ∨ j = 5 ∨ j = 6 ∨ j = 7 ∨ j = 8 ∨ j = 9 ∨ j = 10 ∨ j = 11 by omega) with rfl | rfl | rfl | rfl | rfl | rfl | rfl | rfl | rfl | rfl | rfl | rfl <;> rfl) (Nat.le_of_ble_eq_true rfl) (Nat.le_of_ble_eq_true rfl) dX10_init_60 (fun H hG => ?_)
    have hG : pG D cy bs 82 (eu (eu E 0 [.ref (adB bs 1), .ref (adB bs 26), .ref (adB bs 51), .ref (adB bs 76), .ref (adB bs 77), .null, .null, .null, .null, .null, .null]) 81 [.null, .null, .null, .null, .null, .int 0, .int 0, .int 0, .int 0, .int 0, .int 0, .int 0]) s.heap h_53 g_53 H locs := hG
    refine lv_dup hx hb dX10_init_63 rfl ?_
    refine lv_aload_n hx hb dX10_init_64 rfl (lv_at hl 0 rfl) ?_
    refine p_getE hx hb hw inG10 hown hK hG (by omega) ((eu_ne (by omega)).trans eu_eq) rfl gk_0 0 (by decide) (v := .ref (adB bs 1)) rfl lk10 dX10_init_65 ?_
    refine lv_aload_n hx hb dX10_init_68 rfl (lv_at hl 0 rfl) ?_
    refine p_getE hx hb hw inG10 hown hK hG (by omega) ((eu_ne (by omega)).trans eu_eq) rfl gk_0 4 (by decide) (v := .ref (adB bs 77)) rfl lk31 dX10_init_69 ?_
    obtain ⟨P_72, HC_72, HW⟩ := HW
    refine p_callv (n' := 85) (E' := (eu E 0 [.ref (adB bs 1), .ref (adB bs 26), .ref (adB bs 51), .ref (adB bs 76), .ref (adB bs 77), .null, .null, .null, .null, .null, .null])) (p_runI (As := [.ref (adB bs 1), .ref (adB bs 77)]) (rest := [.ref (adB bs 81), .ref (adB bs 0)]) ⟨hx, hb, hml, hown, hts⟩ (n_X7_init l D cy bs (eu E 0 [.ref (adB bs 1), .ref (adB bs 26), .ref (adB bs 51), .ref (adB bs 76), .ref (adB bs 77), .null, .null, .null, .null, .null, .null]) h_53 g_53  (fun q hq => ((eu_ne (by omega)).trans (hE _ (by omega))))  P_72 HC_72) (cwI 2 hts (gd_w (wm1 166 rfl rfl)) rfl rfl rfl (hw (.initialized RX7) (wm1 5 rfl rfl)) (hw (.methodLink RX10 37 yX7_init) (wm1 164 rfl rfl)) (hw (.instanceMethod yX7_init) (wm1 165 rfl rfl)) rfl (by decide +kernel) ⟨Nat.le_of_ble_eq_true rfl, Nat.le_of_ble_eq_true rfl⟩) hK hNw hAO hG rfl rfl hl.1 rfl (lv_room (Nat.le_of_ble_eq_true rfl)) dX10_init_72 ⟨Nat.le_of_ble_eq_true rfl, Nat.le_of_ble_eq_true rfl⟩) hG (fun h_72 g_72 H locs hq hG => ?_)
    replace HW := HW h_72 g_72 hq
    have hG : pG D cy bs 85 (eu E 0 [.ref (adB bs 1), .ref (adB bs 26), .ref (adB bs 51), .ref (adB bs 76), .ref (adB bs 77), .null, .null, .null, .null, .null, .null]) s.heap h_72 g_72 H locs := hG
    refine p_putE hx hb hw inG10 tyX10 tyX10_ok nmX10 hown hK hG (by omega) eu_eq rfl gk_0 5 (by decide) (Nat.le_of_ble_eq_true rfl) (ty := .object "OldWorks$Sizes") (by decide +kernel) rfl rfl lk40 (Or.inr ⟨rfl, hin, rfl⟩) dX10_init_75 (fun H locs hG => ?_)
    rw [eu_eu] at hG
    have hG : pG D cy bs 85 (eu E 0 [.ref (adB bs 1), .ref (adB bs 26), .ref (adB bs 51), .ref (adB bs 76), .ref (adB bs 77), .ref (adB bs 81), .null, .null, .null, .null, .null]) s.heap h_72 g_72 H locs := hG
    refine lv_aload_n hx hb dX10_init_78 rfl (lv_at hl 0 rfl) ?_
    refine p_new hx hb hw inG2 tyX2 tyX2_ok hown (hw (.classLink RX10 44 RX2) (wm1 208 rfl rfl)) (hw (.instantiable RX2 10) (wm1 209 rfl rfl)) (hw (.initialized RX2) (wm1 6 rfl rfl)) hK hG rfl gk_85 (fs := [.null, .null, .null, .null, .null, .null, .int 0, .int 0, .int 0, .int 0]) (fun j hj => by rcases (show j = 0 ∨ j = 1 ∨ j = 2 ∨ j = 3 ∨ j = 4 ∨ j = 5 ∨ j = 6 ∨ j = 7 ∨ j = 8 ∨ j = 9 by omega) with rfl | rfl | rfl | rfl | rfl | rfl | rfl | rfl | rfl | rfl <;> rfl) (Nat.le_of_ble_eq_true rfl) (Nat.le_of_ble_eq_true rfl) dX10_init_79 (fun H hG => ?_)
    have hG : pG D cy bs 86 (eu (eu E 0 [.ref (adB bs 1), .ref (adB bs 26), .ref (adB bs 51), .ref (adB bs 76), .ref (adB bs 77), .ref (adB bs 81), .null, .null, .null, .null, .null]) 85 [.null, .null, .null, .null, .null, .null, .int 0, .int 0, .int 0, .int 0]) s.heap h_72 g_72 H locs := hG
    refine lv_dup hx hb dX10_init_82 rfl ?_
    refine lv_aload_n hx hb dX10_init_83 rfl (lv_at hl 0 rfl) ?_
    refine p_getE hx hb hw inG10 hown hK hG (by omega) ((eu_ne (by omega)).trans eu_eq) rfl gk_0 0 (by decide) (v := .ref (adB bs 1)) rfl lk10 dX10_init_84 ?_
    refine lv_aload_n hx hb dX10_init_87 rfl (lv_at hl 0 rfl) ?_
    refine p_getE hx hb hw inG10 hown hK hG (by omega) ((eu_ne (by omega)).trans eu_eq) rfl gk_0 4 (by decide) (v := .ref (adB bs 77)) rfl lk31 dX10_init_88 ?_
    refine lv_aload_n hx hb dX10_init_91 rfl (lv_at hl 0 rfl) ?_
    refine p_getE hx hb hw inG10 hown hK hG (by omega) ((eu_ne (by omega)).trans eu_eq) rfl gk_0 5 (by decide) (v := .ref (adB bs 81)) rfl lk40 dX10_init_92 ?_
    obtain ⟨P_95, HC_95, HW⟩ := HW
    refine p_callv (n' := 89) (E' := (eu E 0 [.ref (adB bs 1), .ref (adB bs 26), .ref (adB bs 51), .ref (adB bs 76), .ref (adB bs 77), .ref (adB bs 81), .null, .null, .null, .null, .null])) (p_runI (As := [.ref (adB bs 1), .ref (adB bs 77), .ref (adB bs 81)]) (rest := [.ref (adB bs 85), .ref (adB bs 0)]) ⟨hx, hb, hml, hown, hts⟩ (n_X2_init l D cy bs (eu E 0 [.ref (adB bs 1), .ref (adB bs 26), .ref (adB bs 51), .ref (adB bs 76), .ref (adB bs 77), .ref (adB bs 81), .null, .null, .null, .null, .null]) h_72 g_72  (fun q hq => ((eu_ne (by omega)).trans (hE _ (by omega))))  P_95 HC_95) (cwI 3 hts (gd_w (wm1 212 rfl rfl)) rfl rfl rfl (hw (.initialized RX2) (wm1 6 rfl rfl)) (hw (.methodLink RX10 46 yX2_init) (wm1 210 rfl rfl)) (hw (.instanceMethod yX2_init) (wm1 211 rfl rfl)) rfl (by decide +kernel) ⟨Nat.le_of_ble_eq_true rfl, Nat.le_of_ble_eq_true rfl⟩) hK hNw hAO hG rfl rfl hl.1 rfl (lv_room (Nat.le_of_ble_eq_true rfl)) dX10_init_95 ⟨Nat.le_of_ble_eq_true rfl, Nat.le_of_ble_eq_true rfl⟩) hG (fun h_95 g_95 H locs hq hG => ?_)
    replace HW := HW h_95 g_95 hq
    have hG : pG D cy bs 89 (eu E 0 [.ref (adB bs 1), .ref (adB bs 26), .ref (adB bs 51), .ref (adB bs 76), .ref (adB bs 77), .ref (adB bs 81), .null, .null, .null, .null, .null]) s.heap h_95 g_95 H locs := hG
    refine p_putE hx hb hw inG10 tyX10 tyX10_ok nmX10 hown hK hG (by omega) eu_eq rfl gk_0 6 (by decide) (Nat.le_of_ble_eq_true rfl) (ty := .object "OldWorks$Fits") (by decide +kernel) rfl rfl lk49 (Or.inr ⟨rfl, hin, rfl⟩) dX10_init_98 (fun H locs hG => ?_)
    rw [eu_eu] at hG
    have hG : pG D cy bs 89 (eu E 0 [.ref (adB bs 1), .ref (adB bs 26), .ref (adB bs 51), .ref (adB bs 76), .ref (adB bs 77), .ref (adB bs 81), .ref (adB bs 85), .null, .null, .null, .null]) s.heap h_95 g_95 H locs := hG
    refine lv_aload_n hx hb dX10_init_101 rfl (lv_at hl 0 rfl) ?_
    refine p_new hx hb hw inG9 tyX9 tyX9_ok hown (hw (.classLink RX10 53 RX9) (wm2 8 rfl rfl)) (hw (.instantiable RX9 7) (wm2 9 rfl rfl)) (hw (.initialized RX9) (wm1 7 rfl rfl)) hK hG rfl gk_89 (fs := [.null, .null, .null, .null, .int 0, .int 0, .int 0]) (fun j hj => by rcases (show j = 0 ∨ j = 1 ∨ j = 2 ∨ j = 3 ∨ j = 4 ∨ j = 5 ∨ j = 6 by omega) with rfl | rfl | rfl | rfl | rfl | rfl | rfl <;> rfl) (Nat.le_of_ble_eq_true rfl) (Nat.le_of_ble_eq_true rfl) dX10_init_102 (fun H hG => ?_)
    have hG : pG D cy bs 90 (eu (eu E 0 [.ref (adB bs 1), .ref (adB bs 26), .ref (adB bs 51), .ref (adB bs 76), .ref (adB bs 77), .ref (adB bs 81), .ref (adB bs 85), .null, .null, .null, .null]) 89 [.null, .null, .null, .null, .int 0, .int 0, .int 0]) s.heap h_95 g_95 H locs := hG
    refine lv_dup hx hb dX10_init_105 rfl ?_
    refine lv_aload_n hx hb dX10_init_106 rfl (lv_at hl 0 rfl) ?_
    refine p_getE hx hb hw inG10 hown hK hG (by omega) ((eu_ne (by omega)).trans eu_eq) rfl gk_0 0 (by decide) (v := .ref (adB bs 1)) rfl lk10 dX10_init_107 ?_
    obtain ⟨P_110, HC_110, HW⟩ := HW
    refine p_callv (n' := 97) (E' := (eu E 0 [.ref (adB bs 1), .ref (adB bs 26), .ref (adB bs 51), .ref (adB bs 76), .ref (adB bs 77), .ref (adB bs 81), .ref (adB bs 85), .null, .null, .null, .null])) (p_runI (As := [.ref (adB bs 1)]) (rest := [.ref (adB bs 89), .ref (adB bs 0)]) ⟨hx, hb, hml, hown, hts⟩ (n_X9_init l D cy bs (eu E 0 [.ref (adB bs 1), .ref (adB bs 26), .ref (adB bs 51), .ref (adB bs 76), .ref (adB bs 77), .ref (adB bs 81), .ref (adB bs 85), .null, .null, .null, .null]) h_95 g_95  (fun q hq => ((eu_ne (by omega)).trans (hE _ (by omega))))  P_110 HC_110) (cwI 1 hts (gd_w (wm2 12 rfl rfl)) rfl rfl rfl (hw (.initialized RX9) (wm1 7 rfl rfl)) (hw (.methodLink RX10 55 yX9_init) (wm2 10 rfl rfl)) (hw (.instanceMethod yX9_init) (wm2 11 rfl rfl)) rfl (by decide +kernel) ⟨Nat.le_of_ble_eq_true rfl, Nat.le_of_ble_eq_true rfl⟩) hK hNw hAO hG rfl rfl hl.1 rfl (lv_room (Nat.le_of_ble_eq_true rfl)) dX10_init_110 ⟨Nat.le_of_ble_eq_true rfl, Nat.le_of_ble_eq_true rfl⟩) hG (fun h_110 g_110 H locs hq hG => ?_)
    replace HW := HW h_110 g_110 hq
    have hG : pG D cy bs 97 (eu E 0 [.ref (adB bs 1), .ref (adB bs 26), .ref (adB bs 51), .ref (adB bs 76), .ref (adB bs 77), .ref (adB bs 81), .ref (adB bs 85), .null, .null, .null, .null]) s.heap h_110 g_110 H locs := hG
    refine p_putE hx hb hw inG10 tyX10 tyX10_ok nmX10 hown hK hG (by omega) eu_eq rfl gk_0 7 (by decide) (Nat.le_of_ble_eq_true rfl) (ty := .object "OldWorks$Ways") (by decide +kernel) rfl rfl lk56 (Or.inr ⟨rfl, hin, rfl⟩) dX10_init_113 (fun H locs hG => ?_)
    rw [eu_eu] at hG
    have hG : pG D cy bs 97 (eu E 0 [.ref (adB bs 1), .ref (adB bs 26), .ref (adB bs 51), .ref (adB bs 76), .ref (adB bs 77), .ref (adB bs 81), .ref (adB bs 85), .ref (adB bs 89), .null, .null, .null]) s.heap h_110 g_110 H locs := hG
    refine lv_aload_n hx hb dX10_init_116 rfl (lv_at hl 0 rfl) ?_
    refine p_new hx hb hw inG3 tyX3 tyX3_ok hown (hw (.classLink RX10 60 RX3) (wm2 43 rfl rfl)) (hw (.instantiable RX3 6) (wm2 44 rfl rfl)) (hw (.initialized RX3) (wm1 9 rfl rfl)) hK hG rfl gk_97 (fs := [.null, .null, .null, .null, .null, .int 0]) (fun j hj => by rcases (show j = 0 ∨ j = 1 ∨ j = 2 ∨ j = 3 ∨ j = 4 ∨ j = 5 by omega) with rfl | rfl | rfl | rfl | rfl | rfl <;> rfl) (Nat.le_of_ble_eq_true rfl) (Nat.le_of_ble_eq_true rfl) dX10_init_117 (fun H hG => ?_)
    have hG : pG D cy bs 98 (eu (eu E 0 [.ref (adB bs 1), .ref (adB bs 26), .ref (adB bs 51), .ref (adB bs 76), .ref (adB bs 77), .ref (adB bs 81), .ref (adB bs 85), .ref (adB bs 89), .null, .null, .null]) 97 [.null, .null, .null, .null, .null, .int 0]) s.heap h_110 g_110 H locs := hG
    refine lv_dup hx hb dX10_init_120 rfl ?_
    refine lv_aload_n hx hb dX10_init_121 rfl (lv_at hl 0 rfl) ?_
    refine p_getE hx hb hw inG10 hown hK hG (by omega) ((eu_ne (by omega)).trans eu_eq) rfl gk_0 0 (by decide) (v := .ref (adB bs 1)) rfl lk10 dX10_init_122 ?_
    obtain ⟨P_125, HC_125, HW⟩ := HW
    refine p_callv (n' := 109) (E' := (eu E 0 [.ref (adB bs 1), .ref (adB bs 26), .ref (adB bs 51), .ref (adB bs 76), .ref (adB bs 77), .ref (adB bs 81), .ref (adB bs 85), .ref (adB bs 89), .null, .null, .null])) (p_runI (As := [.ref (adB bs 1)]) (rest := [.ref (adB bs 97), .ref (adB bs 0)]) ⟨hx, hb, hml, hown, hts⟩ (n_X3_init l D cy bs (eu E 0 [.ref (adB bs 1), .ref (adB bs 26), .ref (adB bs 51), .ref (adB bs 76), .ref (adB bs 77), .ref (adB bs 81), .ref (adB bs 85), .ref (adB bs 89), .null, .null, .null]) h_110 g_110  (fun q hq => ((eu_ne (by omega)).trans (hE _ (by omega))))  P_125 HC_125) (cwI 1 hts (gd_w (wm2 47 rfl rfl)) rfl rfl rfl (hw (.initialized RX3) (wm1 9 rfl rfl)) (hw (.methodLink RX10 62 yX3_init) (wm2 45 rfl rfl)) (hw (.instanceMethod yX3_init) (wm2 46 rfl rfl)) rfl (by decide +kernel) ⟨Nat.le_of_ble_eq_true rfl, Nat.le_of_ble_eq_true rfl⟩) hK hNw hAO hG rfl rfl hl.1 rfl (lv_room (Nat.le_of_ble_eq_true rfl)) dX10_init_125 ⟨Nat.le_of_ble_eq_true rfl, Nat.le_of_ble_eq_true rfl⟩) hG (fun h_125 g_125 H locs hq hG => ?_)
    replace HW := HW h_125 g_125 hq
    have hG : pG D cy bs 109 (eu E 0 [.ref (adB bs 1), .ref (adB bs 26), .ref (adB bs 51), .ref (adB bs 76), .ref (adB bs 77), .ref (adB bs 81), .ref (adB bs 85), .ref (adB bs 89), .null, .null, .null]) s.heap h_125 g_125 H locs := hG
    refine p_putE hx hb hw inG10 tyX10 tyX10_ok nmX10 hown hK hG (by omega) eu_eq rfl gk_0 8 (by decide) (Nat.le_of_ble_eq_true rfl) (ty := .object "OldWorks$Givings") (by decide +kernel) rfl rfl lk63 (Or.inr ⟨rfl, hin, rfl⟩) dX10_init_128 (fun H locs hG => ?_)
    rw [eu_eu] at hG
    have hG : pG D cy bs 109 (eu E 0 [.ref (adB bs 1), .ref (adB bs 26), .ref (adB bs 51), .ref (adB bs 76), .ref (adB bs 77), .ref (adB bs 81), .ref (adB bs 85), .ref (adB bs 89), .ref (adB bs 97), .null, .null]) s.heap h_125 g_125 H locs := hG
    refine lv_aload_n hx hb dX10_init_131 rfl (lv_at hl 0 rfl) ?_
    refine p_new hx hb hw inG1 tyX1 tyX1_ok hown (hw (.classLink RX10 67 RX1) (wm2 69 rfl rfl)) (hw (.instantiable RX1 7) (wm2 70 rfl rfl)) (hw (.initialized RX1) (wm1 10 rfl rfl)) hK hG rfl gk_109 (fs := [.null, .null, .null, .null, .null, .int 0, .int 0]) (fun j hj => by rcases (show j = 0 ∨ j = 1 ∨ j = 2 ∨ j = 3 ∨ j = 4 ∨ j = 5 ∨ j = 6 by omega) with rfl | rfl | rfl | rfl | rfl | rfl | rfl <;> rfl) (Nat.le_of_ble_eq_true rfl) (Nat.le_of_ble_eq_true rfl) dX10_init_132 (fun H hG => ?_)
    have hG : pG D cy bs 110 (eu (eu E 0 [.ref (adB bs 1), .ref (adB bs 26), .ref (adB bs 51), .ref (adB bs 76), .ref (adB bs 77), .ref (adB bs 81), .ref (adB bs 85), .ref (adB bs 89), .ref (adB bs 97), .null, .null]) 109 [.null, .null, .null, .null, .null, .int 0, .int 0]) s.heap h_125 g_125 H locs := hG
    refine lv_dup hx hb dX10_init_135 rfl ?_
    refine lv_aload_n hx hb dX10_init_136 rfl (lv_at hl 0 rfl) ?_
    refine p_getE hx hb hw inG10 hown hK hG (by omega) ((eu_ne (by omega)).trans eu_eq) rfl gk_0 0 (by decide) (v := .ref (adB bs 1)) rfl lk10 dX10_init_137 ?_
    obtain ⟨P_140, HC_140, HW⟩ := HW
    refine p_callv (n' := 118) (E' := (eu E 0 [.ref (adB bs 1), .ref (adB bs 26), .ref (adB bs 51), .ref (adB bs 76), .ref (adB bs 77), .ref (adB bs 81), .ref (adB bs 85), .ref (adB bs 89), .ref (adB bs 97), .null, .null])) (p_runI (As := [.ref (adB bs 1)]) (rest := [.ref (adB bs 109), .ref (adB bs 0)]) ⟨hx, hb, hml, hown, hts⟩ (n_X1_init l D cy bs (eu E 0 [.ref (adB bs 1), .ref (adB bs 26), .ref (adB bs 51), .ref (adB bs 76), .ref (adB bs 77), .ref (adB bs 81), .ref (adB bs 85), .ref (adB bs 89), .ref (adB bs 97), .null, .null]) h_125 g_125  (fun q hq => ((eu_ne (by omega)).trans (hE _ (by omega))))  P_140 HC_140) (cwI 1 hts (gd_w (wm2 73 rfl rfl)) rfl rfl rfl (hw (.initialized RX1) (wm1 10 rfl rfl)) (hw (.methodLink RX10 69 yX1_init) (wm2 71 rfl rfl)) (hw (.instanceMethod yX1_init) (wm2 72 rfl rfl)) rfl (by decide +kernel) ⟨Nat.le_of_ble_eq_true rfl, Nat.le_of_ble_eq_true rfl⟩) hK hNw hAO hG rfl rfl hl.1 rfl (lv_room (Nat.le_of_ble_eq_true rfl)) dX10_init_140 ⟨Nat.le_of_ble_eq_true rfl, Nat.le_of_ble_eq_true rfl⟩) hG (fun h_140 g_140 H locs hq hG => ?_)
    replace HW := HW h_140 g_140 hq
    have hG : pG D cy bs 118 (eu E 0 [.ref (adB bs 1), .ref (adB bs 26), .ref (adB bs 51), .ref (adB bs 76), .ref (adB bs 77), .ref (adB bs 81), .ref (adB bs 85), .ref (adB bs 89), .ref (adB bs 97), .null, .null]) s.heap h_140 g_140 H locs := hG
    refine p_putE hx hb hw inG10 tyX10 tyX10_ok nmX10 hown hK hG (by omega) eu_eq rfl gk_0 9 (by decide) (Nat.le_of_ble_eq_true rfl) (ty := .object "OldWorks$Breaks") (by decide +kernel) rfl rfl lk70 (Or.inr ⟨rfl, hin, rfl⟩) dX10_init_143 (fun H locs hG => ?_)
    rw [eu_eu] at hG
    have hG : pG D cy bs 118 (eu E 0 [.ref (adB bs 1), .ref (adB bs 26), .ref (adB bs 51), .ref (adB bs 76), .ref (adB bs 77), .ref (adB bs 81), .ref (adB bs 85), .ref (adB bs 89), .ref (adB bs 97), .ref (adB bs 109), .null]) s.heap h_140 g_140 H locs := hG
    refine lv_aload_n hx hb dX10_init_146 rfl (lv_at hl 0 rfl) ?_
    refine p_new hx hb hw inG5 tyX5 tyX5_ok hown (hw (.classLink RX10 74 RX5) (wm2 114 rfl rfl)) (hw (.instantiable RX5 11) (wm2 115 rfl rfl)) (hw (.initialized RX5) (wm1 12 rfl rfl)) hK hG rfl gk_118 (fs := [.null, .null, .null, .null, .null, .null, .null, .null, .int 0, .int 0, .int 0]) (fun j hj => by rcases (show j = 0 ∨ j = 1 ∨ j = 2 ∨ j = 3 ∨ j = 4 ∨ j = 5 ∨ j = 6 ∨ j = 7 ∨ j = 8 ∨ j = 9 ∨ j = 10 by omega) with rfl | rfl | rfl | rfl | rfl | rfl | rfl | rfl | rfl | rfl | rfl <;> rfl) (Nat.le_of_ble_eq_true rfl) (Nat.le_of_ble_eq_true rfl) dX10_init_147 (fun H hG => ?_)
    have hG : pG D cy bs 119 (eu (eu E 0 [.ref (adB bs 1), .ref (adB bs 26), .ref (adB bs 51), .ref (adB bs 76), .ref (adB bs 77), .ref (adB bs 81), .ref (adB bs 85), .ref (adB bs 89), .ref (adB bs 97), .ref (adB bs 109), .null]) 118 [.null, .null, .null, .null, .null, .null, .null, .null, .int 0, .int 0, .int 0]) s.heap h_140 g_140 H locs := hG
    refine lv_dup hx hb dX10_init_150 rfl ?_
    refine lv_aload_n hx hb dX10_init_151 rfl (lv_at hl 0 rfl) ?_
    refine p_getE hx hb hw inG10 hown hK hG (by omega) ((eu_ne (by omega)).trans eu_eq) rfl gk_0 0 (by decide) (v := .ref (adB bs 1)) rfl lk10 dX10_init_152 ?_
    obtain ⟨P_155, HC_155, HW⟩ := HW
    refine p_callv (n' := 135) (E' := (eu E 0 [.ref (adB bs 1), .ref (adB bs 26), .ref (adB bs 51), .ref (adB bs 76), .ref (adB bs 77), .ref (adB bs 81), .ref (adB bs 85), .ref (adB bs 89), .ref (adB bs 97), .ref (adB bs 109), .null])) (p_runI (As := [.ref (adB bs 1)]) (rest := [.ref (adB bs 118), .ref (adB bs 0)]) ⟨hx, hb, hml, hown, hts⟩ (n_X5_init l D cy bs (eu E 0 [.ref (adB bs 1), .ref (adB bs 26), .ref (adB bs 51), .ref (adB bs 76), .ref (adB bs 77), .ref (adB bs 81), .ref (adB bs 85), .ref (adB bs 89), .ref (adB bs 97), .ref (adB bs 109), .null]) h_140 g_140  (fun q hq => ((eu_ne (by omega)).trans (hE _ (by omega))))  P_155 HC_155) (cwI 1 hts (gd_w (wm2 118 rfl rfl)) rfl rfl rfl (hw (.initialized RX5) (wm1 12 rfl rfl)) (hw (.methodLink RX10 76 yX5_init) (wm2 116 rfl rfl)) (hw (.instanceMethod yX5_init) (wm2 117 rfl rfl)) rfl (by decide +kernel) ⟨Nat.le_of_ble_eq_true rfl, Nat.le_of_ble_eq_true rfl⟩) hK hNw hAO hG rfl rfl hl.1 rfl (lv_room (Nat.le_of_ble_eq_true rfl)) dX10_init_155 ⟨Nat.le_of_ble_eq_true rfl, Nat.le_of_ble_eq_true rfl⟩) hG (fun h_155 g_155 H locs hq hG => ?_)
    replace HW := HW h_155 g_155 hq
    have hG : pG D cy bs 135 (eu E 0 [.ref (adB bs 1), .ref (adB bs 26), .ref (adB bs 51), .ref (adB bs 76), .ref (adB bs 77), .ref (adB bs 81), .ref (adB bs 85), .ref (adB bs 89), .ref (adB bs 97), .ref (adB bs 109), .null]) s.heap h_155 g_155 H locs := hG
    refine p_putE hx hb hw inG10 tyX10 tyX10_ok nmX10 hown hK hG (by omega) eu_eq rfl gk_0 10 (by decide) (Nat.le_of_ble_eq_true rfl) (ty := .object "OldWorks$Plans") (by decide +kernel) rfl rfl lk77 (Or.inr ⟨rfl, hin, rfl⟩) dX10_init_158 (fun H locs hG => ?_)
    rw [eu_eu] at hG
    have hG : pG D cy bs 135 (eu E 0 [.ref (adB bs 1), .ref (adB bs 26), .ref (adB bs 51), .ref (adB bs 76), .ref (adB bs 77), .ref (adB bs 81), .ref (adB bs 85), .ref (adB bs 89), .ref (adB bs 97), .ref (adB bs 109), .ref (adB bs 118)]) s.heap h_155 g_155 H locs := hG
    have hG := pG_done (f := (fun k => ([0, 0, 0, 0, 0, 0, 0, 0, 0, 0, 0] : List Int32).getD k 0)) hG (hE _ (Nat.le_refl _)) (by rw [gk_0]; decide) rfl
    obtain ⟨h_161, eh_161⟩ : ∃ y : HI, y = hua h_155 0 (fun k => ([0, 0, 0, 0, 0, 0, 0, 0, 0, 0, 0] : List Int32).getD k 0) := ⟨_, rfl⟩
    rw [← eh_161] at hG
    replace HW := HW h_161 eh_161
    refine W.widen (k := 134) (n := 22514) (by first | exact Nat.le_refl _ | decide | omega) (by first | exact Nat.le_refl _ | decide | omega) ?_
    exact W.vret hx hb hr (fun t ht hW => ⟨⟨(h_161, g_155), rfl, HW, p_B ht hG⟩, hG.2.1.F ht⟩) hG.2.1.2.2 dX10_init_161
  exact E0 _ _ _ hG hl

def b_X11_init_112 (Q : HI → HL → Prop) (K112 : Int32 → HI → HL → Prop) (x1 : Int32) (h : HI) (g : HL) : Prop :=
  (((4 : Int32) ≤ x1 → (vp_in (80 : Int32) 400 ∧ ∀ h_174 : HI, h_174 = hu h 146 (80 : Int32).toNatClampNeg (1 : Int32) → (vp_in (1 : Int32) 5 ∧ ∀ h_181 : HI, h_181 = hu h_174 147 (1 : Int32).toNatClampNeg (1 : Int32) → (∀ h_182 : HI, h_182 = hua h_181 135 (fun k => ([0, 0, 0, 0, 0, 0, 0, 0, 0, 0, 0, 0, 0, 0, 0, 0, 0, 0, 0, 0, 0, 0, 0, 0, 0, 0] : List Int32).getD k 0) → Q h_182 g)))) ∧ (¬ (4 : Int32) ≤ x1 → (vp_in ((140 : Int32) + ((3 : Int32) * x1)) 887 ∧ ∀ h_129 : HI, h_129 = hu h 136 ((140 : Int32) + ((3 : Int32) * x1)).toNatClampNeg (1 : Int32) → (vp_in (((140 : Int32) + ((3 : Int32) * x1)) + (1 : Int32)) 887 ∧ ∀ h_144 : HI, h_144 = hu h_129 136 (((140 : Int32) + ((3 : Int32) * x1)) + (1 : Int32)).toNatClampNeg (1 : Int32) → (vp_in (((140 : Int32) + ((3 : Int32) * x1)) + (2 : Int32)) 887 ∧ ∀ h_160 : HI, h_160 = hu h_144 136 (((140 : Int32) + ((3 : Int32) * x1)) + (2 : Int32)).toNatClampNeg (100000 : Int32) → (∀ x1_161 : Int32, x1_161 = (x1 + 1) → K112 x1_161 h_160 g))))))
def F_X11_init_112 (Q : HI → HL → Prop) (K : Int32 × HI × HL → Prop) (q : Int32 × HI × HL) : Prop := b_X11_init_112 Q (fun x1 h g => K (x1, h, g)) q.1 q.2.1 q.2.2
def w_X11_init  (h : HI) (g : HL) (Q : HI → HL → Prop) : Prop :=
  (∀ h_8 : HI, h_8 = hua h 136 (fun _ => 0) → (∀ h_17 : HI, h_17 = hua h_8 137 (fun _ => 0) → (∀ h_24 : HI, h_24 = hua h_17 138 (fun _ => 0) → (∀ h_32 : HI, h_32 = hua h_24 139 (fun _ => 0) → (∀ h_40 : HI, h_40 = hua h_32 140 (fun _ => 0) → (∀ h_48 : HI, h_48 = hua h_40 141 (fun _ => 0) → (∀ g_56 : HL, g_56 = (fun q => if q = 142 then (fun _ => 0) else g q) → (∀ h_65 : HI, h_65 = hua h_48 143 (fun _ => 0) → (∀ h_73 : HI, h_73 = hua h_65 144 (fun _ => 0) → (∀ h_81 : HI, h_81 = hua h_73 145 (fun _ => 0) → (∀ h_90 : HI, h_90 = hua h_81 146 (fun _ => 0) → (∀ h_97 : HI, h_97 = hua h_90 147 (fun _ => 0) → (∀ h_105 : HI, h_105 = hua h_97 148 (fun _ => 0) → lpE (F_X11_init_112 Q) ((0 : Int32), h_105, g_56))))))))))))))
set_option maxHeartbeats 40000000 in
set_option maxRecDepth 100000 in
theorem n_X11_init (l : Launch) (D : va_G) (cy : Nat → ClassId) (bs : Nat) (E : Nat → Option (List Value)) (h : HI) (g : HL) (hE : ∀ q, 135 ≤ q → E q = none)  (Q : HI → HL → Prop) (HW : w_X11_init h g Q) : Met l yX11_init (wa yX11_init cX11_init 2 none) ({ frames := 1, cells := 13, slots := 58230, locals := 20 } : Room) (va_Pc [.ref (adB bs 135)] (pI D cy bs 136 (eu E 135 [.null, .null, .null, .int 0, .null, .null, .int 0, .null, .null, .int 0, .int 0, .int 0, .int 0, .int 0, .int 0, .int 0, .int 0, .int 0, .int 0, .int 0, .null, .null, .null, .null, .null, .null]) h g)) (va_Qv (fun (u : HI × HL) => Q u.1 u.2) (pB D cy bs 149 E) (pA bs)) 13 58230 (pA bs) := by
  refine Met.ofW (cc := cX11_init) (maxL := 2) (ret := none) (by decide) rfl ?_
  intro p e s m args below meth c s₁ B hml hv
  obtain ⟨hav, hP, hsz, hK, hNw, hAO⟩ := hv
  have hx := B.exec
  have hb := B.bytes
  have hr := B.returns
  have hts := atoms_spec (ws := (wa yX11_init cX11_init 2 none)) B.pre
  have hw := wa_hw hts
  have hown : s.vm.findClass RX11 = some m.cls := findClass_of_methodNamed B.named
  have hlocks := B.notSynchronized
  have hin : meth.name = "<init>" := (name_of_methodNamed B.named B.method).1
  have hG : pG D cy bs 136 (eu E 135 [.null, .null, .null, .int 0, .null, .null, .int 0, .null, .null, .int 0, .int 0, .int 0, .int 0, .int 0, .int 0, .int 0, .int 0, .int 0, .int 0, .int 0, .null, .null, .null, .null, .null, .null]) s.heap h g s.heap [] := ⟨hP, va_S.rf, hsz⟩
  clear hP
  have ob1 := hw (.methodLink RX11 1 objectInit) (wm5 24 rfl rfl)
  have ob2 := hw (.instanceMethod objectInit) (wm1 23 rfl rfl)
  have ob3 := hw (.code objectInit ⟨#[0xb1]⟩ 1 none) (wm1 24 rfl rfl)
  have ac_int := hw (.arrayClass .int) (wm1 50 rfl rfl)
  have lk7 := hw (.fieldLink RX11 7 "OldWorksModel" "st" "[I") (wm5 27 rfl rfl)
  have lk13 := hw (.fieldLink RX11 13 "OldWorksModel" "images" "[I") (wm5 28 rfl rfl)
  have ac_boolean := hw (.arrayClass .boolean) (wm1 160 rfl rfl)
  have lk16 := hw (.fieldLink RX11 16 "OldWorksModel" "isKept" "[Z") (wm5 29 rfl rfl)
  have lk20 := hw (.fieldLink RX11 20 "OldWorksModel" "step" "[I") (wm5 31 rfl rfl)
  have lk23 := hw (.fieldLink RX11 23 "OldWorksModel" "with" "[I") (wm5 32 rfl rfl)
  have lk26 := hw (.fieldLink RX11 26 "OldWorksModel" "waits" "[I") (wm5 34 rfl rfl)
  have ac_long := hw (.arrayClass .long) (wm1 161 rfl rfl)
  have lk29 := hw (.fieldLink RX11 29 "OldWorksModel" "value" "[J") (wm5 35 rfl rfl)
  have lk33 := hw (.fieldLink RX11 33 "OldWorksModel" "price" "[I") (wm5 47 rfl rfl)
  have lk36 := hw (.fieldLink RX11 36 "OldWorksModel" "gets" "[I") (wm5 48 rfl rfl)
  have lk39 := hw (.fieldLink RX11 39 "OldWorksModel" "bestGets" "[I") (wm5 49 rfl rfl)
  have lk42 := hw (.fieldLink RX11 42 "OldWorksModel" "limbs" "[I") (wm5 50 rfl rfl)
  have lk45 := hw (.fieldLink RX11 45 "OldWorksModel" "wide" "[I") (wm5 51 rfl rfl)
  have cn48 := hw (.constant RX11 48 (36864)) (wm5 25 rfl rfl)
  have lk49 := hw (.fieldLink RX11 49 "OldWorksModel" "most" "[I") (wm5 52 rfl rfl)
  have cn52 := hw (.constant RX11 52 (100000)) (wm5 26 rfl rfl)
  rw [show (headSpec (wa yX11_init cX11_init 2 none) ({ frames := 1, cells := 13, slots := 58230, locals := 20 } : Room)).room = ({ frames := 1, cells := 13, slots := 58230, locals := 20 } : Room) from rfl]
  have hl := lv_entry ([.ref (adB bs 135)]) (n := 2) (Nat.le_of_ble_eq_true rfl)
  rw [show entryFrame m args 2 = entryFrame m ([.ref (adB bs 135)] : List Value).toArray 2 from by rw [hav], lg_entry_eq]
  generalize (lg_sl ([.ref (adB bs 135)]) ++ List.replicate (2 - (lg_sl ([.ref (adB bs 135)])).length) Slot.unset).toArray = ls at hl ⊢
  have hl : lv_has ls 2 [(0, .ref (adB bs 135))] := hl
  have L112 : ∀ (n : Nat) (x1 : Int32) (h : HI) (g : HL) (H : Heap) (locs : List Loc) (ls : Array Slot), lpN (F_X11_init_112 Q) n (x1, h, g) → pG D cy bs 149 (eu E 135 [.ref (adB bs 136), .ref (adB bs 137), .ref (adB bs 138), .int 0, .ref (adB bs 139), .ref (adB bs 140), .int 0, .ref (adB bs 141), .ref (adB bs 142), .int 0, .int 0, .int 0, .int 0, .int 0, .int 0, .int 0, .int 0, .int 0, .int 0, .int 0, .ref (adB bs 143), .ref (adB bs 144), .ref (adB bs 145), .ref (adB bs 146), .ref (adB bs 147), .ref (adB bs 148)]) s.heap h g H locs → lv_has ls 2 [(0, .ref (adB bs 135)), (1, .int x1)] → W p l e ({ frames := 1, cells := 13, slots := 58230, locals := 20 } : Room) s m args below meth c H locs 13 (0 + 887 + 1774 + 2 + 70 + 70 + 70 + 70 + 18006 + 6 + 6 + 400 + 5 + 36864) (MQ below (va_Qv (fun (u : HI × HL) => Q u.1 u.2) (pB D cy bs 149 E) (pA bs)) args s 13 58230 (pA bs)) (F0 m 112 ls []) := by
    intro n
    induction n with
    | zero => intro x1 h g H locs ls HW; exact HW.elim
    | succ n ih =>
      intro x1 h g H locs ls HW hG hl
      have HW : b_X11_init_112 Q (fun x1 h g => lpN (F_X11_init_112 Q) n (x1, h, g)) x1 h g := HW
      generalize hKe : (fun (x1 : Int32) (h : HI) (g : HL) => lpN (F_X11_init_112 Q) n (x1, h, g)) = K112 at HW
      have hK112 : ∀ (x1 : Int32) (h : HI) (g : HL) (H : Heap) (locs : List Loc) (ls : Array Slot), K112 x1 h g → pG D cy bs 149 (eu E 135 [.ref (adB bs 136), .ref (adB bs 137), .ref (adB bs 138), .int 0, .ref (adB bs 139), .ref (adB bs 140), .int 0, .ref (adB bs 141), .ref (adB bs 142), .int 0, .int 0, .int 0, .int 0, .int 0, .int 0, .int 0, .int 0, .int 0, .int 0, .int 0, .ref (adB bs 143), .ref (adB bs 144), .ref (adB bs 145), .ref (adB bs 146), .ref (adB bs 147), .ref (adB bs 148)]) s.heap h g H locs → lv_has ls 2 [(0, .ref (adB bs 135)), (1, .int x1)] → W p l e ({ frames := 1, cells := 13, slots := 58230, locals := 20 } : Room) s m args below meth c H locs 13 (0 + 887 + 1774 + 2 + 70 + 70 + 70 + 70 + 18006 + 6 + 6 + 400 + 5 + 36864) (MQ below (va_Qv (fun (u : HI × HL) => Q u.1 u.2) (pB D cy bs 149 E) (pA bs)) args s 13 58230 (pA bs)) (F0 m 112 ls []) := by subst hKe; exact ih
      clear ih
      clear hKe
      unfold b_X11_init_112 at HW
      refine lv_iload_n hx hb dX11_init_112 rfl (lv_at hl 1 rfl) ?_
      refine lv_iconst (v := 4) hx hb dX11_init_113 (by decide) ?_
      refine lv_icmp_ge (tgt := 167) hx hb dX11_init_114 (by decide) (fun c_114 => ?_) (fun c_114 => ?_)
      · replace HW := HW.1 c_114
        refine lv_aload_n hx hb dX11_init_167 rfl (lv_at hl 0 rfl) ?_
        refine p_getE hx hb hw inG11 hown hK hG (by omega) eu_eq rfl gk_135 23 (by decide) (v := .ref (adB bs 146)) rfl lk42 dX11_init_168 ?_
        refine lv_bipush (v := 80) hx hb dX11_init_171 (by decide) ?_
        refine lv_iconst (v := 1) hx hb dX11_init_173 (by decide) ?_
        refine p_iast hx hb hK hG ⟨by omega, ((eu_ne (by omega)).trans (hE _ (by omega)))⟩ gk_146 gn_146 HW.1 dX11_init_174 (fun H locs hG => ?_)
        replace HW := HW.2
        obtain ⟨h_174, eh_174⟩ : ∃ y : HI, y = hu h 146 (80 : Int32).toNatClampNeg (1 : Int32) := ⟨_, rfl⟩
        rw [← eh_174] at hG
        replace HW := HW h_174 eh_174
        refine lv_aload_n hx hb dX11_init_175 rfl (lv_at hl 0 rfl) ?_
        refine p_getE hx hb hw inG11 hown hK hG (by omega) eu_eq rfl gk_135 24 (by decide) (v := .ref (adB bs 147)) rfl lk45 dX11_init_176 ?_
        refine lv_iconst (v := 1) hx hb dX11_init_179 (by decide) ?_
        refine lv_iconst (v := 1) hx hb dX11_init_180 (by decide) ?_
        refine p_iast hx hb hK hG ⟨by omega, ((eu_ne (by omega)).trans (hE _ (by omega)))⟩ gk_147 gn_147 HW.1 dX11_init_181 (fun H locs hG => ?_)
        replace HW := HW.2
        obtain ⟨h_181, eh_181⟩ : ∃ y : HI, y = hu h_174 147 (1 : Int32).toNatClampNeg (1 : Int32) := ⟨_, rfl⟩
        rw [← eh_181] at hG
        replace HW := HW h_181 eh_181
        have hG := pG_done (f := (fun k => ([0, 0, 0, 0, 0, 0, 0, 0, 0, 0, 0, 0, 0, 0, 0, 0, 0, 0, 0, 0, 0, 0, 0, 0, 0, 0] : List Int32).getD k 0)) hG (hE _ (Nat.le_refl _)) (by rw [gk_135]; decide) rfl
        obtain ⟨h_182, eh_182⟩ : ∃ y : HI, y = hua h_181 135 (fun k => ([0, 0, 0, 0, 0, 0, 0, 0, 0, 0, 0, 0, 0, 0, 0, 0, 0, 0, 0, 0, 0, 0, 0, 0, 0, 0] : List Int32).getD k 0) := ⟨_, rfl⟩
        rw [← eh_182] at hG
        replace HW := HW h_182 eh_182
        refine W.widen (k := 13) (n := 58230) (by first | exact Nat.le_refl _ | decide | omega) (by first | exact Nat.le_refl _ | decide | omega) ?_
        exact W.vret hx hb hr (fun t ht hW => ⟨⟨(h_182, g), rfl, HW, p_B ht hG⟩, hG.2.1.F ht⟩) hG.2.1.2.2 dX11_init_182
      · replace HW := HW.2 c_114
        refine lv_aload_n hx hb dX11_init_117 rfl (lv_at hl 0 rfl) ?_
        refine p_getE hx hb hw inG11 hown hK hG (by omega) eu_eq rfl gk_135 0 (by decide) (v := .ref (adB bs 136)) rfl lk7 dX11_init_118 ?_
        refine lv_sipush (v := 140) hx hb dX11_init_121 (by decide) ?_
        refine lv_iconst (v := 3) hx hb dX11_init_124 (by decide) ?_
        refine lv_iload_n hx hb dX11_init_125 rfl (lv_at hl 1 rfl) ?_
        refine lv_imul hx hb dX11_init_126 ?_
        refine lv_iadd hx hb dX11_init_127 ?_
        refine lv_iconst (v := 1) hx hb dX11_init_128 (by decide) ?_
        refine p_iast hx hb hK hG ⟨by omega, ((eu_ne (by omega)).trans (hE _ (by omega)))⟩ gk_136 gn_136 HW.1 dX11_init_129 (fun H locs hG => ?_)
        replace HW := HW.2
        obtain ⟨h_129, eh_129⟩ : ∃ y : HI, y = hu h 136 ((140 : Int32) + ((3 : Int32) * x1)).toNatClampNeg (1 : Int32) := ⟨_, rfl⟩
        rw [← eh_129] at hG
        replace HW := HW h_129 eh_129
        refine lv_aload_n hx hb dX11_init_130 rfl (lv_at hl 0 rfl) ?_
        refine p_getE hx hb hw inG11 hown hK hG (by omega) eu_eq rfl gk_135 0 (by decide) (v := .ref (adB bs 136)) rfl lk7 dX11_init_131 ?_
        refine lv_sipush (v := 140) hx hb dX11_init_134 (by decide) ?_
        refine lv_iconst (v := 3) hx hb dX11_init_137 (by decide) ?_
        refine lv_iload_n hx hb dX11_init_138 rfl (lv_at hl 1 rfl) ?_
        refine lv_imul hx hb dX11_init_139 ?_
        refine lv_iadd hx hb dX11_init_140 ?_
        refine lv_iconst (v := 1) hx hb dX11_init_141 (by decide) ?_
        refine lv_iadd hx hb dX11_init_142 ?_
        refine lv_iconst (v := 1) hx hb dX11_init_143 (by decide) ?_
        refine p_iast hx hb hK hG ⟨by omega, ((eu_ne (by omega)).trans (hE _ (by omega)))⟩ gk_136 gn_136 HW.1 dX11_init_144 (fun H locs hG => ?_)
        replace HW := HW.2
        obtain ⟨h_144, eh_144⟩ : ∃ y : HI, y = hu h_129 136 (((140 : Int32) + ((3 : Int32) * x1)) + (1 : Int32)).toNatClampNeg (1 : Int32) := ⟨_, rfl⟩
        rw [← eh_144] at hG
        replace HW := HW h_144 eh_144
        refine lv_aload_n hx hb dX11_init_145 rfl (lv_at hl 0 rfl) ?_
        refine p_getE hx hb hw inG11 hown hK hG (by omega) eu_eq rfl gk_135 0 (by decide) (v := .ref (adB bs 136)) rfl lk7 dX11_init_146 ?_
        refine lv_sipush (v := 140) hx hb dX11_init_149 (by decide) ?_
        refine lv_iconst (v := 3) hx hb dX11_init_152 (by decide) ?_
        refine lv_iload_n hx hb dX11_init_153 rfl (lv_at hl 1 rfl) ?_
        refine lv_imul hx hb dX11_init_154 ?_
        refine lv_iadd hx hb dX11_init_155 ?_
        refine lv_iconst (v := 2) hx hb dX11_init_156 (by decide) ?_
        refine lv_iadd hx hb dX11_init_157 ?_
        refine lv_ldc (v := 100000) hx hb hown cn52 dX11_init_158 ?_
        refine p_iast hx hb hK hG ⟨by omega, ((eu_ne (by omega)).trans (hE _ (by omega)))⟩ gk_136 gn_136 HW.1 dX11_init_160 (fun H locs hG => ?_)
        replace HW := HW.2
        obtain ⟨h_160, eh_160⟩ : ∃ y : HI, y = hu h_144 136 (((140 : Int32) + ((3 : Int32) * x1)) + (2 : Int32)).toNatClampNeg (100000 : Int32) := ⟨_, rfl⟩
        rw [← eh_160] at hG
        replace HW := HW h_160 eh_160
        obtain ⟨x1_161, ex1_161⟩ : ∃ y : Int32, y = (x1 + 1) := ⟨_, rfl⟩
        replace HW := HW x1_161 ex1_161
        refine lv_iinc (v := x1_161) (lv' := [(1, .int x1_161), (0, .ref (adB bs 135))]) hx hb dX11_init_161 hl (k := 1) rfl (by rw [ex1_161]; rfl) (by decide) rfl (fun ls hl => ?_)
        refine lv_goto (tgt := 112) hx hb dX11_init_164 (by decide) ?_
        exact hK112 x1_161 h_160 g _ _ _ HW hG (lv_sub hl [1, 0] rfl)
  have E0 : ∀ (H : Heap) (locs : List Loc) (ls : Array Slot), pG D cy bs 136 (eu E 135 [.null, .null, .null, .int 0, .null, .null, .int 0, .null, .null, .int 0, .int 0, .int 0, .int 0, .int 0, .int 0, .int 0, .int 0, .int 0, .int 0, .int 0, .null, .null, .null, .null, .null, .null]) s.heap h g H locs → lv_has ls 2 [(0, .ref (adB bs 135))] → W p l e ({ frames := 1, cells := 13, slots := 58230, locals := 20 } : Room) s m args below meth c H locs 0 0 (MQ below (va_Qv (fun (u : HI × HL) => Q u.1 u.2) (pB D cy bs 149 E) (pA bs)) args s 13 58230 (pA bs)) (F0 m 0 ls []) := by
    intro H locs ls hG hl
    unfold w_X11_init at HW
    refine lv_aload_n hx hb dX11_init_0 rfl (lv_at hl 0 rfl) ?_
    refine W.objInit hx hb hown ob1 ob2 ob3 rfl (hl.1.trans hml.symm) rfl dX11_init_1 (Nat.le_of_ble_eq_true rfl) (Nat.le_of_ble_eq_true rfl) ?_
    refine W.eq (g2 := F0 m 4 ls []) rfl ?_
    refine lv_aload_n hx hb dX11_init_4 rfl (lv_at hl 0 rfl) ?_
    refine lv_sipush (v := 887) hx hb dX11_init_5 (by decide) ?_
    refine p_newi hx hb ac_int hK hG gk_136 ((eu_ne (by omega)).trans (hE _ (by omega))) (by decide) (by decide) (gn_136) (by decide) (Nat.le_of_ble_eq_true rfl) (Nat.le_of_ble_eq_true rfl) dX11_init_8 (fun H hG => ?_)
    obtain ⟨h_8, eh_8⟩ : ∃ y : HI, y = hua h 136 (fun _ => 0) := ⟨_, rfl⟩
    rw [← eh_8] at hG
    replace HW := HW h_8 eh_8
    have hG : pG D cy bs 137 (eu E 135 [.null, .null, .null, .int 0, .null, .null, .int 0, .null, .null, .int 0, .int 0, .int 0, .int 0, .int 0, .int 0, .int 0, .int 0, .int 0, .int 0, .int 0, .null, .null, .null, .null, .null, .null]) s.heap h_8 g H locs := hG
    refine p_putE hx hb hw inG11 tyX11 tyX11_ok nmX11 hown hK hG (by omega) eu_eq rfl gk_135 0 (by decide) (Nat.le_of_ble_eq_true rfl) (ty := .array .int) (by decide +kernel) rfl rfl lk7 (Or.inr ⟨rfl, hin, rfl⟩) dX11_init_10 (fun H locs hG => ?_)
    rw [eu_eu] at hG
    have hG : pG D cy bs 137 (eu E 135 [.ref (adB bs 136), .null, .null, .int 0, .null, .null, .int 0, .null, .null, .int 0, .int 0, .int 0, .int 0, .int 0, .int 0, .int 0, .int 0, .int 0, .int 0, .int 0, .null, .null, .null, .null, .null, .null]) s.heap h_8 g H locs := hG
    refine lv_aload_n hx hb dX11_init_13 rfl (lv_at hl 0 rfl) ?_
    refine lv_sipush (v := 1774) hx hb dX11_init_14 (by decide) ?_
    refine p_newi hx hb ac_int hK hG gk_137 ((eu_ne (by omega)).trans (hE _ (by omega))) (by decide) (by decide) (gn_137) (by decide) (Nat.le_of_ble_eq_true rfl) (Nat.le_of_ble_eq_true rfl) dX11_init_17 (fun H hG => ?_)
    obtain ⟨h_17, eh_17⟩ : ∃ y : HI, y = hua h_8 137 (fun _ => 0) := ⟨_, rfl⟩
    rw [← eh_17] at hG
    replace HW := HW h_17 eh_17
    have hG : pG D cy bs 138 (eu E 135 [.ref (adB bs 136), .null, .null, .int 0, .null, .null, .int 0, .null, .null, .int 0, .int 0, .int 0, .int 0, .int 0, .int 0, .int 0, .int 0, .int 0, .int 0, .int 0, .null, .null, .null, .null, .null, .null]) s.heap h_17 g H locs := hG
    refine p_putE hx hb hw inG11 tyX11 tyX11_ok nmX11 hown hK hG (by omega) eu_eq rfl gk_135 1 (by decide) (Nat.le_of_ble_eq_true rfl) (ty := .array .int) (by decide +kernel) rfl rfl lk13 (Or.inr ⟨rfl, hin, rfl⟩) dX11_init_19 (fun H locs hG => ?_)
    rw [eu_eu] at hG
    have hG : pG D cy bs 138 (eu E 135 [.ref (adB bs 136), .ref (adB bs 137), .null, .int 0, .null, .null, .int 0, .null, .null, .int 0, .int 0, .int 0, .int 0, .int 0, .int 0, .int 0, .int 0, .int 0, .int 0, .int 0, .null, .null, .null, .null, .null, .null]) s.heap h_17 g H locs := hG
    refine lv_aload_n hx hb dX11_init_22 rfl (lv_at hl 0 rfl) ?_
    refine lv_iconst (v := 2) hx hb dX11_init_23 (by decide) ?_
    refine p_newz hx hb ac_boolean hK hG gk_138 ((eu_ne (by omega)).trans (hE _ (by omega))) (by decide) (by decide) (gn_138) (by decide) (Nat.le_of_ble_eq_true rfl) (Nat.le_of_ble_eq_true rfl) dX11_init_24 (fun H hG => ?_)
    obtain ⟨h_24, eh_24⟩ : ∃ y : HI, y = hua h_17 138 (fun _ => 0) := ⟨_, rfl⟩
    rw [← eh_24] at hG
    replace HW := HW h_24 eh_24
    have hG : pG D cy bs 139 (eu E 135 [.ref (adB bs 136), .ref (adB bs 137), .null, .int 0, .null, .null, .int 0, .null, .null, .int 0, .int 0, .int 0, .int 0, .int 0, .int 0, .int 0, .int 0, .int 0, .int 0, .int 0, .null, .null, .null, .null, .null, .null]) s.heap h_24 g H locs := hG
    refine p_putE hx hb hw inG11 tyX11 tyX11_ok nmX11 hown hK hG (by omega) eu_eq rfl gk_135 2 (by decide) (Nat.le_of_ble_eq_true rfl) (ty := .array .boolean) (by decide +kernel) rfl rfl lk16 (Or.inr ⟨rfl, hin, rfl⟩) dX11_init_26 (fun H locs hG => ?_)
    rw [eu_eu] at hG
    have hG : pG D cy bs 139 (eu E 135 [.ref (adB bs 136), .ref (adB bs 137), .ref (adB bs 138), .int 0, .null, .null, .int 0, .null, .null, .int 0, .int 0, .int 0, .int 0, .int 0, .int 0, .int 0, .int 0, .int 0, .int 0, .int 0, .null, .null, .null, .null, .null, .null]) s.heap h_24 g H locs := hG
    refine lv_aload_n hx hb dX11_init_29 rfl (lv_at hl 0 rfl) ?_
    refine lv_bipush (v := 70) hx hb dX11_init_30 (by decide) ?_
    refine p_newi hx hb ac_int hK hG gk_139 ((eu_ne (by omega)).trans (hE _ (by omega))) (by decide) (by decide) (gn_139) (by decide) (Nat.le_of_ble_eq_true rfl) (Nat.le_of_ble_eq_true rfl) dX11_init_32 (fun H hG => ?_)
    obtain ⟨h_32, eh_32⟩ : ∃ y : HI, y = hua h_24 139 (fun _ => 0) := ⟨_, rfl⟩
    rw [← eh_32] at hG
    replace HW := HW h_32 eh_32
    have hG : pG D cy bs 140 (eu E 135 [.ref (adB bs 136), .ref (adB bs 137), .ref (adB bs 138), .int 0, .null, .null, .int 0, .null, .null, .int 0, .int 0, .int 0, .int 0, .int 0, .int 0, .int 0, .int 0, .int 0, .int 0, .int 0, .null, .null, .null, .null, .null, .null]) s.heap h_32 g H locs := hG
    refine p_putE hx hb hw inG11 tyX11 tyX11_ok nmX11 hown hK hG (by omega) eu_eq rfl gk_135 4 (by decide) (Nat.le_of_ble_eq_true rfl) (ty := .array .int) (by decide +kernel) rfl rfl lk20 (Or.inr ⟨rfl, hin, rfl⟩) dX11_init_34 (fun H locs hG => ?_)
    rw [eu_eu] at hG
    have hG : pG D cy bs 140 (eu E 135 [.ref (adB bs 136), .ref (adB bs 137), .ref (adB bs 138), .int 0, .ref (adB bs 139), .null, .int 0, .null, .null, .int 0, .int 0, .int 0, .int 0, .int 0, .int 0, .int 0, .int 0, .int 0, .int 0, .int 0, .null, .null, .null, .null, .null, .null]) s.heap h_32 g H locs := hG
    refine lv_aload_n hx hb dX11_init_37 rfl (lv_at hl 0 rfl) ?_
    refine lv_bipush (v := 70) hx hb dX11_init_38 (by decide) ?_
    refine p_newi hx hb ac_int hK hG gk_140 ((eu_ne (by omega)).trans (hE _ (by omega))) (by decide) (by decide) (gn_140) (by decide) (Nat.le_of_ble_eq_true rfl) (Nat.le_of_ble_eq_true rfl) dX11_init_40 (fun H hG => ?_)
    obtain ⟨h_40, eh_40⟩ : ∃ y : HI, y = hua h_32 140 (fun _ => 0) := ⟨_, rfl⟩
    rw [← eh_40] at hG
    replace HW := HW h_40 eh_40
    have hG : pG D cy bs 141 (eu E 135 [.ref (adB bs 136), .ref (adB bs 137), .ref (adB bs 138), .int 0, .ref (adB bs 139), .null, .int 0, .null, .null, .int 0, .int 0, .int 0, .int 0, .int 0, .int 0, .int 0, .int 0, .int 0, .int 0, .int 0, .null, .null, .null, .null, .null, .null]) s.heap h_40 g H locs := hG
    refine p_putE hx hb hw inG11 tyX11 tyX11_ok nmX11 hown hK hG (by omega) eu_eq rfl gk_135 5 (by decide) (Nat.le_of_ble_eq_true rfl) (ty := .array .int) (by decide +kernel) rfl rfl lk23 (Or.inr ⟨rfl, hin, rfl⟩) dX11_init_42 (fun H locs hG => ?_)
    rw [eu_eu] at hG
    have hG : pG D cy bs 141 (eu E 135 [.ref (adB bs 136), .ref (adB bs 137), .ref (adB bs 138), .int 0, .ref (adB bs 139), .ref (adB bs 140), .int 0, .null, .null, .int 0, .int 0, .int 0, .int 0, .int 0, .int 0, .int 0, .int 0, .int 0, .int 0, .int 0, .null, .null, .null, .null, .null, .null]) s.heap h_40 g H locs := hG
    refine lv_aload_n hx hb dX11_init_45 rfl (lv_at hl 0 rfl) ?_
    refine lv_bipush (v := 70) hx hb dX11_init_46 (by decide) ?_
    refine p_newi hx hb ac_int hK hG gk_141 ((eu_ne (by omega)).trans (hE _ (by omega))) (by decide) (by decide) (gn_141) (by decide) (Nat.le_of_ble_eq_true rfl) (Nat.le_of_ble_eq_true rfl) dX11_init_48 (fun H hG => ?_)
    obtain ⟨h_48, eh_48⟩ : ∃ y : HI, y = hua h_40 141 (fun _ => 0) := ⟨_, rfl⟩
    rw [← eh_48] at hG
    replace HW := HW h_48 eh_48
    have hG : pG D cy bs 142 (eu E 135 [.ref (adB bs 136), .ref (adB bs 137), .ref (adB bs 138), .int 0, .ref (adB bs 139), .ref (adB bs 140), .int 0, .null, .null, .int 0, .int 0, .int 0, .int 0, .int 0, .int 0, .int 0, .int 0, .int 0, .int 0, .int 0, .null, .null, .null, .null, .null, .null]) s.heap h_48 g H locs := hG
    refine p_putE hx hb hw inG11 tyX11 tyX11_ok nmX11 hown hK hG (by omega) eu_eq rfl gk_135 7 (by decide) (Nat.le_of_ble_eq_true rfl) (ty := .array .int) (by decide +kernel) rfl rfl lk26 (Or.inr ⟨rfl, hin, rfl⟩) dX11_init_50 (fun H locs hG => ?_)
    rw [eu_eu] at hG
    have hG : pG D cy bs 142 (eu E 135 [.ref (adB bs 136), .ref (adB bs 137), .ref (adB bs 138), .int 0, .ref (adB bs 139), .ref (adB bs 140), .int 0, .ref (adB bs 141), .null, .int 0, .int 0, .int 0, .int 0, .int 0, .int 0, .int 0, .int 0, .int 0, .int 0, .int 0, .null, .null, .null, .null, .null, .null]) s.heap h_48 g H locs := hG
    refine lv_aload_n hx hb dX11_init_53 rfl (lv_at hl 0 rfl) ?_
    refine lv_bipush (v := 70) hx hb dX11_init_54 (by decide) ?_
    refine p_newj hx hb ac_long hK hG gk_142 ((eu_ne (by omega)).trans (hE _ (by omega))) (by decide) (by decide) (gn_142) (by decide) (Nat.le_of_ble_eq_true rfl) (Nat.le_of_ble_eq_true rfl) dX11_init_56 (fun H hG => ?_)
    obtain ⟨g_56, eg_56⟩ : ∃ y : HL, y = (fun q => if q = 142 then (fun _ => 0) else g q) := ⟨_, rfl⟩
    rw [← eg_56] at hG
    replace HW := HW g_56 eg_56
    have hG : pG D cy bs 143 (eu E 135 [.ref (adB bs 136), .ref (adB bs 137), .ref (adB bs 138), .int 0, .ref (adB bs 139), .ref (adB bs 140), .int 0, .ref (adB bs 141), .null, .int 0, .int 0, .int 0, .int 0, .int 0, .int 0, .int 0, .int 0, .int 0, .int 0, .int 0, .null, .null, .null, .null, .null, .null]) s.heap h_48 g_56 H locs := hG
    refine p_putE hx hb hw inG11 tyX11 tyX11_ok nmX11 hown hK hG (by omega) eu_eq rfl gk_135 8 (by decide) (Nat.le_of_ble_eq_true rfl) (ty := .array .long) (by decide +kernel) rfl rfl lk29 (Or.inr ⟨rfl, hin, rfl⟩) dX11_init_58 (fun H locs hG => ?_)
    rw [eu_eu] at hG
    have hG : pG D cy bs 143 (eu E 135 [.ref (adB bs 136), .ref (adB bs 137), .ref (adB bs 138), .int 0, .ref (adB bs 139), .ref (adB bs 140), .int 0, .ref (adB bs 141), .ref (adB bs 142), .int 0, .int 0, .int 0, .int 0, .int 0, .int 0, .int 0, .int 0, .int 0, .int 0, .int 0, .null, .null, .null, .null, .null, .null]) s.heap h_48 g_56 H locs := hG
    refine lv_aload_n hx hb dX11_init_61 rfl (lv_at hl 0 rfl) ?_
    refine lv_sipush (v := 18006) hx hb dX11_init_62 (by decide) ?_
    refine p_newi hx hb ac_int hK hG gk_143 ((eu_ne (by omega)).trans (hE _ (by omega))) (by decide) (by decide) (gn_143) (by decide) (Nat.le_of_ble_eq_true rfl) (Nat.le_of_ble_eq_true rfl) dX11_init_65 (fun H hG => ?_)
    obtain ⟨h_65, eh_65⟩ : ∃ y : HI, y = hua h_48 143 (fun _ => 0) := ⟨_, rfl⟩
    rw [← eh_65] at hG
    replace HW := HW h_65 eh_65
    have hG : pG D cy bs 144 (eu E 135 [.ref (adB bs 136), .ref (adB bs 137), .ref (adB bs 138), .int 0, .ref (adB bs 139), .ref (adB bs 140), .int 0, .ref (adB bs 141), .ref (adB bs 142), .int 0, .int 0, .int 0, .int 0, .int 0, .int 0, .int 0, .int 0, .int 0, .int 0, .int 0, .null, .null, .null, .null, .null, .null]) s.heap h_65 g_56 H locs := hG
    refine p_putE hx hb hw inG11 tyX11 tyX11_ok nmX11 hown hK hG (by omega) eu_eq rfl gk_135 20 (by decide) (Nat.le_of_ble_eq_true rfl) (ty := .array .int) (by decide +kernel) rfl rfl lk33 (Or.inr ⟨rfl, hin, rfl⟩) dX11_init_67 (fun H locs hG => ?_)
    rw [eu_eu] at hG
    have hG : pG D cy bs 144 (eu E 135 [.ref (adB bs 136), .ref (adB bs 137), .ref (adB bs 138), .int 0, .ref (adB bs 139), .ref (adB bs 140), .int 0, .ref (adB bs 141), .ref (adB bs 142), .int 0, .int 0, .int 0, .int 0, .int 0, .int 0, .int 0, .int 0, .int 0, .int 0, .int 0, .ref (adB bs 143), .null, .null, .null, .null, .null]) s.heap h_65 g_56 H locs := hG
    refine lv_aload_n hx hb dX11_init_70 rfl (lv_at hl 0 rfl) ?_
    refine lv_bipush (v := 6) hx hb dX11_init_71 (by decide) ?_
    refine p_newi hx hb ac_int hK hG gk_144 ((eu_ne (by omega)).trans (hE _ (by omega))) (by decide) (by decide) (gn_144) (by decide) (Nat.le_of_ble_eq_true rfl) (Nat.le_of_ble_eq_true rfl) dX11_init_73 (fun H hG => ?_)
    obtain ⟨h_73, eh_73⟩ : ∃ y : HI, y = hua h_65 144 (fun _ => 0) := ⟨_, rfl⟩
    rw [← eh_73] at hG
    replace HW := HW h_73 eh_73
    have hG : pG D cy bs 145 (eu E 135 [.ref (adB bs 136), .ref (adB bs 137), .ref (adB bs 138), .int 0, .ref (adB bs 139), .ref (adB bs 140), .int 0, .ref (adB bs 141), .ref (adB bs 142), .int 0, .int 0, .int 0, .int 0, .int 0, .int 0, .int 0, .int 0, .int 0, .int 0, .int 0, .ref (adB bs 143), .null, .null, .null, .null, .null]) s.heap h_73 g_56 H locs := hG
    refine p_putE hx hb hw inG11 tyX11 tyX11_ok nmX11 hown hK hG (by omega) eu_eq rfl gk_135 21 (by decide) (Nat.le_of_ble_eq_true rfl) (ty := .array .int) (by decide +kernel) rfl rfl lk36 (Or.inr ⟨rfl, hin, rfl⟩) dX11_init_75 (fun H locs hG => ?_)
    rw [eu_eu] at hG
    have hG : pG D cy bs 145 (eu E 135 [.ref (adB bs 136), .ref (adB bs 137), .ref (adB bs 138), .int 0, .ref (adB bs 139), .ref (adB bs 140), .int 0, .ref (adB bs 141), .ref (adB bs 142), .int 0, .int 0, .int 0, .int 0, .int 0, .int 0, .int 0, .int 0, .int 0, .int 0, .int 0, .ref (adB bs 143), .ref (adB bs 144), .null, .null, .null, .null]) s.heap h_73 g_56 H locs := hG
    refine lv_aload_n hx hb dX11_init_78 rfl (lv_at hl 0 rfl) ?_
    refine lv_bipush (v := 6) hx hb dX11_init_79 (by decide) ?_
    refine p_newi hx hb ac_int hK hG gk_145 ((eu_ne (by omega)).trans (hE _ (by omega))) (by decide) (by decide) (gn_145) (by decide) (Nat.le_of_ble_eq_true rfl) (Nat.le_of_ble_eq_true rfl) dX11_init_81 (fun H hG => ?_)
    obtain ⟨h_81, eh_81⟩ : ∃ y : HI, y = hua h_73 145 (fun _ => 0) := ⟨_, rfl⟩
    rw [← eh_81] at hG
    replace HW := HW h_81 eh_81
    have hG : pG D cy bs 146 (eu E 135 [.ref (adB bs 136), .ref (adB bs 137), .ref (adB bs 138), .int 0, .ref (adB bs 139), .ref (adB bs 140), .int 0, .ref (adB bs 141), .ref (adB bs 142), .int 0, .int 0, .int 0, .int 0, .int 0, .int 0, .int 0, .int 0, .int 0, .int 0, .int 0, .ref (adB bs 143), .ref (adB bs 144), .null, .null, .null, .null]) s.heap h_81 g_56 H locs := hG
    refine p_putE hx hb hw inG11 tyX11 tyX11_ok nmX11 hown hK hG (by omega) eu_eq rfl gk_135 22 (by decide) (Nat.le_of_ble_eq_true rfl) (ty := .array .int) (by decide +kernel) rfl rfl lk39 (Or.inr ⟨rfl, hin, rfl⟩) dX11_init_83 (fun H locs hG => ?_)
    rw [eu_eu] at hG
    have hG : pG D cy bs 146 (eu E 135 [.ref (adB bs 136), .ref (adB bs 137), .ref (adB bs 138), .int 0, .ref (adB bs 139), .ref (adB bs 140), .int 0, .ref (adB bs 141), .ref (adB bs 142), .int 0, .int 0, .int 0, .int 0, .int 0, .int 0, .int 0, .int 0, .int 0, .int 0, .int 0, .ref (adB bs 143), .ref (adB bs 144), .ref (adB bs 145), .null, .null, .null]) s.heap h_81 g_56 H locs := hG
    refine lv_aload_n hx hb dX11_init_86 rfl (lv_at hl 0 rfl) ?_
    refine lv_sipush (v := 400) hx hb dX11_init_87 (by decide) ?_
    refine p_newi hx hb ac_int hK hG gk_146 ((eu_ne (by omega)).trans (hE _ (by omega))) (by decide) (by decide) (gn_146) (by decide) (Nat.le_of_ble_eq_true rfl) (Nat.le_of_ble_eq_true rfl) dX11_init_90 (fun H hG => ?_)
    obtain ⟨h_90, eh_90⟩ : ∃ y : HI, y = hua h_81 146 (fun _ => 0) := ⟨_, rfl⟩
    rw [← eh_90] at hG
    replace HW := HW h_90 eh_90
    have hG : pG D cy bs 147 (eu E 135 [.ref (adB bs 136), .ref (adB bs 137), .ref (adB bs 138), .int 0, .ref (adB bs 139), .ref (adB bs 140), .int 0, .ref (adB bs 141), .ref (adB bs 142), .int 0, .int 0, .int 0, .int 0, .int 0, .int 0, .int 0, .int 0, .int 0, .int 0, .int 0, .ref (adB bs 143), .ref (adB bs 144), .ref (adB bs 145), .null, .null, .null]) s.heap h_90 g_56 H locs := hG
    refine p_putE hx hb hw inG11 tyX11 tyX11_ok nmX11 hown hK hG (by omega) eu_eq rfl gk_135 23 (by decide) (Nat.le_of_ble_eq_true rfl) (ty := .array .int) (by decide +kernel) rfl rfl lk42 (Or.inr ⟨rfl, hin, rfl⟩) dX11_init_92 (fun H locs hG => ?_)
    rw [eu_eu] at hG
    have hG : pG D cy bs 147 (eu E 135 [.ref (adB bs 136), .ref (adB bs 137), .ref (adB bs 138), .int 0, .ref (adB bs 139), .ref (adB bs 140), .int 0, .ref (adB bs 141), .ref (adB bs 142), .int 0, .int 0, .int 0, .int 0, .int 0, .int 0, .int 0, .int 0, .int 0, .int 0, .int 0, .ref (adB bs 143), .ref (adB bs 144), .ref (adB bs 145), .ref (adB bs 146), .null, .null]) s.heap h_90 g_56 H locs := hG
    refine lv_aload_n hx hb dX11_init_95 rfl (lv_at hl 0 rfl) ?_
    refine lv_iconst (v := 5) hx hb dX11_init_96 (by decide) ?_
    refine p_newi hx hb ac_int hK hG gk_147 ((eu_ne (by omega)).trans (hE _ (by omega))) (by decide) (by decide) (gn_147) (by decide) (Nat.le_of_ble_eq_true rfl) (Nat.le_of_ble_eq_true rfl) dX11_init_97 (fun H hG => ?_)
    obtain ⟨h_97, eh_97⟩ : ∃ y : HI, y = hua h_90 147 (fun _ => 0) := ⟨_, rfl⟩
    rw [← eh_97] at hG
    replace HW := HW h_97 eh_97
    have hG : pG D cy bs 148 (eu E 135 [.ref (adB bs 136), .ref (adB bs 137), .ref (adB bs 138), .int 0, .ref (adB bs 139), .ref (adB bs 140), .int 0, .ref (adB bs 141), .ref (adB bs 142), .int 0, .int 0, .int 0, .int 0, .int 0, .int 0, .int 0, .int 0, .int 0, .int 0, .int 0, .ref (adB bs 143), .ref (adB bs 144), .ref (adB bs 145), .ref (adB bs 146), .null, .null]) s.heap h_97 g_56 H locs := hG
    refine p_putE hx hb hw inG11 tyX11 tyX11_ok nmX11 hown hK hG (by omega) eu_eq rfl gk_135 24 (by decide) (Nat.le_of_ble_eq_true rfl) (ty := .array .int) (by decide +kernel) rfl rfl lk45 (Or.inr ⟨rfl, hin, rfl⟩) dX11_init_99 (fun H locs hG => ?_)
    rw [eu_eu] at hG
    have hG : pG D cy bs 148 (eu E 135 [.ref (adB bs 136), .ref (adB bs 137), .ref (adB bs 138), .int 0, .ref (adB bs 139), .ref (adB bs 140), .int 0, .ref (adB bs 141), .ref (adB bs 142), .int 0, .int 0, .int 0, .int 0, .int 0, .int 0, .int 0, .int 0, .int 0, .int 0, .int 0, .ref (adB bs 143), .ref (adB bs 144), .ref (adB bs 145), .ref (adB bs 146), .ref (adB bs 147), .null]) s.heap h_97 g_56 H locs := hG
    refine lv_aload_n hx hb dX11_init_102 rfl (lv_at hl 0 rfl) ?_
    refine lv_ldc (v := 36864) hx hb hown cn48 dX11_init_103 ?_
    refine p_newi hx hb ac_int hK hG gk_148 ((eu_ne (by omega)).trans (hE _ (by omega))) (by decide) (by decide) (gn_148) (by decide) (Nat.le_of_ble_eq_true rfl) (Nat.le_of_ble_eq_true rfl) dX11_init_105 (fun H hG => ?_)
    obtain ⟨h_105, eh_105⟩ : ∃ y : HI, y = hua h_97 148 (fun _ => 0) := ⟨_, rfl⟩
    rw [← eh_105] at hG
    replace HW := HW h_105 eh_105
    have hG : pG D cy bs 149 (eu E 135 [.ref (adB bs 136), .ref (adB bs 137), .ref (adB bs 138), .int 0, .ref (adB bs 139), .ref (adB bs 140), .int 0, .ref (adB bs 141), .ref (adB bs 142), .int 0, .int 0, .int 0, .int 0, .int 0, .int 0, .int 0, .int 0, .int 0, .int 0, .int 0, .ref (adB bs 143), .ref (adB bs 144), .ref (adB bs 145), .ref (adB bs 146), .ref (adB bs 147), .null]) s.heap h_105 g_56 H locs := hG
    refine p_putE hx hb hw inG11 tyX11 tyX11_ok nmX11 hown hK hG (by omega) eu_eq rfl gk_135 25 (by decide) (Nat.le_of_ble_eq_true rfl) (ty := .array .int) (by decide +kernel) rfl rfl lk49 (Or.inr ⟨rfl, hin, rfl⟩) dX11_init_107 (fun H locs hG => ?_)
    rw [eu_eu] at hG
    have hG : pG D cy bs 149 (eu E 135 [.ref (adB bs 136), .ref (adB bs 137), .ref (adB bs 138), .int 0, .ref (adB bs 139), .ref (adB bs 140), .int 0, .ref (adB bs 141), .ref (adB bs 142), .int 0, .int 0, .int 0, .int 0, .int 0, .int 0, .int 0, .int 0, .int 0, .int 0, .int 0, .ref (adB bs 143), .ref (adB bs 144), .ref (adB bs 145), .ref (adB bs 146), .ref (adB bs 147), .ref (adB bs 148)]) s.heap h_105 g_56 H locs := hG
    refine lv_iconst (v := 0) hx hb dX11_init_110 (by decide) ?_
    refine lv_istore_n (lv' := [(1, .int (0 : Int32)), (0, .ref (adB bs 135))]) hx hb dX11_init_111 rfl hl (by decide) rfl (fun ls hl => ?_)
    obtain ⟨n_112, HW⟩ := HW
    exact L112 n_112 (0 : Int32) h_105 g_56 _ _ _ HW hG (lv_sub hl [1, 0] rfl)
  exact E0 _ _ _ hG hl
