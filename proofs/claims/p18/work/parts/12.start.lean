/-- ALL THAT IS LEFT, over the pure heap: the two are made, then the law's loop -/
def w_all (xs : Nat → Int32) (L : Nat) : Prop := w_X10_init (fun _ _ => 0) (fun _ _ => 0) (fun h1 g1 => w_X11_init h1 g1 (fun h2 g2 => w_law xs L h2 g2))
theorem arr_kn {s : State} {args : Array Value} {ty : FieldType} (h : (Cond.arrayClass ty).before args s = true) : ∃ c : ClassId, ArrOfT s c ty ∧ s.vm.findClass ("[" ++ ty.toString) = some c := by
  obtain ⟨c, k, comp, h1, h2, h3⟩ := Cond.arrayClass_spec h
  exact ⟨c, fun n z => ⟨fun k h => (by cases h), k, h2, comp, h3⟩, h1⟩
theorem arr_kn2 {s : State} {args : Array Value} {ty : FieldType} (h : (Cond.arrayOver (.array ty)).before args s = true) : ∃ c : ClassId, ArrOfT s c (.array ty) ∧ s.vm.findClass ("[" ++ (FieldType.array ty).toString) = some c := by
  obtain ⟨comp, c, k, h0, h1, h2, h3⟩ := Cond.arrayOver_specA h
  exact ⟨c, fun n z => ⟨fun k h => (by cases h), k, h1, comp, h2⟩, h3⟩
theorem pG_all {D : va_G} {cy : Nat → ClassId} {bs : Nat} {h : HI} {g : HL} {H0 H : Heap} {locs : List Loc} (hz : H0.size = bs) (hG : pG D cy bs 149 (fun _ => none) H0 h g H locs) : gG D cy (adB bs) (gA (adB bs) H0.size) H0 h g H locs := by
  have e : pW 149 (fun _ => none) cy (adB bs) h g = gW cy (adB bs) h g := by
    unfold pW gW gO
    apply List.map_congr_left
    intro q _
    rw [pE_none rfl]
  have hA : ∀ q : Nat, bs ≤ q → gA (adB bs) H0.size q := fun q hq => Or.inr (by omega)
  refine ⟨by rw [← e]; exact hG.1, ?_, ⟨hG.2.1.1, fun q h1 h2 => hG.2.1.2.1 q h1 (fun h3 => h2 (hA q h3)), fun x hx => hA _ (hG.2.1.2.2 x hx)⟩⟩
  rw [← e]
  exact pD.weaken (fun _ _ _ h => hA _ h)
theorem gd_wL {y : MethodName} {b : ByteArray} {mx : Nat} {rt : Option FieldType} (hc : Cond.code y b mx rt ∈ wsG) : GoodIn wsG (wa y b mx rt) := by
  intro w hw
  have hm : w ∈ wsG := by
    rcases List.mem_cons.mp hw with rfl | hw
    · exact hc
    · exact hw
  exact ⟨hm, good_of_word (wsG_good w hm)⟩
set_option maxHeartbeats 40000000 in
set_option maxRecDepth 100000 in
theorem whole_walk {p : Program} {e : Env} {s : State} {m : MethodId} {below : List Frame} {meth : Method} {c : Code} (l : Launch) {b L : Nat} {xs : Nat → Int32} (C0 : lw_At p s m meth c b L xs) (HW : w_all xs L) : W p l e room_1 s m #[Value.ref b] below meth c s.heap [] 0 0 (lw_Z below #[Value.ref b] s) (entryFrame m ([Value.ref b] : List Value).toArray 4) := by
  obtain ⟨hx, hb, hr, hml, hown, hts, hX, hbl, hlocks, hgv⟩ := id C0
  have hw : ∀ w ∈ wsG, w.before #[Value.ref b] s = true := fun w h => hts w (wsG_in w h)
  have hown : s.vm.findClass RL = some m.cls := hown
  obtain ⟨c0, i0, k0⟩ := u_known (C := RX0) (T := TX0) (N := 2) (n := 2) hw inG0 (hw (.instantiable RX0 2) (wm2 76 rfl rfl))
  obtain ⟨c1, i1, k1⟩ := u_known (C := RX1) (T := TX1) (N := 7) (n := 7) hw inG1 (hw (.instantiable RX1 7) (wm2 70 rfl rfl))
  obtain ⟨c2, i2, k2⟩ := u_known (C := RX2) (T := TX2) (N := 10) (n := 10) hw inG2 (hw (.instantiable RX2 10) (wm1 209 rfl rfl))
  obtain ⟨c3, i3, k3⟩ := u_known (C := RX3) (T := TX3) (N := 6) (n := 6) hw inG3 (hw (.instantiable RX3 6) (wm2 44 rfl rfl))
  obtain ⟨c4, i4, k4⟩ := u_known (C := RX4) (T := TX4) (N := 10) (n := 10) hw inG4 (hw (.instantiable RX4 10) (wm1 124 rfl rfl))
  obtain ⟨c5, i5, k5⟩ := u_known (C := RX5) (T := TX5) (N := 11) (n := 11) hw inG5 (hw (.instantiable RX5 11) (wm2 115 rfl rfl))
  obtain ⟨c6, i6, k6⟩ := u_known (C := RX6) (T := TX6) (N := 12) (n := 12) hw inG6 (hw (.instantiable RX6 12) (wm1 26 rfl rfl))
  obtain ⟨c7, i7, k7⟩ := u_known (C := RX7) (T := TX7) (N := 12) (n := 12) hw inG7 (hw (.instantiable RX7 12) (wm1 163 rfl rfl))
  obtain ⟨c8, i8, k8⟩ := u_known (C := RX8) (T := TX8) (N := 4) (n := 4) hw inG8 (hw (.instantiable RX8 4) (wm1 32 rfl rfl))
  obtain ⟨c9, i9, k9⟩ := u_known (C := RX9) (T := TX9) (N := 7) (n := 7) hw inG9 (hw (.instantiable RX9 7) (wm2 9 rfl rfl))
  obtain ⟨c10, i10, k10⟩ := u_known (C := RX10) (T := TX10) (N := 11) (n := 11) hw inG10 (hw (.instantiable RX10 11) (wm1 18 rfl rfl))
  obtain ⟨c11, i11, k11⟩ := u_known (C := RX11) (T := TX11) (N := 26) (n := 26) hw inG11 (hw (.instantiable RX11 26) (wm5 20 rfl rfl))
  obtain ⟨D, hD⟩ : ∃ D : va_G, ∀ (k : Nat) (q : vw_C), vwCl[k]? = some q → u_Kn s q.1 q.2.1 q.2.2 (D.1 k) (D.2 k) := by
    refine ⟨(fun k => ([c0, c1, c2, c3, c4, c5, c6, c7, c8, c9, c10, c11] : List ClassId).getD k c0, fun k => ([i0, i1, i2, i3, i4, i5, i6, i7, i8, i9, i10, i11] : List (Nat → Nat)).getD k i0), ?_⟩
    intro k q hq
    match k, hq with
    | 0, hq => cases hq; exact k0
    | 1, hq => cases hq; exact k1
    | 2, hq => cases hq; exact k2
    | 3, hq => cases hq; exact k3
    | 4, hq => cases hq; exact k4
    | 5, hq => cases hq; exact k5
    | 6, hq => cases hq; exact k6
    | 7, hq => cases hq; exact k7
    | 8, hq => cases hq; exact k8
    | 9, hq => cases hq; exact k9
    | 10, hq => cases hq; exact k10
    | 11, hq => cases hq; exact k11
    | k + 12, hq => simp [vwCl] at hq
  obtain ⟨a0, a0o, a0n⟩ := arr_kn (hw (.arrayClass .int) (wm1 50 rfl rfl))
  obtain ⟨a1, a1o, a1n⟩ := arr_kn (hw (.arrayClass .long) (wm1 161 rfl rfl))
  obtain ⟨a2, a2o, a2n⟩ := arr_kn (hw (.arrayClass .boolean) (wm1 160 rfl rfl))
  have hao : (Cond.arrayOver (.array .int)).before #[Value.ref b] s = true := hts _ (List.mem_append_right _ ((fun h => List.mem_append_right _ (List.mem_append_left _ h) : _ ∈ tables_1_2 → _ ∈ tables_1) (List.mem_of_getElem? (i := 15) rfl)))
  obtain ⟨a3, a3o, a3n⟩ := arr_kn2 hao
  have hAO : gAO s := hao
  have hNw : gNw s := by
    intro w hm
    simp only [nestW, List.mem_cons, List.not_mem_nil, or_false] at hm
    rcases hm with rfl | rfl | rfl | rfl | rfl | rfl
    · exact va_Nw.of rfl (hts _ (List.mem_append_right _ ((fun h => List.mem_append_right _ (List.mem_append_right _ (List.mem_append_right _ (List.mem_append_left _ h))) : _ ∈ tables_1_4 → _ ∈ tables_1) (List.mem_of_getElem? (i := 67) rfl))))
    · exact va_Nw.of rfl (hts _ (List.mem_append_right _ ((fun h => List.mem_append_right _ (List.mem_append_left _ h) : _ ∈ tables_1_2 → _ ∈ tables_1) (List.mem_of_getElem? (i := 77) rfl))))
    · exact va_Nw.of rfl (hts _ (List.mem_append_right _ ((fun h => List.mem_append_right _ (List.mem_append_right _ (List.mem_append_right _ (List.mem_append_left _ h))) : _ ∈ tables_1_4 → _ ∈ tables_1) (List.mem_of_getElem? (i := 117) rfl))))
    · exact va_Nw.of rfl (hts _ (List.mem_append_right _ ((fun h => List.mem_append_right _ (List.mem_append_right _ (List.mem_append_right _ (List.mem_append_left _ h))) : _ ∈ tables_1_4 → _ ∈ tables_1) (List.mem_of_getElem? (i := 0) rfl))))
    · exact va_Nw.of rfl (hts _ (List.mem_append_right _ ((fun h => List.mem_append_right _ (List.mem_append_right _ (List.mem_append_right _ (List.mem_append_left _ h))) : _ ∈ tables_1_4 → _ ∈ tables_1) (List.mem_of_getElem? (i := 165) rfl))))
    · exact va_Nw.of rfl (hts _ (List.mem_append_right _ ((fun h => List.mem_append_right _ (List.mem_append_right _ (List.mem_append_left _ h)) : _ ∈ tables_1_3 → _ ∈ tables_1) (List.mem_of_getElem? (i := 190) rfl))))
  obtain ⟨cy, e0, e1, e2, e3⟩ : ∃ cy : Nat → ClassId, cy 0 = a0 ∧ cy 1 = a1 ∧ cy 2 = a2 ∧ cy 3 = a3 := ⟨fun k => ([a0, a1, a2, a3] : List ClassId).getD k a0, rfl, rfl, rfl, rfl⟩
  subst e0 e1 e2 e3
  have hK : va_K D vwCl (gtys cy) s := by
    refine ⟨hD, ?_⟩
    intro k q hq
    match k, hq with
    | 0, hq => cases hq; exact ⟨a0o, a0n⟩
    | 1, hq => cases hq; exact ⟨a1o, a1n⟩
    | 2, hq => cases hq; exact ⟨a2o, a2n⟩
    | 3, hq => cases hq; exact ⟨a3o, a3n⟩
    | k + 4, hq => simp [gtys] at hq
  obtain ⟨bs, hbs⟩ : ∃ bs : Nat, s.heap.size = bs := ⟨_, rfl⟩
  have hG : pG D cy bs 0 (fun _ => none) s.heap (fun _ _ => 0) (fun _ _ => 0) s.heap [] := ⟨fun k q hq => by simp [pW] at hq, va_S.rf, hbs⟩
  unfold w_all at HW
  have hl := lv_entry ([Value.ref b]) (n := 4) (Nat.le_of_ble_eq_true rfl)
  rw [lg_entry_eq]
  generalize (lg_sl ([Value.ref b]) ++ List.replicate (4 - (lg_sl ([Value.ref b])).length) Slot.unset).toArray = ls at hl ⊢
  have hl : lv_has ls 4 [(0, .ref b)] := hl
  have hA0 : ∀ q, gA (adB bs) s.heap.size q → s.heap.size ≤ q := fun q h => h.elim (fun ⟨o, _, e⟩ => by rw [e]; show s.heap.size ≤ bs + o; omega) (fun h => h)
  refine p_new hx hb hw inG10 tyX10 tyX10_ok hown (hw (.classLink RL 7 RX10) (wm1 17 rfl rfl)) (hw (.instantiable RX10 11) (wm1 18 rfl rfl)) (hw (.initialized RX10) (wm1 1 rfl rfl)) hK hG rfl gk_0 (fs := [.null, .null, .null, .null, .null, .null, .null, .null, .null, .null, .null]) (fun j hj => by rcases (show j = 0 ∨ j = 1 ∨ j = 2 ∨ j = 3 ∨ j = 4 ∨ j = 5 ∨ j = 6 ∨ j = 7 ∨ j = 8 ∨ j = 9 ∨ j = 10 by omega) with rfl | rfl | rfl | rfl | rfl | rfl | rfl | rfl | rfl | rfl | rfl <;> rfl) (Nat.le_of_ble_eq_true rfl) (Nat.le_of_ble_eq_true rfl) dL_law_0 (fun H hG => ?_)
  refine lv_dup hx hb dL_law_3 rfl ?_
  refine p_callv (n' := 135) (E' := (fun _ => none)) (p_runI (As := []) (rest := [.ref (adB bs 0)]) (ws := (wa yX10_init cX10_init 1 none)) ⟨hx, hb, hml, hown, hw⟩ (n_X10_init l D cy bs (fun _ => none) (fun _ _ => 0) (fun _ _ => 0) (fun _ _ => rfl) _ HW) (cwI 0 hw (gd_wL (wm1 21 rfl rfl)) rfl rfl rfl (hw (.initialized RX10) (wm1 1 rfl rfl)) (hw (.methodLink RL 9 yX10_init) (wm1 19 rfl rfl)) (hw (.instanceMethod yX10_init) (wm1 20 rfl rfl)) rfl (by decide +kernel) ⟨Nat.le_of_ble_eq_true rfl, Nat.le_of_ble_eq_true rfl⟩) hK hNw hAO hG rfl rfl hl.1 rfl (lv_room (Nat.le_of_ble_eq_true rfl)) dL_law_4 ⟨Nat.le_of_ble_eq_true rfl, Nat.le_of_ble_eq_true rfl⟩) hG (fun h10 g10 H locs HW hG => ?_)
  refine lv_astore_n (lv' := [(1, .ref (adB bs 0)), (0, .ref b)]) hx hb dL_law_7 rfl hl (by decide) rfl (fun ls hl => ?_)
  refine p_new hx hb hw inG11 tyX11 tyX11_ok hown (hw (.classLink RL 10 RX11) (wm5 19 rfl rfl)) (hw (.instantiable RX11 26) (wm5 20 rfl rfl)) (hw (.initialized RX11) (wm1 13 rfl rfl)) hK hG rfl gk_135 (fs := [.null, .null, .null, .int 0, .null, .null, .int 0, .null, .null, .int 0, .int 0, .int 0, .int 0, .int 0, .int 0, .int 0, .int 0, .int 0, .int 0, .int 0, .null, .null, .null, .null, .null, .null]) (fun j hj => by rcases (show j = 0 ∨ j = 1 ∨ j = 2 ∨ j = 3 ∨ j = 4 ∨ j = 5 ∨ j = 6 ∨ j = 7 ∨ j = 8 ∨ j = 9 ∨ j = 10 ∨ j = 11 ∨ j = 12 ∨ j = 13 ∨ j = 14 ∨ j = 15 ∨ j = 16 ∨ j = 17 ∨ j = 18 ∨ j = 19 ∨ j = 20 ∨ j = 21 ∨ j = 22 ∨ j = 23 ∨ j = 24 ∨ j = 25 by omega) with rfl | rfl | rfl | rfl | rfl | rfl | rfl | rfl | rfl | rfl | rfl | rfl | rfl | rfl | rfl | rfl | rfl | rfl | rfl | rfl | rfl | rfl | rfl | rfl | rfl | rfl <;> rfl) (Nat.le_of_ble_eq_true rfl) (Nat.le_of_ble_eq_true rfl) dL_law_8 (fun H hG => ?_)
  refine lv_dup hx hb dL_law_11 rfl ?_
  refine p_callv (n' := 149) (E' := (fun _ => none)) (p_runI (As := []) (rest := [.ref (adB bs 135)]) (ws := (wa yX11_init cX11_init 2 none)) ⟨hx, hb, hml, hown, hw⟩ (n_X11_init l D cy bs (fun _ => none) h10 g10 (fun _ _ => rfl) _ HW) (cwI 0 hw (gd_wL (wm5 23 rfl rfl)) rfl rfl rfl (hw (.initialized RX11) (wm1 13 rfl rfl)) (hw (.methodLink RL 12 yX11_init) (wm5 21 rfl rfl)) (hw (.instanceMethod yX11_init) (wm5 22 rfl rfl)) rfl (by decide +kernel) ⟨Nat.le_of_ble_eq_true rfl, Nat.le_of_ble_eq_true rfl⟩) hK hNw hAO hG rfl rfl hl.1 rfl (lv_room (Nat.le_of_ble_eq_true rfl)) dL_law_12 ⟨Nat.le_of_ble_eq_true rfl, Nat.le_of_ble_eq_true rfl⟩) hG (fun h11 g11 H locs HW hG => ?_)
  refine lv_astore_n (lv' := [(2, .ref (adB bs 135)), (1, .ref (adB bs 0)), (0, .ref b)]) hx hb dL_law_15 rfl hl (by decide) rfl (fun ls hl => ?_)
  refine lv_iconst (v := 0) hx hb dL_law_16 (by decide) ?_
  refine lv_istore_n (lv' := [(3, .int 0), (2, .ref (adB bs 135)), (1, .ref (adB bs 0)), (0, .ref b)]) hx hb dL_law_17 rfl hl (by decide) rfl (fun ls hl => ?_)
  exact law_loop C0 hK hNw hA0 (Nat.le_of_ble_eq_true rfl) (Nat.le_of_ble_eq_true rfl) HW (pG_all hbs hG) (lv_sub hl [3, 2, 1, 0] rfl)
