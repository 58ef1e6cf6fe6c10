section
-- 12.start
/-- ALL THAT IS LEFT, over the pure heap: the two are made, then the law's loop -/
def w_all (xs : Nat → Int32) (L : Nat) : Prop := w_X10_init (fun _ _ => 0) (fun _ _ => 0) (fun h1 g1 => w_X11_init h1 g1 (fun h2 g2 => w_law xs L h2 g2))
theorem arr_kn {s : State} {args : Array Value} {ty : FieldType} (h : (Cond.arrayClass ty).before args s = true) : ∃ c : ClassId, ArrOfT s c ty ∧ s.vm.findClass ("[" ++ ty.toString) = some c := by
  obtain ⟨c, k, comp, h1, h2, h3⟩ := Cond.arrayClass_spec h
  exact ⟨c, fun n z => ⟨fun k h => (by cases h), k, h2, comp, h3⟩, h1⟩
theorem arr_kn2 {s : State} {args : Array Value} {ty : FieldType} (h : (Cond.arrayOver (.array ty)).before args s = true) : ∃ c : ClassId, ArrOfT s c (.array ty) ∧ s.vm.findClass ("[" ++ (FieldType.array ty).toString) = some c := by
  obtain ⟨comp, c, k, h0, h1, h2, h3⟩ := Cond.arrayOver_specA h
  exact ⟨c, fun n z => ⟨fun k h => (by cases h), k, h1, comp, h2⟩, h3⟩
theorem pG_all {D : va_G} {cy : Nat → ClassId} {bs : Nat} {h : HI} {g : HL} {H0 H : Heap} {locs : List Loc} (hz : H0.size = bs) (hG : pG D cy bs 149 (fun _ => none) H0 h g H locs) : gG D cy (adB bs) (gA (adB bs) H0.size) H0 h g H locs := by
  have e : pW 149 (fun _ => none) cy (adB bs) h g = gW cy (adB bs) h g := by
    unfold pW gW gO
    apply List.map_congr_left
    intro q _
    rw [pE_none rfl]
  have hA : ∀ q : Nat, bs ≤ q → gA (adB bs) H0.size q := fun q hq => Or.inr (by omega)
  refine ⟨by rw [← e]; exact hG.1, ?_, ⟨hG.2.1.1, fun q h1 h2 => hG.2.1.2.1 q h1 (fun h3 => h2 (hA q h3)), fun x hx => hA _ (hG.2.1.2.2 x hx)⟩⟩
  rw [← e]
  exact pD.weaken (fun _ _ _ h => hA _ h)
theorem gd_wL {y : MethodName} {b : ByteArray} {mx : Nat} {rt : Option FieldType} (hc : Cond.code y b mx rt ∈ wsG) : GoodIn wsG (wa y b mx rt) := by
  intro w hw
  have hm : w ∈ wsG := by
    rcases List.mem_cons.mp hw with rfl | hw
    · exact hc
    · exact hw
  exact ⟨hm, good_of_word (wsG_good w hm)⟩
set_option maxHeartbeats 40000000 in
set_option maxRecDepth 100000 in
theorem whole_walk {p : Program} {e : Env} {s : State} {m : MethodId} {below : List Frame} {meth : Method} {c : Code} (l : Launch) {b L : Nat} {xs : Nat → Int32} (C0 : lw_At p s m meth c b L xs) (HW : w_all xs L) : W p l e room_1 s m #[Value.ref b] below meth c s.heap [] 0 0 (lw_Z below #[Value.ref b] s) (entryFrame m ([Value.ref b] : List Value).toArray 4) := by
  obtain ⟨hx, hb, hr, hml, hown, hts, hX, hbl, hlocks, hgv⟩ := id C0
  have hw : ∀ w ∈ wsG, w.before #[Value.ref b] s = true := fun w h => hts w (wsG_in w h)
  have hown : s.vm.findClass RL = some m.cls := hown
  obtain ⟨c0, i0, k0⟩ := u_known (C := RX0) (T := TX0) (N := 2) (n := 2) hw inG0 (hw (.instantiable RX0 2) (wm2 76 rfl rfl))
  obtain ⟨c1, i1, k1⟩ := u_known (C := RX1) (T := TX1) (N := 7) (n := 7) hw inG1 (hw (.instantiable RX1 7) (wm2 70 rfl rfl))
  obtain ⟨c2, i2, k2⟩ := u_known (C := RX2) (T := TX2) (N := 10) (n := 10) hw inG2 (hw (.instantiable RX2 10) (wm1 209 rfl rfl))
  obtain ⟨c3, i3, k3⟩ := u_known (C := RX3) (T := TX3) (N := 6) (n := 6) hw inG3 (hw (.instantiable RX3 6) (wm2 44 rfl rfl))
  obtain ⟨c4, i4, k4⟩ := u_known (C := RX4) (T := TX4) (N := 10) (n := 10) hw inG4 (hw (.instantiable RX4 10) (wm1 124 rfl rfl))
  obtain ⟨c5, i5, k5⟩ := u_known (C := RX5) (T := TX5) (N := 11) (n := 11) hw inG5 (hw (.instantiable RX5 11) (wm2 115 rfl rfl))
  obtain ⟨c6, i6, k6⟩ := u_known (C := RX6) (T := TX6) (N := 12) (n := 12) hw inG6 (hw (.instantiable RX6 12) (wm1 26 rfl rfl))
  obtain ⟨c7, i7, k7⟩ := u_known (C := RX7) (T := TX7) (N := 12) (n := 12) hw inG7 (hw (.instantiable RX7 12) (wm1 163 rfl rfl))
  obtain ⟨c8, i8, k8⟩ := u_known (C := RX8) (T := TX8) (N := 4) (n := 4) hw inG8 (hw (.instantiable RX8 4) (wm1 32 rfl rfl))
  obtain ⟨c9, i9, k9⟩ := u_known (C := RX9) (T := TX9) (N := 7) (n := 7) hw inG9 (hw (.instantiable RX9 7) (wm2 9 rfl rfl))
  obtain ⟨c10, i10, k10⟩ := u_known (C := RX10) (T := TX10) (N := 11) (n := 11) hw inG10 (hw (.instantiable RX10 11) (wm1 18 rfl rfl))
  obtain ⟨c11, i11, k11⟩ := u_known (C := RX11) (T := TX11) (N := 26) (n := 26) hw inG11 (hw (.instantiable RX11 26) (wm5 20 rfl rfl))
  obtain ⟨D, hD⟩ : ∃ D : va_G, ∀ (k : Nat) (q : vw_C), vwCl[k]? = some q → u_Kn s q.1 q.2.1 q.2.2 (D.1 k) (D.2 k) := by
    refine ⟨(fun k => ([c0, c1, c2, c3, c4, c5, c6, c7, c8, c9, c10, c11] : List ClassId).getD k c0, fun k => ([i0, i1, i2, i3, i4, i5, i6, i7, i8, i9, i10, i11] : List (Nat → Nat)).getD k i0), ?_⟩
    intro k q hq
    match k, hq with
    | 0, hq => cases hq; exact k0
    | 1, hq => cases hq; exact k1
    | 2, hq => cases hq; exact k2
    | 3, hq => cases hq; exact k3
    | 4, hq => cases hq; exact k4
    | 5, hq => cases hq; exact k5
    | 6, hq => cases hq; exact k6
    | 7, hq => cases hq; exact k7
    | 8, hq => cases hq; exact k8
    | 9, hq => cases hq; exact k9
    | 10, hq => cases hq; exact k10
    | 11, hq => cases hq; exact k11
    | k + 12, hq => simp [vwCl] at hq
  obtain ⟨a0, a0o, a0n⟩ := arr_kn (hw (.arrayClass .int) (wm1 50 rfl rfl))
  obtain ⟨a1, a1o, a1n⟩ := arr_kn (hw (.arrayClass .long) (wm1 161 rfl rfl))
  obtain ⟨a2, a2o, a2n⟩ := arr_kn (hw (.arrayClass .boolean) (wm1 160 rfl rfl))
  have hao : (Cond.arrayOver (.array .int)).before #[Value.ref b] s = true := hts _ (List.mem_append_right _ ((fun h => List.mem_append_right _ (List.mem_append_left _ h) : _ ∈ tables_1_2 → _ ∈ tables_1) (List.mem_of_getElem? (i := 15) rfl)))
  obtain ⟨a3, a3o, a3n⟩ := arr_kn2 hao
  have hAO : gAO s := hao
  have hNw : gNw s := by
    intro w hm
    simp only [nestW, List.mem_cons, List.not_mem_nil, or_false] at hm
    rcases hm with rfl | rfl | rfl | rfl | rfl | rfl
    · exact va_Nw.of rfl (hts _ (List.mem_append_right _ ((fun h => List.mem_append_right _ (List.mem_append_right _ (List.mem_append_right _ (List.mem_append_left _ h))) : _ ∈ tables_1_4 → _ ∈ tables_1) (List.mem_of_getElem? (i := 67) rfl))))
    · exact va_Nw.of rfl (hts _ (List.mem_append_right _ ((fun h => List.mem_append_right _ (List.mem_append_left _ h) : _ ∈ tables_1_2 → _ ∈ tables_1) (List.mem_of_getElem? (i := 77) rfl))))
    · exact va_Nw.of rfl (hts _ (List.mem_append_right _ ((fun h => List.mem_append_right _ (List.mem_append_right _ (List.mem_append_right _ (List.mem_append_left _ h))) : _ ∈ tables_1_4 → _ ∈ tables_1) (List.mem_of_getElem? (i := 117) rfl))))
    · exact va_Nw.of rfl (hts _ (List.mem_append_right _ ((fun h => List.mem_append_right _ (List.mem_append_right _ (List.mem_append_right _ (List.mem_append_left _ h))) : _ ∈ tables_1_4 → _ ∈ tables_1) (List.mem_of_getElem? (i := 0) rfl))))
    · exact va_Nw.of rfl (hts _ (List.mem_append_right _ ((fun h => List.mem_append_right _ (List.mem_append_right _ (List.mem_append_right _ (List.mem_append_left _ h))) : _ ∈ tables_1_4 → _ ∈ tables_1) (List.mem_of_getElem? (i := 165) rfl))))
    · exact va_Nw.of rfl (hts _ (List.mem_append_right _ ((fun h => List.mem_append_right _ (List.mem_append_right _ (List.mem_append_left _ h)) : _ ∈ tables_1_3 → _ ∈ tables_1) (List.mem_of_getElem? (i := 190) rfl))))
  obtain ⟨cy, e0, e1, e2, e3⟩ : ∃ cy : Nat → ClassId, cy 0 = a0 ∧ cy 1 = a1 ∧ cy 2 = a2 ∧ cy 3 = a3 := ⟨fun k => ([a0, a1, a2, a3] : List ClassId).getD k a0, rfl, rfl, rfl, rfl⟩
  subst e0 e1 e2 e3
  have hK : va_K D vwCl (gtys cy) s := by
    refine ⟨hD, ?_⟩
    intro k q hq
    match k, hq with
    | 0, hq => cases hq; exact ⟨a0o, a0n⟩
    | 1, hq => cases hq; exact ⟨a1o, a1n⟩
    | 2, hq => cases hq; exact ⟨a2o, a2n⟩
    | 3, hq => cases hq; exact ⟨a3o, a3n⟩
    | k + 4, hq => simp [gtys] at hq
  obtain ⟨bs, hbs⟩ : ∃ bs : Nat, s.heap.size = bs := ⟨_, rfl⟩
  have hG : pG D cy bs 0 (fun _ => none) s.heap (fun _ _ => 0) (fun _ _ => 0) s.heap [] := ⟨fun k q hq => by simp [pW] at hq, va_S.rf, hbs⟩
  unfold w_all at HW
  have hl := lv_entry ([Value.ref b]) (n := 4) (Nat.le_of_ble_eq_true rfl)
  rw [lg_entry_eq]
  generalize (lg_sl ([Value.ref b]) ++ List.replicate (4 - (lg_sl ([Value.ref b])).length) Slot.unset).toArray = ls at hl ⊢
  have hl : lv_has ls 4 [(0, .ref b)] := hl
  have hA0 : ∀ q, gA (adB bs) s.heap.size q → s.heap.size ≤ q := fun q h => h.elim (fun ⟨o, _, e⟩ => by rw [e]; show s.heap.size ≤ bs + o; omega) (fun h => h)
  refine p_new hx hb hw inG10 tyX10 tyX10_ok hown (hw (.classLink RL 7 RX10) (wm1 17 rfl rfl)) (hw (.instantiable RX10 11) (wm1 18 rfl rfl)) (hw (.initialized RX10) (wm1 1 rfl rfl)) hK hG rfl gk_0 (fs := [.null, .null, .null, .null, .null, .null, .null, .null, .null, .null, .null]) (fun j hj => by rcases (show j = 0 ∨ j = 1 ∨ j = 2 ∨ j = 3 ∨ j = 4 ∨ j = 5 ∨ j = 6 ∨ j = 7 ∨ j = 8 ∨ j = 9 ∨ j = 10 by omega) with rfl | rfl | rfl | rfl | rfl | rfl | rfl | rfl | rfl | rfl | rfl <;> rfl) (Nat.le_of_ble_eq_true rfl) (Nat.le_of_ble_eq_true rfl) dL_law_0 (fun H hG => ?_)
  refine lv_dup hx hb dL_law_3 rfl ?_
  refine p_callv (n' := 135) (E' := (fun _ => none)) (p_runI (As := []) (rest := [.ref (adB bs 0)]) (ws := (wa yX10_init cX10_init 1 none)) ⟨hx, hb, hml, hown, hw⟩ (n_X10_init l D cy bs (fun _ => none) (fun _ _ => 0) (fun _ _ => 0) (fun _ _ => rfl) _ HW) (cwI 0 hw (gd_wL (wm1 21 rfl rfl)) rfl rfl rfl (hw (.initialized RX10) (wm1 1 rfl rfl)) (hw (.methodLink RL 9 yX10_init) (wm1 19 rfl rfl)) (hw (.instanceMethod yX10_init) (wm1 20 rfl rfl)) rfl (by decide +kernel) ⟨Nat.le_of_ble_eq_true rfl, Nat.le_of_ble_eq_true rfl⟩) hK hNw hAO hG rfl rfl hl.1 rfl (lv_room (Nat.le_of_ble_eq_true rfl)) dL_law_4 ⟨Nat.le_of_ble_eq_true rfl, Nat.le_of_ble_eq_true rfl⟩) hG (fun h10 g10 H locs HW hG => ?_)
  refine lv_astore_n (lv' := [(1, .ref (adB bs 0)), (0, .ref b)]) hx hb dL_law_7 rfl hl (by decide) rfl (fun ls hl => ?_)
  refine p_new hx hb hw inG11 tyX11 tyX11_ok hown (hw (.classLink RL 10 RX11) (wm5 19 rfl rfl)) (hw (.instantiable RX11 26) (wm5 20 rfl rfl)) (hw (.initialized RX11) (wm1 13 rfl rfl)) hK hG rfl gk_135 (fs := [.null, .null, .null, .int 0, .null, .null, .int 0, .null, .null, .int 0, .int 0, .int 0, .int 0, .int 0, .int 0, .int 0, .int 0, .int 0, .int 0, .int 0, .null, .null, .null, .null, .null, .null]) (fun j hj => by rcases (show j = 0 ∨ j = 1 ∨ j = 2 ∨ j = 3 ∨ j = 4 ∨ j = 5 ∨ j = 6 ∨ j = 7 ∨ j = 8 ∨ j = 9 ∨ j = 10 ∨ j = 11 ∨ j = 12 ∨ j = 13 ∨ j = 14 ∨ j = 15 ∨ j = 16 ∨ j = 17 ∨ j = 18 ∨ j = 19 ∨ j = 20 ∨ j = 21 ∨ j = 22 ∨ j = 23 ∨ j = 24 ∨ j = 25 by omega) with rfl | rfl | rfl | rfl | rfl | rfl | rfl | rfl | rfl | rfl | rfl | rfl | rfl | rfl | rfl | rfl | rfl | rfl | rfl | rfl | rfl | rfl | rfl | rfl | rfl | rfl <;> rfl) (Nat.le_of_ble_eq_true rfl) (Nat.le_of_ble_eq_true rfl) dL_law_8 (fun H hG => ?_)
  refine lv_dup hx hb dL_law_11 rfl ?_
  refine p_callv (n' := 149) (E' := (fun _ => none)) (p_runI (As := []) (rest := [.ref (adB bs 135)]) (ws := (wa yX11_init cX11_init 2 none)) ⟨hx, hb, hml, hown, hw⟩ (n_X11_init l D cy bs (fun _ => none) h10 g10 (fun _ _ => rfl) _ HW) (cwI 0 hw (gd_wL (wm5 23 rfl rfl)) rfl rfl rfl (hw (.initialized RX11) (wm1 13 rfl rfl)) (hw (.methodLink RL 12 yX11_init) (wm5 21 rfl rfl)) (hw (.instanceMethod yX11_init) (wm5 22 rfl rfl)) rfl (by decide +kernel) ⟨Nat.le_of_ble_eq_true rfl, Nat.le_of_ble_eq_true rfl⟩) hK hNw hAO hG rfl rfl hl.1 rfl (lv_room (Nat.le_of_ble_eq_true rfl)) dL_law_12 ⟨Nat.le_of_ble_eq_true rfl, Nat.le_of_ble_eq_true rfl⟩) hG (fun h11 g11 H locs HW hG => ?_)
  refine lv_astore_n (lv' := [(2, .ref (adB bs 135)), (1, .ref (adB bs 0)), (0, .ref b)]) hx hb dL_law_15 rfl hl (by decide) rfl (fun ls hl => ?_)
  refine lv_iconst (v := 0) hx hb dL_law_16 (by decide) ?_
  refine lv_istore_n (lv' := [(3, .int 0), (2, .ref (adB bs 135)), (1, .ref (adB bs 0)), (0, .ref b)]) hx hb dL_law_17 rfl hl (by decide) rfl (fun ls hl => ?_)
  exact law_loop C0 hK hNw hA0 (Nat.le_of_ble_eq_true rfl) (Nat.le_of_ble_eq_true rfl) HW (pG_all hbs hG) (lv_sub hl [3, 2, 1, 0] rfl)
end
section
-- 20.frame
/-! THE PURE SIDE: frames, calls, tables, loops -/
def JJ (S : Nat → Prop) (a b : HI) : Prop := ∀ o, ¬ S o → b o = a o
theorem JJ.rf {S : Nat → Prop} {a : HI} : JJ S a a := fun _ _ => rfl
theorem JJ.tr {S : Nat → Prop} {a b c : HI} (x : JJ S a b) (y : JJ S b c) : JJ S a c := fun o n => (y o n).trans (x o n)
theorem JJ.mo {S T : Nat → Prop} {a b : HI} (x : JJ S a b) (hs : ∀ o, S o → T o) : JJ T a b := fun o n => x o (fun s => n (hs o s))
theorem JJ.hu {S : Nat → Prop} {a b c : HI} {o k : Nat} {v : Int32} (x : JJ S a b) (e : c = hu b o k v) (hs : S o) : JJ S a c := fun q n => by
  rw [e, hu_ne (fun q2 => n (by rw [q2]; exact hs))]; exact x q n
theorem JJ.hua {S : Nat → Prop} {a b c : HI} {o : Nat} {f : Nat → Int32} (x : JJ S a b) (e : c = hua b o f) (hs : S o) : JJ S a c := fun q n => by
  rw [e, hua_ne (fun q2 => n (by rw [q2]; exact hs))]; exact x q n
theorem JJ.at {S : Nat → Prop} {a b : HI} (x : JJ S a b) {o : Nat} (k : Nat) (n : ¬ S o) : b o k = a o k := by rw [x o n]
/-- every table of the class is whole -/
def CI (h : HI) : Prop := ∀ o, isT o → ∃ m w M, TT h o m w M
theorem isT.le {o : Nat} (h : isT o) : 2 ≤ o ∧ o ≤ 75 := co_l (P := fun o => 2 ≤ o ∧ o ≤ 75) (by decide +kernel) h
theorem TT.cg {h h' : HI} {o m w M : Nat} (T : TT h o m w M) (e : h' o = h o) : TT h' o m w M := by
  unfold TT; rw [e]; exact T
theorem CI.jj {S : Nat → Prop} {a b : HI} (c : CI a) (x : JJ S a b) (hs : ∀ o, o ≤ 75 → ¬ S o) : CI b := fun o ho => by
  obtain ⟨m, w, M, T⟩ := c o ho
  exact ⟨m, w, M, T.cg (x o (hs o ho.le.2))⟩
theorem c_i {W : (Int32 → HI → HL → Prop) → Prop} {S body : Int32 → HI → HL → Prop} (hW : W S) (k : ∀ r h g, S r h g → body r h g) : ∃ P : Int32 → HI → HL → Prop, W P ∧ ∀ (r : Int32) (h : HI) (g : HL), P r h g → body r h g := ⟨S, hW, k⟩
theorem c_z {W : (Int32 → HI → HL → Prop) → Prop} {S body : Int32 → HI → HL → Prop} (hW : W S) (k : ∀ r h g, S r h g → body r h g) : ∃ P : Int32 → HI → HL → Prop, W P ∧ ∀ (r : Int32) (h : HI) (g : HL), zb r → P r h g → body r h g := ⟨S, hW, fun r h g _ => k r h g⟩
theorem c_v {W : (HI → HL → Prop) → Prop} {S body : HI → HL → Prop} (hW : W S) (k : ∀ h g, S h g → body h g) : ∃ P : HI → HL → Prop, W P ∧ ∀ (h : HI) (g : HL), P h g → body h g := ⟨S, hW, k⟩
theorem c_l {W : (Int64 → HI → HL → Prop) → Prop} {S body : Int64 → HI → HL → Prop} (hW : W S) (k : ∀ r h g, S r h g → body r h g) : ∃ P : Int64 → HI → HL → Prop, W P ∧ ∀ (r : Int64) (h : HI) (g : HL), P r h g → body r h g := ⟨S, hW, k⟩
theorem c_n {W : (Nat → HI → HL → Prop) → Prop} {S body : Nat → HI → HL → Prop} (hW : W S) (k : ∀ r h g, S r h g → body r h g) : ∃ P : Nat → HI → HL → Prop, W P ∧ ∀ (r : Nat) (h : HI) (g : HL), P r h g → body r h g := ⟨S, hW, k⟩
/-- within, as a call -/
theorem c_w {a b c : Int32} {h : HI} {g : HL} {body : Int32 → HI → HL → Prop} (h1 : b ≤ a → a ≤ c → body 1 h g) (h0 : (a < b ∨ c < a) → body 0 h g) : ∃ P : Int32 → HI → HL → Prop, w_X10_within a b c h g P ∧ ∀ (r : Int32) (h : HI) (g : HL), zb r → P r h g → body r h g := by
  refine ⟨fun r h' g' => body r h' g', ?_, fun r h g _ k => k⟩
  unfold w_X10_within
  exact ⟨fun c => h0 (.inl c), fun c1 => ⟨fun c => h0 (.inr c), fun c2 => h1 (Int32.not_lt.mp c1) (Int32.not_lt.mp c2)⟩⟩
theorem bm {z : Int} (h1 : -2147483648 ≤ z) (h2 : z < 2147483648) : z.bmod (2 ^ 32) = z := by
  unfold Int.bmod
  have e : ((2 ^ 32 : Nat) : Int) = 4294967296 := rfl
  dsimp only
  rw [e]
  by_cases c : z % 4294967296 < (4294967296 + 1) / 2
  · rw [if_pos c]; omega
  · rw [if_neg c]; omega
/-- the loops' measures -/
def dif (a x : Int32) : Nat := (a.toInt - x.toInt).toNat
theorem lt_rng (x : Int32) : -2147483648 ≤ x.toInt ∧ x.toInt < 2147483648 := ⟨Int32.le_toInt x, Int32.toInt_lt x⟩
theorem inc_i {a x : Int32} (c : ¬ a ≤ x) : (x + 1).toInt = x.toInt + 1 := by
  have h1 := lt_rng a
  have h2 := lt_rng x
  have h3 : x.toInt < a.toInt := by
    rw [Int32.le_iff_toInt_le] at c; omega
  rw [Int32.toInt_add]
  have : (1 : Int32).toInt = 1 := by decide
  rw [this]
  exact bm (by omega) (by omega)
theorem inc_j {a x : Int32} (c : ¬ a < x) (ha : a.toInt < 2147483647) : (x + 1).toInt = x.toInt + 1 := by
  have h2 := lt_rng x
  have h3 : x.toInt ≤ a.toInt := by
    rw [Int32.lt_iff_toInt_lt] at c; omega
  rw [Int32.toInt_add]
  have : (1 : Int32).toInt = 1 := by decide
  rw [this]
  exact bm (by omega) (by omega)
theorem dec_i {x : Int32} (c : ¬ x < 0) : (x + (-1)).toInt = x.toInt - 1 := by
  have h2 := lt_rng x
  have h3 : 0 ≤ x.toInt := by
    rw [Int32.lt_iff_toInt_lt] at c
    have : (0 : Int32).toInt = 0 := by decide
    omega
  rw [Int32.toInt_add]
  have : (-1 : Int32).toInt = -1 := by decide
  rw [this]
  exact bm (by omega) (by omega)
theorem dif_lt {a x : Int32} (c : ¬ a ≤ x) : dif a (x + 1) < dif a x := by
  have := inc_i c
  rw [Int32.le_iff_toInt_le] at c
  unfold dif
  omega
def dil (a x : Int32) : Nat := (a.toInt + 1 - x.toInt).toNat
theorem dil_lt {a x : Int32} (c : ¬ a < x) (ha : a.toInt < 2147483647) : dil a (x + 1) < dil a x := by
  have := inc_j c ha
  rw [Int32.lt_iff_toInt_lt] at c
  unfold dil
  omega
def prd (x : Int32) : Nat := (x.toInt + 1).toNat
theorem prd_lt {x : Int32} (c : ¬ x < 0) : prd (x + (-1)) < prd x := by
  have := dec_i c
  rw [Int32.lt_iff_toInt_lt] at c
  have : (0 : Int32).toInt = 0 := by decide
  unfold prd
  omega
theorem inc_nn {a x : Int32} (h : ¬ x < 0) (c : ¬ a ≤ x) : ¬ x + 1 < 0 := by
  have := inc_i c
  rw [Int32.lt_iff_toInt_lt] at h ⊢
  have : (0 : Int32).toInt = 0 := by decide
  omega
theorem inc_nj {a x : Int32} (h : ¬ x < 0) (c : ¬ a < x) (ha : a.toInt < 2147483647) : ¬ x + 1 < 0 := by
  have := inc_j c ha
  rw [Int32.lt_iff_toInt_lt] at h ⊢
  have : (0 : Int32).toInt = 0 := by decide
  omega
theorem nn0 : ¬ (0 : Int32) < 0 := by decide
theorem vin {x a : Int32} {n : Nat} (h : ¬ x < 0) (c : ¬ a ≤ x) (e : a.toInt = n) : vp_in x n := by
  rw [vp_in_iff]
  rw [Int32.lt_iff_toInt_lt] at h
  rw [Int32.le_iff_toInt_le] at c
  have : (0 : Int32).toInt = 0 := by decide
  omega
theorem vinw {x a b : Int32} {n : Nat} (h : a ≤ x) (c : x ≤ b) (ea : 0 ≤ a.toInt) (e : b.toInt < n) : vp_in x n := by
  rw [vp_in_iff]
  rw [Int32.le_iff_toInt_le] at h c
  omega
/-- a cell of a table, as the class reads it -/
def tat (h : HI) (o : Nat) (a b : Int32) : Int32 := if a < 0 ∨ h o 3 ≤ a ∨ b < 0 ∨ ¬ b < h o 1 then 0 else h (o + 1) (a * h o 1 + b).toNatClampNeg
theorem tat_nI {h : HI} {o m w M : Nat} (T : TT h o m w M) {a b : Nat} (ha : a < m) (hb : b < w) : tat h o (nI a) (nI b) = h (o + 1) (a * w + b) := by
  obtain ⟨h1, h2, h3, hm, hN, hw0, hw, hM0, hM⟩ := T
  have hlt : a * w + b < M * w := by
    have : (a + 1) * w ≤ M * w := Nat.mul_le_mul_right w (by omega)
    rw [Nat.add_mul, Nat.one_mul] at this
    omega
  have hMw : M * w ≤ 100 * 20 := Nat.mul_le_mul hM hw
  have e : nI a * nI w + nI b = nI (a * w + b) := by rw [pk_mul, nI_add]
  unfold tat
  rw [h1, h3, if_neg, e, nI_clamp (by omega)]
  rintro (c | c | c | c)
  · exact nI_pos (by omega) c
  · exact nI_ge ha (by omega) c
  · exact nI_pos (by omega) c
  · exact c (nI_lt hb (by omega))
theorem p_atT {h : HI} {g : HL} {o m w M : Nat} (T : TT h o m w M) {a b : Int32} : w_X8_at o a b h g (fun r h' g' => tat h o a b = r ∧ h = h' ∧ g = g') := by
  by_cases c1 : a < 0
  · refine ⟨fun _ => ⟨if_pos (.inl c1), rfl, rfl⟩, fun c => absurd c1 c⟩
  by_cases c2 : h o 3 ≤ a
  · refine ⟨fun c => absurd c c1, fun _ => ⟨fun _ => ⟨if_pos (.inr (.inl c2)), rfl, rfl⟩, fun c => absurd c2 c⟩⟩
  by_cases c3 : b < 0
  · refine ⟨fun c => absurd c c1, fun _ => ⟨fun c => absurd c c2, fun _ => ⟨fun _ => ⟨if_pos (.inr (.inr (.inl c3))), rfl, rfl⟩, fun c => absurd c3 c⟩⟩⟩
  by_cases c4 : b < h o 1
  · obtain ⟨ja, hja, rfl⟩ := nI_of c1
    obtain ⟨jb, hjb, rfl⟩ := nI_of c3
    have hT := T
    obtain ⟨h1, h2, h3, hm, hN, hw0, hw, hM0, hM⟩ := T
    have ha : ja < m := by
      rw [h3, nI_leI (by omega) (by omega)] at c2
      omega
    have hb : jb < w := by
      rw [h1, nI_ltI (by omega) (by omega)] at c4
      exact c4
    exact t_at hT ha hb ⟨tat_nI hT ha hb, rfl, rfl⟩
  · refine ⟨fun c => absurd c c1, fun _ => ⟨fun c => absurd c c2, fun _ => ⟨fun c => absurd c c3, fun _ => ⟨fun c => absurd c c4, fun _ => ⟨if_pos (.inr (.inr (.inr c4))), rfl, rfl⟩⟩⟩⟩⟩
theorem p_at {h : HI} {g : HL} {o : Nat} (C : CI h) (ho : isT o) {a b : Int32} : w_X8_at o a b h g (fun r h' g' => tat h o a b = r ∧ h = h' ∧ g = g') := by
  obtain ⟨m, w, M, T⟩ := C o ho
  exact p_atT T
theorem tat_cg {h h' : HI} {o : Nat} {a b : Int32} (e1 : h' o = h o) (e2 : h' (o + 1) = h (o + 1)) : tat h' o a b = tat h o a b := by
  unfold tat; rw [e1, e2]
theorem isT.a75 {o : Nat} (h : isT o) : o + 1 ≤ 75 := co_l (P := fun o => o + 1 ≤ 75) (by decide +kernel) h
theorem p_atJ {S : Nat → Prop} {h0 h : HI} {g : HL} {o : Nat} (C : CI h0) (J : JJ S h0 h) (nS : ∀ o, o ≤ 75 → ¬ S o) (ho : isT o) {a b : Int32} : w_X8_at o a b h g (fun r h' g' => tat h0 o a b = r ∧ h = h' ∧ g = g') := by
  rw [← tat_cg (J o (nS o (by have := ho.le; omega))) (J (o + 1) (nS _ ho.a75))]
  exact p_at (C.jj J nS) ho
theorem p_rows {h : HI} {g : HL} {o : Nat} : w_X8_rows o h g (fun r h' g' => h o 3 = r ∧ h = h' ∧ g = g') := ⟨rfl, rfl, rfl⟩
theorem p_rowsJ {S : Nat → Prop} {h0 h : HI} {g : HL} {o : Nat} (J : JJ S h0 h) (nS : ∀ o, o ≤ 75 → ¬ S o) (ho : isT o) : w_X8_rows o h g (fun r h' g' => h0 o 3 = r ∧ h = h' ∧ g = g') := by
  rw [← J o (nS o ho.le.2)]
  exact p_rows
/-- has, as a call -/
theorem c_h {o : Nat} {a : Int32} {h : HI} {g : HL} {body : Int32 → HI → HL → Prop} (h1 : ¬ a < 0 → ¬ h o 3 ≤ a → body 1 h g) (h0 : (a < 0 ∨ h o 3 ≤ a) → body 0 h g) : ∃ P : Int32 → HI → HL → Prop, w_X8_has o a h g P ∧ ∀ (r : Int32) (h : HI) (g : HL), zb r → P r h g → body r h g := by
  refine ⟨fun r h' g' => body r h' g', ?_, fun r h g _ k => k⟩
  unfold w_X8_has
  exact ⟨fun c => h0 (.inl c), fun c1 => ⟨fun c => h0 (.inr c), fun c2 => h1 c1 c2⟩⟩
def SB (o q : Nat) : Prop := q = o ∨ q = o + 1
def SLaw (q : Nat) : Prop := 77 ≤ q ∧ q ≤ 79
def SSz (q : Nat) : Prop := 81 ≤ q ∧ q ≤ 84
def SFit (q : Nat) : Prop := 81 ≤ q ∧ q ≤ 88
def SWay (q : Nat) : Prop := 89 ≤ q ∧ q ≤ 96
def SGiv (q : Nat) : Prop := 97 ≤ q ∧ q ≤ 108
def SBrk (q : Nat) : Prop := 109 ≤ q ∧ q ≤ 117
def SPln (q : Nat) : Prop := 118 ≤ q ∧ q ≤ 134
theorem nS_B {o : Nat} (h : 76 ≤ o) (q : Nat) (hq : q ≤ 75) : ¬ SB o q := by unfold SB; omega
theorem nSLaw (q : Nat) (hq : q ≤ 75) : ¬ SLaw q := by unfold SLaw; omega
theorem nSSz (q : Nat) (hq : q ≤ 75) : ¬ SSz q := by unfold SSz; omega
theorem nSFit (q : Nat) (hq : q ≤ 75) : ¬ SFit q := by unfold SFit; omega
theorem nSWay (q : Nat) (hq : q ≤ 75) : ¬ SWay q := by unfold SWay; omega
theorem nSGiv (q : Nat) (hq : q ≤ 75) : ¬ SGiv q := by unfold SGiv; omega
theorem nSBrk (q : Nat) (hq : q ≤ 75) : ¬ SBrk q := by unfold SBrk; omega
theorem nSPln (q : Nat) (hq : q ≤ 75) : ¬ SPln q := by unfold SPln; omega
theorem absI {p : Prop} (c : (1 : Int32) = 0) : p := absurd c (by decide)
theorem absN {p : Prop} (c : ¬ (0 : Int32) = 0) : p := absurd rfl c
theorem and_have {p q : Prop} (a : p) (b : p → q) : p ∧ q := ⟨a, b a⟩
def SO (o q : Nat) : Prop := q = o
theorem nS_O {o : Nat} (h : 76 ≤ o) (q : Nat) (hq : q ≤ 75) : ¬ SO o q := by unfold SO; omega
theorem ne0 {x : Int32} (c : ¬ x ≤ 0) : ¬ x = 0 := fun e => c (by rw [e]; decide)
theorem ne1 {x : Int32} (c : (1 : Int32) ≤ x) : ¬ x = 0 := fun e => absurd (e ▸ c) (by decide)
theorem lgne {x : Int64} (c : ¬ lg_cmp x 0 = 0) : ¬ x = 0 := fun e => c (by rw [e]; decide)
def P60 (x : Int32) : Prop := 0 ≤ x.toInt ∧ x.toInt ≤ 60
theorem p60_0 : P60 0 := by unfold P60; decide
theorem sub_i {x : Int32} {n : Int} {y : Int32} (e : y.toInt = n) (h0 : 0 ≤ n) (h1 : n ≤ 1000) (h : 0 ≤ x.toInt) : (x - y).toInt = x.toInt - n := by
  have h2 := lt_rng x
  rw [Int32.toInt_sub, e]
  exact bm (by omega) (by omega)
theorem add_i {x y : Int32} (h1 : -1000000000 ≤ x.toInt) (h2 : x.toInt ≤ 1000000000) (h3 : -1000000000 ≤ y.toInt) (h4 : y.toInt ≤ 1000000000) : (x + y).toInt = x.toInt + y.toInt := by
  rw [Int32.toInt_add]
  exact bm (by omega) (by omega)
theorem p60u {x : Int32} (c : x < 60) (h : P60 x) : P60 (x + 1) := by
  unfold P60 at *
  rw [Int32.lt_iff_toInt_lt] at c
  have e1 : (1 : Int32).toInt = 1 := by decide
  have e2 : (60 : Int32).toInt = 60 := by decide
  have := add_i (x := x) (y := 1) (by omega) (by omega) (by omega) (by omega)
  omega
theorem p60d {x : Int32} (c : 2 ≤ x) (h : P60 x) : P60 (x + (-1)) := by
  unfold P60 at *
  rw [Int32.le_iff_toInt_le] at c
  have e1 : (-1 : Int32).toInt = -1 := by decide
  have e2 : (2 : Int32).toInt = 2 := by decide
  have := add_i (x := x) (y := -1) (by omega) (by omega) (by omega) (by omega)
  omega
theorem v60a {x : Int32} (c : x < 60) (h : P60 x) : vp_in x 60 := by
  unfold P60 at h
  rw [Int32.lt_iff_toInt_lt] at c
  have e2 : (60 : Int32).toInt = 60 := by decide
  rw [vp_in_iff]; omega
theorem v60b {x : Int32} (c : 1 ≤ x) (h : P60 x) : vp_in (x - 1) 60 := by
  unfold P60 at h
  rw [Int32.le_iff_toInt_le] at c
  have e1 : (1 : Int32).toInt = 1 := by decide
  have := sub_i e1 (by omega) (by omega) h.1
  rw [vp_in_iff]; omega
theorem v60b' {x : Int32} (c : ¬ x ≤ 0) (h : P60 x) : vp_in (x - 1) 60 := by
  unfold P60 at h
  rw [Int32.le_iff_toInt_le] at c
  have e0 : (0 : Int32).toInt = 0 := by decide
  have e1 : (1 : Int32).toInt = 1 := by decide
  have := sub_i e1 (by omega) (by omega) h.1
  rw [vp_in_iff]; omega
theorem v60d {x : Int32} (c : 2 ≤ x) (h : P60 x) : vp_in (x + (-1)) 60 := by
  have h2 := p60d c h
  unfold P60 at h h2
  rw [Int32.le_iff_toInt_le] at c
  have e1 : (-1 : Int32).toInt = -1 := by decide
  have e2 : (2 : Int32).toInt = 2 := by decide
  have := add_i (x := x) (y := -1) (by omega) (by omega) (by omega) (by omega)
  rw [vp_in_iff]; omega
theorem v60c {x : Int32} (c : 2 ≤ x) (h : P60 x) : vp_in (x + (-1) - 1) 60 := by
  refine v60b ?_ (p60d c h)
  have h2 := p60d c h
  unfold P60 at h h2
  rw [Int32.le_iff_toInt_le] at c ⊢
  have e1 : (-1 : Int32).toInt = -1 := by decide
  have e2 : (2 : Int32).toInt = 2 := by decide
  have e3 : (1 : Int32).toInt = 1 := by decide
  have := add_i (x := x) (y := -1) (by omega) (by omega) (by omega) (by omega)
  omega
theorem v60e {x : Int32} (c : ¬ x ≤ 0) (d : ¬ 60 < x) : vp_in (x - 1) 60 := by
  refine v60b' c ?_
  unfold P60
  rw [Int32.le_iff_toInt_le] at c
  rw [Int32.lt_iff_toInt_lt] at d
  have e0 : (0 : Int32).toInt = 0 := by decide
  have e2 : (60 : Int32).toInt = 60 := by decide
  omega
theorem vinw1 {x a b : Int32} {n : Nat} (h : a ≤ x) (c : x ≤ b) (ea : 0 ≤ a.toInt) (e : b.toInt + 1 < n ∧ b.toInt < 1000000) : vp_in (x + 1) n := by
  rw [vp_in_iff]
  rw [Int32.le_iff_toInt_le] at h c
  have e1 : (1 : Int32).toInt = 1 := by decide
  have := add_i (x := x) (y := 1) (by omega) (by omega) (by omega) (by omega)
  omega
theorem vinj {x a : Int32} {n : Nat} (h : ¬ x < 0) (c : ¬ a < x) (e : a.toInt < n) : vp_in x n := by
  rw [vp_in_iff]
  rw [Int32.lt_iff_toInt_lt] at h c
  have : (0 : Int32).toInt = 0 := by decide
  omega
theorem vinl {x a : Int32} {n : Nat} (h : ¬ x < 0) (c : x < a) (e : a.toInt ≤ n) : vp_in x n := by
  rw [vp_in_iff]
  rw [Int32.lt_iff_toInt_lt] at h c
  have : (0 : Int32).toInt = 0 := by decide
  omega
theorem dif_lt' {a v x : Int32} (c : ¬ v ≤ x) (e : v = a) : dif a (x + 1) < dif a x := dif_lt (e ▸ c)
theorem vinm {x a : Int32} {n : Nat} (h : ¬ x < 0) (c : ¬ a ≤ x) (e : a.toInt ≤ n) : vp_in x n := by
  rw [vp_in_iff]
  rw [Int32.lt_iff_toInt_lt] at h
  rw [Int32.le_iff_toInt_le] at c
  have : (0 : Int32).toInt = 0 := by decide
  omega
theorem nI_or (a b : Nat) : nI a ||| nI b = nI (a ||| b) := by
  unfold nI
  apply Int32.toBitVec_inj.mp
  rw [Int32.toBitVec_or]
  show BitVec.ofNat 32 a ||| BitVec.ofNat 32 b = BitVec.ofNat 32 (a ||| b)
  apply BitVec.eq_of_toNat_eq
  rw [BitVec.toNat_or, BitVec.toNat_ofNat, BitVec.toNat_ofNat, BitVec.toNat_ofNat, Nat.or_mod_two_pow]
theorem shl_t : ∀ j : Nat, j < 10 → (1 : Int32) <<< (nI j &&& 31) = nI (2 ^ j) := by decide +kernel
theorem p_J7_fill_53178 {h : HI} {g : HL} (_hC : CI h) {o0 : Nat} {x1 : Int32} (hN : gN o0 < 2 ^ 31) : w_J7_fill_53178 o0 x1 h g (fun h' _ => JJ (SO o0) h h' ∧ ∀ k, k < gN o0 → h' o0 k = x1) := by
  unfold w_J7_fill_53178
  rintro _ rfl
  refine lpE_intro (fun q => ∃ j : Nat, j ≤ gN o0 ∧ x1 = q.1 ∧ nI j = q.2.1 ∧ nI (gN o0) = q.2.2.1 ∧ JJ (SO o0) h q.2.2.2.1 ∧ ∀ k, k < j → q.2.2.2.1 o0 k = x1) (fun q => dif q.2.2.1 q.2.1) ?_ _ ⟨0, Nat.zero_le _, rfl, nI_0, rfl, JJ.rf, fun k hk => absurd hk (Nat.not_lt_zero k)⟩
  rintro ⟨a, b, c, h1, g1⟩ K ⟨j, hj, rfl, rfl, rfl, hJ, hc⟩ hK
  unfold F_J7_fill_53178_5; dsimp only; unfold b_J7_fill_53178_5
  refine ⟨fun c => ?_, fun c => ?_⟩
  · rw [nI_leI (by omega) (by omega)] at c
    exact ⟨hJ, fun k hk => hc k (by omega)⟩
  · have hd := dif_lt c
    rw [nI_leI (by omega) (by omega)] at c
    refine ⟨vp_in_nI (by omega) (by omega), ?_⟩
    intro h2 e2
    rintro _ rfl
    refine hK _ ⟨j + 1, by omega, rfl, (nI_1 j).symm, rfl, hJ.hu e2 (by unfold SO; rfl), ?_⟩ hd
    intro k hk
    show h2 o0 k = x1
    rw [e2, hu_eq, nI_clamp (by omega)]
    by_cases ek : k = j
    · subst ek; exact pk_us
    · rw [pk_un ek]; exact hc k (by omega)
theorem rows_n {h : HI} {o : Nat} (C : CI h) (ho : isT o) : ∃ m : Nat, m ≤ 100 ∧ h o 3 = nI m := by
  obtain ⟨m, w, M, T⟩ := C o ho
  obtain ⟨h1, h2, h3, hm, hN, hw0, hw, hM0, hM⟩ := T
  exact ⟨m, by omega, h3⟩
theorem min_n {a : Nat} (ha : a ≤ 1000) {b : Nat} (hb : b ≤ 1000) : (if nI a < nI b then nI a else nI b) = nI (min a b) := by
  by_cases c : a < b
  · rw [if_pos (by rw [nI_ltI (by omega) (by omega)]; exact c), Nat.min_eq_left (by omega)]
  · rw [if_neg (by rw [nI_ltI (by omega) (by omega)]; exact c), Nat.min_eq_right (by omega)]
theorem gsp_n {h h1 : HI} (C : CI h) (e : h1 = hu h 97 5 (if h 14 3 < 9 then h 14 3 else 9)) : ∃ n : Nat, n ≤ 9 ∧ h1 97 5 = nI n := by
  obtain ⟨m, hm, em⟩ := rows_n C gs_14
  refine ⟨min m 9, by omega, ?_⟩
  rw [e, hu_eq, pk_us, em]
  exact min_n (b := 9) (by omega) (by omega)
theorem gsp_x {x v : Int32} {n : Nat} (c : ¬ v ≤ x) (T : v = nI n) (h0 : ¬ x < 0) (hn : n ≤ 9) : ∃ j : Nat, j < n ∧ x = nI j ∧ (1 : Int32) <<< (x &&& 31) = nI (2 ^ j) := by
  obtain ⟨j, hj, rfl⟩ := nI_of h0
  rw [T, nI_leI (by omega) (by omega)] at c
  exact ⟨j, by omega, rfl, shl_t j (by omega)⟩
theorem pow9 {j : Nat} (h : j < 9) : 2 ^ j ≤ 256 := by
  have : 2 ^ j ≤ 2 ^ 8 := Nat.pow_le_pow_right (by omega) (by omega)
  omega
theorem gsp_ix {x1 x6 v : Int32} {n : Nat} (c6 : ¬ (1 : Int32) <<< (x1 &&& 31) ≤ x6) (h6 : ¬ x6 < 0) (h0 : ¬ x1 < 0) (c : ¬ v ≤ x1) (T : v = nI n) (hn : n ≤ 9) : vp_in x6 512 := by
  obtain ⟨j, hj, -, e⟩ := gsp_x c T h0 hn
  obtain ⟨i, hi, rfl⟩ := nI_of h6
  have := pow9 (j := j) (by omega)
  rw [e, nI_leI (by omega) (by omega)] at c6
  exact vp_in_nI (by omega) (by omega)
theorem gsp_or {x1 x6 v : Int32} {n : Nat} (c6 : ¬ (1 : Int32) <<< (x1 &&& 31) ≤ x6) (h6 : ¬ x6 < 0) (h0 : ¬ x1 < 0) (c : ¬ v ≤ x1) (T : v = nI n) (hn : n ≤ 9) : vp_in (x6 ||| (1 : Int32) <<< (x1 &&& 31)) 512 := by
  obtain ⟨j, hj, -, e⟩ := gsp_x c T h0 hn
  obtain ⟨i, hi, rfl⟩ := nI_of h6
  have := pow9 (j := j) (by omega)
  rw [e, nI_leI (by omega) (by omega)] at c6
  rw [e, nI_or]
  have h9 : i ||| 2 ^ j < 2 ^ 9 := Nat.or_lt_two_pow (by omega) (by omega)
  exact vp_in_nI (by omega) (by omega)
theorem fd_x2 {v x : Int32} {n : Nat} (T : v = nI n) (hn : n ≤ 9) (e : x = (1 : Int32) <<< (v &&& 31)) : x = nI (2 ^ n) := by
  rw [e, T]; exact shl_t n (by omega)
theorem fd_x1 {h h1 : HI} {S : Nat → Prop} {x : Int32} (C : CI h) (J : JJ S h h1) (nS : ∀ o, o ≤ 75 → ¬ S o) (e : x = (if h 12 3 < 6 then h 12 3 else 6)) : ∃ m : Nat, m ≤ 6 ∧ x = nI m := by
  obtain ⟨m, hm, em⟩ := rows_n C gs_12
  refine ⟨min m 6, by omega, ?_⟩
  rw [e, em]
  exact min_n (b := 6) (by omega) (by omega)
theorem fd_ix {x2 x3 : Int32} {n : Nat} (e : x2 = nI (2 ^ n)) (hn : n ≤ 9) (h0 : ¬ x3 < 0) (c : ¬ x2 ≤ x3) : vp_in x3 512 := by
  obtain ⟨i, hi, rfl⟩ := nI_of h0
  have : 2 ^ n ≤ 2 ^ 9 := Nat.pow_le_pow_right (by omega) (by omega)
  rw [e, nI_leI (by omega) (by omega)] at c
  exact vp_in_nI (by omega) (by omega)
theorem fd_0 {x : Int32} {m : Nat} (e : x = nI m) (hm : m ≤ 6) : ¬ (6 : Int32) ≤ x - 1 := by
  subst e
  rw [Int32.le_iff_toInt_le]
  have e1 : (1 : Int32).toInt = 1 := by decide
  have e6 : (6 : Int32).toInt = 6 := by decide
  have e2 := nI_toInt (n := m) (by omega)
  have := sub_i (x := nI m) e1 (by omega) (by omega) (by omega)
  omega
theorem dec_nle {a x : Int32} (c : ¬ x < 0) (h : ¬ a ≤ x) : ¬ a ≤ x + (-1) := by
  have := dec_i c
  rw [Int32.le_iff_toInt_le] at h ⊢
  omega
theorem in7 {x : Int32} {m : Nat} (e : x = nI m) (hm : m ≤ 6) : vp_in x 7 := e ▸ vp_in_nI (by omega) (by omega)
/-- what is learned: bits of a byte -/
def b128 (x : Int32) : Prop := ∃ n : Nat, n ≤ 128 ∧ x = nI n
def PL (h : HI) : Prop := ∃ n : Nat, n ≤ 16 ∧ h 118 8 = nI n ∧ ∀ i : Nat, i < n → b128 (h 120 i)
theorem tg_ix {h : HI} {x2 x3 : Int32} (hP : PL h) (hx : ¬ h 118 8 ≤ x3) (a : (0 : Int32) ≤ x3) (b : (0 : Int32) ≤ x2) (c : x2 ||| h 120 x3.toNatClampNeg < 256) : vp_in (x2 ||| h 120 x3.toNatClampNeg) 256 := by
  obtain ⟨n, hn, e, hb⟩ := hP
  obtain ⟨i, hi, rfl⟩ := nI_of (Int32.not_lt.mpr a)
  obtain ⟨q, hq, rfl⟩ := nI_of (Int32.not_lt.mpr b)
  rw [e, nI_leI (by omega) (by omega)] at hx
  rw [nI_clamp (by omega)] at c ⊢
  obtain ⟨p, hp, ep⟩ := hb i (by omega)
  rw [ep, nI_or] at c ⊢
  have h9 : q ||| p < 2 ^ 31 := Nat.or_lt_two_pow (by omega) (by omega)
  rw [show (256 : Int32) = nI 256 from rfl, nI_ltI (by omega) (by omega)] at c
  exact vp_in_nI (by omega) (by omega)
theorem vinc {x a : Int32} {n : Nat} (h : (0 : Int32) ≤ x) (c : ¬ a ≤ x) (e : a.toInt = n) : vp_in x n := vin (Int32.not_lt.mpr h) c e
theorem vmx {x a b : Int32} (h : (if a < (1 : Int32) then (1 : Int32) else a) ≤ x) (c : x ≤ (if (3000 : Int32) < b then (3000 : Int32) else b)) : vp_in x 3001 := by
  rw [vp_in_iff]
  have e0 : (1 : Int32).toInt = 1 := by decide
  have e1 : (3000 : Int32).toInt = 3000 := by decide
  have h1 : 1 ≤ x.toInt := by
    by_cases q : a < (1 : Int32)
    · rw [if_pos q, Int32.le_iff_toInt_le] at h; omega
    · rw [if_neg q, Int32.le_iff_toInt_le] at h
      rw [Int32.lt_iff_toInt_lt] at q; omega
  have h2 : x.toInt ≤ 3000 := by
    by_cases q : (3000 : Int32) < b
    · rw [if_pos q, Int32.le_iff_toInt_le] at c; omega
    · rw [if_neg q, Int32.le_iff_toInt_le] at c
      rw [Int32.lt_iff_toInt_lt] at q; omega
  omega
def SC (q : Nat) : Prop := 77 ≤ q ∧ q ≤ 134
theorem nSC (q : Nat) (hq : q ≤ 75) : ¬ SC q := by unfold SC; omega
end
section
-- 21.c1
theorem p_X0_set {h : HI} {g : HL} (hC : CI h) {o : Nat} {x1 : Int32}  (hB : 76 ≤ o) : w_X0_set o x1 h g (fun h' g' => JJ (SB o) h h') := by
  unfold w_X0_set
  have hJ : JJ (SB o) h h := JJ.rf
  refine and_have (by exact vp_in_iff.mpr (by decide)) (fun hv => ?_)
  intro h_6 e_h_6
  have hJ := hJ.hu e_h_6 (by unfold SB; omega)
  intro h_9 e_h_9
  have hJ := hJ.hu e_h_9 (by unfold SB; omega)
  exact hJ
theorem p_X0_copy {h : HI} {g : HL} (hC : CI h) {o : Nat} {o1 : Nat}  (hB : 76 ≤ o) : w_X0_copy o o1 h g (fun h' g' => JJ (SB o) h h') := by
  unfold w_X0_copy
  have hJ : JJ (SB o) h h := JJ.rf
  refine and_have (by first | decide | with_reducible assumption) (fun hv => ?_)
  intro h_12 e_h_12
  have hJ := hJ.hua e_h_12 (by unfold SB; omega)
  intro h_20 e_h_20
  have hJ := hJ.hu e_h_20 (by unfold SB; omega)
  exact hJ
theorem p_X0_times {h : HI} {g : HL} (hC : CI h) {o : Nat} {x1 : Int32}  (hB : 76 ≤ o) : w_X0_times o x1 h g (fun h' g' => JJ (SB o) h h') := by
  unfold w_X0_times
  have hJ : JJ (SB o) h h := JJ.rf
  refine lpE_intro (fun ⟨x1_q, x2_q, x4_q, h_q, g_q⟩ => JJ (SB o) h h_q ∧ x1 = x1_q ∧ ¬ x4_q < 0 ∧ True) (fun ⟨x1_q, x2_q, x4_q, h_q, g_q⟩ => dif (70 : Int32) x4_q) ?_ _ ⟨hJ, rfl, nn0, trivial⟩
  rintro ⟨x1_1, x2_1, x4_1, h_1, g_1⟩ K1 ⟨hJ, rfl, i1_0, -⟩ hK1
  unfold F_X0_times_5; dsimp only; unfold b_X0_times_5
  refine ⟨fun c => ?_, fun c => ?_⟩
  · skip
    unfold j_X0_times_59
    refine ⟨fun c => ?_, fun c => ?_⟩
    · skip
      exact hJ
    · skip
      refine c_w (fun c c' => ?_) (fun c => ?_)
      · skip
        refine ⟨fun c => ?_, fun c => ?_⟩
        · exact absI c
        · skip
          refine and_have (by first | with_reducible assumption | exact vin (by with_reducible assumption) (by with_reducible assumption) (by decide) | exact vinc (by with_reducible assumption) (by with_reducible assumption) (by decide) | exact vinw (by with_reducible assumption) (by with_reducible assumption) (by decide) (by decide) | exact vinl (by with_reducible assumption) (by with_reducible assumption) (by decide) | exact v60a (by with_reducible assumption) (by with_reducible assumption) | exact v60b (by with_reducible assumption) (by with_reducible assumption) | exact v60b' (by with_reducible assumption) (by with_reducible assumption) | exact v60c (by with_reducible assumption) (by with_reducible assumption) | exact v60d (by with_reducible assumption) (by with_reducible assumption)) (fun hv => ?_)
          intro h_88 e_h_88
          have hJ := hJ.hu e_h_88 (by unfold SB; omega)
          intro h_96 e_h_96
          have hJ := hJ.hu e_h_96 (by unfold SB; omega)
          exact hJ
      · skip
        refine ⟨fun c => ?_, fun c => ?_⟩
        · skip
          exact hJ
        · exact absN c
  · skip
    refine ⟨fun c => ?_, fun c => ?_⟩
    · skip
      unfold j_X0_times_59
      refine ⟨fun c => ?_, fun c => ?_⟩
      · skip
        exact hJ
      · skip
        refine c_w (fun c c' => ?_) (fun c => ?_)
        · skip
          refine ⟨fun c => ?_, fun c => ?_⟩
          · exact absI c
          · skip
            refine and_have (by first | with_reducible assumption | exact vin (by with_reducible assumption) (by with_reducible assumption) (by decide) | exact vinc (by with_reducible assumption) (by with_reducible assumption) (by decide) | exact vinw (by with_reducible assumption) (by with_reducible assumption) (by decide) (by decide) | exact vinl (by with_reducible assumption) (by with_reducible assumption) (by decide) | exact v60a (by with_reducible assumption) (by with_reducible assumption) | exact v60b (by with_reducible assumption) (by with_reducible assumption) | exact v60b' (by with_reducible assumption) (by with_reducible assumption) | exact v60c (by with_reducible assumption) (by with_reducible assumption) | exact v60d (by with_reducible assumption) (by with_reducible assumption)) (fun hv => ?_)
            intro h_88 e_h_88
            have hJ := hJ.hu e_h_88 (by unfold SB; omega)
            intro h_96 e_h_96
            have hJ := hJ.hu e_h_96 (by unfold SB; omega)
            exact hJ
        · skip
          refine ⟨fun c => ?_, fun c => ?_⟩
          · skip
            exact hJ
          · exact absN c
    · skip
      refine and_have (by first | with_reducible assumption | exact vin (by with_reducible assumption) (by with_reducible assumption) (by decide) | exact vinc (by with_reducible assumption) (by with_reducible assumption) (by decide) | exact vinw (by with_reducible assumption) (by with_reducible assumption) (by decide) (by decide) | exact vinl (by with_reducible assumption) (by with_reducible assumption) (by decide) | exact v60a (by with_reducible assumption) (by with_reducible assumption) | exact v60b (by with_reducible assumption) (by with_reducible assumption) | exact v60b' (by with_reducible assumption) (by with_reducible assumption) | exact v60c (by with_reducible assumption) (by with_reducible assumption) | exact v60d (by with_reducible assumption) (by with_reducible assumption)) (fun hv => ?_)
      rintro _ rfl
      refine and_have (by first | with_reducible assumption | exact vin (by with_reducible assumption) (by with_reducible assumption) (by decide) | exact vinc (by with_reducible assumption) (by with_reducible assumption) (by decide) | exact vinw (by with_reducible assumption) (by with_reducible assumption) (by decide) (by decide) | exact vinl (by with_reducible assumption) (by with_reducible assumption) (by decide) | exact v60a (by with_reducible assumption) (by with_reducible assumption) | exact v60b (by with_reducible assumption) (by with_reducible assumption) | exact v60b' (by with_reducible assumption) (by with_reducible assumption) | exact v60c (by with_reducible assumption) (by with_reducible assumption) | exact v60d (by with_reducible assumption) (by with_reducible assumption)) (fun hv => ?_)
      intro h_47 e_h_47
      have hJ := hJ.hu e_h_47 (by unfold SB; omega)
      rintro _ rfl
      rintro _ rfl
      exact hK1 _ ⟨hJ, rfl, (inc_nn (by with_reducible assumption) (by with_reducible assumption)), trivial⟩ (dif_lt (by with_reducible assumption))
theorem p_X0_above {h : HI} {g : HL} (hC : CI h) {o : Nat} {o1 : Nat}   : w_X0_above o o1 h g (fun r h' g' => h = h' ∧ g = g') := by
  unfold w_X0_above
  refine ⟨fun c => ?_, fun c => ?_⟩
  · skip
    rintro _ rfl
    refine lpE_intro (fun ⟨x2_q, h_q, g_q⟩ => h = h_q ∧ g = g_q ∧ True) (fun ⟨x2_q, h_q, g_q⟩ => prd x2_q) ?_ _ ⟨rfl, rfl, trivial⟩
    rintro ⟨x2_1, h_1, g_1⟩ K1 ⟨rfl, rfl, -⟩ hK1
    unfold F_X0_above_35; dsimp only; unfold b_X0_above_35
    refine ⟨fun c => ?_, fun c => ?_⟩
    · skip
      exact ⟨rfl, rfl⟩
    · skip
      refine ⟨fun c => ?_, fun c => ?_⟩
      · skip
        exact ⟨rfl, rfl⟩
      · skip
        refine and_have (by first | with_reducible assumption | exact vin (by with_reducible assumption) (by with_reducible assumption) (by decide) | exact vinc (by with_reducible assumption) (by with_reducible assumption) (by decide) | exact vinw (by with_reducible assumption) (by with_reducible assumption) (by decide) (by decide) | exact vinl (by with_reducible assumption) (by with_reducible assumption) (by decide) | exact v60a (by with_reducible assumption) (by with_reducible assumption) | exact v60b (by with_reducible assumption) (by with_reducible assumption) | exact v60b' (by with_reducible assumption) (by with_reducible assumption) | exact v60c (by with_reducible assumption) (by with_reducible assumption) | exact v60d (by with_reducible assumption) (by with_reducible assumption)) (fun hv => ?_)
        refine and_have (by first | with_reducible assumption | exact vin (by with_reducible assumption) (by with_reducible assumption) (by decide) | exact vinc (by with_reducible assumption) (by with_reducible assumption) (by decide) | exact vinw (by with_reducible assumption) (by with_reducible assumption) (by decide) (by decide) | exact vinl (by with_reducible assumption) (by with_reducible assumption) (by decide) | exact v60a (by with_reducible assumption) (by with_reducible assumption) | exact v60b (by with_reducible assumption) (by with_reducible assumption) | exact v60b' (by with_reducible assumption) (by with_reducible assumption) | exact v60c (by with_reducible assumption) (by with_reducible assumption) | exact v60d (by with_reducible assumption) (by with_reducible assumption)) (fun hv => ?_)
        refine ⟨fun c => ?_, fun c => ?_⟩
        · skip
          rintro _ rfl
          exact hK1 _ ⟨rfl, rfl, trivial⟩ (prd_lt (by with_reducible assumption))
        · skip
          refine and_have (by first | with_reducible assumption | exact vin (by with_reducible assumption) (by with_reducible assumption) (by decide) | exact vinc (by with_reducible assumption) (by with_reducible assumption) (by decide) | exact vinw (by with_reducible assumption) (by with_reducible assumption) (by decide) (by decide) | exact vinl (by with_reducible assumption) (by with_reducible assumption) (by decide) | exact v60a (by with_reducible assumption) (by with_reducible assumption) | exact v60b (by with_reducible assumption) (by with_reducible assumption) | exact v60b' (by with_reducible assumption) (by with_reducible assumption) | exact v60c (by with_reducible assumption) (by with_reducible assumption) | exact v60d (by with_reducible assumption) (by with_reducible assumption)) (fun hv => ?_)
          refine and_have (by first | with_reducible assumption | exact vin (by with_reducible assumption) (by with_reducible assumption) (by decide) | exact vinc (by with_reducible assumption) (by with_reducible assumption) (by decide) | exact vinw (by with_reducible assumption) (by with_reducible assumption) (by decide) (by decide) | exact vinl (by with_reducible assumption) (by with_reducible assumption) (by decide) | exact v60a (by with_reducible assumption) (by with_reducible assumption) | exact v60b (by with_reducible assumption) (by with_reducible assumption) | exact v60b' (by with_reducible assumption) (by with_reducible assumption) | exact v60c (by with_reducible assumption) (by with_reducible assumption) | exact v60d (by with_reducible assumption) (by with_reducible assumption)) (fun hv => ?_)
          refine ⟨fun c => ?_, fun c => ?_⟩
          · skip
            exact ⟨rfl, rfl⟩
          · skip
            exact ⟨rfl, rfl⟩
  · skip
    refine ⟨fun c => ?_, fun c => ?_⟩
    · skip
      exact ⟨rfl, rfl⟩
    · skip
      exact ⟨rfl, rfl⟩
theorem p_X0_rows {h : HI} {g : HL} (hC : CI h) {o : Nat}   : w_X0_rows o h g (fun r h' g' => h = h' ∧ g = g') := by
  unfold w_X0_rows
  exact ⟨rfl, rfl⟩
theorem p_X0_at {h : HI} {g : HL} (hC : CI h) {o : Nat} {x1 : Int32}   : w_X0_at o x1 h g (fun r h' g' => h = h' ∧ g = g') := by
  unfold w_X0_at
  refine c_w (fun c c' => ?_) (fun c => ?_)
  · skip
    refine ⟨fun c => ?_, fun c => ?_⟩
    · exact absI c
    · skip
      refine ⟨fun c => ?_, fun c => ?_⟩
      · skip
        exact ⟨rfl, rfl⟩
      · skip
        refine and_have (by first | with_reducible assumption | exact vin (by with_reducible assumption) (by with_reducible assumption) (by decide) | exact vinc (by with_reducible assumption) (by with_reducible assumption) (by decide) | exact vinw (by with_reducible assumption) (by with_reducible assumption) (by decide) (by decide) | exact vinl (by with_reducible assumption) (by with_reducible assumption) (by decide) | exact v60a (by with_reducible assumption) (by with_reducible assumption) | exact v60b (by with_reducible assumption) (by with_reducible assumption) | exact v60b' (by with_reducible assumption) (by with_reducible assumption) | exact v60c (by with_reducible assumption) (by with_reducible assumption) | exact v60d (by with_reducible assumption) (by with_reducible assumption)) (fun hv => ?_)
        exact ⟨rfl, rfl⟩
  · skip
    refine ⟨fun c => ?_, fun c => ?_⟩
    · skip
      exact ⟨rfl, rfl⟩
    · exact absN c
theorem p_X1_side {h : HI} {g : HL} (hC : CI h) {x1 : Int32}   : w_X1_side x1 h g (fun r h' g' => h = h' ∧ g = g' ∧ isB r) := by
  unfold w_X1_side
  refine ⟨fun c => ?_, fun c => ?_⟩
  · skip
    unfold j_X1_side_15
    exact ⟨rfl, rfl, (by unfold isB; decide)⟩
  · skip
    unfold j_X1_side_15
    exact ⟨rfl, rfl, (by unfold isB; decide)⟩
theorem p_X1_oddsOf {h : HI} {g : HL} (hC : CI h) {x0 : Int32} {x1 : Int32} {x2 : Int32}   : w_X1_oddsOf x0 x1 x2 h g (fun r h' g' => h = h' ∧ g = g') := by
  unfold w_X1_oddsOf
  exact ⟨rfl, rfl⟩
theorem p_X1_shorten {h : HI} {g : HL} (hC : CI h) {x1 : Int32}   : w_X1_shorten x1 h g (fun h' g' => JJ (SBrk) h h') := by
  unfold w_X1_shorten
  have hJ : JJ (SBrk) h h := JJ.rf
  refine ⟨fun c => ?_, fun c => ?_⟩
  · skip
    exact hJ
  · skip
    refine and_have (by exact ne0 (by with_reducible assumption)) (fun hv => ?_)
    refine ⟨fun c => ?_, fun c => ?_⟩
    · skip
      exact hJ
    · skip
      refine and_have (by exact ne0 (by with_reducible assumption)) (fun hv => ?_)
      refine ⟨fun c => ?_, fun c => ?_⟩
      · skip
        exact hJ
      · skip
        refine and_have (by exact ne0 (by with_reducible assumption)) (fun hv => ?_)
        intro h_29 e_h_29
        have hJ := hJ.hu e_h_29 (by unfold SBrk; omega)
        refine and_have (by exact ne0 (by with_reducible assumption)) (fun hv => ?_)
        intro h_39 e_h_39
        have hJ := hJ.hu e_h_39 (by unfold SBrk; omega)
        exact hJ
theorem p_X1_chooseYear {h : HI} {g : HL} (hC : CI h) {x1 : Int32}   : w_X1_chooseYear x1 h g (fun h' g' => JJ (SBrk) h h') := by
  unfold w_X1_chooseYear
  have hJ : JJ (SBrk) h h := JJ.rf
  refine c_i (p_atJ hC hJ nSBrk gs_16) ?_
  rintro _ _ _ ⟨rfl, rfl, rfl⟩
  refine c_i (p_atJ hC hJ nSBrk gs_16) ?_
  rintro _ _ _ ⟨rfl, rfl, rfl⟩
  refine c_i (p_atJ hC hJ nSBrk gs_2) ?_
  rintro _ _ _ ⟨rfl, rfl, rfl⟩
  refine c_i (p_X1_oddsOf (hC.jj hJ nSBrk) ) ?_
  rintro r_47 _ _ ⟨rfl, rfl⟩
  intro h_54 e_h_54
  have hJ := hJ.hu e_h_54 (by unfold SBrk; omega)
  intro h_61 e_h_61
  have hJ := hJ.hu e_h_61 (by unfold SBrk; omega)
  refine lpE_intro (fun ⟨x4_q, h_q, g_q⟩ => JJ (SBrk) h h_q ∧ True) (fun ⟨x4_q, h_q, g_q⟩ => dif (3 : Int32) x4_q) ?_ _ ⟨hJ, trivial⟩
  rintro ⟨x4_1, h_1, g_1⟩ K1 ⟨hJ, -⟩ hK1
  unfold F_X1_chooseYear_67; dsimp only; unfold b_X1_chooseYear_67
  refine ⟨fun c => ?_, fun c => ?_⟩
  · skip
    exact hJ
  · skip
    refine c_v (p_X1_shorten (hC.jj hJ nSBrk) ) ?_
    rintro h_75 g_75 hJ2
    have hJ := hJ.tr (hJ2)
    refine c_v (p_X1_shorten (hC.jj hJ nSBrk) ) ?_
    rintro h_80 g_80 hJ2
    have hJ := hJ.tr (hJ2)
    rintro _ rfl
    exact hK1 _ ⟨hJ, trivial⟩ (dif_lt (by with_reducible assumption))
theorem p_X1_last {h : HI} {g : HL} (hC : CI h) {x1 : Int32} {x2 : Int32}   : w_X1_last x1 x2 h g (fun h' g' => JJ (SBrk) h h') := by
  unfold w_X1_last
  have hJ : JJ (SBrk) h h := JJ.rf
  refine c_v (p_X1_chooseYear (hC.jj hJ nSBrk) ) ?_
  rintro h_2 g_2 hJ2
  have hJ := hJ.tr (hJ2)
  refine c_v (p_X0_set (hC.jj hJ nSBrk) (by decide)) ?_
  rintro h_10 g_10 hJ2
  have hJ := hJ.tr (hJ2.mo (fun q hq => by unfold SB at hq; unfold SBrk; omega))
  refine c_v (p_X0_set (hC.jj hJ nSBrk) (by decide)) ?_
  rintro h_18 g_18 hJ2
  have hJ := hJ.tr (hJ2.mo (fun q hq => by unfold SB at hq; unfold SBrk; omega))
  refine lpE_intro (fun ⟨x2_q, x3_q, h_q, g_q⟩ => JJ (SBrk) h h_q ∧ x2 = x2_q ∧ True) (fun ⟨x2_q, x3_q, h_q, g_q⟩ => dif x2_q x3_q) ?_ _ ⟨hJ, rfl, trivial⟩
  rintro ⟨x2_1, x3_1, h_1, g_1⟩ K1 ⟨hJ, rfl, -⟩ hK1
  unfold F_X1_last_23; dsimp only; unfold b_X1_last_23
  refine ⟨fun c => ?_, fun c => ?_⟩
  · skip
    exact hJ
  · skip
    refine c_v (p_X0_times (hC.jj hJ nSBrk) (by decide)) ?_
    rintro h_36 g_36 hJ2
    have hJ := hJ.tr (hJ2.mo (fun q hq => by unfold SB at hq; unfold SBrk; omega))
    refine c_v (p_X0_times (hC.jj hJ nSBrk) (by decide)) ?_
    rintro h_47 g_47 hJ2
    have hJ := hJ.tr (hJ2.mo (fun q hq => by unfold SB at hq; unfold SBrk; omega))
    rintro _ rfl
    exact hK1 _ ⟨hJ, rfl, trivial⟩ (dif_lt (by with_reducible assumption))
theorem p_X1_halved {h : HI} {g : HL} (hC : CI h) {x1 : Int32}   : w_X1_halved x1 h g (fun r h' g' => JJ (SBrk) h h') := by
  unfold w_X1_halved
  have hJ : JJ (SBrk) h h := JJ.rf
  refine c_v (p_X1_chooseYear (hC.jj hJ nSBrk) ) ?_
  rintro h_2 g_2 hJ2
  have hJ := hJ.tr (hJ2)
  refine c_v (p_X0_set (hC.jj hJ nSBrk) (by decide)) ?_
  rintro h_10 g_10 hJ2
  have hJ := hJ.tr (hJ2.mo (fun q hq => by unfold SB at hq; unfold SBrk; omega))
  refine c_v (p_X0_set (hC.jj hJ nSBrk) (by decide)) ?_
  rintro h_18 g_18 hJ2
  have hJ := hJ.tr (hJ2.mo (fun q hq => by unfold SB at hq; unfold SBrk; omega))
  refine lpE_intro (fun ⟨x2_q, h_q, g_q⟩ => JJ (SBrk) h h_q ∧ True) (fun ⟨x2_q, h_q, g_q⟩ => dil (200 : Int32) x2_q) ?_ _ ⟨hJ, trivial⟩
  rintro ⟨x2_1, h_1, g_1⟩ K1 ⟨hJ, -⟩ hK1
  unfold F_X1_halved_23; dsimp only; unfold b_X1_halved_23
  refine ⟨fun c => ?_, fun c => ?_⟩
  · skip
    exact hJ
  · skip
    refine c_v (p_X0_times (hC.jj hJ nSBrk) (by decide)) ?_
    rintro h_38 g_38 hJ2
    have hJ := hJ.tr (hJ2.mo (fun q hq => by unfold SB at hq; unfold SBrk; omega))
    refine c_v (p_X0_times (hC.jj hJ nSBrk) (by decide)) ?_
    rintro h_49 g_49 hJ2
    have hJ := hJ.tr (hJ2.mo (fun q hq => by unfold SB at hq; unfold SBrk; omega))
    refine c_z (p_X0_above (hC.jj hJ nSBrk) ) ?_
    rintro r_60 _ _ ⟨rfl, rfl⟩
    refine ⟨fun c => ?_, fun c => ?_⟩
    · skip
      rintro _ rfl
      exact hK1 _ ⟨hJ, trivial⟩ (dil_lt (by with_reducible assumption) (by decide))
    · skip
      exact hJ
theorem p_X1_weigh {h : HI} {g : HL} (hC : CI h) {x1 : Int32} {x2 : Int32}   : w_X1_weigh x1 x2 h g (fun r h' g' => JJ (SBrk) h h') := by
  unfold w_X1_weigh
  have hJ : JJ (SBrk) h h := JJ.rf
  refine c_v (p_X0_set (hC.jj hJ nSBrk) (by decide)) ?_
  rintro h_5 g_5 hJ2
  have hJ := hJ.tr (hJ2.mo (fun q hq => by unfold SB at hq; unfold SBrk; omega))
  refine lpE_intro (fun ⟨x1_q, x2_q, x3_q, x4_q, h_q, g_q⟩ => JJ (SBrk) h h_q ∧ x1 = x1_q ∧ x2 = x2_q ∧ True) (fun ⟨x1_q, x2_q, x3_q, x4_q, h_q, g_q⟩ => dif (h 18 3) x4_q) ?_ _ ⟨hJ, rfl, rfl, trivial⟩
  rintro ⟨x1_1, x2_1, x3_1, x4_1, h_1, g_1⟩ K1 ⟨hJ, rfl, rfl, -⟩ hK1
  unfold F_X1_weigh_13; dsimp only; unfold b_X1_weigh_13
  refine c_i (p_rowsJ hJ nSBrk gs_18) ?_
  rintro _ _ _ ⟨rfl, rfl, rfl⟩
  refine ⟨fun c => ?_, fun c => ?_⟩
  · skip
    refine c_v (p_X0_times (hC.jj hJ nSBrk) (by decide)) ?_
    rintro h_120 g_120 hJ2
    have hJ := hJ.tr (hJ2.mo (fun q hq => by unfold SB at hq; unfold SBrk; omega))
    exact hJ
  · skip
    refine c_i (p_atJ hC hJ nSBrk gs_18) ?_
    rintro _ _ _ ⟨rfl, rfl, rfl⟩
    refine c_i (p_X1_oddsOf (hC.jj hJ nSBrk) ) ?_
    rintro r_43 _ _ ⟨rfl, rfl⟩
    refine c_w (fun c c' => ?_) (fun c => ?_)
    · skip
      refine ⟨fun c => ?_, fun c => ?_⟩
      · skip
        refine c_i (p_atJ hC hJ nSBrk gs_18) ?_
        rintro _ _ _ ⟨rfl, rfl, rfl⟩
        refine ⟨fun c => ?_, fun c => ?_⟩
        · skip
          unfold j_X1_weigh_91
          rintro _ rfl
          refine ⟨fun c => ?_, fun c => ?_⟩
          · skip
            unfold j_X1_weigh_109
            rintro _ rfl
            exact hK1 _ ⟨hJ, rfl, rfl, trivial⟩ (dif_lt (by with_reducible assumption))
          · skip
            refine c_v (p_X0_times (hC.jj hJ nSBrk) (by decide)) ?_
            rintro h_104 g_104 hJ2
            have hJ := hJ.tr (hJ2.mo (fun q hq => by unfold SB at hq; unfold SBrk; omega))
            unfold j_X1_weigh_109
            rintro _ rfl
            exact hK1 _ ⟨hJ, rfl, rfl, trivial⟩ (dif_lt (by with_reducible assumption))
        · skip
          unfold j_X1_weigh_91
          rintro _ rfl
          refine ⟨fun c => ?_, fun c => ?_⟩
          · skip
            unfold j_X1_weigh_109
            rintro _ rfl
            exact hK1 _ ⟨hJ, rfl, rfl, trivial⟩ (dif_lt (by with_reducible assumption))
          · skip
            refine c_v (p_X0_times (hC.jj hJ nSBrk) (by decide)) ?_
            rintro h_104 g_104 hJ2
            have hJ := hJ.tr (hJ2.mo (fun q hq => by unfold SB at hq; unfold SBrk; omega))
            unfold j_X1_weigh_109
            rintro _ rfl
            exact hK1 _ ⟨hJ, rfl, rfl, trivial⟩ (dif_lt (by with_reducible assumption))
      · exact absI c
    · skip
      refine ⟨fun c => ?_, fun c => ?_⟩
      · exact absN c
      · skip
        exact hJ
theorem p_X1_fit {h : HI} {g : HL} (hC : CI h)    : w_X1_fit h g (fun r h' g' => JJ (SBrk) h h') := by
  unfold w_X1_fit
  have hJ : JJ (SBrk) h h := JJ.rf
  refine lpE_intro (fun ⟨x1_q, x2_q, h_q, g_q⟩ => JJ (SBrk) h h_q ∧ True) (fun ⟨x1_q, x2_q, h_q, g_q⟩ => dif (100 : Int32) x2_q) ?_ _ ⟨hJ, trivial⟩
  rintro ⟨x1_1, x2_1, h_1, g_1⟩ K1 ⟨hJ, -⟩ hK1
  unfold F_X1_fit_4; dsimp only; unfold b_X1_fit_4
  refine ⟨fun c => ?_, fun c => ?_⟩
  · skip
    exact hJ
  · skip
    refine c_z (p_X1_weigh (hC.jj hJ nSBrk) ) ?_
    rintro r_19 h_19 g_19 hJ2
    have hJ := hJ.tr (hJ2)
    refine ⟨fun c => ?_, fun c => ?_⟩
    · skip
      refine ⟨fun c => ?_, fun c => ?_⟩
      · skip
        unfold j_X1_fit_47
        refine c_v (p_X0_copy (hC.jj hJ nSBrk) (by decide)) ?_
        rintro h_57 g_57 hJ2
        have hJ := hJ.tr (hJ2.mo (fun q hq => by unfold SB at hq; unfold SBrk; omega))
        unfold j_X1_fit_60
        rintro _ rfl
        exact hK1 _ ⟨hJ, trivial⟩ (dif_lt (by with_reducible assumption))
      · skip
        refine c_z (p_X0_above (hC.jj hJ nSBrk) ) ?_
        rintro r_41 _ _ ⟨rfl, rfl⟩
        refine ⟨fun c => ?_, fun c => ?_⟩
        · skip
          unfold j_X1_fit_60
          rintro _ rfl
          exact hK1 _ ⟨hJ, trivial⟩ (dif_lt (by with_reducible assumption))
        · skip
          unfold j_X1_fit_47
          refine c_v (p_X0_copy (hC.jj hJ nSBrk) (by decide)) ?_
          rintro h_57 g_57 hJ2
          have hJ := hJ.tr (hJ2.mo (fun q hq => by unfold SB at hq; unfold SBrk; omega))
          unfold j_X1_fit_60
          rintro _ rfl
          exact hK1 _ ⟨hJ, trivial⟩ (dif_lt (by with_reducible assumption))
    · skip
      unfold j_X1_fit_60
      rintro _ rfl
      exact hK1 _ ⟨hJ, trivial⟩ (dif_lt (by with_reducible assumption))
theorem p_X1_reached {h : HI} {g : HL} (hC : CI h) {x1 : Int32}   : w_X1_reached x1 h g (fun r h' g' => h = h' ∧ g = g') := by
  unfold w_X1_reached
  refine c_i (p_at hC gs_2) ?_
  rintro _ _ _ ⟨rfl, rfl, rfl⟩
  refine lpE_intro (fun ⟨x2_q, x3_q, x4_q, h_q, g_q⟩ => h = h_q ∧ g = g_q ∧ True) (fun ⟨x2_q, x3_q, x4_q, h_q, g_q⟩ => dif (h 2 3) x4_q) ?_ _ ⟨rfl, rfl, trivial⟩
  rintro ⟨x2_1, x3_1, x4_1, h_1, g_1⟩ K1 ⟨rfl, rfl, -⟩ hK1
  unfold F_X1_reached_18; dsimp only; unfold b_X1_reached_18
  refine c_i p_rows ?_
  rintro _ _ _ ⟨rfl, rfl, rfl⟩
  refine ⟨fun c => ?_, fun c => ?_⟩
  · skip
    exact ⟨rfl, rfl⟩
  · skip
    refine ⟨fun c => ?_, fun c => ?_⟩
    · skip
      exact ⟨rfl, rfl⟩
    · skip
      refine lpE_intro (fun ⟨x2_q, x3_q, x4_q, x5_q, h_q, g_q⟩ => x2_1 = x3_q ∧ x4_1 = x4_q ∧ h = h_q ∧ g = g_q ∧ True) (fun ⟨x2_q, x3_q, x4_q, x5_q, h_q, g_q⟩ => dif (h 2 3) x5_q) ?_ _ ⟨rfl, rfl, rfl, rfl, trivial⟩
      rintro ⟨x2_2, x3_2, x4_2, x5_2, h_2, g_2⟩ K2 ⟨rfl, rfl, rfl, rfl, -⟩ hK2
      unfold F_X1_reached_43; dsimp only; unfold b_X1_reached_43
      refine c_i p_rows ?_
      rintro _ _ _ ⟨rfl, rfl, rfl⟩
      refine ⟨fun c => ?_, fun c => ?_⟩
      · skip
        rintro _ rfl
        exact hK1 _ ⟨rfl, rfl, trivial⟩ (dif_lt (by with_reducible assumption))
      · skip
        refine ⟨fun c => ?_, fun c => ?_⟩
        · skip
          unfold j_X1_reached_84
          rintro _ rfl
          exact hK2 _ ⟨rfl, rfl, rfl, rfl, trivial⟩ (dif_lt (by with_reducible assumption))
        · skip
          refine c_i (p_at hC gs_2) ?_
          rintro _ _ _ ⟨rfl, rfl, rfl⟩
          rintro _ rfl
          unfold j_X1_reached_84
          rintro _ rfl
          exact hK2 _ ⟨rfl, rfl, rfl, rfl, trivial⟩ (dif_lt (by with_reducible assumption))
theorem p_X4_joined {h : HI} {g : HL} (hC : CI h) {x0 : Int32} {x1 : Int64} {x3 : Int64}   : w_X4_joined x0 x1 x3 h g (fun r h' g' => h = h' ∧ g = g') := by
  unfold w_X4_joined
  refine ⟨fun c => ?_, fun c => ?_, fun c => ?_, fun c => ?_, fun c => ?_, fun c => ?_, fun c => ?_, fun c => ?_, fun c => ?_, fun c => ?_⟩
  · skip
    refine ⟨fun c => ?_, fun c => ?_⟩
    · skip
      exact ⟨rfl, rfl⟩
    · skip
      refine ⟨fun c => ?_, fun c => ?_⟩
      · skip
        exact ⟨rfl, rfl⟩
      · skip
        exact ⟨rfl, rfl⟩
  · skip
    exact ⟨rfl, rfl⟩
  · skip
    exact ⟨rfl, rfl⟩
  · skip
    exact ⟨rfl, rfl⟩
  · skip
    refine ⟨fun c => ?_, fun c => ?_⟩
    · skip
      refine and_have (by exact lgne (by with_reducible assumption)) (fun hv => ?_)
      exact ⟨rfl, rfl⟩
    · skip
      exact ⟨rfl, rfl⟩
  · skip
    refine ⟨fun c => ?_, fun c => ?_⟩
    · skip
      exact ⟨rfl, rfl⟩
    · skip
      exact ⟨rfl, rfl⟩
  · skip
    refine ⟨fun c => ?_, fun c => ?_⟩
    · skip
      exact ⟨rfl, rfl⟩
    · skip
      exact ⟨rfl, rfl⟩
  · skip
    refine ⟨fun c => ?_, fun c => ?_⟩
    · skip
      exact ⟨rfl, rfl⟩
    · skip
      exact ⟨rfl, rfl⟩
  · skip
    refine ⟨fun c => ?_, fun c => ?_⟩
    · skip
      unfold j_X4_joined_96
      exact ⟨rfl, rfl⟩
    · skip
      refine ⟨fun c => ?_, fun c => ?_⟩
      · skip
        exact ⟨rfl, rfl⟩
      · skip
        unfold j_X4_joined_96
        exact ⟨rfl, rfl⟩
  · intros
    exact ⟨rfl, rfl⟩
theorem p_X4_tells {h : HI} {g : HL} (hC : CI h) {x1 : Int32} {x2 : Int32} {x3 : Int32}   : w_X4_tells x1 x2 x3 h g (fun r h' g' => h = h') := by
  unfold w_X4_tells
  refine lpE_intro (fun ⟨x1_q, x2_q, x3_q, x4_q, x5_q, h_q, g_q⟩ => x1 = x1_q ∧ x2 = x2_q ∧ x3 = x3_q ∧ h = h_q ∧ ¬ x5_q < 0 ∧ P60 x4_q ∧ True) (fun ⟨x1_q, x2_q, x3_q, x4_q, x5_q, h_q, g_q⟩ => dif (60 : Int32) x5_q) ?_ _ ⟨rfl, rfl, rfl, rfl, nn0, p60_0, trivial⟩
  rintro ⟨x1_1, x2_1, x3_1, x4_1, x5_1, h_1, g_1⟩ K1 ⟨rfl, rfl, rfl, rfl, i1_0, i1_1, -⟩ hK1
  unfold F_X4_tells_6; dsimp only; unfold b_X4_tells_6
  refine ⟨fun c => ?_, fun c => ?_⟩
  · skip
    unfold j_X4_tells_243
    refine ⟨fun c => ?_, fun c => ?_⟩
    · skip
      exact rfl
    · skip
      refine and_have (by first | with_reducible assumption | exact v60b (by with_reducible assumption) (by with_reducible assumption) | exact v60b' (by with_reducible assumption) (by with_reducible assumption)) (fun hv => ?_)
      exact rfl
  · skip
    refine ⟨fun c => ?_, fun c => ?_⟩
    · skip
      unfold j_X4_tells_243
      refine ⟨fun c => ?_, fun c => ?_⟩
      · skip
        exact rfl
      · skip
        refine and_have (by first | with_reducible assumption | exact v60b (by with_reducible assumption) (by with_reducible assumption) | exact v60b' (by with_reducible assumption) (by with_reducible assumption)) (fun hv => ?_)
        exact rfl
    · skip
      refine and_have (by first | with_reducible assumption | exact vin (by with_reducible assumption) (by with_reducible assumption) (by decide) | exact vinc (by with_reducible assumption) (by with_reducible assumption) (by decide) | exact vinw (by with_reducible assumption) (by with_reducible assumption) (by decide) (by decide) | exact vinl (by with_reducible assumption) (by with_reducible assumption) (by decide) | exact v60a (by with_reducible assumption) (by with_reducible assumption) | exact v60b (by with_reducible assumption) (by with_reducible assumption) | exact v60b' (by with_reducible assumption) (by with_reducible assumption) | exact v60c (by with_reducible assumption) (by with_reducible assumption) | exact v60d (by with_reducible assumption) (by with_reducible assumption)) (fun hv => ?_)
      rintro _ rfl
      refine ⟨fun c => ?_, fun c => ?_⟩
      · skip
        unfold j_X4_tells_60
        refine ⟨fun c => ?_, fun c => ?_⟩
        · skip
          refine ⟨fun c => ?_, fun c => ?_⟩
          · skip
            refine ⟨fun c => ?_, fun c => ?_⟩
            · skip
              refine ⟨fun c => ?_, fun c => ?_⟩
              · skip
                unfold j_X4_tells_115
                refine and_have (by first | with_reducible assumption | exact vin (by with_reducible assumption) (by with_reducible assumption) (by decide) | exact vinc (by with_reducible assumption) (by with_reducible assumption) (by decide) | exact vinw (by with_reducible assumption) (by with_reducible assumption) (by decide) (by decide) | exact vinl (by with_reducible assumption) (by with_reducible assumption) (by decide) | exact v60a (by with_reducible assumption) (by with_reducible assumption) | exact v60b (by with_reducible assumption) (by with_reducible assumption) | exact v60b' (by with_reducible assumption) (by with_reducible assumption) | exact v60c (by with_reducible assumption) (by with_reducible assumption) | exact v60d (by with_reducible assumption) (by with_reducible assumption)) (fun hv => ?_)
                intro g_115 e_g_115
                rintro _ rfl
                unfold j_X4_tells_237
                rintro _ rfl
                exact hK1 _ ⟨rfl, rfl, rfl, rfl, (inc_nn (by with_reducible assumption) (by with_reducible assumption)), (p60u (by with_reducible assumption) (by with_reducible assumption)), trivial⟩ (dif_lt (by with_reducible assumption))
              · skip
                unfold j_X4_tells_115
                refine and_have (by first | with_reducible assumption | exact vin (by with_reducible assumption) (by with_reducible assumption) (by decide) | exact vinc (by with_reducible assumption) (by with_reducible assumption) (by decide) | exact vinw (by with_reducible assumption) (by with_reducible assumption) (by decide) (by decide) | exact vinl (by with_reducible assumption) (by with_reducible assumption) (by decide) | exact v60a (by with_reducible assumption) (by with_reducible assumption) | exact v60b (by with_reducible assumption) (by with_reducible assumption) | exact v60b' (by with_reducible assumption) (by with_reducible assumption) | exact v60c (by with_reducible assumption) (by with_reducible assumption) | exact v60d (by with_reducible assumption) (by with_reducible assumption)) (fun hv => ?_)
                intro g_115 e_g_115
                rintro _ rfl
                unfold j_X4_tells_237
                rintro _ rfl
                exact hK1 _ ⟨rfl, rfl, rfl, rfl, (inc_nn (by with_reducible assumption) (by with_reducible assumption)), (p60u (by with_reducible assumption) (by with_reducible assumption)), trivial⟩ (dif_lt (by with_reducible assumption))
            · skip
              unfold j_X4_tells_115
              refine and_have (by first | with_reducible assumption | exact vin (by with_reducible assumption) (by with_reducible assumption) (by decide) | exact vinc (by with_reducible assumption) (by with_reducible assumption) (by decide) | exact vinw (by with_reducible assumption) (by with_reducible assumption) (by decide) (by decide) | exact vinl (by with_reducible assumption) (by with_reducible assumption) (by decide) | exact v60a (by with_reducible assumption) (by with_reducible assumption) | exact v60b (by with_reducible assumption) (by with_reducible assumption) | exact v60b' (by with_reducible assumption) (by with_reducible assumption) | exact v60c (by with_reducible assumption) (by with_reducible assumption) | exact v60d (by with_reducible assumption) (by with_reducible assumption)) (fun hv => ?_)
              intro g_115 e_g_115
              rintro _ rfl
              unfold j_X4_tells_237
              rintro _ rfl
              exact hK1 _ ⟨rfl, rfl, rfl, rfl, (inc_nn (by with_reducible assumption) (by with_reducible assumption)), (p60u (by with_reducible assumption) (by with_reducible assumption)), trivial⟩ (dif_lt (by with_reducible assumption))
          · skip
            unfold j_X4_tells_115
            refine and_have (by first | with_reducible assumption | exact vin (by with_reducible assumption) (by with_reducible assumption) (by decide) | exact vinc (by with_reducible assumption) (by with_reducible assumption) (by decide) | exact vinw (by with_reducible assumption) (by with_reducible assumption) (by decide) (by decide) | exact vinl (by with_reducible assumption) (by with_reducible assumption) (by decide) | exact v60a (by with_reducible assumption) (by with_reducible assumption) | exact v60b (by with_reducible assumption) (by with_reducible assumption) | exact v60b' (by with_reducible assumption) (by with_reducible assumption) | exact v60c (by with_reducible assumption) (by with_reducible assumption) | exact v60d (by with_reducible assumption) (by with_reducible assumption)) (fun hv => ?_)
            intro g_115 e_g_115
            rintro _ rfl
            unfold j_X4_tells_237
            rintro _ rfl
            exact hK1 _ ⟨rfl, rfl, rfl, rfl, (inc_nn (by with_reducible assumption) (by with_reducible assumption)), (p60u (by with_reducible assumption) (by with_reducible assumption)), trivial⟩ (dif_lt (by with_reducible assumption))
        · skip
          exact rfl
      · skip
        refine ⟨fun c => ?_, fun c => ?_⟩
        · skip
          unfold j_X4_tells_60
          refine ⟨fun c => ?_, fun c => ?_⟩
          · skip
            refine ⟨fun c => ?_, fun c => ?_⟩
            · skip
              refine ⟨fun c => ?_, fun c => ?_⟩
              · skip
                refine ⟨fun c => ?_, fun c => ?_⟩
                · skip
                  unfold j_X4_tells_115
                  refine and_have (by first | with_reducible assumption | exact vin (by with_reducible assumption) (by with_reducible assumption) (by decide) | exact vinc (by with_reducible assumption) (by with_reducible assumption) (by decide) | exact vinw (by with_reducible assumption) (by with_reducible assumption) (by decide) (by decide) | exact vinl (by with_reducible assumption) (by with_reducible assumption) (by decide) | exact v60a (by with_reducible assumption) (by with_reducible assumption) | exact v60b (by with_reducible assumption) (by with_reducible assumption) | exact v60b' (by with_reducible assumption) (by with_reducible assumption) | exact v60c (by with_reducible assumption) (by with_reducible assumption) | exact v60d (by with_reducible assumption) (by with_reducible assumption)) (fun hv => ?_)
                  intro g_115 e_g_115
                  rintro _ rfl
                  unfold j_X4_tells_237
                  rintro _ rfl
                  exact hK1 _ ⟨rfl, rfl, rfl, rfl, (inc_nn (by with_reducible assumption) (by with_reducible assumption)), (p60u (by with_reducible assumption) (by with_reducible assumption)), trivial⟩ (dif_lt (by with_reducible assumption))
                · skip
                  unfold j_X4_tells_115
                  refine and_have (by first | with_reducible assumption | exact vin (by with_reducible assumption) (by with_reducible assumption) (by decide) | exact vinc (by with_reducible assumption) (by with_reducible assumption) (by decide) | exact vinw (by with_reducible assumption) (by with_reducible assumption) (by decide) (by decide) | exact vinl (by with_reducible assumption) (by with_reducible assumption) (by decide) | exact v60a (by with_reducible assumption) (by with_reducible assumption) | exact v60b (by with_reducible assumption) (by with_reducible assumption) | exact v60b' (by with_reducible assumption) (by with_reducible assumption) | exact v60c (by with_reducible assumption) (by with_reducible assumption) | exact v60d (by with_reducible assumption) (by with_reducible assumption)) (fun hv => ?_)
                  intro g_115 e_g_115
                  rintro _ rfl
                  unfold j_X4_tells_237
                  rintro _ rfl
                  exact hK1 _ ⟨rfl, rfl, rfl, rfl, (inc_nn (by with_reducible assumption) (by with_reducible assumption)), (p60u (by with_reducible assumption) (by with_reducible assumption)), trivial⟩ (dif_lt (by with_reducible assumption))
              · skip
                unfold j_X4_tells_115
                refine and_have (by first | with_reducible assumption | exact vin (by with_reducible assumption) (by with_reducible assumption) (by decide) | exact vinc (by with_reducible assumption) (by with_reducible assumption) (by decide) | exact vinw (by with_reducible assumption) (by with_reducible assumption) (by decide) (by decide) | exact vinl (by with_reducible assumption) (by with_reducible assumption) (by decide) | exact v60a (by with_reducible assumption) (by with_reducible assumption) | exact v60b (by with_reducible assumption) (by with_reducible assumption) | exact v60b' (by with_reducible assumption) (by with_reducible assumption) | exact v60c (by with_reducible assumption) (by with_reducible assumption) | exact v60d (by with_reducible assumption) (by with_reducible assumption)) (fun hv => ?_)
                intro g_115 e_g_115
                rintro _ rfl
                unfold j_X4_tells_237
                rintro _ rfl
                exact hK1 _ ⟨rfl, rfl, rfl, rfl, (inc_nn (by with_reducible assumption) (by with_reducible assumption)), (p60u (by with_reducible assumption) (by with_reducible assumption)), trivial⟩ (dif_lt (by with_reducible assumption))
            · skip
              unfold j_X4_tells_115
              refine and_have (by first | with_reducible assumption | exact vin (by with_reducible assumption) (by with_reducible assumption) (by decide) | exact vinc (by with_reducible assumption) (by with_reducible assumption) (by decide) | exact vinw (by with_reducible assumption) (by with_reducible assumption) (by decide) (by decide) | exact vinl (by with_reducible assumption) (by with_reducible assumption) (by decide) | exact v60a (by with_reducible assumption) (by with_reducible assumption) | exact v60b (by with_reducible assumption) (by with_reducible assumption) | exact v60b' (by with_reducible assumption) (by with_reducible assumption) | exact v60c (by with_reducible assumption) (by with_reducible assumption) | exact v60d (by with_reducible assumption) (by with_reducible assumption)) (fun hv => ?_)
              intro g_115 e_g_115
              rintro _ rfl
              unfold j_X4_tells_237
              rintro _ rfl
              exact hK1 _ ⟨rfl, rfl, rfl, rfl, (inc_nn (by with_reducible assumption) (by with_reducible assumption)), (p60u (by with_reducible assumption) (by with_reducible assumption)), trivial⟩ (dif_lt (by with_reducible assumption))
          · skip
            exact rfl
        · skip
          refine ⟨fun c => ?_, fun c => ?_⟩
          · skip
            unfold j_X4_tells_60
            refine ⟨fun c => ?_, fun c => ?_⟩
            · skip
              refine ⟨fun c => ?_, fun c => ?_⟩
              · skip
                refine ⟨fun c => ?_, fun c => ?_⟩
                · skip
                  refine ⟨fun c => ?_, fun c => ?_⟩
                  · skip
                    unfold j_X4_tells_115
                    refine and_have (by first | with_reducible assumption | exact vin (by with_reducible assumption) (by with_reducible assumption) (by decide) | exact vinc (by with_reducible assumption) (by with_reducible assumption) (by decide) | exact vinw (by with_reducible assumption) (by with_reducible assumption) (by decide) (by decide) | exact vinl (by with_reducible assumption) (by with_reducible assumption) (by decide) | exact v60a (by with_reducible assumption) (by with_reducible assumption) | exact v60b (by with_reducible assumption) (by with_reducible assumption) | exact v60b' (by with_reducible assumption) (by with_reducible assumption) | exact v60c (by with_reducible assumption) (by with_reducible assumption) | exact v60d (by with_reducible assumption) (by with_reducible assumption)) (fun hv => ?_)
                    intro g_115 e_g_115
                    rintro _ rfl
                    unfold j_X4_tells_237
                    rintro _ rfl
                    exact hK1 _ ⟨rfl, rfl, rfl, rfl, (inc_nn (by with_reducible assumption) (by with_reducible assumption)), (p60u (by with_reducible assumption) (by with_reducible assumption)), trivial⟩ (dif_lt (by with_reducible assumption))
                  · skip
                    unfold j_X4_tells_115
                    refine and_have (by first | with_reducible assumption | exact vin (by with_reducible assumption) (by with_reducible assumption) (by decide) | exact vinc (by with_reducible assumption) (by with_reducible assumption) (by decide) | exact vinw (by with_reducible assumption) (by with_reducible assumption) (by decide) (by decide) | exact vinl (by with_reducible assumption) (by with_reducible assumption) (by decide) | exact v60a (by with_reducible assumption) (by with_reducible assumption) | exact v60b (by with_reducible assumption) (by with_reducible assumption) | exact v60b' (by with_reducible assumption) (by with_reducible assumption) | exact v60c (by with_reducible assumption) (by with_reducible assumption) | exact v60d (by with_reducible assumption) (by with_reducible assumption)) (fun hv => ?_)
                    intro g_115 e_g_115
                    rintro _ rfl
                    unfold j_X4_tells_237
                    rintro _ rfl
                    exact hK1 _ ⟨rfl, rfl, rfl, rfl, (inc_nn (by with_reducible assumption) (by with_reducible assumption)), (p60u (by with_reducible assumption) (by with_reducible assumption)), trivial⟩ (dif_lt (by with_reducible assumption))
                · skip
                  unfold j_X4_tells_115
                  refine and_have (by first | with_reducible assumption | exact vin (by with_reducible assumption) (by with_reducible assumption) (by decide) | exact vinc (by with_reducible assumption) (by with_reducible assumption) (by decide) | exact vinw (by with_reducible assumption) (by with_reducible assumption) (by decide) (by decide) | exact vinl (by with_reducible assumption) (by with_reducible assumption) (by decide) | exact v60a (by with_reducible assumption) (by with_reducible assumption) | exact v60b (by with_reducible assumption) (by with_reducible assumption) | exact v60b' (by with_reducible assumption) (by with_reducible assumption) | exact v60c (by with_reducible assumption) (by with_reducible assumption) | exact v60d (by with_reducible assumption) (by with_reducible assumption)) (fun hv => ?_)
                  intro g_115 e_g_115
                  rintro _ rfl
                  unfold j_X4_tells_237
                  rintro _ rfl
                  exact hK1 _ ⟨rfl, rfl, rfl, rfl, (inc_nn (by with_reducible assumption) (by with_reducible assumption)), (p60u (by with_reducible assumption) (by with_reducible assumption)), trivial⟩ (dif_lt (by with_reducible assumption))
              · skip
                unfold j_X4_tells_115
                refine and_have (by first | with_reducible assumption | exact vin (by with_reducible assumption) (by with_reducible assumption) (by decide) | exact vinc (by with_reducible assumption) (by with_reducible assumption) (by decide) | exact vinw (by with_reducible assumption) (by with_reducible assumption) (by decide) (by decide) | exact vinl (by with_reducible assumption) (by with_reducible assumption) (by decide) | exact v60a (by with_reducible assumption) (by with_reducible assumption) | exact v60b (by with_reducible assumption) (by with_reducible assumption) | exact v60b' (by with_reducible assumption) (by with_reducible assumption) | exact v60c (by with_reducible assumption) (by with_reducible assumption) | exact v60d (by with_reducible assumption) (by with_reducible assumption)) (fun hv => ?_)
                intro g_115 e_g_115
                rintro _ rfl
                unfold j_X4_tells_237
                rintro _ rfl
                exact hK1 _ ⟨rfl, rfl, rfl, rfl, (inc_nn (by with_reducible assumption) (by with_reducible assumption)), (p60u (by with_reducible assumption) (by with_reducible assumption)), trivial⟩ (dif_lt (by with_reducible assumption))
            · skip
              exact rfl
          · skip
            refine ⟨fun c => ?_, fun c => ?_⟩
            · skip
              refine ⟨fun c => ?_, fun c => ?_⟩
              · skip
                unfold j_X4_tells_136
                refine ⟨fun c => ?_, fun c => ?_⟩
                · skip
                  refine ⟨fun c => ?_, fun c => ?_⟩
                  · skip
                    refine and_have (by first | with_reducible assumption | exact v60b (by with_reducible assumption) (by with_reducible assumption) | exact v60b' (by with_reducible assumption) (by with_reducible assumption)) (fun hv => ?_)
                    refine ⟨fun c => ?_, fun c => ?_⟩
                    · skip
                      unfold j_X4_tells_191
                      refine and_have (by first | with_reducible assumption | exact v60b (by with_reducible assumption) (by with_reducible assumption) | exact v60b' (by with_reducible assumption) (by with_reducible assumption)) (fun hv => ?_)
                      intro g_191 e_g_191
                      unfold j_X4_tells_237
                      rintro _ rfl
                      exact hK1 _ ⟨rfl, rfl, rfl, rfl, (inc_nn (by with_reducible assumption) (by with_reducible assumption)), (by with_reducible assumption), trivial⟩ (dif_lt (by with_reducible assumption))
                    · skip
                      unfold j_X4_tells_191
                      refine and_have (by first | with_reducible assumption | exact v60b (by with_reducible assumption) (by with_reducible assumption) | exact v60b' (by with_reducible assumption) (by with_reducible assumption)) (fun hv => ?_)
                      intro g_191 e_g_191
                      unfold j_X4_tells_237
                      rintro _ rfl
                      exact hK1 _ ⟨rfl, rfl, rfl, rfl, (inc_nn (by with_reducible assumption) (by with_reducible assumption)), (by with_reducible assumption), trivial⟩ (dif_lt (by with_reducible assumption))
                  · skip
                    refine and_have (by first | with_reducible assumption | exact v60b (by with_reducible assumption) (by with_reducible assumption) | exact v60b' (by with_reducible assumption) (by with_reducible assumption)) (fun hv => ?_)
                    unfold j_X4_tells_191
                    refine and_have (by first | with_reducible assumption | exact v60b (by with_reducible assumption) (by with_reducible assumption) | exact v60b' (by with_reducible assumption) (by with_reducible assumption)) (fun hv => ?_)
                    intro g_191 e_g_191
                    unfold j_X4_tells_237
                    rintro _ rfl
                    exact hK1 _ ⟨rfl, rfl, rfl, rfl, (inc_nn (by with_reducible assumption) (by with_reducible assumption)), (by with_reducible assumption), trivial⟩ (dif_lt (by with_reducible assumption))
                · skip
                  exact rfl
              · skip
                refine ⟨fun c => ?_, fun c => ?_⟩
                · skip
                  refine ⟨fun c => ?_, fun c => ?_⟩
                  · skip
                    rintro _ rfl
                    refine and_have (by first | with_reducible assumption | exact v60c (by with_reducible assumption) (by with_reducible assumption)) (fun hv => ?_)
                    refine and_have (by exact v60d (by with_reducible assumption) (by with_reducible assumption)) (fun hv => ?_)
                    refine c_l (p_X4_joined hC ) ?_
                    rintro r_233 _ _ ⟨rfl, rfl⟩
                    refine and_have (by first | with_reducible assumption | exact v60c (by with_reducible assumption) (by with_reducible assumption)) (fun hv => ?_)
                    intro g_236 e_g_236
                    unfold j_X4_tells_237
                    rintro _ rfl
                    exact hK1 _ ⟨rfl, rfl, rfl, rfl, (inc_nn (by with_reducible assumption) (by with_reducible assumption)), (p60d (by with_reducible assumption) (by with_reducible assumption)), trivial⟩ (dif_lt (by with_reducible assumption))
                  · skip
                    exact rfl
                · skip
                  unfold j_X4_tells_136
                  refine ⟨fun c => ?_, fun c => ?_⟩
                  · skip
                    refine ⟨fun c => ?_, fun c => ?_⟩
                    · skip
                      refine and_have (by first | with_reducible assumption | exact v60b (by with_reducible assumption) (by with_reducible assumption) | exact v60b' (by with_reducible assumption) (by with_reducible assumption)) (fun hv => ?_)
                      refine ⟨fun c => ?_, fun c => ?_⟩
                      · skip
                        unfold j_X4_tells_191
                        refine and_have (by first | with_reducible assumption | exact v60b (by with_reducible assumption) (by with_reducible assumption) | exact v60b' (by with_reducible assumption) (by with_reducible assumption)) (fun hv => ?_)
                        intro g_191 e_g_191
                        unfold j_X4_tells_237
                        rintro _ rfl
                        exact hK1 _ ⟨rfl, rfl, rfl, rfl, (inc_nn (by with_reducible assumption) (by with_reducible assumption)), (by with_reducible assumption), trivial⟩ (dif_lt (by with_reducible assumption))
                      · skip
                        unfold j_X4_tells_191
                        refine and_have (by first | with_reducible assumption | exact v60b (by with_reducible assumption) (by with_reducible assumption) | exact v60b' (by with_reducible assumption) (by with_reducible assumption)) (fun hv => ?_)
                        intro g_191 e_g_191
                        unfold j_X4_tells_237
                        rintro _ rfl
                        exact hK1 _ ⟨rfl, rfl, rfl, rfl, (inc_nn (by with_reducible assumption) (by with_reducible assumption)), (by with_reducible assumption), trivial⟩ (dif_lt (by with_reducible assumption))
                    · skip
                      refine and_have (by first | with_reducible assumption | exact v60b (by with_reducible assumption) (by with_reducible assumption) | exact v60b' (by with_reducible assumption) (by with_reducible assumption)) (fun hv => ?_)
                      unfold j_X4_tells_191
                      refine and_have (by first | with_reducible assumption | exact v60b (by with_reducible assumption) (by with_reducible assumption) | exact v60b' (by with_reducible assumption) (by with_reducible assumption)) (fun hv => ?_)
                      intro g_191 e_g_191
                      unfold j_X4_tells_237
                      rintro _ rfl
                      exact hK1 _ ⟨rfl, rfl, rfl, rfl, (inc_nn (by with_reducible assumption) (by with_reducible assumption)), (by with_reducible assumption), trivial⟩ (dif_lt (by with_reducible assumption))
                  · skip
                    exact rfl
            · skip
              unfold j_X4_tells_60
              refine ⟨fun c => ?_, fun c => ?_⟩
              · skip
                refine ⟨fun c => ?_, fun c => ?_⟩
                · skip
                  refine ⟨fun c => ?_, fun c => ?_⟩
                  · skip
                    refine ⟨fun c => ?_, fun c => ?_⟩
                    · skip
                      unfold j_X4_tells_115
                      refine and_have (by first | with_reducible assumption | exact vin (by with_reducible assumption) (by with_reducible assumption) (by decide) | exact vinc (by with_reducible assumption) (by with_reducible assumption) (by decide) | exact vinw (by with_reducible assumption) (by with_reducible assumption) (by decide) (by decide) | exact vinl (by with_reducible assumption) (by with_reducible assumption) (by decide) | exact v60a (by with_reducible assumption) (by with_reducible assumption) | exact v60b (by with_reducible assumption) (by with_reducible assumption) | exact v60b' (by with_reducible assumption) (by with_reducible assumption) | exact v60c (by with_reducible assumption) (by with_reducible assumption) | exact v60d (by with_reducible assumption) (by with_reducible assumption)) (fun hv => ?_)
                      intro g_115 e_g_115
                      rintro _ rfl
                      unfold j_X4_tells_237
                      rintro _ rfl
                      exact hK1 _ ⟨rfl, rfl, rfl, rfl, (inc_nn (by with_reducible assumption) (by with_reducible assumption)), (p60u (by with_reducible assumption) (by with_reducible assumption)), trivial⟩ (dif_lt (by with_reducible assumption))
                    · skip
                      unfold j_X4_tells_115
                      refine and_have (by first | with_reducible assumption | exact vin (by with_reducible assumption) (by with_reducible assumption) (by decide) | exact vinc (by with_reducible assumption) (by with_reducible assumption) (by decide) | exact vinw (by with_reducible assumption) (by with_reducible assumption) (by decide) (by decide) | exact vinl (by with_reducible assumption) (by with_reducible assumption) (by decide) | exact v60a (by with_reducible assumption) (by with_reducible assumption) | exact v60b (by with_reducible assumption) (by with_reducible assumption) | exact v60b' (by with_reducible assumption) (by with_reducible assumption) | exact v60c (by with_reducible assumption) (by with_reducible assumption) | exact v60d (by with_reducible assumption) (by with_reducible assumption)) (fun hv => ?_)
                      intro g_115 e_g_115
                      rintro _ rfl
                      unfold j_X4_tells_237
                      rintro _ rfl
                      exact hK1 _ ⟨rfl, rfl, rfl, rfl, (inc_nn (by with_reducible assumption) (by with_reducible assumption)), (p60u (by with_reducible assumption) (by with_reducible assumption)), trivial⟩ (dif_lt (by with_reducible assumption))
                  · skip
                    unfold j_X4_tells_115
                    refine and_have (by first | with_reducible assumption | exact vin (by with_reducible assumption) (by with_reducible assumption) (by decide) | exact vinc (by with_reducible assumption) (by with_reducible assumption) (by decide) | exact vinw (by with_reducible assumption) (by with_reducible assumption) (by decide) (by decide) | exact vinl (by with_reducible assumption) (by with_reducible assumption) (by decide) | exact v60a (by with_reducible assumption) (by with_reducible assumption) | exact v60b (by with_reducible assumption) (by with_reducible assumption) | exact v60b' (by with_reducible assumption) (by with_reducible assumption) | exact v60c (by with_reducible assumption) (by with_reducible assumption) | exact v60d (by with_reducible assumption) (by with_reducible assumption)) (fun hv => ?_)
                    intro g_115 e_g_115
                    rintro _ rfl
                    unfold j_X4_tells_237
                    rintro _ rfl
                    exact hK1 _ ⟨rfl, rfl, rfl, rfl, (inc_nn (by with_reducible assumption) (by with_reducible assumption)), (p60u (by with_reducible assumption) (by with_reducible assumption)), trivial⟩ (dif_lt (by with_reducible assumption))
                · skip
                  unfold j_X4_tells_115
                  refine and_have (by first | with_reducible assumption | exact vin (by with_reducible assumption) (by with_reducible assumption) (by decide) | exact vinc (by with_reducible assumption) (by with_reducible assumption) (by decide) | exact vinw (by with_reducible assumption) (by with_reducible assumption) (by decide) (by decide) | exact vinl (by with_reducible assumption) (by with_reducible assumption) (by decide) | exact v60a (by with_reducible assumption) (by with_reducible assumption) | exact v60b (by with_reducible assumption) (by with_reducible assumption) | exact v60b' (by with_reducible assumption) (by with_reducible assumption) | exact v60c (by with_reducible assumption) (by with_reducible assumption) | exact v60d (by with_reducible assumption) (by with_reducible assumption)) (fun hv => ?_)
                  intro g_115 e_g_115
                  rintro _ rfl
                  unfold j_X4_tells_237
                  rintro _ rfl
                  exact hK1 _ ⟨rfl, rfl, rfl, rfl, (inc_nn (by with_reducible assumption) (by with_reducible assumption)), (p60u (by with_reducible assumption) (by with_reducible assumption)), trivial⟩ (dif_lt (by with_reducible assumption))
              · skip
                exact rfl
theorem p_X4_wornOf {h : HI} {g : HL} (hC : CI h) {x1 : Int32} {x2 : Int32}   : w_X4_wornOf x1 x2 h g (fun r h' g' => h = h') := by
  unfold w_X4_wornOf
  refine c_i (p_at hC gs_2) ?_
  rintro _ _ _ ⟨rfl, rfl, rfl⟩
  rintro _ rfl
  refine ⟨fun c => ?_, fun c => ?_⟩
  · skip
    refine c_i (p_at hC gs_2) ?_
    rintro _ _ _ ⟨rfl, rfl, rfl⟩
    refine c_i (p_at hC gs_2) ?_
    rintro _ _ _ ⟨rfl, rfl, rfl⟩
    refine c_l (p_X4_tells hC ) ?_
    rintro r_55 _ g_55 rfl
    exact rfl
  · skip
    exact rfl
theorem p_X4_flaw {h : HI} {g : HL} (hC : CI h)    : w_X4_flaw h g (fun r h' g' => h = h' ∧ g = g') := by
  unfold w_X4_flaw
  exact ⟨rfl, rfl⟩
theorem p_X4_put {h : HI} {g : HL} (hC : CI h) {x1 : Int32}   : w_X4_put x1 h g (fun h' g' => JJ (SLaw) h h') := by
  unfold w_X4_put
  have hJ : JJ (SLaw) h h := JJ.rf
  refine ⟨fun c => ?_, fun c => ?_⟩
  · skip
    exact hJ
  · skip
    refine ⟨fun c => ?_, fun c => ?_⟩
    · skip
      exact hJ
    · skip
      refine and_have (by first | with_reducible assumption | exact vin (by with_reducible assumption) (by with_reducible assumption) (by decide) | exact vinc (by with_reducible assumption) (by with_reducible assumption) (by decide) | exact vinw (by with_reducible assumption) (by with_reducible assumption) (by decide) (by decide) | exact vinl (by with_reducible assumption) (by with_reducible assumption) (by decide) | exact v60a (by with_reducible assumption) (by with_reducible assumption) | exact v60b (by with_reducible assumption) (by with_reducible assumption) | exact v60b' (by with_reducible assumption) (by with_reducible assumption) | exact v60c (by with_reducible assumption) (by with_reducible assumption) | exact v60d (by with_reducible assumption) (by with_reducible assumption)) (fun hv => ?_)
      intro h_28 e_h_28
      have hJ := hJ.hu e_h_28 (by unfold SLaw; omega)
      intro h_36 e_h_36
      have hJ := hJ.hu e_h_36 (by unfold SLaw; omega)
      exact hJ
theorem p_X4_readDigit {h : HI} {g : HL} (hC : CI h) {x1 : Int32} {x2 : Int32}   : w_X4_readDigit x1 x2 h g (fun h' g' => JJ (SLaw) h h') := by
  unfold w_X4_readDigit
  have hJ : JJ (SLaw) h h := JJ.rf
  refine ⟨fun c => ?_, fun c => ?_⟩
  · skip
    unfold j_X4_readDigit_27
    refine ⟨fun c => ?_, fun c => ?_⟩
    · skip
      refine ⟨fun c => ?_, fun c => ?_⟩
      · skip
        unfold j_X4_readDigit_102
        refine c_v (p_X4_put (hC.jj hJ nSLaw) ) ?_
        rintro h_109 g_109 hJ2
        have hJ := hJ.tr (hJ2)
        intro h_119 e_h_119
        have hJ := hJ.hu e_h_119 (by unfold SLaw; omega)
        intro h_124 e_h_124
        have hJ := hJ.hu e_h_124 (by unfold SLaw; omega)
        exact hJ
      · skip
        refine ⟨fun c => ?_, fun c => ?_⟩
        · skip
          unfold j_X4_readDigit_102
          refine c_v (p_X4_put (hC.jj hJ nSLaw) ) ?_
          rintro h_109 g_109 hJ2
          have hJ := hJ.tr (hJ2)
          intro h_119 e_h_119
          have hJ := hJ.hu e_h_119 (by unfold SLaw; omega)
          intro h_124 e_h_124
          have hJ := hJ.hu e_h_124 (by unfold SLaw; omega)
          exact hJ
        · skip
          refine ⟨fun c => ?_, fun c => ?_⟩
          · skip
            unfold j_X4_readDigit_102
            refine c_v (p_X4_put (hC.jj hJ nSLaw) ) ?_
            rintro h_109 g_109 hJ2
            have hJ := hJ.tr (hJ2)
            intro h_119 e_h_119
            have hJ := hJ.hu e_h_119 (by unfold SLaw; omega)
            intro h_124 e_h_124
            have hJ := hJ.hu e_h_124 (by unfold SLaw; omega)
            exact hJ
          · skip
            intro h_89 e_h_89
            have hJ := hJ.hu e_h_89 (by unfold SLaw; omega)
            refine and_have (by rw [e_h_89, hu_eq, pk_us]; exact v60e (by with_reducible assumption) (by with_reducible assumption)) (fun hv => ?_)
            rintro _ rfl
            unfold j_X4_readDigit_102
            refine c_v (p_X4_put (hC.jj hJ nSLaw) ) ?_
            rintro h_109 g_109 hJ2
            have hJ := hJ.tr (hJ2)
            intro h_119 e_h_119
            have hJ := hJ.hu e_h_119 (by unfold SLaw; omega)
            intro h_124 e_h_124
            have hJ := hJ.hu e_h_124 (by unfold SLaw; omega)
            exact hJ
    · skip
      intro h_48 e_h_48
      have hJ := hJ.hu e_h_48 (by unfold SLaw; omega)
      exact hJ
  · skip
    refine ⟨fun c => ?_, fun c => ?_⟩
    · skip
      unfold j_X4_readDigit_27
      refine ⟨fun c => ?_, fun c => ?_⟩
      · skip
        refine ⟨fun c => ?_, fun c => ?_⟩
        · skip
          unfold j_X4_readDigit_102
          refine c_v (p_X4_put (hC.jj hJ nSLaw) ) ?_
          rintro h_109 g_109 hJ2
          have hJ := hJ.tr (hJ2)
          intro h_119 e_h_119
          have hJ := hJ.hu e_h_119 (by unfold SLaw; omega)
          intro h_124 e_h_124
          have hJ := hJ.hu e_h_124 (by unfold SLaw; omega)
          exact hJ
        · skip
          refine ⟨fun c => ?_, fun c => ?_⟩
          · skip
            unfold j_X4_readDigit_102
            refine c_v (p_X4_put (hC.jj hJ nSLaw) ) ?_
            rintro h_109 g_109 hJ2
            have hJ := hJ.tr (hJ2)
            intro h_119 e_h_119
            have hJ := hJ.hu e_h_119 (by unfold SLaw; omega)
            intro h_124 e_h_124
            have hJ := hJ.hu e_h_124 (by unfold SLaw; omega)
            exact hJ
          · skip
            refine ⟨fun c => ?_, fun c => ?_⟩
            · skip
              unfold j_X4_readDigit_102
              refine c_v (p_X4_put (hC.jj hJ nSLaw) ) ?_
              rintro h_109 g_109 hJ2
              have hJ := hJ.tr (hJ2)
              intro h_119 e_h_119
              have hJ := hJ.hu e_h_119 (by unfold SLaw; omega)
              intro h_124 e_h_124
              have hJ := hJ.hu e_h_124 (by unfold SLaw; omega)
              exact hJ
            · skip
              intro h_89 e_h_89
              have hJ := hJ.hu e_h_89 (by unfold SLaw; omega)
              refine and_have (by rw [e_h_89, hu_eq, pk_us]; exact v60e (by with_reducible assumption) (by with_reducible assumption)) (fun hv => ?_)
              rintro _ rfl
              unfold j_X4_readDigit_102
              refine c_v (p_X4_put (hC.jj hJ nSLaw) ) ?_
              rintro h_109 g_109 hJ2
              have hJ := hJ.tr (hJ2)
              intro h_119 e_h_119
              have hJ := hJ.hu e_h_119 (by unfold SLaw; omega)
              intro h_124 e_h_124
              have hJ := hJ.hu e_h_124 (by unfold SLaw; omega)
              exact hJ
      · skip
        intro h_48 e_h_48
        have hJ := hJ.hu e_h_48 (by unfold SLaw; omega)
        exact hJ
    · skip
      intro h_21 e_h_21
      have hJ := hJ.hu e_h_21 (by unfold SLaw; omega)
      exact hJ
theorem p_X4_await {h : HI} {g : HL} (hC : CI h) {x1 : Int32}   : w_X4_await x1 h g (fun h' g' => JJ (SLaw) h h') := by
  unfold w_X4_await
  have hJ : JJ (SLaw) h h := JJ.rf
  refine ⟨fun c => ?_, fun c => ?_⟩
  · skip
    exact hJ
  · skip
    refine ⟨fun c => ?_, fun c => ?_⟩
    · skip
      exact hJ
    · skip
      refine and_have (by first | with_reducible assumption | exact vin (by with_reducible assumption) (by with_reducible assumption) (by decide) | exact vinc (by with_reducible assumption) (by with_reducible assumption) (by decide) | exact vinw (by with_reducible assumption) (by with_reducible assumption) (by decide) (by decide) | exact vinl (by with_reducible assumption) (by with_reducible assumption) (by decide) | exact v60a (by with_reducible assumption) (by with_reducible assumption) | exact v60b (by with_reducible assumption) (by with_reducible assumption) | exact v60b' (by with_reducible assumption) (by with_reducible assumption) | exact v60c (by with_reducible assumption) (by with_reducible assumption) | exact v60d (by with_reducible assumption) (by with_reducible assumption)) (fun hv => ?_)
      intro h_28 e_h_28
      have hJ := hJ.hu e_h_28 (by unfold SLaw; omega)
      intro h_36 e_h_36
      have hJ := hJ.hu e_h_36 (by unfold SLaw; omega)
      exact hJ
theorem p_X4_startsUnit {h : HI} {g : HL} (hC : CI h) {x1 : Int32}   : w_X4_startsUnit x1 h g (fun r h' g' => JJ (SLaw) h h') := by
  unfold w_X4_startsUnit
  have hJ : JJ (SLaw) h h := JJ.rf
  refine ⟨fun c => ?_, fun c => ?_⟩
  · skip
    unfold j_X4_startsUnit_18
    refine c_v (p_X4_put (hC.jj hJ nSLaw) ) ?_
    rintro h_21 g_21 hJ2
    have hJ := hJ.tr (hJ2)
    intro h_26 e_h_26
    have hJ := hJ.hu e_h_26 (by unfold SLaw; omega)
    exact hJ
  · skip
    refine ⟨fun c => ?_, fun c => ?_⟩
    · skip
      unfold j_X4_startsUnit_18
      refine c_v (p_X4_put (hC.jj hJ nSLaw) ) ?_
      rintro h_21 g_21 hJ2
      have hJ := hJ.tr (hJ2)
      intro h_26 e_h_26
      have hJ := hJ.hu e_h_26 (by unfold SLaw; omega)
      exact hJ
    · skip
      refine ⟨fun c => ?_, fun c => ?_⟩
      · skip
        refine ⟨fun c => ?_, fun c => ?_⟩
        · skip
          refine ⟨fun c => ?_, fun c => ?_⟩
          · skip
            unfold j_X4_startsUnit_64
            refine ⟨fun c => ?_, fun c => ?_⟩
            · skip
              unfold j_X4_startsUnit_77
              refine c_v (p_X4_await (hC.jj hJ nSLaw) ) ?_
              rintro h_77 g_77 hJ2
              have hJ := hJ.tr (hJ2)
              exact hJ
            · skip
              unfold j_X4_startsUnit_77
              refine c_v (p_X4_await (hC.jj hJ nSLaw) ) ?_
              rintro h_77 g_77 hJ2
              have hJ := hJ.tr (hJ2)
              exact hJ
          · skip
            refine ⟨fun c => ?_, fun c => ?_⟩
            · skip
              unfold j_X4_startsUnit_64
              refine ⟨fun c => ?_, fun c => ?_⟩
              · skip
                unfold j_X4_startsUnit_77
                refine c_v (p_X4_await (hC.jj hJ nSLaw) ) ?_
                rintro h_77 g_77 hJ2
                have hJ := hJ.tr (hJ2)
                exact hJ
              · skip
                unfold j_X4_startsUnit_77
                refine c_v (p_X4_await (hC.jj hJ nSLaw) ) ?_
                rintro h_77 g_77 hJ2
                have hJ := hJ.tr (hJ2)
                exact hJ
            · skip
              exact hJ
        · skip
          intro h_44 e_h_44
          have hJ := hJ.hu e_h_44 (by unfold SLaw; omega)
          unfold j_X4_startsUnit_64
          refine ⟨fun c => ?_, fun c => ?_⟩
          · skip
            unfold j_X4_startsUnit_77
            refine c_v (p_X4_await (hC.jj hJ nSLaw) ) ?_
            rintro h_77 g_77 hJ2
            have hJ := hJ.tr (hJ2)
            exact hJ
          · skip
            unfold j_X4_startsUnit_77
            refine c_v (p_X4_await (hC.jj hJ nSLaw) ) ?_
            rintro h_77 g_77 hJ2
            have hJ := hJ.tr (hJ2)
            exact hJ
      · skip
        unfold j_X4_startsUnit_18
        refine c_v (p_X4_put (hC.jj hJ nSLaw) ) ?_
        rintro h_21 g_21 hJ2
        have hJ := hJ.tr (hJ2)
        intro h_26 e_h_26
        have hJ := hJ.hu e_h_26 (by unfold SLaw; omega)
        exact hJ
theorem p_X4_rank {h : HI} {g : HL} (hC : CI h) {x0 : Int32}   : w_X4_rank x0 h g (fun r h' g' => h = h' ∧ g = g') := by
  unfold w_X4_rank
  refine ⟨fun c => ?_, fun c => ?_, fun c => ?_, fun c => ?_, fun c => ?_, fun c => ?_, fun c => ?_, fun c => ?_, fun c => ?_, fun c => ?_, fun c => ?_, fun c => ?_⟩
  · skip
    exact ⟨rfl, rfl⟩
  · skip
    exact ⟨rfl, rfl⟩
  · skip
    exact ⟨rfl, rfl⟩
  · skip
    exact ⟨rfl, rfl⟩
  · skip
    exact ⟨rfl, rfl⟩
  · skip
    exact ⟨rfl, rfl⟩
  · skip
    exact ⟨rfl, rfl⟩
  · skip
    exact ⟨rfl, rfl⟩
  · skip
    exact ⟨rfl, rfl⟩
  · skip
    exact ⟨rfl, rfl⟩
  · skip
    exact ⟨rfl, rfl⟩
  · intros
    exact ⟨rfl, rfl⟩
theorem p_X4_settle {h : HI} {g : HL} (hC : CI h) {x1 : Int32}   : w_X4_settle x1 h g (fun h' g' => JJ (SLaw) h h') := by
  unfold w_X4_settle
  have hJ : JJ (SLaw) h h := JJ.rf
  rintro _ rfl
  refine lpE_intro (fun ⟨x1_q, x2_q, h_q, g_q⟩ => JJ (SLaw) h h_q ∧ x1 = x1_q ∧ True) (fun ⟨x1_q, x2_q, h_q, g_q⟩ => prd x2_q) ?_ _ ⟨hJ, rfl, trivial⟩
  rintro ⟨x1_1, x2_1, h_1, g_1⟩ K1 ⟨hJ, rfl, -⟩ hK1
  unfold F_X4_settle_7; dsimp only; unfold b_X4_settle_7
  refine ⟨fun c => ?_, fun c => ?_⟩
  · skip
    exact hJ
  · skip
    refine ⟨fun c => ?_, fun c => ?_⟩
    · skip
      exact hJ
    · skip
      refine and_have (by first | with_reducible assumption | exact vin (by with_reducible assumption) (by with_reducible assumption) (by decide) | exact vinc (by with_reducible assumption) (by with_reducible assumption) (by decide) | exact vinw (by with_reducible assumption) (by with_reducible assumption) (by decide) (by decide) | exact vinl (by with_reducible assumption) (by with_reducible assumption) (by decide) | exact v60a (by with_reducible assumption) (by with_reducible assumption) | exact v60b (by with_reducible assumption) (by with_reducible assumption) | exact v60b' (by with_reducible assumption) (by with_reducible assumption) | exact v60c (by with_reducible assumption) (by with_reducible assumption) | exact v60d (by with_reducible assumption) (by with_reducible assumption)) (fun hv => ?_)
      refine c_i (p_X4_rank (hC.jj hJ nSLaw) ) ?_
      rintro r_26 _ _ ⟨rfl, rfl⟩
      refine ⟨fun c => ?_, fun c => ?_⟩
      · skip
        exact hJ
      · skip
        refine and_have (by first | with_reducible assumption | exact vin (by with_reducible assumption) (by with_reducible assumption) (by decide) | exact vinc (by with_reducible assumption) (by with_reducible assumption) (by decide) | exact vinw (by with_reducible assumption) (by with_reducible assumption) (by decide) (by decide) | exact vinl (by with_reducible assumption) (by with_reducible assumption) (by decide) | exact v60a (by with_reducible assumption) (by with_reducible assumption) | exact v60b (by with_reducible assumption) (by with_reducible assumption) | exact v60b' (by with_reducible assumption) (by with_reducible assumption) | exact v60c (by with_reducible assumption) (by with_reducible assumption) | exact v60d (by with_reducible assumption) (by with_reducible assumption)) (fun hv => ?_)
        refine c_v (p_X4_put (hC.jj hJ nSLaw) ) ?_
        rintro h_41 g_41 hJ2
        have hJ := hJ.tr (hJ2)
        intro h_46 e_h_46
        have hJ := hJ.hu e_h_46 (by unfold SLaw; omega)
        rintro _ rfl
        exact hK1 _ ⟨hJ, rfl, trivial⟩ (prd_lt (by with_reducible assumption))
theorem p_X4_lastRank {h : HI} {g : HL} (hC : CI h)    : w_X4_lastRank h g (fun r h' g' => h = h' ∧ g = g') := by
  unfold w_X4_lastRank
  refine ⟨fun c => ?_, fun c => ?_⟩
  · skip
    exact ⟨rfl, rfl⟩
  · skip
    refine ⟨fun c => ?_, fun c => ?_⟩
    · skip
      exact ⟨rfl, rfl⟩
    · skip
      refine and_have (by exact v60e (by with_reducible assumption) (by with_reducible assumption)) (fun hv => ?_)
      refine c_i (p_X4_rank hC ) ?_
      rintro r_30 _ _ ⟨rfl, rfl⟩
      exact ⟨rfl, rfl⟩
theorem p_X4_followsUnit {h : HI} {g : HL} (hC : CI h) {x1 : Int32}   : w_X4_followsUnit x1 h g (fun r h' g' => JJ (SLaw) h h') := by
  unfold w_X4_followsUnit
  have hJ : JJ (SLaw) h h := JJ.rf
  refine ⟨fun c => ?_, fun c => ?_⟩
  · skip
    refine c_i (p_X4_rank (hC.jj hJ nSLaw) ) ?_
    rintro r_43 _ _ ⟨rfl, rfl⟩
    refine ⟨fun c => ?_, fun c => ?_⟩
    · skip
      exact hJ
    · skip
      refine ⟨fun c => ?_, fun c => ?_⟩
      · skip
        refine ⟨fun c => ?_, fun c => ?_⟩
        · skip
          unfold j_X4_followsUnit_73
          refine c_v (p_X4_settle (hC.jj hJ nSLaw) ) ?_
          rintro h_73 g_73 hJ2
          have hJ := hJ.tr (hJ2)
          refine ⟨fun c => ?_, fun c => ?_⟩
          · skip
            unfold j_X4_followsUnit_91
            refine c_v (p_X4_await (hC.jj hJ nSLaw) ) ?_
            rintro h_93 g_93 hJ2
            have hJ := hJ.tr (hJ2)
            intro h_98 e_h_98
            have hJ := hJ.hu e_h_98 (by unfold SLaw; omega)
            exact hJ
          · skip
            refine c_i (p_X4_lastRank (hC.jj hJ nSLaw) ) ?_
            rintro r_82 _ _ ⟨rfl, rfl⟩
            refine ⟨fun c => ?_, fun c => ?_⟩
            · skip
              unfold j_X4_followsUnit_91
              refine c_v (p_X4_await (hC.jj hJ nSLaw) ) ?_
              rintro h_93 g_93 hJ2
              have hJ := hJ.tr (hJ2)
              intro h_98 e_h_98
              have hJ := hJ.hu e_h_98 (by unfold SLaw; omega)
              exact hJ
            · skip
              exact hJ
        · skip
          unfold j_X4_followsUnit_73
          refine c_v (p_X4_settle (hC.jj hJ nSLaw) ) ?_
          rintro h_73 g_73 hJ2
          have hJ := hJ.tr (hJ2)
          refine ⟨fun c => ?_, fun c => ?_⟩
          · skip
            unfold j_X4_followsUnit_91
            refine c_v (p_X4_await (hC.jj hJ nSLaw) ) ?_
            rintro h_93 g_93 hJ2
            have hJ := hJ.tr (hJ2)
            intro h_98 e_h_98
            have hJ := hJ.hu e_h_98 (by unfold SLaw; omega)
            exact hJ
          · skip
            refine c_i (p_X4_lastRank (hC.jj hJ nSLaw) ) ?_
            rintro r_82 _ _ ⟨rfl, rfl⟩
            refine ⟨fun c => ?_, fun c => ?_⟩
            · skip
              unfold j_X4_followsUnit_91
              refine c_v (p_X4_await (hC.jj hJ nSLaw) ) ?_
              rintro h_93 g_93 hJ2
              have hJ := hJ.tr (hJ2)
              intro h_98 e_h_98
              have hJ := hJ.hu e_h_98 (by unfold SLaw; omega)
              exact hJ
            · skip
              exact hJ
      · skip
        exact hJ
  · skip
    refine ⟨fun c => ?_, fun c => ?_⟩
    · skip
      refine c_v (p_X4_settle (hC.jj hJ nSLaw) ) ?_
      rintro h_17 g_17 hJ2
      have hJ := hJ.tr (hJ2)
      intro h_27 e_h_27
      have hJ := hJ.hu e_h_27 (by unfold SLaw; omega)
      intro h_37 e_h_37
      have hJ := hJ.hu e_h_37 (by unfold SLaw; omega)
      exact hJ
    · skip
      exact hJ
theorem p_X4_readSign {h : HI} {g : HL} (hC : CI h) {x1 : Int32} {x2 : Int32}   : w_X4_readSign x1 x2 h g (fun h' g' => JJ (SLaw) h h') := by
  unfold w_X4_readSign
  have hJ : JJ (SLaw) h h := JJ.rf
  refine ⟨fun c => ?_, fun c => ?_⟩
  · skip
    unfold j_X4_readSign_35
    refine ⟨fun c => ?_, fun c => ?_⟩
    · skip
      refine c_z (p_X4_followsUnit (hC.jj hJ nSLaw) ) ?_
      rintro r_55 h_55 g_55 hJ2
      have hJ := hJ.tr (hJ2)
      refine ⟨fun c => ?_, fun c => ?_⟩
      · skip
        exact hJ
      · skip
        unfold j_X4_readSign_61
        intro h_68 e_h_68
        have hJ := hJ.hu e_h_68 (by unfold SLaw; omega)
        exact hJ
    · skip
      refine c_z (p_X4_startsUnit (hC.jj hJ nSLaw) ) ?_
      rintro r_44 h_44 g_44 hJ2
      have hJ := hJ.tr (hJ2)
      refine ⟨fun c => ?_, fun c => ?_⟩
      · skip
        exact hJ
      · skip
        unfold j_X4_readSign_61
        intro h_68 e_h_68
        have hJ := hJ.hu e_h_68 (by unfold SLaw; omega)
        exact hJ
  · skip
    refine ⟨fun c => ?_, fun c => ?_⟩
    · skip
      unfold j_X4_readSign_35
      refine ⟨fun c => ?_, fun c => ?_⟩
      · skip
        refine c_z (p_X4_followsUnit (hC.jj hJ nSLaw) ) ?_
        rintro r_55 h_55 g_55 hJ2
        have hJ := hJ.tr (hJ2)
        refine ⟨fun c => ?_, fun c => ?_⟩
        · skip
          exact hJ
        · skip
          unfold j_X4_readSign_61
          intro h_68 e_h_68
          have hJ := hJ.hu e_h_68 (by unfold SLaw; omega)
          exact hJ
      · skip
        refine c_z (p_X4_startsUnit (hC.jj hJ nSLaw) ) ?_
        rintro r_44 h_44 g_44 hJ2
        have hJ := hJ.tr (hJ2)
        refine ⟨fun c => ?_, fun c => ?_⟩
        · skip
          exact hJ
        · skip
          unfold j_X4_readSign_61
          intro h_68 e_h_68
          have hJ := hJ.hu e_h_68 (by unfold SLaw; omega)
          exact hJ
    · skip
      refine ⟨fun c => ?_, fun c => ?_⟩
      · skip
        unfold j_X4_readSign_35
        refine ⟨fun c => ?_, fun c => ?_⟩
        · skip
          refine c_z (p_X4_followsUnit (hC.jj hJ nSLaw) ) ?_
          rintro r_55 h_55 g_55 hJ2
          have hJ := hJ.tr (hJ2)
          refine ⟨fun c => ?_, fun c => ?_⟩
          · skip
            exact hJ
          · skip
            unfold j_X4_readSign_61
            intro h_68 e_h_68
            have hJ := hJ.hu e_h_68 (by unfold SLaw; omega)
            exact hJ
        · skip
          refine c_z (p_X4_startsUnit (hC.jj hJ nSLaw) ) ?_
          rintro r_44 h_44 g_44 hJ2
          have hJ := hJ.tr (hJ2)
          refine ⟨fun c => ?_, fun c => ?_⟩
          · skip
            exact hJ
          · skip
            unfold j_X4_readSign_61
            intro h_68 e_h_68
            have hJ := hJ.hu e_h_68 (by unfold SLaw; omega)
            exact hJ
      · skip
        intro h_29 e_h_29
        have hJ := hJ.hu e_h_29 (by unfold SLaw; omega)
        exact hJ
theorem p_X4_read {h : HI} {g : HL} (hC : CI h)    : w_X4_read h g (fun h' g' => JJ (SLaw) h h') := by
  unfold w_X4_read
  have hJ : JJ (SLaw) h h := JJ.rf
  intro h_2 e_h_2
  have hJ := hJ.hu e_h_2 (by unfold SLaw; omega)
  intro h_7 e_h_7
  have hJ := hJ.hu e_h_7 (by unfold SLaw; omega)
  intro h_12 e_h_12
  have hJ := hJ.hu e_h_12 (by unfold SLaw; omega)
  intro h_17 e_h_17
  have hJ := hJ.hu e_h_17 (by unfold SLaw; omega)
  intro h_22 e_h_22
  have hJ := hJ.hu e_h_22 (by unfold SLaw; omega)
  intro h_27 e_h_27
  have hJ := hJ.hu e_h_27 (by unfold SLaw; omega)
  refine c_i (p_rowsJ hJ nSLaw gs_24) ?_
  rintro _ _ _ ⟨rfl, rfl, rfl⟩
  refine lpE_intro (fun ⟨x1_q, x2_q, h_q, g_q⟩ => JJ (SLaw) h h_q ∧ (h 24 3) = x1_q ∧ True) (fun ⟨x1_q, x2_q, h_q, g_q⟩ => dif x1_q x2_q) ?_ _ ⟨hJ, rfl, trivial⟩
  rintro ⟨x1_1, x2_1, h_1, g_1⟩ K1 ⟨hJ, rfl, -⟩ hK1
  unfold F_X4_read_43; dsimp only; unfold b_X4_read_43
  refine ⟨fun c => ?_, fun c => ?_⟩
  · skip
    unfold j_X4_read_116
    refine ⟨fun c => ?_, fun c => ?_⟩
    · skip
      unfold j_X4_read_148
      refine ⟨fun c => ?_, fun c => ?_⟩
      · skip
        exact hJ
      · skip
        refine c_v (p_X4_settle (hC.jj hJ nSLaw) ) ?_
        rintro h_158 g_158 hJ2
        have hJ := hJ.tr (hJ2)
        exact hJ
    · skip
      refine ⟨fun c => ?_, fun c => ?_⟩
      · skip
        unfold j_X4_read_138
        intro h_145 e_h_145
        have hJ := hJ.hu e_h_145 (by unfold SLaw; omega)
        unfold j_X4_read_148
        refine ⟨fun c => ?_, fun c => ?_⟩
        · skip
          exact hJ
        · skip
          refine c_v (p_X4_settle (hC.jj hJ nSLaw) ) ?_
          rintro h_158 g_158 hJ2
          have hJ := hJ.tr (hJ2)
          exact hJ
      · skip
        refine ⟨fun c => ?_, fun c => ?_⟩
        · skip
          unfold j_X4_read_148
          refine ⟨fun c => ?_, fun c => ?_⟩
          · skip
            exact hJ
          · skip
            refine c_v (p_X4_settle (hC.jj hJ nSLaw) ) ?_
            rintro h_158 g_158 hJ2
            have hJ := hJ.tr (hJ2)
            exact hJ
        · skip
          unfold j_X4_read_138
          intro h_145 e_h_145
          have hJ := hJ.hu e_h_145 (by unfold SLaw; omega)
          unfold j_X4_read_148
          refine ⟨fun c => ?_, fun c => ?_⟩
          · skip
            exact hJ
          · skip
            refine c_v (p_X4_settle (hC.jj hJ nSLaw) ) ?_
            rintro h_158 g_158 hJ2
            have hJ := hJ.tr (hJ2)
            exact hJ
  · skip
    refine ⟨fun c => ?_, fun c => ?_⟩
    · skip
      unfold j_X4_read_116
      refine ⟨fun c => ?_, fun c => ?_⟩
      · skip
        unfold j_X4_read_148
        refine ⟨fun c => ?_, fun c => ?_⟩
        · skip
          exact hJ
        · skip
          refine c_v (p_X4_settle (hC.jj hJ nSLaw) ) ?_
          rintro h_158 g_158 hJ2
          have hJ := hJ.tr (hJ2)
          exact hJ
      · skip
        refine ⟨fun c => ?_, fun c => ?_⟩
        · skip
          unfold j_X4_read_138
          intro h_145 e_h_145
          have hJ := hJ.hu e_h_145 (by unfold SLaw; omega)
          unfold j_X4_read_148
          refine ⟨fun c => ?_, fun c => ?_⟩
          · skip
            exact hJ
          · skip
            refine c_v (p_X4_settle (hC.jj hJ nSLaw) ) ?_
            rintro h_158 g_158 hJ2
            have hJ := hJ.tr (hJ2)
            exact hJ
        · skip
          refine ⟨fun c => ?_, fun c => ?_⟩
          · skip
            unfold j_X4_read_148
            refine ⟨fun c => ?_, fun c => ?_⟩
            · skip
              exact hJ
            · skip
              refine c_v (p_X4_settle (hC.jj hJ nSLaw) ) ?_
              rintro h_158 g_158 hJ2
              have hJ := hJ.tr (hJ2)
              exact hJ
          · skip
            unfold j_X4_read_138
            intro h_145 e_h_145
            have hJ := hJ.hu e_h_145 (by unfold SLaw; omega)
            unfold j_X4_read_148
            refine ⟨fun c => ?_, fun c => ?_⟩
            · skip
              exact hJ
            · skip
              refine c_v (p_X4_settle (hC.jj hJ nSLaw) ) ?_
              rintro h_158 g_158 hJ2
              have hJ := hJ.tr (hJ2)
              exact hJ
    · skip
      refine c_i (p_atJ hC hJ nSLaw gs_24) ?_
      rintro _ _ _ ⟨rfl, rfl, rfl⟩
      refine ⟨fun c => ?_, fun c => ?_⟩
      · skip
        unfold j_X4_read_93
        intro h_95 e_h_95
        have hJ := hJ.hu e_h_95 (by unfold SLaw; omega)
        refine ⟨fun c => ?_, fun c => ?_⟩
        · skip
          unfold j_X4_read_110
          rintro _ rfl
          exact hK1 _ ⟨hJ, rfl, trivial⟩ (dif_lt (by with_reducible assumption))
        · skip
          refine c_v (p_X4_readSign (hC.jj hJ nSLaw) ) ?_
          rintro h_107 g_107 hJ2
          have hJ := hJ.tr (hJ2)
          unfold j_X4_read_110
          rintro _ rfl
          exact hK1 _ ⟨hJ, rfl, trivial⟩ (dif_lt (by with_reducible assumption))
      · skip
        refine ⟨fun c => ?_, fun c => ?_⟩
        · skip
          unfold j_X4_read_93
          intro h_95 e_h_95
          have hJ := hJ.hu e_h_95 (by unfold SLaw; omega)
          refine ⟨fun c => ?_, fun c => ?_⟩
          · skip
            unfold j_X4_read_110
            rintro _ rfl
            exact hK1 _ ⟨hJ, rfl, trivial⟩ (dif_lt (by with_reducible assumption))
          · skip
            refine c_v (p_X4_readSign (hC.jj hJ nSLaw) ) ?_
            rintro h_107 g_107 hJ2
            have hJ := hJ.tr (hJ2)
            unfold j_X4_read_110
            rintro _ rfl
            exact hK1 _ ⟨hJ, rfl, trivial⟩ (dif_lt (by with_reducible assumption))
        · skip
          refine c_v (p_X4_readDigit (hC.jj hJ nSLaw) ) ?_
          rintro h_87 g_87 hJ2
          have hJ := hJ.tr (hJ2)
          unfold j_X4_read_110
          rintro _ rfl
          exact hK1 _ ⟨hJ, rfl, trivial⟩ (dif_lt (by with_reducible assumption))
end
