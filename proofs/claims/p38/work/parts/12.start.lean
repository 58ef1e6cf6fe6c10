section
-- 12.start
/-- ALL THAT IS LEFT, over the pure heap: the two are made, then the law's loop -/
def w_all (xs : Nat → Int32) (L : Nat) : Prop := w_X10_init (fun _ _ => 0) (fun _ _ => 0) (fun h1 g1 => w_X11_init h1 g1 (fun h2 g2 => w_law xs L h2 g2))
theorem arr_kn {s : State} {args : Array Value} {ty : FieldType} (h : (Cond.arrayClass ty).before args s = true) : ∃ c : ClassId, ArrOfT s c ty ∧ s.vm.findClass ("[" ++ ty.toString) = some c := by
  obtain ⟨c, k, comp, h1, h2, h3⟩ := Cond.arrayClass_spec h
  exact ⟨c, fun n z => ⟨fun k h => (by cases h), k, h2, comp, h3⟩, h1⟩
theorem arr_kn2 {s : State} {args : Array Value} {ty : FieldType} (h : (Cond.arrayOver (.array ty)).before args s = true) : ∃ c : ClassId, ArrOfT s c (.array ty) ∧ s.vm.findClass ("[" ++ (FieldType.array ty).toString) = some c := by
  obtain ⟨comp, c, k, h0, h1, h2, h3⟩ := Cond.arrayOver_specA h
  exact ⟨c, fun n z => ⟨fun k h => (by cases h), k, h1, comp, h2⟩, h3⟩
theorem pG_all {D : va_G} {cy : Nat → ClassId} {bs : Nat} {h : HI} {g : HL} {H0 H : Heap} {locs : List Loc} (hz : H0.size = bs) (hG : pG D cy bs 149 (fun _ => none) H0 h g H locs) : gG D cy (adB bs) (gA (adB bs) H0.size) H0 h g H locs := by
  have e : pW 149 (fun _ => none) cy (adB bs) h g = gW cy (adB bs) h g := by
    unfold pW gW gO
    apply List.map_congr_left
    intro q _
    rw [pE_none rfl]
  have hA : ∀ q : Nat, bs ≤ q → gA (adB bs) H0.size q := fun q hq => Or.inr (by omega)
  refine ⟨by rw [← e]; exact hG.1, ?_, ⟨hG.2.1.1, fun q h1 h2 => hG.2.1.2.1 q h1 (fun h3 => h2 (hA q h3)), fun x hx => hA _ (hG.2.1.2.2 x hx)⟩⟩
  rw [← e]
  exact pD.weaken (fun _ _ _ h => hA _ h)
theorem gd_wL {y : MethodName} {b : ByteArray} {mx : Nat} {rt : Option FieldType} (hc : Cond.code y b mx rt ∈ wsG) : GoodIn wsG (wa y b mx rt) := by
  intro w hw
  have hm : w ∈ wsG := by
    rcases List.mem_cons.mp hw with rfl | hw
    · exact hc
    · exact hw
  exact ⟨hm, good_of_word (wsG_good w hm)⟩
set_option maxHeartbeats 40000000 in
set_option maxRecDepth 100000 in
theorem whole_walk {p : Program} {e : Env} {s : State} {m : MethodId} {below : List Frame} {meth : Method} {c : Code} (l : Launch) {b L : Nat} {xs : Nat → Int32} (C0 : lw_At p s m meth c b L xs) (HW : w_all xs L) : W p l e room_1 s m #[Value.ref b] below meth c s.heap [] 0 0 (lw_Z below #[Value.ref b] s) (entryFrame m ([Value.ref b] : List Value).toArray 4) := by
  obtain ⟨hx, hb, hr, hml, hown, hts, hX, hbl, hlocks, hgv⟩ := id C0
  have hw : ∀ w ∈ wsG, w.before #[Value.ref b] s = true := fun w h => hts w (wsG_in w h)
  have hown : s.vm.findClass RL = some m.cls := hown
  obtain ⟨c0, i0, k0⟩ := u_known (C := RX0) (T := TX0) (N := 2) (n := 2) hw inG0 (hw (.instantiable RX0 2) (wm2 76 rfl rfl))
  obtain ⟨c1, i1, k1⟩ := u_known (C := RX1) (T := TX1) (N := 7) (n := 7) hw inG1 (hw (.instantiable RX1 7) (wm2 70 rfl rfl))
  obtain ⟨c2, i2, k2⟩ := u_known (C := RX2) (T := TX2) (N := 10) (n := 10) hw inG2 (hw (.instantiable RX2 10) (wm1 209 rfl rfl))
  obtain ⟨c3, i3, k3⟩ := u_known (C := RX3) (T := TX3) (N := 6) (n := 6) hw inG3 (hw (.instantiable RX3 6) (wm2 44 rfl rfl))
  obtain ⟨c4, i4, k4⟩ := u_known (C := RX4) (T := TX4) (N := 10) (n := 10) hw inG4 (hw (.instantiable RX4 10) (wm1 124 rfl rfl))
  obtain ⟨c5, i5, k5⟩ := u_known (C := RX5) (T := TX5) (N := 11) (n := 11) hw inG5 (hw (.instantiable RX5 11) (wm2 115 rfl rfl))
  obtain ⟨c6, i6, k6⟩ := u_known (C := RX6) (T := TX6) (N := 12) (n := 12) hw inG6 (hw (.instantiable RX6 12) (wm1 26 rfl rfl))
  obtain ⟨c7, i7, k7⟩ := u_known (C := RX7) (T := TX7) (N := 12) (n := 12) hw inG7 (hw (.instantiable RX7 12) (wm1 163 rfl rfl))
  obtain ⟨c8, i8, k8⟩ := u_known (C := RX8) (T := TX8) (N := 4) (n := 4) hw inG8 (hw (.instantiable RX8 4) (wm1 32 rfl rfl))
  obtain ⟨c9, i9, k9⟩ := u_known (C := RX9) (T := TX9) (N := 7) (n := 7) hw inG9 (hw (.instantiable RX9 7) (wm2 9 rfl rfl))
  obtain ⟨c10, i10, k10⟩ := u_known (C := RX10) (T := TX10) (N := 11) (n := 11) hw inG10 (hw (.instantiable RX10 11) (wm1 18 rfl rfl))
  obtain ⟨c11, i11, k11⟩ := u_known (C := RX11) (T := TX11) (N := 26) (n := 26) hw inG11 (hw (.instantiable RX11 26) (wm5 20 rfl rfl))
  obtain ⟨D, hD⟩ : ∃ D : va_G, ∀ (k : Nat) (q : vw_C), vwCl[k]? = some q → u_Kn s q.1 q.2.1 q.2.2 (D.1 k) (D.2 k) := by
    refine ⟨(fun k => ([c0, c1, c2, c3, c4, c5, c6, c7, c8, c9, c10, c11] : List ClassId).getD k c0, fun k => ([i0, i1, i2, i3, i4, i5, i6, i7, i8, i9, i10, i11] : List (Nat → Nat)).getD k i0), ?_⟩
    intro k q hq
    match k, hq with
    | 0, hq => cases hq; exact k0
    | 1, hq => cases hq; exact k1
    | 2, hq => cases hq; exact k2
    | 3, hq => cases hq; exact k3
    | 4, hq => cases hq; exact k4
    | 5, hq => cases hq; exact k5
    | 6, hq => cases hq; exact k6
    | 7, hq => cases hq; exact k7
    | 8, hq => cases hq; exact k8
    | 9, hq => cases hq; exact k9
    | 10, hq => cases hq; exact k10
    | 11, hq => cases hq; exact k11
    | k + 12, hq => simp [vwCl] at hq
  obtain ⟨a0, a0o, a0n⟩ := arr_kn (hw (.arrayClass .int) (wm1 50 rfl rfl))
  obtain ⟨a1, a1o, a1n⟩ := arr_kn (hw (.arrayClass .long) (wm1 161 rfl rfl))
  obtain ⟨a2, a2o, a2n⟩ := arr_kn (hw (.arrayClass .boolean) (wm1 160 rfl rfl))
  have hao : (Cond.arrayOver (.array .int)).before #[Value.ref b] s = true := hts _ (List.mem_append_right _ ((fun h => List.mem_append_right _ (List.mem_append_left _ h) : _ ∈ tables_1_2 → _ ∈ tables_1) (List.mem_of_getElem? (i := 15) rfl)))
  obtain ⟨a3, a3o, a3n⟩ := arr_kn2 hao
  have hAO : gAO s := hao
  have hNw : gNw s := by
    intro w hm
    simp only [nestW, List.mem_cons, List.not_mem_nil, or_false] at hm
    rcases hm with rfl | rfl | rfl | rfl | rfl | rfl
    · exact va_Nw.of rfl (hts _ (List.mem_append_right _ ((fun h => List.mem_append_right _ (List.mem_append_right _ (List.mem_append_right _ (List.mem_append_left _ h))) : _ ∈ tables_1_4 → _ ∈ tables_1) (List.mem_of_getElem? (i := 67) rfl))))
    · exact va_Nw.of rfl (hts _ (List.mem_append_right _ ((fun h => List.mem_append_right _ (List.mem_append_left _ h) : _ ∈ tables_1_2 → _ ∈ tables_1) (List.mem_of_getElem? (i := 77) rfl))))
    · exact va_Nw.of rfl (hts _ (List.mem_append_right _ ((fun h => List.mem_append_right _ (List.mem_append_right _ (List.mem_append_right _ (List.mem_append_left _ h))) : _ ∈ tables_1_4 → _ ∈ tables_1) (List.mem_of_getElem? (i := 117) rfl))))
    · exact va_Nw.of rfl (hts _ (List.mem_append_right _ ((fun h => List.mem_append_right _ (List.mem_append_right _ (List.mem_append_right _ (List.mem_append_left _ h))) : _ ∈ tables_1_4 → _ ∈ tables_1) (List.mem_of_getElem? (i := 0) rfl))))
    · exact va_Nw.of rfl (hts _ (List.mem_append_right _ ((fun h => List.mem_append_right _ (List.mem_append_right _ (List.mem_append_right _ (List.mem_append_left _ h))) : _ ∈ tables_1_4 → _ ∈ tables_1) (List.mem_of_getElem? (i := 165) rfl))))
    · exact va_Nw.of rfl (hts _ (List.mem_append_right _ ((fun h => List.mem_append_right _ (List.mem_append_right _ (List.mem_append_left _ h)) : _ ∈ tables_1_3 → _ ∈ tables_1) (List.mem_of_getElem? (i := 190) rfl))))
  obtain ⟨cy, e0, e1, e2, e3⟩ : ∃ cy : Nat → ClassId, cy 0 = a0 ∧ cy 1 = a1 ∧ cy 2 = a2 ∧ cy 3 = a3 := ⟨fun k => ([a0, a1, a2, a3] : List ClassId).getD k a0, rfl, rfl, rfl, rfl⟩
  subst e0 e1 e2 e3
  have hK : va_K D vwCl (gtys cy) s := by
    refine ⟨hD, ?_⟩
    intro k q hq
    match k, hq with
    | 0, hq => cases hq; exact ⟨a0o, a0n⟩
    | 1, hq => cases hq; exact ⟨a1o, a1n⟩
    | 2, hq => cases hq; exact ⟨a2o, a2n⟩
    | 3, hq => cases hq; exact ⟨a3o, a3n⟩
    | k + 4, hq => simp [gtys] at hq
  obtain ⟨bs, hbs⟩ : ∃ bs : Nat, s.heap.size = bs := ⟨_, rfl⟩
  have hG : pG D cy bs 0 (fun _ => none) s.heap (fun _ _ => 0) (fun _ _ => 0) s.heap [] := ⟨fun k q hq => by simp [pW] at hq, va_S.rf, hbs⟩
  unfold w_all at HW
  have hl := lv_entry ([Value.ref b]) (n := 4) (Nat.le_of_ble_eq_true rfl)
  rw [lg_entry_eq]
  generalize (lg_sl ([Value.ref b]) ++ List.replicate (4 - (lg_sl ([Value.ref b])).length) Slot.unset).toArray = ls at hl ⊢
  have hl : lv_has ls 4 [(0, .ref b)] := hl
  have hA0 : ∀ q, gA (adB bs) s.heap.size q → s.heap.size ≤ q := fun q h => h.elim (fun ⟨o, _, e⟩ => by rw [e]; show s.heap.size ≤ bs + o; omega) (fun h => h)
  refine p_new hx hb hw inG10 tyX10 tyX10_ok hown (hw (.classLink RL 7 RX10) (wm1 17 rfl rfl)) (hw (.instantiable RX10 11) (wm1 18 rfl rfl)) (hw (.initialized RX10) (wm1 1 rfl rfl)) hK hG rfl gk_0 (fs := [.null, .null, .null, .null, .null, .null, .null, .null, .null, .null, .null]) (fun j hj => by rcases (show j = 0 ∨ j = 1 ∨ j = 2 ∨ j = 3 ∨ j = 4 ∨ j = 5 ∨ j = 6 ∨ j = 7 ∨ j = 8 ∨ j = 9 ∨ j = 10 by omega) with rfl | rfl | rfl | rfl | rfl | rfl | rfl | rfl | rfl | rfl | rfl <;> rfl) (Nat.le_of_ble_eq_true rfl) (Nat.le_of_ble_eq_true rfl) dL_law_0 (fun H hG => ?_)
  refine lv_dup hx hb dL_law_3 rfl ?_
  refine p_callv (n' := 135) (E' := (fun _ => none)) (p_runI (As := []) (rest := [.ref (adB bs 0)]) (ws := (wa yX10_init cX10_init 1 none)) ⟨hx, hb, hml, hown, hw⟩ (n_X10_init l D cy bs (fun _ => none) (fun _ _ => 0) (fun _ _ => 0) (fun _ _ => rfl) _ HW) (cwI 0 hw (gd_wL (wm1 21 rfl rfl)) rfl rfl rfl (hw (.initialized RX10) (wm1 1 rfl rfl)) (hw (.methodLink RL 9 yX10_init) (wm1 19 rfl rfl)) (hw (.instanceMethod yX10_init) (wm1 20 rfl rfl)) rfl (by decide +kernel) ⟨Nat.le_of_ble_eq_true rfl, Nat.le_of_ble_eq_true rfl⟩) hK hNw hAO hG rfl rfl hl.1 rfl (lv_room (Nat.le_of_ble_eq_true rfl)) dL_law_4 ⟨Nat.le_of_ble_eq_true rfl, Nat.le_of_ble_eq_true rfl⟩) hG (fun h10 g10 H locs HW hG => ?_)
  refine lv_astore_n (lv' := [(1, .ref (adB bs 0)), (0, .ref b)]) hx hb dL_law_7 rfl hl (by decide) rfl (fun ls hl => ?_)
  refine p_new hx hb hw inG11 tyX11 tyX11_ok hown (hw (.classLink RL 10 RX11) (wm5 19 rfl rfl)) (hw (.instantiable RX11 26) (wm5 20 rfl rfl)) (hw (.initialized RX11) (wm1 13 rfl rfl)) hK hG rfl gk_135 (fs := [.null, .null, .null, .int 0, .null, .null, .int 0, .null, .null, .int 0, .int 0, .int 0, .int 0, .int 0, .int 0, .int 0, .int 0, .int 0, .int 0, .int 0, .null, .null, .null, .null, .null, .null]) (fun j hj => by rcases (show j = 0 ∨ j = 1 ∨ j = 2 ∨ j = 3 ∨ j = 4 ∨ j = 5 ∨ j = 6 ∨ j = 7 ∨ j = 8 ∨ j = 9 ∨ j = 10 ∨ j = 11 ∨ j = 12 ∨ j = 13 ∨ j = 14 ∨ j = 15 ∨ j = 16 ∨ j = 17 ∨ j = 18 ∨ j = 19 ∨ j = 20 ∨ j = 21 ∨ j = 22 ∨ j = 23 ∨ j = 24 ∨ j = 25 by omega) with rfl | rfl | rfl | rfl | rfl | rfl | rfl | rfl | rfl | rfl | rfl | rfl | rfl | rfl | rfl | rfl | rfl | rfl | rfl | rfl | rfl | rfl | rfl | rfl | rfl | rfl <;> rfl) (Nat.le_of_ble_eq_true rfl) (Nat.le_of_ble_eq_true rfl) dL_law_8 (fun H hG => ?_)
  refine lv_dup hx hb dL_law_11 rfl ?_
  refine p_callv (n' := 149) (E' := (fun _ => none)) (p_runI (As := []) (rest := [.ref (adB bs 135)]) (ws := (wa yX11_init cX11_init 2 none)) ⟨hx, hb, hml, hown, hw⟩ (n_X11_init l D cy bs (fun _ => none) h10 g10 (fun _ _ => rfl) _ HW) (cwI 0 hw (gd_wL (wm5 23 rfl rfl)) rfl rfl rfl (hw (.initialized RX11) (wm1 13 rfl rfl)) (hw (.methodLink RL 12 yX11_init) (wm5 21 rfl rfl)) (hw (.instanceMethod yX11_init) (wm5 22 rfl rfl)) rfl (by decide +kernel) ⟨Nat.le_of_ble_eq_true rfl, Nat.le_of_ble_eq_true rfl⟩) hK hNw hAO hG rfl rfl hl.1 rfl (lv_room (Nat.le_of_ble_eq_true rfl)) dL_law_12 ⟨Nat.le_of_ble_eq_true rfl, Nat.le_of_ble_eq_true rfl⟩) hG (fun h11 g11 H locs HW hG => ?_)
  refine lv_astore_n (lv' := [(2, .ref (adB bs 135)), (1, .ref (adB bs 0)), (0, .ref b)]) hx hb dL_law_15 rfl hl (by decide) rfl (fun ls hl => ?_)
  refine lv_iconst (v := 0) hx hb dL_law_16 (by decide) ?_
  refine lv_istore_n (lv' := [(3, .int 0), (2, .ref (adB bs 135)), (1, .ref (adB bs 0)), (0, .ref b)]) hx hb dL_law_17 rfl hl (by decide) rfl (fun ls hl => ?_)
  exact law_loop C0 hK hNw hA0 (Nat.le_of_ble_eq_true rfl) (Nat.le_of_ble_eq_true rfl) HW (pG_all hbs hG) (lv_sub hl [3, 2, 1, 0] rfl)
end
section
-- 20.frame
/-! THE PURE SIDE: frames, calls, tables, loops -/
def JJ (S : Nat → Prop) (a b : HI) : Prop := ∀ o, ¬ S o → b o = a o
theorem JJ.rf {S : Nat → Prop} {a : HI} : JJ S a a := fun _ _ => rfl
theorem JJ.tr {S : Nat → Prop} {a b c : HI} (x : JJ S a b) (y : JJ S b c) : JJ S a c := fun o n => (y o n).trans (x o n)
theorem JJ.mo {S T : Nat → Prop} {a b : HI} (x : JJ S a b) (hs : ∀ o, S o → T o) : JJ T a b := fun o n => x o (fun s => n (hs o s))
theorem JJ.hu {S : Nat → Prop} {a b c : HI} {o k : Nat} {v : Int32} (x : JJ S a b) (e : c = hu b o k v) (hs : S o) : JJ S a c := fun q n => by
  rw [e, hu_ne (fun q2 => n (by rw [q2]; exact hs))]; exact x q n
theorem JJ.hua {S : Nat → Prop} {a b c : HI} {o : Nat} {f : Nat → Int32} (x : JJ S a b) (e : c = hua b o f) (hs : S o) : JJ S a c := fun q n => by
  rw [e, hua_ne (fun q2 => n (by rw [q2]; exact hs))]; exact x q n
theorem JJ.at {S : Nat → Prop} {a b : HI} (x : JJ S a b) {o : Nat} (k : Nat) (n : ¬ S o) : b o k = a o k := by rw [x o n]
/-- every table of the class is whole -/
def CI (h : HI) : Prop := ∀ o, isT o → ∃ m w M, TT h o m w M
theorem isT.le {o : Nat} (h : isT o) : 2 ≤ o ∧ o ≤ 75 := co_l (P := fun o => 2 ≤ o ∧ o ≤ 75) (by decide +kernel) h
theorem TT.cg {h h' : HI} {o m w M : Nat} (T : TT h o m w M) (e : h' o = h o) : TT h' o m w M := by
  unfold TT; rw [e]; exact T
def SB (o q : Nat) : Prop := q = o ∨ q = o + 1
def SLaw (q : Nat) : Prop := 77 ≤ q ∧ q ≤ 79
def SO (o q : Nat) : Prop := q = o
/-- what is learned: bits of a byte -/
def b128 (x : Int32) : Prop := ∃ n : Nat, n ≤ 128 ∧ x = nI n
def PL (h : HI) : Prop := ∃ n : Nat, n ≤ 16 ∧ h 118 8 = nI n ∧ ∀ i : Nat, i < n → b128 (h 120 i)
end
section
-- 23.b.plans
theorem PL.cg {h h' : HI} (P : PL h) (e1 : h' 118 = h 118) (e2 : h' 120 = h 120) : PL h' := by
  unfold PL; rw [e1, e2]; exact P
end
section
-- 26.tables
/-! THE TABLES, written -/
def rowc (x1 x2 x3 x4 : Int32) (c : Nat) : Int32 := if c = 0 then x1 else if c = 1 then x2 else if c = 2 then x3 else if c = 3 then x4 else 0
end
section
-- 30.ref
/-! THE REFERENCE: ranges -/
def bd (a b : Int) (x : Int32) : Prop := a ≤ x.toInt ∧ x.toInt ≤ b
theorem bd.mo {a b c d : Int} {x : Int32} (h : bd a b x) (h1 : c ≤ a) (h2 : b ≤ d) : bd c d x := ⟨Int.le_trans h1 h.1, Int.le_trans h.2 h2⟩
theorem bd_nI {b : Int} {x : Int32} (h : bd 0 b x) : ∃ j : Nat, (j : Int) ≤ b ∧ j < 2 ^ 31 ∧ x = nI j := by
  obtain ⟨j, hj, rfl⟩ := nI_of (x := x) (fun q => by
    rw [Int32.lt_iff_toInt_lt] at q
    have : (0 : Int32).toInt = 0 := by decide
    unfold bd at h; omega)
  refine ⟨j, ?_, hj, rfl⟩
  unfold bd at h
  rw [nI_toInt hj] at h
  exact h.2
def RI (f : Nat → Int32) : Prop :=
  (bd 0 24 (f 0) ∧ bd 0 60 (f 1) ∧ bd 0 16 (f 2) ∧ bd 0 8 (f 3) ∧ bd 0 6 (f 4) ∧ bd 0 9 (f 5) ∧ bd 0 40 (f 6) ∧ bd 0 3 (f 7) ∧ bd 0 60 (f 8) ∧ bd 0 9 (f 9) ∧ bd 0 9 (f 10)) ∧
  (∀ p : Nat, p < 24 → bd 0 100 (f (20 + 5 * p)) ∧ bd (-1) 3 (f (20 + 5 * p + 3))) ∧
  (∀ k : Nat, k < 4 → bd 1 100000 (f (140 + 3 * k + 1))) ∧
  (∀ s : Nat, s < 60 → bd 0 23 (f (152 + 6 * s))) ∧
  (∀ c : Nat, c < 16 → bd 0 6 (f (512 + 10 * c + 2)) ∧ ∀ k : Nat, k < 6 → bd 0 23 (f (512 + 10 * c + (3 + k)))) ∧
  (∀ w : Nat, w < 8 → bd (-500) 500 (f (672 + 4 * w)) ∧ bd 0 1000 (f (672 + 4 * w + 1))) ∧
  (∀ k : Nat, k < 3 → bd 0 15 (f (817 + 2 * k)))
theorem cl0 : (0 : Int32).toNatClampNeg = 0 := by decide
theorem cl1 : (1 : Int32).toNatClampNeg = 1 := by decide
theorem cl2 : (2 : Int32).toNatClampNeg = 2 := by decide
theorem cl3 : (3 : Int32).toNatClampNeg = 3 := by decide
theorem cl4 : (4 : Int32).toNatClampNeg = 4 := by decide
theorem cl5 : (5 : Int32).toNatClampNeg = 5 := by decide
theorem cl6 : (6 : Int32).toNatClampNeg = 6 := by decide
theorem cl7 : (7 : Int32).toNatClampNeg = 7 := by decide
theorem cl8 : (8 : Int32).toNatClampNeg = 8 := by decide
theorem cl9 : (9 : Int32).toNatClampNeg = 9 := by decide
theorem cl10 : (10 : Int32).toNatClampNeg = 10 := by decide
theorem RI.c0 {f : Nat → Int32} (r : RI f) : bd 0 24 (f (0 : Int32).toNatClampNeg) := by rw [cl0]; exact r.1.1
theorem RI.c1 {f : Nat → Int32} (r : RI f) : bd 0 60 (f (1 : Int32).toNatClampNeg) := by rw [cl1]; exact r.1.2.1
theorem RI.c2 {f : Nat → Int32} (r : RI f) : bd 0 16 (f (2 : Int32).toNatClampNeg) := by rw [cl2]; exact r.1.2.2.1
theorem RI.c3 {f : Nat → Int32} (r : RI f) : bd 0 8 (f (3 : Int32).toNatClampNeg) := by rw [cl3]; exact r.1.2.2.2.1
theorem RI.c4 {f : Nat → Int32} (r : RI f) : bd 0 6 (f (4 : Int32).toNatClampNeg) := by rw [cl4]; exact r.1.2.2.2.2.1
theorem RI.c5 {f : Nat → Int32} (r : RI f) : bd 0 9 (f (5 : Int32).toNatClampNeg) := by rw [cl5]; exact r.1.2.2.2.2.2.1
theorem RI.c6 {f : Nat → Int32} (r : RI f) : bd 0 40 (f (6 : Int32).toNatClampNeg) := by rw [cl6]; exact r.1.2.2.2.2.2.2.1
theorem RI.c7 {f : Nat → Int32} (r : RI f) : bd 0 3 (f (7 : Int32).toNatClampNeg) := by rw [cl7]; exact r.1.2.2.2.2.2.2.2.1
theorem RI.c8 {f : Nat → Int32} (r : RI f) : bd 0 60 (f (8 : Int32).toNatClampNeg) := by rw [cl8]; exact r.1.2.2.2.2.2.2.2.2.1
theorem RI.c9 {f : Nat → Int32} (r : RI f) : bd 0 9 (f (9 : Int32).toNatClampNeg) := by rw [cl9]; exact r.1.2.2.2.2.2.2.2.2.2.1
theorem RI.c10 {f : Nat → Int32} (r : RI f) : bd 0 9 (f (10 : Int32).toNatClampNeg) := by rw [cl10]; exact r.1.2.2.2.2.2.2.2.2.2.2
theorem ix2 (a b k : Nat) : nI a + nI b * nI k = nI (a + b * k) := by rw [pk_mul, nI_add]
theorem ix3 (a b k c : Nat) : nI a + nI b * nI k + nI c = nI (a + b * k + c) := by rw [pk_mul, nI_add, nI_add]
theorem RI.sp {f : Nat → Int32} (r : RI f) {x : Int32} (hx : bd 0 59 x) : bd 0 23 (f (((152 : Int32) + ((6 : Int32) * x)) + (0 : Int32)).toNatClampNeg) := by
  obtain ⟨j, hj, hj2, rfl⟩ := bd_nI hx
  rw [show ((152 : Int32) + ((6 : Int32) * nI j)) + (0 : Int32) = nI (152 + 6 * j + 0) from ix3 152 6 j 0, nI_clamp (by omega)]
  exact r.2.2.2.1 j (by omega)
theorem RI.cf {f : Nat → Int32} (r : RI f) {x k : Int32} (hx : bd 0 15 x) (hk : bd 0 5 k) : bd 0 23 (f (((512 : Int32) + ((10 : Int32) * x)) + ((3 : Int32) + k)).toNatClampNeg) := by
  obtain ⟨j, hj, hj2, rfl⟩ := bd_nI hx
  obtain ⟨i, hi, hi2, rfl⟩ := bd_nI hk
  rw [show (3 : Int32) + nI i = nI (3 + i) from nI_add 3 i, show ((512 : Int32) + ((10 : Int32) * nI j)) + nI (3 + i) = nI (512 + 10 * j + (3 + i)) from ix3 512 10 j (3 + i), nI_clamp (by omega)]
  exact (r.2.2.2.2.1 j (by omega)).2 i (by omega)
theorem RI.hs {f : Nat → Int32} (r : RI f) {x : Int32} (hx : bd 0 2 x) : bd 0 15 (f ((817 : Int32) + ((2 : Int32) * x)).toNatClampNeg) := by
  obtain ⟨j, hj, hj2, rfl⟩ := bd_nI hx
  rw [show ((817 : Int32) + ((2 : Int32) * nI j)) = nI (817 + 2 * j) from ix2 817 2 j, nI_clamp (by omega)]
  exact r.2.2.2.2.2.2 j (by omega)
/-- frames by places -/
def KJ (S : Nat → Nat → Prop) (a b : HI) : Prop := ∀ o k, ¬ S o k → b o k = a o k
theorem KJ.rf {S : Nat → Nat → Prop} {a : HI} : KJ S a a := fun _ _ _ => rfl
theorem KJ.tr {S : Nat → Nat → Prop} {a b c : HI} (x : KJ S a b) (y : KJ S b c) : KJ S a c := fun o k n => (y o k n).trans (x o k n)
theorem KJ.mo {S T : Nat → Nat → Prop} {a b : HI} (x : KJ S a b) (hs : ∀ o k, S o k → T o k) : KJ T a b := fun o k n => x o k (fun s => n (hs o k s))
theorem KJ.hu {S : Nat → Nat → Prop} {a b c : HI} {o k : Nat} {v : Int32} (x : KJ S a b) (e : c = hu b o k v) (hs : S o k) : KJ S a c := fun q j n => by
  by_cases h : q = o
  · subst h
    rw [e, hu_eq, pk_un (fun h2 => n (by rw [h2]; exact hs))]; exact x q j n
  · rw [e, hu_ne h]; exact x q j n
def SRd (o k : Nat) : Prop := (o = 135 ∧ (k = 3 ∨ k = 6)) ∨ 139 ≤ o ∧ o ≤ 141
def SLt (o k : Nat) : Prop := (o = 135 ∧ (k = 3 ∨ k = 6 ∨ k = 9 ∨ k = 10)) ∨ 139 ≤ o ∧ o ≤ 141
def SFf (o k : Nat) : Prop := (o = 135 ∧ (k = 3 ∨ k = 6 ∨ 9 ≤ k ∧ k ≤ 15)) ∨ 139 ≤ o ∧ o ≤ 141
def STr (o k : Nat) : Prop := (o = 135 ∧ (k = 3 ∨ k = 6 ∨ k = 9 ∨ k = 10 ∨ k = 16 ∨ k = 17)) ∨ 139 ≤ o ∧ o ≤ 141
end
section
-- 31.reads
/-! THE LAW OF WEAR, as the reference reads and runs it -/
def sgL : List Int32 := [2, 3, 4, 5, 6, 7, 8, 9, 10, 11, 12, 13]
/-- the first n steps w leave d numbers on the pile, and never lack one -/
def gd (w : Nat → Int32) : Nat → Nat → Prop
  | 0, d => d = 0
  | n + 1, d => 1 ≤ d ∧ gd w n (if w n = 0 ∨ w n = 1 then d - 1 else if w n = 2 ∨ w n = 3 then d else d + 1)
theorem gd.cg {w w' : Nat → Int32} : ∀ {n d : Nat}, (∀ k, k < n → w' k = w k) → gd w n d → gd w' n d
  | 0, _, _, h => h
  | n + 1, d, e, h => by
    refine ⟨h.1, ?_⟩
    rw [e n (by omega)]
    exact gd.cg (fun k hk => e k (by omega)) h.2
theorem gd.le {w : Nat → Int32} : ∀ {n d : Nat}, gd w n d → d ≤ n
  | 0, d, h => Nat.le_of_eq h
  | n + 1, d, h => by
    have e := gd.le h.2
    by_cases c1 : w n = 0 ∨ w n = 1
    · rw [if_pos c1] at e; omega
    · rw [if_neg c1] at e
      by_cases c2 : w n = 2 ∨ w n = 3
      · rw [if_pos c2] at e; omega
      · rw [if_neg c2] at e; omega
theorem gd.pre {w : Nat → Int32} : ∀ {n d i : Nat}, gd w n d → i ≤ n → ∃ d', gd w i d'
  | 0, d, i, h, hi => ⟨d, by have : i = 0 := by omega
                             subst this; exact h⟩
  | n + 1, d, i, h, hi => by
    by_cases e : i = n + 1
    · subst e; exact ⟨d, h⟩
    · exact gd.pre h.2 (by omega)
def co (w : Nat → Int32) : Nat → Nat
  | 0 => 0
  | n + 1 => co w n + (if w n = 13 then 1 else 0)
def cb (w : Nat → Int32) : Nat → Nat
  | 0 => 0
  | n + 1 => cb w n + (if w n = 2 ∨ w n = 3 ∨ w n = 13 then 0 else 1)
theorem co_cg {w w' : Nat → Int32} : ∀ {n : Nat}, (∀ k, k < n → w' k = w k) → co w' n = co w n
  | 0, _ => rfl
  | n + 1, e => by unfold co; rw [e n (by omega), co_cg (fun k hk => e k (by omega))]
theorem cb_cg {w w' : Nat → Int32} : ∀ {n : Nat}, (∀ k, k < n → w' k = w k) → cb w' n = cb w n
  | 0, _ => rfl
  | n + 1, e => by unfold cb; rw [e n (by omega), cb_cg (fun k hk => e k (by omega))]
def okw (w : Nat → Int32) (n : Nat) : Prop := ∀ k, k < n → w k ∈ sgL
/-- what is read so far: S steps, W signs that wait, opn brackets open -/
def RSp (P : Prop) (h : HI) (S W opn : Nat) : Prop := h 135 3 = nI S ∧ h 135 6 = nI W ∧ okw (h 141) W ∧ co (h 141) W = opn ∧ (P → gd (h 139) S (cb (h 141) W + 1))
def RSo (h : HI) (S W opn e : Nat) : Prop := h 135 3 = nI S ∧ h 135 6 = nI W ∧ okw (h 141) W ∧ co (h 141) W = opn ∧ gd (h 139) S (cb (h 141) W + e)
theorem RSo.p {h : HI} {S W opn e : Nat} (r : RSo h S W opn e) : RSp (e = 1) h S W opn := ⟨r.1, r.2.1, r.2.2.1, r.2.2.2.1, fun p => p ▸ r.2.2.2.2⟩
theorem RSp.o {P : Prop} {h : HI} {S W opn : Nat} (r : RSp P h S W opn) (p : P) : RSo h S W opn 1 := ⟨r.1, r.2.1, r.2.2.1, r.2.2.2.1, r.2.2.2.2 p⟩
theorem RSo.wait {h h' : HI} {S W opn e : Nat} {a : Int32} (r : RSo h S W opn e) (t6 : h' 135 6 = nI (W + 1)) (t3 : h' 135 3 = h 135 3) (t141 : h' 141 = upd (h 141) W a) (t139 : h' 139 = h 139) (ha : a ∈ sgL) {opn' e' : Nat} (ho : opn' = opn + (if a = 13 then 1 else 0)) (he : e = (if a = 2 ∨ a = 3 ∨ a = 13 then 0 else 1) + e') : RSo h' S (W + 1) opn' e' := by
  obtain ⟨s3, s6, ok, hco, hgd⟩ := r
  refine ⟨t3.trans s3, t6, ?_, ?_, ?_⟩
  · rw [t141]
    intro k hk
    by_cases ek : k = W
    · subst ek; rw [pk_us]; exact ha
    · rw [pk_un ek]; exact ok k (by omega)
  · rw [t141]
    unfold co
    rw [pk_us, co_cg (w := h 141) (fun k hk => pk_un (by omega)), hco, ho]
  · rw [t141, t139]
    unfold cb
    rw [pk_us, cb_cg (w := h 141) (fun k hk => pk_un (by omega)), Nat.add_assoc, ← he]
    exact hgd
theorem r10 {k c : Nat} (hk : k ≤ 60) (hc : c ≤ 3) : ¬ ((10 : Int32) * nI k + nI c = -1) := by
  rw [show (10 : Int32) = nI 10 from rfl, pk_mul, nI_add]
  intro e
  have h1 := nI_toInt (n := 10 * k + c) (by omega)
  rw [e, show (-1 : Int32).toInt = -1 by decide] at h1
  omega
end
section
-- 33.big
/-! LIMBS of the reference -/
def vl (f : Nat → Int32) (b : Nat) : Nat → Nat
  | 0 => 0
  | n + 1 => vl f b n + (f (b + n)).toNatClampNeg * 2 ^ (30 * n)
def dgs (f : Nat → Int32) (b n : Nat) : Prop := ∀ k, k < n → ∃ j : Nat, j < 1073741824 ∧ f (b + k) = nI j
theorem vl_cg {f f' : Nat → Int32} {b : Nat} : ∀ {n : Nat}, (∀ k, k < n → f' (b + k) = f (b + k)) → vl f' b n = vl f b n
  | 0, _ => rfl
  | n + 1, e => by unfold vl; rw [e n (by omega), vl_cg (fun k hk => e k (by omega))]
theorem dgs.cg {f f' : Nat → Int32} {b n : Nat} (d : dgs f b n) (e : ∀ k, k < n → f' (b + k) = f (b + k)) : dgs f' b n := fun k hk => by
  rw [e k hk]; exact d k hk
theorem p30 (n : Nat) : 2 ^ (30 * (n + 1)) = 1073741824 * 2 ^ (30 * n) := by
  rw [show 30 * (n + 1) = 30 + 30 * n by omega, Nat.pow_add]
theorem vl_lt {f : Nat → Int32} {b : Nat} : ∀ {n : Nat}, dgs f b n → vl f b n < 2 ^ (30 * n)
  | 0, _ => by unfold vl; exact Nat.two_pow_pos _
  | n + 1, d => by
    have h1 := vl_lt (n := n) (fun k hk => d k (by omega))
    obtain ⟨j, hj, ej⟩ := d n (by omega)
    unfold vl
    rw [ej, nI_clamp (by omega), p30]
    have h2 : (j + 1) * 2 ^ (30 * n) ≤ 1073741824 * 2 ^ (30 * n) := Nat.mul_le_mul_right _ (by omega)
    rw [Nat.add_mul, Nat.one_mul] at h2
    omega
def BG (h : HI) (r W v : Nat) : Prop := h 147 r = nI W ∧ dgs (h 146) (80 * r) W ∧ vl (h 146) (80 * r) W = v ∧ ∀ V, W = V + 1 → ¬ h 146 (80 * r + V) = 0
def BF (r : Nat) (h h' : HI) : Prop := (∀ o, o ≠ 146 → o ≠ 147 → h' o = h o) ∧ (∀ q, q ≠ r → h' 147 q = h 147 q) ∧ ∀ k, k < 80 * r ∨ 80 * r + 80 ≤ k → h' 146 k = h 146 k
theorem BF.rf {r : Nat} {h : HI} : BF r h h := ⟨fun _ _ _ => rfl, fun _ _ => rfl, fun _ _ => rfl⟩
theorem BF.tr {r : Nat} {a b c : HI} (x : BF r a b) (y : BF r b c) : BF r a c := ⟨fun o n m => (y.1 o n m).trans (x.1 o n m), fun q n => (y.2.1 q n).trans (x.2.1 q n), fun k n => (y.2.2 k n).trans (x.2.2 k n)⟩
theorem BG.fr {r q W v : Nat} {a b : HI} (g : BG a q W v) (x : BF r a b) (n : q ≠ r) (hW : W ≤ 80) : BG b q W v := by
  have e : ∀ k, k < 80 → b 146 (80 * q + k) = a 146 (80 * q + k) := fun k hk => x.2.2 _ (by
    rcases Nat.lt_or_gt_of_ne n with h | h <;> omega)
  refine ⟨(x.2.1 q n).trans g.1, g.2.1.cg (fun k hk => e k (by omega)), ?_, ?_⟩
  · rw [vl_cg (f := a 146) (fun k hk => e k (by omega))]; exact g.2.2.1
  · intro V hV
    rw [e V (by omega)]; exact g.2.2.2 V hV
theorem vl_le {f : Nat → Int32} {b n : Nat} (d : dgs f b (n + 1)) (hz : ¬ f (b + n) = 0) : 2 ^ (30 * n) ≤ vl f b (n + 1) := by
  obtain ⟨j, hj, ej⟩ := d n (by omega)
  unfold vl
  rw [ej, nI_clamp (by omega)]
  rw [ej] at hz
  have j1 : 1 ≤ j := by
    have : j ≠ 0 := fun q => hz (by rw [q]; exact nI_0)
    omega
  have h2 : 1 * 2 ^ (30 * n) ≤ j * 2 ^ (30 * n) := Nat.mul_le_mul_right _ j1
  omega
theorem BG.lt {a : HI} {r W v s U u : Nat} (x : BG a r W v) (y : BG a s U u) (h : W < U) : v < u := by
  obtain ⟨V, rfl⟩ : ∃ V, U = V + 1 := ⟨U - 1, by omega⟩
  have h1 := vl_lt x.2.1
  have h2 := vl_le y.2.1 (y.2.2.2 V rfl)
  rw [x.2.2.1] at h1
  rw [y.2.2.1] at h2
  have h3 : 2 ^ (30 * W) ≤ 2 ^ (30 * V) := Nat.pow_le_pow_right (by omega) (by omega)
  omega
end
section
-- 34.take
/-! TAKING, ALONG of the reference -/
/-- how much of the search is left -/
def ms (f : Nat → Int32) (S : Nat) : Nat → Nat
  | 0 => 0
  | j + 1 => ms f S j + ((S : Int) - (f j).toInt).toNat * 13 ^ (5 - j)
end
section
-- 36.ref2
/-! ODDS of the reference -/
def isRow (c x : Int32) : Prop := 0 ≤ x.toInt ∧ x.toInt < c.toInt
/-- how wide THE FRACTION is -/
def WI (h : HI) : Prop := ∃ a b : Nat, a ≤ 70 ∧ b ≤ 70 ∧ h 147 0 = nI a ∧ h 147 1 = nI b
theorem WI.cg {a b : HI} (w : WI a) (e0 : b 147 0 = a 147 0) (e1 : b 147 1 = a 147 1) : WI b := by
  unfold WI; rw [e0, e1]; exact w
end
section
-- 37.ref3
/-! FITTED, ALONG, DIGEST of the reference -/
theorem bd_nIp {a b : Int} {x : Int32} (h : bd a b x) (h0 : 0 ≤ a) : ∃ j : Nat, (j : Int) ≤ b ∧ a ≤ (j : Int) ∧ j < 2 ^ 31 ∧ x = nI j := by
  obtain ⟨j, h1, h2, rfl⟩ := bd_nI (h.mo h0 (Int.le_refl b))
  refine ⟨j, h1, ?_, h2, rfl⟩
  have := h.1
  rw [nI_toInt h2] at this
  exact this
end
section
-- 38.way
/-! WAY of the reference -/
/-- what a row of works costs that begins with work w at size s and has l more -/
def bv (f q : Nat → Int32) (w s l : Nat) : Int32 :=
  if (f (672 + 4 * w + 2)).toInt ≤ (s : Int) ∧ (s : Int) ≤ (f (672 + 4 * w + 3)).toInt ∧ 1 ≤ (nI s + f (672 + 4 * w)).toInt ∧ (nI s + f (672 + 4 * w)).toInt ≤ 3000
  then f (672 + 4 * w + 1) + q (3001 * l + (nI s + f (672 + 4 * w)).toNatClampNeg) else 1000000
/-- prices of n works, all sizes below S -/
def okP (f q : Nat → Int32) (W n S : Nat) : Prop := ∀ s : Nat, 1 ≤ s → s < S → bd 0 1000000 (q (3001 * n + s)) ∧ (1 ≤ n → q (3001 * n + s) = 1000000 ∨ ∃ w, w < W ∧ bv f q w s (n - 1) = q (3001 * n + s))
theorem bv_cg {f q q' : Nat → Int32} {w s l : Nat} (e : ∀ t, 1 ≤ t → t ≤ 3000 → q' (3001 * l + t) = q (3001 * l + t)) : bv f q' w s l = bv f q w s l := by
  unfold bv
  by_cases c : (f (672 + 4 * w + 2)).toInt ≤ (s : Int) ∧ (s : Int) ≤ (f (672 + 4 * w + 3)).toInt ∧ 1 ≤ (nI s + f (672 + 4 * w)).toInt ∧ (nI s + f (672 + 4 * w)).toInt ≤ 3000
  · rw [if_pos c, if_pos c]
    obtain ⟨t, t1, t2, t3, et⟩ := bd_nIp (a := 1) (b := 3000) (x := nI s + f (672 + 4 * w)) ⟨c.2.2.1, c.2.2.2⟩ (by omega)
    rw [et, nI_clamp t3, e t (by omega) (by omega)]
  · rw [if_neg c, if_neg c]
theorem okP.cg {f q q' : Nat → Int32} {W n S : Nat} (h : okP f q W n S) (hS : S ≤ 3001) (e : ∀ i, i < 3001 * n + S → q' i = q i) : okP f q' W n S := by
  intro s s1 s2
  obtain ⟨a, b⟩ := h s s1 s2
  rw [e _ (by omega)]
  refine ⟨a, fun n1 => (b n1).elim .inl (fun ⟨w, w1, w2⟩ => .inr ⟨w, w1, ?_⟩)⟩
  rw [bv_cg (q := q) (fun t t1 t2 => e _ (by
    have : 3001 * (n - 1) + 3001 = 3001 * n := by omega
    omega))]
  exact w2
end
section
-- 40.inv
/-! WHAT HOLDS BETWEEN CALLS (counts) -/
def wJL : List Nat := [5, 3, 6, 15, 4, 1, 3, 2, 2, 2, 1, 1]
def MJL : List Nat := [24, 4, 60, 16, 8, 6, 9, 1, 40, 3, 4, 60]
def cpL : List Nat := [0, 99, 1, 2, 3, 4, 5, 98, 6, 7, 97, 8]
def wJ (j : Nat) : Nat := wJL.getD j 0
def MJ (j : Nat) : Nat := MJL.getD j 0
def cpJ (j : Nat) : Nat := cpL.getD j 0
/-- how many rows a table of the shop has: as the reference counts them, or fixed -/
def cOK (j m : Nat) (f : Nat → Int32) : Prop := if j = 1 ∨ j = 10 then m = 4 else if j = 7 then m = 1 else f (cpJ j) = nI m
def CN (h : HI) (s : Nat) (f : Nat → Int32) : Prop := ∀ j, j < 12 → ∃ m, TT h (s + (1 + 2 * j)) m (wJ j) (MJ j) ∧ cOK j m f
def CJ (h : HI) : Prop := ∀ s, isS s → ∀ j, j < 12 → ∃ m, TT h (s + (1 + 2 * j)) m (wJ j) (MJ j)
theorem CJ.ci {h : HI} (c : CJ h) : CI h := fun o ho => by
  obtain ⟨s, hs, j, hj, e⟩ := (by decide +kernel : ∀ o ∈ isTL, ∃ s ∈ isSL, ∃ j, j < 12 ∧ o = s + (1 + 2 * j)) o ho
  subst e
  obtain ⟨m, T⟩ := c s hs j hj
  exact ⟨m, _, _, T⟩
def rg (k : Nat) : Int × Int :=
  if k = 0 then (0, 24) else if k = 1 then (0, 60) else if k = 2 then (0, 16) else if k = 3 then (0, 8) else if k = 4 then (0, 6) else if k = 5 then (0, 9) else if k = 6 then (0, 40) else if k = 7 then (0, 3) else if k = 8 then (0, 60) else if k = 9 then (0, 9) else if k = 10 then (0, 9)
  else if 20 ≤ k ∧ k < 140 then (if (k - 20) % 5 = 0 then (0, 100) else if (k - 20) % 5 = 3 then (-1, 3) else (-2147483648, 2147483647))
  else if 140 ≤ k ∧ k < 152 then (if (k - 140) % 3 = 1 then (1, 100000) else (-2147483648, 2147483647))
  else if 152 ≤ k ∧ k < 512 then (if (k - 152) % 6 = 0 then (0, 23) else (-2147483648, 2147483647))
  else if 512 ≤ k ∧ k < 672 then (if (k - 512) % 10 = 2 then (0, 6) else if 3 ≤ (k - 512) % 10 ∧ (k - 512) % 10 ≤ 8 then (0, 23) else (-2147483648, 2147483647))
  else if 672 ≤ k ∧ k < 704 then (if (k - 672) % 4 = 0 then (-500, 500) else if (k - 672) % 4 = 1 then (0, 1000) else (-2147483648, 2147483647))
  else if 817 ≤ k ∧ k < 823 then (if (k - 817) % 2 = 0 then (0, 15) else (-2147483648, 2147483647))
  else (-2147483648, 2147483647)
def okR (k : Nat) (x : Int32) : Prop := bd (rg k).1 (rg k).2 x
def RG (f : Nat → Int32) : Prop := ∀ k, okR k (f k)
theorem RG.set {f : Nat → Int32} {k : Nat} {x : Int32} (r : RG f) (h : okR k x) : RG (upd f k x) := fun i => by
  by_cases e : i = k
  · subst e; rw [pk_us]; exact h
  · rw [pk_un e]; exact r i
theorem bd_all (x : Int32) : bd (-2147483648) 2147483647 x := ⟨Int32.le_toInt x, by have := Int32.toInt_lt x; omega⟩
def IMG (h : HI) (i : Nat) : Nat → Int32 := fun k => h 137 (887 * i + k)
def KF (h : HI) : Prop := h 76 0 = h 138 0 ∧ h 76 1 = h 138 1
def INV (h : HI) : Prop := CJ h ∧ RG (h 136) ∧ WI h ∧ CN h 1 (h 136) ∧ KF h ∧ ∀ i, i < 2 → ¬ h 138 i = 0 → CN h (26 + 25 * i) (IMG h i) ∧ RG (IMG h i)
theorem CN.cg {h h' : HI} {s : Nat} {f f' : Nat → Int32} (c : CN h s f) (e : ∀ o, s + 1 ≤ o → o ≤ s + 24 → h' o = h o) (ef : ∀ i, i < 9 → f' i = f i) : CN h' s f' := fun j hj => by
  obtain ⟨m, T, k⟩ := c j hj
  refine ⟨m, T.cg (e _ (by omega) (by omega)), ?_⟩
  unfold cOK at k ⊢
  by_cases c1 : j = 1 ∨ j = 10
  · rw [if_pos c1] at k ⊢; exact k
  · rw [if_neg c1] at k ⊢
    by_cases c2 : j = 7
    · rw [if_pos c2] at k ⊢; exact k
    · rw [if_neg c2] at k ⊢
      have : cpJ j < 9 := (by decide : ∀ j, j < 12 → ¬ (j = 1 ∨ j = 10) → ¬ j = 7 → cpJ j < 9) j hj c1 c2
      rw [ef _ this]; exact k
theorem CJ.cg {h h' : HI} (c : CJ h) (e : ∀ o, o ≤ 75 → h' o = h o) : CJ h' := fun s hs j hj => by
  obtain ⟨m, T⟩ := c s hs j hj
  have : s ≤ 51 := (by decide : ∀ s ∈ isSL, s ≤ 51) s hs
  exact ⟨m, T.cg (e _ (by omega))⟩
/-- calls that change no table -/
theorem INV.cg {h h' : HI} (v : INV h) (e : ∀ o, o ≤ 76 → h' o = h o) (e6 : h' 136 = h 136) (e7 : h' 137 = h 137) (e8 : h' 138 = h 138) (w : WI h') : INV h' := by
  obtain ⟨a, b, c, d, k, im⟩ := v
  refine ⟨a.cg (fun o ho => e o (by omega)), by rw [e6]; exact b, w, ?_, ?_, ?_⟩
  · exact d.cg (fun o h1 h2 => e o (by omega)) (fun i hi => by rw [e6])
  · unfold KF; rw [e 76 (by omega), e8]; exact k
  · intro i hi hn
    rw [e8] at hn
    have eI : IMG h' i = IMG h i := by unfold IMG; rw [e7]
    rw [eI]
    exact ⟨(im i hi hn).1.cg (fun o h1 h2 => e o (by omega)) (fun _ _ => rfl), (im i hi hn).2⟩
/-- calls that change one table -/
theorem INV.mut {h h' : HI} (v : INV h) {j m : Nat} (hj : j < 12) (e : ∀ o, o ≤ 76 → o ≠ 1 + (1 + 2 * j) → o ≠ 2 + (1 + 2 * j) → h' o = h o) (T : TT h' (1 + (1 + 2 * j)) m (wJ j) (MJ j)) (k : cOK j m (h' 136)) (r : RG (h' 136)) (ef : ∀ i, i < 9 → i ≠ cpJ j → h' 136 i = h 136 i) (e7 : h' 137 = h 137) (e8 : h' 138 = h 138) (w : WI h') : INV h' := by
  obtain ⟨a, b, c, d, kf, im⟩ := v
  refine ⟨?_, r, w, ?_, ?_, ?_⟩
  · intro s hs i hi
    have hs' : s = 1 ∨ s = 26 ∨ s = 51 := (by decide : ∀ s ∈ isSL, s = 1 ∨ s = 26 ∨ s = 51) s hs
    by_cases q : s = 1 ∧ i = j
    · obtain ⟨rfl, rfl⟩ := q; exact ⟨m, T⟩
    · obtain ⟨m', T'⟩ := a s hs i hi
      exact ⟨m', T'.cg (e _ (by omega) (by omega) (by omega))⟩
  · intro i hi
    by_cases q : i = j
    · subst q; exact ⟨m, T, k⟩
    · obtain ⟨m', T', k'⟩ := d i hi
      refine ⟨m', T'.cg (e _ (by omega) (by omega) (by omega)), ?_⟩
      unfold cOK at k' ⊢
      by_cases c1 : i = 1 ∨ i = 10
      · rw [if_pos c1] at k' ⊢; exact k'
      · rw [if_neg c1] at k' ⊢
        by_cases c2 : i = 7
        · rw [if_pos c2] at k' ⊢; exact k'
        · rw [if_neg c2] at k' ⊢
          have h1 : cpJ i < 9 := (by decide : ∀ j, j < 12 → ¬ (j = 1 ∨ j = 10) → ¬ j = 7 → cpJ j < 9) i hi c1 c2
          have h2 : cpJ i ≠ cpJ j := (by decide : ∀ i, i < 12 → ∀ j, j < 12 → i ≠ j → cpJ i ≠ cpJ j) i hi j hj q
          rw [ef _ h1 h2]; exact k'
  · unfold KF; rw [e 76 (by omega) (by omega) (by omega), e8]; exact kf
  · intro i hi hn
    rw [e8] at hn
    have eI : IMG h' i = IMG h i := by unfold IMG; rw [e7]
    rw [eI]
    exact ⟨(im i hi hn).1.cg (fun o h1 h2 => e o (by omega) (by omega) (by omega)) (fun _ _ => rfl), (im i hi hn).2⟩
/-- the class's tables, one or two of them changed -/
def SM (o q : Nat) : Prop := q = o ∨ q = o + 1 ∨ o = 24 ∧ 77 ≤ q ∧ q ≤ 79
def ADc (C : Prop) (h : HI) (r : Int32) (h' : HI) (o m w M k : Nat) (row : Nat → Int32) : Prop :=
  (¬ C ∧ r = -2 ∧ h' = h) ∨ (C ∧ m = M ∧ r = -4 ∧ h' = h) ∨ (C ∧ m < M ∧ r = nI (m + k) ∧ JJ (SM o) h h' ∧ TT h' o (m + 1) w M ∧ (∀ i, i < m * w → h' (o + 1) i = h (o + 1) i) ∧ ∀ c, c < w → h' (o + 1) (m * w + c) = row c)
def ADr (C : Prop) (h : HI) (r : Int32) (h' : HI) (c m M k : Nat) (F : (Nat → Int32) → Prop) : Prop :=
  (¬ C ∧ r = -2 ∧ h' = h) ∨ (C ∧ m = M ∧ r = -4 ∧ h' = h) ∨ (C ∧ m < M ∧ r = nI (m + k) ∧ (∀ o, o ≠ 136 → h' o = h o) ∧ h' 136 c = nI (m + 1) ∧ (∀ i, i < 9 → i ≠ c → h' 136 i = h 136 i) ∧ RG (h' 136) ∧ F (h' 136))
end
section
-- 41.mutc
def rows (x1 x2 x3 x4 x5 : Int32) (c : Nat) : Int32 := if c = 4 then (if x2 = 0 then x5 else 0) else rowc x1 x2 x3 (if x2 = 0 ∨ x2 = 1 then x4 else 0) c
end
section
-- 42.mutr
/-! THE REFERENCE'S CALLS THAT CHANGE IT -/
abbrev dfl : Int × Int := (-2147483648, 2147483647)
/-- only the reference's numbers changed, and they are f now, the counts as in b -/
def ST (h0 h : HI) (f : Nat → Int32) : Prop := (∀ o, o ≠ 136 → h o = h0 o) ∧ h 136 = f ∧ RG f
theorem ST.rf {h : HI} (r : RG (h 136)) : ST h h (h 136) := ⟨fun _ _ => rfl, rfl, r⟩
theorem ST.hu {h0 h h' : HI} {f : Nat → Int32} {k : Nat} {x : Int32} (s : ST h0 h f) (e : h' = hu h 136 k x) (ok : okR k x) : ST h0 h' (upd f k x) := by
  obtain ⟨a, b, r⟩ := s
  subst b
  exact ⟨fun o n => by rw [e, hu_ne n]; exact a o n, by rw [e, hu_eq], r.set ok⟩
end
section
-- 43.mutr2
/-- a call of the reference that leaves its counts -/
def PTr (A : Prop) (h h' : HI) : Prop := A ∧ ∃ f, ST h h' f ∧ ∀ i, i < 9 → f i = h 136 i
theorem PTr.rf {A : Prop} {h : HI} (r : RG (h 136)) (a : A) : PTr A h h := ⟨a, h 136, ST.rf r, fun _ _ => rfl⟩
end
section
-- 46.init
/-! THE START -/
def fam (k : Nat) : Int32 := if k % 3 = 2 then 100000 else 1
theorem JJ.hz {S : Nat → Prop} {a b c : HI} {n N : Nat} (x : JJ S a b) (e : c = hz b n N) (hs : ∀ q, n < q → q ≤ n + N → S q) : JJ S a c := fun q hq => by
  have : ¬ (n < q ∧ q ≤ n + N) := fun k => hq (hs q k.1 k.2)
  have e2 : c q = b q := by
    rw [e]; exact if_neg this
  rw [e2]; exact x q hq

def m0 (j : Nat) : Nat := if j = 1 ∨ j = 10 then 4 else if j = 7 then 1 else 0
end
section
-- 47.digest
/-! THE REFERENCE'S DIGEST: it goes through -/
theorem SLt.ff : ∀ o k, SRd o k → SFf o k := fun o k h => by unfold SRd at h; unfold SFf; omega
end
section
-- 50.rel
/-! WHAT THE TABLES HOLD -/
def bsLs : List Nat := [20, 140, 152, 512, 672, 704, 710, 9, 737, 817, 823, 827]
def hiLs : List Nat := [140, 152, 512, 672, 704, 710, 737, 11, 817, 823, 827, 887]
def bsJ (j : Nat) : Nat := bsLs.getD j 0
def hiJ (j : Nat) : Nat := hiLs.getD j 0
/-- cell by cell: families, sayings, works, machines, spares, odds, loads, hands, needs, signs -/
def CS (h : HI) (s : Nat) (f : Nat → Int32) (j m : Nat) : Prop := ∀ k, k < m * wJ j → h (s + (1 + 2 * j) + 1) k = f (bsJ j + k)
/-- parts: four columns; who bears whom, the other way round, as bits of numbers below 2 ^ 24 -/
def CP (h : HI) (s : Nat) (f : Nat → Int32) (m : Nat) : Prop :=
  (∀ p, p < m → ∀ c, c < 4 → h (s + (1 + 2 * 0) + 1) (p * 5 + c) = f (20 + (p * 5 + c))) ∧
  ∃ cN rN : Nat → Nat, (∀ p, p < m → cN p < 2 ^ 24 ∧ rN p < 2 ^ 24 ∧ h (s + (1 + 2 * 0) + 1) (p * 5 + 4) = nI (cN p) ∧ f (20 + (p * 5 + 4)) = nI (rN p)) ∧
    (∀ p, m ≤ p → cN p = 0 ∧ rN p = 0) ∧ ∀ a b, (cN b).testBit a = (rN a).testBit b
/-- chains -/
def CC (h : HI) (s : Nat) (f : Nat → Int32) (m : Nat) : Prop := ∀ r, r < m →
  h (s + (1 + 2 * 3) + 1) (r * 15) = f (512 + r * 10) ∧ h (s + (1 + 2 * 3) + 1) (r * 15 + 1) = f (512 + (r * 10 + 1)) ∧ h (s + (1 + 2 * 3) + 1) (r * 15 + 2) = f (512 + (r * 10 + 2)) ∧
  ∃ n o : Nat, n ≤ 6 ∧ f (512 + (r * 10 + 2)) = nI n ∧ o < 2 ^ n ∧ f (512 + (r * 10 + 9)) = nI o ∧
    ∀ k, k < n → h (s + (1 + 2 * 3) + 1) (r * 15 + (3 + 2 * k)) = f (512 + (r * 10 + (3 + k))) ∧ h (s + (1 + 2 * 3) + 1) (r * 15 + (4 + 2 * k)) = (if o.testBit k then 1 else 0)
def CE (h : HI) (s : Nat) (f : Nat → Int32) (j m : Nat) : Prop := if j = 0 then CP h s f m else if j = 3 then CC h s f m else CS h s f j m
theorem CE.e0 {h : HI} {s : Nat} {f : Nat → Int32} {m : Nat} : CE h s f 0 m ↔ CP h s f m := by unfold CE; rw [if_pos rfl]
theorem CE.e3 {h : HI} {s : Nat} {f : Nat → Int32} {m : Nat} : CE h s f 3 m ↔ CC h s f m := by unfold CE; rw [if_neg (by decide), if_pos rfl]
theorem CE.es {h : HI} {s : Nat} {f : Nat → Int32} {j m : Nat} (j0 : ¬ j = 0) (j3 : ¬ j = 3) : CE h s f j m ↔ CS h s f j m := by unfold CE; rw [if_neg j0, if_neg j3]
theorem CE.tr {h h' : HI} {s s' : Nat} {f f' : Nat → Int32} {j m : Nat} (c : CE h s f j m) (hj : j < 12) (hm : m ≤ MJ j) (e : ∀ i, i < m * wJ j → h' (s' + (1 + 2 * j) + 1) i = h (s + (1 + 2 * j) + 1) i) (ef : ∀ k, bsJ j ≤ k → k < hiJ j → f' k = f k) : CE h' s' f' j m := by
  by_cases j0 : j = 0
  · subst j0
    rw [CE.e0] at c ⊢
    have hm : m ≤ 24 := hm
    have ef : ∀ k, 20 ≤ k → k < 140 → f' k = f k := ef
    have e : ∀ i, i < m * 5 → h' (s' + (1 + 2 * 0) + 1) i = h (s + (1 + 2 * 0) + 1) i := e
    obtain ⟨c1, cN, rN, c2, c3, c4⟩ := c
    refine ⟨fun p hp c hc => ?_, cN, rN, fun p hp => ?_, c3, c4⟩
    · rw [e (p * 5 + c) (by omega), ef (20 + (p * 5 + c)) (by omega) (by omega)]; exact c1 p hp c hc
    · rw [e (p * 5 + 4) (by omega), ef (20 + (p * 5 + 4)) (by omega) (by omega)]; exact c2 p hp
  · by_cases j3 : j = 3
    · subst j3
      rw [CE.e3] at c ⊢
      have hm : m ≤ 16 := hm
      have ef : ∀ k, 512 ≤ k → k < 672 → f' k = f k := ef
      have e : ∀ i, i < m * 15 → h' (s' + (1 + 2 * 3) + 1) i = h (s + (1 + 2 * 3) + 1) i := e
      intro r hr
      obtain ⟨a1, a2, a3, n, o, a4, a5, a6, a7, a8⟩ := c r hr
      refine ⟨?_, ?_, ?_, n, o, a4, ?_, a6, ?_, fun k hk => ⟨?_, ?_⟩⟩
      · rw [e (r * 15) (by omega), ef (512 + r * 10) (by omega) (by omega)]; exact a1
      · rw [e (r * 15 + 1) (by omega), ef (512 + (r * 10 + 1)) (by omega) (by omega)]; exact a2
      · rw [e (r * 15 + 2) (by omega), ef (512 + (r * 10 + 2)) (by omega) (by omega)]; exact a3
      · rw [ef (512 + (r * 10 + 2)) (by omega) (by omega)]; exact a5
      · rw [ef (512 + (r * 10 + 9)) (by omega) (by omega)]; exact a7
      · rw [e (r * 15 + (3 + 2 * k)) (by omega), ef (512 + (r * 10 + (3 + k))) (by omega) (by omega)]; exact (a8 k hk).1
      · rw [e (r * 15 + (4 + 2 * k)) (by omega)]; exact (a8 k hk).2
    · rw [CE.es j0 j3] at c ⊢
      intro k hk
      have h1 : m * wJ j ≤ MJ j * wJ j := Nat.mul_le_mul_right _ hm
      have h2 : bsJ j + MJ j * wJ j ≤ hiJ j := (by decide : ∀ j, j < 12 → ¬ j = 3 → bsJ j + MJ j * wJ j ≤ hiJ j) j hj j3
      rw [e k hk, ef (bsJ j + k) (by omega) (by omega)]
      exact c k hk
/-- sayings and chains speak of parts that are there; a saying is denied or not -/
def XR (f : Nat → Int32) : Prop :=
  (∀ r n : Nat, f 1 = nI n → n ≤ 60 → r < n → isRow (f 0) (f (152 + (r * 6 + 0))) ∧ (f (152 + (r * 6 + 5)) = 0 ∨ f (152 + (r * 6 + 5)) = 1)) ∧
  (∀ r n k c : Nat, f 2 = nI n → n ≤ 16 → r < n → f (512 + (r * 10 + 2)) = nI c → c ≤ 6 → k < c → isRow (f 0) (f (512 + (r * 10 + (3 + k)))))
theorem isRow_le {a b x : Int32} (h : isRow a x) (e : a.toInt ≤ b.toInt) : isRow b x := by
  unfold isRow at *; omega
theorem XR.cg {f f' : Nat → Int32} (x : XR f) (e0 : (f 0).toInt ≤ (f' 0).toInt) (e1 : f' 1 = f 1) (e2 : f' 2 = f 2) (e : ∀ k, 152 ≤ k → k < 672 → f' k = f k) : XR f' := by
  refine ⟨fun r n h1 h2 h3 => ?_, fun r n k c h1 h2 h3 h4 h5 h6 => ?_⟩
  · rw [e1] at h1
    rw [e (152 + (r * 6 + 0)) (by omega) (by omega), e (152 + (r * 6 + 5)) (by omega) (by omega)]
    exact ⟨isRow_le (x.1 r n h1 h2 h3).1 e0, (x.1 r n h1 h2 h3).2⟩
  · rw [e2] at h1
    rw [e (512 + (r * 10 + 2)) (by omega) (by omega)] at h4
    rw [e (512 + (r * 10 + (3 + k))) (by omega) (by omega)]
    exact isRow_le (x.2 r n k c h1 h2 h3 h4 h5 h6) e0
def RL1 (h : HI) (s : Nat) (f : Nat → Int32) : Prop := (∀ j m, j < 12 → m ≤ MJ j → h (s + (1 + 2 * j)) 3 = nI m → CE h s f j m) ∧ XR f
def RLT (h : HI) : Prop := RL1 h 1 (h 136) ∧ ∀ i, i < 2 → ¬ h 138 i = 0 → RL1 h (26 + 25 * i) (IMG h i)
theorem hi_le {j : Nat} (hj : j < 12) : hiJ j ≤ 887 := (by decide : ∀ j, j < 12 → hiJ j ≤ 887) j hj
theorem bs_dj {i j : Nat} (hi : i < 12) (hj : j < 12) (n : i ≠ j) : hiJ i ≤ bsJ j ∨ hiJ j ≤ bsJ i := (by decide : ∀ i, i < 12 → ∀ j, j < 12 → i ≠ j → hiJ i ≤ bsJ j ∨ hiJ j ≤ bsJ i) i hi j hj n
theorem bs_9 {i : Nat} (hi : i < 12) : 9 ≤ bsJ i := (by decide : ∀ i, i < 12 → 9 ≤ bsJ i) i hi
theorem RL1.cg {h h' : HI} {s : Nat} {f f' : Nat → Int32} (r : RL1 h s f) (e : ∀ o, s + 1 ≤ o → o ≤ s + 24 → h' o = h o) (ef : ∀ k, k < 887 → f' k = f k) : RL1 h' s f' := by
  refine ⟨fun j m hj hm ht => ?_, r.2.cg (by rw [ef 0 (by omega)]; exact Int.le_refl _) (ef 1 (by omega)) (ef 2 (by omega)) (fun k _ hk => ef k (by omega))⟩
  rw [e (s + (1 + 2 * j)) (by omega) (by omega)] at ht
  have := hi_le hj
  exact (r.1 j m hj hm ht).tr hj hm (fun i _ => by rw [e (s + (1 + 2 * j) + 1) (by omega) (by omega)]) (fun k _ hk => ef k (by omega))
/-- one table changes -/
theorem RL1.mut {h h' : HI} {s : Nat} {f f' : Nat → Int32} {j : Nat} (r : RL1 h s f) (hj : j < 12) (e : ∀ o, s + 1 ≤ o → o ≤ s + 24 → o ≠ s + (1 + 2 * j) → o ≠ s + (1 + 2 * j) + 1 → h' o = h o) (ef : ∀ k, 9 ≤ k → k < 887 → (k < bsJ j ∨ hiJ j ≤ k) → f' k = f k) (new : ∀ m, m ≤ MJ j → h' (s + (1 + 2 * j)) 3 = nI m → CE h' s f' j m) (x : XR f') : RL1 h' s f' := by
  refine ⟨fun i m hi hm ht => ?_, x⟩
  by_cases q : i = j
  · subst q; exact new m hm ht
  · rw [e (s + (1 + 2 * i)) (by omega) (by omega) (by omega) (by omega)] at ht
    have h1 := hi_le hi
    have h2 := bs_dj hi hj q
    have h3 := bs_9 hi
    exact (r.1 i m hi hm ht).tr hi hm (fun a _ => by rw [e (s + (1 + 2 * i) + 1) (by omega) (by omega) (by omega) (by omega)]) (fun k k1 k2 => ef k (by omega) (by omega) (by omega))
theorem CS_add {h h' : HI} {s j m : Nat} {f f' row : Nat → Int32} (c : CS h s f j m) (old : ∀ i, i < m * wJ j → h' (s + (1 + 2 * j) + 1) i = h (s + (1 + 2 * j) + 1) i) (new : ∀ c, c < wJ j → h' (s + (1 + 2 * j) + 1) (m * wJ j + c) = row c) (fo : ∀ i, i < m * wJ j → f' (bsJ j + i) = f (bsJ j + i)) (fn : ∀ c, c < wJ j → f' (bsJ j + (m * wJ j + c)) = row c) : CS h' s f' j (m + 1) := by
  intro k hk
  rw [Nat.add_mul, Nat.one_mul] at hk
  by_cases q : k < m * wJ j
  · rw [old k q, fo k q]; exact c k q
  · obtain ⟨d, rfl⟩ : ∃ d, k = m * wJ j + d := ⟨k - m * wJ j, by omega⟩
    rw [new d (by omega), fn d (by omega)]
/-- calls that change the shop in use alone -/
theorem RLT.sh {h h' : HI} (r : RLT h) (n : RL1 h' 1 (h' 136)) (e : ∀ o, 26 ≤ o → o ≤ 75 → h' o = h o) (e7 : h' 137 = h 137) (e8 : h' 138 = h 138) : RLT h' := by
  refine ⟨n, fun i hi hn => ?_⟩
  rw [e8] at hn
  exact (r.2 i hi hn).cg (fun o h1 h2 => e o (by omega) (by omega)) (fun k _ => by unfold IMG; rw [e7])
theorem TT.nu {h : HI} {o m n w M : Nat} (T : TT h o m w M) (e : h o 3 = nI n) (hn : n ≤ M) : n = m := by
  have a := T.2.2.1
  rw [e] at a
  have c1 := T.2.2.2.1
  have d1 := T.2.2.2.2.2.2.2.2
  exact (nI_eq (by omega) (by omega)).mp a
theorem RLT.put {h h1 h2 : HI} {j : Nat} (q : RLT h) (hj : j < 12) (J : JJ (SM (1 + (1 + 2 * j))) h h1) (F : ∀ o, o ≠ 136 → h2 o = h1 o) (fr : ∀ k, 9 ≤ k → k < 887 → (k < bsJ j ∨ hiJ j ≤ k) → h2 136 k = h 136 k) (ce : ∀ m, m ≤ MJ j → h2 (1 + (1 + 2 * j)) 3 = nI m → CE h2 1 (h2 136) j m) (xr : XR (h2 136)) : RLT h2 := by
  have e : ∀ o, o ≠ 136 → ¬ SM (1 + (1 + 2 * j)) o → h2 o = h o := fun o a b => (F o a).trans (J o b)
  refine q.sh (q.1.mut hj (fun o a b c d => e o (by omega) (by unfold SM; omega)) fr ce xr) (fun o a b => e o (by omega) (by unfold SM; omega)) (e 137 (by omega) (by unfold SM; omega)) (e 138 (by omega) (by unfold SM; omega))
theorem RLT.add {C : Prop} {h h1 h2 : HI} {r s : Int32} {j m k : Nat} {row : Nat → Int32} {F : (Nat → Int32) → Prop} (q : RLT h) (hj : j < 12) (T : TT h (1 + (1 + 2 * j)) m (wJ j) (MJ j)) (a : ADc C h r h1 (1 + (1 + 2 * j)) m (wJ j) (MJ j) k row) (b : ADr C h1 s h2 (cpJ j) m (MJ j) k F)
    (fr : m < MJ j → ∀ f', F f' → ∀ k, 9 ≤ k → k < 887 → (k < bsJ j ∨ hiJ j ≤ k) → f' k = h1 136 k)
    (ce : C → m < MJ j → ∀ f', F f' → CE h 1 (h 136) j m → (∀ i, i < m * wJ j → h2 (1 + (1 + 2 * j) + 1) i = h (1 + (1 + 2 * j) + 1) i) → (∀ c, c < wJ j → h2 (1 + (1 + 2 * j) + 1) (m * wJ j + c) = row c) → CE h2 1 f' j (m + 1))
    (xr : C → m < MJ j → ∀ f', F f' → XR (h 136) → f' (cpJ j) = nI (m + 1) → (∀ i, i < 9 → i ≠ cpJ j → f' i = h 136 i) → XR f') : RLT h2 := by
  rcases a with ⟨a1, a2, rfl⟩ | ⟨a1, a3, a2, rfl⟩ | ⟨a1, a3, a2, J, T1, old, new⟩
  · rcases b with ⟨b1, b2, rfl⟩ | ⟨b1, b3, b2, rfl⟩ | ⟨b1, b3, b2, b4⟩
    · exact q
    · exact absurd b1 a1
    · exact absurd b1 a1
  · rcases b with ⟨b1, b2, rfl⟩ | ⟨b1, b3, b2, rfl⟩ | ⟨b1, b3, b2, b4⟩
    · exact absurd a1 b1
    · exact q
    · omega
  · rcases b with ⟨b1, b2, rfl⟩ | ⟨b1, b3, b2, rfl⟩ | ⟨b1, b3, b2, e, ec, ef, R, hF⟩
    · exact absurd a1 b1
    · omega
    · have e6 : h1 136 = h 136 := J 136 (by unfold SM; omega)
      refine q.put hj J e (fun k h1 h2 h3 => by rw [fr a3 _ hF k h1 h2 h3, e6]) (fun m' hm' ht => ?_) (xr a1 a3 _ hF q.1.2 ec (fun i hi hn => by rw [ef i hi hn, e6]))
      have T2 : TT h2 (1 + (1 + 2 * j)) (m + 1) (wJ j) (MJ j) := T1.cg (e _ (by omega))
      have := T2.nu ht hm'
      subst this
      have eq : h2 (1 + (1 + 2 * j) + 1) = h1 (1 + (1 + 2 * j) + 1) := e _ (by omega)
      exact ce a1 a3 _ hF (q.1.1 j m hj (by omega) T.2.2.1) (fun i hi => by rw [eq]; exact old i hi) (fun c hc => by rw [eq]; exact new c hc)
def FF (f f' : Nat → Int32) (j m : Nat) (row : Nat → Int32) : Prop := (∀ k, 9 ≤ k → k < 887 → (k < bsJ j + m * wJ j ∨ bsJ j + m * wJ j + wJ j ≤ k) → f' k = f k) ∧ ∀ c, c < wJ j → f' (bsJ j + (m * wJ j + c)) = row c
theorem FF.fr {f f' row : Nat → Int32} {j m : Nat} (x : FF f f' j m row) (hj : j < 12) (h3 : ¬ j = 3) (hm : m < MJ j) (k : Nat) (k9 : 9 ≤ k) (k8 : k < 887) (ho : k < bsJ j ∨ hiJ j ≤ k) : f' k = f k := by
  have h2 : bsJ j + MJ j * wJ j ≤ hiJ j := (by decide : ∀ j, j < 12 → ¬ j = 3 → bsJ j + MJ j * wJ j ≤ hiJ j) j hj h3
  have h1 : (m + 1) * wJ j ≤ MJ j * wJ j := Nat.mul_le_mul_right _ hm
  rw [Nat.add_mul, Nat.one_mul] at h1
  exact x.1 k k9 k8 (by omega)
theorem FF.ce {h h2 : HI} {f f' row : Nat → Int32} {j m : Nat} (x : FF f f' j m row) (hj : j < 12) (j0 : ¬ j = 0) (j3 : ¬ j = 3) (hm : m < MJ j) (c : CE h 1 f j m) (old : ∀ i, i < m * wJ j → h2 (1 + (1 + 2 * j) + 1) i = h (1 + (1 + 2 * j) + 1) i) (new : ∀ c, c < wJ j → h2 (1 + (1 + 2 * j) + 1) (m * wJ j + c) = row c) : CE h2 1 f' j (m + 1) := by
  have h2 : bsJ j + MJ j * wJ j ≤ hiJ j := (by decide : ∀ j, j < 12 → ¬ j = 3 → bsJ j + MJ j * wJ j ≤ hiJ j) j hj j3
  have h1 : (m + 1) * wJ j ≤ MJ j * wJ j := Nat.mul_le_mul_right _ hm
  rw [Nat.add_mul, Nat.one_mul] at h1
  have h3 := hi_le hj
  have h4 := bs_9 hj
  rw [CE.es j0 j3] at c ⊢
  exact CS_add c old new (fun i hi => x.1 _ (by omega) (by omega) (by omega)) x.2
theorem XR.far {f f' : Nat → Int32} {j m : Nat} {row : Nat → Int32} (x : XR f) (hj : j < 12) (h4 : 3 ≤ cpJ j ∧ cpJ j < 9) (hm : m < MJ j) (ff : FF f f' j m row) (ef : ∀ i, i < 9 → i ≠ cpJ j → f' i = f i) : XR f' := by
  have h1 : 672 ≤ bsJ j := (by decide : ∀ j, j < 12 → 3 ≤ cpJ j ∧ cpJ j < 9 → 672 ≤ bsJ j) j hj h4
  have h3 : ¬ j = 3 := (by decide : ∀ j, j < 12 → 3 ≤ cpJ j ∧ cpJ j < 9 → ¬ j = 3) j hj h4
  exact x.cg (by rw [ef 0 (by omega) (by omega)]; exact Int.le_refl _) (ef 1 (by omega) (by omega)) (ef 2 (by omega) (by omega)) (fun k k1 k2 => ff.fr hj h3 hm k (by omega) (by omega) (by omega))
end
section
-- 52.putr
/-! THE REFERENCE'S CALLS THAT CHANGE CELLS, and what they write -/
theorem PTr.of {A : Prop} {h h' : HI} {f : Nat → Int32} (a : A) (s : ST h h' f) (e : ∀ i, i < 9 → f i = h 136 i) : PTr A h h' := ⟨a, f, s, e⟩
def zs (x3 : Int32) (n : Nat) : Int32 := if x3 = 0 then 0 else (1 : Int32) <<< (nI n &&& 31)
end
section
-- 53.st
/-! THE STEPS, with what the tables hold -/
theorem XR.put {f f' : Nat → Int32} (x : XR f) (e9 : ∀ i, i < 9 → f' i = f i) (e : ∀ k, 152 ≤ k → k < 672 → f' k = f k) : XR f' := x.cg (by rw [e9 0 (by omega)]; exact Int.le_refl _) (e9 1 (by omega)) (e9 2 (by omega)) e
def INV2 (h : HI) : Prop := INV h ∧ RLT h
end
section
-- 60.lawabs
/-! THE LAW OF WEAR, read sign by sign -/
def rk (c : Int32) : Nat := if c = 33 then 6 else if c = 126 then 6 else if c = 42 then 5 else if c = 47 then 5 else if c = 43 then 4 else if c = 45 then 4 else if c = 60 then 3 else if c = 61 then 3 else if c = 62 then 3 else if c = 38 then 2 else if c = 124 then 1 else 0
/-- what waits is written, as far as it binds r at least: the top first, of what waits and of what is written -/
def stl (r : Nat) : List Int32 → List Int32 → List Int32 × List Int32
  | [], o => ([], o)
  | w :: ws, o => if r ≤ rk w then stl r ws (-w :: o) else (w :: ws, o)
def tp : List Int32 → Nat
  | [] => 0
  | w :: _ => rk w
def hd0 : List Int32 → Int32
  | [] => 0
  | x :: _ => x
/-- written, waiting, open, digits, whether a UNIT is due -/
abbrev LSt : Type := List Int32 × List Int32 × Nat × Nat × Nat
def dgt (c : Int32) : Prop := ¬ c < 48 ∧ ¬ 57 < c
def rr (c : Int32) : Nat := if rk c = 3 then 4 else rk c
/-- 0: it goes on; else the fault's last digit -/
def badL (c : Int32) : LSt → Nat
  | (o, w, n, d, u) =>
    if ¬ c < 48 ∧ ¬ 57 < c then (if d = 0 ∧ u = 0 then 1 else if 6 ≤ d then 2 else 0)
    else if c = 32 then 0
    else if u = 0 then (if c = 41 then (if n = 0 then 1 else 0) else if rk c < 1 ∨ 6 ≤ rk c then 1 else if rk c = 3 ∧ tp (stl (rr c) w o).1 = 3 then 1 else 0)
    else if c = 40 then (if n < 8 then 0 else 3)
    else if c = 121 ∨ c = 108 ∨ c = 104 ∨ c = 33 ∨ c = 45 then 0 else 1
def nxL (c : Int32) : LSt → LSt
  | (o, w, n, d, u) =>
    if ¬ c < 48 ∧ ¬ 57 < c then (if d = 0 then ((c - 48) :: o, w, n, 1, 0) else ((10 * hd0 o + (c - 48)) :: o.tail, w, n, d + 1, 0))
    else if c = 32 then (o, w, n, 0, u)
    else if u = 0 then (if c = 41 then ((stl 1 w o).2, (stl 1 w o).1.tail, n - 1, 0, 0) else ((stl (rr c) w o).2, c :: (stl (rr c) w o).1, n, 0, 1))
    else if c = 40 then (o, 40 :: w, n + 1, 0, 1)
    else if c = 33 then (o, 33 :: w, n, 0, 1)
    else if c = 45 then (o, 126 :: w, n, 0, 1)
    else (-c :: o, w, n, 0, 0)
def AR (f : Nat → Int32) : Nat → LSt
  | 0 => ([], [], 0, 0, 1)
  | k + 1 => nxL (f k) (AR f k)
def okp (f : Nat → Int32) (n : Nat) : Prop := ∀ k, k < n → badL (f k) (AR f k) = 0
def flw (k b d : Nat) : Int32 := if b = 2 then nI (10 * (k - d) + 2) else nI (10 * k + b)
def dgL : LSt → Nat
  | (_, _, _, d, _) => d
def enb : LSt → Prop
  | (_, _, n, _, u) => ¬ (u = 0 ∧ n = 0)
def prg : LSt → List Int32
  | (o, w, _, _, _) => (stl 1 w o).2
/-- what reading n signs f finds: the fault, and the steps where there is none -/
def RSl (f : Nat → Int32) (n : Nat) (fl : Int32) (p : List Int32) : Prop :=
  (∃ k, k < n ∧ okp f k ∧ badL (f k) (AR f k) ≠ 0 ∧ fl = flw k (badL (f k) (AR f k)) (dgL (AR f k)) ∧ ¬ fl = -1) ∨
  (okp f n ∧ enb (AR f n) ∧ fl = nI (10 * n + 1) ∧ ¬ fl = -1) ∨ (okp f n ∧ ¬ enb (AR f n) ∧ fl = -1 ∧ p = prg (AR f n))
theorem AR_cg {f f' : Nat → Int32} : ∀ {n : Nat}, (∀ k, k < n → f' k = f k) → AR f' n = AR f n
  | 0, _ => rfl
  | n + 1, e => by
    unfold AR
    rw [e n (by omega), AR_cg (fun k hk => e k (by omega))]
theorem RSl.cg {f f' : Nat → Int32} {n : Nat} {a : Int32} {p : List Int32} (x : RSl f n a p) (e : ∀ k, k < n → f' k = f k) : RSl f' n a p := by
  have ea : ∀ k, k ≤ n → AR f' k = AR f k := fun k hk => AR_cg (fun i hi => e i (by omega))
  have eo : ∀ k, k ≤ n → okp f k → okp f' k := fun k hk o i hi => by
    rw [e i (by omega), ea i (by omega)]; exact o i hi
  rcases x with ⟨k, hk, ok, bk, q, na⟩ | ⟨ok, q, na⟩ | ⟨ok, q, q2, ep⟩
  · exact .inl ⟨k, hk, eo k (by omega) ok, by rw [e k hk, ea k (by omega)]; exact bk, by rw [e k hk, ea k (by omega)]; exact q, na⟩
  · exact .inr (.inl ⟨eo n (by omega) ok, by rw [ea n (by omega)]; exact q, na⟩)
  · exact .inr (.inr ⟨eo n (by omega) ok, by rw [ea n (by omega)]; exact q, q2, by rw [ea n (by omega)]; exact ep⟩)
/-! the case equations -/
theorem bad_dg {c : Int32} (h : dgt c) {o w : List Int32} {n d u : Nat} : badL c (o, w, n, d, u) = (if d = 0 ∧ u = 0 then 1 else if 6 ≤ d then 2 else 0) := if_pos h
theorem bad_f {c : Int32} (h : ¬ dgt c) (h2 : ¬ c = 32) {o w : List Int32} {n d : Nat} : badL c (o, w, n, d, 0) = (if c = 41 then (if n = 0 then 1 else 0) else if rk c < 1 ∨ 6 ≤ rk c then 1 else if rk c = 3 ∧ tp (stl (rr c) w o).1 = 3 then 1 else 0) := (if_neg h).trans ((if_neg h2).trans (if_pos rfl))
theorem bad_u {c : Int32} (h : ¬ dgt c) (h2 : ¬ c = 32) {o w : List Int32} {n d u : Nat} (hu : ¬ u = 0) : badL c (o, w, n, d, u) = (if c = 40 then (if n < 8 then 0 else 3) else if c = 121 ∨ c = 108 ∨ c = 104 ∨ c = 33 ∨ c = 45 then 0 else 1) := (if_neg h).trans ((if_neg h2).trans (if_neg hu))
theorem nx_d0 {c : Int32} (h : dgt c) {o w : List Int32} {n u : Nat} : nxL c (o, w, n, 0, u) = ((c - 48) :: o, w, n, 1, 0) := (if_pos h).trans (if_pos rfl)
theorem nx_d1 {c : Int32} (h : dgt c) {o w : List Int32} {n d u : Nat} (hd : ¬ d = 0) : nxL c (o, w, n, d, u) = ((10 * hd0 o + (c - 48)) :: o.tail, w, n, d + 1, 0) := (if_pos h).trans (if_neg hd)
theorem nx_sp {c : Int32} (h : ¬ dgt c) (h2 : c = 32) {o w : List Int32} {n d u : Nat} : nxL c (o, w, n, d, u) = (o, w, n, 0, u) := (if_neg h).trans (if_pos h2)
theorem nx_f {c : Int32} (h : ¬ dgt c) (h2 : ¬ c = 32) {o w : List Int32} {n d : Nat} : nxL c (o, w, n, d, 0) = (if c = 41 then ((stl 1 w o).2, (stl 1 w o).1.tail, n - 1, 0, 0) else ((stl (rr c) w o).2, c :: (stl (rr c) w o).1, n, 0, 1)) := (if_neg h).trans ((if_neg h2).trans (if_pos rfl))
theorem nx_u {c : Int32} (h : ¬ dgt c) (h2 : ¬ c = 32) {o w : List Int32} {n d u : Nat} (hu : ¬ u = 0) : nxL c (o, w, n, d, u) = (if c = 40 then (o, 40 :: w, n + 1, 0, 1) else if c = 33 then (o, 33 :: w, n, 0, 1) else if c = 45 then (o, 126 :: w, n, 0, 1) else (-c :: o, w, n, 0, 0)) := (if_neg h).trans ((if_neg h2).trans (if_neg hu))
/-! what holds of every state that is reached -/
def wcL : List Int32 := [33, 126, 42, 47, 43, 45, 60, 61, 62, 38, 124, 40]
def okT (t : Int32) : Prop := (∃ v : Nat, v < 1000000 ∧ t = nI v) ∨ t = -121 ∨ t = -108 ∨ t = -104 ∨ ∃ x, x ∈ wcL ∧ 1 ≤ rk x ∧ t = -x
def c40 : List Int32 → Nat
  | [] => 0
  | w :: ws => c40 ws + (if w = 40 then 1 else 0)
def SIl (i : Nat) : LSt → Prop
  | (o, w, n, d, u) => o.length + w.length ≤ i ∧ c40 w = n ∧ (0 < d → u = 0 ∧ ∃ v xs, o = nI v :: xs ∧ v < 10 ^ d) ∧ d ≤ 6 ∧ u ≤ 1 ∧ n ≤ 8 ∧ d ≤ i ∧ (∀ x, x ∈ w → x ∈ wcL) ∧ ∀ t, t ∈ o → okT t
theorem stl_len {r : Nat} : ∀ {w o : List Int32}, (stl r w o).1.length + (stl r w o).2.length = w.length + o.length
  | [], o => rfl
  | w :: ws, o => by
    unfold stl
    by_cases c : r ≤ rk w
    · rw [if_pos c, stl_len, List.length_cons, List.length_cons]; omega
    · rw [if_neg c]
theorem rk40 : rk 40 = 0 := by decide
theorem stl_c40 {r : Nat} (hr : 1 ≤ r) : ∀ {w o : List Int32}, c40 (stl r w o).1 = c40 w
  | [], o => rfl
  | w :: ws, o => by
    unfold stl
    by_cases c : r ≤ rk w
    · rw [if_pos c, stl_c40 hr]
      have : ¬ w = 40 := fun e => by rw [e, rk40] at c; omega
      rw [show c40 (w :: ws) = c40 ws + (if w = 40 then 1 else 0) from rfl, if_neg this]; rfl
    · rw [if_neg c]
theorem stl_w {r : Nat} : ∀ {w o : List Int32}, ∀ x, x ∈ (stl r w o).1 → x ∈ w
  | [], o, x, h => h
  | w :: ws, o, x, h => by
    unfold stl at h
    by_cases c : r ≤ rk w
    · rw [if_pos c] at h
      exact List.mem_cons_of_mem _ (stl_w x h)
    · rw [if_neg c] at h; exact h
theorem stl_o {r : Nat} (hr : 1 ≤ r) : ∀ {w o : List Int32}, (∀ x, x ∈ w → x ∈ wcL) → (∀ t, t ∈ o → okT t) → ∀ t, t ∈ (stl r w o).2 → okT t
  | [], o, _, ho, t, h => ho t h
  | w :: ws, o, hw, ho, t, h => by
    unfold stl at h
    by_cases c : r ≤ rk w
    · rw [if_pos c] at h
      refine stl_o hr (fun x hx => hw x (List.mem_cons_of_mem _ hx)) (fun t' ht => ?_) t h
      rcases List.mem_cons.mp ht with e | e
      · exact .inr (.inr (.inr (.inr ⟨w, hw w (List.mem_cons_self ..), by omega, e⟩)))
      · exact ho t' e
    · rw [if_neg c] at h; exact ho t h
theorem dg_nI {c : Int32} (h : dgt c) : ∃ v : Nat, v < 10 ∧ c - 48 = nI v ∧ c = nI (48 + v) := by
  obtain ⟨a, b⟩ := h
  obtain ⟨n, hn, rfl⟩ := nI_of (x := c) (fun q => a (by
    rw [Int32.lt_iff_toInt_lt] at q ⊢
    rw [show (0 : Int32).toInt = 0 by decide] at q
    rw [show (48 : Int32).toInt = 48 by decide]; omega))
  rw [show (48 : Int32) = nI 48 from rfl, nI_ltI (by omega) (by omega)] at a
  rw [show (57 : Int32) = nI 57 from rfl, nI_ltI (by omega) (by omega)] at b
  obtain ⟨v, rfl⟩ : ∃ v, n = 48 + v := ⟨n - 48, by omega⟩
  refine ⟨v, by omega, ?_, rfl⟩
  rw [← nI_add, show (48 : Int32) = nI 48 from rfl, Int32.add_comm, Int32.add_sub_cancel]
theorem stl_tp {r : Nat} : ∀ {w o : List Int32}, ∀ y ys, (stl r w o).1 = y :: ys → rk y < r
  | [], o, y, ys, h => by
    have h : ([] : List Int32) = y :: ys := h
    cases h
  | w :: ws, o, y, ys, h => by
    unfold stl at h
    by_cases c : r ≤ rk w
    · rw [if_pos c] at h
      exact stl_tp y ys h
    · rw [if_neg c] at h
      have e : w :: ws = y :: ys := h
      rw [List.cons.injEq] at e
      rw [← e.1]; omega
theorem wc0 {y : Int32} (h : y ∈ wcL) (h0 : rk y < 1) : y = 40 := (by decide : ∀ y ∈ wcL, rk y < 1 → y = 40) y h h0
theorem rk_wc {c : Int32} (h : 1 ≤ rk c) : c ∈ wcL := by
  unfold rk at h
  by_cases c1 : c = 33
  · subst c1; decide
  by_cases c2 : c = 126
  · subst c2; decide
  by_cases c3 : c = 42
  · subst c3; decide
  by_cases c4 : c = 47
  · subst c4; decide
  by_cases c5 : c = 43
  · subst c5; decide
  by_cases c6 : c = 45
  · subst c6; decide
  by_cases c7 : c = 60
  · subst c7; decide
  by_cases c8 : c = 61
  · subst c8; decide
  by_cases c9 : c = 62
  · subst c9; decide
  by_cases c10 : c = 38
  · subst c10; decide
  by_cases c11 : c = 124
  · subst c11; decide
  rw [if_neg c1, if_neg c2, if_neg c3, if_neg c4, if_neg c5, if_neg c6, if_neg c7, if_neg c8, if_neg c9, if_neg c10, if_neg c11] at h
  omega
theorem SIl.nx {c : Int32} {i : Nat} {s : LSt} (x : SIl i s) (b : badL c s = 0) : SIl (i + 1) (nxL c s) := by
  obtain ⟨o, w, n, d, u⟩ := s
  obtain ⟨a1, a2, a3, a4, a5, a6, a7, a8, a9⟩ := x
  by_cases cd : dgt c
  · obtain ⟨v, hv, ev, -⟩ := dg_nI cd
    rw [bad_dg cd] at b
    by_cases d0 : d = 0
    · subst d0
      rw [nx_d0 cd, ev]
      refine ⟨by rw [List.length_cons]; omega, a2, fun _ => ⟨rfl, v, o, rfl, by omega⟩, by omega, by omega, a6, by omega, a8, fun t ht => ?_⟩
      rcases List.mem_cons.mp ht with e | e
      · exact .inl ⟨v, by omega, e⟩
      · exact a9 t e
    · rw [nx_d1 cd d0, ev]
      obtain ⟨e0, v0, xs, e1, e2⟩ := a3 (by omega)
      subst e1
      rw [if_neg (fun q => d0 q.1)] at b
      have d6 : ¬ 6 ≤ d := fun q => by rw [if_pos q] at b; omega
      have eh : 10 * hd0 (nI v0 :: xs) + nI v = nI (10 * v0 + v) := by
        rw [show hd0 (nI v0 :: xs) = nI v0 from rfl, show (10 : Int32) = nI 10 from rfl, pk_mul, nI_add]
      have p6 : 10 ^ (d + 1) ≤ 10 ^ 6 := Nat.pow_le_pow_right (by decide) (by omega)
      have p1 : 10 ^ (d + 1) = 10 * 10 ^ d := by rw [Nat.pow_succ]; omega
      rw [eh]
      refine ⟨?_, a2, fun _ => ⟨rfl, 10 * v0 + v, xs, rfl, by omega⟩, by omega, by omega, a6, by omega, a8, fun t ht => ?_⟩
      · rw [List.tail_cons, List.length_cons]; rw [List.length_cons] at a1; omega
      · rcases List.mem_cons.mp ht with e | e
        · exact .inl ⟨10 * v0 + v, by omega, e⟩
        · exact a9 t (List.mem_cons_of_mem _ e)
  by_cases c32 : c = 32
  · rw [nx_sp cd c32]
    exact ⟨by omega, a2, fun q => by omega, by omega, a5, a6, by omega, a8, a9⟩
  by_cases u0 : u = 0
  · subst u0
    rw [bad_f cd c32] at b
    rw [nx_f cd c32]
    by_cases c41 : c = 41
    · rw [if_pos c41] at b ⊢
      have n0 : ¬ n = 0 := fun q => by rw [if_pos q] at b; omega
      have l := stl_len (r := 1) (w := w) (o := o)
      have k := stl_c40 (r := 1) (Nat.le_refl _) (w := w) (o := o)
      have m := stl_w (r := 1) (w := w) (o := o)
      have m2 := stl_o (r := 1) (Nat.le_refl _) a8 a9
      have tpx := stl_tp (r := 1) (w := w) (o := o)
      generalize stl 1 w o = s at l k m m2 tpx ⊢
      obtain ⟨w', o'⟩ := s
      cases w' with
      | nil =>
        rw [a2] at k
        exact absurd k.symm n0
      | cons y ys =>
        have hy : y ∈ wcL := a8 y (m y (List.mem_cons_self ..))
        have y40 : y = 40 := wc0 hy (tpx y ys rfl)
        rw [show c40 (y :: ys) = c40 ys + (if y = 40 then 1 else 0) from rfl, if_pos y40] at k
        rw [List.length_cons] at l
        refine ⟨?_, ?_, fun q => absurd q (Nat.lt_irrefl 0), by omega, by omega, by omega, by omega, fun x hx => a8 x (m x (List.mem_cons_of_mem _ hx)), m2⟩
        · show o'.length + ys.length ≤ i + 1
          have l : ys.length + 1 + o'.length = w.length + o.length := l
          omega
        · show c40 ys = n - 1
          omega
    · rw [if_neg c41] at b ⊢
      have rb : 1 ≤ rk c := by
        by_cases q : rk c < 1 ∨ 6 ≤ rk c
        · rw [if_pos q] at b; omega
        · omega
      have rrb : 1 ≤ rr c := by
        unfold rr
        by_cases q : rk c = 3
        · rw [if_pos q]; omega
        · rw [if_neg q]; exact rb
      have l := stl_len (r := rr c) (w := w) (o := o)
      have k := stl_c40 (r := rr c) rrb (w := w) (o := o)
      have m := stl_w (r := rr c) (w := w) (o := o)
      have m2 := stl_o (r := rr c) rrb a8 a9
      generalize stl (rr c) w o = s at l k m m2 ⊢
      obtain ⟨w', o'⟩ := s
      have l : w'.length + o'.length = w.length + o.length := l
      have k : c40 w' = c40 w := k
      have n40 : ¬ c = 40 := fun e => by rw [e, rk40] at rb; omega
      refine ⟨?_, ?_, fun q => absurd q (Nat.lt_irrefl 0), by omega, by omega, by omega, by omega, fun x hx => ?_, m2⟩
      · show o'.length + (c :: w').length ≤ i + 1
        rw [List.length_cons]; omega
      · show c40 w' + (if c = 40 then 1 else 0) = n
        rw [if_neg n40]; omega
      · rcases List.mem_cons.mp hx with e | e
        · rw [e]; exact rk_wc rb
        · exact a8 x (m x e)
  · rw [bad_u cd c32 u0] at b
    rw [nx_u cd c32 u0]
    have wt : ∀ y, y ∈ wcL → ∀ x, x ∈ y :: w → x ∈ wcL := fun y hy x hx => by
      rcases List.mem_cons.mp hx with e | e
      · rw [e]; exact hy
      · exact a8 x e
    by_cases c4 : c = 40
    · rw [if_pos c4] at b ⊢
      have n8 : n < 8 := by
        by_cases q : n < 8
        · exact q
        · rw [if_neg q] at b; omega
      refine ⟨by rw [List.length_cons]; omega, ?_, fun q => absurd q (Nat.lt_irrefl 0), by omega, by omega, by omega, by omega, wt 40 (by decide), a9⟩
      show c40 w + (if (40 : Int32) = 40 then 1 else 0) = n + 1
      rw [if_pos rfl]; omega
    rw [if_neg c4] at b ⊢
    by_cases c3 : c = 33
    · rw [if_pos c3]
      refine ⟨by rw [List.length_cons]; omega, ?_, fun q => absurd q (Nat.lt_irrefl 0), by omega, by omega, by omega, by omega, wt 33 (by decide), a9⟩
      show c40 w + (if (33 : Int32) = 40 then 1 else 0) = n
      rw [if_neg (by decide)]; omega
    rw [if_neg c3]
    by_cases c5 : c = 45
    · rw [if_pos c5]
      refine ⟨by rw [List.length_cons]; omega, ?_, fun q => absurd q (Nat.lt_irrefl 0), by omega, by omega, by omega, by omega, wt 126 (by decide), a9⟩
      show c40 w + (if (126 : Int32) = 40 then 1 else 0) = n
      rw [if_neg (by decide)]; omega
    rw [if_neg c5]
    have cu : c = 121 ∨ c = 108 ∨ c = 104 := by
      by_cases q : c = 121 ∨ c = 108 ∨ c = 104 ∨ c = 33 ∨ c = 45
      · rcases q with q | q | q | q | q
        · exact .inl q
        · exact .inr (.inl q)
        · exact .inr (.inr q)
        · exact absurd q c3
        · exact absurd q c5
      · rw [if_neg q] at b; omega
    refine ⟨by rw [List.length_cons]; omega, a2, fun q => absurd q (Nat.lt_irrefl 0), by omega, by omega, a6, by omega, a8, fun t ht => ?_⟩
    rcases List.mem_cons.mp ht with e | e
    · rcases cu with rfl | rfl | rfl
      · exact .inr (.inl e)
      · exact .inr (.inr (.inl e))
      · exact .inr (.inr (.inr (.inl e)))
    · exact a9 t e
theorem SIl.at {f : Nat → Int32} : ∀ {i : Nat}, okp f i → SIl i (AR f i)
  | 0, _ => ⟨Nat.le_refl _, rfl, fun q => absurd q (Nat.lt_irrefl 0), by omega, by omega, by omega, by omega, fun x hx => absurd hx (List.not_mem_nil), fun x hx => absurd hx (List.not_mem_nil)⟩
  | i + 1, o => (SIl.at (fun k hk => o k (by omega))).nx (o i (by omega))
/-! stacks in arrays -/
def SK (f : Nat → Int32) : List Int32 → Prop
  | [] => True
  | x :: xs => f xs.length = x ∧ SK f xs
theorem SK.cg {f f' : Nat → Int32} : ∀ {l : List Int32}, (∀ k, k < l.length → f' k = f k) → SK f l → SK f' l
  | [], _, _ => trivial
  | x :: xs, e, h => by
    rw [List.length_cons] at e
    exact ⟨(e _ (by omega)).trans h.1, SK.cg (fun k hk => e k (by omega)) h.2⟩
theorem SK.push {f : Nat → Int32} {l : List Int32} {x : Int32} (h : SK f l) : SK (upd f l.length x) (x :: l) := ⟨pk_us, h.cg (fun k hk => pk_un (by omega))⟩
end
section
-- 61.lawcls
/-! THE CLASS READS IT SO -/
def STK (h : HI) (o w : List Int32) : Prop := h 77 4 = nI o.length ∧ SK (h 78) o ∧ h 77 5 = nI w.length ∧ SK (h 79) w
def FRL (h h' : HI) : Prop := JJ SLaw h h' ∧ h' 77 6 = h 77 6 ∧ h' 77 7 = h 77 7 ∧ h' 77 8 = h 77 8 ∧ h' 77 9 = h 77 9
theorem FRL.rf {h : HI} : FRL h h := ⟨JJ.rf, rfl, rfl, rfl, rfl⟩
theorem FRL.tr {a b c : HI} (x : FRL a b) (y : FRL b c) : FRL a c := ⟨x.1.tr y.1, y.2.1.trans x.2.1, y.2.2.1.trans x.2.2.1, y.2.2.2.1.trans x.2.2.2.1, y.2.2.2.2.trans x.2.2.2.2⟩
theorem FRL.h5 {h h' : HI} {k : Nat} {x : Int32} (e : h' = hu h 77 k x) (hk : k < 6) : FRL h h' := ⟨JJ.rf.hu e (by unfold SLaw; omega), by rw [e, hu_eq, pk_un (by omega)], by rw [e, hu_eq, pk_un (by omega)], by rw [e, hu_eq, pk_un (by omega)], by rw [e, hu_eq, pk_un (by omega)]⟩
theorem stl_y {r : Nat} {a : Int32} {ws o : List Int32} (h : r ≤ rk a) : stl r (a :: ws) o = stl r ws (-a :: o) := if_pos h
theorem stl_n {r : Nat} {a : Int32} {ws o : List Int32} (h : ¬ r ≤ rk a) : stl r (a :: ws) o = (a :: ws, o) := if_neg h
def CTl (h : HI) : LSt → Prop
  | (o, w, n, d, u) => STK h o w ∧ h 77 6 = nI n ∧ h 77 7 = nI d ∧ h 77 8 = nI u
theorem n10 {k c : Nat} (hk : k ≤ 60) (hc : c ≤ 3) : ¬ nI (10 * k + c) = -1 := fun e => r10 hk hc (by rw [show (10 : Int32) = nI 10 from rfl, pk_mul, nI_add]; exact e)
end
section
-- 62.lawcls2
theorem CTl.of {h h' : HI} {o w o' w' : List Int32} {n u : Nat} (F : FRL h h') (S : STK h' o' w') (s6 : h 77 6 = nI n) (s7 : h 77 7 = nI 0) (s8 : h 77 8 = nI u) : CTl h' (o', w', n, 0, u) := ⟨S, F.2.1.trans s6, F.2.2.1.trans s7, F.2.2.2.1.trans s8⟩
theorem CTl.n6 {h h' : HI} {o w : List Int32} {n d u n' : Nat} (S : CTl h (o, w, n, d, u)) (e : h' = hu h 77 6 (nI n')) : CTl h' (o, w, n', d, u) ∧ h' 77 9 = h 77 9 ∧ JJ SLaw h h' := by
  obtain ⟨⟨s4, sa, s5, sw⟩, s6, s7, s8⟩ := S
  refine ⟨⟨⟨?_, ?_, ?_, ?_⟩, ?_, ?_, ?_⟩, ?_, JJ.rf.hu e (by unfold SLaw; omega)⟩
  · rw [e, hu_eq, pk_un (by decide)]; exact s4
  · rw [e, hu_ne (by decide)]; exact sa
  · rw [e, hu_eq, pk_un (by decide)]; exact s5
  · rw [e, hu_ne (by decide)]; exact sw
  · rw [e, hu_eq, pk_us]
  · rw [e, hu_eq, pk_un (by decide)]; exact s7
  · rw [e, hu_eq, pk_un (by decide)]; exact s8
  · rw [e, hu_eq, pk_un (by decide)]
theorem SIl.d0 {i : Nat} {o w : List Int32} {n d u : Nat} (x : SIl i (o, w, n, d, u)) : SIl i (o, w, n, 0, u) := ⟨x.1, x.2.1, fun q => absurd q (Nat.lt_irrefl 0), by omega, x.2.2.2.2.1, x.2.2.2.2.2.1, by omega, x.2.2.2.2.2.2.2.1, x.2.2.2.2.2.2.2.2⟩
/-- what the class keeps of the law: the signs f, n of them, are read -/
def LWC (h : HI) (f : Nat → Int32) (n : Nat) : Prop := ∃ p, RSl f n (h 77 9) p ∧ (h 77 9 = -1 → h 77 4 = nI p.length ∧ SK (h 78) p ∧ p.length ≤ 60 ∧ ∀ t, t ∈ p → okT t)
theorem LWC.cg {h h' : HI} {f f' : Nat → Int32} {n : Nat} (x : LWC h f n) (e7 : h' 77 = h 77) (e8 : h' 78 = h 78) (e : ∀ k, k < n → f' k = f k) : LWC h' f' n := by
  obtain ⟨p, r, k⟩ := x
  exact ⟨p, by rw [e7]; exact r.cg e, by rw [e7, e8]; exact k⟩
end
section
-- 63.lawwf
/-! WHAT IS READ CAN BE RUN -/
/-- the steps t, the last first, leave d numbers on the pile, and never lack one: 1 puts, 2 changes, 3 joins -/
def kdT (t : Int32) : Nat := if ¬ t < 0 ∨ t = -121 ∨ t = -108 ∨ t = -104 then 1 else if t = -33 ∨ t = -126 then 2 else 3
def gdl : List Int32 → Nat → Prop
  | [], d => d = 0
  | t :: ts, d => 1 ≤ d ∧ gdl ts (if kdT t = 1 then d - 1 else if kdT t = 2 then d else d + 1)
def cbl : List Int32 → Nat
  | [] => 0
  | x :: xs => cbl xs + (if x = 33 ∨ x = 126 ∨ x = 40 then 0 else 1)
theorem kd_w {w : Int32} (h : w ∈ wcL) (h1 : 1 ≤ rk w) : (if w = 33 ∨ w = 126 ∨ w = 40 then 0 else 1) = (if kdT (-w) = 1 then 5 else if kdT (-w) = 2 then 0 else 1) := (by decide : ∀ w ∈ wcL, 1 ≤ rk w → (if w = 33 ∨ w = 126 ∨ w = 40 then 0 else 1) = (if kdT (-w) = 1 then 5 else if kdT (-w) = 2 then 0 else 1)) w h h1
theorem kd_3 (t : Int32) : kdT t = 1 ∨ kdT t = 2 ∨ kdT t = 3 := by
  unfold kdT
  by_cases a : ¬ t < 0 ∨ t = -121 ∨ t = -108 ∨ t = -104
  · rw [if_pos a]; exact .inl rfl
  · rw [if_neg a]
    by_cases b : t = -33 ∨ t = -126
    · rw [if_pos b]; exact .inr (.inl rfl)
    · rw [if_neg b]; exact .inr (.inr rfl)
theorem gdl_stl {r : Nat} (hr : 1 ≤ r) : ∀ {w o : List Int32}, (∀ x, x ∈ w → x ∈ wcL) → gdl o (cbl w + 1) → gdl (stl r w o).2 (cbl (stl r w o).1 + 1)
  | [], o, _, h => h
  | w :: ws, o, hw, h => by
    by_cases c : r ≤ rk w
    · rw [stl_y c]
      refine gdl_stl hr (fun x hx => hw x (List.mem_cons_of_mem _ hx)) ⟨by omega, ?_⟩
      have k := kd_w (hw w (List.mem_cons_self ..)) (by omega)
      have e : cbl (w :: ws) = cbl ws + (if w = 33 ∨ w = 126 ∨ w = 40 then 0 else 1) := rfl
      rw [e, k] at h
      rcases kd_3 (-w) with q | q | q
      · exfalso
        rw [q, if_pos rfl] at k
        by_cases z : w = 33 ∨ w = 126 ∨ w = 40
        · rw [if_pos z] at k; omega
        · rw [if_neg z] at k; omega
      · rw [q, if_neg (by decide), if_pos rfl] at h ⊢; exact h
      · rw [q, if_neg (by decide), if_neg (by decide)] at h ⊢; exact h
    · rw [stl_n c]; exact h
def GIl : LSt → Prop
  | (o, w, _, _, u) => gdl o (cbl w + (1 - u))
theorem gdl_push {t : Int32} {o : List Int32} {d : Nat} (h : gdl o d) (k : kdT t = 1) : gdl (t :: o) (d + 1) := by
  refine ⟨by omega, ?_⟩
  rw [if_pos k, Nat.add_sub_cancel]; exact h
theorem kd_n {v : Nat} (h : v < 2 ^ 31) : kdT (nI v) = 1 := if_pos (.inl (nI_pos h))
theorem GIl.nx {c : Int32} {i : Nat} {s : LSt} (I : SIl i s) (x : GIl s) (b : badL c s = 0) : GIl (nxL c s) := by
  obtain ⟨o, w, n, d, u⟩ := s
  obtain ⟨a1, a2, a3, a4, a5, a6, a7, a8, a9⟩ := I
  have x : gdl o (cbl w + (1 - u)) := x
  by_cases cd : dgt c
  · obtain ⟨v, hv, ev, -⟩ := dg_nI cd
    rw [bad_dg cd] at b
    by_cases d0 : d = 0
    · subst d0
      have u1 : u = 1 := by
        by_cases q : u = 0
        · rw [if_pos ⟨rfl, q⟩] at b; omega
        · omega
      subst u1
      rw [nx_d0 cd, ev]
      exact gdl_push x (kd_n (by omega))
    · rw [nx_d1 cd d0, ev]
      obtain ⟨e0, v0, xs, e1, e2⟩ := a3 (by omega)
      subst e1
      subst e0
      have p6 : 10 ^ d ≤ 10 ^ 6 := Nat.pow_le_pow_right (by decide) (by omega)
      have eh : 10 * hd0 (nI v0 :: xs) + nI v = nI (10 * v0 + v) := by
        rw [show hd0 (nI v0 :: xs) = nI v0 from rfl, show (10 : Int32) = nI 10 from rfl, pk_mul, nI_add]
      rw [eh]
      refine ⟨by omega, ?_⟩
      have y := x.2
      rw [if_pos (kd_n (by omega))] at y ⊢
      exact y
  by_cases c32 : c = 32
  · rw [nx_sp cd c32]; exact x
  by_cases u0 : u = 0
  · subst u0
    rw [bad_f cd c32] at b
    rw [nx_f cd c32]
    by_cases c41 : c = 41
    · rw [if_pos c41] at b ⊢
      have n0 : ¬ n = 0 := fun q => by rw [if_pos q] at b; omega
      have k := stl_c40 (r := 1) (Nat.le_refl _) (w := w) (o := o)
      have m := stl_w (r := 1) (w := w) (o := o)
      have tpx := stl_tp (r := 1) (w := w) (o := o)
      have y := gdl_stl (r := 1) (Nat.le_refl _) a8 x
      generalize stl 1 w o = s at k m tpx y ⊢
      obtain ⟨w', o'⟩ := s
      cases w' with
      | nil =>
        rw [a2] at k
        exact absurd k.symm n0
      | cons z zs =>
        have y40 : z = 40 := wc0 (a8 z (m z (List.mem_cons_self ..))) (tpx z zs rfl)
        subst y40
        have y : gdl o' (cbl zs + (if (40 : Int32) = 33 ∨ (40 : Int32) = 126 ∨ (40 : Int32) = 40 then 0 else 1) + 1) := y
        rw [if_pos (.inr (.inr rfl))] at y
        exact y
    · rw [if_neg c41] at b ⊢
      have rb : 1 ≤ rk c ∧ rk c < 6 := by
        by_cases q : rk c < 1 ∨ 6 ≤ rk c
        · rw [if_pos q] at b; omega
        · omega
      have rrb : 1 ≤ rr c := by
        unfold rr
        by_cases q : rk c = 3
        · rw [if_pos q]; omega
        · rw [if_neg q]; exact rb.1
      have y := gdl_stl (r := rr c) rrb a8 x
      have nb : ¬ (c = 33 ∨ c = 126 ∨ c = 40) := fun q => by
        rcases q with rfl | rfl | rfl
        · exact absurd rb.2 (by decide)
        · exact absurd rb.2 (by decide)
        · exact absurd rb.1 (by decide)
      show gdl (stl (rr c) w o).2 (cbl (stl (rr c) w o).1 + (if c = 33 ∨ c = 126 ∨ c = 40 then 0 else 1) + 0)
      rw [if_neg nb]; exact y
  · have u1 : u = 1 := by omega
    subst u1
    rw [bad_u cd c32 u0] at b
    rw [nx_u cd c32 u0]
    have x : gdl o (cbl w) := x
    by_cases c4 : c = 40
    · rw [if_pos c4]
      show gdl o (cbl w + (if (40 : Int32) = 33 ∨ (40 : Int32) = 126 ∨ (40 : Int32) = 40 then 0 else 1) + 0)
      rw [if_pos (.inr (.inr rfl))]; exact x
    rw [if_neg c4] at b ⊢
    by_cases c3 : c = 33
    · rw [if_pos c3]
      show gdl o (cbl w + (if (33 : Int32) = 33 ∨ (33 : Int32) = 126 ∨ (33 : Int32) = 40 then 0 else 1) + 0)
      rw [if_pos (.inl rfl)]; exact x
    rw [if_neg c3]
    by_cases c5 : c = 45
    · rw [if_pos c5]
      show gdl o (cbl w + (if (126 : Int32) = 33 ∨ (126 : Int32) = 126 ∨ (126 : Int32) = 40 then 0 else 1) + 0)
      rw [if_pos (.inr (.inl rfl))]; exact x
    rw [if_neg c5]
    have cu : c = 121 ∨ c = 108 ∨ c = 104 := by
      by_cases q : c = 121 ∨ c = 108 ∨ c = 104 ∨ c = 33 ∨ c = 45
      · rcases q with q | q | q | q | q
        · exact .inl q
        · exact .inr (.inl q)
        · exact .inr (.inr q)
        · exact absurd q c3
        · exact absurd q c5
      · rw [if_neg q] at b; omega
    refine gdl_push x ?_
    rcases cu with rfl | rfl | rfl <;> decide
theorem GIl.at {f : Nat → Int32} : ∀ {i : Nat}, okp f i → GIl (AR f i)
  | 0, _ => rfl
  | i + 1, o => GIl.nx (SIl.at (fun k hk => o k (by omega))) (GIl.at (fun k hk => o k (by omega))) (o i (by omega))
end
section
-- 64.lawref
/-! THE REFERENCE READS IT SO -/
def opc (x : Int32) : Int32 := if x = 33 then 2 else if x = 126 then 3 else if x = 42 then 4 else if x = 47 then 5 else if x = 43 then 6 else if x = 45 then 7 else if x = 60 then 8 else if x = 62 then 9 else if x = 61 then 10 else if x = 38 then 11 else if x = 124 then 12 else 13
def tc1 (t : Int32) : Int32 := if ¬ t < 0 then 0 else if t = -121 ∨ t = -108 ∨ t = -104 then 1 else opc (-t)
def tc2 (t : Int32) : Int32 := if ¬ t < 0 then t else if t = -108 then 1 else if t = -104 then 2 else 0
def RTK (h : HI) (o w : List Int32) : Prop := h 135 3 = nI o.length ∧ SK (h 139) (o.map tc1) ∧ SK (h 140) (o.map tc2) ∧ h 135 6 = nI w.length ∧ SK (h 141) (w.map opc)
theorem SK.pm {f : Nat → Int32} {k : Int32 → Int32} {l : List Int32} {t : Int32} (h : SK f (l.map k)) : SK (upd f l.length (k t)) ((t :: l).map k) := by
  have e := SK.push (x := k t) h
  rw [List.length_map] at e
  exact e
theorem SK.hm {f : Nat → Int32} {k : Int32 → Int32} {l : List Int32} {t : Int32} (h : SK f ((t :: l).map k)) : f l.length = k t ∧ SK f (l.map k) := by
  have e : f (l.map k).length = k t ∧ SK f (l.map k) := h
  rw [List.length_map] at e
  exact e
theorem RTK.wait {h h' : HI} {o w : List Int32} {c : Int32} (S : RTK h o w) (t6 : h' 135 6 = nI (w.length + 1)) (t3 : h' 135 3 = h 135 3) (t141 : h' 141 = upd (h 141) w.length (opc c)) (t139 : h' 139 = h 139) (t140 : h' 140 = h 140) : RTK h' o (c :: w) := by
  obtain ⟨s3, s9, s0, s6, s1⟩ := S
  exact ⟨t3.trans s3, by rw [t139]; exact s9, by rw [t140]; exact s0, t6, by rw [t141]; exact s1.pm⟩
/-- the state between two signs: a UNIT read is told at once -/
def RTl (h : HI) (o w : List Int32) (u : Nat) : Prop := if u = 0 then RTK h (stl 6 w o).2 (stl 6 w o).1 else RTK h o w
theorem RTl.z {h : HI} {o w : List Int32} : RTl h o w 0 ↔ RTK h (stl 6 w o).2 (stl 6 w o).1 := by unfold RTl; rw [if_pos rfl]
theorem RTl.o {h : HI} {o w : List Int32} : RTl h o w 1 ↔ RTK h o w := by unfold RTl; rw [if_neg (by decide)]
end
section
-- 66.tells
/-! WHAT THE LAW TELLS -/
/-- two numbers joined, by the sign -/
def jn (c : Int32) (a b : Int64) : Int64 :=
  if c = 38 then (if lg_cmp a 0 = 0 then 0 else if lg_cmp b 0 = 0 then 0 else 1)
  else if c = 42 then a * b
  else if c = 43 then a + b
  else if c = 45 then a - b
  else if c = 47 then (if ¬ lg_cmp b 0 = 0 then a / b else 0)
  else if c = 60 then (if 0 ≤ lg_cmp a b then 0 else 1)
  else if c = 61 then (if ¬ lg_cmp a b = 0 then 0 else 1)
  else if c = 62 then (if lg_cmp a b ≤ 0 then 0 else 1)
  else if c = 124 then (if ¬ lg_cmp a 0 = 0 then 1 else if lg_cmp b 0 = 0 then 0 else 1)
  else 0
def u1L (t : Int32) (a : Int64) : Int64 := if t = -126 then -a else if ¬ lg_cmp a 0 = 0 then 0 else 1
def psL (y l hh : Int64) (t : Int32) : Int64 := if ¬ t < 0 then t.toInt64 else if t = -121 then y else if t = -108 then l else hh
def apT (y l hh : Int64) (t : Int32) (s : List Int64) : List Int64 :=
  if kdT t = 1 then psL y l hh t :: s
  else if kdT t = 2 then u1L t (s.headD 0) :: s.tail
  else jn (-t) (s.tail.headD 0) (s.headD 0) :: s.tail.tail
def evL (y l hh : Int64) : List Int32 → List Int64
  | [] => []
  | t :: ts => apT y l hh t (evL y l hh ts)
def SKL (f : Nat → Int64) : List Int64 → Prop
  | [] => True
  | x :: xs => f xs.length = x ∧ SKL f xs
theorem SKL.cg {f f' : Nat → Int64} : ∀ {l : List Int64}, (∀ k, k < l.length → f' k = f k) → SKL f l → SKL f' l
  | [], _, _ => trivial
  | x :: xs, e, h => by
    rw [List.length_cons] at e
    exact ⟨(e _ (by omega)).trans h.1, SKL.cg (fun k hk => e k (by omega)) h.2⟩
theorem SKL.push {f : Nat → Int64} {l : List Int64} {x : Int64} (h : SKL f l) : SKL (vp_updL f l.length x) (x :: l) := ⟨pk_uLs, h.cg (fun k hk => pk_uLn (by omega))⟩
end
section
-- 67.worn
/-! WORN -/
def clC (v : Int64) : Int32 := (if (if v < (10000 : Int64) then v else (10000 : Int64)) < (0 : Int64) then (0 : Int64) else (if v < (10000 : Int64) then v else (10000 : Int64))).toInt32
/-- WORN by the fault, the program, the years, LOAD and HARDNESS -/
def wvl (fl : Int32) (p : List Int32) (y l hh : Int32) : Int32 := if fl = -1 then clC ((evL y.toInt64 l.toInt64 hh.toInt64 p).headD 0) else y
end
section
-- 68.vr
/-! EVERY NUMBER OF THE REFERENCE IN ITS RANGE -/
def vP (c : Nat) : Int × Int := if c = 0 then (0, 100) else if c = 1 then (0, 100) else if c = 2 then (0, 99) else if c = 3 then (-1, 3) else dfl
def vS (c : Nat) : Int × Int := if c = 0 then (0, 23) else if c = 1 then (0, 3) else if c = 2 then (-10000, 100000) else if c = 3 then (0, 10000) else if c = 4 then (0, 99) else if c = 5 then (0, 1) else dfl
def vC (c : Nat) : Int × Int := if c = 0 then (-100000, 100000) else if c = 1 then (-100000, 100000) else if c = 2 then (0, 6) else if c ≤ 8 then (0, 23) else dfl
def vW (c : Nat) : Int × Int := if c = 0 then (-500, 500) else if c = 1 then (0, 1000) else (0, 3000)
def vX (c : Nat) : Int × Int := if c = 0 then (0, 3) else if c = 1 then (0, 50) else (-1, 3)
def vT (c : Nat) : Int × Int := if c = 0 then (0, 100) else (0, 1)
def vH (c : Nat) : Int × Int := if c = 0 then (0, 15) else (0, 9)
def vg (k : Nat) : Int × Int := if k < 20 then dfl else if k < 140 then vP ((k - 20) % 5) else if k < 152 then (1, 100000) else if k < 512 then vS ((k - 152) % 6) else if k < 672 then vC ((k - 512) % 10) else if k < 704 then vW ((k - 672) % 4) else if k < 710 then (0, 3) else if k < 737 then vX ((k - 710) % 3) else if k < 817 then vT ((k - 737) % 2) else if k < 823 then vH ((k - 817) % 2) else if k < 827 then (0, 9) else if k < 887 then (0, 127) else dfl
def okV (k : Nat) (x : Int32) : Prop := bd (vg k).1 (vg k).2 x
/-- a family ends at 100000 -/
def FRl (f : Nat → Int32) : Prop := ∀ j, j < 4 → (f (140 + 3 * j)).toInt + ((f (140 + 3 * j + 2)).toInt - 1) * (f (140 + 3 * j + 1)).toInt ≤ 100000
def VR (f : Nat → Int32) : Prop := (∀ k, okV k (f k)) ∧ FRl f
theorem vg_P {m c : Nat} (hm : m < 24) (hc : c < 5) : vg (20 + 5 * m + c) = vP c := by
  unfold vg
  rw [if_neg (by omega), if_pos (by omega), show (20 + 5 * m + c - 20) % 5 = c by omega]
theorem vg_S {m c : Nat} (hm : m < 60) (hc : c < 6) : vg (152 + 6 * m + c) = vS c := by
  unfold vg
  rw [if_neg (by omega), if_neg (by omega), if_neg (by omega), if_pos (by omega), show (152 + 6 * m + c - 152) % 6 = c by omega]
theorem vg_E {k : Nat} (h : 887 ≤ k) : vg k = dfl := by
  unfold vg
  rw [if_neg (by omega), if_neg (by omega), if_neg (by omega), if_neg (by omega), if_neg (by omega), if_neg (by omega), if_neg (by omega), if_neg (by omega), if_neg (by omega), if_neg (by omega), if_neg (by omega), if_neg (by omega)]
theorem VR.set {f : Nat → Int32} {k : Nat} {x : Int32} (v : VR f) (ok : okV k x) (hk : k < 140 ∨ 152 ≤ k) : VR (upd f k x) := by
  refine ⟨fun i => ?_, fun j hj => ?_⟩
  · by_cases e : i = k
    · subst e; rw [pk_us]; exact ok
    · rw [pk_un e]; exact v.1 i
  · rw [pk_un (by omega), pk_un (by omega), pk_un (by omega)]; exact v.2 j hj
theorem VR.at {f : Nat → Int32} {k : Nat} {r : Int × Int} (v : VR f) (e : vg k = r) : bd r.1 r.2 (f k) := by
  have := v.1 k
  unfold okV at this
  rw [e] at this
  exact this
theorem VR.cg {f f' : Nat → Int32} (v : VR f) (e : ∀ k, k < 887 → f' k = f k) : VR f' := by
  refine ⟨fun k => ?_, fun j hj => ?_⟩
  · by_cases h : k < 887
    · rw [e k h]; exact v.1 k
    · unfold okV; rw [vg_E (by omega)]; exact bd_all _
  · rw [e _ (by omega), e _ (by omega), e _ (by omega)]; exact v.2 j hj
end
section
-- 69.inv3
/-! WHAT HOLDS BETWEEN CALLS, with the law of wear read and every number in its range -/
def LW (h : HI) : Prop := ∀ m, TT h 24 m 1 60 → LWC h (h 25) m
theorem LW.cg {h h' : HI} (L : LW h) (e4 : h' 24 = h 24) (e5 : h' 25 = h 25) (e7 : h' 77 = h 77) (e8 : h' 78 = h 78) : LW h' := fun m T => by
  have := L m (T.cg e4.symm)
  exact this.cg e7 e8 (fun k _ => by rw [e5])
def VRI (h : HI) : Prop := VR (h 136) ∧ ∀ i, i < 2 → ¬ h 138 i = 0 → VR (IMG h i)
theorem VRI.cg {h h' : HI} (v : VRI h) (e6 : VR (h' 136)) (e7 : h' 137 = h 137) (e8 : h' 138 = h 138) : VRI h' := by
  refine ⟨e6, fun i hi hn => ?_⟩
  rw [e8] at hn
  have eI : IMG h' i = IMG h i := by unfold IMG; rw [e7]
  rw [eI]; exact v.2 i hi hn
def INV3 (h : HI) : Prop := INV2 h ∧ LW h ∧ VRI h
theorem VRI.rf {h h' : HI} (v : VRI h) (F : ∀ o, o ≠ 136 → h' o = h o) (r : VR (h' 136)) : VRI h' := v.cg r (F 137 (by decide)) (F 138 (by decide))
end
section
-- 70.cx
/-! WHAT A QUESTION MAY REST ON: the class's tables against the reference's numbers f -/
def CX (h : HI) (f : Nat → Int32) : Prop := CN h 1 f ∧ RL1 h 1 f ∧ LW h ∧ VR f ∧ RG f
theorem CX.of {h : HI} (v : INV3 h) : CX h (h 136) := ⟨v.1.1.2.2.2.1, v.1.2.1, v.2.1, v.2.2.1, v.1.1.2.1⟩
theorem CX.tF {h : HI} {f : Nat → Int32} (c : CX h f) : TT h 4 4 3 4 := by
  obtain ⟨m, T, k⟩ := c.1 1 (by omega)
  have k : m = 4 := k
  subst k; exact T
theorem CX.ci {h : HI} {f : Nat → Int32} (c : CX h f) {j : Nat} (hj : j < 12) {m : Nat} (T : TT h (1 + (1 + 2 * j)) m (wJ j) (MJ j)) : CE h 1 f j m := c.2.1.1 j m hj T.2.2.2.1 T.2.2.1
theorem CX.cf {h : HI} {f : Nat → Int32} (c : CX h f) {p k : Nat} (hp : p < 4) (hk : k < 3) : h 5 (p * 3 + k) = f (140 + 3 * p + k) := by
  have := (CE.es (by decide) (by decide)).mp (c.ci (j := 1) (by omega) c.tF) (p * 3 + k) (by show p * 3 + k < 4 * 3; omega)
  rw [show 140 + 3 * p + k = 140 + (p * 3 + k) by omega]; exact this
theorem CX.cs {h : HI} {f : Nat → Int32} (c : CX h f) {m p k : Nat} (T : TT h 6 m 6 60) (hp : p < m) (hk : k < 6) : h 7 (p * 6 + k) = f (152 + 6 * p + k) := by
  have := (CE.es (by decide) (by decide)).mp (c.ci (j := 2) (by omega) T) (p * 6 + k) (by show p * 6 + k < m * 6; omega)
  rw [show 152 + 6 * p + k = 152 + (p * 6 + k) by omega]; exact this
/-- WORN of part a in the year y, by the reference's numbers -/
noncomputable def wvN (f : Nat → Int32) (a y : Nat) : Int32 := Classical.epsilon (fun v => ∃ (n b : Nat) (fl : Int32) (p : List Int32), f 8 = nI n ∧ n ≤ 60 ∧ f (20 + 5 * a + 2) = nI b ∧ b ≤ 99 ∧ RSl (fun k => f (827 + k)) n fl p ∧ v = wvl fl p (nI (y - b)) (f (20 + 5 * a + 0)) (f (20 + 5 * a + 1)))
/-! FAULT and WORN -/
end
section
-- 71.first
/-! NUMBERS WITH A SIGN -/
def i32 (z : Int) : Int32 := Int32.ofInt z
theorem i0 : (0 : Int32).toInt = 0 := by decide
theorem i1 : (1 : Int32).toInt = 1 := by decide
theorem im1 : (-1 : Int32).toInt = -1 := by decide
theorem nI_nm {j : Nat} (h : j < 2 ^ 31) : ¬ nI j = -1 := fun e => by
  have := nI_toInt h
  rw [e, im1] at this
  omega
/-! PLACES IN A FAMILY: the first not below a bound, the last not above it -/
def pfN (b d z : Int) : Int := if z ≤ b then 0 else (z - b + d - 1) / d
theorem pfN_le {b d z i : Int} (hd : 1 ≤ d) (hi : 0 ≤ i) : pfN b d z ≤ i ↔ z ≤ b + d * i := by
  unfold pfN
  have m0 : 0 ≤ d * i := Int.mul_nonneg (by omega) hi
  by_cases c : z ≤ b
  · rw [if_pos c]; omega
  · rw [if_neg c]
    have h := Int.ediv_lt_iff_lt_mul (a := z - b + d - 1) (b := i + 1) (c := d) (by omega)
    rw [Int.add_mul, Int.one_mul, Int.mul_comm i d] at h
    generalize (z - b + d - 1) / d = q at h ⊢
    omega
/-! THE FAMILY of part p -/
def fB (f : Nat → Int32) (p : Nat) : Int := if f (20 + 5 * p + 3) = -1 then 1 else (f (140 + 3 * (f (20 + 5 * p + 3)).toNatClampNeg)).toInt
def fD (f : Nat → Int32) (p : Nat) : Int := if f (20 + 5 * p + 3) = -1 then 1 else (f (140 + 3 * (f (20 + 5 * p + 3)).toNatClampNeg + 1)).toInt
def fM (f : Nat → Int32) (p : Nat) : Int := if f (20 + 5 * p + 3) = -1 then 100000 else (f (140 + 3 * (f (20 + 5 * p + 3)).toNatClampNeg + 2)).toInt
theorem VR.fam {f : Nat → Int32} (v : VR f) {p : Nat} (hp : p < 24) : f (20 + 5 * p + 3) = -1 ∨ ∃ j : Nat, j < 4 ∧ f (20 + 5 * p + 3) = nI j := by
  have b : bd (-1) 3 (f (20 + 5 * p + 3)) := v.at (vg_P (c := 3) hp (by omega))
  by_cases q : f (20 + 5 * p + 3) = -1
  · exact .inl q
  · have : ¬ (f (20 + 5 * p + 3)).toInt = -1 := fun e => q (Int32.toInt_inj.mp (e.trans im1.symm))
    obtain ⟨j, h1, -, e⟩ := bd_nI (x := f (20 + 5 * p + 3)) (b := 3) ⟨by have := b.1; omega, b.2⟩
    exact .inr ⟨j, by omega, e⟩
def FOK (f : Nat → Int32) (p : Nat) : Prop := 1 ≤ fB f p ∧ 1 ≤ fD f p ∧ fD f p ≤ 100000 ∧ 1 ≤ fM f p ∧ fM f p ≤ 100000 ∧ fB f p + (fM f p - 1) * fD f p ≤ 100000
/-- a size of the family, by its place -/
theorem FOK.sz {f : Nat → Int32} {p : Nat} (k : FOK f p) {i : Int} (h0 : 0 ≤ i) (h1 : i ≤ fM f p - 1) : 1 ≤ fB f p + fD f p * i ∧ fB f p + fD f p * i ≤ 100000 ∧ 0 ≤ fD f p * i := by
  obtain ⟨a, b, -, c, -, e⟩ := k
  have m0 : 0 ≤ fD f p * i := Int.mul_nonneg (by omega) h0
  have m1 : fD f p * i ≤ fD f p * (fM f p - 1) := Int.mul_le_mul_of_nonneg_left h1 (by omega)
  rw [Int.mul_comm (fD f p) (fM f p - 1)] at m1
  omega
/-! SAYINGS -/
noncomputable def sW (f : Nat → Int32) (s : Nat) : Int := if f (152 + 6 * s + 1) = 0 then (wvN f (f (152 + 6 * s + 0)).toNatClampNeg (f (152 + 6 * s + 4)).toNatClampNeg).toInt else 0
noncomputable def sL (f : Nat → Int32) (s : Nat) : Int := (f (152 + 6 * s + 2)).toInt - (f (152 + 6 * s + 3)).toInt + sW f s
noncomputable def sH (f : Nat → Int32) (s : Nat) : Int := (f (152 + 6 * s + 2)).toInt + (f (152 + 6 * s + 3)).toInt + sW f s
/-- a saying allows a size -/
def alw (f : Nat → Int32) (s : Nat) (z : Int) : Prop := (¬ f (152 + 6 * s + 1) = 2 → sL f s ≤ z) ∧ (¬ f (152 + 6 * s + 1) = 3 → z ≤ sH f s)
abbrev isO (f : Nat → Int32) (p s : Nat) : Prop := f (152 + 6 * s + 0) = nI p ∧ f (152 + 6 * s + 5) = 0
theorem VR.sp {f : Nat → Int32} (v : VR f) {s : Nat} (hs : s < 60) : ∃ a y : Nat, a < 24 ∧ y ≤ 99 ∧ f (152 + 6 * s + 0) = nI a ∧ f (152 + 6 * s + 4) = nI y := by
  obtain ⟨a, h1, -, e1⟩ := bd_nI (v.at (vg_S (c := 0) hs (by omega)))
  obtain ⟨y, h2, -, e2⟩ := bd_nI (v.at (vg_S (c := 4) hs (by omega)))
  have h1 : (a : Int) ≤ 23 := h1
  have h2 : (y : Int) ≤ 99 := h2
  exact ⟨a, y, by omega, by omega, e1, e2⟩
/-- the sizes of p's family that all its sayings among the first n allow -/
def okZs (f : Nat → Int32) (p n : Nat) (z : Int) : Prop := ∀ s, s < n → isO f p s → alw f s z
def FSp (f : Nat → Int32) (p n : Nat) (a b : Int) : Prop := 0 ≤ a ∧ b ≤ fM f p - 1 ∧ ∀ i, 0 ≤ i → i ≤ fM f p - 1 → ((a ≤ i ∧ i ≤ b) ↔ okZs f p n (fB f p + fD f p * i))
def FA (f : Nat → Int32) (p n : Nat) (lo hi m : Int) : Prop := ∃ a b, FSp f p n a b ∧ m = (if b < a then 0 else b - a + 1) ∧ lo = (if b < a then -1 else fB f p + fD f p * a) ∧ hi = (if b < a then -1 else fB f p + fD f p * b)
noncomputable def f3 (f : Nat → Int32) (p : Nat) : Int × Int × Int := Classical.epsilon (fun t => ∃ n : Nat, f 1 = nI n ∧ n ≤ 60 ∧ FA f p n t.1 t.2.1 t.2.2)
noncomputable def fLo (f : Nat → Int32) (p : Nat) : Int32 := i32 (f3 f p).1
noncomputable def fHi (f : Nat → Int32) (p : Nat) : Int32 := i32 (f3 f p).2.1
noncomputable def fMn (f : Nat → Int32) (p : Nat) : Int32 := i32 (f3 f p).2.2
end
section
-- 72.find
/-! THE CLASS FINDS FIRST -/
def ofL (f : Nat → Int32) (p : Nat) : Nat → List Nat
  | 0 => []
  | k + 1 => if isO f p k then ofL f p k ++ [k] else ofL f p k
theorem ofL_y {f : Nat → Int32} {p k : Nat} (h : isO f p k) : ofL f p (k + 1) = ofL f p k ++ [k] := if_pos h
theorem ofL_n {f : Nat → Int32} {p k : Nat} (h : ¬ isO f p k) : ofL f p (k + 1) = ofL f p k := if_neg h
theorem ofL_mem {f : Nat → Int32} {p s : Nat} : ∀ {k : Nat}, s ∈ ofL f p k ↔ s < k ∧ isO f p s
  | 0 => ⟨fun h => absurd h List.not_mem_nil, fun h => absurd h.1 (Nat.not_lt_zero s)⟩
  | k + 1 => by
    have ih := ofL_mem (f := f) (p := p) (s := s) (k := k)
    by_cases q : isO f p k
    · rw [ofL_y q, List.mem_append, List.mem_singleton, ih]
      refine ⟨fun h => ?_, fun h => ?_⟩
      · rcases h with h | h
        · exact ⟨by omega, h.2⟩
        · exact ⟨by omega, by rw [h]; exact q⟩
      · by_cases e : s = k
        · exact .inr e
        · exact .inl ⟨by omega, h.2⟩
    · rw [ofL_n q, ih]
      refine ⟨fun h => ⟨by omega, h.2⟩, fun h => ⟨?_, h.2⟩⟩
      have : s ≠ k := fun e => q (by rw [← e]; exact h.2)
      omega
noncomputable def cLo (f : Nat → Int32) (s : Nat) : Int := if f (152 + 6 * s + 1) = 2 then -1000000 else sL f s
noncomputable def cHi (f : Nat → Int32) (s : Nat) : Int := if f (152 + 6 * s + 1) = 3 then 1000000 else sH f s
/-- the sayings that count, in the class's rows -/
def ARR (h : HI) (f : Nat → Int32) (p k : Nat) : Prop := ∀ i s, (ofL f p k)[i]? = some s → h 82 i = i32 (cLo f s) ∧ h 83 i = i32 (cHi f s) ∧ h 84 i = nI s
def SZ (h : HI) (f : Nat → Int32) (p n : Nat) : Prop := h 81 9 = fLo f p ∧ h 81 10 = fHi f p ∧ h 81 11 = fMn f p ∧ (h 81 6).toInt = fB f p ∧ (h 81 7).toInt = fD f p ∧ (h 81 8).toInt = fM f p - 1 ∧ h 81 5 = nI (ofL f p n).length ∧ ARR h f p n
end
section
-- 73.firstr
/-! THE REFERENCE FINDS FIRST -/
noncomputable def fsel (f : Nat → Int32) (p : Nat) (x : Int32) : Int32 := if x = 2 then fMn f p else if x = 0 then fLo f p else fHi f p
/-! FIRST, the call -/
end
section
-- 74.quarrel
/-! QUARREL: how many sayings do not allow a size, and the size that the fewest do not -/
noncomputable def dn (f : Nat → Int32) (z : Int) (s : Nat) : Bool := !(decide (cLo f s ≤ z) && decide (z ≤ cHi f s))
theorem dn_iff {f : Nat → Int32} {z : Int} {s : Nat} : dn f z s = true ↔ ¬ (cLo f s ≤ z ∧ z ≤ cHi f s) := by
  unfold dn
  by_cases a : cLo f s ≤ z
  · by_cases b : z ≤ cHi f s
    · rw [decide_eq_true a, decide_eq_true b]; exact ⟨fun q => absurd q (by decide), fun q => absurd ⟨a, b⟩ q⟩
    · rw [decide_eq_true a, decide_eq_false b]; exact ⟨fun _ q => b q.2, fun _ => rfl⟩
  · rw [decide_eq_false a]; exact ⟨fun _ q => a q.1, fun _ => rfl⟩
noncomputable def cq (f : Nat → Int32) (p : Nat) (z : Int) (k : Nat) : Nat := (ofL f p k).countP (dn f z)
theorem cq_mono {f : Nat → Int32} {p n : Nat} {z z' : Int} (h : ∀ s, s < n → isO f p s → dn f z' s = true → dn f z s = true) : cq f p z' n ≤ cq f p z n :=
  List.countP_mono_left (fun s hs d => h s (ofL_mem.mp hs).1 (ofL_mem.mp hs).2 d)
def lex (f : Nat → Int32) (p n : Nat) (z z' : Int) : Prop := cq f p z n < cq f p z' n ∨ (cq f p z n = cq f p z' n ∧ z ≤ z')
theorem lex.rf {f : Nat → Int32} {p n : Nat} {z : Int} : lex f p n z z := .inr ⟨rfl, Int.le_refl _⟩
theorem lex.tr {f : Nat → Int32} {p n : Nat} {a b c : Int} (x : lex f p n a b) (y : lex f p n b c) : lex f p n a c := by
  unfold lex at *; omega
def BST (f : Nat → Int32) (p n : Nat) (z : Int) : Prop := (∃ i, 0 ≤ i ∧ i ≤ fM f p - 1 ∧ z = fB f p + fD f p * i) ∧ ∀ i, 0 ≤ i → i ≤ fM f p - 1 → lex f p n z (fB f p + fD f p * i)
theorem cand {f : Nat → Int32} {p n : Nat} (k : FOK f p) : ∀ i : Nat, (i : Int) ≤ fM f p - 1 → ∃ j : Int, 0 ≤ j ∧ j ≤ i ∧ cq f p (fB f p + fD f p * j) n ≤ cq f p (fB f p + fD f p * i) n ∧ (j = 0 ∨ ∃ s, s < n ∧ isO f p s ∧ pfN (fB f p) (fD f p) (cLo f s) = j)
  | 0, _ => ⟨0, by omega, by omega, Nat.le_refl _, .inl rfl⟩
  | i + 1, hi => by
    by_cases q : ∃ s, s < n ∧ isO f p s ∧ pfN (fB f p) (fD f p) (cLo f s) = ((i + 1 : Nat) : Int)
    · exact ⟨((i + 1 : Nat) : Int), by omega, by omega, Nat.le_refl _, .inr q⟩
    · obtain ⟨j, j0, j1, jc, jo⟩ := cand (n := n) k i (by omega)
      refine ⟨j, j0, by omega, Nat.le_trans jc (cq_mono (fun s hs o d => ?_)), jo⟩
      rw [dn_iff] at d ⊢
      intro a
      refine d ?_
      have d1 : 1 ≤ fD f p := k.2.1
      have b1 := (pfN_le (b := fB f p) (z := cLo f s) (i := ((i + 1 : Nat) : Int)) d1 (by omega)).mpr a.1
      have b2 : ¬ pfN (fB f p) (fD f p) (cLo f s) = ((i + 1 : Nat) : Int) := fun e => q ⟨s, hs, o, e⟩
      have b3 := (pfN_le (b := fB f p) (z := cLo f s) (i := (i : Int)) d1 (by omega)).mp (by omega)
      have e : fD f p * ((i + 1 : Nat) : Int) = fD f p * (i : Int) + fD f p := by
        rw [show ((i + 1 : Nat) : Int) = (i : Int) + 1 by omega, Int.mul_add, Int.mul_one]
      rw [e] at a
      exact ⟨b3, by omega⟩
theorem BST.of {f : Nat → Int32} {p n : Nat} (k : FOK f p) {z : Int} (hz : ∃ i, 0 ≤ i ∧ i ≤ fM f p - 1 ∧ z = fB f p + fD f p * i) (c0 : lex f p n z (fB f p + fD f p * 0)) (cs : ∀ s, s < n → isO f p s → pfN (fB f p) (fD f p) (cLo f s) ≤ fM f p - 1 → lex f p n z (fB f p + fD f p * pfN (fB f p) (fD f p) (cLo f s))) : BST f p n z := by
  refine ⟨hz, fun i i0 i1 => ?_⟩
  obtain ⟨m, rfl⟩ : ∃ m : Nat, i = (m : Int) := ⟨i.toNat, by omega⟩
  obtain ⟨j, j0, j1, jc, jo⟩ := cand (n := n) k m i1
  have h1 : lex f p n z (fB f p + fD f p * j) := by
    rcases jo with e | ⟨s, hs, o, e⟩
    · rw [e]; exact c0
    · rw [← e]; exact cs s hs o (by omega)
  have h2 : fD f p * j ≤ fD f p * (m : Int) := Int.mul_le_mul_of_nonneg_left j1 (by have := k.2.1; omega)
  unfold lex at h1 ⊢; omega
/-! THE CLASS -/
end
section
-- 75.quarrelr
/-! QUARREL, THE REFERENCE -/
def BV (h : HI) (f : Nat → Int32) (p n : Nat) (z : Int) : Prop := (h 135 16).toInt = z ∧ h 135 17 = nI (cq f p z n)
/-- the family and the best are untouched by what SLt changes -/
theorem SLt.k {k : Nat} (h : 11 ≤ k) : ¬ SLt 135 k := by unfold SLt; omega
theorem STr.f {k : Nat} (h : 11 ≤ k ∧ k ≤ 13) : ¬ STr 135 k := by unfold STr; omega
/-- the best so far, of all that was tried -/
def BQ (h : HI) (f : Nat → Int32) (p n i : Nat) : Prop := ∃ z, BV h f p n z ∧ (∃ t, 0 ≤ t ∧ t ≤ fM f p - 1 ∧ z = fB f p + fD f p * t) ∧ lex f p n z (fB f p + fD f p * 0) ∧ ∀ s, s < i → isO f p s → pfN (fB f p) (fD f p) (cLo f s) ≤ fM f p - 1 → lex f p n z (fB f p + fD f p * pfN (fB f p) (fD f p) (cLo f s))
theorem BQ.tr {h h' : HI} {f : Nat → Int32} {p n i : Nat} {x : Int32} (b : BQ h f p n i) (a : (¬ (0 ≤ x.toInt ∧ x.toInt ≤ fM f p - 1) ∧ h' 135 16 = h 135 16 ∧ h' 135 17 = h 135 17) ∨ ((0 ≤ x.toInt ∧ x.toInt ≤ fM f p - 1) ∧ ∃ z', BV h' f p n z' ∧ lex f p n z' (fB f p + fD f p * x.toInt) ∧ (z' = fB f p + fD f p * x.toInt ∨ BV h f p n z') ∧ ∀ z, BV h f p n z → lex f p n z' z)) : BQ h' f p n i ∧ (0 ≤ x.toInt → x.toInt ≤ fM f p - 1 → ∀ z', BV h' f p n z' → lex f p n z' (fB f p + fD f p * x.toInt)) := by
  obtain ⟨z, B, fam, l0, ls⟩ := b
  rcases a with ⟨a1, a2, a3⟩ | ⟨a1, z', B', lx, o, al⟩
  · exact ⟨⟨z, ⟨by rw [a2]; exact B.1, by rw [a3]; exact B.2⟩, fam, l0, ls⟩, fun h0 h1 => absurd ⟨h0, h1⟩ a1⟩
  · have lz := al z B
    refine ⟨⟨z', B', ?_, lz.tr l0, fun s hs o hp => lz.tr (ls s hs o hp)⟩, fun _ _ z2 B2 => ?_⟩
    · rcases o with e | e
      · exact ⟨x.toInt, a1.1, a1.2, e⟩
      · rw [show z' = z from e.1.symm.trans B.1]; exact fam
    · rw [show z2 = z' from B2.1.symm.trans B'.1]; exact lx
end
section
-- 76.fits
/-! SUMS OF A CHAIN -/
def lkP (f : Nat → Int32) (c k : Nat) : Nat := (f (512 + 10 * c + (3 + k))).toNatClampNeg
def nCh (f : Nat → Int32) (c : Nat) : Nat := (f (512 + 10 * c + 2)).toNatClampNeg
def oCh (f : Nat → Int32) (c : Nat) : Nat := (f (512 + 10 * c + 9)).toNatClampNeg
/-- the chain c of n parts, by the reference's numbers: all its parts, and those that stand for them, are there -/
def CHf (f : Nat → Int32) (c : Nat) (qp : Nat → Nat) (m : Nat) : Prop := nCh f c ≤ 6 ∧ f (512 + 10 * c + 2) = nI (nCh f c) ∧ f (512 + 10 * c + 9) = nI (oCh f c) ∧ oCh f c < 64 ∧ ∀ k, k < nCh f c → lkP f c k < m ∧ f (512 + 10 * c + (3 + k)) = nI (lkP f c k) ∧ qp (lkP f c k) < m
end
section
-- 77.fitsc
/-! SUM, LIFE, STANDS: the answers, and the class -/
theorem CHf.n1 {f : Nat → Int32} {c m : Nat} (C : CHf f c id m) (hm : m ≤ 24) : ∀ k, k < nCh f c → (nI (lkP f c k) = (-1 : Int32) → (-1 : Int32) = nI (id (lkP f c k))) ∧ (¬ nI (lkP f c k) = (-1 : Int32) → id (lkP f c k) = lkP f c k) := fun k hk =>
  ⟨fun e => absurd e (nI_nm (by have := (C.2.2.2.2 k hk).1; omega)), fun _ => rfl⟩
end
section
-- 78.fitsr
/-! SUM, LIFE, STANDS, the reference -/
theorem fsel0 {f : Nat → Int32} {p : Nat} : fsel f p 0 = fLo f p := by
  unfold fsel; rw [if_neg (by decide), if_pos rfl]
theorem fsel1 {f : Nat → Int32} {p : Nat} : fsel f p 1 = fHi f p := by
  unfold fsel; rw [if_neg (by decide), if_neg (by decide)]
theorem nI_n2 {j : Nat} (h : j < 2 ^ 31) : ¬ nI j = -2 := fun e => by
  have := nI_toInt h
  rw [e, show (-2 : Int32).toInt = -2 by decide] at this
  omega
theorem CHf.n2 {f : Nat → Int32} {c m : Nat} (C : CHf f c id m) (hm : m ≤ 24) : ∀ k, k < nCh f c → (nI (lkP f c k) = (-2 : Int32) → (-1 : Int32) = nI (id (lkP f c k))) ∧ (¬ nI (lkP f c k) = (-2 : Int32) → id (lkP f c k) = lkP f c k) := fun k hk =>
  ⟨fun e => absurd e (nI_n2 (by have := (C.2.2.2.2 k hk).1; omega)), fun _ => rfl⟩
end
section
-- 79.a.big
/-! BIG NUMBERS OF THE CLASS: o its fields, behind it its digits -/
def GC (h : HI) (o W v : Nat) : Prop := h o 1 = nI W ∧ dgs (h (o + 1)) 0 W ∧ vl (h (o + 1)) 0 W = v ∧ 1 ≤ W ∧ ∀ V, W = V + 1 → ¬ h (o + 1) (0 + V) = 0
theorem GC.fr {h h' : HI} {o q W v : Nat} (x : GC h q W v) (J : JJ (SB o) h h') (n : ¬ SB o q ∧ ¬ SB o (q + 1)) : GC h' q W v := by
  unfold GC
  rw [J q n.1, J (q + 1) n.2]; exact x
theorem GC.lo {h : HI} {o W v : Nat} (x : GC h o W v) : ∃ V, W = V + 1 ∧ 2 ^ (30 * V) ≤ v ∧ v < 2 ^ (30 * W) := by
  obtain ⟨-, d, e, h1, z⟩ := x
  obtain ⟨V, rfl⟩ : ∃ V, W = V + 1 := ⟨W - 1, by omega⟩
  refine ⟨V, rfl, ?_, ?_⟩
  · rw [← e]; exact vl_le d (z V rfl)
  · rw [← e]; exact vl_lt d
theorem GC.lt {h : HI} {o q W v U u : Nat} (x : GC h o W v) (y : GC h q U u) (k : W < U) : v < u := by
  obtain ⟨-, -, -, h1⟩ := x.lo
  obtain ⟨V, rfl, h2, -⟩ := y.lo
  have h3 : 2 ^ (30 * W) ≤ 2 ^ (30 * V) := Nat.pow_le_pow_right (by omega) (by omega)
  omega
end
section
-- 79.b.half
/-! HALF, the class -/
/-- the chance of a year, shortened by d -/
def KO (h : HI) (V : Nat) : Prop := ∃ k o d : Nat, 1 ≤ d ∧ 1 ≤ k ∧ k * d = V ∧ o * d = 1000 ∧ h 109 5 = nI k ∧ h 109 6 = nI o
theorem KO.bd {h : HI} {V : Nat} (x : KO h V) (hV : V ≤ 1000) : ∃ k o d : Nat, 1 ≤ d ∧ 1 ≤ k ∧ k ≤ 1000 ∧ 1 ≤ o ∧ o ≤ 1000 ∧ k * d = V ∧ o * d = 1000 ∧ h 109 5 = nI k ∧ h 109 6 = nI o := by
  obtain ⟨k, o, d, hd, hk, e1, e2, e5, e6⟩ := x
  have k1 : k ≤ k * d := Nat.le_mul_of_pos_right k (by omega)
  have o1 : o ≤ o * d := Nat.le_mul_of_pos_right o (by omega)
  have o0 : o ≠ 0 := fun e => by rw [e, Nat.zero_mul] at e2; omega
  exact ⟨k, o, d, hd, hk, by omega, by omega, by omega, e1, e2, e5, e6⟩
end
section
-- 79.c.fit
/-! FITTED -/
def ldT (f : Nat → Int32) (i : Nat) : Nat := (f (737 + 2 * i + 0)).toNatClampNeg
def fcT (f : Nat → Int32) (a b i : Nat) : Nat := if f (737 + 2 * i + 1) = 1 then a + b * ldT f i else 1000 - (a + b * ldT f i)
def okT9 (f : Nat → Int32) (a b i : Nat) : Prop := 1 ≤ a + b * ldT f i ∧ a + b * ldT f i ≤ 999
/-- the product of what was told, none where A and B may not be -/
def LK (f : Nat → Int32) (a b : Nat) : Nat → Nat → Prop
  | 0, v => v = 1
  | i + 1, v => ∃ u, LK f a b i u ∧ okT9 f a b i ∧ v = u * fcT f a b i
theorem LK.bd {f : Nat → Int32} {a b : Nat} : ∀ {i v : Nat}, LK f a b i v → 1 ≤ v ∧ v ≤ 1000 ^ i
  | 0, v, x => by
    have x : v = 1 := x
    rw [x]; exact ⟨by decide, by decide⟩
  | i + 1, v, ⟨u, x, ok, e⟩ => by
    obtain ⟨h1, h2⟩ := LK.bd x
    have hf : 1 ≤ fcT f a b i ∧ fcT f a b i ≤ 1000 := by
      unfold okT9 at ok
      unfold fcT
      by_cases q : f (737 + 2 * i + 1) = 1
      · rw [if_pos q]; omega
      · rw [if_neg q]; omega
    rw [e]
    refine ⟨Nat.mul_pos (by omega) (by omega), ?_⟩
    rw [Nat.pow_succ]
    exact Nat.mul_le_mul h2 hf.2
theorem LK.dn {f : Nat → Int32} {a b i : Nat} (n : ¬ okT9 f a b i) : ∀ {j : Nat}, i < j → ∀ v, ¬ LK f a b j v
  | 0, h, _, _ => absurd h (Nat.not_lt_zero i)
  | j + 1, h, v, ⟨u, x, ok, _⟩ => by
    by_cases e : i = j
    · subst e; exact n ok
    · exact LK.dn n (j := j) (by omega) u x
/-- the first of the likeliest among the first k codes -/
def BF9 (f : Nat → Int32) (n : Nat) : Nat → Nat → Nat → Prop
  | 0, _, _ => False
  | k + 1, c, v => (LK f (k / 10) (k % 10) n v ∧ c = k ∧ ∀ c' u, BF9 f n k c' u → u < v) ∨ (BF9 f n k c v ∧ ∀ u, LK f (k / 10) (k % 10) n u → u ≤ v)
theorem BF9.lt {f : Nat → Int32} {n : Nat} : ∀ {k c v : Nat}, BF9 f n k c v → c < k
  | 0, _, _, x => absurd x id
  | k + 1, c, v, x => by
    rcases x with ⟨-, e, -⟩ | ⟨x1, -⟩
    · omega
    · have := BF9.lt x1; omega
/-! the reference -/
end
section
-- 79.d.dig
/-! DIGEST -/
def mx (e : Nat → Int32) : Nat → Int64 → Int64
  | 0, x => x
  | n + 1, x => (31 : Int64) * mx e n x + (e n).toInt64
theorem SZ.an {h : HI} {f : Nat → Int32} {p n : Nat} (Z : SZ h f p n) {g : HL} {k : Nat} (hk : k < 3) {body : Int32 → HI → HL → Prop} (b : ∀ g', body (fsel f p (nI k)) h g') : ∃ P : Int32 → HI → HL → Prop, w_X7_answer (nI k) h g P ∧ ∀ (r : Int32) (h : HI) (g : HL), P r h g → body r h g := by
  obtain ⟨z9, z10, z11, -⟩ := Z
  refine ⟨fun r h' g' => body r h' g', ?_, fun _ _ _ x => x⟩
  unfold w_X7_answer
  have : k = 0 ∨ k = 1 ∨ k = 2 := by omega
  rcases this with rfl | rfl | rfl
  · refine ⟨fun n0 => absurd nI_0 n0, fun _ => ?_⟩
    have e : fsel f p (nI 0) = fLo f p := fsel0
    rw [z9, ← e]; exact b g
  · refine ⟨fun _ => ⟨fun n1 => absurd rfl n1, fun _ => ?_⟩, fun z => absurd z (by decide)⟩
    have e : fsel f p (nI 1) = fHi f p := fsel1
    rw [z10, ← e]; exact b g
  · refine ⟨fun _ => ⟨fun _ => ?_, fun z => absurd z (by decide)⟩, fun z => absurd z (by decide)⟩
    have e : fsel f p (nI 2) = fMn f p := by unfold fsel; exact if_pos rfl
    rw [z11, ← e]; exact b g
/-! the reference -/
end
