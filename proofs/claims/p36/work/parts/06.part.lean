/-! THE WORLD WHILE THE CONSTRUCTORS RUN: objects 0 .. n-1 stand at B, B+1 ..; E: those that are not finished, with what they hold -/
abbrev adB (B : Nat) : Nat → Nat := fun o => B + o
def eu (E : Nat → Option (List Value)) (o : Nat) (fs : List Value) : Nat → Option (List Value) := fun q => if q = o then some fs else E q
theorem eu_eq {E : Nat → Option (List Value)} {o : Nat} {fs : List Value} : eu E o fs o = some fs := if_pos rfl
theorem eu_ne {E : Nat → Option (List Value)} {o q : Nat} {fs : List Value} (h : q ≠ o) : eu E o fs q = E q := if_neg h
def pE (E : Nat → Option (List Value)) (cy : Nat → ClassId) (ad : Nat → Nat) (h : HI) (g : HL) (o : Nat) : va_E := match E o with
  | some fs => .inr (gK o, fs)
  | none => gE cy ad h g o
theorem pE_some {E : Nat → Option (List Value)} {cy : Nat → ClassId} {ad : Nat → Nat} {h : HI} {g : HL} {o : Nat} {fs : List Value} (he : E o = some fs) : pE E cy ad h g o = .inr (gK o, fs) := by unfold pE; rw [he]
theorem pE_none {E : Nat → Option (List Value)} {cy : Nat → ClassId} {ad : Nat → Nat} {h : HI} {g : HL} {o : Nat} (he : E o = none) : pE E cy ad h g o = gE cy ad h g o := by unfold pE; rw [he]
def pW (n : Nat) (E : Nat → Option (List Value)) (cy : Nat → ClassId) (ad : Nat → Nat) (h : HI) (g : HL) : va_W := (List.range n).map (fun o => (ad o, pE E cy ad h g o))
theorem pW_len {n : Nat} {E : Nat → Option (List Value)} {cy : Nat → ClassId} {ad : Nat → Nat} {h : HI} {g : HL} : (pW n E cy ad h g).length = n := by simp [pW]
theorem pW_at {n : Nat} {E : Nat → Option (List Value)} {cy : Nat → ClassId} {ad : Nat → Nat} {h : HI} {g : HL} {o : Nat} (ho : o < n) : (pW n E cy ad h g)[o]? = some (ad o, pE E cy ad h g o) := by
  unfold pW
  rw [List.getElem?_map, List.getElem?_range ho]
  rfl
theorem pW_eq {n : Nat} {E E' : Nat → Option (List Value)} {cy : Nat → ClassId} {ad : Nat → Nat} {h h' : HI} {g g' : HL} (he : ∀ q, q < n → pE E cy ad h g q = pE E' cy ad h' g' q) : pW n E cy ad h g = pW n E' cy ad h' g' := by
  unfold pW
  apply List.map_congr_left
  intro q hq
  rw [he q (List.mem_range.mp hq)]
theorem pW_set {n : Nat} {E E' : Nat → Option (List Value)} {cy : Nat → ClassId} {ad : Nat → Nat} {h h' : HI} {g g' : HL} {o : Nat} {x : va_E} (hx : pE E' cy ad h' g' o = x) (hne : ∀ q, q ≠ o → q < n → pE E' cy ad h' g' q = pE E cy ad h g q) : (pW n E cy ad h g).set o (ad o, x) = pW n E' cy ad h' g' := by
  apply List.ext_getElem?
  intro i
  by_cases hi : i < n
  · rw [pW_at hi]
    by_cases e : o = i
    · subst e
      rw [List.getElem?_set_self (by rw [pW_len]; exact hi), hx]
    · rw [List.getElem?_set_ne e, pW_at hi, hne i (fun q => e q.symm) hi]
  · rw [List.getElem?_eq_none (by rw [List.length_set, pW_len]; omega), List.getElem?_eq_none (by rw [pW_len]; omega)]
theorem pW_push {n : Nat} {E E' : Nat → Option (List Value)} {cy : Nat → ClassId} {ad : Nat → Nat} {h h' : HI} {g g' : HL} {x : va_E} (hx : pE E' cy ad h' g' n = x) (hne : ∀ q, q < n → pE E' cy ad h' g' q = pE E cy ad h g q) : pW n E cy ad h g ++ [(ad n, x)] = pW (n + 1) E' cy ad h' g' := by
  unfold pW
  rw [List.range_succ, List.map_append, List.map_cons, List.map_nil, hx]
  congr 1
  apply List.map_congr_left
  intro q hq
  rw [hne q (List.mem_range.mp hq)]
theorem pD {n B : Nat} {E : Nat → Option (List Value)} {cy : Nat → ClassId} {h : HI} {g : HL} : va_D (fun q => B ≤ q) (pW n E cy (adB B) h g) := by
  have key : ∀ (k : Nat) (q : Nat × va_E), (pW n E cy (adB B) h g)[k]? = some q → q.1 = B + k := by
    intro k q hq
    have hk : k < n := by
      have := (List.getElem?_eq_some_iff.mp hq).1
      rw [pW_len] at this
      exact this
    rw [pW_at hk] at hq
    cases hq
    rfl
  refine ⟨fun i j p q hi hj e => ?_, fun k q hq => ?_⟩
  · have h1 := key i p hi
    have h2 := key j q hj
    omega
  · have h1 := key k q hq
    show B ≤ q.1
    omega
def pG (D : va_G) (cy : Nat → ClassId) (B n : Nat) (E : Nat → Option (List Value)) (H0 : Heap) (h : HI) (g : HL) (H : Heap) (locs : List Loc) : Prop := va_P D vwCl (pW n E cy (adB B) h g) H ∧ va_S (fun q => B ≤ q) H0 H locs ∧ H.size = B + n
section PROWS
variable {p : Program} {l : Launch} {e : Env} {R : Room} {s : State} {m : MethodId} {args : Array Value} {below : List Frame} {meth : Method} {c : Code} {H : Heap} {locs : List Loc} {cells slots : Nat} {Q : State → Prop}
variable {cc : ByteArray} {pc : Nat} {ls : Array Slot} {rest : List Value} {D : va_G} {H0 : Heap} {cy : Nat → ClassId} {B n : Nat} {E : Nat → Option (List Value)} {h : HI} {g : HL}
/-- a new object: number n, all its fields as they are born -/
theorem p_new (hexec : p.tables.exec = Jvm.exec) (hb : c.code = cc) {own C : String} {T : u_T} {N ci index : Nat} {Ts : List Cond} (hts : ∀ w ∈ Ts, w.before args s = true) (hin : ∀ w ∈ u_ws C T N, w ∈ Ts) (ty : Nat → FieldType) (hty : ∀ k, k < N → parseFieldDescriptor (T k).2.2.1 = some (ty k)) (hown : s.vm.findClass own = some m.cls) (hcl : (Cond.classLink own index C).before args s = true) (hinst : (Cond.instantiable C N).before args s = true) (hini : (Cond.initialized C).before args s = true)
    (hK : va_K D vwCl (gtys cy) s) (hG : pG D cy B n E H0 h g H locs) (hc : vwCl[ci]? = some (C, T, N)) (hk : gK n = ci) {fs : List Value} (hfs : ∀ j, j < N → defaultValue (ty j) = vp_V fs j) (hcells : cells + 1 ≤ R.cells) (hslots : slots + N ≤ R.slots) (hdg : decode cc pc = .ok (.new index, 3))
    (kk : ∀ (H1 : Heap), pG D cy B (n + 1) (eu E n fs) H0 h g H1 locs → W p l e R s m args below meth c H1 locs (cells + 1) (slots + N) Q (F0 m (pc + 3) ls (.ref (adB B n) :: rest))) : W p l e R s m args below meth c H locs cells slots Q (F0 m pc ls rest) := by
  obtain ⟨hP, hS, hz⟩ := hG
  have hKn := hK.1 ci _ hc
  refine W.newcK hexec hb hown hcl hinst hini rfl hdg hcells hslots hKn.2.1 rfl fun H1 kC hkC e1 z1 o1 => ?_
  have ha : H.size = adB B n := hz
  rw [ha] at e1 o1 ⊢
  refine kk H1 ⟨?_, ⟨Nat.le_trans hS.1 (by omega), fun x h1 h2 => (o1 x (by rw [← ha]; exact Nat.lt_of_lt_of_le h1 hS.1)).trans (hS.2.1 x h1 h2), hS.2.2⟩, by show H1.size = B + (n + 1); omega⟩
  rw [← pW_push (E := E) (h := h) (g := g) (x := .inr (ci, fs)) (by rw [pE_some eu_eq, hk]) (fun q hq => by unfold pE; rw [eu_ne (by omega)])]
  refine (hP.kept (fun k x hx => o1 x.1 (by rw [← ha]; exact (hP k x hx).lt))).app (fun k x hx => ?_)
  have h0 : k < 1 := (List.getElem?_eq_some_iff.mp hx).1
  rw [show k = 0 by omega] at hx
  cases hx
  exact ⟨_, hc, (u_born ty hts hin hKn hkC e1 hty).to hfs⟩
/-- a new array of ints: number n, all 0 -/
theorem p_newi (hexec : p.tables.exec = Jvm.exec) (hb : c.code = cc) (harr : (Cond.arrayClass .int).before args s = true) (hK : va_K D vwCl (gtys cy) s) (hG : pG D cy B n E H0 h g H locs) (hk : gK n = 12) (he : E n = none) {x : Int32} {N : Nat} (hn : ¬ x < 0) (hN : x.toNatClampNeg = N) (hNn : gN n = N) (hbytes : N ≤ 100000) (hcells : cells + 1 ≤ R.cells) (hslots : slots + N ≤ R.slots) (hdg : decode cc pc = .ok (.newarray .int, 2))
    (kk : ∀ (H1 : Heap), pG D cy B (n + 1) E H0 (hua h n (fun _ => 0)) g H1 locs → W p l e R s m args below meth c H1 locs (cells + 1) (slots + N) Q (F0 m (pc + 2) ls (.ref (adB B n) :: rest))) : W p l e R s m args below meth c H locs cells slots Q (F0 m pc ls (.int x :: rest)) := by
  obtain ⟨hP, hS, hz⟩ := hG
  refine va_newaK hexec hb (atype := .int) harr rfl hdg rfl hn hN (by show N * 4 ≤ 536870912; omega) hcells hslots hz fun H1 cA e1 z1 o1 hAr hNm => ?_
  have hcA : cA = cy 0 := Option.some.inj (hNm.symm.trans (hK.2 0 _ rfl).2)
  subst hcA
  refine kk H1 ⟨?_, ⟨Nat.le_trans hS.1 (by omega), fun q h1 h2 => (o1 q (by have := hS.1; omega)).trans (hS.2.1 q h1 h2), hS.2.2⟩, by omega⟩
  rw [← pW_push (E := E) (h := h) (g := g) (x := .inl (cy 0, N, .inl (fun _ => 0))) (by rw [pE_none he, gE_ia cy (adB B) _ g hk, hNn, hua_eq]) (fun q hq => by unfold pE; rw [gE_ne (hua_ne (by omega)) rfl])]
  refine (hP.kept (fun k q hq => o1 q.1 (by rw [← hz]; exact (hP k q hq).lt))).app (fun k q hq => ?_)
  have h0 : k < 1 := (List.getElem?_eq_some_iff.mp hq).1
  rw [show k = 0 by omega] at hq
  cases hq
  exact e1
/-- a field of an unfinished object is read -/
theorem p_getE (hexec : p.tables.exec = Jvm.exec) (hb : c.code = cc) {own C : String} {T : u_T} {N ci index : Nat} {Ts : List Cond} (hts : ∀ w ∈ Ts, w.before args s = true) (hin : ∀ w ∈ u_ws C T N, w ∈ Ts) (hown : s.vm.findClass own = some m.cls) (hK : va_K D vwCl (gtys cy) s) (hG : pG D cy B n E H0 h g H locs) {o : Nat} (ho : o < n) {fs : List Value} (he : E o = some fs) (hc : vwCl[ci]? = some (C, T, N)) (hk : gK o = ci) (k : Nat) (hkN : k < N) {v : Value} (hv : fs[k]? = some v) (hlink : (Cond.fieldLink own index (T k).1 (T k).2.1 (T k).2.2.1).before args s = true) (hdg : decode cc pc = .ok (.getfield index, 3))
    (kk : W p l e R s m args below meth c H locs cells slots Q (F0 m (pc + 3) ls (v :: rest))) : W p l e R s m args below meth c H locs cells slots Q (F0 m pc ls (.ref (adB B o) :: rest)) :=
  va_get hexec hb hts hin hown hK hG.1 o (by rw [pW_at ho, pE_some he, hk]) hc k hkN hlink (fun _ z => z) hv hdg kk
/-- a field of a finished object is read -/
theorem p_geti (hexec : p.tables.exec = Jvm.exec) (hb : c.code = cc) {own C : String} {T : u_T} {N ci index : Nat} {Ts : List Cond} (hts : ∀ w ∈ Ts, w.before args s = true) (hin : ∀ w ∈ u_ws C T N, w ∈ Ts) (hown : s.vm.findClass own = some m.cls) (hK : va_K D vwCl (gtys cy) s) (hG : pG D cy B n E H0 h g H locs) {o : Nat} (ho : o < n ∧ E o = none) (hc : vwCl[ci]? = some (C, T, N)) (hk : gK o = ci) (hci : ci < 12) (k : Nat) (hkN : k < N) (hkM : k < gM o) (hr : gR o k = none) (hlink : (Cond.fieldLink own index (T k).1 (T k).2.1 (T k).2.2.1).before args s = true) (hdg : decode cc pc = .ok (.getfield index, 3))
    (kk : W p l e R s m args below meth c H locs cells slots Q (F0 m (pc + 3) ls (.int (h o k) :: rest))) : W p l e R s m args below meth c H locs cells slots Q (F0 m pc ls (.ref (adB B o) :: rest)) :=
  va_get hexec hb hts hin hown hK hG.1 o (by rw [pW_at ho.1, pE_none ho.2, gE_obj cy (adB B) h g hk hci]) hc k hkN hlink (fun _ z => z) (by rw [gF_at hkM, hr]) hdg kk
theorem p_getr (hexec : p.tables.exec = Jvm.exec) (hb : c.code = cc) {own C : String} {T : u_T} {N ci index : Nat} {Ts : List Cond} (hts : ∀ w ∈ Ts, w.before args s = true) (hin : ∀ w ∈ u_ws C T N, w ∈ Ts) (hown : s.vm.findClass own = some m.cls) (hK : va_K D vwCl (gtys cy) s) (hG : pG D cy B n E H0 h g H locs) {o : Nat} (ho : o < n ∧ E o = none) (hc : vwCl[ci]? = some (C, T, N)) (hk : gK o = ci) (hci : ci < 12) (k : Nat) (hkN : k < N) (hkM : k < gM o) {r : Nat} (hr : gR o k = some r) (hlink : (Cond.fieldLink own index (T k).1 (T k).2.1 (T k).2.2.1).before args s = true) (hdg : decode cc pc = .ok (.getfield index, 3))
    (kk : W p l e R s m args below meth c H locs cells slots Q (F0 m (pc + 3) ls (.ref (adB B r) :: rest))) : W p l e R s m args below meth c H locs cells slots Q (F0 m pc ls (.ref (adB B o) :: rest)) :=
  va_get hexec hb hts hin hown hK hG.1 o (by rw [pW_at ho.1, pE_none ho.2, gE_obj cy (adB B) h g hk hci]) hc k hkN hlink (fun _ z => z) (by rw [gF_at hkM, hr]) hdg kk
theorem p_alen (hexec : p.tables.exec = Jvm.exec) (hb : c.code = cc) (hK : va_K D vwCl (gtys cy) s) (hG : pG D cy B n E H0 h g H locs) {o : Nat} (ho : o < n ∧ E o = none) (hk : gK o = 12) {v : Int32} (hv : Int32.ofNat (gN o) = v) (hdg : decode cc pc = .ok (.arraylength, 1)) (kk : W p l e R s m args below meth c H locs cells slots Q (F0 m (pc + 1) ls (.int v :: rest))) : W p l e R s m args below meth c H locs cells slots Q (F0 m pc ls (.ref (adB B o) :: rest)) :=
  va_alen hexec hb hK hG.1 o 0 (x := (gN o, .inl (h o))) (by rw [pW_at ho.1, pE_none ho.2, gE_ia cy (adB B) h g hk]) rfl hv hdg kk
theorem p_iald (hexec : p.tables.exec = Jvm.exec) (hb : c.code = cc) (hK : va_K D vwCl (gtys cy) s) (hG : pG D cy B n E H0 h g H locs) {o : Nat} (ho : o < n ∧ E o = none) (hk : gK o = 12) {N : Nat} (hn : gN o = N) {i : Int32} (hin : vp_in i N) (hdg : decode cc pc = .ok (.iaload, 1)) (kk : W p l e R s m args below meth c H locs cells slots Q (F0 m (pc + 1) ls (.int (h o i.toNatClampNeg) :: rest))) : W p l e R s m args below meth c H locs cells slots Q (F0 m pc ls (.int i :: .ref (adB B o) :: rest)) :=
  va_iald hexec hb hK hG.1 o 0 (by rw [pW_at ho.1, pE_none ho.2, gE_ia cy (adB B) h g hk]) rfl (by rw [hn]; exact hin) hdg kk
theorem p_aald (hexec : p.tables.exec = Jvm.exec) (hb : c.code = cc) (hK : va_K D vwCl (gtys cy) s) (hG : pG D cy B n E H0 h g H locs) {o r : Nat} (ho : o < n ∧ E o = none) (hk : gK o = 15) {N : Nat} (hn : gN o = N) {i : Int32} (hin : vp_in i N) (hr : gR o i.toNatClampNeg = some r) (hdg : decode cc pc = .ok (.aaload, 1)) (kk : W p l e R s m args below meth c H locs cells slots Q (F0 m (pc + 1) ls (.ref (adB B r) :: rest))) : W p l e R s m args below meth c H locs cells slots Q (F0 m pc ls (.int i :: .ref (adB B o) :: rest)) := by
  have ha : (pW n E cy (adB B) h g)[o]? = some (adB B o, .inl (cy 3, gN o, .inr (.inr (.inr (.inr (fun j => (gR o j).map (adB B))))))) := by rw [pW_at ho.1, pE_none ho.2, gE_oa cy (adB B) h g hk]
  subst hn
  have hlt : i.toNatClampNeg < gN o := Nat.not_le.mp fun q => hin (Or.inr q)
  have hvr : va_rf ((gR o i.toNatClampNeg).map (adB B)) = .ref (adB B r) := by rw [hr]; rfl
  exact W.aald (v := .ref (adB B r)) (ty := .array .int) hexec hb (hG.1 o _ ha) ((hK.2 3 _ rfl).1 (gN o) (fun j => va_rf ((gR o j).map (adB B)))) rfl (fun q => by cases q) (by show ¬ (i < 0 ∨ (arrV _ _ _).slots.size ≤ _); rw [arrV_size]; exact hin) (by show (arrV _ _ _).slots[_]? = _; rw [arrV_read _ _ hlt, hvr]) rfl rfl hdg kk
/-- new arrays of longs and of booleans -/
theorem p_newj (hexec : p.tables.exec = Jvm.exec) (hb : c.code = cc) (harr : (Cond.arrayClass .long).before args s = true) (hK : va_K D vwCl (gtys cy) s) (hG : pG D cy B n E H0 h g H locs) (hk : gK n = 13) (he : E n = none) {x : Int32} {N : Nat} (hn : ¬ x < 0) (hN : x.toNatClampNeg = N) (hNn : gN n = N) (hbytes : N ≤ 100000) (hcells : cells + 1 ≤ R.cells) (hslots : slots + N ≤ R.slots) (hdg : decode cc pc = .ok (.newarray .long, 2))
    (kk : ∀ (H1 : Heap), pG D cy B (n + 1) E H0 h (fun q => if q = n then (fun _ => 0) else g q) H1 locs → W p l e R s m args below meth c H1 locs (cells + 1) (slots + N) Q (F0 m (pc + 2) ls (.ref (adB B n) :: rest))) : W p l e R s m args below meth c H locs cells slots Q (F0 m pc ls (.int x :: rest)) := by
  obtain ⟨hP, hS, hz⟩ := hG
  refine va_newaK hexec hb (atype := .long) harr rfl hdg rfl hn hN (by show N * 8 ≤ 536870912; omega) hcells hslots hz fun H1 cA e1 z1 o1 hAr hNm => ?_
  have hcA : cA = cy 1 := Option.some.inj (hNm.symm.trans (hK.2 1 _ rfl).2)
  subst hcA
  refine kk H1 ⟨?_, ⟨Nat.le_trans hS.1 (by omega), fun q h1 h2 => (o1 q (by have := hS.1; omega)).trans (hS.2.1 q h1 h2), hS.2.2⟩, by omega⟩
  rw [← pW_push (E := E) (h := h) (g := g) (x := .inl (cy 1, N, .inr (.inl (fun _ => 0)))) (by rw [pE_none he, gE_ja cy (adB B) _ _ hk, hNn, if_pos rfl]) (fun q hq => by unfold pE; rw [gE_ne rfl (if_neg (by omega))])]
  refine (hP.kept (fun k q hq => o1 q.1 (by rw [← hz]; exact (hP k q hq).lt))).app (fun k q hq => ?_)
  have h0 : k < 1 := (List.getElem?_eq_some_iff.mp hq).1
  rw [show k = 0 by omega] at hq
  cases hq
  exact e1
theorem p_newz (hexec : p.tables.exec = Jvm.exec) (hb : c.code = cc) (harr : (Cond.arrayClass .boolean).before args s = true) (hK : va_K D vwCl (gtys cy) s) (hG : pG D cy B n E H0 h g H locs) (hk : gK n = 14) (he : E n = none) {x : Int32} {N : Nat} (hn : ¬ x < 0) (hN : x.toNatClampNeg = N) (hNn : gN n = N) (hbytes : N ≤ 100000) (hcells : cells + 1 ≤ R.cells) (hslots : slots + N ≤ R.slots) (hdg : decode cc pc = .ok (.newarray .boolean, 2))
    (kk : ∀ (H1 : Heap), pG D cy B (n + 1) E H0 (hua h n (fun _ => 0)) g H1 locs → W p l e R s m args below meth c H1 locs (cells + 1) (slots + N) Q (F0 m (pc + 2) ls (.ref (adB B n) :: rest))) : W p l e R s m args below meth c H locs cells slots Q (F0 m pc ls (.int x :: rest)) := by
  obtain ⟨hP, hS, hz⟩ := hG
  refine va_newaK hexec hb (atype := .boolean) harr rfl hdg rfl hn hN (by show N * 1 ≤ 536870912; omega) hcells hslots hz fun H1 cA e1 z1 o1 hAr hNm => ?_
  have hcA : cA = cy 2 := Option.some.inj (hNm.symm.trans (hK.2 2 _ rfl).2)
  subst hcA
  refine kk H1 ⟨?_, ⟨Nat.le_trans hS.1 (by omega), fun q h1 h2 => (o1 q (by have := hS.1; omega)).trans (hS.2.1 q h1 h2), hS.2.2⟩, by omega⟩
  rw [← pW_push (E := E) (h := h) (g := g) (x := .inl (cy 2, N, .inl (fun _ => 0))) (by rw [pE_none he, gE_za cy (adB B) _ g hk, hNn, hua_eq]) (fun q hq => by unfold pE; rw [gE_ne (hua_ne (by omega)) rfl])]
  refine (hP.kept (fun k q hq => o1 q.1 (by rw [← hz]; exact (hP k q hq).lt))).app (fun k q hq => ?_)
  have h0 : k < 1 := (List.getElem?_eq_some_iff.mp hq).1
  rw [show k = 0 by omega] at hq
  cases hq
  exact e1
end PROWS
