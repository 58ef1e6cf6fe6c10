section PROWS2
variable {p : Program} {l : Launch} {e : Env} {R : Room} {s : State} {m : MethodId} {args : Array Value} {below : List Frame} {meth : Method} {c : Code} {H : Heap} {locs : List Loc} {cells slots : Nat} {Q : State → Prop}
variable {cc : ByteArray} {pc : Nat} {ls : Array Slot} {rest : List Value} {D : va_G} {H0 : Heap} {cy : Nat → ClassId} {B n : Nat} {E : Nat → Option (List Value)} {h : HI} {g : HL}
/-- a field that may be written at any time: the cell alone, and that the heap keeps its size -/
theorem q_put (hexec : p.tables.exec = Jvm.exec) (hb : c.code = cc) {own C : String} {T : u_T} {N ci index : Nat} {Ts : List Cond} (hts : ∀ w ∈ Ts, w.before args s = true) (hin : ∀ w ∈ u_ws C T N, w ∈ Ts) (ty0 : Nat → FieldType) (hty : ∀ k, k < N → parseFieldDescriptor (T k).2.2.1 = some (ty0 k)) (hnm : ∀ a, a < N → ∀ b, b < N → a ≠ b → (T a).2.1 ≠ (T b).2.1) (hown : s.vm.findClass own = some m.cls) (hK : va_K D vwCl (gtys cy) s) (hc : vwCl[ci]? = some (C, T, N)) {a : Nat} {fs : List Value} (hat : va_at D vwCl (a, .inr (ci, fs)) H) (k : Nat) (hkN : k < N) (hl : k < fs.length) {ty : FieldType} {v : Value} (hd : parseFieldDescriptor (T k).2.2.1 = some ty) (hn : narrow ty v = v) (hfit : fits ty v = true) (hlink : (Cond.fieldLink own index (T k).1 (T k).2.1 (T k).2.2.1).before args s = true) (hwr : (T k).2.2.2 = false ∨ ((T k).2.2.2 = true ∧ meth.name = "<init>" ∧ (T k).1 = own)) (hdg : decode cc pc = .ok (.putfield index, 3))
    (kk : ∀ (H1 : Heap) (x : Nat), va_at D vwCl (a, .inr (ci, fs.set k v)) H1 → H1.size = H.size → (∀ q : Nat, q ≠ a → H1[q]? = H[q]?) → W p l e R s m args below meth c H1 (locs ++ [⟨a, x⟩]) cells slots Q (F0 m (pc + 3) ls rest)) : W p l e R s m args below meth c H locs cells slots Q (F0 m pc ls (v :: .ref a :: rest)) := by
  obtain ⟨r, h1, cell, q1, q2, q3, q4⟩ := hat
  obtain rfl : r = (C, T, N) := Option.some.inj (h1.symm.trans hc)
  have hap := va_apart (own := own) hts hin ty0 hty hnm hK hc
  obtain ⟨hS, hfc, kC, hkC, hkind⟩ := hK.1 ci _ hc
  obtain ⟨cf, kf, fi, f, hi, hsl⟩ := hS k hkN
  have hlay : (u_lay C T k).before args s = true := hts _ (hin _ (u_in_lay hkN))
  have hst := (u_facts hfc hkC (u_lays hts hin hkN) hi).1
  have hlt : f.slot < cell.slots.size := by rw [hsl]; exact k2_hasslot (q4 k hkN)
  have fin : ∀ H' : Heap, H'[a]? = some (cell.setSlot f.slot v) → va_at D vwCl (a, .inr (ci, fs.set k v)) H' := by
    intro H' e1
    rw [hsl] at e1
    exact ⟨_, hc, t_OB.to (V := updV (vp_V fs) k v) ⟨_, e1, q2, q3, t_set q4 hap hkN v⟩ (fun j _ => vp_updV_set hl v j)⟩
  unfold u_lay at hlay
  rcases hwr with hf | ⟨hf, hin2, hdecl⟩
  · rw [if_neg (by rw [hf]; decide)] at hlay
    exact W.putK hexec hb (f := f) ⟨hown, hlink, ⟨_, _, _, hi⟩, hst⟩ (by rw [q2]; exact u_store hfc hkC hkind hlay hi hd hn hfit) q1 q3 hlt rfl rfl hdg (fun H' e1 e2 e3 => kk H' _ (fin H' e1) e2 e3)
  · rw [if_pos hf] at hlay
    have hcf : m.cls = cf := by
      obtain ⟨_, _, c', _, _, _, -, -, hf', -, -, -, hown2, -⟩ := Cond.laysFinal_spec hlay
      have e1 : cf = c' := by have := hi.symm.trans hf'; simp at this; exact this.1
      rw [hdecl] at hown2
      rw [e1]
      exact Option.some.inj (hown.symm.trans hown2)
    exact W.putFinK hexec hb hown hlink hi hst hcf hin2 (by rw [q2]; exact u_fits hfc hkC hkind (Or.inr hlay) hi hd hn hfit) q1 q3 hlt rfl rfl hdg (fun H' e1 e2 e3 => kk H' _ (fin H' e1) e2 e3)
theorem pG_at (hG : pG D cy B n E H0 h g H locs) {o : Nat} (ho : o < n) : va_at D vwCl (adB B o, pE E cy (adB B) h g o) H := hG.1 o _ (pW_at ho)
/-- one cell of the world is another now -/
theorem pG_put {E' : Nat → Option (List Value)} {h' : HI} {g' : HL} {H1 : Heap} (hG : pG D cy B n E H0 h g H locs) {o x : Nat} (ho : o < n) (hat : va_at D vwCl (adB B o, pE E' cy (adB B) h' g' o) H1) (hne : ∀ q, q ≠ o → q < n → pE E' cy (adB B) h' g' q = pE E cy (adB B) h g q) (hz : H1.size = H.size) (hq : ∀ q : Nat, q ≠ adB B o → H1[q]? = H[q]?) : pG D cy B n E' H0 h' g' H1 (locs ++ [⟨adB B o, x⟩]) := by
  refine ⟨?_, hG.2.1.put hz hq (Nat.le_add_right B o), hz.trans hG.2.2⟩
  rw [← pW_set (E := E) (h := h) (g := g) rfl hne]
  exact hG.1.set pD (pW_at ho) hat hq
/-- a field of an unfinished object is written -/
theorem p_putE (hexec : p.tables.exec = Jvm.exec) (hb : c.code = cc) {own C : String} {T : u_T} {N ci index : Nat} {Ts : List Cond} (hts : ∀ w ∈ Ts, w.before args s = true) (hin : ∀ w ∈ u_ws C T N, w ∈ Ts) (ty0 : Nat → FieldType) (hty : ∀ k, k < N → parseFieldDescriptor (T k).2.2.1 = some (ty0 k)) (hnm : ∀ a, a < N → ∀ b, b < N → a ≠ b → (T a).2.1 ≠ (T b).2.1) (hown : s.vm.findClass own = some m.cls) (hK : va_K D vwCl (gtys cy) s) (hG : pG D cy B n E H0 h g H locs) {o : Nat} (ho : o < n) {fs : List Value} (he : E o = some fs) (hc : vwCl[ci]? = some (C, T, N)) (hk : gK o = ci) (k : Nat) (hkN : k < N) (hl : k < fs.length) {ty : FieldType} {v : Value} (hd : parseFieldDescriptor (T k).2.2.1 = some ty) (hn : narrow ty v = v) (hfit : fits ty v = true) (hlink : (Cond.fieldLink own index (T k).1 (T k).2.1 (T k).2.2.1).before args s = true) (hwr : (T k).2.2.2 = false ∨ ((T k).2.2.2 = true ∧ meth.name = "<init>" ∧ (T k).1 = own)) (hdg : decode cc pc = .ok (.putfield index, 3))
    (kk : ∀ (H1 : Heap) (locs1 : List Loc), pG D cy B n (eu E o (fs.set k v)) H0 h g H1 locs1 → W p l e R s m args below meth c H1 locs1 cells slots Q (F0 m (pc + 3) ls rest)) : W p l e R s m args below meth c H locs cells slots Q (F0 m pc ls (v :: .ref (adB B o) :: rest)) := by
  have hat := pG_at hG ho
  rw [pE_some he, hk] at hat
  refine q_put hexec hb hts hin ty0 hty hnm hown hK hc hat k hkN hl hd hn hfit hlink hwr hdg (fun H1 x e1 e2 e3 => kk H1 _ (pG_put hG ho ?_ (fun q hq _ => by unfold pE; rw [eu_ne hq]) e2 e3))
  rw [pE_some eu_eq, hk]
  exact e1
/-- an int field of a finished object is written -/
theorem p_put (hexec : p.tables.exec = Jvm.exec) (hb : c.code = cc) {own C : String} {T : u_T} {N ci index : Nat} {Ts : List Cond} (hts : ∀ w ∈ Ts, w.before args s = true) (hin : ∀ w ∈ u_ws C T N, w ∈ Ts) (ty0 : Nat → FieldType) (hty : ∀ k, k < N → parseFieldDescriptor (T k).2.2.1 = some (ty0 k)) (hnm : ∀ a, a < N → ∀ b, b < N → a ≠ b → (T a).2.1 ≠ (T b).2.1) (hown : s.vm.findClass own = some m.cls) (hK : va_K D vwCl (gtys cy) s) (hG : pG D cy B n E H0 h g H locs) {o : Nat} (ho : o < n ∧ E o = none) (hc : vwCl[ci]? = some (C, T, N)) (hk : gK o = ci) (hci : ci < 12) (k : Nat) (hkN : k < N) (hkM : k < gM o) (hr : gR o k = none) {v : Int32} (hfin : (T k).2.2.2 = false) {ty : FieldType} (hd : parseFieldDescriptor (T k).2.2.1 = some ty) (hn : narrow ty (.int v) = .int v) (hfit : fits ty (.int v) = true) (hlink : (Cond.fieldLink own index (T k).1 (T k).2.1 (T k).2.2.1).before args s = true) (hdg : decode cc pc = .ok (.putfield index, 3))
    (kk : ∀ (H1 : Heap) (locs1 : List Loc), pG D cy B n E H0 (hu h o k v) g H1 locs1 → W p l e R s m args below meth c H1 locs1 cells slots Q (F0 m (pc + 3) ls rest)) : W p l e R s m args below meth c H locs cells slots Q (F0 m pc ls (.int v :: .ref (adB B o) :: rest)) := by
  have hat := pG_at hG ho.1
  rw [pE_none ho.2, gE_obj cy (adB B) h g hk hci] at hat
  refine q_put hexec hb hts hin ty0 hty hnm hown hK hc hat k hkN (by rw [gF_len]; exact hkM) hd hn hfit hlink (Or.inl hfin) hdg (fun H1 x e1 e2 e3 => kk H1 _ (pG_put hG ho.1 ?_ (fun q hq _ => by unfold pE; rw [gE_ne (hu_ne hq) rfl]) e2 e3))
  rw [pE_none ho.2, gE_obj cy (adB B) _ g hk hci, ← gF_put hr]
  exact e1
theorem p_iast (hexec : p.tables.exec = Jvm.exec) (hb : c.code = cc) (hK : va_K D vwCl (gtys cy) s) (hG : pG D cy B n E H0 h g H locs) {o : Nat} (ho : o < n ∧ E o = none) (hk : gK o = 12) {N : Nat} (hn : gN o = N) {i x : Int32} (hin : vp_in i N) (hdg : decode cc pc = .ok (.iastore, 1)) (kk : ∀ (H1 : Heap) (locs1 : List Loc), pG D cy B n E H0 (hu h o i.toNatClampNeg x) g H1 locs1 → W p l e R s m args below meth c H1 locs1 cells slots Q (F0 m (pc + 1) ls rest)) : W p l e R s m args below meth c H locs cells slots Q (F0 m pc ls (.int x :: .int i :: .ref (adB B o) :: rest)) := by
  have hat := pG_at hG ho.1
  rw [pE_none ho.2, gE_ia cy (adB B) h g hk] at hat
  subst hn
  refine W.iast hexec hb hat ((hK.2 0 _ rfl).1 (gN o) (fun j => .int (h o j))) (fun q => by cases q) (by show ¬ (i < 0 ∨ (arrV _ _ _).slots.size ≤ _); rw [arrV_size]; exact hin) rfl rfl hdg fun H1 e1 e2 e3 => ?_
  refine kk H1 _ (pG_put hG ho.1 ?_ (fun q hq _ => by unfold pE; rw [gE_ne (hu_ne hq) rfl]) e2 e3)
  rw [pE_none ho.2, gE_ia cy (adB B) _ g hk, hu_eq]
  show H1[adB B o]? = some (vp_cell _ _)
  rw [e1, vp_cell_i, vp_cell_i, arrV_store]
  refine congrArg (fun f => some (arrV (cy 0) (gN o) f)) (funext fun q => ?_)
  by_cases hq : q = i.toNatClampNeg
  · subst hq
    simp [updV, upd]
  · simp [updV, upd, hq]
end PROWS2
