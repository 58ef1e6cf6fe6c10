/-! CALLS WHILE THE CONSTRUCTORS RUN -/
abbrev pA (B : Nat) : Nat → Prop := fun q => B ≤ q
def pI (D : va_G) (cy : Nat → ClassId) (B n : Nat) (E : Nat → Option (List Value)) (h : HI) (g : HL) : State → Prop := fun U => va_P D vwCl (pW n E cy (adB B) h g) U.heap ∧ U.heap.size = B + n ∧ va_K D vwCl (gtys cy) U ∧ gNw U ∧ gAO U
def pB (D : va_G) (cy : Nat → ClassId) (B n : Nat) (E : Nat → Option (List Value)) : HI × HL → State → Prop := fun u t => va_P D vwCl (pW n E cy (adB B) u.1 u.2) t.heap ∧ t.heap.size = B + n
theorem pI_blind {D : va_G} {cy : Nat → ClassId} {B n : Nat} {E : Nat → Option (List Value)} {h : HI} {g : HL} {av : List Value} : FrameBlind (va_Pc av (pI D cy B n E h g)) := by
  intro a U g0 mk q
  obtain ⟨q0, qP, q1, qK, qN, qA⟩ := q
  exact ⟨q0, qP, q1, va_K.moved (u := U) (U := U.calling g0 mk a) (Vm.Alike.refl U.vm) qK, gNw.same (u := U) (U := U.calling g0 mk a) rfl qN, gAO.moved (u := U) (U := U.calling g0 mk a) (Vm.Alike.refl U.vm) qA⟩
section PCALLS
variable {p : Program} {l : Launch} {e : Env} {R : Room} {s : State} {m : MethodId} {args : Array Value} {below : List Frame} {meth : Method} {c : Code} {H : Heap} {locs : List Loc} {cells slots mc ms : Nat} {Q : State → Prop}
variable {cc : ByteArray} {pc : Nat} {ls : Array Slot} {rest st0 : List Value} {D : va_G} {H0 : Heap} {cy : Nat → ClassId} {B n n' : Nat} {E E' : Nat → Option (List Value)} {h : HI} {g : HL}
variable {y : MethodName} {bytes : ByteArray} {maxL nL na index : Nat} {ret : Option FieldType} {ws : List Cond} {rm : Room} {Qc : Array Value → State → Outcome → State → Prop} {Ts : List Cond} {own C : String}
theorem p_B {t : State} (ht : t.heap = H) (hG : pG D cy B n E H0 h g H locs) : pB D cy B n E (h, g) t := ⟨by rw [ht]; exact hG.1, by rw [ht]; exact hG.2.2⟩
theorem pI_start {av : List Value} (hK : va_K D vwCl (gtys cy) s) (hNw : gNw s) (hAO : gAO s) (hG : pG D cy B n E H0 h g H locs) : ∀ U : State, U.heap = H → s.WarmedH U.vm → va_Pc av (pI D cy B n E h g) av.toArray U :=
  fun U hU hW => ⟨rfl, by rw [hU]; exact hG.1, by rw [hU]; exact hG.2.2, va_K.moved hW.alike hK, hNw.warm hW, hAO.moved hW.alike⟩
theorem p_runV {As : List Value} {T : u_T} {N ci o : Nat} (S : CallFix p m c cc nL s args Ts own) (hM : Met l y ws rm (va_Pc (.ref (adB B o) :: As) (pI D cy B n E h g)) Qc mc ms (pA B)) (cw : CallW R s args own C index y bytes maxL ret ws rm mc ms na) (hK : va_K D vwCl (gtys cy) s) (hNw : gNw s) (hAO : gAO s) (hG : pG D cy B n E H0 h g H locs) (ho : o < n ∧ E o = none) (hc : vwCl[ci]? = some (C, T, N)) (hk : gK o = ci) (hci : ci < 12) (hst : st0 = As.reverse ++ .ref (adB B o) :: rest) (hn : As.length = na) (hsize : ls.size = nL) (hg : (F0 m pc ls st0).method = m) (hW : 2 * (F0 m pc ls st0).monitorRoom + (rest.map fun v => v.category).sum ≤ 8) (hdg : decode cc pc = .ok (.invokevirtual index, 3)) (hf : cells + mc ≤ R.cells ∧ slots + ms ≤ R.slots) :
    va_Run p l e R s m args below meth c H locs cells slots mc ms (F0 m pc ls st0) rest (Qc (Value.ref (adB B o) :: As).toArray) (pA B) :=
  va_runV (As := As) (rest := rest) S hM cw ⟨pI_blind, va_recv (q := (C, T, N)) hK hG.1 hc (q0 := o) (fs := gF (adB B) h o) (by rw [pW_at ho.1, pE_none ho.2, gE_obj cy (adB B) h g hk hci]), pI_start hK hNw hAO hG⟩ hg hn hsize hst hW hdg hf
theorem p_runS {As : List Value} (S : CallFix p m c cc nL s args Ts own) (hM : Met l y ws rm (va_Pc As (pI D cy B n E h g)) Qc mc ms (pA B)) (cw : CallB R s args own index y bytes maxL ret ws rm mc ms na ∧ (Cond.static y).before args s = true) (hK : va_K D vwCl (gtys cy) s) (hNw : gNw s) (hAO : gAO s) (hG : pG D cy B n E H0 h g H locs) (hst : st0 = As.reverse ++ rest) (hn : As.length = na) (hsize : ls.size = nL) (hg : (F0 m pc ls st0).method = m) (hW : 2 * (F0 m pc ls st0).monitorRoom + (rest.map fun v => v.category).sum ≤ 8) (hdg : decode cc pc = .ok (.invokestatic index, 3)) (hf : cells + mc ≤ R.cells ∧ slots + ms ≤ R.slots) :
    va_Run p l e R s m args below meth c H locs cells slots mc ms (F0 m pc ls st0) rest (Qc As.toArray) (pA B) :=
  va_runS (As := As) (rest := rest) S hM cw ⟨pI_blind, pI_start hK hNw hAO hG⟩ hg hn hsize hst hW hdg hf
theorem p_runI {As : List Value} {o : Nat} (S : CallFix p m c cc nL s args Ts own) (hM : Met l y ws rm (va_Pc (.ref (adB B o) :: As) (pI D cy B n E h g)) Qc mc ms (pA B)) (cw : CallB R s args own index y bytes maxL none ws rm mc ms na ∧ y.name = "<init>" ∧ (Cond.instanceMethod y).before args s = true) (hK : va_K D vwCl (gtys cy) s) (hNw : gNw s) (hAO : gAO s) (hG : pG D cy B n E H0 h g H locs) (hst : st0 = As.reverse ++ .ref (adB B o) :: rest) (hn : As.length = na) (hsize : ls.size = nL) (hg : (F0 m pc ls st0).method = m) (hW : 2 * (F0 m pc ls st0).monitorRoom + (rest.map fun v => v.category).sum ≤ 8) (hdg : decode cc pc = .ok (.invokespecial index, 3)) (hf : cells + mc ≤ R.cells ∧ slots + ms ≤ R.slots) :
    va_Run p l e R s m args below meth c H locs cells slots mc ms (F0 m pc ls st0) rest (Qc (Value.ref (adB B o) :: As).toArray) (pA B) :=
  va_runI (As := As) (rest := rest) S hM cw ⟨pI_blind, pI_start hK hNw hAO hG⟩ hg hn hsize hst hW hdg hf
theorem p_runIN {As : List Value} {o : Nat} {host : String} (S : CallFix p m c cc nL s args Ts own) (hM : Met l y ws rm (va_Pc (.ref (adB B o) :: As) (pI D cy B n E h g)) Qc mc ms (pA B)) (cw : va_CN R s args own index y host bytes maxL none ws rm mc ms na ∧ y.name = "<init>" ∧ (Cond.instanceMethod y).before args s = true) (hK : va_K D vwCl (gtys cy) s) (hNw : gNw s) (hAO : gAO s) (hG : pG D cy B n E H0 h g H locs) (hst : st0 = As.reverse ++ .ref (adB B o) :: rest) (hn : As.length = na) (hsize : ls.size = nL) (hg : (F0 m pc ls st0).method = m) (hW : 2 * (F0 m pc ls st0).monitorRoom + (rest.map fun v => v.category).sum ≤ 8) (hdg : decode cc pc = .ok (.invokespecial index, 3)) (hf : cells + mc ≤ R.cells ∧ slots + ms ≤ R.slots) :
    va_Run p l e R s m args below meth c H locs cells slots mc ms (F0 m pc ls st0) rest (Qc (Value.ref (adB B o) :: As).toArray) (pA B) :=
  va_runIN (As := As) (rest := rest) S hM cw ⟨pI_blind, pI_start hK hNw hAO hG⟩ hg hn hsize hst hW hdg hf
variable {a : Array Value}
theorem p_next {u : HI × HL} {t : State} {H1 : Heap} {locs1 : List Loc} (ht : t.heap = H1) (hb : pB D cy B n' E' u t) (hS : va_S (pA B) H0 H1 locs1) : pG D cy B n' E' H0 u.1 u.2 H1 locs1 := ⟨by rw [← ht]; exact hb.1, hS, by rw [← ht]; exact hb.2⟩
theorem p_callv {P : HI → HL → Prop} (hr : va_Run p l e R s m args below meth c H locs cells slots mc ms (F0 m pc ls st0) rest (va_Qv (fun (u : HI × HL) => P u.1 u.2) (pB D cy B n' E') (pA B) a) (pA B)) (hG : pG D cy B n E H0 h g H locs)
    (kk : ∀ (h1 : HI) (g1 : HL) (H1 : Heap) (locs1 : List Loc), P h1 g1 → pG D cy B n' E' H0 h1 g1 H1 locs1 → W p l e R s m args below meth c H1 locs1 (cells + mc) (slots + ms) Q (F0 m (pc + 3) ls rest)) : W p l e R s m args below meth c H locs cells slots Q (F0 m pc ls st0) :=
  va_callv hr hG.2.1 (fun q _ h => h) (fun q h => h) (fun u t H1 locs1 ht _ hp hb _ _ hS => kk u.1 u.2 H1 locs1 hp (p_next ht hb hS))
theorem p_calli {P : Int32 → HI → HL → Prop} (hr : va_Run p l e R s m args below meth c H locs cells slots mc ms (F0 m pc ls st0) rest (va_Qi (fun (r : Int32) (u : HI × HL) => P r u.1 u.2) (pB D cy B n' E') (pA B) a) (pA B)) (hG : pG D cy B n E H0 h g H locs)
    (kk : ∀ (r : Int32) (h1 : HI) (g1 : HL) (H1 : Heap) (locs1 : List Loc), P r h1 g1 → pG D cy B n' E' H0 h1 g1 H1 locs1 → W p l e R s m args below meth c H1 locs1 (cells + mc) (slots + ms) Q (F0 m (pc + 3) ls (.int r :: rest))) : W p l e R s m args below meth c H locs cells slots Q (F0 m pc ls st0) :=
  va_calli hr hG.2.1 (fun q _ h => h) (fun q h => h) (fun r u t H1 locs1 ht _ hp hb _ _ hS => kk r u.1 u.2 H1 locs1 hp (p_next ht hb hS))
/-- a constructor's end: 'this' is finished; its ints go into h -/
theorem pG_done {o : Nat} {fs : List Value} {f : Nat → Int32} (hG : pG D cy B n (eu E o fs) H0 h g H locs) (he : E o = none) (hk : gK o < 12) (hfs : fs = gF (adB B) (hua h o f) o) : pG D cy B n E H0 (hua h o f) g H locs := by
  refine ⟨?_, hG.2.1, hG.2.2⟩
  rw [← pW_eq (E := eu E o fs) (h := h) (g := g) (fun q _ => ?_)]
  · exact hG.1
  · by_cases hq : q = o
    · subst hq
      rw [pE_some eu_eq, pE_none he, gE_obj cy (adB B) _ g rfl hk, ← hfs]
    · unfold pE
      rw [eu_ne hq, gE_ne (hua_ne hq) rfl]
end PCALLS
