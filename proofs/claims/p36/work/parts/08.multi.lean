/-- a class of arrays over int[] is there -/
def gAO (U : State) : Prop := (Cond.arrayOver (.array .int)).before #[] U = true
theorem gAO.moved {u U : State} (hvm : u.vm.Alike U.vm) (h : gAO u) : gAO U := by
  unfold gAO Cond.before Cond.holds at h ⊢
  simp only [Cond.value] at h ⊢
  rw [hvm.findClass]
  rw [← h]
  congr 2
  funext comp
  rw [hvm.findIdx_eqC _ (fun k => rfl)]
  congr 1
  funext c
  rw [hvm.findClass]
  exact (hvm.class_map _ (fun _ _ _ _ => rfl) c)
theorem arrV_congr {c : ClassId} {N : Nat} {f f' : Nat → Value} (h : ∀ j, j < N → f j = f' j) : arrV c N f = arrV c N f' := by
  unfold arrV
  congr 1
  apply Array.ext
  · simp
  · intro i h1 h2
    simp only [Array.getElem_ofFn]
    exact h i (by simpa using h1)
theorem outer_arrV (c : ClassId) (N h0 : Nat) : ∀ i : Nat, Jvm.Free.Multi.outerC c N h0 i = arrV c N (fun j => if j < i then .ref (h0 + 1 + j) else .null)
  | 0 => by
    show ({ cls := c, slots := Array.replicate N .null, vm := .none } : Cell) = _
    rw [arrV_new]
    exact arrV_congr (fun j _ => by simp)
  | i + 1 => by
    show (Jvm.Free.Multi.outerC c N h0 i).setSlot i (.ref (h0 + 1 + i)) = _
    rw [outer_arrV c N h0 i, arrV_store]
    refine arrV_congr (fun j _ => ?_)
    by_cases e : j = i
    · subst e
      simp [updV]
    · by_cases h : j < i
      · simp [updV, e, h, Nat.lt_succ_of_lt h]
      · simp [updV, e, h, show ¬ j < i + 1 by omega]
section PMNA
variable {p : Program} {l : Launch} {e : Env} {R : Room} {s : State} {m : MethodId} {args : Array Value} {below : List Frame} {meth : Method} {c : Code} {H : Heap} {locs : List Loc} {cells slots : Nat} {Q : State → Prop}
variable {cc : ByteArray} {pc : Nat} {ls : Array Slot} {rest : List Value} {D : va_G} {H0 : Heap} {cy : Nat → ClassId} {B n : Nat} {E : Nat → Option (List Value)} {h : HI} {g : HL}
/-- h, but 0 in the N objects behind n -/
def hz (h : HI) (n N : Nat) : HI := fun q => if n < q ∧ q ≤ n + N then (fun _ => 0) else h q
theorem p_mna (hexec : p.tables.exec = Jvm.exec) (hb : c.code = cc) {own : String} {index : Nat} (hown : s.vm.findClass own = some m.cls) (hclink : (Cond.classLink own index ("[" ++ (FieldType.array .int).toString)).before args s = true) (hover : gAO s) (harr : (Cond.arrayClass .int).before args s = true) (hK : va_K D vwCl (gtys cy) s) (hG : pG D cy B n E H0 h g H locs) {N K : Nat} (hk : gK n = 15) (hN : gN n = N) (hrow : ∀ j, j < N → gR n j = some (n + 1 + j) ∧ gK (n + 1 + j) = 12 ∧ gN (n + 1 + j) = K) (hE : ∀ q, n ≤ q → E q = none) {x y : Int32} (hx : ¬ x < 0) (hy : ¬ y < 0) (hxN : x.toNatClampNeg = N) (hyK : y.toNatClampNeg = K) (hbn : N ≤ 100) (hbk : K ≤ 100000) (hcells : cells + (1 + N) ≤ R.cells) (hslots : slots + (N + N * K) ≤ R.slots) (hdg : decode cc pc = .ok (.multianewarray index 2, 4))
    (kk : ∀ (H1 : Heap), pG D cy B (n + 1 + N) E H0 (hz h n N) g H1 locs → W p l e R s m args below meth c H1 locs (cells + 1 + N) (slots + N + N * K) Q (F0 m (pc + 4) ls (.ref (adB B n) :: rest))) : W p l e R s m args below meth c H locs cells slots Q (F0 m pc ls (.int y :: .int x :: rest)) := by
  subst hxN
  subst hyK
  intro T hT Xs
  obtain ⟨vm₁, cA, comp, -, fA, fC, hO, -, X', step⟩ := Xs.multianewarray2F hexec hown hclink hover harr (g := F0 m pc ls (.int y :: .int x :: rest)) rfl (by rw [hb]; exact hdg) rfl hx hy (by omega) (by show y.toNatClampNeg * 4 ≤ 536870912; omega) (by omega) rfl rfl hcells hslots
  have hcA : cA = cy 3 := Option.some.inj (fA.symm.trans (hK.2 3 _ rfl).2)
  have hcI : comp = cy 0 := Option.some.inj (fC.symm.trans (hK.2 0 _ rfl).2)
  subst hcA
  subst hcI
  generalize hF : Jvm.Free.Multi.fill (T.setVm vm₁) (cy 3) (cy 0) x.toNatClampNeg y.toNatClampNeg (defaultValue .int) x.toNatClampNeg = F at X' step
  have hTh : (T.setVm vm₁).heap = H := hT
  have hsz : H.size = B + n := hG.2.2
  obtain ⟨f1, f2, -, -⟩ := Jvm.Free.Multi.fill_facts (T.setVm vm₁) (cy 3) (cy 0) x.toNatClampNeg y.toNatClampNeg (defaultValue .int) x.toNatClampNeg
  rw [hF, hTh] at f1 f2
  have hold : ∀ q : Nat, q < H.size → F.heap[q]? = H[q]? := fun q hq => by
    have := Jvm.Free.Multi.fill_old (T.setVm vm₁) (cy 3) (cy 0) x.toNatClampNeg y.toNatClampNeg (defaultValue .int) (a := q) (by rw [hTh]; exact hq) x.toNatClampNeg
    rw [hF, hTh] at this
    exact this
  have hin : ∀ j : Nat, j < x.toNatClampNeg → F.heap[H.size + 1 + j]? = some (vp_cell (cy 0) (y.toNatClampNeg, .inl (fun _ => 0))) := fun j hj => by
    have := Jvm.Free.Multi.fill_inner (T.setVm vm₁) (cy 3) (cy 0) x.toNatClampNeg y.toNatClampNeg (defaultValue .int) x.toNatClampNeg j hj
    rw [hF, hTh] at this
    rw [this]
    show some ({ cls := cy 0, slots := Array.replicate y.toNatClampNeg (.int 0), vm := .none } : Cell) = _
    rw [arrV_new]
    rfl
  rw [outer_arrV] at f2
  have hPn : va_P D vwCl (pW (n + 1 + x.toNatClampNeg) E cy (adB B) (hz h n x.toNatClampNeg) g) F.heap := by
    intro k q hq
    have hkn : k < n + 1 + x.toNatClampNeg := by
      have := (List.getElem?_eq_some_iff.mp hq).1
      rw [pW_len] at this
      exact this
    rw [pW_at hkn] at hq
    cases hq
    rcases Nat.lt_trichotomy k n with hlt | heq | hgt
    · have h0 := pG_at hG hlt
      have e1 : pE E cy (adB B) (hz h n x.toNatClampNeg) g k = pE E cy (adB B) h g k := by
        unfold pE
        rw [gE_ne (if_neg (by omega)) rfl]
      rw [e1]
      exact h0.kept (hold _ h0.lt)
    · subst heq
      rw [pE_none (hE k (Nat.le_refl k)), gE_oa cy (adB B) _ g hk, hN]
      show F.heap[B + k]? = some (vp_cell _ _)
      rw [← hsz, f2, vp_cell_q]
      congr 1
      refine arrV_congr (fun j hj => ?_)
      rw [if_pos hj, (hrow j hj).1]
      exact congrArg Value.ref (show H.size + 1 + j = B + (k + 1 + j) by omega)
    · obtain ⟨j, rfl⟩ : ∃ j, k = n + 1 + j := ⟨k - n - 1, by omega⟩
      have hj : j < x.toNatClampNeg := by omega
      rw [pE_none (hE _ (by omega)), gE_ia cy (adB B) _ g (hrow j hj).2.1, (hrow j hj).2.2]
      have e2 : hz h n x.toNatClampNeg (n + 1 + j) = fun _ => 0 := if_pos (by omega)
      rw [e2]
      show F.heap[B + (n + 1 + j)]? = _
      rw [show B + (n + 1 + j) = H.size + 1 + j by omega]
      exact hin j hj
  obtain ⟨t, a1, b1⟩ := kk F.heap ⟨hPn, ⟨Nat.le_trans hG.2.1.1 (by omega), fun q h1 h2 => (hold q (Nat.lt_of_lt_of_le h1 hG.2.1.1)).trans (hG.2.1.2.1 q h1 h2), hG.2.1.2.2⟩, by rw [f1]; omega⟩ F rfl X'
  refine ⟨t, step t ?_, b1⟩
  have ea : T.heap.size = adB B n := by rw [hT]; exact hsz
  rw [ea]
  exact a1
end PMNA
