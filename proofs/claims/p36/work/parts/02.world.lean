/-! THE PURE HEAP: the objects of the class and of the reference by number, in the order in which their constructors make them; what they hold: h (ints), g (longs) -/
abbrev HI : Type := Nat → Nat → Int32
abbrev HL : Type := Nat → Nat → Int64
/-- h, but v at place k of object o -/
def hu (h : HI) (o k : Nat) (v : Int32) : HI := fun q => if q = o then upd (h o) k v else h q
def hul (g : HL) (o k : Nat) (v : Int64) : HL := fun q => if q = o then vp_updL (g o) k v else g q
def hua (h : HI) (o : Nat) (f : Nat → Int32) : HI := fun q => if q = o then f else h q
/-- kinds: 0 .. 11 as in vwCl; 12 int[], 13 long[], 14 boolean[], 15 int[][] -/
def gKL : List Nat := [10, 6, 8, 12, 8, 12, 8, 12, 8, 12, 8, 12, 8, 12, 8, 12, 8, 12, 8, 12, 8, 12, 8, 12, 8, 12, 6, 8, 12, 8, 12, 8, 12, 8, 12, 8, 12, 8, 12, 8, 12, 8, 12, 8, 12, 8, 12, 8, 12, 8, 12, 6, 8, 12, 8, 12, 8, 12, 8, 12, 8, 12, 8, 12, 8, 12, 8, 12, 8, 12, 8, 12, 8, 12, 8, 12, 14, 4, 12, 12, 13, 7, 12, 12, 12, 2, 12, 12, 12, 9, 15, 12, 12, 15, 12, 12, 12, 3, 15, 12, 12, 12, 12, 12, 12, 12, 12, 12, 12, 1, 0, 12, 0, 12, 0, 12, 0, 12, 5, 12, 12, 12, 12, 12, 12, 15, 12, 12, 12, 12, 12, 12, 12, 12, 12, 11, 12, 12, 14, 12, 12, 12, 13, 12, 12, 12, 12, 12, 12]
def gNL : List Nat := [0, 0, 0, 120, 0, 12, 0, 360, 0, 240, 0, 32, 0, 6, 0, 27, 0, 2, 0, 80, 0, 6, 0, 4, 0, 60, 0, 0, 120, 0, 12, 0, 360, 0, 240, 0, 32, 0, 6, 0, 27, 0, 2, 0, 80, 0, 6, 0, 4, 0, 60, 0, 0, 120, 0, 12, 0, 360, 0, 240, 0, 32, 0, 6, 0, 27, 0, 2, 0, 80, 0, 6, 0, 4, 0, 60, 2, 0, 60, 60, 60, 0, 60, 60, 60, 0, 6, 6, 6, 0, 2, 3001, 3001, 2, 3000, 3000, 2, 0, 7, 512, 512, 512, 512, 512, 512, 512, 512, 4, 4, 0, 0, 70, 0, 70, 0, 70, 0, 70, 0, 16, 16, 12, 256, 16, 8, 9, 256, 256, 256, 256, 256, 256, 256, 256, 256, 0, 887, 1774, 2, 70, 70, 70, 70, 18006, 6, 6, 400, 5, 36864]
def gRL : List (List (Option Nat)) := [[some 1, some 26, some 51, some 76, some 77, some 81, some 85, some 89, some 97, some 109, some 118], [some 2, some 4, some 6, some 8, some 10, some 12, some 14, some 16, some 18, some 20, some 22, some 24], [some 3, none, none, none], [], [some 5, none, none, none], [], [some 7, none, none, none], [], [some 9, none, none, none], [], [some 11, none, none, none], [], [some 13, none, none, none], [], [some 15, none, none, none], [], [some 17, none, none, none], [], [some 19, none, none, none], [], [some 21, none, none, none], [], [some 23, none, none, none], [], [some 25, none, none, none], [], [some 27, some 29, some 31, some 33, some 35, some 37, some 39, some 41, some 43, some 45, some 47, some 49], [some 28, none, none, none], [], [some 30, none, none, none], [], [some 32, none, none, none], [], [some 34, none, none, none], [], [some 36, none, none, none], [], [some 38, none, none, none], [], [some 40, none, none, none], [], [some 42, none, none, none], [], [some 44, none, none, none], [], [some 46, none, none, none], [], [some 48, none, none, none], [], [some 50, none, none, none], [], [some 52, some 54, some 56, some 58, some 60, some 62, some 64, some 66, some 68, some 70, some 72, some 74], [some 53, none, none, none], [], [some 55, none, none, none], [], [some 57, none, none, none], [], [some 59, none, none, none], [], [some 61, none, none, none], [], [some 63, none, none, none], [], [some 65, none, none, none], [], [some 67, none, none, none], [], [some 69, none, none, none], [], [some 71, none, none, none], [], [some 73, none, none, none], [], [some 75, none, none, none], [], [], [some 1, some 78, some 79, some 80, none, none, none, none, none, none], [], [], [], [some 1, some 77, some 82, some 83, some 84, none, none, none, none, none, none, none], [], [], [], [some 1, some 77, some 81, some 86, some 87, some 88, none, none, none, none], [], [], [], [some 1, some 90, some 93, some 96, none, none, none], [some 91, some 92], [], [], [some 94, some 95], [], [], [], [some 1, some 98, some 106, some 107, some 108, none], [some 99, some 100, some 101, some 102, some 103, some 104, some 105], [], [], [], [], [], [], [], [], [], [], [some 1, some 110, some 112, some 114, some 116, none, none], [some 111, none], [], [some 113, none], [], [some 115, none], [], [some 117, none], [], [some 1, some 119, some 120, some 121, some 122, some 123, some 124, some 125, none, none, none], [], [], [], [], [], [], [some 126, some 127, some 128, some 129, some 130, some 131, some 132, some 133, some 134], [], [], [], [], [], [], [], [], [], [some 136, some 137, some 138, none, some 139, some 140, none, some 141, some 142, none, none, none, none, none, none, none, none, none, none, none, some 143, some 144, some 145, some 146, some 147, some 148], [], [], [], [], [], [], [], [], [], [], [], [], []]
def gML : List Nat := [2, 7, 10, 6, 10, 11, 12, 12, 4, 7, 11, 26]
def gK (o : Nat) : Nat := gKL.getD o 99
def gN (o : Nat) : Nat := gNL.getD o 0
def gR (o k : Nat) : Option Nat := (gRL.getD o []).getD k none
def gM (o : Nat) : Nat := gML.getD (gK o) 0
def gO : Nat := 149
def gF (ad : Nat → Nat) (h : HI) (o : Nat) : List Value := (List.range (gM o)).map (fun k => match gR o k with | some r => .ref (ad r) | none => .int (h o k))
def gE (cy : Nat → ClassId) (ad : Nat → Nat) (h : HI) (g : HL) (o : Nat) : va_E :=
  if gK o = 12 then .inl (cy 0, gN o, .inl (h o)) else if gK o = 13 then .inl (cy 1, gN o, .inr (.inl (g o))) else if gK o = 14 then .inl (cy 2, gN o, .inl (h o)) else if gK o = 15 then .inl (cy 3, gN o, .inr (.inr (.inr (.inr (fun j => (gR o j).map ad))))) else .inr (gK o, gF ad h o)
def gW (cy : Nat → ClassId) (ad : Nat → Nat) (h : HI) (g : HL) : va_W := (List.range gO).map (fun o => (ad o, gE cy ad h g o))
abbrev gtys (cy : Nat → ClassId) : List (ClassId × FieldType) := [(cy 0, .int), (cy 1, .long), (cy 2, .boolean), (cy 3, .array .int)]
def gA (ad : Nat → Nat) (sz : Nat) : Nat → Prop := fun q => (∃ o, o < gO ∧ q = ad o) ∨ sz ≤ q
theorem gA.le {ad : Nat → Nat} {a b : Nat} (hab : a ≤ b) : ∀ q, gA ad b q → gA ad a q := fun q h => h.elim Or.inl (fun h => Or.inr (Nat.le_trans hab h))
theorem gW_len (cy : Nat → ClassId) (ad : Nat → Nat) (h : HI) (g : HL) : (gW cy ad h g).length = gO := by simp [gW]
theorem gW_at (cy : Nat → ClassId) (ad : Nat → Nat) (h : HI) (g : HL) {o : Nat} (ho : o < gO) : (gW cy ad h g)[o]? = some (ad o, gE cy ad h g o) := by
  unfold gW
  rw [List.getElem?_map, List.getElem?_range ho]
  rfl
theorem gW_set (cy : Nat → ClassId) (ad : Nat → Nat) {h h' : HI} {g g' : HL} {o : Nat} {x : va_E} (hx : gE cy ad h' g' o = x) (hne : ∀ q, q ≠ o → gE cy ad h' g' q = gE cy ad h g q) : (gW cy ad h g).set o (ad o, x) = gW cy ad h' g' := by
  apply List.ext_getElem?
  intro i
  by_cases hi : i < gO
  · rw [gW_at cy ad h' g' hi]
    by_cases e : o = i
    · subst e
      rw [List.getElem?_set_self (by rw [gW_len]; exact hi), hx]
    · rw [List.getElem?_set_ne e, gW_at cy ad h g hi, hne i (fun q => e q.symm)]
  · rw [List.getElem?_eq_none (by rw [List.length_set, gW_len]; omega), List.getElem?_eq_none (by rw [gW_len]; omega)]
theorem gE_ne {cy : Nat → ClassId} {ad : Nat → Nat} {h h' : HI} {g g' : HL} {q : Nat} (e1 : h' q = h q) (e2 : g' q = g q) : gE cy ad h' g' q = gE cy ad h g q := by
  unfold gE gF
  rw [e1, e2]
theorem gE_obj (cy : Nat → ClassId) (ad : Nat → Nat) (h : HI) (g : HL) {o ci : Nat} (hk : gK o = ci) (hci : ci < 12) : gE cy ad h g o = .inr (ci, gF ad h o) := by
  unfold gE
  rw [if_neg (by omega), if_neg (by omega), if_neg (by omega), if_neg (by omega), hk]
theorem gF_at {ad : Nat → Nat} {h : HI} {o k : Nat} (hk : k < gM o) : (gF ad h o)[k]? = some (match gR o k with | some r => .ref (ad r) | none => .int (h o k)) := by
  unfold gF
  rw [List.getElem?_map, List.getElem?_range hk]
  rfl
theorem gF_len {ad : Nat → Nat} {h : HI} {o : Nat} : (gF ad h o).length = gM o := by simp [gF]
theorem hu_ne {h : HI} {o k : Nat} {v : Int32} {q : Nat} (e : q ≠ o) : hu h o k v q = h q := if_neg e
theorem hu_eq {h : HI} {o k : Nat} {v : Int32} : hu h o k v o = upd (h o) k v := if_pos rfl
theorem hul_ne {g : HL} {o k : Nat} {v : Int64} {q : Nat} (e : q ≠ o) : hul g o k v q = g q := if_neg e
theorem hul_eq {g : HL} {o k : Nat} {v : Int64} : hul g o k v o = vp_updL (g o) k v := if_pos rfl
theorem hua_ne {h : HI} {o : Nat} {f : Nat → Int32} {q : Nat} (e : q ≠ o) : hua h o f q = h q := if_neg e
theorem hua_eq {h : HI} {o : Nat} {f : Nat → Int32} : hua h o f o = f := if_pos rfl
theorem gF_put {ad : Nat → Nat} {h : HI} {o k : Nat} {v : Int32} (hr : gR o k = none) : (gF ad h o).set k (.int v) = gF ad (hu h o k v) o := by
  apply List.ext_getElem?
  intro i
  by_cases hi : i < gM o
  · rw [gF_at (h := hu h o k v) hi]
    by_cases e : k = i
    · subst e
      rw [List.getElem?_set_self (by rw [gF_len]; exact hi), hr, hu_eq]
      simp [upd]
    · have e2 : ¬ i = k := fun q => e q.symm
      rw [List.getElem?_set_ne e, gF_at hi, hu_eq]
      simp only [upd, if_neg e2]
  · rw [List.getElem?_eq_none (by rw [List.length_set, gF_len]; omega), List.getElem?_eq_none (by rw [gF_len]; omega)]
theorem gW_puti (cy : Nat → ClassId) (ad : Nat → Nat) (h : HI) (g : HL) {o k ci : Nat} {v : Int32} (hk : gK o = ci) (hci : ci < 12) (hr : gR o k = none) : (gW cy ad h g).set o (ad o, .inr (ci, (gF ad h o).set k (.int v))) = gW cy ad (hu h o k v) g :=
  gW_set cy ad (by rw [gE_obj cy ad _ g hk hci, gF_put hr]) (fun q e => gE_ne (hu_ne e) rfl)
theorem gE_ia (cy : Nat → ClassId) (ad : Nat → Nat) (h : HI) (g : HL) {o : Nat} (hk : gK o = 12) : gE cy ad h g o = .inl (cy 0, gN o, .inl (h o)) := if_pos hk
theorem gE_ja (cy : Nat → ClassId) (ad : Nat → Nat) (h : HI) (g : HL) {o : Nat} (hk : gK o = 13) : gE cy ad h g o = .inl (cy 1, gN o, .inr (.inl (g o))) := by
  unfold gE
  rw [if_neg (by omega), if_pos hk]
theorem gE_za (cy : Nat → ClassId) (ad : Nat → Nat) (h : HI) (g : HL) {o : Nat} (hk : gK o = 14) : gE cy ad h g o = .inl (cy 2, gN o, .inl (h o)) := by
  unfold gE
  rw [if_neg (by omega), if_neg (by omega), if_pos hk]
theorem gE_oa (cy : Nat → ClassId) (ad : Nat → Nat) (h : HI) (g : HL) {o : Nat} (hk : gK o = 15) : gE cy ad h g o = .inl (cy 3, gN o, .inr (.inr (.inr (.inr (fun j => (gR o j).map ad))))) := by
  unfold gE
  rw [if_neg (by omega), if_neg (by omega), if_neg (by omega), if_pos hk]
theorem gW_seta (cy : Nat → ClassId) (ad : Nat → Nat) (h : HI) (g : HL) {o k : Nat} {v : Int32} (hk : gK o = 12) : (gW cy ad h g).set o (ad o, .inl (cy 0, gN o, .inl (upd (h o) k v))) = gW cy ad (hu h o k v) g :=
  gW_set cy ad (by rw [gE_ia cy ad _ g hk, hu_eq]) (fun q e => gE_ne (hu_ne e) rfl)
theorem gW_setz (cy : Nat → ClassId) (ad : Nat → Nat) (h : HI) (g : HL) {o k : Nat} {v : Int32} (hk : gK o = 14) : (gW cy ad h g).set o (ad o, .inl (cy 2, gN o, .inl (upd (h o) k v))) = gW cy ad (hu h o k v) g :=
  gW_set cy ad (by rw [gE_za cy ad _ g hk, hu_eq]) (fun q e => gE_ne (hu_ne e) rfl)
theorem gW_setj (cy : Nat → ClassId) (ad : Nat → Nat) (h : HI) (g : HL) {o k : Nat} {v : Int64} (hk : gK o = 13) : (gW cy ad h g).set o (ad o, .inl (cy 1, gN o, .inr (.inl (vp_updL (g o) k v)))) = gW cy ad h (hul g o k v) :=
  gW_set cy ad (by rw [gE_ja cy ad _ _ hk, hul_eq]) (fun q e => gE_ne rfl (hul_ne e))
theorem gW_setf (cy : Nat → ClassId) (ad : Nat → Nat) (h : HI) (g : HL) {o : Nat} {f : Nat → Int32} (hk : gK o = 12) : (gW cy ad h g).set o (ad o, .inl (cy 0, gN o, .inl f)) = gW cy ad (hua h o f) g :=
  gW_set cy ad (by rw [gE_ia cy ad _ g hk, hua_eq]) (fun q e => gE_ne (hua_ne e) rfl)
def isTL : List Nat := [2, 4, 6, 8, 10, 12, 14, 16, 18, 20, 22, 24, 27, 29, 31, 33, 35, 37, 39, 41, 43, 45, 47, 49, 52, 54, 56, 58, 60, 62, 64, 66, 68, 70, 72, 74]
def isT (o : Nat) : Prop := o ∈ isTL
def isSL : List Nat := [1, 26, 51]
def isS (o : Nat) : Prop := o ∈ isSL
def isBL : List Nat := [110, 112, 114, 116]
def isB (o : Nat) : Prop := o ∈ isBL
theorem co_l {l : List Nat} {P : Nat → Prop} [DecidablePred P] (h : (l.all fun o => decide (P o)) = true) {o : Nat} (ho : o ∈ l) : P o := of_decide_eq_true (List.all_eq_true.mp h o ho)
theorem isT.k {o : Nat} (h : isT o) : gK o = 8 := co_l (P := fun o => gK o = 8) (by decide +kernel) h
theorem isT.lt {o : Nat} (h : isT o) : o < gO := co_l (P := fun o => o < gO) (by decide +kernel) h
theorem isT.m {o : Nat} (h : isT o) : gM o = 4 := co_l (P := fun o => gM o = 4) (by decide +kernel) h
theorem isT.r {o : Nat} (h : isT o) : gR o 0 = some (o + 1) ∧ gR o 1 = none ∧ gR o 2 = none ∧ gR o 3 = none := co_l (P := fun o => gR o 0 = some (o + 1) ∧ gR o 1 = none ∧ gR o 2 = none ∧ gR o 3 = none) (by decide +kernel) h
theorem isT.a {o : Nat} (h : isT o) : gK (o + 1) = 12 ∧ o + 1 < gO := co_l (P := fun o => gK (o + 1) = 12 ∧ o + 1 < gO) (by decide +kernel) h
theorem isS.k {o : Nat} (h : isS o) : gK o = 6 := co_l (P := fun o => gK o = 6) (by decide +kernel) h
theorem isS.lt {o : Nat} (h : isS o) : o < gO := co_l (P := fun o => o < gO) (by decide +kernel) h
theorem isS.m {o : Nat} (h : isS o) : gM o = 12 := co_l (P := fun o => gM o = 12) (by decide +kernel) h
theorem isS.r {o : Nat} (h : isS o) : ∀ j, j < 12 → gR o j = some (o + (1 + 2 * j)) ∧ isT (o + (1 + 2 * j)) := by
  intro j hj
  have h1 := co_l (l := isSL) (P := fun o => ∀ j, j < 12 → gR o j = some (o + (1 + 2 * j)) ∧ o + (1 + 2 * j) ∈ isTL) (by decide +kernel) h
  exact h1 j hj
theorem isB.k {o : Nat} (h : isB o) : gK o = 0 := co_l (P := fun o => gK o = 0) (by decide +kernel) h
theorem isB.lt {o : Nat} (h : isB o) : o < gO := co_l (P := fun o => o < gO) (by decide +kernel) h
theorem isB.m {o : Nat} (h : isB o) : gM o = 2 := co_l (P := fun o => gM o = 2) (by decide +kernel) h
theorem isB.r {o : Nat} (h : isB o) : gR o 0 = some (o + 1) ∧ gR o 1 = none := co_l (P := fun o => gR o 0 = some (o + 1) ∧ gR o 1 = none) (by decide +kernel) h
theorem isB.a {o : Nat} (h : isB o) : gK (o + 1) = 12 ∧ o + 1 < gO ∧ gN (o + 1) = 70 := co_l (P := fun o => gK (o + 1) = 12 ∧ o + 1 < gO ∧ gN (o + 1) = 70) (by decide +kernel) h
theorem gk_0 : gK 0 = 10 := by decide +kernel
theorem gl_0 : 0 < gO := by decide +kernel
theorem gm_0 : gM 0 = 11 := by decide +kernel
theorem gr_0_0 : gR 0 0 = some 1 := by decide +kernel
theorem gr_0_1 : gR 0 1 = some 26 := by decide +kernel
theorem gr_0_2 : gR 0 2 = some 51 := by decide +kernel
theorem gr_0_3 : gR 0 3 = some 76 := by decide +kernel
theorem gr_0_4 : gR 0 4 = some 77 := by decide +kernel
theorem gr_0_5 : gR 0 5 = some 81 := by decide +kernel
theorem gr_0_6 : gR 0 6 = some 85 := by decide +kernel
theorem gr_0_7 : gR 0 7 = some 89 := by decide +kernel
theorem gr_0_8 : gR 0 8 = some 97 := by decide +kernel
theorem gr_0_9 : gR 0 9 = some 109 := by decide +kernel
theorem gr_0_10 : gR 0 10 = some 118 := by decide +kernel
theorem gk_1 : gK 1 = 6 := by decide +kernel
theorem gl_1 : 1 < gO := by decide +kernel
theorem gm_1 : gM 1 = 12 := by decide +kernel
theorem gr_1_0 : gR 1 0 = some 2 := by decide +kernel
theorem gr_1_1 : gR 1 1 = some 4 := by decide +kernel
theorem gr_1_2 : gR 1 2 = some 6 := by decide +kernel
theorem gr_1_3 : gR 1 3 = some 8 := by decide +kernel
theorem gr_1_4 : gR 1 4 = some 10 := by decide +kernel
theorem gr_1_5 : gR 1 5 = some 12 := by decide +kernel
theorem gr_1_6 : gR 1 6 = some 14 := by decide +kernel
theorem gr_1_7 : gR 1 7 = some 16 := by decide +kernel
theorem gr_1_8 : gR 1 8 = some 18 := by decide +kernel
theorem gr_1_9 : gR 1 9 = some 20 := by decide +kernel
theorem gr_1_10 : gR 1 10 = some 22 := by decide +kernel
theorem gr_1_11 : gR 1 11 = some 24 := by decide +kernel
theorem gs_1 : isS 1 := (by decide +kernel : 1 ∈ isSL)
theorem gk_2 : gK 2 = 8 := by decide +kernel
theorem gl_2 : 2 < gO := by decide +kernel
theorem gm_2 : gM 2 = 4 := by decide +kernel
theorem gs_2 : isT 2 := (by decide +kernel : 2 ∈ isTL)
theorem gk_3 : gK 3 = 12 := by decide +kernel
theorem gl_3 : 3 < gO := by decide +kernel
theorem gn_3 : gN 3 = 120 := by decide +kernel
theorem gk_4 : gK 4 = 8 := by decide +kernel
theorem gl_4 : 4 < gO := by decide +kernel
theorem gm_4 : gM 4 = 4 := by decide +kernel
theorem gs_4 : isT 4 := (by decide +kernel : 4 ∈ isTL)
theorem gk_5 : gK 5 = 12 := by decide +kernel
theorem gl_5 : 5 < gO := by decide +kernel
theorem gn_5 : gN 5 = 12 := by decide +kernel
theorem gk_6 : gK 6 = 8 := by decide +kernel
theorem gl_6 : 6 < gO := by decide +kernel
theorem gm_6 : gM 6 = 4 := by decide +kernel
theorem gs_6 : isT 6 := (by decide +kernel : 6 ∈ isTL)
theorem gk_7 : gK 7 = 12 := by decide +kernel
theorem gl_7 : 7 < gO := by decide +kernel
theorem gn_7 : gN 7 = 360 := by decide +kernel
theorem gk_8 : gK 8 = 8 := by decide +kernel
theorem gl_8 : 8 < gO := by decide +kernel
theorem gm_8 : gM 8 = 4 := by decide +kernel
theorem gs_8 : isT 8 := (by decide +kernel : 8 ∈ isTL)
theorem gk_9 : gK 9 = 12 := by decide +kernel
theorem gl_9 : 9 < gO := by decide +kernel
theorem gn_9 : gN 9 = 240 := by decide +kernel
theorem gk_10 : gK 10 = 8 := by decide +kernel
theorem gl_10 : 10 < gO := by decide +kernel
theorem gm_10 : gM 10 = 4 := by decide +kernel
theorem gs_10 : isT 10 := (by decide +kernel : 10 ∈ isTL)
theorem gk_11 : gK 11 = 12 := by decide +kernel
theorem gl_11 : 11 < gO := by decide +kernel
theorem gn_11 : gN 11 = 32 := by decide +kernel
theorem gk_12 : gK 12 = 8 := by decide +kernel
theorem gl_12 : 12 < gO := by decide +kernel
theorem gm_12 : gM 12 = 4 := by decide +kernel
theorem gs_12 : isT 12 := (by decide +kernel : 12 ∈ isTL)
theorem gk_13 : gK 13 = 12 := by decide +kernel
theorem gl_13 : 13 < gO := by decide +kernel
theorem gn_13 : gN 13 = 6 := by decide +kernel
theorem gk_14 : gK 14 = 8 := by decide +kernel
theorem gl_14 : 14 < gO := by decide +kernel
theorem gm_14 : gM 14 = 4 := by decide +kernel
theorem gs_14 : isT 14 := (by decide +kernel : 14 ∈ isTL)
theorem gk_15 : gK 15 = 12 := by decide +kernel
theorem gl_15 : 15 < gO := by decide +kernel
theorem gn_15 : gN 15 = 27 := by decide +kernel
theorem gk_16 : gK 16 = 8 := by decide +kernel
theorem gl_16 : 16 < gO := by decide +kernel
theorem gm_16 : gM 16 = 4 := by decide +kernel
theorem gs_16 : isT 16 := (by decide +kernel : 16 ∈ isTL)
theorem gk_17 : gK 17 = 12 := by decide +kernel
theorem gl_17 : 17 < gO := by decide +kernel
theorem gn_17 : gN 17 = 2 := by decide +kernel
theorem gk_18 : gK 18 = 8 := by decide +kernel
theorem gl_18 : 18 < gO := by decide +kernel
theorem gm_18 : gM 18 = 4 := by decide +kernel
theorem gs_18 : isT 18 := (by decide +kernel : 18 ∈ isTL)
theorem gk_19 : gK 19 = 12 := by decide +kernel
theorem gl_19 : 19 < gO := by decide +kernel
theorem gn_19 : gN 19 = 80 := by decide +kernel
theorem gk_20 : gK 20 = 8 := by decide +kernel
theorem gl_20 : 20 < gO := by decide +kernel
theorem gm_20 : gM 20 = 4 := by decide +kernel
theorem gs_20 : isT 20 := (by decide +kernel : 20 ∈ isTL)
theorem gk_21 : gK 21 = 12 := by decide +kernel
theorem gl_21 : 21 < gO := by decide +kernel
theorem gn_21 : gN 21 = 6 := by decide +kernel
theorem gk_22 : gK 22 = 8 := by decide +kernel
theorem gl_22 : 22 < gO := by decide +kernel
theorem gm_22 : gM 22 = 4 := by decide +kernel
theorem gs_22 : isT 22 := (by decide +kernel : 22 ∈ isTL)
theorem gk_23 : gK 23 = 12 := by decide +kernel
theorem gl_23 : 23 < gO := by decide +kernel
theorem gn_23 : gN 23 = 4 := by decide +kernel
theorem gk_24 : gK 24 = 8 := by decide +kernel
theorem gl_24 : 24 < gO := by decide +kernel
theorem gm_24 : gM 24 = 4 := by decide +kernel
theorem gs_24 : isT 24 := (by decide +kernel : 24 ∈ isTL)
theorem gk_25 : gK 25 = 12 := by decide +kernel
theorem gl_25 : 25 < gO := by decide +kernel
theorem gn_25 : gN 25 = 60 := by decide +kernel
theorem gk_26 : gK 26 = 6 := by decide +kernel
theorem gl_26 : 26 < gO := by decide +kernel
theorem gm_26 : gM 26 = 12 := by decide +kernel
theorem gr_26_0 : gR 26 0 = some 27 := by decide +kernel
theorem gr_26_1 : gR 26 1 = some 29 := by decide +kernel
theorem gr_26_2 : gR 26 2 = some 31 := by decide +kernel
theorem gr_26_3 : gR 26 3 = some 33 := by decide +kernel
theorem gr_26_4 : gR 26 4 = some 35 := by decide +kernel
theorem gr_26_5 : gR 26 5 = some 37 := by decide +kernel
theorem gr_26_6 : gR 26 6 = some 39 := by decide +kernel
theorem gr_26_7 : gR 26 7 = some 41 := by decide +kernel
theorem gr_26_8 : gR 26 8 = some 43 := by decide +kernel
theorem gr_26_9 : gR 26 9 = some 45 := by decide +kernel
theorem gr_26_10 : gR 26 10 = some 47 := by decide +kernel
theorem gr_26_11 : gR 26 11 = some 49 := by decide +kernel
theorem gs_26 : isS 26 := (by decide +kernel : 26 ∈ isSL)
theorem gk_27 : gK 27 = 8 := by decide +kernel
theorem gl_27 : 27 < gO := by decide +kernel
theorem gm_27 : gM 27 = 4 := by decide +kernel
theorem gs_27 : isT 27 := (by decide +kernel : 27 ∈ isTL)
theorem gk_28 : gK 28 = 12 := by decide +kernel
theorem gl_28 : 28 < gO := by decide +kernel
theorem gn_28 : gN 28 = 120 := by decide +kernel
theorem gk_29 : gK 29 = 8 := by decide +kernel
theorem gl_29 : 29 < gO := by decide +kernel
theorem gm_29 : gM 29 = 4 := by decide +kernel
theorem gs_29 : isT 29 := (by decide +kernel : 29 ∈ isTL)
theorem gk_30 : gK 30 = 12 := by decide +kernel
theorem gl_30 : 30 < gO := by decide +kernel
theorem gn_30 : gN 30 = 12 := by decide +kernel
theorem gk_31 : gK 31 = 8 := by decide +kernel
theorem gl_31 : 31 < gO := by decide +kernel
theorem gm_31 : gM 31 = 4 := by decide +kernel
theorem gs_31 : isT 31 := (by decide +kernel : 31 ∈ isTL)
theorem gk_32 : gK 32 = 12 := by decide +kernel
theorem gl_32 : 32 < gO := by decide +kernel
theorem gn_32 : gN 32 = 360 := by decide +kernel
theorem gk_33 : gK 33 = 8 := by decide +kernel
theorem gl_33 : 33 < gO := by decide +kernel
theorem gm_33 : gM 33 = 4 := by decide +kernel
theorem gs_33 : isT 33 := (by decide +kernel : 33 ∈ isTL)
theorem gk_34 : gK 34 = 12 := by decide +kernel
theorem gl_34 : 34 < gO := by decide +kernel
theorem gn_34 : gN 34 = 240 := by decide +kernel
theorem gk_35 : gK 35 = 8 := by decide +kernel
theorem gl_35 : 35 < gO := by decide +kernel
theorem gm_35 : gM 35 = 4 := by decide +kernel
theorem gs_35 : isT 35 := (by decide +kernel : 35 ∈ isTL)
theorem gk_36 : gK 36 = 12 := by decide +kernel
theorem gl_36 : 36 < gO := by decide +kernel
theorem gn_36 : gN 36 = 32 := by decide +kernel
theorem gk_37 : gK 37 = 8 := by decide +kernel
theorem gl_37 : 37 < gO := by decide +kernel
theorem gm_37 : gM 37 = 4 := by decide +kernel
theorem gs_37 : isT 37 := (by decide +kernel : 37 ∈ isTL)
theorem gk_38 : gK 38 = 12 := by decide +kernel
theorem gl_38 : 38 < gO := by decide +kernel
theorem gn_38 : gN 38 = 6 := by decide +kernel
theorem gk_39 : gK 39 = 8 := by decide +kernel
theorem gl_39 : 39 < gO := by decide +kernel
theorem gm_39 : gM 39 = 4 := by decide +kernel
theorem gs_39 : isT 39 := (by decide +kernel : 39 ∈ isTL)
theorem gk_40 : gK 40 = 12 := by decide +kernel
theorem gl_40 : 40 < gO := by decide +kernel
theorem gn_40 : gN 40 = 27 := by decide +kernel
theorem gk_41 : gK 41 = 8 := by decide +kernel
theorem gl_41 : 41 < gO := by decide +kernel
theorem gm_41 : gM 41 = 4 := by decide +kernel
theorem gs_41 : isT 41 := (by decide +kernel : 41 ∈ isTL)
theorem gk_42 : gK 42 = 12 := by decide +kernel
theorem gl_42 : 42 < gO := by decide +kernel
theorem gn_42 : gN 42 = 2 := by decide +kernel
theorem gk_43 : gK 43 = 8 := by decide +kernel
theorem gl_43 : 43 < gO := by decide +kernel
theorem gm_43 : gM 43 = 4 := by decide +kernel
theorem gs_43 : isT 43 := (by decide +kernel : 43 ∈ isTL)
theorem gk_44 : gK 44 = 12 := by decide +kernel
theorem gl_44 : 44 < gO := by decide +kernel
theorem gn_44 : gN 44 = 80 := by decide +kernel
theorem gk_45 : gK 45 = 8 := by decide +kernel
theorem gl_45 : 45 < gO := by decide +kernel
theorem gm_45 : gM 45 = 4 := by decide +kernel
theorem gs_45 : isT 45 := (by decide +kernel : 45 ∈ isTL)
theorem gk_46 : gK 46 = 12 := by decide +kernel
theorem gl_46 : 46 < gO := by decide +kernel
theorem gn_46 : gN 46 = 6 := by decide +kernel
theorem gk_47 : gK 47 = 8 := by decide +kernel
theorem gl_47 : 47 < gO := by decide +kernel
theorem gm_47 : gM 47 = 4 := by decide +kernel
theorem gs_47 : isT 47 := (by decide +kernel : 47 ∈ isTL)
theorem gk_48 : gK 48 = 12 := by decide +kernel
theorem gl_48 : 48 < gO := by decide +kernel
theorem gn_48 : gN 48 = 4 := by decide +kernel
theorem gk_49 : gK 49 = 8 := by decide +kernel
theorem gl_49 : 49 < gO := by decide +kernel
theorem gm_49 : gM 49 = 4 := by decide +kernel
theorem gs_49 : isT 49 := (by decide +kernel : 49 ∈ isTL)
theorem gk_50 : gK 50 = 12 := by decide +kernel
theorem gl_50 : 50 < gO := by decide +kernel
theorem gn_50 : gN 50 = 60 := by decide +kernel
theorem gk_51 : gK 51 = 6 := by decide +kernel
theorem gl_51 : 51 < gO := by decide +kernel
theorem gm_51 : gM 51 = 12 := by decide +kernel
theorem gr_51_0 : gR 51 0 = some 52 := by decide +kernel
theorem gr_51_1 : gR 51 1 = some 54 := by decide +kernel
theorem gr_51_2 : gR 51 2 = some 56 := by decide +kernel
theorem gr_51_3 : gR 51 3 = some 58 := by decide +kernel
theorem gr_51_4 : gR 51 4 = some 60 := by decide +kernel
theorem gr_51_5 : gR 51 5 = some 62 := by decide +kernel
theorem gr_51_6 : gR 51 6 = some 64 := by decide +kernel
theorem gr_51_7 : gR 51 7 = some 66 := by decide +kernel
theorem gr_51_8 : gR 51 8 = some 68 := by decide +kernel
theorem gr_51_9 : gR 51 9 = some 70 := by decide +kernel
theorem gr_51_10 : gR 51 10 = some 72 := by decide +kernel
theorem gr_51_11 : gR 51 11 = some 74 := by decide +kernel
theorem gs_51 : isS 51 := (by decide +kernel : 51 ∈ isSL)
theorem gk_52 : gK 52 = 8 := by decide +kernel
theorem gl_52 : 52 < gO := by decide +kernel
theorem gm_52 : gM 52 = 4 := by decide +kernel
theorem gs_52 : isT 52 := (by decide +kernel : 52 ∈ isTL)
theorem gk_53 : gK 53 = 12 := by decide +kernel
theorem gl_53 : 53 < gO := by decide +kernel
theorem gn_53 : gN 53 = 120 := by decide +kernel
theorem gk_54 : gK 54 = 8 := by decide +kernel
theorem gl_54 : 54 < gO := by decide +kernel
theorem gm_54 : gM 54 = 4 := by decide +kernel
theorem gs_54 : isT 54 := (by decide +kernel : 54 ∈ isTL)
theorem gk_55 : gK 55 = 12 := by decide +kernel
theorem gl_55 : 55 < gO := by decide +kernel
theorem gn_55 : gN 55 = 12 := by decide +kernel
theorem gk_56 : gK 56 = 8 := by decide +kernel
theorem gl_56 : 56 < gO := by decide +kernel
theorem gm_56 : gM 56 = 4 := by decide +kernel
theorem gs_56 : isT 56 := (by decide +kernel : 56 ∈ isTL)
theorem gk_57 : gK 57 = 12 := by decide +kernel
theorem gl_57 : 57 < gO := by decide +kernel
theorem gn_57 : gN 57 = 360 := by decide +kernel
theorem gk_58 : gK 58 = 8 := by decide +kernel
theorem gl_58 : 58 < gO := by decide +kernel
theorem gm_58 : gM 58 = 4 := by decide +kernel
theorem gs_58 : isT 58 := (by decide +kernel : 58 ∈ isTL)
theorem gk_59 : gK 59 = 12 := by decide +kernel
theorem gl_59 : 59 < gO := by decide +kernel
theorem gn_59 : gN 59 = 240 := by decide +kernel
theorem gk_60 : gK 60 = 8 := by decide +kernel
theorem gl_60 : 60 < gO := by decide +kernel
theorem gm_60 : gM 60 = 4 := by decide +kernel
theorem gs_60 : isT 60 := (by decide +kernel : 60 ∈ isTL)
theorem gk_61 : gK 61 = 12 := by decide +kernel
theorem gl_61 : 61 < gO := by decide +kernel
theorem gn_61 : gN 61 = 32 := by decide +kernel
theorem gk_62 : gK 62 = 8 := by decide +kernel
theorem gl_62 : 62 < gO := by decide +kernel
theorem gm_62 : gM 62 = 4 := by decide +kernel
theorem gs_62 : isT 62 := (by decide +kernel : 62 ∈ isTL)
theorem gk_63 : gK 63 = 12 := by decide +kernel
theorem gl_63 : 63 < gO := by decide +kernel
theorem gn_63 : gN 63 = 6 := by decide +kernel
theorem gk_64 : gK 64 = 8 := by decide +kernel
theorem gl_64 : 64 < gO := by decide +kernel
theorem gm_64 : gM 64 = 4 := by decide +kernel
theorem gs_64 : isT 64 := (by decide +kernel : 64 ∈ isTL)
theorem gk_65 : gK 65 = 12 := by decide +kernel
theorem gl_65 : 65 < gO := by decide +kernel
theorem gn_65 : gN 65 = 27 := by decide +kernel
theorem gk_66 : gK 66 = 8 := by decide +kernel
theorem gl_66 : 66 < gO := by decide +kernel
theorem gm_66 : gM 66 = 4 := by decide +kernel
theorem gs_66 : isT 66 := (by decide +kernel : 66 ∈ isTL)
theorem gk_67 : gK 67 = 12 := by decide +kernel
theorem gl_67 : 67 < gO := by decide +kernel
theorem gn_67 : gN 67 = 2 := by decide +kernel
theorem gk_68 : gK 68 = 8 := by decide +kernel
theorem gl_68 : 68 < gO := by decide +kernel
theorem gm_68 : gM 68 = 4 := by decide +kernel
theorem gs_68 : isT 68 := (by decide +kernel : 68 ∈ isTL)
theorem gk_69 : gK 69 = 12 := by decide +kernel
theorem gl_69 : 69 < gO := by decide +kernel
theorem gn_69 : gN 69 = 80 := by decide +kernel
theorem gk_70 : gK 70 = 8 := by decide +kernel
theorem gl_70 : 70 < gO := by decide +kernel
theorem gm_70 : gM 70 = 4 := by decide +kernel
theorem gs_70 : isT 70 := (by decide +kernel : 70 ∈ isTL)
theorem gk_71 : gK 71 = 12 := by decide +kernel
theorem gl_71 : 71 < gO := by decide +kernel
theorem gn_71 : gN 71 = 6 := by decide +kernel
theorem gk_72 : gK 72 = 8 := by decide +kernel
theorem gl_72 : 72 < gO := by decide +kernel
theorem gm_72 : gM 72 = 4 := by decide +kernel
theorem gs_72 : isT 72 := (by decide +kernel : 72 ∈ isTL)
theorem gk_73 : gK 73 = 12 := by decide +kernel
theorem gl_73 : 73 < gO := by decide +kernel
theorem gn_73 : gN 73 = 4 := by decide +kernel
theorem gk_74 : gK 74 = 8 := by decide +kernel
theorem gl_74 : 74 < gO := by decide +kernel
theorem gm_74 : gM 74 = 4 := by decide +kernel
theorem gs_74 : isT 74 := (by decide +kernel : 74 ∈ isTL)
theorem gk_75 : gK 75 = 12 := by decide +kernel
theorem gl_75 : 75 < gO := by decide +kernel
theorem gn_75 : gN 75 = 60 := by decide +kernel
theorem gk_76 : gK 76 = 14 := by decide +kernel
theorem gl_76 : 76 < gO := by decide +kernel
theorem gn_76 : gN 76 = 2 := by decide +kernel
theorem gk_77 : gK 77 = 4 := by decide +kernel
theorem gl_77 : 77 < gO := by decide +kernel
theorem gm_77 : gM 77 = 10 := by decide +kernel
theorem gr_77_0 : gR 77 0 = some 1 := by decide +kernel
theorem gr_77_1 : gR 77 1 = some 78 := by decide +kernel
theorem gr_77_2 : gR 77 2 = some 79 := by decide +kernel
theorem gr_77_3 : gR 77 3 = some 80 := by decide +kernel
theorem gr_77_4 : gR 77 4 = none := by decide +kernel
theorem gr_77_5 : gR 77 5 = none := by decide +kernel
theorem gr_77_6 : gR 77 6 = none := by decide +kernel
theorem gr_77_7 : gR 77 7 = none := by decide +kernel
theorem gr_77_8 : gR 77 8 = none := by decide +kernel
theorem gr_77_9 : gR 77 9 = none := by decide +kernel
theorem gk_78 : gK 78 = 12 := by decide +kernel
theorem gl_78 : 78 < gO := by decide +kernel
theorem gn_78 : gN 78 = 60 := by decide +kernel
theorem gk_79 : gK 79 = 12 := by decide +kernel
theorem gl_79 : 79 < gO := by decide +kernel
theorem gn_79 : gN 79 = 60 := by decide +kernel
theorem gk_80 : gK 80 = 13 := by decide +kernel
theorem gl_80 : 80 < gO := by decide +kernel
theorem gn_80 : gN 80 = 60 := by decide +kernel
theorem gk_81 : gK 81 = 7 := by decide +kernel
theorem gl_81 : 81 < gO := by decide +kernel
theorem gm_81 : gM 81 = 12 := by decide +kernel
theorem gr_81_0 : gR 81 0 = some 1 := by decide +kernel
theorem gr_81_1 : gR 81 1 = some 77 := by decide +kernel
theorem gr_81_2 : gR 81 2 = some 82 := by decide +kernel
theorem gr_81_3 : gR 81 3 = some 83 := by decide +kernel
theorem gr_81_4 : gR 81 4 = some 84 := by decide +kernel
theorem gr_81_5 : gR 81 5 = none := by decide +kernel
theorem gr_81_6 : gR 81 6 = none := by decide +kernel
theorem gr_81_7 : gR 81 7 = none := by decide +kernel
theorem gr_81_8 : gR 81 8 = none := by decide +kernel
theorem gr_81_9 : gR 81 9 = none := by decide +kernel
theorem gr_81_10 : gR 81 10 = none := by decide +kernel
theorem gr_81_11 : gR 81 11 = none := by decide +kernel
theorem gk_82 : gK 82 = 12 := by decide +kernel
theorem gl_82 : 82 < gO := by decide +kernel
theorem gn_82 : gN 82 = 60 := by decide +kernel
theorem gk_83 : gK 83 = 12 := by decide +kernel
theorem gl_83 : 83 < gO := by decide +kernel
theorem gn_83 : gN 83 = 60 := by decide +kernel
theorem gk_84 : gK 84 = 12 := by decide +kernel
theorem gl_84 : 84 < gO := by decide +kernel
theorem gn_84 : gN 84 = 60 := by decide +kernel
theorem gk_85 : gK 85 = 2 := by decide +kernel
theorem gl_85 : 85 < gO := by decide +kernel
theorem gm_85 : gM 85 = 10 := by decide +kernel
theorem gr_85_0 : gR 85 0 = some 1 := by decide +kernel
theorem gr_85_1 : gR 85 1 = some 77 := by decide +kernel
theorem gr_85_2 : gR 85 2 = some 81 := by decide +kernel
theorem gr_85_3 : gR 85 3 = some 86 := by decide +kernel
theorem gr_85_4 : gR 85 4 = some 87 := by decide +kernel
theorem gr_85_5 : gR 85 5 = some 88 := by decide +kernel
theorem gr_85_6 : gR 85 6 = none := by decide +kernel
theorem gr_85_7 : gR 85 7 = none := by decide +kernel
theorem gr_85_8 : gR 85 8 = none := by decide +kernel
theorem gr_85_9 : gR 85 9 = none := by decide +kernel
theorem gk_86 : gK 86 = 12 := by decide +kernel
theorem gl_86 : 86 < gO := by decide +kernel
theorem gn_86 : gN 86 = 6 := by decide +kernel
theorem gk_87 : gK 87 = 12 := by decide +kernel
theorem gl_87 : 87 < gO := by decide +kernel
theorem gn_87 : gN 87 = 6 := by decide +kernel
theorem gk_88 : gK 88 = 12 := by decide +kernel
theorem gl_88 : 88 < gO := by decide +kernel
theorem gn_88 : gN 88 = 6 := by decide +kernel
theorem gk_89 : gK 89 = 9 := by decide +kernel
theorem gl_89 : 89 < gO := by decide +kernel
theorem gm_89 : gM 89 = 7 := by decide +kernel
theorem gr_89_0 : gR 89 0 = some 1 := by decide +kernel
theorem gr_89_1 : gR 89 1 = some 90 := by decide +kernel
theorem gr_89_2 : gR 89 2 = some 93 := by decide +kernel
theorem gr_89_3 : gR 89 3 = some 96 := by decide +kernel
theorem gr_89_4 : gR 89 4 = none := by decide +kernel
theorem gr_89_5 : gR 89 5 = none := by decide +kernel
theorem gr_89_6 : gR 89 6 = none := by decide +kernel
theorem gk_90 : gK 90 = 15 := by decide +kernel
theorem gl_90 : 90 < gO := by decide +kernel
theorem gn_90 : gN 90 = 2 := by decide +kernel
theorem go_90 : ∀ j, j < 2 → gR 90 j = some (91 + j) ∧ gK (91 + j) = 12 ∧ 91 + j < gO ∧ gN (91 + j) = 3001 := by decide +kernel
theorem gk_91 : gK 91 = 12 := by decide +kernel
theorem gl_91 : 91 < gO := by decide +kernel
theorem gn_91 : gN 91 = 3001 := by decide +kernel
theorem gk_92 : gK 92 = 12 := by decide +kernel
theorem gl_92 : 92 < gO := by decide +kernel
theorem gn_92 : gN 92 = 3001 := by decide +kernel
theorem gk_93 : gK 93 = 15 := by decide +kernel
theorem gl_93 : 93 < gO := by decide +kernel
theorem gn_93 : gN 93 = 2 := by decide +kernel
theorem go_93 : ∀ j, j < 2 → gR 93 j = some (94 + j) ∧ gK (94 + j) = 12 ∧ 94 + j < gO ∧ gN (94 + j) = 3000 := by decide +kernel
theorem gk_94 : gK 94 = 12 := by decide +kernel
theorem gl_94 : 94 < gO := by decide +kernel
theorem gn_94 : gN 94 = 3000 := by decide +kernel
theorem gk_95 : gK 95 = 12 := by decide +kernel
theorem gl_95 : 95 < gO := by decide +kernel
theorem gn_95 : gN 95 = 3000 := by decide +kernel
theorem gk_96 : gK 96 = 12 := by decide +kernel
theorem gl_96 : 96 < gO := by decide +kernel
theorem gn_96 : gN 96 = 2 := by decide +kernel
theorem gk_97 : gK 97 = 3 := by decide +kernel
theorem gl_97 : 97 < gO := by decide +kernel
theorem gm_97 : gM 97 = 6 := by decide +kernel
theorem gr_97_0 : gR 97 0 = some 1 := by decide +kernel
theorem gr_97_1 : gR 97 1 = some 98 := by decide +kernel
theorem gr_97_2 : gR 97 2 = some 106 := by decide +kernel
theorem gr_97_3 : gR 97 3 = some 107 := by decide +kernel
theorem gr_97_4 : gR 97 4 = some 108 := by decide +kernel
theorem gr_97_5 : gR 97 5 = none := by decide +kernel
theorem gk_98 : gK 98 = 15 := by decide +kernel
theorem gl_98 : 98 < gO := by decide +kernel
theorem gn_98 : gN 98 = 7 := by decide +kernel
theorem go_98 : ∀ j, j < 7 → gR 98 j = some (99 + j) ∧ gK (99 + j) = 12 ∧ 99 + j < gO ∧ gN (99 + j) = 512 := by decide +kernel
theorem gk_99 : gK 99 = 12 := by decide +kernel
theorem gl_99 : 99 < gO := by decide +kernel
theorem gn_99 : gN 99 = 512 := by decide +kernel
theorem gk_100 : gK 100 = 12 := by decide +kernel
theorem gl_100 : 100 < gO := by decide +kernel
theorem gn_100 : gN 100 = 512 := by decide +kernel
theorem gk_101 : gK 101 = 12 := by decide +kernel
theorem gl_101 : 101 < gO := by decide +kernel
theorem gn_101 : gN 101 = 512 := by decide +kernel
theorem gk_102 : gK 102 = 12 := by decide +kernel
theorem gl_102 : 102 < gO := by decide +kernel
theorem gn_102 : gN 102 = 512 := by decide +kernel
theorem gk_103 : gK 103 = 12 := by decide +kernel
theorem gl_103 : 103 < gO := by decide +kernel
theorem gn_103 : gN 103 = 512 := by decide +kernel
theorem gk_104 : gK 104 = 12 := by decide +kernel
theorem gl_104 : 104 < gO := by decide +kernel
theorem gn_104 : gN 104 = 512 := by decide +kernel
theorem gk_105 : gK 105 = 12 := by decide +kernel
theorem gl_105 : 105 < gO := by decide +kernel
theorem gn_105 : gN 105 = 512 := by decide +kernel
theorem gk_106 : gK 106 = 12 := by decide +kernel
theorem gl_106 : 106 < gO := by decide +kernel
theorem gn_106 : gN 106 = 512 := by decide +kernel
theorem gk_107 : gK 107 = 12 := by decide +kernel
theorem gl_107 : 107 < gO := by decide +kernel
theorem gn_107 : gN 107 = 4 := by decide +kernel
theorem gk_108 : gK 108 = 12 := by decide +kernel
theorem gl_108 : 108 < gO := by decide +kernel
theorem gn_108 : gN 108 = 4 := by decide +kernel
theorem gk_109 : gK 109 = 1 := by decide +kernel
theorem gl_109 : 109 < gO := by decide +kernel
theorem gm_109 : gM 109 = 7 := by decide +kernel
theorem gr_109_0 : gR 109 0 = some 1 := by decide +kernel
theorem gr_109_1 : gR 109 1 = some 110 := by decide +kernel
theorem gr_109_2 : gR 109 2 = some 112 := by decide +kernel
theorem gr_109_3 : gR 109 3 = some 114 := by decide +kernel
theorem gr_109_4 : gR 109 4 = some 116 := by decide +kernel
theorem gr_109_5 : gR 109 5 = none := by decide +kernel
theorem gr_109_6 : gR 109 6 = none := by decide +kernel
theorem gk_110 : gK 110 = 0 := by decide +kernel
theorem gl_110 : 110 < gO := by decide +kernel
theorem gm_110 : gM 110 = 2 := by decide +kernel
theorem gr_110_0 : gR 110 0 = some 111 := by decide +kernel
theorem gr_110_1 : gR 110 1 = none := by decide +kernel
theorem gs_110 : isB 110 := (by decide +kernel : 110 ∈ isBL)
theorem gk_111 : gK 111 = 12 := by decide +kernel
theorem gl_111 : 111 < gO := by decide +kernel
theorem gn_111 : gN 111 = 70 := by decide +kernel
theorem gk_112 : gK 112 = 0 := by decide +kernel
theorem gl_112 : 112 < gO := by decide +kernel
theorem gm_112 : gM 112 = 2 := by decide +kernel
theorem gr_112_0 : gR 112 0 = some 113 := by decide +kernel
theorem gr_112_1 : gR 112 1 = none := by decide +kernel
theorem gs_112 : isB 112 := (by decide +kernel : 112 ∈ isBL)
theorem gk_113 : gK 113 = 12 := by decide +kernel
theorem gl_113 : 113 < gO := by decide +kernel
theorem gn_113 : gN 113 = 70 := by decide +kernel
theorem gk_114 : gK 114 = 0 := by decide +kernel
theorem gl_114 : 114 < gO := by decide +kernel
theorem gm_114 : gM 114 = 2 := by decide +kernel
theorem gr_114_0 : gR 114 0 = some 115 := by decide +kernel
theorem gr_114_1 : gR 114 1 = none := by decide +kernel
theorem gs_114 : isB 114 := (by decide +kernel : 114 ∈ isBL)
theorem gk_115 : gK 115 = 12 := by decide +kernel
theorem gl_115 : 115 < gO := by decide +kernel
theorem gn_115 : gN 115 = 70 := by decide +kernel
theorem gk_116 : gK 116 = 0 := by decide +kernel
theorem gl_116 : 116 < gO := by decide +kernel
theorem gm_116 : gM 116 = 2 := by decide +kernel
theorem gr_116_0 : gR 116 0 = some 117 := by decide +kernel
theorem gr_116_1 : gR 116 1 = none := by decide +kernel
theorem gs_116 : isB 116 := (by decide +kernel : 116 ∈ isBL)
theorem gk_117 : gK 117 = 12 := by decide +kernel
theorem gl_117 : 117 < gO := by decide +kernel
theorem gn_117 : gN 117 = 70 := by decide +kernel
theorem gk_118 : gK 118 = 5 := by decide +kernel
theorem gl_118 : 118 < gO := by decide +kernel
theorem gm_118 : gM 118 = 11 := by decide +kernel
theorem gr_118_0 : gR 118 0 = some 1 := by decide +kernel
theorem gr_118_1 : gR 118 1 = some 119 := by decide +kernel
theorem gr_118_2 : gR 118 2 = some 120 := by decide +kernel
theorem gr_118_3 : gR 118 3 = some 121 := by decide +kernel
theorem gr_118_4 : gR 118 4 = some 122 := by decide +kernel
theorem gr_118_5 : gR 118 5 = some 123 := by decide +kernel
theorem gr_118_6 : gR 118 6 = some 124 := by decide +kernel
theorem gr_118_7 : gR 118 7 = some 125 := by decide +kernel
theorem gr_118_8 : gR 118 8 = none := by decide +kernel
theorem gr_118_9 : gR 118 9 = none := by decide +kernel
theorem gr_118_10 : gR 118 10 = none := by decide +kernel
theorem gk_119 : gK 119 = 12 := by decide +kernel
theorem gl_119 : 119 < gO := by decide +kernel
theorem gn_119 : gN 119 = 16 := by decide +kernel
theorem gk_120 : gK 120 = 12 := by decide +kernel
theorem gl_120 : 120 < gO := by decide +kernel
theorem gn_120 : gN 120 = 16 := by decide +kernel
theorem gk_121 : gK 121 = 12 := by decide +kernel
theorem gl_121 : 121 < gO := by decide +kernel
theorem gn_121 : gN 121 = 12 := by decide +kernel
theorem gk_122 : gK 122 = 12 := by decide +kernel
theorem gl_122 : 122 < gO := by decide +kernel
theorem gn_122 : gN 122 = 256 := by decide +kernel
theorem gk_123 : gK 123 = 12 := by decide +kernel
theorem gl_123 : 123 < gO := by decide +kernel
theorem gn_123 : gN 123 = 16 := by decide +kernel
theorem gk_124 : gK 124 = 12 := by decide +kernel
theorem gl_124 : 124 < gO := by decide +kernel
theorem gn_124 : gN 124 = 8 := by decide +kernel
theorem gk_125 : gK 125 = 15 := by decide +kernel
theorem gl_125 : 125 < gO := by decide +kernel
theorem gn_125 : gN 125 = 9 := by decide +kernel
theorem go_125 : ∀ j, j < 9 → gR 125 j = some (126 + j) ∧ gK (126 + j) = 12 ∧ 126 + j < gO ∧ gN (126 + j) = 256 := by decide +kernel
theorem gk_126 : gK 126 = 12 := by decide +kernel
theorem gl_126 : 126 < gO := by decide +kernel
theorem gn_126 : gN 126 = 256 := by decide +kernel
theorem gk_127 : gK 127 = 12 := by decide +kernel
theorem gl_127 : 127 < gO := by decide +kernel
theorem gn_127 : gN 127 = 256 := by decide +kernel
theorem gk_128 : gK 128 = 12 := by decide +kernel
theorem gl_128 : 128 < gO := by decide +kernel
theorem gn_128 : gN 128 = 256 := by decide +kernel
theorem gk_129 : gK 129 = 12 := by decide +kernel
theorem gl_129 : 129 < gO := by decide +kernel
theorem gn_129 : gN 129 = 256 := by decide +kernel
theorem gk_130 : gK 130 = 12 := by decide +kernel
theorem gl_130 : 130 < gO := by decide +kernel
theorem gn_130 : gN 130 = 256 := by decide +kernel
theorem gk_131 : gK 131 = 12 := by decide +kernel
theorem gl_131 : 131 < gO := by decide +kernel
theorem gn_131 : gN 131 = 256 := by decide +kernel
theorem gk_132 : gK 132 = 12 := by decide +kernel
theorem gl_132 : 132 < gO := by decide +kernel
theorem gn_132 : gN 132 = 256 := by decide +kernel
theorem gk_133 : gK 133 = 12 := by decide +kernel
theorem gl_133 : 133 < gO := by decide +kernel
theorem gn_133 : gN 133 = 256 := by decide +kernel
theorem gk_134 : gK 134 = 12 := by decide +kernel
theorem gl_134 : 134 < gO := by decide +kernel
theorem gn_134 : gN 134 = 256 := by decide +kernel
theorem gk_135 : gK 135 = 11 := by decide +kernel
theorem gl_135 : 135 < gO := by decide +kernel
theorem gm_135 : gM 135 = 26 := by decide +kernel
theorem gr_135_0 : gR 135 0 = some 136 := by decide +kernel
theorem gr_135_1 : gR 135 1 = some 137 := by decide +kernel
theorem gr_135_2 : gR 135 2 = some 138 := by decide +kernel
theorem gr_135_3 : gR 135 3 = none := by decide +kernel
theorem gr_135_4 : gR 135 4 = some 139 := by decide +kernel
theorem gr_135_5 : gR 135 5 = some 140 := by decide +kernel
theorem gr_135_6 : gR 135 6 = none := by decide +kernel
theorem gr_135_7 : gR 135 7 = some 141 := by decide +kernel
theorem gr_135_8 : gR 135 8 = some 142 := by decide +kernel
theorem gr_135_9 : gR 135 9 = none := by decide +kernel
theorem gr_135_10 : gR 135 10 = none := by decide +kernel
theorem gr_135_11 : gR 135 11 = none := by decide +kernel
theorem gr_135_12 : gR 135 12 = none := by decide +kernel
theorem gr_135_13 : gR 135 13 = none := by decide +kernel
theorem gr_135_14 : gR 135 14 = none := by decide +kernel
theorem gr_135_15 : gR 135 15 = none := by decide +kernel
theorem gr_135_16 : gR 135 16 = none := by decide +kernel
theorem gr_135_17 : gR 135 17 = none := by decide +kernel
theorem gr_135_18 : gR 135 18 = none := by decide +kernel
theorem gr_135_19 : gR 135 19 = none := by decide +kernel
theorem gr_135_20 : gR 135 20 = some 143 := by decide +kernel
theorem gr_135_21 : gR 135 21 = some 144 := by decide +kernel
theorem gr_135_22 : gR 135 22 = some 145 := by decide +kernel
theorem gr_135_23 : gR 135 23 = some 146 := by decide +kernel
theorem gr_135_24 : gR 135 24 = some 147 := by decide +kernel
theorem gr_135_25 : gR 135 25 = some 148 := by decide +kernel
theorem gk_136 : gK 136 = 12 := by decide +kernel
theorem gl_136 : 136 < gO := by decide +kernel
theorem gn_136 : gN 136 = 887 := by decide +kernel
theorem gk_137 : gK 137 = 12 := by decide +kernel
theorem gl_137 : 137 < gO := by decide +kernel
theorem gn_137 : gN 137 = 1774 := by decide +kernel
theorem gk_138 : gK 138 = 14 := by decide +kernel
theorem gl_138 : 138 < gO := by decide +kernel
theorem gn_138 : gN 138 = 2 := by decide +kernel
theorem gk_139 : gK 139 = 12 := by decide +kernel
theorem gl_139 : 139 < gO := by decide +kernel
theorem gn_139 : gN 139 = 70 := by decide +kernel
theorem gk_140 : gK 140 = 12 := by decide +kernel
theorem gl_140 : 140 < gO := by decide +kernel
theorem gn_140 : gN 140 = 70 := by decide +kernel
theorem gk_141 : gK 141 = 12 := by decide +kernel
theorem gl_141 : 141 < gO := by decide +kernel
theorem gn_141 : gN 141 = 70 := by decide +kernel
theorem gk_142 : gK 142 = 13 := by decide +kernel
theorem gl_142 : 142 < gO := by decide +kernel
theorem gn_142 : gN 142 = 70 := by decide +kernel
theorem gk_143 : gK 143 = 12 := by decide +kernel
theorem gl_143 : 143 < gO := by decide +kernel
theorem gn_143 : gN 143 = 18006 := by decide +kernel
theorem gk_144 : gK 144 = 12 := by decide +kernel
theorem gl_144 : 144 < gO := by decide +kernel
theorem gn_144 : gN 144 = 6 := by decide +kernel
theorem gk_145 : gK 145 = 12 := by decide +kernel
theorem gl_145 : 145 < gO := by decide +kernel
theorem gn_145 : gN 145 = 6 := by decide +kernel
theorem gk_146 : gK 146 = 12 := by decide +kernel
theorem gl_146 : 146 < gO := by decide +kernel
theorem gn_146 : gN 146 = 400 := by decide +kernel
theorem gk_147 : gK 147 = 12 := by decide +kernel
theorem gl_147 : 147 < gO := by decide +kernel
theorem gn_147 : gN 147 = 5 := by decide +kernel
theorem gk_148 : gK 148 = 12 := by decide +kernel
theorem gl_148 : 148 < gO := by decide +kernel
theorem gn_148 : gN 148 = 36864 := by decide +kernel
section GROWS
variable {p : Program} {l : Launch} {e : Env} {R : Room} {s : State} {m : MethodId} {args : Array Value} {below : List Frame} {meth : Method} {c : Code} {H : Heap} {locs : List Loc} {cells slots : Nat} {Q : State → Prop}
variable {cc : ByteArray} {pc : Nat} {ls : Array Slot} {rest : List Value} {D : va_G} {A : Nat → Prop} {H0 : Heap} {cy : Nat → ClassId} {ad : Nat → Nat} {h : HI} {g : HL}
/-- the world at a moment of a walk -/
def gG (D : va_G) (cy : Nat → ClassId) (ad : Nat → Nat) (A : Nat → Prop) (H0 : Heap) (h : HI) (g : HL) (H : Heap) (locs : List Loc) : Prop := va_P D vwCl (gW cy ad h g) H ∧ va_D A (gW cy ad h g) ∧ va_S A H0 H locs
theorem g_get (hexec : p.tables.exec = Jvm.exec) (hb : c.code = cc) {own C : String} {T : u_T} {N ci index : Nat} {Ts : List Cond} (hts : ∀ w ∈ Ts, w.before args s = true) (hin : ∀ w ∈ u_ws C T N, w ∈ Ts) (hown : s.vm.findClass own = some m.cls) (hK : va_K D vwCl (gtys cy) s) (hG : gG D cy ad A H0 h g H locs) {o : Nat} (ho : o < gO) (hc : vwCl[ci]? = some (C, T, N)) (hk : gK o = ci) (hci : ci < 12) (k : Nat) (hkN : k < N) (hkM : k < gM o) {v : Value} (hv : (match gR o k with | some r => Value.ref (ad r) | none => .int (h o k)) = v) (hlink : (Cond.fieldLink own index (T k).1 (T k).2.1 (T k).2.2.1).before args s = true) (hdg : decode cc pc = .ok (.getfield index, 3))
    (kk : W p l e R s m args below meth c H locs cells slots Q (F0 m (pc + 3) ls (v :: rest))) : W p l e R s m args below meth c H locs cells slots Q (F0 m pc ls (.ref (ad o) :: rest)) :=
  va_get hexec hb hts hin hown hK hG.1 o (by rw [gW_at cy ad h g ho, gE_obj cy ad h g hk hci]) hc k hkN hlink (fun _ z => z) (by rw [gF_at hkM, hv]) hdg kk
theorem g_put (hexec : p.tables.exec = Jvm.exec) (hb : c.code = cc) {own C : String} {T : u_T} {N ci index : Nat} {Ts : List Cond} (hts : ∀ w ∈ Ts, w.before args s = true) (hin : ∀ w ∈ u_ws C T N, w ∈ Ts) (ty0 : Nat → FieldType) (hty : ∀ k, k < N → parseFieldDescriptor (T k).2.2.1 = some (ty0 k)) (hnm : ∀ a, a < N → ∀ b, b < N → a ≠ b → (T a).2.1 ≠ (T b).2.1) (hown : s.vm.findClass own = some m.cls) (hK : va_K D vwCl (gtys cy) s) (hG : gG D cy ad A H0 h g H locs) {o : Nat} (ho : o < gO) (hc : vwCl[ci]? = some (C, T, N)) (hk : gK o = ci) (hci : ci < 12) (k : Nat) (hkN : k < N) (hkM : k < gM o) (hr : gR o k = none) {v : Int32} (hfin : (T k).2.2.2 = false) {ty : FieldType} (hd : parseFieldDescriptor (T k).2.2.1 = some ty) (hn : narrow ty (.int v) = .int v) (hfit : fits ty (.int v) = true) (hlink : (Cond.fieldLink own index (T k).1 (T k).2.1 (T k).2.2.1).before args s = true) (hdg : decode cc pc = .ok (.putfield index, 3))
    (kk : ∀ (H1 : Heap) (locs1 : List Loc), gG D cy ad A H0 (hu h o k v) g H1 locs1 → W p l e R s m args below meth c H1 locs1 cells slots Q (F0 m (pc + 3) ls rest)) : W p l e R s m args below meth c H locs cells slots Q (F0 m pc ls (.int v :: .ref (ad o) :: rest)) :=
  va_put hexec hb hts hin ty0 hty hnm hown hK hG.1 hG.2.1 hG.2.2 o (by rw [gW_at cy ad h g ho, gE_obj cy ad h g hk hci]) hc k hkN hlink (fun _ z => z) hfin hd hn hfit (by rw [gF_len]; exact hkM) hdg (fun H1 locs1 a b c => by
    rw [gW_puti cy ad h g hk hci hr] at a b
    exact kk H1 locs1 ⟨a, b, c⟩)
theorem g_iald (hexec : p.tables.exec = Jvm.exec) (hb : c.code = cc) (hK : va_K D vwCl (gtys cy) s) (hG : gG D cy ad A H0 h g H locs) {o : Nat} (ho : o < gO) (hk : gK o = 12) {n : Nat} (hn : gN o = n) {i : Int32} (hin : vp_in i n) (hdg : decode cc pc = .ok (.iaload, 1)) (kk : W p l e R s m args below meth c H locs cells slots Q (F0 m (pc + 1) ls (.int (h o i.toNatClampNeg) :: rest))) : W p l e R s m args below meth c H locs cells slots Q (F0 m pc ls (.int i :: .ref (ad o) :: rest)) :=
  va_iald hexec hb hK hG.1 o 0 (by rw [gW_at cy ad h g ho, gE_ia cy ad h g hk]) rfl (by rw [hn]; exact hin) hdg kk
theorem g_zald (hexec : p.tables.exec = Jvm.exec) (hb : c.code = cc) (hK : va_K D vwCl (gtys cy) s) (hG : gG D cy ad A H0 h g H locs) {o : Nat} (ho : o < gO) (hk : gK o = 14) {n : Nat} (hn : gN o = n) {i : Int32} (hin : vp_in i n) (hdg : decode cc pc = .ok (.baload, 1)) (kk : W p l e R s m args below meth c H locs cells slots Q (F0 m (pc + 1) ls (.int (h o i.toNatClampNeg) :: rest))) : W p l e R s m args below meth c H locs cells slots Q (F0 m pc ls (.int i :: .ref (ad o) :: rest)) :=
  va_zald hexec hb hK hG.1 o 2 (by rw [gW_at cy ad h g ho, gE_za cy ad h g hk]) rfl (by rw [hn]; exact hin) hdg kk
theorem g_lald (hexec : p.tables.exec = Jvm.exec) (hb : c.code = cc) (hK : va_K D vwCl (gtys cy) s) (hG : gG D cy ad A H0 h g H locs) {o : Nat} (ho : o < gO) (hk : gK o = 13) {n : Nat} (hn : gN o = n) {i : Int32} (hin : vp_in i n) (hdg : decode cc pc = .ok (.laload, 1)) (kk : W p l e R s m args below meth c H locs cells slots Q (F0 m (pc + 1) ls (.long (g o i.toNatClampNeg) :: rest))) : W p l e R s m args below meth c H locs cells slots Q (F0 m pc ls (.int i :: .ref (ad o) :: rest)) :=
  va_lald hexec hb hK hG.1 o 1 (by rw [gW_at cy ad h g ho, gE_ja cy ad h g hk]) rfl (by rw [hn]; exact hin) hdg kk
theorem g_aald (hexec : p.tables.exec = Jvm.exec) (hb : c.code = cc) (hK : va_K D vwCl (gtys cy) s) (hG : gG D cy ad A H0 h g H locs) {o r : Nat} (ho : o < gO) (hk : gK o = 15) {n : Nat} (hn : gN o = n) {i : Int32} (hin : vp_in i n) (hr : gR o i.toNatClampNeg = some r) (hdg : decode cc pc = .ok (.aaload, 1)) (kk : W p l e R s m args below meth c H locs cells slots Q (F0 m (pc + 1) ls (.ref (ad r) :: rest))) : W p l e R s m args below meth c H locs cells slots Q (F0 m pc ls (.int i :: .ref (ad o) :: rest)) := by
  have ha : (gW cy ad h g)[o]? = some (ad o, .inl (cy 3, gN o, .inr (.inr (.inr (.inr (fun j => (gR o j).map ad)))))) := by rw [gW_at cy ad h g ho, gE_oa cy ad h g hk]
  subst hn
  have hlt : i.toNatClampNeg < gN o := Nat.not_le.mp fun q => hin (Or.inr q)
  have hvr : va_rf ((gR o i.toNatClampNeg).map ad) = .ref (ad r) := by rw [hr]; rfl
  exact W.aald (v := .ref (ad r)) (ty := .array .int) hexec hb (hG.1 o _ ha) ((hK.2 3 _ rfl).1 (gN o) (fun j => va_rf ((gR o j).map ad))) rfl (fun q => by cases q) (by show ¬ (i < 0 ∨ (arrV _ _ _).slots.size ≤ _); rw [arrV_size]; exact hin) (by show (arrV _ _ _).slots[_]? = _; rw [arrV_read _ _ hlt, hvr]) rfl rfl hdg kk
theorem g_iast (hexec : p.tables.exec = Jvm.exec) (hb : c.code = cc) (hK : va_K D vwCl (gtys cy) s) (hG : gG D cy ad A H0 h g H locs) {o : Nat} (ho : o < gO) (hk : gK o = 12) {n : Nat} (hn : gN o = n) {i x : Int32} (hin : vp_in i n) (hdg : decode cc pc = .ok (.iastore, 1)) (kk : ∀ (H1 : Heap) (locs1 : List Loc), gG D cy ad A H0 (hu h o i.toNatClampNeg x) g H1 locs1 → W p l e R s m args below meth c H1 locs1 cells slots Q (F0 m (pc + 1) ls rest)) : W p l e R s m args below meth c H locs cells slots Q (F0 m pc ls (.int x :: .int i :: .ref (ad o) :: rest)) :=
  va_iast hexec hb hK hG.1 hG.2.1 hG.2.2 o 0 (by rw [gW_at cy ad h g ho, gE_ia cy ad h g hk]) rfl (by rw [hn]; exact hin) hdg (fun H1 locs1 a b c => by
    rw [gW_seta cy ad h g hk] at a b
    exact kk H1 locs1 ⟨a, b, c⟩)
theorem g_zast (hexec : p.tables.exec = Jvm.exec) (hb : c.code = cc) (hK : va_K D vwCl (gtys cy) s) (hG : gG D cy ad A H0 h g H locs) {o : Nat} (ho : o < gO) (hk : gK o = 14) {n : Nat} (hn : gN o = n) {i x : Int32} (hin : vp_in i n) (hdg : decode cc pc = .ok (.bastore, 1)) (kk : ∀ (H1 : Heap) (locs1 : List Loc), gG D cy ad A H0 (hu h o i.toNatClampNeg (vp_nar .boolean x)) g H1 locs1 → W p l e R s m args below meth c H1 locs1 cells slots Q (F0 m (pc + 1) ls rest)) : W p l e R s m args below meth c H locs cells slots Q (F0 m pc ls (.int x :: .int i :: .ref (ad o) :: rest)) :=
  va_zast hexec hb hK hG.1 hG.2.1 hG.2.2 o 2 (by rw [gW_at cy ad h g ho, gE_za cy ad h g hk]) rfl (by rw [hn]; exact hin) hdg (fun H1 locs1 a b c => by
    rw [gW_setz cy ad h g hk] at a b
    exact kk H1 locs1 ⟨a, b, c⟩)
theorem g_last (hexec : p.tables.exec = Jvm.exec) (hb : c.code = cc) (hK : va_K D vwCl (gtys cy) s) (hG : gG D cy ad A H0 h g H locs) {o : Nat} (ho : o < gO) (hk : gK o = 13) {n : Nat} (hn : gN o = n) {i : Int32} {x : Int64} (hin : vp_in i n) (hdg : decode cc pc = .ok (.lastore, 1)) (kk : ∀ (H1 : Heap) (locs1 : List Loc), gG D cy ad A H0 h (hul g o i.toNatClampNeg x) H1 locs1 → W p l e R s m args below meth c H1 locs1 cells slots Q (F0 m (pc + 1) ls rest)) : W p l e R s m args below meth c H locs cells slots Q (F0 m pc ls (.long x :: .int i :: .ref (ad o) :: rest)) :=
  va_last hexec hb hK hG.1 hG.2.1 hG.2.2 o 1 (by rw [gW_at cy ad h g ho, gE_ja cy ad h g hk]) rfl (by rw [hn]; exact hin) hdg (fun H1 locs1 a b c => by
    rw [gW_setj cy ad h g hk] at a b
    exact kk H1 locs1 ⟨a, b, c⟩)
theorem g_alen (hexec : p.tables.exec = Jvm.exec) (hb : c.code = cc) (hK : va_K D vwCl (gtys cy) s) (hG : gG D cy ad A H0 h g H locs) {o : Nat} (ho : o < gO) (hk : gK o = 12) {v : Int32} (hv : Int32.ofNat (gN o) = v) (hdg : decode cc pc = .ok (.arraylength, 1)) (kk : W p l e R s m args below meth c H locs cells slots Q (F0 m (pc + 1) ls (.int v :: rest))) : W p l e R s m args below meth c H locs cells slots Q (F0 m pc ls (.ref (ad o) :: rest)) :=
  va_alen hexec hb hK hG.1 o 0 (x := (gN o, .inl (h o))) (by rw [gW_at cy ad h g ho, gE_ia cy ad h g hk]) rfl hv hdg kk
theorem g_alenj (hexec : p.tables.exec = Jvm.exec) (hb : c.code = cc) (hK : va_K D vwCl (gtys cy) s) (hG : gG D cy ad A H0 h g H locs) {o : Nat} (ho : o < gO) (hk : gK o = 13) {v : Int32} (hv : Int32.ofNat (gN o) = v) (hdg : decode cc pc = .ok (.arraylength, 1)) (kk : W p l e R s m args below meth c H locs cells slots Q (F0 m (pc + 1) ls (.int v :: rest))) : W p l e R s m args below meth c H locs cells slots Q (F0 m pc ls (.ref (ad o) :: rest)) :=
  va_alen hexec hb hK hG.1 o 1 (x := (gN o, .inr (.inl (g o)))) (by rw [gW_at cy ad h g ho, gE_ja cy ad h g hk]) rfl hv hdg kk
end GROWS
section GROWS2
variable {p : Program} {l : Launch} {e : Env} {R : Room} {s : State} {m : MethodId} {args : Array Value} {below : List Frame} {meth : Method} {c : Code} {H : Heap} {locs : List Loc} {cells slots : Nat} {Q : State → Prop}
variable {cc : ByteArray} {pc : Nat} {ls : Array Slot} {rest : List Value} {D : va_G} {A : Nat → Prop} {H0 : Heap} {cy : Nat → ClassId} {ad : Nat → Nat} {h : HI} {g : HL}
theorem g_geti (hexec : p.tables.exec = Jvm.exec) (hb : c.code = cc) {own C : String} {T : u_T} {N ci index : Nat} {Ts : List Cond} (hts : ∀ w ∈ Ts, w.before args s = true) (hin : ∀ w ∈ u_ws C T N, w ∈ Ts) (hown : s.vm.findClass own = some m.cls) (hK : va_K D vwCl (gtys cy) s) (hG : gG D cy ad A H0 h g H locs) {o : Nat} (ho : o < gO) (hc : vwCl[ci]? = some (C, T, N)) (hk : gK o = ci) (hci : ci < 12) (k : Nat) (hkN : k < N) (hkM : k < gM o) (hr : gR o k = none) (hlink : (Cond.fieldLink own index (T k).1 (T k).2.1 (T k).2.2.1).before args s = true) (hdg : decode cc pc = .ok (.getfield index, 3))
    (kk : W p l e R s m args below meth c H locs cells slots Q (F0 m (pc + 3) ls (.int (h o k) :: rest))) : W p l e R s m args below meth c H locs cells slots Q (F0 m pc ls (.ref (ad o) :: rest)) :=
  g_get hexec hb hts hin hown hK hG ho hc hk hci k hkN hkM (by rw [hr]) hlink hdg kk
theorem g_getr (hexec : p.tables.exec = Jvm.exec) (hb : c.code = cc) {own C : String} {T : u_T} {N ci index : Nat} {Ts : List Cond} (hts : ∀ w ∈ Ts, w.before args s = true) (hin : ∀ w ∈ u_ws C T N, w ∈ Ts) (hown : s.vm.findClass own = some m.cls) (hK : va_K D vwCl (gtys cy) s) (hG : gG D cy ad A H0 h g H locs) {o : Nat} (ho : o < gO) (hc : vwCl[ci]? = some (C, T, N)) (hk : gK o = ci) (hci : ci < 12) (k : Nat) (hkN : k < N) (hkM : k < gM o) {r : Nat} (hr : gR o k = some r) (hlink : (Cond.fieldLink own index (T k).1 (T k).2.1 (T k).2.2.1).before args s = true) (hdg : decode cc pc = .ok (.getfield index, 3))
    (kk : W p l e R s m args below meth c H locs cells slots Q (F0 m (pc + 3) ls (.ref (ad r) :: rest))) : W p l e R s m args below meth c H locs cells slots Q (F0 m pc ls (.ref (ad o) :: rest)) :=
  g_get hexec hb hts hin hown hK hG ho hc hk hci k hkN hkM (by rw [hr]) hlink hdg kk
theorem g_alenz (hexec : p.tables.exec = Jvm.exec) (hb : c.code = cc) (hK : va_K D vwCl (gtys cy) s) (hG : gG D cy ad A H0 h g H locs) {o : Nat} (ho : o < gO) (hk : gK o = 14) {v : Int32} (hv : Int32.ofNat (gN o) = v) (hdg : decode cc pc = .ok (.arraylength, 1)) (kk : W p l e R s m args below meth c H locs cells slots Q (F0 m (pc + 1) ls (.int v :: rest))) : W p l e R s m args below meth c H locs cells slots Q (F0 m pc ls (.ref (ad o) :: rest)) :=
  va_alen hexec hb hK hG.1 o 2 (x := (gN o, .inl (h o))) (by rw [gW_at cy ad h g ho, gE_za cy ad h g hk]) rfl hv hdg kk
theorem g_copy (hexec : p.tables.exec = Jvm.exec) (hb : c.code = cc) (hml : c.maxLocals = ls.size) {own : String} {index : Nat} (hown : s.vm.findClass own = some m.cls) (hlink : (Cond.methodLink own index arraycopyName).before args s = true) (hnat : (Cond.native arraycopyName).before args s = true) (hstat : (Cond.static arraycopyName).before args s = true) (hini : (Cond.initialized "java/lang/System").before args s = true) (hK : va_K D vwCl (gtys cy) s) (hG : gG D cy ad A H0 h g H locs) {a b : Nat} (hoa : a < gO) (hka : gK a = 12) {na : Nat} (hna : gN a = na) (hob : b < gO) (hkb : gK b = 12) {nb : Nat} (hnb : gN b = nb) {sp dp n : Int32} (hc : ¬ sp < 0 ∧ ¬ dp < 0 ∧ ¬ n < 0 ∧ sp.toNatClampNeg + n.toNatClampNeg ≤ na ∧ dp.toNatClampNeg + n.toNatClampNeg ≤ nb) (hframes : 1 ≤ R.frames) (hlocals : (rest.map fun v => v.category).sum + (nativeFrameWords "java/lang/System" "arraycopy" 5 + 11) ≤ R.locals) (hdg : decode cc pc = .ok (.invokestatic index, 3))
    (kk : ∀ (H1 : Heap) (locs1 : List Loc), gG D cy ad A H0 (hua h b (va_cpy (h a) (h b) sp.toNatClampNeg dp.toNatClampNeg n.toNatClampNeg)) g H1 locs1 → W p l e R s m args below meth c H1 locs1 cells slots Q (F0 m (pc + 3) ls rest)) : W p l e R s m args below meth c H locs cells slots Q (F0 m pc ls (.int n :: .int dp :: .ref (ad b) :: .int sp :: .ref (ad a) :: rest)) := by
  subst hna
  subst hnb
  exact va_copyi hexec hb hml hown hlink hnat hstat hini hK hG.1 hG.2.1 hG.2.2 a b 0 0 (f := h a) (g := h b) (ty := .int) (by rw [gW_at cy ad h g hoa, gE_ia cy ad h g hka]) (by rw [gW_at cy ad h g hob, gE_ia cy ad h g hkb]) rfl rfl rfl hc.1 hc.2.1 hc.2.2.1 hc.2.2.2.1 hc.2.2.2.2 (fun _ _ => rfl) hframes hlocals hdg (fun H1 locs1 x y z => by
    rw [gW_setf cy ad h g hkb] at x y
    exact kk H1 locs1 ⟨x, y, z⟩)
end GROWS2
/-- a truth -/
def zb (v : Int32) : Prop := v = 0 ∨ v = 1
theorem zb_n {v : Int32} (h : zb v) : narrow .boolean (.int v) = .int v := by rcases h with rfl | rfl <;> rfl
theorem zb_f {v : Int32} (h : zb v) : fits .boolean (.int v) = true := by rcases h with rfl | rfl <;> rfl
theorem zb_v {v : Int32} (h : zb v) : vp_nar .boolean v = v := by rcases h with rfl | rfl <;> rfl
theorem vp_lt {i : Int32} {n : Nat} (h : vp_in i n) : i.toNatClampNeg < n := Nat.not_le.mp fun q => h (Or.inr q)
def lpN {σ : Type} (F : (σ → Prop) → σ → Prop) : Nat → σ → Prop
  | 0 => fun _ => False
  | n + 1 => F (lpN F n)
def lpE {σ : Type} (F : (σ → Prop) → σ → Prop) (q : σ) : Prop := ∃ n, lpN F n q
/-- a loop: an invariant, and a measure that falls -/
theorem lpE_intro {σ : Type} {F : (σ → Prop) → σ → Prop} (I : σ → Prop) (μ : σ → Nat) (hs : ∀ (q : σ) (K : σ → Prop), I q → (∀ q', I q' → μ q' < μ q → K q') → F K q) (q : σ) (h : I q) : lpE F q := by
  have key : ∀ n q, μ q < n → I q → lpN F n q := by
    intro n
    induction n with
    | zero => intro q hq; omega
    | succ n ih => exact fun q hq hI => hs q _ hI (fun q' hI' hlt => ih q' (by omega) hI')
  exact ⟨μ q + 1, key _ q (by omega) h⟩
theorem g_ne {x k : Int32} {n : Int} (h : ¬ x = k) (hk : k.toInt = n) : x.toInt ≠ n := fun q => h (Int32.toInt_inj.mp (q.trans hk.symm))
theorem g_lkd {l : List (Int × Int)} {d x : Int} (h : ∀ q ∈ l, x ≠ q.1) : Op.lookupswitch.offset l d x = d := by
  induction l with
  | nil => rfl
  | cons a r ih =>
    rw [Op.lookupswitch.offset_cons, if_neg (fun q => h a List.mem_cons_self q.symm)]
    exact ih (fun q hq => h q (List.mem_cons_of_mem _ hq))

def nestW : List Cond := [.methodLinkNest RX0 27 yX10_within "OldWorks", .methodLinkNest RX1 11 yX0_init "OldWorks", .methodLinkNest RX1 93 yX10_within "OldWorks", .methodLinkNest RX3 79 yX10_within "OldWorks", .methodLinkNest RX5 98 yX10_within "OldWorks", .methodLinkNest RX9 52 yX10_within "OldWorks"]
def gNw (U : State) : Prop := ∀ w ∈ nestW, va_Nw w U
theorem gNw.same {u U : State} (h : u.vm = U.vm) (hn : gNw u) : gNw U := fun w hw => va_Nw.same ((by decide +kernel : ∀ w ∈ nestW, w.onTables = true) w hw) h (hn w hw)
theorem gNw.warm {s U : State} (hW : s.WarmedH U.vm) (hn : gNw s) : gNw U := by
  intro w hw
  have h0 := hn w hw
  simp only [nestW, List.mem_cons, List.not_mem_nil, or_false] at hw
  rcases hw with rfl | rfl | rfl | rfl | rfl | rfl <;> exact va_Nw.warmM hW h0
/-- a method's start, and its end -/
def gI (D : va_G) (cy : Nat → ClassId) (ad : Nat → Nat) (h : HI) (g : HL) (sz : Nat) : State → Prop := fun U => U.heap.size = sz ∧ va_P D vwCl (gW cy ad h g) U.heap ∧ va_K D vwCl (gtys cy) U ∧ va_D (fun _ => True) (gW cy ad h g) ∧ gNw U
def gB (D : va_G) (cy : Nat → ClassId) (ad : Nat → Nat) (sz : Nat) : HI × HL → State → Prop := fun u t => va_P D vwCl (gW cy ad u.1 u.2) t.heap ∧ va_D (gA ad sz) (gW cy ad u.1 u.2)
theorem g_B {D : va_G} {cy : Nat → ClassId} {ad : Nat → Nat} {sz : Nat} {H0 H : Heap} {h : HI} {g : HL} {locs : List Loc} {t : State} (ht : t.heap = H) (hG : gG D cy ad (gA ad sz) H0 h g H locs) : gB D cy ad sz (h, g) t := ⟨by rw [ht]; exact hG.1, hG.2.1⟩
theorem gA_self {cy : Nat → ClassId} {ad : Nat → Nat} {sz : Nat} {h : HI} {g : HL} {A : Nat → Prop} (hD : va_D A (gW cy ad h g)) : va_D (gA ad sz) (gW cy ad h g) := by
  refine ⟨hD.1, fun k q hq => ?_⟩
  have hk : k < gO := by
    have := (List.getElem?_eq_some_iff.mp hq).1
    rw [gW_len] at this
    exact this
  rw [gW_at cy ad h g hk] at hq
  cases hq
  exact Or.inl ⟨k, hk, rfl⟩
theorem gI_blind {D : va_G} {cy : Nat → ClassId} {ad : Nat → Nat} {h : HI} {g : HL} {sz : Nat} {av : List Value} : FrameBlind (va_Pc av (gI D cy ad h g sz)) := by
  intro a U g0 mk q
  obtain ⟨q0, q1, qP, qK, qD, qN⟩ := q
  exact ⟨q0, q1, qP, va_K.moved (u := U) (U := U.calling g0 mk a) (Vm.Alike.refl U.vm) qK, qD, gNw.same (u := U) (U := U.calling g0 mk a) rfl qN⟩
section GCALLS
variable {p : Program} {l : Launch} {e : Env} {R : Room} {s : State} {m : MethodId} {args : Array Value} {below : List Frame} {meth : Method} {c : Code} {H : Heap} {locs : List Loc} {cells slots : Nat} {Q : State → Prop}
variable {cc : ByteArray} {pc : Nat} {ls : Array Slot} {rest st0 : List Value} {D : va_G} {H0 : Heap} {cy : Nat → ClassId} {ad : Nat → Nat} {h : HI} {g : HL} {A : Nat → Prop}
variable {y : MethodName} {bytes : ByteArray} {maxL nL n index : Nat} {ret : Option FieldType} {ws : List Cond} {rm : Room} {Qc : Array Value → State → Outcome → State → Prop} {Ts : List Cond} {own C : String}
theorem gI_start {av : List Value} (hK : va_K D vwCl (gtys cy) s) (hNw : gNw s) (hG : gG D cy ad A H0 h g H locs) : ∀ U : State, U.heap = H → s.WarmedH U.vm → va_Pc av (gI D cy ad h g H.size) av.toArray U :=
  fun U hU hW => ⟨rfl, by rw [hU], by rw [hU]; exact hG.1, va_K.moved hW.alike hK, hG.2.1.weaken (fun _ _ _ _ => trivial), hNw.warm hW⟩
theorem g_runV {As : List Value} {T : u_T} {N ci o : Nat} (S : CallFix p m c cc nL s args Ts own) (hM : Met l y ws rm (va_Pc (.ref (ad o) :: As) (gI D cy ad h g H.size)) Qc 0 0 (gA ad H.size)) (cw : CallW R s args own C index y bytes maxL ret ws rm 0 0 n) (hK : va_K D vwCl (gtys cy) s) (hNw : gNw s) (hG : gG D cy ad A H0 h g H locs) (ho : o < gO) (hc : vwCl[ci]? = some (C, T, N)) (hk : gK o = ci) (hci : ci < 12) (hst : st0 = As.reverse ++ .ref (ad o) :: rest) (hn : As.length = n) (hsize : ls.size = nL) (hg : (F0 m pc ls st0).method = m) (hW : 2 * (F0 m pc ls st0).monitorRoom + (rest.map fun v => v.category).sum ≤ 8) (hdg : decode cc pc = .ok (.invokevirtual index, 3)) (hf : cells ≤ R.cells ∧ slots ≤ R.slots) :
    va_Run p l e R s m args below meth c H locs cells slots 0 0 (F0 m pc ls st0) rest (Qc (Value.ref (ad o) :: As).toArray) (gA ad H.size) :=
  va_runV (As := As) (rest := rest) S hM cw ⟨gI_blind, va_recv (q := (C, T, N)) hK hG.1 hc (q0 := o) (fs := gF ad h o) (by rw [gW_at cy ad h g ho, gE_obj cy ad h g hk hci]), gI_start hK hNw hG⟩ hg hn hsize hst hW hdg hf
theorem g_runS {As : List Value} (S : CallFix p m c cc nL s args Ts own) (hM : Met l y ws rm (va_Pc As (gI D cy ad h g H.size)) Qc 0 0 (gA ad H.size)) (cw : CallB R s args own index y bytes maxL ret ws rm 0 0 n ∧ (Cond.static y).before args s = true) (hK : va_K D vwCl (gtys cy) s) (hNw : gNw s) (hG : gG D cy ad A H0 h g H locs) (hst : st0 = As.reverse ++ rest) (hn : As.length = n) (hsize : ls.size = nL) (hg : (F0 m pc ls st0).method = m) (hW : 2 * (F0 m pc ls st0).monitorRoom + (rest.map fun v => v.category).sum ≤ 8) (hdg : decode cc pc = .ok (.invokestatic index, 3)) (hf : cells ≤ R.cells ∧ slots ≤ R.slots) :
    va_Run p l e R s m args below meth c H locs cells slots 0 0 (F0 m pc ls st0) rest (Qc As.toArray) (gA ad H.size) :=
  va_runS (As := As) (rest := rest) S hM cw ⟨gI_blind, gI_start hK hNw hG⟩ hg hn hsize hst hW hdg hf
theorem g_runSN {As : List Value} {host : String} (S : CallFix p m c cc nL s args Ts own) (hM : Met l y ws rm (va_Pc As (gI D cy ad h g H.size)) Qc 0 0 (gA ad H.size)) (cw : va_CN R s args own index y host bytes maxL ret ws rm 0 0 n ∧ (Cond.static y).before args s = true ∧ True) (hK : va_K D vwCl (gtys cy) s) (hNw : gNw s) (hG : gG D cy ad A H0 h g H locs) (hst : st0 = As.reverse ++ rest) (hn : As.length = n) (hsize : ls.size = nL) (hg : (F0 m pc ls st0).method = m) (hW : 2 * (F0 m pc ls st0).monitorRoom + (rest.map fun v => v.category).sum ≤ 8) (hdg : decode cc pc = .ok (.invokestatic index, 3)) (hf : cells ≤ R.cells ∧ slots ≤ R.slots) :
    va_Run p l e R s m args below meth c H locs cells slots 0 0 (F0 m pc ls st0) rest (Qc As.toArray) (gA ad H.size) :=
  va_runSN (As := As) (rest := rest) S hM cw ⟨gI_blind, gI_start hK hNw hG⟩ hg hn hsize hst hW hdg hf
variable {a : Array Value}
theorem g_next {u : HI × HL} {t : State} {H1 : Heap} {locs1 : List Loc} (hG : gG D cy ad (gA ad H0.size) H0 h g H locs) (ht : t.heap = H1) (hb : gB D cy ad H.size u t) (hS : va_S (gA ad H0.size) H0 H1 locs1) : gG D cy ad (gA ad H0.size) H0 u.1 u.2 H1 locs1 :=
  ⟨by rw [← ht]; exact hb.1, hb.2.weaken (fun _ _ _ h => gA.le hG.2.2.1 _ h), hS⟩
theorem g_calli {P : Int32 → HI → HL → Prop} (hr : va_Run p l e R s m args below meth c H locs cells slots 0 0 (F0 m pc ls st0) rest (va_Qi (fun (r : Int32) (u : HI × HL) => P r u.1 u.2) (gB D cy ad H.size) (gA ad H.size) a) (gA ad H.size)) (hG : gG D cy ad (gA ad H0.size) H0 h g H locs)
    (kk : ∀ (r : Int32) (h1 : HI) (g1 : HL) (H1 : Heap) (locs1 : List Loc), P r h1 g1 → gG D cy ad (gA ad H0.size) H0 h1 g1 H1 locs1 → W p l e R s m args below meth c H1 locs1 cells slots Q (F0 m (pc + 3) ls (.int r :: rest))) : W p l e R s m args below meth c H locs cells slots Q (F0 m pc ls st0) :=
  va_calli hr hG.2.2 (fun q _ h => gA.le hG.2.2.1 q h) (fun q h => gA.le hG.2.2.1 q h) (fun r u t H1 locs1 ht _ hp hb _ _ hS => kk r u.1 u.2 H1 locs1 hp (g_next hG ht hb hS))
theorem g_callz {P : Int32 → HI → HL → Prop} (hr : va_Run p l e R s m args below meth c H locs cells slots 0 0 (F0 m pc ls st0) rest (va_Qi (fun (r : Int32) (u : HI × HL) => zb r ∧ P r u.1 u.2) (gB D cy ad H.size) (gA ad H.size) a) (gA ad H.size)) (hG : gG D cy ad (gA ad H0.size) H0 h g H locs)
    (kk : ∀ (r : Int32) (h1 : HI) (g1 : HL) (H1 : Heap) (locs1 : List Loc), zb r → P r h1 g1 → gG D cy ad (gA ad H0.size) H0 h1 g1 H1 locs1 → W p l e R s m args below meth c H1 locs1 cells slots Q (F0 m (pc + 3) ls (.int r :: rest))) : W p l e R s m args below meth c H locs cells slots Q (F0 m pc ls st0) :=
  va_calli hr hG.2.2 (fun q _ h => gA.le hG.2.2.1 q h) (fun q h => gA.le hG.2.2.1 q h) (fun r u t H1 locs1 ht _ hp hb _ _ hS => kk r u.1 u.2 H1 locs1 hp.1 hp.2 (g_next hG ht hb hS))
theorem g_calll {P : Int64 → HI → HL → Prop} (hr : va_Run p l e R s m args below meth c H locs cells slots 0 0 (F0 m pc ls st0) rest (va_Ql (fun (r : Int64) (u : HI × HL) => P r u.1 u.2) (gB D cy ad H.size) (gA ad H.size) a) (gA ad H.size)) (hG : gG D cy ad (gA ad H0.size) H0 h g H locs)
    (kk : ∀ (r : Int64) (h1 : HI) (g1 : HL) (H1 : Heap) (locs1 : List Loc), P r h1 g1 → gG D cy ad (gA ad H0.size) H0 h1 g1 H1 locs1 → W p l e R s m args below meth c H1 locs1 cells slots Q (F0 m (pc + 3) ls (.long r :: rest))) : W p l e R s m args below meth c H locs cells slots Q (F0 m pc ls st0) :=
  va_calll hr hG.2.2 (fun q _ h => gA.le hG.2.2.1 q h) (fun q h => gA.le hG.2.2.1 q h) (fun r u t H1 locs1 ht _ hp hb _ _ hS => kk r u.1 u.2 H1 locs1 hp (g_next hG ht hb hS))
theorem g_callv {P : HI → HL → Prop} (hr : va_Run p l e R s m args below meth c H locs cells slots 0 0 (F0 m pc ls st0) rest (va_Qv (fun (u : HI × HL) => P u.1 u.2) (gB D cy ad H.size) (gA ad H.size) a) (gA ad H.size)) (hG : gG D cy ad (gA ad H0.size) H0 h g H locs)
    (kk : ∀ (h1 : HI) (g1 : HL) (H1 : Heap) (locs1 : List Loc), P h1 g1 → gG D cy ad (gA ad H0.size) H0 h1 g1 H1 locs1 → W p l e R s m args below meth c H1 locs1 cells slots Q (F0 m (pc + 3) ls rest)) : W p l e R s m args below meth c H locs cells slots Q (F0 m pc ls st0) :=
  va_callv hr hG.2.2 (fun q _ h => gA.le hG.2.2.1 q h) (fun q h => gA.le hG.2.2.1 q h) (fun u t H1 locs1 ht _ hp hb _ _ hS => kk u.1 u.2 H1 locs1 hp (g_next hG ht hb hS))
theorem g_callr {P : Nat → HI → HL → Prop} (hr : va_Run p l e R s m args below meth c H locs cells slots 0 0 (F0 m pc ls st0) rest (va_Qr (fun (u : Nat × HI × HL) => P u.1 u.2.1 u.2.2) (fun (u : Nat × HI × HL) (a : Nat) (t : State) => a = ad u.1 ∧ gB D cy ad H.size u.2 t) (gA ad H.size) a) (gA ad H.size)) (hG : gG D cy ad (gA ad H0.size) H0 h g H locs)
    (kk : ∀ (r : Nat) (h1 : HI) (g1 : HL) (H1 : Heap) (locs1 : List Loc), P r h1 g1 → gG D cy ad (gA ad H0.size) H0 h1 g1 H1 locs1 → W p l e R s m args below meth c H1 locs1 cells slots Q (F0 m (pc + 3) ls (.ref (ad r) :: rest))) : W p l e R s m args below meth c H locs cells slots Q (F0 m pc ls st0) :=
  va_callr hr hG.2.2 (fun q _ h => gA.le hG.2.2.1 q h) (fun q h => gA.le hG.2.2.1 q h) (fun u ra t H1 locs1 ht _ hp hb _ _ hS => by
    obtain ⟨rfl, hb⟩ := hb
    exact kk u.1 u.2.1 u.2.2 H1 locs1 hp (g_next hG ht hb hS))
end GCALLS

