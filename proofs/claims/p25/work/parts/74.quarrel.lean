/-! QUARREL: how many sayings do not allow a size, and the size that the fewest do not -/
noncomputable def dn (f : Nat → Int32) (z : Int) (s : Nat) : Bool := !(decide (cLo f s ≤ z) && decide (z ≤ cHi f s))
theorem dn_iff {f : Nat → Int32} {z : Int} {s : Nat} : dn f z s = true ↔ ¬ (cLo f s ≤ z ∧ z ≤ cHi f s) := by
  unfold dn
  by_cases a : cLo f s ≤ z
  · by_cases b : z ≤ cHi f s
    · rw [decide_eq_true a, decide_eq_true b]; exact ⟨fun q => absurd q (by decide), fun q => absurd ⟨a, b⟩ q⟩
    · rw [decide_eq_true a, decide_eq_false b]; exact ⟨fun _ q => b q.2, fun _ => rfl⟩
  · rw [decide_eq_false a]; exact ⟨fun _ q => a q.1, fun _ => rfl⟩
noncomputable def cq (f : Nat → Int32) (p : Nat) (z : Int) (k : Nat) : Nat := (ofL f p k).countP (dn f z)
theorem cq_y {f : Nat → Int32} {p k : Nat} {z : Int} (o : isO f p k) (d : dn f z k = true) : cq f p z (k + 1) = cq f p z k + 1 := by
  unfold cq
  rw [ofL_y o, List.countP_append, List.countP_singleton, if_pos d]
theorem cq_n {f : Nat → Int32} {p k : Nat} {z : Int} (o : ¬ (isO f p k ∧ dn f z k = true)) : cq f p z (k + 1) = cq f p z k := by
  unfold cq
  by_cases q : isO f p k
  · rw [ofL_y q, List.countP_append, List.countP_singleton, if_neg (fun d => o ⟨q, d⟩), Nat.add_zero]
  · rw [ofL_n q]
theorem cq_le {f : Nat → Int32} {p k : Nat} {z : Int} : cq f p z k ≤ k := Nat.le_trans List.countP_le_length ofL_len
theorem cq_mono {f : Nat → Int32} {p n : Nat} {z z' : Int} (h : ∀ s, s < n → isO f p s → dn f z' s = true → dn f z s = true) : cq f p z' n ≤ cq f p z n :=
  List.countP_mono_left (fun s hs d => h s (ofL_mem.mp hs).1 (ofL_mem.mp hs).2 d)
theorem cq_up {f : Nat → Int32} {p : Nat} {z : Int} : ∀ {a b : Nat}, a ≤ b → cq f p z a ≤ cq f p z b
  | a, 0, h => by rw [show a = 0 by omega]; exact Nat.le_refl _
  | a, b + 1, h => by
    by_cases e : a = b + 1
    · rw [e]; exact Nat.le_refl _
    · have ih := cq_up (f := f) (p := p) (z := z) (a := a) (b := b) (by omega)
      by_cases q : isO f p b ∧ dn f z b = true
      · rw [cq_y q.1 q.2]; omega
      · rw [cq_n q]; exact ih
def lex (f : Nat → Int32) (p n : Nat) (z z' : Int) : Prop := cq f p z n < cq f p z' n ∨ (cq f p z n = cq f p z' n ∧ z ≤ z')
theorem lex.rf {f : Nat → Int32} {p n : Nat} {z : Int} : lex f p n z z := .inr ⟨rfl, Int.le_refl _⟩
theorem lex.tr {f : Nat → Int32} {p n : Nat} {a b c : Int} (x : lex f p n a b) (y : lex f p n b c) : lex f p n a c := by
  unfold lex at *; omega
def BST (f : Nat → Int32) (p n : Nat) (z : Int) : Prop := (∃ i, 0 ≤ i ∧ i ≤ fM f p - 1 ∧ z = fB f p + fD f p * i) ∧ ∀ i, 0 ≤ i → i ≤ fM f p - 1 → lex f p n z (fB f p + fD f p * i)
theorem BST.un {f : Nat → Int32} {p n : Nat} {z z' : Int} (x : BST f p n z) (y : BST f p n z') : z = z' := by
  obtain ⟨⟨i, i0, i1, e⟩, k⟩ := x
  obtain ⟨⟨i', i0', i1', e'⟩, k'⟩ := y
  have a := k i' i0' i1'
  have b := k' i i0 i1
  rw [← e'] at a
  rw [← e] at b
  unfold lex at a b; omega
theorem cand {f : Nat → Int32} {p n : Nat} (k : FOK f p) : ∀ i : Nat, (i : Int) ≤ fM f p - 1 → ∃ j : Int, 0 ≤ j ∧ j ≤ i ∧ cq f p (fB f p + fD f p * j) n ≤ cq f p (fB f p + fD f p * i) n ∧ (j = 0 ∨ ∃ s, s < n ∧ isO f p s ∧ pfN (fB f p) (fD f p) (cLo f s) = j)
  | 0, _ => ⟨0, by omega, by omega, Nat.le_refl _, .inl rfl⟩
  | i + 1, hi => by
    by_cases q : ∃ s, s < n ∧ isO f p s ∧ pfN (fB f p) (fD f p) (cLo f s) = ((i + 1 : Nat) : Int)
    · exact ⟨((i + 1 : Nat) : Int), by omega, by omega, Nat.le_refl _, .inr q⟩
    · obtain ⟨j, j0, j1, jc, jo⟩ := cand (n := n) k i (by omega)
      refine ⟨j, j0, by omega, Nat.le_trans jc (cq_mono (fun s hs o d => ?_)), jo⟩
      rw [dn_iff] at d ⊢
      intro a
      refine d ?_
      have d1 : 1 ≤ fD f p := k.2.1
      have b1 := (pfN_le (b := fB f p) (z := cLo f s) (i := ((i + 1 : Nat) : Int)) d1 (by omega)).mpr a.1
      have b2 : ¬ pfN (fB f p) (fD f p) (cLo f s) = ((i + 1 : Nat) : Int) := fun e => q ⟨s, hs, o, e⟩
      have b3 := (pfN_le (b := fB f p) (z := cLo f s) (i := (i : Int)) d1 (by omega)).mp (by omega)
      have e : fD f p * ((i + 1 : Nat) : Int) = fD f p * (i : Int) + fD f p := by
        rw [show ((i + 1 : Nat) : Int) = (i : Int) + 1 by omega, Int.mul_add, Int.mul_one]
      rw [e] at a
      exact ⟨b3, by omega⟩
theorem BST.of {f : Nat → Int32} {p n : Nat} (k : FOK f p) {z : Int} (hz : ∃ i, 0 ≤ i ∧ i ≤ fM f p - 1 ∧ z = fB f p + fD f p * i) (c0 : lex f p n z (fB f p + fD f p * 0)) (cs : ∀ s, s < n → isO f p s → pfN (fB f p) (fD f p) (cLo f s) ≤ fM f p - 1 → lex f p n z (fB f p + fD f p * pfN (fB f p) (fD f p) (cLo f s))) : BST f p n z := by
  refine ⟨hz, fun i i0 i1 => ?_⟩
  obtain ⟨m, rfl⟩ : ∃ m : Nat, i = (m : Int) := ⟨i.toNat, by omega⟩
  obtain ⟨j, j0, j1, jc, jo⟩ := cand (n := n) k m i1
  have h1 : lex f p n z (fB f p + fD f p * j) := by
    rcases jo with e | ⟨s, hs, o, e⟩
    · rw [e]; exact c0
    · rw [← e]; exact cs s hs o (by omega)
  have h2 : fD f p * j ≤ fD f p * (m : Int) := Int.mul_le_mul_of_nonneg_left j1 (by have := k.2.1; omega)
  unfold lex at h1 ⊢; omega
noncomputable def bst (f : Nat → Int32) (p : Nat) : Int := Classical.epsilon (fun z => ∃ n : Nat, f 1 = nI n ∧ n ≤ 60 ∧ BST f p n z)
/-- which saying is the w-th that does not allow z -/
def OBJ (f : Nat → Int32) (p n : Nat) (z : Int) (w r : Int32) : Prop := (∃ s, s < n ∧ isO f p s ∧ dn f z s = true ∧ w = nI (cq f p z s) ∧ r = nI s) ∨ ((∀ s, s < n → isO f p s → dn f z s = true → ¬ w = nI (cq f p z s)) ∧ r = -1)
theorem OBJ.un {f : Nat → Int32} {p n : Nat} (hn : n ≤ 60) {z : Int} {w r t : Int32} (x : OBJ f p n z w r) (y : OBJ f p n z w t) : r = t := by
  rcases x with ⟨s, hs, o, d, ew, rfl⟩ | ⟨no, rfl⟩
  · rcases y with ⟨s', hs', o', d', ew', rfl⟩ | ⟨no, rfl⟩
    · have l1 := cq_le (f := f) (p := p) (z := z) (k := s)
      have l2 := cq_le (f := f) (p := p) (z := z) (k := s')
      have e := (nI_eq (by omega) (by omega)).mp (ew.symm.trans ew')
      rcases Nat.lt_trichotomy s s' with c | c | c
      · have := cq_up (f := f) (p := p) (z := z) (a := s + 1) (b := s') c
        rw [cq_y o d] at this; omega
      · rw [c]
      · have := cq_up (f := f) (p := p) (z := z) (a := s' + 1) (b := s) c
        rw [cq_y o' d'] at this; omega
    · exact absurd ew (no s hs o d)
  · rcases y with ⟨s', hs', o', d', ew', rfl⟩ | ⟨no, rfl⟩
    · exact absurd ew' (no s' hs' o' d')
    · rfl
/-! THE CLASS -/
/-- the answer -/
def AQ (f : Nat → Int32) (m n : Nat) (x1 x2 r : Int32) : Prop := (¬ (isRow (nI m) x1 ∧ (-1 ≤ x2.toInt ∨ x2 = -3)) ∧ r = -10) ∨ ∃ p : Nat, p < m ∧ x1 = nI p ∧ ((x2 = -3 ∧ r.toInt = bst f p) ∨ (x2 = -1 ∧ r = nI (cq f p (bst f p) n)) ∨ (0 ≤ x2.toInt ∧ OBJ f p n (bst f p) x2 r))
theorem AQ.un {f : Nat → Int32} {m n : Nat} (hm : m ≤ 24) (hn : n ≤ 60) {x1 x2 r s : Int32} (a : AQ f m n x1 x2 r) (b : AQ f m n x1 x2 s) : r = s := by
  have ok : ∀ {p : Nat} {t : Int32}, ((x2 = -3 ∧ t.toInt = bst f p) ∨ (x2 = -1 ∧ t = nI (cq f p (bst f p) n)) ∨ (0 ≤ x2.toInt ∧ OBJ f p n (bst f p) x2 t)) → -1 ≤ x2.toInt ∨ x2 = -3 := by
    rintro p t (⟨e, -⟩ | ⟨e, -⟩ | ⟨e, -⟩)
    · exact .inr e
    · exact .inl (by rw [e]; decide)
    · exact .inl (by omega)
  rcases a with ⟨a1, rfl⟩ | ⟨p, hp, rfl, a⟩
  · rcases b with ⟨-, rfl⟩ | ⟨p, hp, rfl, b⟩
    · rfl
    · exact absurd ⟨row_of hp (by omega), ok b⟩ a1
  · rcases b with ⟨b1, -⟩ | ⟨p', hp', e1, b⟩
    · exact absurd ⟨row_of hp (by omega), ok a⟩ b1
    · have q1 : p = p' := (nI_eq (by omega) (by omega)).mp e1
      subst q1
      rcases a with ⟨e, u⟩ | ⟨e, u⟩ | ⟨e, u⟩
      · rcases b with ⟨e', u'⟩ | ⟨e', u'⟩ | ⟨e', u'⟩
        · exact Int32.toInt_inj.mp (u.trans u'.symm)
        · rw [e] at e'; exact absurd e' (by decide)
        · rw [e] at e'; exact absurd e' (by decide)
      · rcases b with ⟨e', u'⟩ | ⟨e', u'⟩ | ⟨e', u'⟩
        · rw [e] at e'; exact absurd e' (by decide)
        · exact u.trans u'.symm
        · rw [e] at e'; exact absurd e' (by decide)
      · rcases b with ⟨e', u'⟩ | ⟨e', u'⟩ | ⟨e', u'⟩
        · rw [e'] at e; exact absurd e (by decide)
        · rw [e'] at e; exact absurd e (by decide)
        · exact u.un hn u'
