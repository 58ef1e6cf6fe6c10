/-! SUM, LIFE, STANDS, the reference -/
theorem fsel0 {f : Nat → Int32} {p : Nat} : fsel f p 0 = fLo f p := by
  unfold fsel; rw [if_neg (by decide), if_pos rfl]
theorem fsel1 {f : Nat → Int32} {p : Nat} : fsel f p 1 = fHi f p := by
  unfold fsel; rw [if_neg (by decide), if_neg (by decide)]
theorem nI_n2 {j : Nat} (h : j < 2 ^ 31) : ¬ nI j = -2 := fun e => by
  have := nI_toInt h
  rw [e, show (-2 : Int32).toInt = -2 by decide] at this
  omega
theorem CHf.n2 {f : Nat → Int32} {c m : Nat} (C : CHf f c id m) (hm : m ≤ 24) : ∀ k, k < nCh f c → (nI (lkP f c k) = (-2 : Int32) → (-1 : Int32) = nI (id (lkP f c k))) ∧ (¬ nI (lkP f c k) = (-2 : Int32) → id (lkP f c k) = lkP f c k) := fun k hk =>
  ⟨fun e => absurd e (nI_n2 (by have := (C.2.2.2.2 k hk).1; omega)), fun _ => rfl⟩
