/-! HALF, the class -/
/-- the odds of the works, and the loads, in the class's tables -/
theorem CX.od {h : HI} {f : Nat → Int32} (c : CX h f) : TT h 16 1 2 1 ∧ h 17 0 = f 9 ∧ h 17 1 = f 10 := by
  obtain ⟨m, T, k⟩ := c.1 7 (by omega)
  have k : m = 1 := k
  subst k
  have e := (CE.es (by decide) (by decide)).mp (c.ci (j := 7) (by omega) T)
  exact ⟨T, e 0 (by decide), e 1 (by decide)⟩
def whP (f : Nat → Int32) (p : Nat) : Nat := 1000 - ((f 9).toNatClampNeg + (f 10).toNatClampNeg * (f (20 + 5 * p + 0)).toNatClampNeg)
/-- the chance of a year, shortened by d -/
def KO (h : HI) (V : Nat) : Prop := ∃ k o d : Nat, 1 ≤ d ∧ 1 ≤ k ∧ k * d = V ∧ o * d = 1000 ∧ h 109 5 = nI k ∧ h 109 6 = nI o
theorem KO.bd {h : HI} {V : Nat} (x : KO h V) (hV : V ≤ 1000) : ∃ k o d : Nat, 1 ≤ d ∧ 1 ≤ k ∧ k ≤ 1000 ∧ 1 ≤ o ∧ o ≤ 1000 ∧ k * d = V ∧ o * d = 1000 ∧ h 109 5 = nI k ∧ h 109 6 = nI o := by
  obtain ⟨k, o, d, hd, hk, e1, e2, e5, e6⟩ := x
  have k1 : k ≤ k * d := Nat.le_mul_of_pos_right k (by omega)
  have o1 : o ≤ o * d := Nat.le_mul_of_pos_right o (by omega)
  have o0 : o ≠ 0 := fun e => by rw [e, Nat.zero_mul] at e2; omega
  exact ⟨k, o, d, hd, hk, by omega, by omega, by omega, e1, e2, e5, e6⟩
def AHA (f : Nat → Int32) (m : Nat) (x1 r : Int32) : Prop := (¬ isRow (nI m) x1 ∧ r = -2) ∨ ∃ p : Nat, p < m ∧ x1 = nI p ∧ HQ (whP f p) 1000 r
theorem AHA.un {f : Nat → Int32} {m : Nat} (hm : m ≤ 24) {x1 r s : Int32} (a : AHA f m x1 r) (b : AHA f m x1 s) : r = s := by
  rcases a with ⟨a1, rfl⟩ | ⟨p, hp, rfl, a1⟩
  · rcases b with ⟨-, rfl⟩ | ⟨p, hp, rfl, -⟩
    · rfl
    · exact absurd (row_of hp (by omega)) a1
  · rcases b with ⟨b1, -⟩ | ⟨p', hp', e1, b1⟩
    · exact absurd (row_of hp (by omega)) b1
    · have q1 : p = p' := (nI_eq (by omega) (by omega)).mp e1
      subst q1; exact a1.un b1
