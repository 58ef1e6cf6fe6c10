/-! THE REFERENCE FINDS FIRST -/
theorem KJ.f6 {S : Nat → Nat → Prop} {h h' : HI} (J : KJ S h h') (n : ∀ k, ¬ S 136 k) : h' 136 = h 136 := funext fun k => J 136 k (n k)
noncomputable def fsel (f : Nat → Int32) (p : Nat) (x : Int32) : Int32 := if x = 2 then fMn f p else if x = 0 then fLo f p else fHi f p
/-! FIRST, the call -/
def AFR (f : Nat → Int32) (m : Nat) (x1 x2 r : Int32) : Prop := (¬ (isRow (nI m) x1 ∧ bd 0 2 x2) ∧ r = -2) ∨ ∃ p : Nat, p < m ∧ x1 = nI p ∧ bd 0 2 x2 ∧ r = fsel f p x2
theorem AFR.un {f : Nat → Int32} {m : Nat} (hm : m ≤ 24) {x1 x2 r s : Int32} (a : AFR f m x1 x2 r) (b : AFR f m x1 x2 s) : r = s := by
  rcases a with ⟨a1, rfl⟩ | ⟨p, hp, rfl, a1, rfl⟩
  · rcases b with ⟨-, rfl⟩ | ⟨p, hp, rfl, b1, -⟩
    · rfl
    · exact absurd ⟨row_of hp (by omega), b1⟩ a1
  · rcases b with ⟨b1, -⟩ | ⟨p', hp', e1, -, rfl⟩
    · exact absurd ⟨row_of hp (by omega), a1⟩ b1
    · have q1 : p = p' := (nI_eq (by omega) (by omega)).mp e1
      rw [q1]
