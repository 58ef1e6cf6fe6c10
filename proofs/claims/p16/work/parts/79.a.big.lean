/-! BIG NUMBERS OF THE CLASS: o its fields, behind it its digits -/
def GC (h : HI) (o W v : Nat) : Prop := h o 1 = nI W ∧ dgs (h (o + 1)) 0 W ∧ vl (h (o + 1)) 0 W = v ∧ 1 ≤ W ∧ ∀ V, W = V + 1 → ¬ h (o + 1) (0 + V) = 0
theorem GC.fr {h h' : HI} {o q W v : Nat} (x : GC h q W v) (J : JJ (SB o) h h') (n : ¬ SB o q ∧ ¬ SB o (q + 1)) : GC h' q W v := by
  unfold GC
  rw [J q n.1, J (q + 1) n.2]; exact x
theorem GC.jj {S : Nat → Prop} {h h' : HI} {q W v : Nat} (x : GC h q W v) (J : JJ S h h') (n : ¬ S q ∧ ¬ S (q + 1)) : GC h' q W v := by
  unfold GC
  rw [J q n.1, J (q + 1) n.2]; exact x
theorem GC.lo {h : HI} {o W v : Nat} (x : GC h o W v) : ∃ V, W = V + 1 ∧ 2 ^ (30 * V) ≤ v ∧ v < 2 ^ (30 * W) := by
  obtain ⟨-, d, e, h1, z⟩ := x
  obtain ⟨V, rfl⟩ : ∃ V, W = V + 1 := ⟨W - 1, by omega⟩
  refine ⟨V, rfl, ?_, ?_⟩
  · rw [← e]; exact vl_le d (z V rfl)
  · rw [← e]; exact vl_lt d
theorem GC.wle {h : HI} {o W v m : Nat} (x : GC h o W v) (hv : v < 2 ^ (30 * m)) : W ≤ m := by
  obtain ⟨V, rfl, h1, -⟩ := x.lo
  by_cases c : V + 1 ≤ m
  · exact c
  · have h3 : 2 ^ (30 * m) ≤ 2 ^ (30 * V) := Nat.pow_le_pow_right (by omega) (by omega)
    omega
theorem GC.lt {h : HI} {o q W v U u : Nat} (x : GC h o W v) (y : GC h q U u) (k : W < U) : v < u := by
  obtain ⟨-, -, -, h1⟩ := x.lo
  obtain ⟨V, rfl, h2, -⟩ := y.lo
  have h3 : 2 ^ (30 * W) ≤ 2 ^ (30 * V) := Nat.pow_le_pow_right (by omega) (by omega)
  omega
