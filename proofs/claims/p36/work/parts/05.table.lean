/-! THE TABLES, over the pure heap -/
/-- table o has m rows of w cells, room for M -/
def TT (h : HI) (o m w M : Nat) : Prop := h o 1 = nI w ∧ h o 2 = nI M ∧ h o 3 = nI m ∧ m ≤ M ∧ gN (o + 1) = M * w ∧ 0 < w ∧ w ≤ 20 ∧ 0 < M ∧ M ≤ 100
theorem nI_cases (x : Int32) : x < 0 ∨ ∃ n : Nat, n < 2 ^ 31 ∧ x = nI n := by
  by_cases h : x < 0
  · exact Or.inl h
  · exact Or.inr (nI_of h)
theorem sm_mul {a b A B : Nat} (ha : a ≤ A) (hb : b ≤ B) : a * b ≤ A * B := Nat.mul_le_mul ha hb
theorem t_at {o m w M : Nat} {h : HI} {g : HL} {Q : Int32 → HI → HL → Prop} (T : TT h o m w M) {a b : Nat} (ha : a < m) (hb : b < w) (hQ : Q (h (o + 1) (a * w + b)) h g) : w_X8_at o (nI a) (nI b) h g Q := by
  obtain ⟨h1, h2, h3, hm, hN, hw0, hw, hM0, hM⟩ := T
  have hlt : a * w + b < M * w := by
    have : (a + 1) * w ≤ M * w := Nat.mul_le_mul_right w (by omega)
    rw [Nat.add_mul, Nat.one_mul] at this
    omega
  have hMw : M * w ≤ 100 * 20 := Nat.mul_le_mul hM hw
  have e : nI a * nI w + nI b = nI (a * w + b) := by rw [pk_mul, nI_add]
  unfold w_X8_at
  rw [h1, h3, hN]
  refine ⟨fun c => absurd c (nI_pos (by omega)), fun _ => ⟨fun c => absurd c (nI_ge ha (by omega)), fun _ => ⟨fun c => absurd c (nI_pos (by omega)), fun _ => ⟨fun _ x ex => ?_, fun c => absurd (nI_lt hb (by omega)) c⟩⟩⟩⟩
  rw [e] at ex
  subst ex
  refine ⟨fun c => absurd c (nI_ge hlt (by omega)), fun _ => ⟨vp_in_nI hlt (by omega), ?_⟩⟩
  rw [nI_clamp (by omega)]
  exact hQ
theorem t_rows {o : Nat} {h : HI} {g : HL} {Q : Int32 → HI → HL → Prop} (hQ : Q (h o 3) h g) : w_X8_rows o h g Q := hQ
