/-! THE TABLES, over the pure heap -/
/-- table o has m rows of w cells, room for M -/
def TT (h : HI) (o m w M : Nat) : Prop := h o 1 = nI w ∧ h o 2 = nI M ∧ h o 3 = nI m ∧ m ≤ M ∧ gN (o + 1) = M * w ∧ 0 < w ∧ w ≤ 20 ∧ 0 < M ∧ M ≤ 100
