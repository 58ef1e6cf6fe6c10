/-! SUM, LIFE, STANDS: the answers, and the class -/
def ASM (f : Nat → Int32) (mc : Nat) (x1 x2 x3 r : Int32) : Prop := (¬ (isRow (nI mc) x1 ∧ bd 0 99 x2 ∧ bd 0 2 x3) ∧ r = -2100000000) ∨ ∃ c y : Nat, c < mc ∧ y ≤ 99 ∧ x1 = nI c ∧ x2 = nI y ∧ bd 0 2 x3 ∧ ((x3 = 2 ∧ ((HLD f c id y ∧ r = 1) ∨ (¬ HLD f c id y ∧ r = 0))) ∨ (¬ x3 = 2 ∧ ¬ SZD f c id (nCh f c) ∧ r = -2000000000) ∨ (¬ x3 = 2 ∧ SZD f c id (nCh f c) ∧ r.toInt = (if x3 = 0 then sumL f c id y (nCh f c) else sumH f c id y (nCh f c))))
theorem ASM.un {f : Nat → Int32} {mc : Nat} (hm : mc ≤ 16) {x1 x2 x3 r s : Int32} (a : ASM f mc x1 x2 x3 r) (b : ASM f mc x1 x2 x3 s) : r = s := by
  rcases a with ⟨a1, rfl⟩ | ⟨c, y, hc, hy, rfl, rfl, b3, a⟩
  · rcases b with ⟨-, rfl⟩ | ⟨c, y, hc, hy, rfl, rfl, b3, -⟩
    · rfl
    · exact absurd ⟨row_of hc (by omega), bd_of (by omega) (by omega) (by omega), b3⟩ a1
  · rcases b with ⟨b1, -⟩ | ⟨c', y', hc', hy', e1, e2, -, b⟩
    · exact absurd ⟨row_of hc (by omega), bd_of (by omega) (by omega) (by omega), b3⟩ b1
    · have q1 : c = c' := (nI_eq (by omega) (by omega)).mp e1
      have q2 : y = y' := (nI_eq (by omega) (by omega)).mp e2
      subst q1; subst q2
      rcases a with ⟨a0, a⟩ | ⟨a0, a1, rfl⟩ | ⟨a0, a1, a2⟩
      · rcases b with ⟨-, b⟩ | ⟨b0, -⟩ | ⟨b0, -⟩
        · rcases a with ⟨a1, rfl⟩ | ⟨a1, rfl⟩
          · rcases b with ⟨-, rfl⟩ | ⟨b1, -⟩
            · rfl
            · exact absurd a1 b1
          · rcases b with ⟨b1, -⟩ | ⟨-, rfl⟩
            · exact absurd b1 a1
            · rfl
        · exact absurd a0 b0
        · exact absurd a0 b0
      · rcases b with ⟨b0, -⟩ | ⟨-, -, rfl⟩ | ⟨-, b1, -⟩
        · exact absurd b0 a0
        · rfl
        · exact absurd b1 a1
      · rcases b with ⟨b0, -⟩ | ⟨-, b1, -⟩ | ⟨-, -, b2⟩
        · exact absurd b0 a0
        · exact absurd a1 b1
        · exact Int32.toInt_inj.mp (a2.trans b2.symm)
def ALF (f : Nat → Int32) (mc : Nat) (x1 x2 r : Int32) : Prop := (¬ (isRow (nI mc) x1 ∧ bd 0 99 x2) ∧ r = -2) ∨ ∃ c y L : Nat, c < mc ∧ y ≤ 99 ∧ x1 = nI c ∧ x2 = nI y ∧ r = nI L ∧ y + L ≤ 100 ∧ (∀ j, j < L → HLD f c id (y + j)) ∧ (y + L < 100 → ¬ HLD f c id (y + L))
theorem ALF.un {f : Nat → Int32} {mc : Nat} (hm : mc ≤ 16) {x1 x2 r s : Int32} (a : ALF f mc x1 x2 r) (b : ALF f mc x1 x2 s) : r = s := by
  rcases a with ⟨a1, rfl⟩ | ⟨c, y, L, hc, hy, rfl, rfl, rfl, l1, l2, l3⟩
  · rcases b with ⟨-, rfl⟩ | ⟨c, y, L, hc, hy, rfl, rfl, -⟩
    · rfl
    · exact absurd ⟨row_of hc (by omega), bd_of (by omega) (by omega) (by omega)⟩ a1
  · rcases b with ⟨b1, -⟩ | ⟨c', y', M, hc', hy', e1, e2, rfl, m1, m2, m3⟩
    · exact absurd ⟨row_of hc (by omega), bd_of (by omega) (by omega) (by omega)⟩ b1
    · have q1 : c = c' := (nI_eq (by omega) (by omega)).mp e1
      have q2 : y = y' := (nI_eq (by omega) (by omega)).mp e2
      subst q1; subst q2
      rcases Nat.lt_trichotomy L M with k | k | k
      · exact absurd (m2 L k) (l3 (by omega))
      · rw [k]
      · exact absurd (l2 M k) (m3 (by omega))
def hasP (f : Nat → Int32) (c p : Nat) : Prop := ∃ k, k < nCh f c ∧ lkP f c k = p
def subP (q p : Nat) (t : Nat) : Nat := if t = q then p else t
def STC (f : Nat → Int32) (p q y c : Nat) : Prop := hasP f c q → ¬ hasP f c p ∧ HLD f c (subP q p) y
def AST (f : Nat → Int32) (m mc : Nat) (x1 x2 x3 r : Int32) : Prop := (¬ (isRow (nI m) x1 ∧ isRow (nI m) x2 ∧ ¬ x1 = x2 ∧ bd 0 99 x3) ∧ r = -2) ∨ ∃ p q y : Nat, p < m ∧ q < m ∧ y ≤ 99 ∧ x1 = nI p ∧ x2 = nI q ∧ x3 = nI y ∧ ¬ x1 = x2 ∧ ((r = 1 ∧ ∀ c, c < mc → STC f p q y c) ∨ (r = 0 ∧ ∃ c, c < mc ∧ ¬ STC f p q y c))
theorem AST.un {f : Nat → Int32} {m mc : Nat} (hm : m ≤ 24) {x1 x2 x3 r s : Int32} (a : AST f m mc x1 x2 x3 r) (b : AST f m mc x1 x2 x3 s) : r = s := by
  rcases a with ⟨a1, rfl⟩ | ⟨p, q, y, hp, hq, hy, rfl, rfl, rfl, ne, a⟩
  · rcases b with ⟨-, rfl⟩ | ⟨p, q, y, hp, hq, hy, rfl, rfl, rfl, ne, -⟩
    · rfl
    · exact absurd ⟨row_of hp (by omega), row_of hq (by omega), ne, bd_of (by omega) (by omega) (by omega)⟩ a1
  · rcases b with ⟨b1, -⟩ | ⟨p', q', y', hp', hq', hy', e1, e2, e3, -, b⟩
    · exact absurd ⟨row_of hp (by omega), row_of hq (by omega), ne, bd_of (by omega) (by omega) (by omega)⟩ b1
    · have q1 : p = p' := (nI_eq (by omega) (by omega)).mp e1
      have q2 : q = q' := (nI_eq (by omega) (by omega)).mp e2
      have q3 : y = y' := (nI_eq (by omega) (by omega)).mp e3
      subst q1; subst q2; subst q3
      rcases a with ⟨rfl, a⟩ | ⟨rfl, c, hc, a⟩
      · rcases b with ⟨rfl, -⟩ | ⟨rfl, c, hc, b⟩
        · rfl
        · exact absurd (a c hc) b
      · rcases b with ⟨rfl, b⟩ | ⟨rfl, -⟩
        · exact absurd (b c hc) a
        · rfl
theorem CHf.n1 {f : Nat → Int32} {c m : Nat} (C : CHf f c id m) (hm : m ≤ 24) : ∀ k, k < nCh f c → (nI (lkP f c k) = (-1 : Int32) → (-1 : Int32) = nI (id (lkP f c k))) ∧ (¬ nI (lkP f c k) = (-1 : Int32) → id (lkP f c k) = lkP f c k) := fun k hk =>
  ⟨fun e => absurd e (nI_nm (by have := (C.2.2.2.2 k hk).1; omega)), fun _ => rfl⟩
theorem FTK.jj {S : Nat → Prop} {h h' : HI} {f : Nat → Int32} {c : Nat} {qp : Nat → Nat} (x : FTK h f c qp) (J : JJ S h h') (n : ∀ q, 85 ≤ q → ¬ S q) : FTK h' f c qp := by
  unfold FTK
  rw [J 85 (n 85 (by omega)), J 86 (n 86 (by omega)), J 87 (n 87 (by omega)), J 88 (n 88 (by omega))]; exact x
