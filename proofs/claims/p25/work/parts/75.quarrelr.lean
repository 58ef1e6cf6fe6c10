/-! QUARREL, THE REFERENCE -/
def BV (h : HI) (f : Nat → Int32) (p n : Nat) (z : Int) : Prop := (h 135 16).toInt = z ∧ h 135 17 = nI (cq f p z n)
/-- the family and the best are untouched by what SLt changes -/
theorem SLt.k {k : Nat} (h : 11 ≤ k) : ¬ SLt 135 k := by unfold SLt; omega
theorem STr.f {k : Nat} (h : 11 ≤ k ∧ k ≤ 13) : ¬ STr 135 k := by unfold STr; omega
def FG (h : HI) (f : Nat → Int32) (p : Nat) : Prop := (h 135 11).toInt = fB f p ∧ (h 135 12).toInt = fD f p ∧ (h 135 13).toInt = fM f p
theorem FG.kj {S : Nat → Nat → Prop} {h h' : HI} {f : Nat → Int32} {p : Nat} (x : FG h f p) (J : KJ S h h') (n : ∀ k, 11 ≤ k ∧ k ≤ 13 → ¬ S 135 k) : FG h' f p := by
  unfold FG
  rw [J 135 11 (n 11 (by omega)), J 135 12 (n 12 (by omega)), J 135 13 (n 13 (by omega))]; exact x
/-- the best so far, of all that was tried -/
def BQ (h : HI) (f : Nat → Int32) (p n i : Nat) : Prop := ∃ z, BV h f p n z ∧ (∃ t, 0 ≤ t ∧ t ≤ fM f p - 1 ∧ z = fB f p + fD f p * t) ∧ lex f p n z (fB f p + fD f p * 0) ∧ ∀ s, s < i → isO f p s → pfN (fB f p) (fD f p) (cLo f s) ≤ fM f p - 1 → lex f p n z (fB f p + fD f p * pfN (fB f p) (fD f p) (cLo f s))
theorem BQ.tr {h h' : HI} {f : Nat → Int32} {p n i : Nat} {x : Int32} (b : BQ h f p n i) (a : (¬ (0 ≤ x.toInt ∧ x.toInt ≤ fM f p - 1) ∧ h' 135 16 = h 135 16 ∧ h' 135 17 = h 135 17) ∨ ((0 ≤ x.toInt ∧ x.toInt ≤ fM f p - 1) ∧ ∃ z', BV h' f p n z' ∧ lex f p n z' (fB f p + fD f p * x.toInt) ∧ (z' = fB f p + fD f p * x.toInt ∨ BV h f p n z') ∧ ∀ z, BV h f p n z → lex f p n z' z)) : BQ h' f p n i ∧ (0 ≤ x.toInt → x.toInt ≤ fM f p - 1 → ∀ z', BV h' f p n z' → lex f p n z' (fB f p + fD f p * x.toInt)) := by
  obtain ⟨z, B, fam, l0, ls⟩ := b
  rcases a with ⟨a1, a2, a3⟩ | ⟨a1, z', B', lx, o, al⟩
  · exact ⟨⟨z, ⟨by rw [a2]; exact B.1, by rw [a3]; exact B.2⟩, fam, l0, ls⟩, fun h0 h1 => absurd ⟨h0, h1⟩ a1⟩
  · have lz := al z B
    refine ⟨⟨z', B', ?_, lz.tr l0, fun s hs o hp => lz.tr (ls s hs o hp)⟩, fun _ _ z2 B2 => ?_⟩
    · rcases o with e | e
      · exact ⟨x.toInt, a1.1, a1.2, e⟩
      · rw [show z' = z from e.1.symm.trans B.1]; exact fam
    · rw [show z2 = z' from B2.1.symm.trans B'.1]; exact lx
