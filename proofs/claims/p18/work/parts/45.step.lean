/-! THE STEPS: one call of both -/
theorem step_image {h h1 h2 : HI} {r s x1 : Int32} (v : INV h) (a : (¬ bd 0 1 x1 ∧ r = -2 ∧ h1 = h) ∨ ∃ i, i < 2 ∧ x1 = nI i ∧ r = 1 ∧ ∃ h0, CPK h h0 (26 + 25 * i) 1 12 ∧ h1 = hu h0 76 i 1) (b : (¬ bd 0 1 x1 ∧ s = -2 ∧ h2 = h1) ∨ ∃ i, i < 2 ∧ x1 = nI i ∧ s = 1 ∧ (∀ o, o ≠ 137 → o ≠ 138 → h2 o = h1 o) ∧ h2 138 = upd (h1 138) i 1 ∧ (∀ k, k < 887 → h2 137 (887 * i + k) = h1 136 k) ∧ ∀ k, k < 887 * i ∨ 887 * i + 887 ≤ k → h2 137 k = h1 137 k) : r = s ∧ INV h2 := by
  rcases a with ⟨a1, a2, rfl⟩ | ⟨i, hi, rfl, a2, h0, I0, e1⟩
  · rcases b with ⟨b1, b2, rfl⟩ | ⟨i, hi, rfl, b2, -⟩
    · exact ⟨a2.trans b2.symm, v⟩
    · exact absurd (bd_of (by omega) (by omega) (by omega)) a1
  · rcases b with ⟨b1, b2, rfl⟩ | ⟨i', hi', e', b2, F, F8, F7, F7'⟩
    · exact absurd (bd_of (by omega) (by omega) (by omega)) b1
    · have : i = i' := (nI_eq (by omega) (by omega)).mp e'
      subst this
      refine ⟨a2.trans b2.symm, ?_⟩
      obtain ⟨cj, rg0, wi, cn, kf, im⟩ := v
      have g1 : ∀ q, q ≠ 76 → h1 q = h0 q := fun q n => by rw [e1, hu_ne n]
      have g0 : ∀ q, q ≠ 76 → (q < 26 + 25 * i + 1 ∨ 26 + 25 * i + 24 < q) → h1 q = h q := fun q n76 n1 => by
        rw [g1 q n76]; exact I0.1 q (by omega)
      have e6 : h2 136 = h 136 := (F 136 (by decide) (by decide)).trans (g0 136 (by decide) (by omega))
      have e7 : h1 137 = h 137 := g0 137 (by decide) (by omega)
      have e8 : h1 138 = h 138 := g0 138 (by decide) (by omega)
      have e76 : h2 76 = upd (h 76) i 1 := by
        rw [F 76 (by decide) (by decide), e1, hu_eq, I0.1 76 (by omega)]
      rw [e8] at F8
      rw [e7] at F7'
      rw [g0 136 (by decide) (by omega)] at F7
      have tb : ∀ q, q ≤ 75 → h2 q = h0 q := fun q hq => (F q (by omega) (by omega)).trans (g1 q (by omega))
      refine ⟨?_, by rw [e6]; exact rg0, ?_, ?_, ?_, ?_⟩
      · intro s hs j hj
        have hs3 : s = 1 ∨ s = 26 ∨ s = 51 := (by decide : ∀ s ∈ isSL, s = 1 ∨ s = 26 ∨ s = 51) s hs
        by_cases q : s = 26 + 25 * i
        · subst q
          obtain ⟨m1, -, T, -⟩ := I0.2 j hj
          exact ⟨m1, T.cg (tb _ (by omega))⟩
        · obtain ⟨m, T⟩ := cj s hs j hj
          exact ⟨m, T.cg ((tb _ (by omega)).trans (I0.1 _ (by omega)))⟩
      · have : h2 147 = h 147 := (F 147 (by decide) (by decide)).trans (g0 147 (by decide) (by omega))
        exact wi.cg (by rw [this]) (by rw [this])
      · exact cn.cg (fun o h1' h2' => (tb o (by omega)).trans (I0.1 o (by omega))) (fun k hk => by rw [e6])
      · unfold KF
        rw [e76, F8]
        have : i = 0 ∨ i = 1 := by omega
        rcases this with rfl | rfl
        · exact ⟨rfl, by rw [pk_un (by decide), pk_un (by decide)]; exact kf.2⟩
        · exact ⟨by rw [pk_un (by decide), pk_un (by decide)]; exact kf.1, rfl⟩
      · intro i' hi' hn
        by_cases q : i' = i
        · subst q
          have c1 : CN h0 (26 + 25 * i') (IMG h2 i') := cn.cp I0 (fun k hk => F7 k (by omega))
          exact ⟨c1.cg (fun o h1' h2' => tb o (by omega)) (fun _ _ => rfl), rg0.img (fun k hk => F7 k hk)⟩
        · rw [F8, pk_un q] at hn
          obtain ⟨c1, c2⟩ := im i' hi' hn
          have eI : ∀ k, k < 887 → IMG h2 i' k = IMG h i' k := fun k hk => F7' _ (by omega)
          exact ⟨c1.cg (fun o h1' h2' => (tb o (by omega)).trans (I0.1 o (by omega))) (fun k hk => eI k (by omega)), c2.img eI⟩
theorem step_from {h h1 h2 : HI} {r s x1 : Int32} (v : INV h) (a : (¬ bd 0 1 x1 ∧ r = -2 ∧ h1 = h) ∨ ∃ i, i < 2 ∧ x1 = nI i ∧ ((h 76 i = 0 ∧ r = -3 ∧ h1 = h) ∨ (¬ h 76 i = 0 ∧ r = 1 ∧ ∃ h0, CPK h h0 1 (26 + 25 * i) 12 ∧ JJ SLaw h0 h1))) (b : (¬ bd 0 1 x1 ∧ s = -2 ∧ h2 = h1) ∨ ∃ i, i < 2 ∧ x1 = nI i ∧ ((h1 138 i = 0 ∧ s = -3 ∧ h2 = h1) ∨ (¬ h1 138 i = 0 ∧ s = 1 ∧ (∀ o, o ≠ 136 → h2 o = h1 o) ∧ (∀ k, k < 887 → h2 136 k = h1 137 (887 * i + k)) ∧ ∀ k, 887 ≤ k → h2 136 k = h1 136 k))) : r = s ∧ INV h2 := by
  have kk : ∀ i, i < 2 → h 76 i = h 138 i := fun i hi => by
    have : i = 0 ∨ i = 1 := by omega
    rcases this with rfl | rfl
    · exact v.2.2.2.2.1.1
    · exact v.2.2.2.2.1.2
  rcases a with ⟨a1, a2, rfl⟩ | ⟨i, hi, rfl, a⟩
  · rcases b with ⟨b1, b2, rfl⟩ | ⟨i, hi, rfl, -⟩
    · exact ⟨a2.trans b2.symm, v⟩
    · exact absurd (bd_of (by omega) (by omega) (by omega)) a1
  · rcases b with ⟨b1, b2, rfl⟩ | ⟨i', hi', e', b⟩
    · exact absurd (bd_of (by omega) (by omega) (by omega)) b1
    · have : i = i' := (nI_eq (by omega) (by omega)).mp e'
      subst this
      rcases a with ⟨a0, a2, rfl⟩ | ⟨a0, a2, h0, I0, J0⟩
      · rcases b with ⟨b0, b2, rfl⟩ | ⟨b0, b2, -⟩
        · exact ⟨a2.trans b2.symm, v⟩
        · exact absurd ((kk i hi).symm.trans a0) b0
      · have up : ∀ q, 76 ≤ q → ¬ SLaw q → h1 q = h q := fun q hq n => (J0 q n).trans (I0.1 q (by omega))
        rcases b with ⟨b0, b2, rfl⟩ | ⟨b0, b2, F, F6, F6'⟩
        · rw [up 138 (by omega) (by unfold SLaw; omega), ← kk i hi] at b0
          exact absurd b0 a0
        · refine ⟨a2.trans b2.symm, ?_⟩
          obtain ⟨cj, rg0, wi, cn, kf, im⟩ := v
          obtain ⟨c1, c2⟩ := im i hi (by rw [← kk i hi]; exact a0)
          have tb : ∀ q, q ≤ 75 → h2 q = h0 q := fun q hq => (F q (by omega)).trans (J0 q (by unfold SLaw; omega))
          have e7 : h2 137 = h 137 := (F 137 (by decide)).trans (up 137 (by omega) (by unfold SLaw; omega))
          have e8 : h2 138 = h 138 := (F 138 (by decide)).trans (up 138 (by omega) (by unfold SLaw; omega))
          have e76 : h2 76 = h 76 := (F 76 (by decide)).trans (up 76 (by omega) (by unfold SLaw; omega))
          rw [up 137 (by omega) (by unfold SLaw; omega)] at F6
          refine ⟨?_, ?_, ?_, ?_, ?_, ?_⟩
          · intro s hs j hj
            have hs3 : s = 1 ∨ s = 26 ∨ s = 51 := (by decide : ∀ s ∈ isSL, s = 1 ∨ s = 26 ∨ s = 51) s hs
            by_cases q : s = 1
            · subst q
              obtain ⟨m1, -, T, -⟩ := I0.2 j hj
              exact ⟨m1, T.cg (tb _ (by omega))⟩
            · obtain ⟨m, T⟩ := cj s hs j hj
              exact ⟨m, T.cg ((tb _ (by omega)).trans (I0.1 _ (by omega)))⟩
          · exact c2.img (fun k hk => F6 k hk)
          · have : h2 147 = h 147 := (F 147 (by decide)).trans (up 147 (by omega) (by unfold SLaw; omega))
            exact wi.cg (by rw [this]) (by rw [this])
          · have c3 : CN h0 1 (h2 136) := c1.cp I0 (fun k hk => F6 k (by omega))
            exact c3.cg (fun o h1' h2' => tb o (by omega)) (fun _ _ => rfl)
          · unfold KF; rw [e76, e8]; exact kf
          · intro i' hi' hn
            rw [e8] at hn
            have eI : IMG h2 i' = IMG h i' := by unfold IMG; rw [e7]
            rw [eI]
            obtain ⟨d1, d2⟩ := im i' hi' hn
            exact ⟨d1.cg (fun o h1' h2' => (tb o (by omega)).trans (I0.1 o (by omega))) (fun _ _ => rfl), d2⟩
theorem PTc.up {A : Prop} {h h' : HI} {o m w M : Nat} (a : PTc A h h' o m w M) (ho : o ≤ 74) (q : Nat) (hq : 135 ≤ q) : h' q = h q := a.2.1 q (by unfold SM; omega)
theorem ADc.up {C : Prop} {h h' : HI} {r : Int32} {o m w M k : Nat} {row : Nat → Int32} (a : ADc C h r h' o m w M k row) (ho : o ≤ 74) (q : Nat) (hq : 135 ≤ q) : h' q = h q := by
  rcases a with ⟨-, -, rfl⟩ | ⟨-, -, -, rfl⟩ | ⟨-, -, -, J, -⟩
  · rfl
  · rfl
  · exact J q (by unfold SM; omega)
theorem step_put {A B : Prop} {h h1 h2 : HI} {j m : Nat} (v : INV h) (hj : j < 12) (k : cOK j m (h 136)) (a : PTc A h h1 (1 + (1 + 2 * j)) m (wJ j) (MJ j)) (b : PTr B h1 h2) : INV h2 := by
  obtain ⟨-, f, ⟨F, Ff, R⟩, ef⟩ := b
  have up := fun q hq => a.up (by omega) q hq
  have e6 : ∀ i, i < 9 → h2 136 i = h 136 i := fun i hi => by rw [Ff, ef i hi, up 136 (by omega)]
  refine v.mut hj (m := m) (fun o h1' h2' h3' => ?_) (a.2.2.cg (F _ (by omega))) ?_ (by rw [Ff]; exact R) (fun i hi _ => e6 i hi) ?_ ?_ ?_
  · rw [F o (by omega)]; exact a.2.1 o (by unfold SM; omega)
  · unfold cOK at k ⊢
    by_cases c1 : j = 1 ∨ j = 10
    · rw [if_pos c1] at k ⊢; exact k
    · rw [if_neg c1] at k ⊢
      by_cases c2 : j = 7
      · rw [if_pos c2] at k ⊢; exact k
      · rw [if_neg c2] at k ⊢
        have : cpJ j < 9 := (by decide : ∀ j, j < 12 → ¬ (j = 1 ∨ j = 10) → ¬ j = 7 → cpJ j < 9) j hj c1 c2
        rw [e6 _ this]; exact k
  · rw [F 137 (by decide), up 137 (by omega)]
  · rw [F 138 (by decide), up 138 (by omega)]
  · have : h2 147 = h 147 := by rw [F 147 (by decide), up 147 (by omega)]
    exact v.2.2.1.cg (by rw [this]) (by rw [this])
theorem step_erase {A : Prop} {h h1 h2 : HI} (v : INV h) (a : PTc A h h1 24 0 1 60) (b : ST h1 h2 (upd (h1 136) 8 0)) : INV h2 := by
  obtain ⟨F, Ff, R⟩ := b
  have up := fun q hq => a.up (by omega) q hq
  refine v.mut (j := 11) (m := 0) (by omega) (fun o h1' h2' h3' => ?_) (a.2.2.cg (F _ (by omega))) ?_ (by rw [Ff]; exact R) ?_ ?_ ?_ ?_
  · rw [F o (by omega)]; exact a.2.1 o (by unfold SM; omega)
  · show h2 136 8 = nI 0
    rw [Ff, pk_us, nI_0]
  · intro i hi hn
    have : i ≠ 8 := hn
    rw [Ff, pk_un this, up 136 (by omega)]
  · rw [F 137 (by decide), up 137 (by omega)]
  · rw [F 138 (by decide), up 138 (by omega)]
  · have : h2 147 = h 147 := by rw [F 147 (by decide), up 147 (by omega)]
    exact v.2.2.1.cg (by rw [this]) (by rw [this])
theorem step_scrap {h h1 h2 : HI} (v : INV h) (J : JJ (fun q => q = 12 ∨ q = 14) h h1) (T : TT h1 12 0 1 6) (U : TT h1 14 0 3 9) (b : ST h1 h2 (upd (upd (h1 136) 4 0) 5 0)) : INV h2 := by
  obtain ⟨F, Ff, R⟩ := b
  have e6 : h1 136 = h 136 := J 136 (by decide)
  rw [e6] at Ff R
  have v1 : INV (fun q => if q = 14 then h 14 else if q = 136 then upd (h 136) 4 0 else h2 q) := by
    refine v.mut (j := 5) (m := 0) (by omega) (fun o h1' h2' h3' => ?_) ?_ ?_ ?_ ?_ ?_ ?_ ?_
    · by_cases q : o = 14
      · subst q; rw [if_pos rfl]
      · rw [if_neg q, if_neg (by omega), F o (by omega)]
        exact J o (by omega)
    · refine (T.cg (F 12 (by decide))).cg ?_
      rw [if_neg (by decide), if_neg (by decide)]
    · show (if 136 = 14 then h 14 else if 136 = 136 then upd (h 136) 4 0 else h2 136) 4 = nI 0
      rw [if_neg (by decide), if_pos rfl, pk_us, nI_0]
    · try dsimp only
      rw [if_neg (by decide), if_pos rfl]
      exact v.2.1.set (okn4 (m := 0) (by omega))
    · intro i hi hn
      have : i ≠ 4 := hn
      try dsimp only
      rw [if_neg (by decide), if_pos rfl, pk_un this]
    · try dsimp only
      rw [if_neg (by decide), if_neg (by decide), F 137 (by decide), J 137 (by decide)]
    · try dsimp only
      rw [if_neg (by decide), if_neg (by decide), F 138 (by decide), J 138 (by decide)]
    · refine v.2.2.1.cg ?_ ?_
      · try dsimp only
        rw [if_neg (by decide), if_neg (by decide), F 147 (by decide), J 147 (by decide)]
      · try dsimp only
        rw [if_neg (by decide), if_neg (by decide), F 147 (by decide), J 147 (by decide)]
  refine v1.mut (j := 6) (m := 0) (by omega) (fun o h1' h2' h3' => ?_) (U.cg (F 14 (by decide))) ?_ (by rw [Ff]; exact R) ?_ ?_ ?_ ?_
  · have : o ≠ 14 := h2'
    rw [if_neg this, if_neg (by omega)]
  · show h2 136 5 = nI 0
    rw [Ff, pk_us, nI_0]
  · intro i hi hn
    have : i ≠ 5 := hn
    rw [Ff, pk_un this, if_neg (by decide), if_pos rfl]
  · rw [if_neg (by decide), if_neg (by decide)]
  · rw [if_neg (by decide), if_neg (by decide)]
  · have : h2 147 = h 147 := by rw [F 147 (by decide), J 147 (by decide)]
    exact v.2.2.1.cg (by rw [this]) (by rw [this])
/-- questions -/
theorem step_ask {h h1 h2 : HI} (v : INV h) (a : JJ SC h h1) (b : KJ SRef h1 h2) (w : WI h2) : INV h2 := by
  have e : ∀ o, ¬ SC o → (∀ k, ¬ SRef o k) → h2 o = h o := fun o n m => (funext fun k => b o k (m k)).trans (a o n)
  exact v.cg (fun o ho => e o (by unfold SC; omega) (fun k => by unfold SRef; omega)) (e 136 (by unfold SC; omega) (fun k => by unfold SRef; omega)) (e 137 (by unfold SC; omega) (fun k => by unfold SRef; omega)) (e 138 (by unfold SC; omega) (fun k => by unfold SRef; omega)) w
theorem WI.kj {S : Nat → Nat → Prop} {a b : HI} (w : WI a) (x : KJ S a b) (n : ∀ k, ¬ S 147 k) : WI b := w.cg (x 147 0 (n 0)) (x 147 1 (n 1))
theorem WI.jj {S : Nat → Prop} {a b : HI} (w : WI a) (x : JJ S a b) (n : ¬ S 147) : WI b := w.cg (by rw [x 147 n]) (by rw [x 147 n])
