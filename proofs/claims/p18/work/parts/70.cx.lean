/-! WHAT A QUESTION MAY REST ON: the class's tables against the reference's numbers f -/
def CX (h : HI) (f : Nat → Int32) : Prop := CN h 1 f ∧ RL1 h 1 f ∧ LW h ∧ VR f ∧ RG f
theorem CX.of {h : HI} (v : INV3 h) : CX h (h 136) := ⟨v.1.1.2.2.2.1, v.1.2.1, v.2.1, v.2.2.1, v.1.1.2.1⟩
theorem CX.jj {S : Nat → Prop} {h h' : HI} {f : Nat → Int32} (c : CX h f) (J : JJ S h h') (n : ∀ q, q ≤ 80 → ¬ S q) : CX h' f :=
  ⟨c.1.cg (fun o _ ho => J o (n o (by omega))) (fun _ _ => rfl), c.2.1.cg (fun o _ ho => J o (n o (by omega))) (fun _ _ => rfl), lw_jj c.2.2.1 J n, c.2.2.2⟩
theorem CX.tF {h : HI} {f : Nat → Int32} (c : CX h f) : TT h 4 4 3 4 := by
  obtain ⟨m, T, k⟩ := c.1 1 (by omega)
  have k : m = 4 := k
  subst k; exact T
theorem CX.tZ {h : HI} {f : Nat → Int32} (c : CX h f) : ∃ m, TT h 24 m 1 60 ∧ f 8 = nI m := c.1 11 (by omega)
theorem CX.ci {h : HI} {f : Nat → Int32} (c : CX h f) {j : Nat} (hj : j < 12) {m : Nat} (T : TT h (1 + (1 + 2 * j)) m (wJ j) (MJ j)) : CE h 1 f j m := c.2.1.1 j m hj T.2.2.2.1 T.2.2.1
theorem CX.cp {h : HI} {f : Nat → Int32} (c : CX h f) {m p k : Nat} (T : TT h 2 m 5 24) (hp : p < m) (hk : k < 4) : h 3 (p * 5 + k) = f (20 + 5 * p + k) := by
  have := (CE.e0.mp (c.ci (j := 0) (by omega) T)).1 p hp k hk
  rw [show 20 + 5 * p + k = 20 + (p * 5 + k) by omega]; exact this
theorem CX.cf {h : HI} {f : Nat → Int32} (c : CX h f) {p k : Nat} (hp : p < 4) (hk : k < 3) : h 5 (p * 3 + k) = f (140 + 3 * p + k) := by
  have := (CE.es (by decide) (by decide)).mp (c.ci (j := 1) (by omega) c.tF) (p * 3 + k) (by show p * 3 + k < 4 * 3; omega)
  rw [show 140 + 3 * p + k = 140 + (p * 3 + k) by omega]; exact this
theorem CX.cs {h : HI} {f : Nat → Int32} (c : CX h f) {m p k : Nat} (T : TT h 6 m 6 60) (hp : p < m) (hk : k < 6) : h 7 (p * 6 + k) = f (152 + 6 * p + k) := by
  have := (CE.es (by decide) (by decide)).mp (c.ci (j := 2) (by omega) T) (p * 6 + k) (by show p * 6 + k < m * 6; omega)
  rw [show 152 + 6 * p + k = 152 + (p * 6 + k) by omega]; exact this
theorem CX.cz {h : HI} {f : Nat → Int32} (c : CX h f) {m k : Nat} (T : TT h 24 m 1 60) (hk : k < m) : h 25 k = f (827 + k) := by
  exact (CE.es (by decide) (by decide)).mp (c.ci (j := 11) (by omega) T) k (by show k < m * 1; omega)
theorem VR.yr {f : Nat → Int32} (v : VR f) {a : Nat} (ha : a < 24) : ∃ b : Nat, b ≤ 99 ∧ f (20 + 5 * a + 2) = nI b := by
  obtain ⟨b, h1, -, e⟩ := bd_nI (v.at (vg_P (c := 2) ha (by omega)))
  have h1 : (b : Int) ≤ 99 := h1
  exact ⟨b, by omega, e⟩
theorem RG.z8 {f : Nat → Int32} (r : RG f) : ∃ n : Nat, n ≤ 60 ∧ f 8 = nI n := by
  obtain ⟨n, h1, -, e⟩ := bd_nI (r 8)
  have h1 : (n : Int) ≤ 60 := h1
  exact ⟨n, by omega, e⟩
/-- WORN of part a in the year y, by the reference's numbers -/
noncomputable def wvN (f : Nat → Int32) (a y : Nat) : Int32 := Classical.epsilon (fun v => ∃ (n b : Nat) (fl : Int32) (p : List Int32), f 8 = nI n ∧ n ≤ 60 ∧ f (20 + 5 * a + 2) = nI b ∧ b ≤ 99 ∧ RSl (fun k => f (827 + k)) n fl p ∧ v = wvl fl p (nI (y - b)) (f (20 + 5 * a + 0)) (f (20 + 5 * a + 1)))
theorem wvN_eq {f : Nat → Int32} {a y n b : Nat} {fl : Int32} {p : List Int32} (en : f 8 = nI n) (hn : n ≤ 60) (eb : f (20 + 5 * a + 2) = nI b) (hb : b ≤ 99) (r : RSl (fun k => f (827 + k)) n fl p) : wvl fl p (nI (y - b)) (f (20 + 5 * a + 0)) (f (20 + 5 * a + 1)) = wvN f a y := by
  have ex : ∃ v : Int32, ∃ (n b : Nat) (fl : Int32) (p : List Int32), f 8 = nI n ∧ n ≤ 60 ∧ f (20 + 5 * a + 2) = nI b ∧ b ≤ 99 ∧ RSl (fun k => f (827 + k)) n fl p ∧ v = wvl fl p (nI (y - b)) (f (20 + 5 * a + 0)) (f (20 + 5 * a + 1)) := ⟨_, n, b, fl, p, en, hn, eb, hb, r, rfl⟩
  obtain ⟨n', b', fl', p', en', hn', eb', hb', r', e⟩ := Classical.epsilon_spec ex
  have e1 : n = n' := (nI_eq (by omega) (by omega)).mp (en.symm.trans en')
  subst e1
  have e2 : b = b' := (nI_eq (by omega) (by omega)).mp (eb.symm.trans eb')
  subst e2
  exact (wvl_un r r').trans e.symm
theorem clC_bd (v : Int64) : bd 0 10000 (clC v) := by
  have e0 : (0 : Int64).toInt = 0 := by decide
  have e1 : (10000 : Int64).toInt = 10000 := by decide
  have key : ∀ w : Int64, 0 ≤ w.toInt ∧ w.toInt ≤ 10000 → bd 0 10000 w.toInt32 := fun w h => by
    unfold bd
    rw [Int64.toInt_toInt32, bm (by omega) (by omega)]; exact h
  unfold clC
  refine key _ ?_
  by_cases q : v < 10000
  · rw [if_pos q]
    by_cases q2 : v < 0
    · rw [if_pos q2, e0]; decide
    · rw [if_neg q2]
      rw [Int64.lt_iff_toInt_lt, e0] at q2
      rw [Int64.lt_iff_toInt_lt, e1] at q; omega
  · rw [if_neg q, if_neg (by decide), e1]; decide
theorem wvl_bd {fl : Int32} {p : List Int32} {d : Nat} {l hh : Int32} (hd : d ≤ 99) : bd 0 10000 (wvl fl p (nI d) l hh) := by
  unfold wvl
  by_cases q : fl = -1
  · rw [if_pos q]; exact clC_bd _
  · rw [if_neg q]; exact bd_of (by omega) (by omega) (by omega)
theorem CX.wv {h : HI} {f : Nat → Int32} (c : CX h f) {a y : Nat} (ha : a < 24) (hy : y ≤ 99) : bd 0 10000 (wvN f a y) := by
  obtain ⟨n, T, en⟩ := c.tZ
  obtain ⟨p, rs, -⟩ := c.2.2.1 n T
  obtain ⟨b, hb, eb⟩ := c.2.2.2.1.yr ha
  have hn := T.2.2.2.1
  rw [← wvN_eq (y := y) en hn eb hb (rs.cg (f' := fun k => f (827 + k)) (fun k hk => (c.cz T hk).symm))]
  exact wvl_bd (by omega)
/-! FAULT and WORN -/
/-- the answer of a question about a part and a year -/
def AWN (f : Nat → Int32) (m : Nat) (x1 x2 r : Int32) : Prop := (¬ (isRow (nI m) x1 ∧ bd 0 99 x2) ∧ r = -2) ∨ ∃ a y : Nat, a < m ∧ y ≤ 99 ∧ x1 = nI a ∧ x2 = nI y ∧ r = wvN f a y
theorem AWN.un {f : Nat → Int32} {m : Nat} (hm : m ≤ 24) {x1 x2 r s : Int32} (a : AWN f m x1 x2 r) (b : AWN f m x1 x2 s) : r = s := by
  rcases a with ⟨a1, rfl⟩ | ⟨p, y, hp, hy, rfl, rfl, rfl⟩
  · rcases b with ⟨-, rfl⟩ | ⟨p, y, hp, hy, rfl, rfl, -⟩
    · rfl
    · exact absurd ⟨row_of hp (by omega), bd_of (by omega) (by omega) (by omega)⟩ a1
  · rcases b with ⟨b1, -⟩ | ⟨p', y', hp', hy', e1, e2, rfl⟩
    · exact absurd ⟨row_of hp (by omega), bd_of (by omega) (by omega) (by omega)⟩ b1
    · have q1 : p = p' := (nI_eq (by omega) (by omega)).mp e1
      have q2 : y = y' := (nI_eq (by omega) (by omega)).mp e2
      rw [q1, q2]
