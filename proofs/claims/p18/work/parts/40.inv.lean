/-! WHAT HOLDS BETWEEN CALLS (counts) -/
def wJL : List Nat := [5, 3, 6, 15, 4, 1, 3, 2, 2, 2, 1, 1]
def MJL : List Nat := [24, 4, 60, 16, 8, 6, 9, 1, 40, 3, 4, 60]
def cpL : List Nat := [0, 99, 1, 2, 3, 4, 5, 98, 6, 7, 97, 8]
def wJ (j : Nat) : Nat := wJL.getD j 0
def MJ (j : Nat) : Nat := MJL.getD j 0
def cpJ (j : Nat) : Nat := cpL.getD j 0
/-- how many rows a table of the shop has: as the reference counts them, or fixed -/
def cOK (j m : Nat) (f : Nat → Int32) : Prop := if j = 1 ∨ j = 10 then m = 4 else if j = 7 then m = 1 else f (cpJ j) = nI m
def CN (h : HI) (s : Nat) (f : Nat → Int32) : Prop := ∀ j, j < 12 → ∃ m, TT h (s + (1 + 2 * j)) m (wJ j) (MJ j) ∧ cOK j m f
def CJ (h : HI) : Prop := ∀ s, isS s → ∀ j, j < 12 → ∃ m, TT h (s + (1 + 2 * j)) m (wJ j) (MJ j)
theorem CJ.ci {h : HI} (c : CJ h) : CI h := fun o ho => by
  obtain ⟨s, hs, j, hj, e⟩ := (by decide +kernel : ∀ o ∈ isTL, ∃ s ∈ isSL, ∃ j, j < 12 ∧ o = s + (1 + 2 * j)) o ho
  subst e
  obtain ⟨m, T⟩ := c s hs j hj
  exact ⟨m, _, _, T⟩
def rg (k : Nat) : Int × Int :=
  if k = 0 then (0, 24) else if k = 1 then (0, 60) else if k = 2 then (0, 16) else if k = 3 then (0, 8) else if k = 4 then (0, 6) else if k = 5 then (0, 9) else if k = 6 then (0, 40) else if k = 7 then (0, 3) else if k = 8 then (0, 60) else if k = 9 then (0, 9) else if k = 10 then (0, 9)
  else if 20 ≤ k ∧ k < 140 then (if (k - 20) % 5 = 0 then (0, 100) else if (k - 20) % 5 = 3 then (-1, 3) else (-2147483648, 2147483647))
  else if 140 ≤ k ∧ k < 152 then (if (k - 140) % 3 = 1 then (1, 100000) else (-2147483648, 2147483647))
  else if 152 ≤ k ∧ k < 512 then (if (k - 152) % 6 = 0 then (0, 23) else (-2147483648, 2147483647))
  else if 512 ≤ k ∧ k < 672 then (if (k - 512) % 10 = 2 then (0, 6) else if 3 ≤ (k - 512) % 10 ∧ (k - 512) % 10 ≤ 8 then (0, 23) else (-2147483648, 2147483647))
  else if 672 ≤ k ∧ k < 704 then (if (k - 672) % 4 = 0 then (-500, 500) else if (k - 672) % 4 = 1 then (0, 1000) else (-2147483648, 2147483647))
  else if 817 ≤ k ∧ k < 823 then (if (k - 817) % 2 = 0 then (0, 15) else (-2147483648, 2147483647))
  else (-2147483648, 2147483647)
def okR (k : Nat) (x : Int32) : Prop := bd (rg k).1 (rg k).2 x
def RG (f : Nat → Int32) : Prop := ∀ k, okR k (f k)
theorem RG.set {f : Nat → Int32} {k : Nat} {x : Int32} (r : RG f) (h : okR k x) : RG (upd f k x) := fun i => by
  by_cases e : i = k
  · subst e; rw [pk_us]; exact h
  · rw [pk_un e]; exact r i
theorem bd_all (x : Int32) : bd (-2147483648) 2147483647 x := ⟨Int32.le_toInt x, by have := Int32.toInt_lt x; omega⟩
theorem RG.ri {f : Nat → Int32} (r : RG f) : RI f := by
  refine ⟨⟨r 0, r 1, r 2, r 3, r 4, r 5, r 6, r 7, r 8, r 9, r 10⟩, ?_, ?_, ?_, ?_, ?_, ?_⟩
  · intro p hp
    constructor
    · have := r (20 + 5 * p)
      unfold okR rg at this
      rw [if_neg (by omega), if_neg (by omega), if_neg (by omega), if_neg (by omega), if_neg (by omega), if_neg (by omega), if_neg (by omega), if_neg (by omega), if_neg (by omega), if_neg (by omega), if_neg (by omega), if_pos (by omega), if_pos (by omega)] at this
      exact this
    · have := r (20 + 5 * p + 3)
      unfold okR rg at this
      rw [if_neg (by omega), if_neg (by omega), if_neg (by omega), if_neg (by omega), if_neg (by omega), if_neg (by omega), if_neg (by omega), if_neg (by omega), if_neg (by omega), if_neg (by omega), if_neg (by omega), if_pos (by omega), if_neg (by omega), if_pos (by omega)] at this
      exact this
  · intro p hp
    have := r (140 + 3 * p + 1)
    unfold okR rg at this
    rw [if_neg (by omega), if_neg (by omega), if_neg (by omega), if_neg (by omega), if_neg (by omega), if_neg (by omega), if_neg (by omega), if_neg (by omega), if_neg (by omega), if_neg (by omega), if_neg (by omega), if_neg (by omega), if_pos (by omega), if_pos (by omega)] at this
    exact this
  · intro p hp
    have := r (152 + 6 * p)
    unfold okR rg at this
    rw [if_neg (by omega), if_neg (by omega), if_neg (by omega), if_neg (by omega), if_neg (by omega), if_neg (by omega), if_neg (by omega), if_neg (by omega), if_neg (by omega), if_neg (by omega), if_neg (by omega), if_neg (by omega), if_neg (by omega), if_pos (by omega), if_pos (by omega)] at this
    exact this
  · intro p hp
    constructor
    · have := r (512 + 10 * p + 2)
      unfold okR rg at this
      rw [if_neg (by omega), if_neg (by omega), if_neg (by omega), if_neg (by omega), if_neg (by omega), if_neg (by omega), if_neg (by omega), if_neg (by omega), if_neg (by omega), if_neg (by omega), if_neg (by omega), if_neg (by omega), if_neg (by omega), if_neg (by omega), if_pos (by omega), if_pos (by omega)] at this
      exact this
    · intro k hk
      have := r (512 + 10 * p + (3 + k))
      unfold okR rg at this
      rw [if_neg (by omega), if_neg (by omega), if_neg (by omega), if_neg (by omega), if_neg (by omega), if_neg (by omega), if_neg (by omega), if_neg (by omega), if_neg (by omega), if_neg (by omega), if_neg (by omega), if_neg (by omega), if_neg (by omega), if_neg (by omega), if_pos (by omega), if_neg (by omega), if_pos (by omega)] at this
      exact this
  · intro p hp
    constructor
    · have := r (672 + 4 * p)
      unfold okR rg at this
      rw [if_neg (by omega), if_neg (by omega), if_neg (by omega), if_neg (by omega), if_neg (by omega), if_neg (by omega), if_neg (by omega), if_neg (by omega), if_neg (by omega), if_neg (by omega), if_neg (by omega), if_neg (by omega), if_neg (by omega), if_neg (by omega), if_neg (by omega), if_pos (by omega), if_pos (by omega)] at this
      exact this
    · have := r (672 + 4 * p + 1)
      unfold okR rg at this
      rw [if_neg (by omega), if_neg (by omega), if_neg (by omega), if_neg (by omega), if_neg (by omega), if_neg (by omega), if_neg (by omega), if_neg (by omega), if_neg (by omega), if_neg (by omega), if_neg (by omega), if_neg (by omega), if_neg (by omega), if_neg (by omega), if_neg (by omega), if_pos (by omega), if_neg (by omega), if_pos (by omega)] at this
      exact this
  · intro p hp
    have := r (817 + 2 * p)
    unfold okR rg at this
    rw [if_neg (by omega), if_neg (by omega), if_neg (by omega), if_neg (by omega), if_neg (by omega), if_neg (by omega), if_neg (by omega), if_neg (by omega), if_neg (by omega), if_neg (by omega), if_neg (by omega), if_neg (by omega), if_neg (by omega), if_neg (by omega), if_neg (by omega), if_neg (by omega), if_pos (by omega), if_pos (by omega)] at this
    exact this
def IMG (h : HI) (i : Nat) : Nat → Int32 := fun k => h 137 (887 * i + k)
def KF (h : HI) : Prop := h 76 0 = h 138 0 ∧ h 76 1 = h 138 1
def INV (h : HI) : Prop := CJ h ∧ RG (h 136) ∧ WI h ∧ CN h 1 (h 136) ∧ KF h ∧ ∀ i, i < 2 → ¬ h 138 i = 0 → CN h (26 + 25 * i) (IMG h i) ∧ RG (IMG h i)
theorem isS1 : isS 1 := by unfold isS; decide
theorem isS26 {i : Nat} (h : i < 2) : isS (26 + 25 * i) := by
  have : i = 0 ∨ i = 1 := by omega
  rcases this with rfl | rfl <;> (unfold isS; decide)
theorem CN.cg {h h' : HI} {s : Nat} {f f' : Nat → Int32} (c : CN h s f) (e : ∀ o, s + 1 ≤ o → o ≤ s + 24 → h' o = h o) (ef : ∀ i, i < 9 → f' i = f i) : CN h' s f' := fun j hj => by
  obtain ⟨m, T, k⟩ := c j hj
  refine ⟨m, T.cg (e _ (by omega) (by omega)), ?_⟩
  unfold cOK at k ⊢
  by_cases c1 : j = 1 ∨ j = 10
  · rw [if_pos c1] at k ⊢; exact k
  · rw [if_neg c1] at k ⊢
    by_cases c2 : j = 7
    · rw [if_pos c2] at k ⊢; exact k
    · rw [if_neg c2] at k ⊢
      have : cpJ j < 9 := (by decide : ∀ j, j < 12 → ¬ (j = 1 ∨ j = 10) → ¬ j = 7 → cpJ j < 9) j hj c1 c2
      rw [ef _ this]; exact k
theorem CJ.cg {h h' : HI} (c : CJ h) (e : ∀ o, o ≤ 75 → h' o = h o) : CJ h' := fun s hs j hj => by
  obtain ⟨m, T⟩ := c s hs j hj
  have : s ≤ 51 := (by decide : ∀ s ∈ isSL, s ≤ 51) s hs
  exact ⟨m, T.cg (e _ (by omega))⟩
/-- calls that change no table -/
theorem INV.cg {h h' : HI} (v : INV h) (e : ∀ o, o ≤ 76 → h' o = h o) (e6 : h' 136 = h 136) (e7 : h' 137 = h 137) (e8 : h' 138 = h 138) (w : WI h') : INV h' := by
  obtain ⟨a, b, c, d, k, im⟩ := v
  refine ⟨a.cg (fun o ho => e o (by omega)), by rw [e6]; exact b, w, ?_, ?_, ?_⟩
  · exact d.cg (fun o h1 h2 => e o (by omega)) (fun i hi => by rw [e6])
  · unfold KF; rw [e 76 (by omega), e8]; exact k
  · intro i hi hn
    rw [e8] at hn
    have eI : IMG h' i = IMG h i := by unfold IMG; rw [e7]
    rw [eI]
    exact ⟨(im i hi hn).1.cg (fun o h1 h2 => e o (by omega)) (fun _ _ => rfl), (im i hi hn).2⟩
/-- calls that change one table -/
theorem INV.mut {h h' : HI} (v : INV h) {j m : Nat} (hj : j < 12) (e : ∀ o, o ≤ 76 → o ≠ 1 + (1 + 2 * j) → o ≠ 2 + (1 + 2 * j) → h' o = h o) (T : TT h' (1 + (1 + 2 * j)) m (wJ j) (MJ j)) (k : cOK j m (h' 136)) (r : RG (h' 136)) (ef : ∀ i, i < 9 → i ≠ cpJ j → h' 136 i = h 136 i) (e7 : h' 137 = h 137) (e8 : h' 138 = h 138) (w : WI h') : INV h' := by
  obtain ⟨a, b, c, d, kf, im⟩ := v
  refine ⟨?_, r, w, ?_, ?_, ?_⟩
  · intro s hs i hi
    have hs' : s = 1 ∨ s = 26 ∨ s = 51 := (by decide : ∀ s ∈ isSL, s = 1 ∨ s = 26 ∨ s = 51) s hs
    by_cases q : s = 1 ∧ i = j
    · obtain ⟨rfl, rfl⟩ := q; exact ⟨m, T⟩
    · obtain ⟨m', T'⟩ := a s hs i hi
      exact ⟨m', T'.cg (e _ (by omega) (by omega) (by omega))⟩
  · intro i hi
    by_cases q : i = j
    · subst q; exact ⟨m, T, k⟩
    · obtain ⟨m', T', k'⟩ := d i hi
      refine ⟨m', T'.cg (e _ (by omega) (by omega) (by omega)), ?_⟩
      unfold cOK at k' ⊢
      by_cases c1 : i = 1 ∨ i = 10
      · rw [if_pos c1] at k' ⊢; exact k'
      · rw [if_neg c1] at k' ⊢
        by_cases c2 : i = 7
        · rw [if_pos c2] at k' ⊢; exact k'
        · rw [if_neg c2] at k' ⊢
          have h1 : cpJ i < 9 := (by decide : ∀ j, j < 12 → ¬ (j = 1 ∨ j = 10) → ¬ j = 7 → cpJ j < 9) i hi c1 c2
          have h2 : cpJ i ≠ cpJ j := (by decide : ∀ i, i < 12 → ∀ j, j < 12 → i ≠ j → cpJ i ≠ cpJ j) i hi j hj q
          rw [ef _ h1 h2]; exact k'
  · unfold KF; rw [e 76 (by omega) (by omega) (by omega), e8]; exact kf
  · intro i hi hn
    rw [e8] at hn
    have eI : IMG h' i = IMG h i := by unfold IMG; rw [e7]
    rw [eI]
    exact ⟨(im i hi hn).1.cg (fun o h1 h2 => e o (by omega) (by omega) (by omega)) (fun _ _ => rfl), (im i hi hn).2⟩
/-- the class's tables, one or two of them changed -/
def SM (o q : Nat) : Prop := q = o ∨ q = o + 1 ∨ o = 24 ∧ 77 ≤ q ∧ q ≤ 79
def ADc (C : Prop) (h : HI) (r : Int32) (h' : HI) (o m w M k : Nat) (row : Nat → Int32) : Prop :=
  (¬ C ∧ r = -2 ∧ h' = h) ∨ (C ∧ m = M ∧ r = -4 ∧ h' = h) ∨ (C ∧ m < M ∧ r = nI (m + k) ∧ JJ (SM o) h h' ∧ TT h' o (m + 1) w M ∧ (∀ i, i < m * w → h' (o + 1) i = h (o + 1) i) ∧ ∀ c, c < w → h' (o + 1) (m * w + c) = row c)
def ADr (C : Prop) (h : HI) (r : Int32) (h' : HI) (c m M k : Nat) (F : (Nat → Int32) → Prop) : Prop :=
  (¬ C ∧ r = -2 ∧ h' = h) ∨ (C ∧ m = M ∧ r = -4 ∧ h' = h) ∨ (C ∧ m < M ∧ r = nI (m + k) ∧ (∀ o, o ≠ 136 → h' o = h o) ∧ h' 136 c = nI (m + 1) ∧ (∀ i, i < 9 → i ≠ c → h' 136 i = h 136 i) ∧ RG (h' 136) ∧ F (h' 136))
theorem step_add {C : Prop} {h h1 h2 : HI} {r s : Int32} {j m k : Nat} {row : Nat → Int32} {F : (Nat → Int32) → Prop} (v : INV h) (hj : j < 12) (hv : ¬ (j = 1 ∨ j = 10) ∧ ¬ j = 7) (a : ADc C h r h1 (1 + (1 + 2 * j)) m (wJ j) (MJ j) k row) (b : ADr C h1 s h2 (cpJ j) m (MJ j) k F) : r = s ∧ INV h2 := by
  rcases a with ⟨a1, a2, rfl⟩ | ⟨a1, a3, a2, rfl⟩ | ⟨a1, a3, a2, J, T, -⟩
  · rcases b with ⟨b1, b2, rfl⟩ | ⟨b1, b3, b2, rfl⟩ | ⟨b1, b3, b2, b4⟩
    · exact ⟨a2.trans b2.symm, v⟩
    · exact absurd b1 a1
    · exact absurd b1 a1
  · rcases b with ⟨b1, b2, rfl⟩ | ⟨b1, b3, b2, rfl⟩ | ⟨b1, b3, b2, b4⟩
    · exact absurd a1 b1
    · exact ⟨a2.trans b2.symm, v⟩
    · omega
  · rcases b with ⟨b1, b2, rfl⟩ | ⟨b1, b3, b2, rfl⟩ | ⟨b1, b3, b2, e, ec, ef, R, -⟩
    · exact absurd a1 b1
    · omega
    · have n1 : ∀ o, 135 ≤ o → h1 o = h o := fun o ho => J o (by unfold SM; omega)
      refine ⟨a2.trans b2.symm, v.mut hj (m := m + 1) ?_ (T.cg (e _ (by omega))) ?_ R ?_ ?_ ?_ ?_⟩
      · intro o h1' h2' h3'
        rw [e o (by omega)]
        exact J o (by unfold SM; omega)
      · unfold cOK
        rw [if_neg hv.1, if_neg hv.2]; exact ec
      · intro i hi hn
        rw [ef i hi hn, n1 136 (by omega)]
      · rw [e 137 (by omega), n1 137 (by omega)]
      · rw [e 138 (by omega), n1 138 (by omega)]
      · exact v.2.2.1.cg (by rw [e 147 (by omega), n1 147 (by omega)]) (by rw [e 147 (by omega), n1 147 (by omega)])
theorem c_wb {a b c : Int32} {h : HI} {g : HL} {body : Int32 → HI → HL → Prop} (h1 : bd b.toInt c.toInt a → body 1 h g) (h0 : ¬ bd b.toInt c.toInt a → body 0 h g) : ∃ P : Int32 → HI → HL → Prop, w_X10_within a b c h g P ∧ ∀ (r : Int32) (h : HI) (g : HL), zb r → P r h g → body r h g :=
  c_w (fun u v => h1 ⟨by rw [Int32.le_iff_toInt_le] at u; exact u, by rw [Int32.le_iff_toInt_le] at v; exact v⟩) (fun u => h0 (fun q => by
    rw [Int32.lt_iff_toInt_lt, Int32.lt_iff_toInt_lt] at u
    unfold bd at q; omega))
theorem c_hb {o : Nat} {a : Int32} {h : HI} {g : HL} {body : Int32 → HI → HL → Prop} (h1 : isRow (h o 3) a → body 1 h g) (h0 : ¬ isRow (h o 3) a → body 0 h g) : ∃ P : Int32 → HI → HL → Prop, w_X8_has o a h g P ∧ ∀ (r : Int32) (h : HI) (g : HL), zb r → P r h g → body r h g :=
  c_h (fun u v => h1 (isRow_c u v)) (fun u => h0 (isRow_n u))
