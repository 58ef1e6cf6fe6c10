/-! FITTED -/
def ldT (f : Nat → Int32) (i : Nat) : Nat := (f (737 + 2 * i + 0)).toNatClampNeg
def fcT (f : Nat → Int32) (a b i : Nat) : Nat := if f (737 + 2 * i + 1) = 1 then a + b * ldT f i else 1000 - (a + b * ldT f i)
def okT9 (f : Nat → Int32) (a b i : Nat) : Prop := 1 ≤ a + b * ldT f i ∧ a + b * ldT f i ≤ 999
/-- the product of what was told, none where A and B may not be -/
def LK (f : Nat → Int32) (a b : Nat) : Nat → Nat → Prop
  | 0, v => v = 1
  | i + 1, v => ∃ u, LK f a b i u ∧ okT9 f a b i ∧ v = u * fcT f a b i
theorem LK.un {f : Nat → Int32} {a b : Nat} : ∀ {i v u : Nat}, LK f a b i v → LK f a b i u → v = u
  | 0, v, u, x, y => Eq.trans (show v = 1 from x) (Eq.symm (show u = 1 from y))
  | i + 1, v, u, ⟨v', x, _, ev⟩, ⟨u', y, _, eu⟩ => by rw [ev, eu, LK.un x y]
theorem LK.bd {f : Nat → Int32} {a b : Nat} : ∀ {i v : Nat}, LK f a b i v → 1 ≤ v ∧ v ≤ 1000 ^ i
  | 0, v, x => by
    have x : v = 1 := x
    rw [x]; exact ⟨by decide, by decide⟩
  | i + 1, v, ⟨u, x, ok, e⟩ => by
    obtain ⟨h1, h2⟩ := LK.bd x
    have hf : 1 ≤ fcT f a b i ∧ fcT f a b i ≤ 1000 := by
      unfold okT9 at ok
      unfold fcT
      by_cases q : f (737 + 2 * i + 1) = 1
      · rw [if_pos q]; omega
      · rw [if_neg q]; omega
    rw [e]
    refine ⟨Nat.mul_pos (by omega) (by omega), ?_⟩
    rw [Nat.pow_succ]
    exact Nat.mul_le_mul h2 hf.2
theorem LK.dn {f : Nat → Int32} {a b i : Nat} (n : ¬ okT9 f a b i) : ∀ {j : Nat}, i < j → ∀ v, ¬ LK f a b j v
  | 0, h, _, _ => absurd h (Nat.not_lt_zero i)
  | j + 1, h, v, ⟨u, x, ok, _⟩ => by
    by_cases e : i = j
    · subst e; exact n ok
    · exact LK.dn n (j := j) (by omega) u x
theorem LK.sm {f : Nat → Int32} {a b i v : Nat} (x : LK f a b i v) (hi : i ≤ 40) : v < 2 ^ (30 * 14) := by
  have h := x.bd.2
  have h1 : (1000 : Nat) ^ i ≤ 1024 ^ i := Nat.pow_le_pow_left (by decide) i
  have h2 : (1024 : Nat) ^ i ≤ 1024 ^ 40 := Nat.pow_le_pow_right (by decide) hi
  have h3 : (1024 : Nat) ^ 40 < 2 ^ (30 * 14) := by decide
  omega
/-- the first of the likeliest among the first k codes -/
def BF9 (f : Nat → Int32) (n : Nat) : Nat → Nat → Nat → Prop
  | 0, _, _ => False
  | k + 1, c, v => (LK f (k / 10) (k % 10) n v ∧ c = k ∧ ∀ c' u, BF9 f n k c' u → u < v) ∨ (BF9 f n k c v ∧ ∀ u, LK f (k / 10) (k % 10) n u → u ≤ v)
theorem BF9.un {f : Nat → Int32} {n : Nat} : ∀ {k c v c' v' : Nat}, BF9 f n k c v → BF9 f n k c' v' → c = c' ∧ v = v'
  | 0, _, _, _, _, x, _ => absurd x id
  | k + 1, c, v, c', v', x, y => by
    rcases x with ⟨x1, rfl, x3⟩ | ⟨x1, x3⟩
    · rcases y with ⟨y1, rfl, y3⟩ | ⟨y1, y3⟩
      · exact ⟨rfl, x1.un y1⟩
      · have := x3 _ _ y1
        have := y3 _ x1
        omega
    · rcases y with ⟨y1, rfl, y3⟩ | ⟨y1, y3⟩
      · have := y3 _ _ x1
        have := x3 _ y1
        omega
      · exact BF9.un x1 y1
def AFT (f : Nat → Int32) (n : Nat) (r : Int32) : Prop := ((∀ c v, ¬ BF9 f n 100 c v) ∧ r = -1) ∨ ∃ c v : Nat, BF9 f n 100 c v ∧ r = nI c
theorem AFT.un {f : Nat → Int32} {n : Nat} {r s : Int32} (a : AFT f n r) (b : AFT f n s) : r = s := by
  rcases a with ⟨a1, rfl⟩ | ⟨c, v, a1, rfl⟩
  · rcases b with ⟨-, rfl⟩ | ⟨c, v, b1, rfl⟩
    · rfl
    · exact absurd b1 (a1 c v)
  · rcases b with ⟨b1, -⟩ | ⟨c', v', b1, rfl⟩
    · exact absurd a1 (b1 c v)
    · rw [(a1.un b1).1]
theorem VR.ld {f : Nat → Int32} (v : VR f) {i : Nat} (hi : i < 40) : ldT f i ≤ 100 ∧ f (737 + 2 * i + 0) = nI (ldT f i) := by
  obtain ⟨l, h1, h2, e⟩ := bd_nI (v.at (vg_T (c := 0) hi (by omega)))
  have h1 : (l : Int) ≤ 100 := h1
  have : ldT f i = l := by unfold ldT; rw [e, nI_clamp h2]
  rw [this]; exact ⟨by omega, e⟩
theorem BF9.lt {f : Nat → Int32} {n : Nat} : ∀ {k c v : Nat}, BF9 f n k c v → c < k
  | 0, _, _, x => absurd x id
  | k + 1, c, v, x => by
    rcases x with ⟨-, e, -⟩ | ⟨x1, -⟩
    · omega
    · have := BF9.lt x1; omega
/-! the reference -/
