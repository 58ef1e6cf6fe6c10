/-! WAY: rows of works -/
def VS (f : Nat → Int32) (W w s t : Nat) : Prop := w < W ∧ (f (672 + 4 * w + 2)).toInt ≤ (s : Int) ∧ (s : Int) ≤ (f (672 + 4 * w + 3)).toInt ∧ 1 ≤ t ∧ t ≤ 3000 ∧ (t : Int) = s + (f (672 + 4 * w)).toInt
def pcW (f : Nat → Int32) (w : Nat) : Nat := (f (672 + 4 * w + 1)).toNatClampNeg
theorem VS.un {f : Nat → Int32} {W w s t u : Nat} (x : VS f W w s t) (y : VS f W w s u) : t = u := by
  unfold VS at x y; omega
def RWy (f : Nat → Int32) (W : Nat) : List Nat → Nat → Nat → Prop
  | [], s, t => s = t
  | w :: l, s, t => ∃ u, VS f W w s u ∧ RWy f W l u t
def csW (f : Nat → Int32) : List Nat → Nat
  | [] => 0
  | w :: l => pcW f w + csW f l
def cdW : List Nat → Nat
  | [] => 0
  | w :: l => w * 8 ^ l.length + cdW l
theorem RWy.snoc {f : Nat → Int32} {W w u t : Nat} (v : VS f W w u t) : ∀ {l : List Nat} {s : Nat}, RWy f W l s u → RWy f W (l ++ [w]) s t
  | [], s, x => by
    have x : s = u := x
    subst x
    exact ⟨t, v, rfl⟩
  | _ :: _, _, ⟨q, v', x⟩ => ⟨q, v', RWy.snoc v x⟩
theorem RWy.unsnoc {f : Nat → Int32} {W w t : Nat} : ∀ {l : List Nat} {s : Nat}, RWy f W (l ++ [w]) s t → ∃ u, RWy f W l s u ∧ VS f W w u t
  | [], s, ⟨u, v, x⟩ => by
    have x : u = t := x
    subst x
    exact ⟨s, rfl, v⟩
  | _ :: _, _, ⟨q, v', x⟩ => by
    obtain ⟨u, a, b⟩ := RWy.unsnoc x
    exact ⟨u, ⟨q, v', a⟩, b⟩
theorem csW_snoc {f : Nat → Int32} {w : Nat} : ∀ {l : List Nat}, csW f (l ++ [w]) = csW f l + pcW f w
  | [] => by show pcW f w + 0 = 0 + pcW f w; omega
  | a :: l => by
    show pcW f a + csW f (l ++ [w]) = pcW f a + csW f l + pcW f w
    rw [csW_snoc]; omega
theorem cdW_snoc {w : Nat} : ∀ {l : List Nat}, cdW (l ++ [w]) = 8 * cdW l + w
  | [] => by show w * 8 ^ 0 + 0 = 8 * 0 + w; omega
  | a :: l => by
    show a * 8 ^ (l ++ [w]).length + cdW (l ++ [w]) = 8 * (a * 8 ^ l.length + cdW l) + w
    rw [cdW_snoc, List.length_append, show ([w] : List Nat).length = 1 from rfl, Nat.pow_succ]
    have : a * (8 ^ l.length * 8) = 8 * (a * 8 ^ l.length) := by rw [← Nat.mul_assoc, Nat.mul_comm]
    omega
theorem snoc_of : ∀ {l : List Nat} {n : Nat}, l.length = n + 1 → ∃ (m : List Nat) (w : Nat), l = m ++ [w] ∧ m.length = n
  | [], _, h => absurd h (by simp)
  | [a], n, h => ⟨[], a, rfl, by have h : 1 = n + 1 := h; show 0 = n; omega⟩
  | a :: b :: l, n, h => by
    have h : (b :: l).length + 1 = n + 1 := h
    obtain ⟨m, w, e, em⟩ := snoc_of (l := b :: l) (n := n - 1) (by
      have : (b :: l).length = l.length + 1 := rfl
      omega)
    have : (b :: l).length = l.length + 1 := rfl
    exact ⟨a :: m, w, by rw [e]; rfl, by show m.length + 1 = n; omega⟩
theorem cdW_lt {f : Nat → Int32} {W : Nat} (hW : W ≤ 8) : ∀ {l : List Nat} {s t : Nat}, RWy f W l s t → cdW l < 8 ^ l.length
  | [], _, _, _ => by decide
  | w :: l, s, t, ⟨u, v, x⟩ => by
    have h := cdW_lt hW x
    have hw : w < 8 := Nat.lt_of_lt_of_le v.1 hW
    show w * 8 ^ l.length + cdW l < 8 ^ (l.length + 1)
    have e : (w + 1) * 8 ^ l.length ≤ 8 * 8 ^ l.length := Nat.mul_le_mul_right _ (by omega)
    rw [Nat.add_mul, Nat.one_mul] at e
    rw [Nat.pow_succ, Nat.mul_comm (8 ^ l.length) 8]; omega
theorem csW_le {f : Nat → Int32} {W : Nat} (hp : ∀ w, w < W → pcW f w ≤ 1000) : ∀ {l : List Nat} {s t : Nat}, RWy f W l s t → csW f l ≤ 1000 * l.length
  | [], _, _, _ => Nat.zero_le _
  | w :: l, s, t, ⟨u, v, x⟩ => by
    have h := csW_le hp x
    have hw := hp w v.1
    show pcW f w + csW f l ≤ 1000 * (l.length + 1)
    omega
theorem cdW_inj {f : Nat → Int32} {W : Nat} (hW : W ≤ 8) : ∀ {l m : List Nat} {s t u v : Nat}, RWy f W l s t → RWy f W m u v → l.length = m.length → cdW l = cdW m → l = m
  | [], [], _, _, _, _, _, _, _, _ => rfl
  | [], _ :: _, _, _, _, _, _, _, e, _ => by simp at e
  | _ :: _, [], _, _, _, _, _, _, e, _ => by simp at e
  | a :: l, b :: m, _, _, _, _, ⟨_, _, x⟩, ⟨_, _, y⟩, e0, k => by
    have e : l.length = m.length := Nat.succ.inj e0
    have k : a * 8 ^ l.length + cdW l = b * 8 ^ m.length + cdW m := k
    have h1 := cdW_lt hW x
    have h2 := cdW_lt hW y
    rw [← e] at k h2
    have hab : a = b := by
      rcases Nat.lt_trichotomy a b with q | q | q
      · have := Nat.mul_le_mul_right (8 ^ l.length) (show a + 1 ≤ b from q)
        rw [Nat.add_mul, Nat.one_mul] at this; omega
      · exact q
      · have := Nat.mul_le_mul_right (8 ^ l.length) (show b + 1 ≤ a from q)
        rw [Nat.add_mul, Nat.one_mul] at this; omega
    subst hab
    rw [cdW_inj hW x y e (by omega)]
/-- the i-th digit -/
theorem cdW_at {f : Nat → Int32} {W : Nat} (hW : W ≤ 8) : ∀ {l : List Nat} {s t i : Nat}, RWy f W l s t → i < l.length → cdW l / 8 ^ (l.length - 1 - i) % 8 = l.getD i 0
  | [], _, _, i, _, h => absurd h (Nat.not_lt_zero i)
  | w :: l, _, _, 0, ⟨u, v, x⟩, _ => by
    have h := cdW_lt hW x
    have hw : w < 8 := Nat.lt_of_lt_of_le v.1 hW
    show (w * 8 ^ l.length + cdW l) / 8 ^ (l.length + 1 - 1 - 0) % 8 = w
    rw [show l.length + 1 - 1 - 0 = l.length by omega, Nat.mul_comm, Nat.mul_add_div (Nat.pow_pos (by decide)), Nat.div_eq_of_lt h, Nat.add_zero, Nat.mod_eq_of_lt hw]
  | w :: l, _, _, i + 1, ⟨u, v, x⟩, hi => by
    have hi : i < l.length := Nat.lt_of_succ_lt_succ hi
    have ih := cdW_at hW x hi
    show (w * 8 ^ l.length + cdW l) / 8 ^ (l.length + 1 - 1 - (i + 1)) % 8 = l.getD i 0
    rw [← ih, show l.length + 1 - 1 - (i + 1) = l.length - 1 - i by omega]
    have e : 8 ^ l.length = 8 ^ (l.length - 1 - i) * (8 * 8 ^ i) := by
      rw [← Nat.mul_assoc, ← Nat.pow_succ, ← Nat.pow_add, show (l.length - 1 - i).succ + i = l.length by omega]
    rw [e, show w * (8 ^ (l.length - 1 - i) * (8 * 8 ^ i)) = 8 ^ (l.length - 1 - i) * (8 * (w * 8 ^ i)) by
      rw [Nat.mul_left_comm, Nat.mul_left_comm w 8], Nat.mul_add_div (Nat.pow_pos (by decide)), Nat.mul_add_mod]
/-- the least of what p tells, none: -1 -/
def LsA (p : Nat → Prop) (x : Int32) : Prop := (x = -1 ∧ ∀ k, ¬ p k) ∨ ∃ k, k < 2 ^ 31 ∧ x = nI k ∧ p k ∧ ∀ j, p j → k ≤ j
theorem LsA.dom {p q : Nat → Prop} {x : Int32} (a : LsA q x) (s : ∀ k, q k → p k) (d : ∀ k, p k → ∃ j, q j ∧ j ≤ k) : LsA p x := by
  rcases a with ⟨e, n⟩ | ⟨k, k1, e, k2, k3⟩
  · exact .inl ⟨e, fun k pk => by obtain ⟨j, qj, -⟩ := d k pk; exact n j qj⟩
  · exact .inr ⟨k, k1, e, s k k2, fun j pj => by obtain ⟨i, qi, hi⟩ := d j pj; exact Nat.le_trans (k3 i qi) hi⟩
theorem LsA.cg {p q : Nat → Prop} {x : Int32} (a : LsA q x) (s : ∀ k, q k ↔ p k) : LsA p x := a.dom (fun k h => (s k).mp h) (fun k h => ⟨k, (s k).mpr h, Nat.le_refl _⟩)
theorem LsA.nm {p : Nat → Prop} {x : Int32} (a : LsA p x) : ¬ x = -1 ↔ ∃ k, p k := by
  rcases a with ⟨e, n⟩ | ⟨k, k1, e, k2, k3⟩
  · exact ⟨fun c => absurd e c, fun ⟨k, pk⟩ => absurd pk (n k)⟩
  · exact ⟨fun _ => ⟨k, k2⟩, fun _ => by rw [e]; exact nI_nm k1⟩
theorem LsA.new {p : Nat → Prop} {k : Nat} (hk : k < 2 ^ 31) {x : Int32} (a : LsA p x) (e : x = -1) : LsA (fun q => p q ∨ q = k) (nI k) :=
  .inr ⟨k, hk, rfl, .inr rfl, fun j hj => hj.elim (fun pj => absurd e (a.nm.mpr ⟨j, pj⟩)) (fun ej => by omega)⟩
theorem LsA.less {p : Nat → Prop} {k : Nat} (hk : k < 2 ^ 31) {x : Int32} (a : LsA p x) (n : ¬ x = -1) (c : ¬ x ≤ nI k) : LsA (fun q => p q ∨ q = k) (nI k) := by
  rcases a with ⟨e, -⟩ | ⟨m, m1, rfl, m2, m3⟩
  · exact absurd e n
  · rw [nI_leI m1 hk] at c
    exact .inr ⟨k, hk, rfl, .inr rfl, fun j hj => hj.elim (fun pj => by have := m3 j pj; omega) (fun ej => by omega)⟩
theorem LsA.keep {p : Nat → Prop} {k : Nat} (hk : k < 2 ^ 31) {x : Int32} (a : LsA p x) (n : ¬ x = -1) (c : x ≤ nI k) : LsA (fun q => p q ∨ q = k) x := by
  rcases a with ⟨e, -⟩ | ⟨m, m1, rfl, m2, m3⟩
  · exact absurd e n
  · rw [nI_leI m1 hk] at c
    exact .inr ⟨m, m1, rfl, .inl m2, fun j hj => hj.elim (fun pj => m3 j pj) (fun ej => by omega)⟩
theorem pig : ∀ (N m : Nat) (r : Nat → Nat), (∀ i, i < m → r i < N) → (∀ i j, i < m → j < m → r i = r j → i = j) → m ≤ N
  | 0, m, r, h, _ => by
    rcases Nat.eq_zero_or_pos m with e | e
    · omega
    · exact absurd (h 0 e) (Nat.not_lt_zero _)
  | N + 1, m, r, h, j => by
    rcases Nat.eq_zero_or_pos m with e | e
    · omega
    have := pig N (m - 1) (fun i => if r i = N then r (m - 1) else r i) (fun i hi => by
      have h1 := h i (by omega)
      have h2 := h (m - 1) (by omega)
      show (if r i = N then r (m - 1) else r i) < N
      by_cases c : r i = N
      · rw [if_pos c]
        have : ¬ r (m - 1) = N := fun e => by have := j i (m - 1) (by omega) (by omega) (by rw [c, e]); omega
        omega
      · rw [if_neg c]; omega) (fun a b ha hb e => by
      have e : (if r a = N then r (m - 1) else r a) = (if r b = N then r (m - 1) else r b) := e
      by_cases c : r a = N
      · by_cases d : r b = N
        · exact j a b (by omega) (by omega) (by rw [c, d])
        · rw [if_pos c, if_neg d] at e
          have := j (m - 1) b (by omega) (by omega) e; omega
      · by_cases d : r b = N
        · rw [if_neg c, if_pos d] at e
          have := j a (m - 1) (by omega) (by omega) e; omega
        · rw [if_neg c, if_neg d] at e
          exact j a b (by omega) (by omega) e)
    omega
/-- the keys of the rows of n works from s to t -/
def PK (f : Nat → Int32) (W s n t k : Nat) : Prop := ∃ l : List Nat, l.length = n ∧ RWy f W l s t ∧ k = 32768 * csW f l + cdW l
theorem PK.bd {f : Nat → Int32} {W s n t k : Nat} (hW : W ≤ 8) (hp : ∀ w, w < W → pcW f w ≤ 1000) (hn : n ≤ 5) (x : PK f W s n t k) : k < 2 ^ 31 ∧ k % 32768 < 8 ^ n ∧ k / 32768 ≤ 1000 * n ∧ 8 ^ n ≤ 32768 := by
  obtain ⟨l, e, r, rfl⟩ := x
  have h1 := cdW_lt hW r
  have h2 := csW_le hp r
  rw [e] at h1 h2
  have h3 : 8 ^ n ≤ 32768 := (by decide : ∀ n, n < 6 → 8 ^ n ≤ 32768) n (by omega)
  rw [Nat.mul_add_mod, Nat.mul_add_div (by decide), Nat.mod_eq_of_lt (by omega), Nat.div_eq_of_lt (a := cdW l) (by omega)]
  omega
def exK (f : Nat → Int32) (k w : Nat) : Nat := (k / 32768 + pcW f w) * 32768 + k % 32768 * 8 + w
theorem PK.next {f : Nat → Int32} {W s n : Nat} (hW : W ≤ 8) (hn : n ≤ 4) {t' k' : Nat} : PK f W s (n + 1) t' k' ↔ ∃ t k w, PK f W s n t k ∧ VS f W w t t' ∧ k' = exK f k w := by
  have key : ∀ (l : List Nat) (t w : Nat), l.length = n → RWy f W l s t → 32768 * csW f (l ++ [w]) + cdW (l ++ [w]) = exK f (32768 * csW f l + cdW l) w := fun l t w e r => by
    have h1 := cdW_lt hW r
    rw [e] at h1
    have h3 : 8 ^ n ≤ 4096 := (by decide : ∀ n, n < 5 → 8 ^ n ≤ 4096) n (by omega)
    unfold exK
    rw [csW_snoc, cdW_snoc, Nat.mul_add_mod, Nat.mul_add_div (by decide), Nat.mod_eq_of_lt (by omega), Nat.div_eq_of_lt (a := cdW l) (by omega)]
    omega
  constructor
  · rintro ⟨l, e, r, rfl⟩
    obtain ⟨m, w, rfl, em⟩ := snoc_of e
    obtain ⟨t, r1, v⟩ := RWy.unsnoc r
    exact ⟨t, _, w, ⟨m, em, r1, rfl⟩, v, key m t w em r1⟩
  · rintro ⟨t, k, w, ⟨m, em, r1, rfl⟩, v, rfl⟩
    exact ⟨m ++ [w], by rw [List.length_append, em]; rfl, RWy.snoc v r1, (key m t w em r1).symm⟩
theorem exK_mono {f : Nat → Int32} {k j w : Nat} (hw : w < 8) (hk : k % 32768 < 4096) (h : k ≤ j) : exK f k w ≤ exK f j w := by
  unfold exK
  omega
