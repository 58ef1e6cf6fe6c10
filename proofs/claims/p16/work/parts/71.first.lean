/-! NUMBERS WITH A SIGN -/
def i32 (z : Int) : Int32 := Int32.ofInt z
theorem i32_t {z : Int} (h : -2147483648 ≤ z ∧ z < 2147483648) : (i32 z).toInt = z := Int32.toInt_ofInt_of_le (by omega) (by omega)
theorem i32_e {x : Int32} {z : Int} (h : x.toInt = z) : x = i32 z := by rw [← h]; exact (Int32.ofInt_toInt x).symm
theorem i_add {a b : Int32} {x y : Int} (ha : a.toInt = x) (hb : b.toInt = y) (h : -2147483648 ≤ x + y ∧ x + y < 2147483648) : (a + b).toInt = x + y := by
  rw [Int32.toInt_add, ha, hb]; exact bm h.1 h.2
theorem i_sub {a b : Int32} {x y : Int} (ha : a.toInt = x) (hb : b.toInt = y) (h : -2147483648 ≤ x - y ∧ x - y < 2147483648) : (a - b).toInt = x - y := by
  rw [Int32.toInt_sub, ha, hb]; exact bm h.1 h.2
theorem i_mul {a b : Int32} {x y : Int} (ha : a.toInt = x) (hb : b.toInt = y) (h : -2147483648 ≤ x * y ∧ x * y < 2147483648) : (a * b).toInt = x * y := by
  rw [Int32.toInt_mul, ha, hb]; exact bm h.1 h.2
theorem i_div {a b : Int32} {x y : Int} (ha : a.toInt = x) (hb : b.toInt = y) (hx : 0 ≤ x) (hy : 1 ≤ y) : (a / b).toInt = x / y := by
  have h0 := Int32.toInt_lt a
  have h1 : 0 ≤ x / y := Int.ediv_nonneg hx (by omega)
  have h2 : x / y ≤ x := Int.ediv_le_self y hx
  rw [Int32.toInt_div, ha, hb, Int.tdiv_eq_ediv_of_nonneg hx]
  exact bm (by omega) (by omega)
theorem i_lt {a b : Int32} {x y : Int} (ha : a.toInt = x) (hb : b.toInt = y) : a < b ↔ x < y := by rw [Int32.lt_iff_toInt_lt, ha, hb]
theorem i_le {a b : Int32} {x y : Int} (ha : a.toInt = x) (hb : b.toInt = y) : a ≤ b ↔ x ≤ y := by rw [Int32.le_iff_toInt_le, ha, hb]
theorem i_eq {a b : Int32} {x y : Int} (ha : a.toInt = x) (hb : b.toInt = y) : a = b ↔ x = y := by rw [← Int32.toInt_inj, ha, hb]
/-- the greater of two, as written -/
theorem i_mx {a b : Int32} {x y : Int} (ha : a.toInt = x) (hb : b.toInt = y) : (if a < b then b else a).toInt = (if x < y then y else x) := by
  by_cases c : a < b
  · rw [if_pos c, if_pos ((i_lt ha hb).mp c)]; exact hb
  · rw [if_neg c, if_neg (fun q => c ((i_lt ha hb).mpr q))]; exact ha
theorem i0 : (0 : Int32).toInt = 0 := by decide
theorem i1 : (1 : Int32).toInt = 1 := by decide
theorem im1 : (-1 : Int32).toInt = -1 := by decide
theorem nI_nm {j : Nat} (h : j < 2 ^ 31) : ¬ nI j = -1 := fun e => by
  have := nI_toInt h
  rw [e, im1] at this
  omega
/-! PLACES IN A FAMILY: the first not below a bound, the last not above it -/
def pfN (b d z : Int) : Int := if z ≤ b then 0 else (z - b + d - 1) / d
def qfN (b d z : Int) : Int := if z < b then -1 else (z - b) / d
theorem pfN_le {b d z i : Int} (hd : 1 ≤ d) (hi : 0 ≤ i) : pfN b d z ≤ i ↔ z ≤ b + d * i := by
  unfold pfN
  have m0 : 0 ≤ d * i := Int.mul_nonneg (by omega) hi
  by_cases c : z ≤ b
  · rw [if_pos c]; omega
  · rw [if_neg c]
    have h := Int.ediv_lt_iff_lt_mul (a := z - b + d - 1) (b := i + 1) (c := d) (by omega)
    rw [Int.add_mul, Int.one_mul, Int.mul_comm i d] at h
    generalize (z - b + d - 1) / d = q at h ⊢
    omega
theorem le_qfN {b d z i : Int} (hd : 1 ≤ d) (hi : 0 ≤ i) : i ≤ qfN b d z ↔ b + d * i ≤ z := by
  unfold qfN
  have m0 : 0 ≤ d * i := Int.mul_nonneg (by omega) hi
  by_cases c : z < b
  · rw [if_pos c]; omega
  · rw [if_neg c]
    have h := Int.le_ediv_iff_mul_le (a := i) (b := z - b) (c := d) (by omega)
    rw [Int.mul_comm i d] at h
    generalize (z - b) / d = q at h ⊢
    omega
theorem pfN_bd {b d z : Int} (hb : 1 ≤ b) (hd : 1 ≤ d) (hd2 : d ≤ 100000) (hz : z ≤ 1000000) : 0 ≤ pfN b d z ∧ pfN b d z ≤ 1100000 := by
  unfold pfN
  by_cases c : z ≤ b
  · rw [if_pos c]; omega
  · rw [if_neg c]
    have h1 : 0 ≤ (z - b + d - 1) / d := Int.ediv_nonneg (by omega) (by omega)
    have h2 : (z - b + d - 1) / d ≤ z - b + d - 1 := Int.ediv_le_self d (by omega)
    omega
theorem qfN_bd {b d z : Int} (hb : 1 ≤ b) (hd : 1 ≤ d) (hz : z ≤ 1000000) : -1 ≤ qfN b d z ∧ qfN b d z ≤ 1000000 := by
  unfold qfN
  by_cases c : z < b
  · rw [if_pos c]; omega
  · rw [if_neg c]
    have h1 : 0 ≤ (z - b) / d := Int.ediv_nonneg (by omega) (by omega)
    have h2 : (z - b) / d ≤ z - b := Int.ediv_le_self d (by omega)
    omega
/-! THE FAMILY of part p -/
def fB (f : Nat → Int32) (p : Nat) : Int := if f (20 + 5 * p + 3) = -1 then 1 else (f (140 + 3 * (f (20 + 5 * p + 3)).toNatClampNeg)).toInt
def fD (f : Nat → Int32) (p : Nat) : Int := if f (20 + 5 * p + 3) = -1 then 1 else (f (140 + 3 * (f (20 + 5 * p + 3)).toNatClampNeg + 1)).toInt
def fM (f : Nat → Int32) (p : Nat) : Int := if f (20 + 5 * p + 3) = -1 then 100000 else (f (140 + 3 * (f (20 + 5 * p + 3)).toNatClampNeg + 2)).toInt
theorem VR.fam {f : Nat → Int32} (v : VR f) {p : Nat} (hp : p < 24) : f (20 + 5 * p + 3) = -1 ∨ ∃ j : Nat, j < 4 ∧ f (20 + 5 * p + 3) = nI j := by
  have b : bd (-1) 3 (f (20 + 5 * p + 3)) := v.at (vg_P (c := 3) hp (by omega))
  by_cases q : f (20 + 5 * p + 3) = -1
  · exact .inl q
  · have : ¬ (f (20 + 5 * p + 3)).toInt = -1 := fun e => q (Int32.toInt_inj.mp (e.trans im1.symm))
    obtain ⟨j, h1, -, e⟩ := bd_nI (x := f (20 + 5 * p + 3)) (b := 3) ⟨by have := b.1; omega, b.2⟩
    exact .inr ⟨j, by omega, e⟩
theorem fam_n {f : Nat → Int32} {p : Nat} (e : f (20 + 5 * p + 3) = -1) : fB f p = 1 ∧ fD f p = 1 ∧ fM f p = 100000 := ⟨if_pos e, if_pos e, if_pos e⟩
theorem fam_j {f : Nat → Int32} {p j : Nat} (hj : j < 4) (e : f (20 + 5 * p + 3) = nI j) : fB f p = (f (140 + 3 * j)).toInt ∧ fD f p = (f (140 + 3 * j + 1)).toInt ∧ fM f p = (f (140 + 3 * j + 2)).toInt := by
  have n : ¬ f (20 + 5 * p + 3) = -1 := by rw [e]; exact nI_nm (by omega)
  unfold fB fD fM
  rw [if_neg n, if_neg n, if_neg n, e, nI_clamp (by omega)]
  exact ⟨rfl, rfl, rfl⟩
def FOK (f : Nat → Int32) (p : Nat) : Prop := 1 ≤ fB f p ∧ 1 ≤ fD f p ∧ fD f p ≤ 100000 ∧ 1 ≤ fM f p ∧ fM f p ≤ 100000 ∧ fB f p + (fM f p - 1) * fD f p ≤ 100000
theorem VR.fok {f : Nat → Int32} (v : VR f) {p : Nat} (hp : p < 24) : FOK f p := by
  unfold FOK
  rcases v.fam hp with e | ⟨j, hj, e⟩
  · obtain ⟨a, b, c⟩ := fam_n e
    rw [a, b, c]; omega
  · obtain ⟨a, b, c⟩ := fam_j hj e
    rw [a, b, c]
    have h0 : bd 1 100000 (f (140 + 3 * j)) := v.at (vg_F (by omega) (by omega))
    have h1 : bd 1 100000 (f (140 + 3 * j + 1)) := v.at (vg_F (by omega) (by omega))
    have h2 : bd 1 100000 (f (140 + 3 * j + 2)) := v.at (vg_F (by omega) (by omega))
    exact ⟨h0.1, h1.1, h1.2, h2.1, h2.2, v.2 j hj⟩
/-- a size of the family, by its place -/
theorem FOK.sz {f : Nat → Int32} {p : Nat} (k : FOK f p) {i : Int} (h0 : 0 ≤ i) (h1 : i ≤ fM f p - 1) : 1 ≤ fB f p + fD f p * i ∧ fB f p + fD f p * i ≤ 100000 ∧ 0 ≤ fD f p * i := by
  obtain ⟨a, b, -, c, -, e⟩ := k
  have m0 : 0 ≤ fD f p * i := Int.mul_nonneg (by omega) h0
  have m1 : fD f p * i ≤ fD f p * (fM f p - 1) := Int.mul_le_mul_of_nonneg_left h1 (by omega)
  rw [Int.mul_comm (fD f p) (fM f p - 1)] at m1
  omega
/-! SAYINGS -/
def WB (f : Nat → Int32) : Prop := ∀ a y : Nat, a < 24 → y ≤ 99 → bd 0 10000 (wvN f a y)
theorem CX.wb {h : HI} {f : Nat → Int32} (c : CX h f) : WB f := fun _ _ ha hy => c.wv ha hy
noncomputable def sW (f : Nat → Int32) (s : Nat) : Int := if f (152 + 6 * s + 1) = 0 then (wvN f (f (152 + 6 * s + 0)).toNatClampNeg (f (152 + 6 * s + 4)).toNatClampNeg).toInt else 0
noncomputable def sL (f : Nat → Int32) (s : Nat) : Int := (f (152 + 6 * s + 2)).toInt - (f (152 + 6 * s + 3)).toInt + sW f s
noncomputable def sH (f : Nat → Int32) (s : Nat) : Int := (f (152 + 6 * s + 2)).toInt + (f (152 + 6 * s + 3)).toInt + sW f s
/-- a saying allows a size -/
def alw (f : Nat → Int32) (s : Nat) (z : Int) : Prop := (¬ f (152 + 6 * s + 1) = 2 → sL f s ≤ z) ∧ (¬ f (152 + 6 * s + 1) = 3 → z ≤ sH f s)
abbrev isO (f : Nat → Int32) (p s : Nat) : Prop := f (152 + 6 * s + 0) = nI p ∧ f (152 + 6 * s + 5) = 0
theorem VR.sp {f : Nat → Int32} (v : VR f) {s : Nat} (hs : s < 60) : ∃ a y : Nat, a < 24 ∧ y ≤ 99 ∧ f (152 + 6 * s + 0) = nI a ∧ f (152 + 6 * s + 4) = nI y := by
  obtain ⟨a, h1, -, e1⟩ := bd_nI (v.at (vg_S (c := 0) hs (by omega)))
  obtain ⟨y, h2, -, e2⟩ := bd_nI (v.at (vg_S (c := 4) hs (by omega)))
  have h1 : (a : Int) ≤ 23 := h1
  have h2 : (y : Int) ≤ 99 := h2
  exact ⟨a, y, by omega, by omega, e1, e2⟩
theorem s_bd {f : Nat → Int32} (v : VR f) (w : WB f) {s : Nat} (hs : s < 60) : 0 ≤ sW f s ∧ sW f s ≤ 10000 ∧ -10000 ≤ (f (152 + 6 * s + 2)).toInt ∧ (f (152 + 6 * s + 2)).toInt ≤ 100000 ∧ 0 ≤ (f (152 + 6 * s + 3)).toInt ∧ (f (152 + 6 * s + 3)).toInt ≤ 10000 := by
  have b2 : bd (-10000) 100000 (f (152 + 6 * s + 2)) := v.at (vg_S (c := 2) hs (by omega))
  have b3 : bd 0 10000 (f (152 + 6 * s + 3)) := v.at (vg_S (c := 3) hs (by omega))
  have b : 0 ≤ sW f s ∧ sW f s ≤ 10000 := by
    unfold sW
    by_cases q : f (152 + 6 * s + 1) = 0
    · rw [if_pos q]
      obtain ⟨a, y, ha, hy, e1, e2⟩ := v.sp hs
      rw [e1, e2, nI_clamp (by omega), nI_clamp (by omega)]
      exact w a y ha hy
    · rw [if_neg q]; omega
  exact ⟨b.1, b.2, b2.1, b2.2, b3.1, b3.2⟩
theorem sLH {f : Nat → Int32} (v : VR f) (w : WB f) {s : Nat} (hs : s < 60) : -20000 ≤ sL f s ∧ sL f s ≤ 110000 ∧ -20000 ≤ sH f s ∧ sH f s ≤ 120000 := by
  obtain ⟨a, b, c, d, e, g⟩ := s_bd v w hs
  unfold sL sH; omega
/-- the sizes of p's family that all its sayings among the first n allow -/
def okZs (f : Nat → Int32) (p n : Nat) (z : Int) : Prop := ∀ s, s < n → isO f p s → alw f s z
def FSp (f : Nat → Int32) (p n : Nat) (a b : Int) : Prop := 0 ≤ a ∧ b ≤ fM f p - 1 ∧ ∀ i, 0 ≤ i → i ≤ fM f p - 1 → ((a ≤ i ∧ i ≤ b) ↔ okZs f p n (fB f p + fD f p * i))
def FA (f : Nat → Int32) (p n : Nat) (lo hi m : Int) : Prop := ∃ a b, FSp f p n a b ∧ m = (if b < a then 0 else b - a + 1) ∧ lo = (if b < a then -1 else fB f p + fD f p * a) ∧ hi = (if b < a then -1 else fB f p + fD f p * b)
theorem FA.un {f : Nat → Int32} {p n : Nat} {lo hi m lo' hi' m' : Int} (x : FA f p n lo hi m) (y : FA f p n lo' hi' m') : lo = lo' ∧ hi = hi' ∧ m = m' := by
  obtain ⟨a, b, ⟨a0, b0, k⟩, rfl, rfl, rfl⟩ := x
  obtain ⟨a', b', ⟨a0', b0', k'⟩, rfl, rfl, rfl⟩ := y
  by_cases c : b < a
  · by_cases c' : b' < a'
    · rw [if_pos c, if_pos c, if_pos c, if_pos c', if_pos c', if_pos c']; exact ⟨rfl, rfl, rfl⟩
    · have h1 := (k a' a0' (by omega)).mpr ((k' a' a0' (by omega)).mp (by omega))
      omega
  · by_cases c' : b' < a'
    · have h1 := (k' a a0 (by omega)).mpr ((k a a0 (by omega)).mp (by omega))
      omega
    · have h1 := (k a' a0' (by omega)).mpr ((k' a' a0' (by omega)).mp (by omega))
      have h2 := (k' a a0 (by omega)).mpr ((k a a0 (by omega)).mp (by omega))
      have h3 := (k b' (by omega) b0').mpr ((k' b' (by omega) b0').mp (by omega))
      have h4 := (k' b (by omega) b0).mpr ((k b (by omega) b0).mp (by omega))
      have e1 : a = a' := by omega
      have e2 : b = b' := by omega
      subst e1; subst e2
      exact ⟨rfl, rfl, rfl⟩
noncomputable def f3 (f : Nat → Int32) (p : Nat) : Int × Int × Int := Classical.epsilon (fun t => ∃ n : Nat, f 1 = nI n ∧ n ≤ 60 ∧ FA f p n t.1 t.2.1 t.2.2)
theorem f3_eq {f : Nat → Int32} {p n : Nat} {lo hi m : Int} (en : f 1 = nI n) (hn : n ≤ 60) (x : FA f p n lo hi m) : f3 f p = (lo, hi, m) := by
  have ex : ∃ t : Int × Int × Int, ∃ n : Nat, f 1 = nI n ∧ n ≤ 60 ∧ FA f p n t.1 t.2.1 t.2.2 := ⟨(lo, hi, m), n, en, hn, x⟩
  obtain ⟨n', en', hn', x'⟩ := Classical.epsilon_spec ex
  have e : n = n' := (nI_eq (by omega) (by omega)).mp (en.symm.trans en')
  subst e
  obtain ⟨e1, e2, e3⟩ := x.un x'
  show Classical.epsilon _ = _
  generalize Classical.epsilon (fun t : Int × Int × Int => ∃ n : Nat, f 1 = nI n ∧ n ≤ 60 ∧ FA f p n t.1 t.2.1 t.2.2) = t at e1 e2 e3 ⊢
  obtain ⟨t1, t2, t3⟩ := t
  rw [e1, e2, e3]
noncomputable def fLo (f : Nat → Int32) (p : Nat) : Int32 := i32 (f3 f p).1
noncomputable def fHi (f : Nat → Int32) (p : Nat) : Int32 := i32 (f3 f p).2.1
noncomputable def fMn (f : Nat → Int32) (p : Nat) : Int32 := i32 (f3 f p).2.2
theorem f3_vals {f : Nat → Int32} {p n : Nat} {x y z : Int32} (en : f 1 = nI n) (hn : n ≤ 60) (a : FA f p n x.toInt y.toInt z.toInt) : x = fLo f p ∧ y = fHi f p ∧ z = fMn f p := by
  unfold fLo fHi fMn
  rw [f3_eq en hn a]
  exact ⟨i32_e rfl, i32_e rfl, i32_e rfl⟩
