/-! THE REFERENCE: ranges -/
def bd (a b : Int) (x : Int32) : Prop := a ≤ x.toInt ∧ x.toInt ≤ b
theorem bd.mo {a b c d : Int} {x : Int32} (h : bd a b x) (h1 : c ≤ a) (h2 : b ≤ d) : bd c d x := ⟨Int.le_trans h1 h.1, Int.le_trans h.2 h2⟩
theorem bd_lit {n : Int} {x : Int32} (e : x.toInt = n) : bd n n x := ⟨Int.le_of_eq e.symm, Int.le_of_eq e⟩
theorem bd_add {a b c d : Int} {x y : Int32} (hx : bd a b x) (hy : bd c d y) (h1 : -2147483648 ≤ a + c) (h2 : b + d ≤ 2147483647) : bd (a + c) (b + d) (x + y) := by
  have e : (x + y).toInt = x.toInt + y.toInt := by
    rw [Int32.toInt_add]
    unfold bd at hx hy
    exact bm (by omega) (by omega)
  unfold bd at *
  omega
theorem bd_sub {a b c d : Int} {x y : Int32} (hx : bd a b x) (hy : bd c d y) (h1 : -2147483648 ≤ a - d) (h2 : b - c ≤ 2147483647) : bd (a - d) (b - c) (x - y) := by
  have e : (x - y).toInt = x.toInt - y.toInt := by
    rw [Int32.toInt_sub]
    unfold bd at hx hy
    exact bm (by omega) (by omega)
  unfold bd at *
  omega
theorem bd_mul {a b n : Int} {x k : Int32} (e : k.toInt = n) (hx : bd a b x) (h0 : 0 ≤ n) (h1 : -2147483648 ≤ n * a) (h2 : n * b ≤ 2147483647) : bd (n * a) (n * b) (k * x) := by
  have l1 : n * a ≤ n * x.toInt := Int.mul_le_mul_of_nonneg_left hx.1 h0
  have l2 : n * x.toInt ≤ n * b := Int.mul_le_mul_of_nonneg_left hx.2 h0
  have e : (k * x).toInt = n * x.toInt := by
    rw [Int32.toInt_mul, e]
    exact bm (by omega) (by omega)
  exact ⟨by rw [e]; exact l1, by rw [e]; exact l2⟩
theorem vp_bd {a b : Int} {x : Int32} {n : Nat} (h : bd a b x) (h0 : 0 ≤ a) (h1 : b < n) : vp_in x n := by
  rw [vp_in_iff]
  unfold bd at h
  omega
theorem bd_up {a n : Int} {x A : Int32} (h0 : 0 ≤ x.toInt) (c : ¬ A ≤ x) (hA : bd a n A) : bd 0 (n - 1) x := by
  rw [Int32.le_iff_toInt_le] at c
  unfold bd at *
  omega
theorem bd_nI {b : Int} {x : Int32} (h : bd 0 b x) : ∃ j : Nat, (j : Int) ≤ b ∧ j < 2 ^ 31 ∧ x = nI j := by
  obtain ⟨j, hj, rfl⟩ := nI_of (x := x) (fun q => by
    rw [Int32.lt_iff_toInt_lt] at q
    have : (0 : Int32).toInt = 0 := by decide
    unfold bd at h; omega)
  refine ⟨j, ?_, hj, rfl⟩
  unfold bd at h
  rw [nI_toInt hj] at h
  exact h.2
theorem bd_of {n : Nat} {a b : Int} (h : n < 2 ^ 31) (h1 : a ≤ n) (h2 : (n : Int) ≤ b) : bd a b (nI n) := by
  unfold bd; rw [nI_toInt h]; exact ⟨h1, h2⟩
theorem mu_lt {a b N : Int} {x : Int32} (h : bd a b x) (hN : b < N ∧ N ≤ 2147483647) : (N - (x + 1).toInt).toNat < (N - x.toInt).toNat := by
  have e : (x + 1).toInt = x.toInt + 1 := by
    rw [Int32.toInt_add, show (1 : Int32).toInt = 1 by decide]
    have := lt_rng x
    unfold bd at h
    exact bm (by omega) (by omega)
  unfold bd at h
  omega
theorem inc_b {a b : Int} {x : Int32} (h : bd a b x) (h0 : 0 ≤ a) (hb : b < 2147483647) : 0 ≤ (x + 1).toInt := by
  have e : (x + 1).toInt = x.toInt + 1 := by
    rw [Int32.toInt_add, show (1 : Int32).toInt = 1 by decide]
    have := lt_rng x
    unfold bd at h
    exact bm (by omega) (by omega)
  unfold bd at h
  omega
theorem ge0 : 0 ≤ (0 : Int32).toInt := by decide
/-- in, as a call -/
theorem c_in {a b c : Int64} {h : HI} {g : HL} {body : Int32 → HI → HL → Prop} (h1 : b.toInt ≤ a.toInt → a.toInt ≤ c.toInt → body 1 h g) (h0 : (a.toInt < b.toInt ∨ c.toInt < a.toInt) → body 0 h g) : ∃ P : Int32 → HI → HL → Prop, w_X11_in a b c h g P ∧ ∀ (r : Int32) (h : HI) (g : HL), zb r → P r h g → body r h g := by
  refine ⟨fun r h' g' => body r h' g', ?_, fun r h g _ k => k⟩
  unfold w_X11_in
  have e1 : lg_cmp a b < 0 ↔ a.toInt < b.toInt := by
    unfold lg_cmp
    by_cases q : a > b
    · rw [if_pos q]
      have q' : b < a := q
      rw [Int64.lt_iff_toInt_lt] at q'
      exact ⟨fun x => absurd x (by decide), fun x => by omega⟩
    · rw [if_neg q]
      have q' : ¬ b < a := q
      rw [Int64.lt_iff_toInt_lt] at q'
      by_cases r : a = b
      · subst r; rw [if_pos rfl]; exact ⟨fun x => absurd x (by decide), fun x => by omega⟩
      · rw [if_neg r]
        have r' : a.toInt ≠ b.toInt := fun e => r (Int64.toInt_inj.mp e)
        exact ⟨fun _ => by omega, fun _ => by decide⟩
  have e2 : 0 < lg_cmp a c ↔ c.toInt < a.toInt := by
    unfold lg_cmp
    by_cases q : a > c
    · rw [if_pos q]
      have q' : c < a := q
      rw [Int64.lt_iff_toInt_lt] at q'
      exact ⟨fun _ => q', fun x => by decide⟩
    · rw [if_neg q]
      have q' : ¬ c < a := q
      rw [Int64.lt_iff_toInt_lt] at q'
      by_cases r : a = c
      · subst r; rw [if_pos rfl]; exact ⟨fun x => absurd x (by decide), fun x => by omega⟩
      · rw [if_neg r]; exact ⟨fun x => absurd x (by decide), fun x => by omega⟩
  rw [e1, e2]
  exact ⟨fun c => h0 (.inl c), fun c1 => ⟨fun c => h0 (.inr c), fun c2 => h1 (by omega) (by omega)⟩⟩
/-- in, of an int between two ints -/
theorem c_in3 {x : Int32} {b c : Int64} {h : HI} {g : HL} {body : Int32 → HI → HL → Prop} (h1 : bd b.toInt c.toInt x → body 1 h g) (h0 : ¬ bd b.toInt c.toInt x → body 0 h g) : ∃ P : Int32 → HI → HL → Prop, w_X11_in x.toInt64 b c h g P ∧ ∀ (r : Int32) (h : HI) (g : HL), zb r → P r h g → body r h g :=
  c_in (fun u v => h1 ⟨by rw [Int32.toInt_toInt64] at u; exact u, by rw [Int32.toInt_toInt64] at v; exact v⟩) (fun u => h0 (fun q => by rw [Int32.toInt_toInt64] at u; unfold bd at q; omega))
def RI (f : Nat → Int32) : Prop :=
  (bd 0 24 (f 0) ∧ bd 0 60 (f 1) ∧ bd 0 16 (f 2) ∧ bd 0 8 (f 3) ∧ bd 0 6 (f 4) ∧ bd 0 9 (f 5) ∧ bd 0 40 (f 6) ∧ bd 0 3 (f 7) ∧ bd 0 60 (f 8) ∧ bd 0 9 (f 9) ∧ bd 0 9 (f 10)) ∧
  (∀ p : Nat, p < 24 → bd 0 100 (f (20 + 5 * p)) ∧ bd (-1) 3 (f (20 + 5 * p + 3))) ∧
  (∀ k : Nat, k < 4 → bd 1 100000 (f (140 + 3 * k + 1))) ∧
  (∀ s : Nat, s < 60 → bd 0 23 (f (152 + 6 * s))) ∧
  (∀ c : Nat, c < 16 → bd 0 6 (f (512 + 10 * c + 2)) ∧ ∀ k : Nat, k < 6 → bd 0 23 (f (512 + 10 * c + (3 + k)))) ∧
  (∀ w : Nat, w < 8 → bd (-500) 500 (f (672 + 4 * w)) ∧ bd 0 1000 (f (672 + 4 * w + 1))) ∧
  (∀ k : Nat, k < 3 → bd 0 15 (f (817 + 2 * k)))
theorem cl0 : (0 : Int32).toNatClampNeg = 0 := by decide
theorem cl1 : (1 : Int32).toNatClampNeg = 1 := by decide
theorem cl2 : (2 : Int32).toNatClampNeg = 2 := by decide
theorem cl3 : (3 : Int32).toNatClampNeg = 3 := by decide
theorem cl4 : (4 : Int32).toNatClampNeg = 4 := by decide
theorem cl5 : (5 : Int32).toNatClampNeg = 5 := by decide
theorem cl6 : (6 : Int32).toNatClampNeg = 6 := by decide
theorem cl7 : (7 : Int32).toNatClampNeg = 7 := by decide
theorem cl8 : (8 : Int32).toNatClampNeg = 8 := by decide
theorem cl9 : (9 : Int32).toNatClampNeg = 9 := by decide
theorem cl10 : (10 : Int32).toNatClampNeg = 10 := by decide
theorem RI.c0 {f : Nat → Int32} (r : RI f) : bd 0 24 (f (0 : Int32).toNatClampNeg) := by rw [cl0]; exact r.1.1
theorem RI.c1 {f : Nat → Int32} (r : RI f) : bd 0 60 (f (1 : Int32).toNatClampNeg) := by rw [cl1]; exact r.1.2.1
theorem RI.c2 {f : Nat → Int32} (r : RI f) : bd 0 16 (f (2 : Int32).toNatClampNeg) := by rw [cl2]; exact r.1.2.2.1
theorem RI.c3 {f : Nat → Int32} (r : RI f) : bd 0 8 (f (3 : Int32).toNatClampNeg) := by rw [cl3]; exact r.1.2.2.2.1
theorem RI.c4 {f : Nat → Int32} (r : RI f) : bd 0 6 (f (4 : Int32).toNatClampNeg) := by rw [cl4]; exact r.1.2.2.2.2.1
theorem RI.c5 {f : Nat → Int32} (r : RI f) : bd 0 9 (f (5 : Int32).toNatClampNeg) := by rw [cl5]; exact r.1.2.2.2.2.2.1
theorem RI.c6 {f : Nat → Int32} (r : RI f) : bd 0 40 (f (6 : Int32).toNatClampNeg) := by rw [cl6]; exact r.1.2.2.2.2.2.2.1
theorem RI.c7 {f : Nat → Int32} (r : RI f) : bd 0 3 (f (7 : Int32).toNatClampNeg) := by rw [cl7]; exact r.1.2.2.2.2.2.2.2.1
theorem RI.c8 {f : Nat → Int32} (r : RI f) : bd 0 60 (f (8 : Int32).toNatClampNeg) := by rw [cl8]; exact r.1.2.2.2.2.2.2.2.2.1
theorem RI.c9 {f : Nat → Int32} (r : RI f) : bd 0 9 (f (9 : Int32).toNatClampNeg) := by rw [cl9]; exact r.1.2.2.2.2.2.2.2.2.2.1
theorem RI.c10 {f : Nat → Int32} (r : RI f) : bd 0 9 (f (10 : Int32).toNatClampNeg) := by rw [cl10]; exact r.1.2.2.2.2.2.2.2.2.2.2
theorem ix2 (a b k : Nat) : nI a + nI b * nI k = nI (a + b * k) := by rw [pk_mul, nI_add]
theorem ix3 (a b k c : Nat) : nI a + nI b * nI k + nI c = nI (a + b * k + c) := by rw [pk_mul, nI_add, nI_add]
theorem RI.ld {f : Nat → Int32} (r : RI f) {x : Int32} (hx : bd 0 23 x) : bd 0 100 (f (((20 : Int32) + ((5 : Int32) * x)) + (0 : Int32)).toNatClampNeg) := by
  obtain ⟨j, hj, hj2, rfl⟩ := bd_nI hx
  rw [show ((20 : Int32) + ((5 : Int32) * nI j)) + (0 : Int32) = nI (20 + 5 * j + 0) from ix3 20 5 j 0, nI_clamp (by omega)]
  exact (r.2.1 j (by omega)).1
theorem RI.kd {f : Nat → Int32} (r : RI f) {x : Int32} (hx : bd 0 23 x) : bd (-1) 3 (f (((20 : Int32) + ((5 : Int32) * x)) + (3 : Int32)).toNatClampNeg) := by
  obtain ⟨j, hj, hj2, rfl⟩ := bd_nI hx
  rw [show ((20 : Int32) + ((5 : Int32) * nI j)) + (3 : Int32) = nI (20 + 5 * j + 3) from ix3 20 5 j 3, nI_clamp (by omega)]
  exact (r.2.1 j (by omega)).2
theorem RI.sd {f : Nat → Int32} (r : RI f) {x : Int32} (hx : bd 0 3 x) : bd 1 100000 (f (((140 : Int32) + ((3 : Int32) * x)) + (1 : Int32)).toNatClampNeg) := by
  obtain ⟨j, hj, hj2, rfl⟩ := bd_nI hx
  rw [show ((140 : Int32) + ((3 : Int32) * nI j)) + (1 : Int32) = nI (140 + 3 * j + 1) from ix3 140 3 j 1, nI_clamp (by omega)]
  exact r.2.2.1 j (by omega)
theorem RI.sp {f : Nat → Int32} (r : RI f) {x : Int32} (hx : bd 0 59 x) : bd 0 23 (f (((152 : Int32) + ((6 : Int32) * x)) + (0 : Int32)).toNatClampNeg) := by
  obtain ⟨j, hj, hj2, rfl⟩ := bd_nI hx
  rw [show ((152 : Int32) + ((6 : Int32) * nI j)) + (0 : Int32) = nI (152 + 6 * j + 0) from ix3 152 6 j 0, nI_clamp (by omega)]
  exact r.2.2.2.1 j (by omega)
theorem RI.cm {f : Nat → Int32} (r : RI f) {x : Int32} (hx : bd 0 15 x) : bd 0 6 (f (((512 : Int32) + ((10 : Int32) * x)) + (2 : Int32)).toNatClampNeg) := by
  obtain ⟨j, hj, hj2, rfl⟩ := bd_nI hx
  rw [show ((512 : Int32) + ((10 : Int32) * nI j)) + (2 : Int32) = nI (512 + 10 * j + 2) from ix3 512 10 j 2, nI_clamp (by omega)]
  exact (r.2.2.2.2.1 j (by omega)).1
theorem RI.cf {f : Nat → Int32} (r : RI f) {x k : Int32} (hx : bd 0 15 x) (hk : bd 0 5 k) : bd 0 23 (f (((512 : Int32) + ((10 : Int32) * x)) + ((3 : Int32) + k)).toNatClampNeg) := by
  obtain ⟨j, hj, hj2, rfl⟩ := bd_nI hx
  obtain ⟨i, hi, hi2, rfl⟩ := bd_nI hk
  rw [show (3 : Int32) + nI i = nI (3 + i) from nI_add 3 i, show ((512 : Int32) + ((10 : Int32) * nI j)) + nI (3 + i) = nI (512 + 10 * j + (3 + i)) from ix3 512 10 j (3 + i), nI_clamp (by omega)]
  exact (r.2.2.2.2.1 j (by omega)).2 i (by omega)
theorem RI.hs {f : Nat → Int32} (r : RI f) {x : Int32} (hx : bd 0 2 x) : bd 0 15 (f ((817 : Int32) + ((2 : Int32) * x)).toNatClampNeg) := by
  obtain ⟨j, hj, hj2, rfl⟩ := bd_nI hx
  rw [show ((817 : Int32) + ((2 : Int32) * nI j)) = nI (817 + 2 * j) from ix2 817 2 j, nI_clamp (by omega)]
  exact r.2.2.2.2.2.2 j (by omega)
theorem RI.jj {S : Nat → Prop} {a b : HI} (r : RI (a 136)) (x : JJ S a b) (n : ¬ S 136) : RI (b 136) := by rw [x 136 n]; exact r
/-- is, as a call -/
theorem c_is {k x : Int32} {N : Int} {h : HI} {g : HL} {body : Int32 → HI → HL → Prop} (hk : vp_in k 887) (hb : bd 0 N (h 136 k.toNatClampNeg)) (hN : N ≤ 1000) (h1 : bd 0 (N - 1) x → ¬ h 136 k.toNatClampNeg ≤ x → body 1 h g) (h0 : (x < 0 ∨ h 136 k.toNatClampNeg ≤ x) → body 0 h g) : ∃ P : Int32 → HI → HL → Prop, w_X11_is k x h g P ∧ ∀ (r : Int32) (h : HI) (g : HL), zb r → P r h g → body r h g := by
  refine ⟨fun r h' g' => body r h' g', ?_, fun r h g _ k => k⟩
  unfold w_X11_is
  have e := bd_sub hb (bd_lit (n := 1) (x := (1 : Int32)) (by decide)) (by omega) (by omega)
  have es : (h 136 k.toNatClampNeg - 1).toInt = (h 136 k.toNatClampNeg).toInt - 1 := by
    rw [Int32.toInt_sub, show (1 : Int32).toInt = 1 by decide]
    unfold bd at hb
    exact bm (by omega) (by omega)
  refine and_have hk (fun _ => ?_)
  refine c_in3 (fun q => and_have (.inr rfl) (fun _ => h1 ?_ ?_)) (fun q => and_have (.inl rfl) (fun _ => h0 ?_))
  · unfold bd at q hb ⊢
    rw [Int32.toInt_toInt64, es, show (0 : Int64).toInt = 0 by decide] at q
    omega
  · rw [Int32.le_iff_toInt_le]
    unfold bd at q
    rw [Int32.toInt_toInt64, es, show (0 : Int64).toInt = 0 by decide] at q
    omega
  · unfold bd at q
    rw [Int32.toInt_toInt64, es, show (0 : Int64).toInt = 0 by decide] at q
    rw [Int32.lt_iff_toInt_lt, Int32.le_iff_toInt_le, show (0 : Int32).toInt = 0 by decide]
    omega
/-- frames by places -/
def KJ (S : Nat → Nat → Prop) (a b : HI) : Prop := ∀ o k, ¬ S o k → b o k = a o k
theorem KJ.rf {S : Nat → Nat → Prop} {a : HI} : KJ S a a := fun _ _ _ => rfl
theorem KJ.tr {S : Nat → Nat → Prop} {a b c : HI} (x : KJ S a b) (y : KJ S b c) : KJ S a c := fun o k n => (y o k n).trans (x o k n)
theorem KJ.mo {S T : Nat → Nat → Prop} {a b : HI} (x : KJ S a b) (hs : ∀ o k, S o k → T o k) : KJ T a b := fun o k n => x o k (fun s => n (hs o k s))
theorem KJ.hu {S : Nat → Nat → Prop} {a b c : HI} {o k : Nat} {v : Int32} (x : KJ S a b) (e : c = hu b o k v) (hs : S o k) : KJ S a c := fun q j n => by
  by_cases h : q = o
  · subst h
    rw [e, hu_eq, pk_un (fun h2 => n (by rw [h2]; exact hs))]; exact x q j n
  · rw [e, hu_ne h]; exact x q j n
theorem RI.kj {S : Nat → Nat → Prop} {a b : HI} (r : RI (a 136)) (x : KJ S a b) (n : ∀ k, ¬ S 136 k) : RI (b 136) := by
  have e : b 136 = a 136 := funext fun k => x 136 k (n k)
  rw [e]; exact r
def SRd (o k : Nat) : Prop := (o = 135 ∧ (k = 3 ∨ k = 6)) ∨ 139 ≤ o ∧ o ≤ 141
def SLt (o k : Nat) : Prop := (o = 135 ∧ (k = 3 ∨ k = 6 ∨ k = 9 ∨ k = 10)) ∨ 139 ≤ o ∧ o ≤ 141
def SFm (o k : Nat) : Prop := o = 135 ∧ 11 ≤ k ∧ k ≤ 13
def SFf (o k : Nat) : Prop := (o = 135 ∧ (k = 3 ∨ k = 6 ∨ 9 ≤ k ∧ k ≤ 15)) ∨ 139 ≤ o ∧ o ≤ 141
def STr (o k : Nat) : Prop := (o = 135 ∧ (k = 3 ∨ k = 6 ∨ k = 9 ∨ k = 10 ∨ k = 16 ∨ k = 17)) ∨ 139 ≤ o ∧ o ≤ 141
def SQu (o k : Nat) : Prop := (o = 135 ∧ (k = 3 ∨ k = 6 ∨ 9 ≤ k ∧ k ≤ 13 ∨ k = 16 ∨ k = 17)) ∨ 139 ≤ o ∧ o ≤ 141
def SSm (o k : Nat) : Prop := (o = 135 ∧ (k = 3 ∨ k = 6 ∨ 9 ≤ k ∧ k ≤ 15 ∨ k = 18 ∨ k = 19)) ∨ 139 ≤ o ∧ o ≤ 141
def SPr (o _k : Nat) : Prop := o = 143
def STk (o _k : Nat) : Prop := o = 144 ∨ o = 145
def SBg (o _k : Nat) : Prop := o = 146 ∨ o = 147
def SPm (o _k : Nat) : Prop := o = 148
def SRef (o _k : Nat) : Prop := o = 135 ∨ 139 ≤ o ∧ o ≤ 148
theorem bd_ne {n : Int} {x : Int32} (h : bd 1 n x) : ¬ x = 0 := fun e => by
  unfold bd at h
  rw [e, show (0 : Int32).toInt = 0 by decide] at h
  omega
theorem c_yr {x : Int32} {h : HI} {g : HL} {body : Int32 → HI → HL → Prop} (h1 : bd 0 99 x → body 1 h g) (h0 : ¬ bd 0 99 x → body 0 h g) : ∃ P : Int32 → HI → HL → Prop, w_X11_isYear x h g P ∧ ∀ (r : Int32) (h : HI) (g : HL), zb r → P r h g → body r h g :=
  ⟨fun r h' g' => body r h' g', c_in3 (fun q => ⟨.inr rfl, h1 q⟩) (fun q => ⟨.inl rfl, h0 q⟩), fun _ _ _ _ k => k⟩
theorem c_sz {x : Int32} {h : HI} {g : HL} {body : Int32 → HI → HL → Prop} (h1 : bd 1 100000 x → body 1 h g) (h0 : ¬ bd 1 100000 x → body 0 h g) : ∃ P : Int32 → HI → HL → Prop, w_X11_isSize x h g P ∧ ∀ (r : Int32) (h : HI) (g : HL), zb r → P r h g → body r h g :=
  ⟨fun r h' g' => body r h' g', c_in3 (fun q => ⟨.inr rfl, h1 q⟩) (fun q => ⟨.inl rfl, h0 q⟩), fun _ _ _ _ k => k⟩
theorem c_dg {x : Int32} {h : HI} {g : HL} {body : Int32 → HI → HL → Prop} (h1 : bd 0 9 x → body 1 h g) (h0 : ¬ bd 0 9 x → body 0 h g) : ∃ P : Int32 → HI → HL → Prop, w_X11_isDigit x h g P ∧ ∀ (r : Int32) (h : HI) (g : HL), zb r → P r h g → body r h g :=
  ⟨fun r h' g' => body r h' g', c_in3 (fun q => ⟨.inr rfl, h1 q⟩) (fun q => ⟨.inl rfl, h0 q⟩), fun _ _ _ _ k => k⟩
theorem sm_p {p q r : Int32} (h : bd 0 23 p ∨ q = -2) (c : r = q) (hr : bd 0 23 r) : bd 0 23 p := by
  rcases h with h | h
  · exact h
  · exfalso
    rw [c, h] at hr
    exact absurd hr (by unfold bd; decide)
theorem lf_b {x y : Int32} {a b : Int} (hx : bd a b x) (hy : 0 ≤ y.toInt ∧ y.toInt ≤ 100) (c : ¬ (100 : Int32) ≤ x + y) (ha : 0 ≤ a := by decide) (hb : b ≤ 99 := by decide) : bd 0 99 y := by
  have e : (x + y).toInt = x.toInt + y.toInt := add_i (by unfold bd at hx; omega) (by unfold bd at hx; omega) (by omega) (by omega)
  rw [Int32.le_iff_toInt_le, e, show (100 : Int32).toInt = 100 by decide] at c
  unfold bd at *
  omega
theorem inc_b2 {y : Int32} (h : bd 0 99 y) : (y + 1).toInt ≤ 100 := by
  have e : (y + 1).toInt = y.toInt + (1 : Int32).toInt := add_i (by unfold bd at h; omega) (by unfold bd at h; omega) (by decide) (by decide)
  rw [e, show (1 : Int32).toInt = 1 by decide]
  unfold bd at h; omega
theorem bd_2 {x : Int32} {b : Int} (c : (2 : Int32) ≤ x) (h : bd 0 b x) : bd 2 b x := by
  rw [Int32.le_iff_toInt_le, show (2 : Int32).toInt = 2 by decide] at c
  unfold bd at *
  omega
theorem p_X11_findFamily {h : HI} {g : HL} (hR : RI (h 136)) {x1 : Int32} (b_x1 : bd 0 23 x1) : w_X11_findFamily x1 h g (fun h' g' => KJ SFm h h' ∧ bd 1 100000 (h' 135 12)) := by
  unfold w_X11_findFamily
  refine c_i (S := fun r h' g' => h = h' ∧ g = g' ∧ h 136 (((20 : Int32) + ((5 : Int32) * x1)) + (3 : Int32)).toNatClampNeg = r) ?_ ?_
  · unfold w_X11_partOf
    exact ⟨vp_bd (bd_add (bd_add (bd_lit (n := 20) (by decide)) (bd_mul (n := 5) (by decide) b_x1 (by decide) (by decide) (by decide)) (by decide) (by decide)) (bd_lit (n := 3) (by decide)) (by decide) (by decide)) (by decide) (by decide), rfl, rfl, rfl⟩
  rintro _ _ _ ⟨rfl, rfl, rfl⟩
  have hk := hR.kd b_x1
  generalize h 136 (((20 : Int32) + ((5 : Int32) * x1)) + (3 : Int32)).toNatClampNeg = k at hk ⊢
  have ix : ∀ a : Int32, bd 0 2 a → vp_in (((140 : Int32) + ((3 : Int32) * k)) + a) 887 := fun a ha => vp_bd (bd_add (bd_add (bd_lit (n := 140) (by decide)) (bd_mul (n := 3) (by decide) hk (by decide) (by decide) (by decide)) (by decide) (by decide)) ha (by decide) (by decide)) (by decide) (by decide)
  have j84 : ∀ (s : Int32) (h1 : HI), KJ SFm h h1 → bd 1 100000 (h1 135 12) → j_X11_findFamily_84 (fun h' g' => KJ SFm h h' ∧ bd 1 100000 (h' 135 12)) s h1 g := by
    intro s h1 J T
    unfold j_X11_findFamily_84
    intro h2 e2
    exact ⟨J.hu e2 (by unfold SFm; omega), by rw [e2, hu_eq, pk_un (by decide)]; exact T⟩
  have j56 : ∀ (s : Int32) (h1 : HI), KJ SFm h h1 → bd 1 100000 s → j_X11_findFamily_56 (fun h' g' => KJ SFm h h' ∧ bd 1 100000 (h' 135 12)) k s h1 g := by
    intro s h1 J T
    unfold j_X11_findFamily_56
    intro h2 e2
    have J2 : KJ SFm h h2 := J.hu e2 (by unfold SFm; omega)
    have T2 : bd 1 100000 (h2 135 12) := by rw [e2, hu_eq, pk_us]; exact T
    exact ⟨fun _ => ⟨ix _ ((bd_lit (n := 2) (by decide)).mo (by decide) (by decide)), j84 _ _ J2 T2⟩, fun _ => j84 _ _ J2 T2⟩
  have j29 : ∀ s : Int32, j_X11_findFamily_29 (fun h' g' => KJ SFm h h' ∧ bd 1 100000 (h' 135 12)) k s h g := by
    intro s
    unfold j_X11_findFamily_29
    intro h2 e2
    have J2 : KJ SFm h h2 := KJ.rf.hu e2 (by unfold SFm; omega)
    refine ⟨fun c => ⟨ix _ ((bd_lit (n := 1) (by decide)).mo (by decide) (by decide)), j56 _ _ J2 ?_⟩, fun _ => j56 _ _ J2 (by unfold bd; decide)⟩
    refine (hR.kj J2 (fun k => by unfold SFm; omega)).sd ?_
    have : k.toInt ≠ -1 := fun q => c (Int32.toInt_inj.mp (by rw [q]; decide))
    unfold bd at hk ⊢
    omega
  refine ⟨fun _ => ⟨vp_bd (bd_add (bd_lit (n := 140) (by decide)) (bd_mul (n := 3) (by decide) hk (by decide) (by decide) (by decide)) (by decide) (by decide)) (by decide) (by decide), j29 _⟩, fun _ => j29 _⟩
