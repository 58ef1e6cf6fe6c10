/-! THE PURE SIDE: frames, calls, tables, loops -/
def JJ (S : Nat → Prop) (a b : HI) : Prop := ∀ o, ¬ S o → b o = a o
theorem JJ.rf {S : Nat → Prop} {a : HI} : JJ S a a := fun _ _ => rfl
theorem JJ.tr {S : Nat → Prop} {a b c : HI} (x : JJ S a b) (y : JJ S b c) : JJ S a c := fun o n => (y o n).trans (x o n)
theorem JJ.mo {S T : Nat → Prop} {a b : HI} (x : JJ S a b) (hs : ∀ o, S o → T o) : JJ T a b := fun o n => x o (fun s => n (hs o s))
theorem JJ.hu {S : Nat → Prop} {a b c : HI} {o k : Nat} {v : Int32} (x : JJ S a b) (e : c = hu b o k v) (hs : S o) : JJ S a c := fun q n => by
  rw [e, hu_ne (fun q2 => n (by rw [q2]; exact hs))]; exact x q n
theorem JJ.hua {S : Nat → Prop} {a b c : HI} {o : Nat} {f : Nat → Int32} (x : JJ S a b) (e : c = hua b o f) (hs : S o) : JJ S a c := fun q n => by
  rw [e, hua_ne (fun q2 => n (by rw [q2]; exact hs))]; exact x q n
theorem JJ.at {S : Nat → Prop} {a b : HI} (x : JJ S a b) {o : Nat} (k : Nat) (n : ¬ S o) : b o k = a o k := by rw [x o n]
/-- every table of the class is whole -/
def CI (h : HI) : Prop := ∀ o, isT o → ∃ m w M, TT h o m w M
theorem isT.le {o : Nat} (h : isT o) : 2 ≤ o ∧ o ≤ 75 := co_l (P := fun o => 2 ≤ o ∧ o ≤ 75) (by decide +kernel) h
theorem TT.cg {h h' : HI} {o m w M : Nat} (T : TT h o m w M) (e : h' o = h o) : TT h' o m w M := by
  unfold TT; rw [e]; exact T
theorem CI.jj {S : Nat → Prop} {a b : HI} (c : CI a) (x : JJ S a b) (hs : ∀ o, o ≤ 75 → ¬ S o) : CI b := fun o ho => by
  obtain ⟨m, w, M, T⟩ := c o ho
  exact ⟨m, w, M, T.cg (x o (hs o ho.le.2))⟩
theorem c_i {W : (Int32 → HI → HL → Prop) → Prop} {S body : Int32 → HI → HL → Prop} (hW : W S) (k : ∀ r h g, S r h g → body r h g) : ∃ P : Int32 → HI → HL → Prop, W P ∧ ∀ (r : Int32) (h : HI) (g : HL), P r h g → body r h g := ⟨S, hW, k⟩
theorem c_z {W : (Int32 → HI → HL → Prop) → Prop} {S body : Int32 → HI → HL → Prop} (hW : W S) (k : ∀ r h g, S r h g → body r h g) : ∃ P : Int32 → HI → HL → Prop, W P ∧ ∀ (r : Int32) (h : HI) (g : HL), zb r → P r h g → body r h g := ⟨S, hW, fun r h g _ => k r h g⟩
theorem c_v {W : (HI → HL → Prop) → Prop} {S body : HI → HL → Prop} (hW : W S) (k : ∀ h g, S h g → body h g) : ∃ P : HI → HL → Prop, W P ∧ ∀ (h : HI) (g : HL), P h g → body h g := ⟨S, hW, k⟩
theorem c_l {W : (Int64 → HI → HL → Prop) → Prop} {S body : Int64 → HI → HL → Prop} (hW : W S) (k : ∀ r h g, S r h g → body r h g) : ∃ P : Int64 → HI → HL → Prop, W P ∧ ∀ (r : Int64) (h : HI) (g : HL), P r h g → body r h g := ⟨S, hW, k⟩
theorem c_n {W : (Nat → HI → HL → Prop) → Prop} {S body : Nat → HI → HL → Prop} (hW : W S) (k : ∀ r h g, S r h g → body r h g) : ∃ P : Nat → HI → HL → Prop, W P ∧ ∀ (r : Nat) (h : HI) (g : HL), P r h g → body r h g := ⟨S, hW, k⟩
/-- within, as a call -/
theorem c_w {a b c : Int32} {h : HI} {g : HL} {body : Int32 → HI → HL → Prop} (h1 : b ≤ a → a ≤ c → body 1 h g) (h0 : (a < b ∨ c < a) → body 0 h g) : ∃ P : Int32 → HI → HL → Prop, w_X10_within a b c h g P ∧ ∀ (r : Int32) (h : HI) (g : HL), zb r → P r h g → body r h g := by
  refine ⟨fun r h' g' => body r h' g', ?_, fun r h g _ k => k⟩
  unfold w_X10_within
  exact ⟨fun c => h0 (.inl c), fun c1 => ⟨fun c => h0 (.inr c), fun c2 => h1 (Int32.not_lt.mp c1) (Int32.not_lt.mp c2)⟩⟩
theorem bm {z : Int} (h1 : -2147483648 ≤ z) (h2 : z < 2147483648) : z.bmod (2 ^ 32) = z := by
  unfold Int.bmod
  have e : ((2 ^ 32 : Nat) : Int) = 4294967296 := rfl
  dsimp only
  rw [e]
  by_cases c : z % 4294967296 < (4294967296 + 1) / 2
  · rw [if_pos c]; omega
  · rw [if_neg c]; omega
/-- the loops' measures -/
def dif (a x : Int32) : Nat := (a.toInt - x.toInt).toNat
theorem lt_rng (x : Int32) : -2147483648 ≤ x.toInt ∧ x.toInt < 2147483648 := ⟨Int32.le_toInt x, Int32.toInt_lt x⟩
theorem inc_i {a x : Int32} (c : ¬ a ≤ x) : (x + 1).toInt = x.toInt + 1 := by
  have h1 := lt_rng a
  have h2 := lt_rng x
  have h3 : x.toInt < a.toInt := by
    rw [Int32.le_iff_toInt_le] at c; omega
  rw [Int32.toInt_add]
  have : (1 : Int32).toInt = 1 := by decide
  rw [this]
  exact bm (by omega) (by omega)
theorem inc_j {a x : Int32} (c : ¬ a < x) (ha : a.toInt < 2147483647) : (x + 1).toInt = x.toInt + 1 := by
  have h2 := lt_rng x
  have h3 : x.toInt ≤ a.toInt := by
    rw [Int32.lt_iff_toInt_lt] at c; omega
  rw [Int32.toInt_add]
  have : (1 : Int32).toInt = 1 := by decide
  rw [this]
  exact bm (by omega) (by omega)
theorem dec_i {x : Int32} (c : ¬ x < 0) : (x + (-1)).toInt = x.toInt - 1 := by
  have h2 := lt_rng x
  have h3 : 0 ≤ x.toInt := by
    rw [Int32.lt_iff_toInt_lt] at c
    have : (0 : Int32).toInt = 0 := by decide
    omega
  rw [Int32.toInt_add]
  have : (-1 : Int32).toInt = -1 := by decide
  rw [this]
  exact bm (by omega) (by omega)
theorem dif_lt {a x : Int32} (c : ¬ a ≤ x) : dif a (x + 1) < dif a x := by
  have := inc_i c
  rw [Int32.le_iff_toInt_le] at c
  unfold dif
  omega
def dil (a x : Int32) : Nat := (a.toInt + 1 - x.toInt).toNat
theorem dil_lt {a x : Int32} (c : ¬ a < x) (ha : a.toInt < 2147483647) : dil a (x + 1) < dil a x := by
  have := inc_j c ha
  rw [Int32.lt_iff_toInt_lt] at c
  unfold dil
  omega
def prd (x : Int32) : Nat := (x.toInt + 1).toNat
theorem prd_lt {x : Int32} (c : ¬ x < 0) : prd (x + (-1)) < prd x := by
  have := dec_i c
  rw [Int32.lt_iff_toInt_lt] at c
  have : (0 : Int32).toInt = 0 := by decide
  unfold prd
  omega
theorem inc_nn {a x : Int32} (h : ¬ x < 0) (c : ¬ a ≤ x) : ¬ x + 1 < 0 := by
  have := inc_i c
  rw [Int32.lt_iff_toInt_lt] at h ⊢
  have : (0 : Int32).toInt = 0 := by decide
  omega
theorem inc_nj {a x : Int32} (h : ¬ x < 0) (c : ¬ a < x) (ha : a.toInt < 2147483647) : ¬ x + 1 < 0 := by
  have := inc_j c ha
  rw [Int32.lt_iff_toInt_lt] at h ⊢
  have : (0 : Int32).toInt = 0 := by decide
  omega
theorem nn0 : ¬ (0 : Int32) < 0 := by decide
theorem vin {x a : Int32} {n : Nat} (h : ¬ x < 0) (c : ¬ a ≤ x) (e : a.toInt = n) : vp_in x n := by
  rw [vp_in_iff]
  rw [Int32.lt_iff_toInt_lt] at h
  rw [Int32.le_iff_toInt_le] at c
  have : (0 : Int32).toInt = 0 := by decide
  omega
theorem vinw {x a b : Int32} {n : Nat} (h : a ≤ x) (c : x ≤ b) (ea : 0 ≤ a.toInt) (e : b.toInt < n) : vp_in x n := by
  rw [vp_in_iff]
  rw [Int32.le_iff_toInt_le] at h c
  omega
/-- a cell of a table, as the class reads it -/
def tat (h : HI) (o : Nat) (a b : Int32) : Int32 := if a < 0 ∨ h o 3 ≤ a ∨ b < 0 ∨ ¬ b < h o 1 then 0 else h (o + 1) (a * h o 1 + b).toNatClampNeg
theorem tat_nI {h : HI} {o m w M : Nat} (T : TT h o m w M) {a b : Nat} (ha : a < m) (hb : b < w) : tat h o (nI a) (nI b) = h (o + 1) (a * w + b) := by
  obtain ⟨h1, h2, h3, hm, hN, hw0, hw, hM0, hM⟩ := T
  have hlt : a * w + b < M * w := by
    have : (a + 1) * w ≤ M * w := Nat.mul_le_mul_right w (by omega)
    rw [Nat.add_mul, Nat.one_mul] at this
    omega
  have hMw : M * w ≤ 100 * 20 := Nat.mul_le_mul hM hw
  have e : nI a * nI w + nI b = nI (a * w + b) := by rw [pk_mul, nI_add]
  unfold tat
  rw [h1, h3, if_neg, e, nI_clamp (by omega)]
  rintro (c | c | c | c)
  · exact nI_pos (by omega) c
  · exact nI_ge ha (by omega) c
  · exact nI_pos (by omega) c
  · exact c (nI_lt hb (by omega))
theorem p_atT {h : HI} {g : HL} {o m w M : Nat} (T : TT h o m w M) {a b : Int32} : w_X8_at o a b h g (fun r h' g' => tat h o a b = r ∧ h = h' ∧ g = g') := by
  by_cases c1 : a < 0
  · refine ⟨fun _ => ⟨if_pos (.inl c1), rfl, rfl⟩, fun c => absurd c1 c⟩
  by_cases c2 : h o 3 ≤ a
  · refine ⟨fun c => absurd c c1, fun _ => ⟨fun _ => ⟨if_pos (.inr (.inl c2)), rfl, rfl⟩, fun c => absurd c2 c⟩⟩
  by_cases c3 : b < 0
  · refine ⟨fun c => absurd c c1, fun _ => ⟨fun c => absurd c c2, fun _ => ⟨fun _ => ⟨if_pos (.inr (.inr (.inl c3))), rfl, rfl⟩, fun c => absurd c3 c⟩⟩⟩
  by_cases c4 : b < h o 1
  · obtain ⟨ja, hja, rfl⟩ := nI_of c1
    obtain ⟨jb, hjb, rfl⟩ := nI_of c3
    have hT := T
    obtain ⟨h1, h2, h3, hm, hN, hw0, hw, hM0, hM⟩ := T
    have ha : ja < m := by
      rw [h3, nI_leI (by omega) (by omega)] at c2
      omega
    have hb : jb < w := by
      rw [h1, nI_ltI (by omega) (by omega)] at c4
      exact c4
    exact t_at hT ha hb ⟨tat_nI hT ha hb, rfl, rfl⟩
  · refine ⟨fun c => absurd c c1, fun _ => ⟨fun c => absurd c c2, fun _ => ⟨fun c => absurd c c3, fun _ => ⟨fun c => absurd c c4, fun _ => ⟨if_pos (.inr (.inr (.inr c4))), rfl, rfl⟩⟩⟩⟩⟩
theorem p_at {h : HI} {g : HL} {o : Nat} (C : CI h) (ho : isT o) {a b : Int32} : w_X8_at o a b h g (fun r h' g' => tat h o a b = r ∧ h = h' ∧ g = g') := by
  obtain ⟨m, w, M, T⟩ := C o ho
  exact p_atT T
theorem tat_cg {h h' : HI} {o : Nat} {a b : Int32} (e1 : h' o = h o) (e2 : h' (o + 1) = h (o + 1)) : tat h' o a b = tat h o a b := by
  unfold tat; rw [e1, e2]
theorem isT.a75 {o : Nat} (h : isT o) : o + 1 ≤ 75 := co_l (P := fun o => o + 1 ≤ 75) (by decide +kernel) h
theorem p_atJ {S : Nat → Prop} {h0 h : HI} {g : HL} {o : Nat} (C : CI h0) (J : JJ S h0 h) (nS : ∀ o, o ≤ 75 → ¬ S o) (ho : isT o) {a b : Int32} : w_X8_at o a b h g (fun r h' g' => tat h0 o a b = r ∧ h = h' ∧ g = g') := by
  rw [← tat_cg (J o (nS o (by have := ho.le; omega))) (J (o + 1) (nS _ ho.a75))]
  exact p_at (C.jj J nS) ho
theorem p_rows {h : HI} {g : HL} {o : Nat} : w_X8_rows o h g (fun r h' g' => h o 3 = r ∧ h = h' ∧ g = g') := ⟨rfl, rfl, rfl⟩
theorem p_rowsJ {S : Nat → Prop} {h0 h : HI} {g : HL} {o : Nat} (J : JJ S h0 h) (nS : ∀ o, o ≤ 75 → ¬ S o) (ho : isT o) : w_X8_rows o h g (fun r h' g' => h0 o 3 = r ∧ h = h' ∧ g = g') := by
  rw [← J o (nS o ho.le.2)]
  exact p_rows
/-- has, as a call -/
theorem c_h {o : Nat} {a : Int32} {h : HI} {g : HL} {body : Int32 → HI → HL → Prop} (h1 : ¬ a < 0 → ¬ h o 3 ≤ a → body 1 h g) (h0 : (a < 0 ∨ h o 3 ≤ a) → body 0 h g) : ∃ P : Int32 → HI → HL → Prop, w_X8_has o a h g P ∧ ∀ (r : Int32) (h : HI) (g : HL), zb r → P r h g → body r h g := by
  refine ⟨fun r h' g' => body r h' g', ?_, fun r h g _ k => k⟩
  unfold w_X8_has
  exact ⟨fun c => h0 (.inl c), fun c1 => ⟨fun c => h0 (.inr c), fun c2 => h1 c1 c2⟩⟩
def SB (o q : Nat) : Prop := q = o ∨ q = o + 1
def SLaw (q : Nat) : Prop := 77 ≤ q ∧ q ≤ 79
def SSz (q : Nat) : Prop := 81 ≤ q ∧ q ≤ 84
def SFit (q : Nat) : Prop := 81 ≤ q ∧ q ≤ 88
def SWay (q : Nat) : Prop := 89 ≤ q ∧ q ≤ 96
def SGiv (q : Nat) : Prop := 97 ≤ q ∧ q ≤ 108
def SBrk (q : Nat) : Prop := 109 ≤ q ∧ q ≤ 117
def SPln (q : Nat) : Prop := 118 ≤ q ∧ q ≤ 134
theorem nSSz (q : Nat) (hq : q ≤ 75) : ¬ SSz q := by unfold SSz; omega
theorem nSFit (q : Nat) (hq : q ≤ 75) : ¬ SFit q := by unfold SFit; omega
theorem nSGiv (q : Nat) (hq : q ≤ 75) : ¬ SGiv q := by unfold SGiv; omega
theorem nSBrk (q : Nat) (hq : q ≤ 75) : ¬ SBrk q := by unfold SBrk; omega
theorem nSPln (q : Nat) (hq : q ≤ 75) : ¬ SPln q := by unfold SPln; omega
theorem absI {p : Prop} (c : (1 : Int32) = 0) : p := absurd c (by decide)
theorem absN {p : Prop} (c : ¬ (0 : Int32) = 0) : p := absurd rfl c
theorem and_have {p q : Prop} (a : p) (b : p → q) : p ∧ q := ⟨a, b a⟩
def SO (o q : Nat) : Prop := q = o
theorem nS_O {o : Nat} (h : 76 ≤ o) (q : Nat) (hq : q ≤ 75) : ¬ SO o q := by unfold SO; omega
theorem ne0 {x : Int32} (c : ¬ x ≤ 0) : ¬ x = 0 := fun e => c (by rw [e]; decide)
theorem ne1 {x : Int32} (c : (1 : Int32) ≤ x) : ¬ x = 0 := fun e => absurd (e ▸ c) (by decide)
theorem lgne {x : Int64} (c : ¬ lg_cmp x 0 = 0) : ¬ x = 0 := fun e => c (by rw [e]; decide)
def P60 (x : Int32) : Prop := 0 ≤ x.toInt ∧ x.toInt ≤ 60
theorem p60_0 : P60 0 := by unfold P60; decide
theorem sub_i {x : Int32} {n : Int} {y : Int32} (e : y.toInt = n) (h0 : 0 ≤ n) (h1 : n ≤ 1000) (h : 0 ≤ x.toInt) : (x - y).toInt = x.toInt - n := by
  have h2 := lt_rng x
  rw [Int32.toInt_sub, e]
  exact bm (by omega) (by omega)
theorem add_i {x y : Int32} (h1 : -1000000000 ≤ x.toInt) (h2 : x.toInt ≤ 1000000000) (h3 : -1000000000 ≤ y.toInt) (h4 : y.toInt ≤ 1000000000) : (x + y).toInt = x.toInt + y.toInt := by
  rw [Int32.toInt_add]
  exact bm (by omega) (by omega)
theorem p60u {x : Int32} (c : x < 60) (h : P60 x) : P60 (x + 1) := by
  unfold P60 at *
  rw [Int32.lt_iff_toInt_lt] at c
  have e1 : (1 : Int32).toInt = 1 := by decide
  have e2 : (60 : Int32).toInt = 60 := by decide
  have := add_i (x := x) (y := 1) (by omega) (by omega) (by omega) (by omega)
  omega
theorem p60d {x : Int32} (c : 2 ≤ x) (h : P60 x) : P60 (x + (-1)) := by
  unfold P60 at *
  rw [Int32.le_iff_toInt_le] at c
  have e1 : (-1 : Int32).toInt = -1 := by decide
  have e2 : (2 : Int32).toInt = 2 := by decide
  have := add_i (x := x) (y := -1) (by omega) (by omega) (by omega) (by omega)
  omega
theorem v60a {x : Int32} (c : x < 60) (h : P60 x) : vp_in x 60 := by
  unfold P60 at h
  rw [Int32.lt_iff_toInt_lt] at c
  have e2 : (60 : Int32).toInt = 60 := by decide
  rw [vp_in_iff]; omega
theorem v60b {x : Int32} (c : 1 ≤ x) (h : P60 x) : vp_in (x - 1) 60 := by
  unfold P60 at h
  rw [Int32.le_iff_toInt_le] at c
  have e1 : (1 : Int32).toInt = 1 := by decide
  have := sub_i e1 (by omega) (by omega) h.1
  rw [vp_in_iff]; omega
theorem v60b' {x : Int32} (c : ¬ x ≤ 0) (h : P60 x) : vp_in (x - 1) 60 := by
  unfold P60 at h
  rw [Int32.le_iff_toInt_le] at c
  have e0 : (0 : Int32).toInt = 0 := by decide
  have e1 : (1 : Int32).toInt = 1 := by decide
  have := sub_i e1 (by omega) (by omega) h.1
  rw [vp_in_iff]; omega
theorem v60d {x : Int32} (c : 2 ≤ x) (h : P60 x) : vp_in (x + (-1)) 60 := by
  have h2 := p60d c h
  unfold P60 at h h2
  rw [Int32.le_iff_toInt_le] at c
  have e1 : (-1 : Int32).toInt = -1 := by decide
  have e2 : (2 : Int32).toInt = 2 := by decide
  have := add_i (x := x) (y := -1) (by omega) (by omega) (by omega) (by omega)
  rw [vp_in_iff]; omega
theorem v60c {x : Int32} (c : 2 ≤ x) (h : P60 x) : vp_in (x + (-1) - 1) 60 := by
  refine v60b ?_ (p60d c h)
  have h2 := p60d c h
  unfold P60 at h h2
  rw [Int32.le_iff_toInt_le] at c ⊢
  have e1 : (-1 : Int32).toInt = -1 := by decide
  have e2 : (2 : Int32).toInt = 2 := by decide
  have e3 : (1 : Int32).toInt = 1 := by decide
  have := add_i (x := x) (y := -1) (by omega) (by omega) (by omega) (by omega)
  omega
theorem vinw1 {x a b : Int32} {n : Nat} (h : a ≤ x) (c : x ≤ b) (ea : 0 ≤ a.toInt) (e : b.toInt + 1 < n ∧ b.toInt < 1000000) : vp_in (x + 1) n := by
  rw [vp_in_iff]
  rw [Int32.le_iff_toInt_le] at h c
  have e1 : (1 : Int32).toInt = 1 := by decide
  have := add_i (x := x) (y := 1) (by omega) (by omega) (by omega) (by omega)
  omega
theorem vinj {x a : Int32} {n : Nat} (h : ¬ x < 0) (c : ¬ a < x) (e : a.toInt < n) : vp_in x n := by
  rw [vp_in_iff]
  rw [Int32.lt_iff_toInt_lt] at h c
  have : (0 : Int32).toInt = 0 := by decide
  omega
theorem vinl {x a : Int32} {n : Nat} (h : ¬ x < 0) (c : x < a) (e : a.toInt ≤ n) : vp_in x n := by
  rw [vp_in_iff]
  rw [Int32.lt_iff_toInt_lt] at h c
  have : (0 : Int32).toInt = 0 := by decide
  omega
theorem dif_lt' {a v x : Int32} (c : ¬ v ≤ x) (e : v = a) : dif a (x + 1) < dif a x := dif_lt (e ▸ c)
theorem vinm {x a : Int32} {n : Nat} (h : ¬ x < 0) (c : ¬ a ≤ x) (e : a.toInt ≤ n) : vp_in x n := by
  rw [vp_in_iff]
  rw [Int32.lt_iff_toInt_lt] at h
  rw [Int32.le_iff_toInt_le] at c
  have : (0 : Int32).toInt = 0 := by decide
  omega
theorem nI_or (a b : Nat) : nI a ||| nI b = nI (a ||| b) := by
  unfold nI
  apply Int32.toBitVec_inj.mp
  rw [Int32.toBitVec_or]
  show BitVec.ofNat 32 a ||| BitVec.ofNat 32 b = BitVec.ofNat 32 (a ||| b)
  apply BitVec.eq_of_toNat_eq
  rw [BitVec.toNat_or, BitVec.toNat_ofNat, BitVec.toNat_ofNat, BitVec.toNat_ofNat, Nat.or_mod_two_pow]
theorem shl_t : ∀ j : Nat, j < 10 → (1 : Int32) <<< (nI j &&& 31) = nI (2 ^ j) := by decide +kernel
theorem p_J7_fill_53178 {h : HI} {g : HL} (_hC : CI h) {o0 : Nat} {x1 : Int32} (hN : gN o0 < 2 ^ 31) : w_J7_fill_53178 o0 x1 h g (fun h' _ => JJ (SO o0) h h' ∧ ∀ k, k < gN o0 → h' o0 k = x1) := by
  unfold w_J7_fill_53178
  rintro _ rfl
  refine lpE_intro (fun q => ∃ j : Nat, j ≤ gN o0 ∧ x1 = q.1 ∧ nI j = q.2.1 ∧ nI (gN o0) = q.2.2.1 ∧ JJ (SO o0) h q.2.2.2.1 ∧ ∀ k, k < j → q.2.2.2.1 o0 k = x1) (fun q => dif q.2.2.1 q.2.1) ?_ _ ⟨0, Nat.zero_le _, rfl, nI_0, rfl, JJ.rf, fun k hk => absurd hk (Nat.not_lt_zero k)⟩
  rintro ⟨a, b, c, h1, g1⟩ K ⟨j, hj, rfl, rfl, rfl, hJ, hc⟩ hK
  unfold F_J7_fill_53178_5; dsimp only; unfold b_J7_fill_53178_5
  refine ⟨fun c => ?_, fun c => ?_⟩
  · rw [nI_leI (by omega) (by omega)] at c
    exact ⟨hJ, fun k hk => hc k (by omega)⟩
  · have hd := dif_lt c
    rw [nI_leI (by omega) (by omega)] at c
    refine ⟨vp_in_nI (by omega) (by omega), ?_⟩
    intro h2 e2
    rintro _ rfl
    refine hK _ ⟨j + 1, by omega, rfl, (nI_1 j).symm, rfl, hJ.hu e2 (by unfold SO; rfl), ?_⟩ hd
    intro k hk
    show h2 o0 k = x1
    rw [e2, hu_eq, nI_clamp (by omega)]
    by_cases ek : k = j
    · subst ek; exact pk_us
    · rw [pk_un ek]; exact hc k (by omega)
theorem rows_n {h : HI} {o : Nat} (C : CI h) (ho : isT o) : ∃ m : Nat, m ≤ 100 ∧ h o 3 = nI m := by
  obtain ⟨m, w, M, T⟩ := C o ho
  obtain ⟨h1, h2, h3, hm, hN, hw0, hw, hM0, hM⟩ := T
  exact ⟨m, by omega, h3⟩
theorem min_n {a : Nat} (ha : a ≤ 1000) {b : Nat} (hb : b ≤ 1000) : (if nI a < nI b then nI a else nI b) = nI (min a b) := by
  by_cases c : a < b
  · rw [if_pos (by rw [nI_ltI (by omega) (by omega)]; exact c), Nat.min_eq_left (by omega)]
  · rw [if_neg (by rw [nI_ltI (by omega) (by omega)]; exact c), Nat.min_eq_right (by omega)]
theorem gsp_n {h h1 : HI} (C : CI h) (e : h1 = hu h 97 5 (if h 14 3 < 9 then h 14 3 else 9)) : ∃ n : Nat, n ≤ 9 ∧ h1 97 5 = nI n := by
  obtain ⟨m, hm, em⟩ := rows_n C gs_14
  refine ⟨min m 9, by omega, ?_⟩
  rw [e, hu_eq, pk_us, em]
  exact min_n (b := 9) (by omega) (by omega)
theorem gsp_x {x v : Int32} {n : Nat} (c : ¬ v ≤ x) (T : v = nI n) (h0 : ¬ x < 0) (hn : n ≤ 9) : ∃ j : Nat, j < n ∧ x = nI j ∧ (1 : Int32) <<< (x &&& 31) = nI (2 ^ j) := by
  obtain ⟨j, hj, rfl⟩ := nI_of h0
  rw [T, nI_leI (by omega) (by omega)] at c
  exact ⟨j, by omega, rfl, shl_t j (by omega)⟩
theorem pow9 {j : Nat} (h : j < 9) : 2 ^ j ≤ 256 := by
  have : 2 ^ j ≤ 2 ^ 8 := Nat.pow_le_pow_right (by omega) (by omega)
  omega
theorem gsp_ix {x1 x6 v : Int32} {n : Nat} (c6 : ¬ (1 : Int32) <<< (x1 &&& 31) ≤ x6) (h6 : ¬ x6 < 0) (h0 : ¬ x1 < 0) (c : ¬ v ≤ x1) (T : v = nI n) (hn : n ≤ 9) : vp_in x6 512 := by
  obtain ⟨j, hj, -, e⟩ := gsp_x c T h0 hn
  obtain ⟨i, hi, rfl⟩ := nI_of h6
  have := pow9 (j := j) (by omega)
  rw [e, nI_leI (by omega) (by omega)] at c6
  exact vp_in_nI (by omega) (by omega)
theorem gsp_or {x1 x6 v : Int32} {n : Nat} (c6 : ¬ (1 : Int32) <<< (x1 &&& 31) ≤ x6) (h6 : ¬ x6 < 0) (h0 : ¬ x1 < 0) (c : ¬ v ≤ x1) (T : v = nI n) (hn : n ≤ 9) : vp_in (x6 ||| (1 : Int32) <<< (x1 &&& 31)) 512 := by
  obtain ⟨j, hj, -, e⟩ := gsp_x c T h0 hn
  obtain ⟨i, hi, rfl⟩ := nI_of h6
  have := pow9 (j := j) (by omega)
  rw [e, nI_leI (by omega) (by omega)] at c6
  rw [e, nI_or]
  have h9 : i ||| 2 ^ j < 2 ^ 9 := Nat.or_lt_two_pow (by omega) (by omega)
  exact vp_in_nI (by omega) (by omega)
theorem fd_x2 {v x : Int32} {n : Nat} (T : v = nI n) (hn : n ≤ 9) (e : x = (1 : Int32) <<< (v &&& 31)) : x = nI (2 ^ n) := by
  rw [e, T]; exact shl_t n (by omega)
theorem fd_x1 {h h1 : HI} {S : Nat → Prop} {x : Int32} (C : CI h) (J : JJ S h h1) (nS : ∀ o, o ≤ 75 → ¬ S o) (e : x = (if h 12 3 < 6 then h 12 3 else 6)) : ∃ m : Nat, m ≤ 6 ∧ x = nI m := by
  obtain ⟨m, hm, em⟩ := rows_n C gs_12
  refine ⟨min m 6, by omega, ?_⟩
  rw [e, em]
  exact min_n (b := 6) (by omega) (by omega)
theorem fd_ix {x2 x3 : Int32} {n : Nat} (e : x2 = nI (2 ^ n)) (hn : n ≤ 9) (h0 : ¬ x3 < 0) (c : ¬ x2 ≤ x3) : vp_in x3 512 := by
  obtain ⟨i, hi, rfl⟩ := nI_of h0
  have : 2 ^ n ≤ 2 ^ 9 := Nat.pow_le_pow_right (by omega) (by omega)
  rw [e, nI_leI (by omega) (by omega)] at c
  exact vp_in_nI (by omega) (by omega)
theorem fd_0 {x : Int32} {m : Nat} (e : x = nI m) (hm : m ≤ 6) : ¬ (6 : Int32) ≤ x - 1 := by
  subst e
  rw [Int32.le_iff_toInt_le]
  have e1 : (1 : Int32).toInt = 1 := by decide
  have e6 : (6 : Int32).toInt = 6 := by decide
  have e2 := nI_toInt (n := m) (by omega)
  have := sub_i (x := nI m) e1 (by omega) (by omega) (by omega)
  omega
theorem dec_nle {a x : Int32} (c : ¬ x < 0) (h : ¬ a ≤ x) : ¬ a ≤ x + (-1) := by
  have := dec_i c
  rw [Int32.le_iff_toInt_le] at h ⊢
  omega
theorem in7 {x : Int32} {m : Nat} (e : x = nI m) (hm : m ≤ 6) : vp_in x 7 := e ▸ vp_in_nI (by omega) (by omega)
/-- what is learned: bits of a byte -/
def b128 (x : Int32) : Prop := ∃ n : Nat, n ≤ 128 ∧ x = nI n
def PL (h : HI) : Prop := ∃ n : Nat, n ≤ 16 ∧ h 118 8 = nI n ∧ ∀ i : Nat, i < n → b128 (h 120 i)
theorem tg_ix {h : HI} {x2 x3 : Int32} (hP : PL h) (hx : ¬ h 118 8 ≤ x3) (a : (0 : Int32) ≤ x3) (b : (0 : Int32) ≤ x2) (c : x2 ||| h 120 x3.toNatClampNeg < 256) : vp_in (x2 ||| h 120 x3.toNatClampNeg) 256 := by
  obtain ⟨n, hn, e, hb⟩ := hP
  obtain ⟨i, hi, rfl⟩ := nI_of (Int32.not_lt.mpr a)
  obtain ⟨q, hq, rfl⟩ := nI_of (Int32.not_lt.mpr b)
  rw [e, nI_leI (by omega) (by omega)] at hx
  rw [nI_clamp (by omega)] at c ⊢
  obtain ⟨p, hp, ep⟩ := hb i (by omega)
  rw [ep, nI_or] at c ⊢
  have h9 : q ||| p < 2 ^ 31 := Nat.or_lt_two_pow (by omega) (by omega)
  rw [show (256 : Int32) = nI 256 from rfl, nI_ltI (by omega) (by omega)] at c
  exact vp_in_nI (by omega) (by omega)
theorem vinc {x a : Int32} {n : Nat} (h : (0 : Int32) ≤ x) (c : ¬ a ≤ x) (e : a.toInt = n) : vp_in x n := vin (Int32.not_lt.mpr h) c e
def SC (q : Nat) : Prop := 81 ≤ q ∧ q ≤ 134
def SCa (q : Nat) : Prop := 77 ≤ q ∧ q ≤ 134
theorem nSCa (q : Nat) (hq : q ≤ 75) : ¬ SCa q := by unfold SCa; omega
def SNo (q : Nat) : Prop := q < 0
theorem nSNo (q : Nat) (hq : q ≤ 75) : ¬ SNo q := by unfold SNo; omega
theorem nSC (q : Nat) (hq : q ≤ 75) : ¬ SC q := by unfold SC; omega
