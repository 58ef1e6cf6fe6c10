/-! EVERY NUMBER OF THE REFERENCE IN ITS RANGE -/
def vP (c : Nat) : Int × Int := if c = 0 then (0, 100) else if c = 1 then (0, 100) else if c = 2 then (0, 99) else if c = 3 then (-1, 3) else dfl
def vS (c : Nat) : Int × Int := if c = 0 then (0, 23) else if c = 1 then (0, 3) else if c = 2 then (-10000, 100000) else if c = 3 then (0, 10000) else if c = 4 then (0, 99) else if c = 5 then (0, 1) else dfl
def vC (c : Nat) : Int × Int := if c = 0 then (-100000, 100000) else if c = 1 then (-100000, 100000) else if c = 2 then (0, 6) else if c ≤ 8 then (0, 23) else dfl
def vW (c : Nat) : Int × Int := if c = 0 then (-500, 500) else if c = 1 then (0, 1000) else (0, 3000)
def vX (c : Nat) : Int × Int := if c = 0 then (0, 3) else if c = 1 then (0, 50) else (-1, 3)
def vT (c : Nat) : Int × Int := if c = 0 then (0, 100) else (0, 1)
def vH (c : Nat) : Int × Int := if c = 0 then (0, 15) else (0, 9)
def vg (k : Nat) : Int × Int := if k < 20 then dfl else if k < 140 then vP ((k - 20) % 5) else if k < 152 then (1, 100000) else if k < 512 then vS ((k - 152) % 6) else if k < 672 then vC ((k - 512) % 10) else if k < 704 then vW ((k - 672) % 4) else if k < 710 then (0, 3) else if k < 737 then vX ((k - 710) % 3) else if k < 817 then vT ((k - 737) % 2) else if k < 823 then vH ((k - 817) % 2) else if k < 827 then (0, 9) else if k < 887 then (0, 127) else dfl
def okV (k : Nat) (x : Int32) : Prop := bd (vg k).1 (vg k).2 x
/-- a family ends at 100000 -/
def FRl (f : Nat → Int32) : Prop := ∀ j, j < 4 → (f (140 + 3 * j)).toInt + ((f (140 + 3 * j + 2)).toInt - 1) * (f (140 + 3 * j + 1)).toInt ≤ 100000
def VR (f : Nat → Int32) : Prop := (∀ k, okV k (f k)) ∧ FRl f
theorem vg_0 {k : Nat} (h : k < 20) : vg k = dfl := if_pos h
theorem vg_P {m c : Nat} (hm : m < 24) (hc : c < 5) : vg (20 + 5 * m + c) = vP c := by
  unfold vg
  rw [if_neg (by omega), if_pos (by omega), show (20 + 5 * m + c - 20) % 5 = c by omega]
theorem vg_F {k : Nat} (h : 140 ≤ k) (h2 : k < 152) : vg k = (1, 100000) := by
  unfold vg
  rw [if_neg (by omega), if_neg (by omega), if_pos h2]
theorem vg_S {m c : Nat} (hm : m < 60) (hc : c < 6) : vg (152 + 6 * m + c) = vS c := by
  unfold vg
  rw [if_neg (by omega), if_neg (by omega), if_neg (by omega), if_pos (by omega), show (152 + 6 * m + c - 152) % 6 = c by omega]
theorem vg_C {m c : Nat} (hm : m < 16) (hc : c < 10) : vg (512 + 10 * m + c) = vC c := by
  unfold vg
  rw [if_neg (by omega), if_neg (by omega), if_neg (by omega), if_neg (by omega), if_pos (by omega), show (512 + 10 * m + c - 512) % 10 = c by omega]
theorem vg_W {m c : Nat} (hm : m < 8) (hc : c < 4) : vg (672 + 4 * m + c) = vW c := by
  unfold vg
  rw [if_neg (by omega), if_neg (by omega), if_neg (by omega), if_neg (by omega), if_neg (by omega), if_pos (by omega), show (672 + 4 * m + c - 672) % 4 = c by omega]
theorem vg_M {m : Nat} (hm : m < 6) : vg (704 + m) = (0, 3) := by
  unfold vg
  rw [if_neg (by omega), if_neg (by omega), if_neg (by omega), if_neg (by omega), if_neg (by omega), if_neg (by omega), if_pos (by omega)]
theorem vg_X {m c : Nat} (hm : m < 9) (hc : c < 3) : vg (710 + 3 * m + c) = vX c := by
  unfold vg
  rw [if_neg (by omega), if_neg (by omega), if_neg (by omega), if_neg (by omega), if_neg (by omega), if_neg (by omega), if_neg (by omega), if_pos (by omega), show (710 + 3 * m + c - 710) % 3 = c by omega]
theorem vg_T {m c : Nat} (hm : m < 40) (hc : c < 2) : vg (737 + 2 * m + c) = vT c := by
  unfold vg
  rw [if_neg (by omega), if_neg (by omega), if_neg (by omega), if_neg (by omega), if_neg (by omega), if_neg (by omega), if_neg (by omega), if_neg (by omega), if_pos (by omega), show (737 + 2 * m + c - 737) % 2 = c by omega]
theorem vg_H {m c : Nat} (hm : m < 3) (hc : c < 2) : vg (817 + 2 * m + c) = vH c := by
  unfold vg
  rw [if_neg (by omega), if_neg (by omega), if_neg (by omega), if_neg (by omega), if_neg (by omega), if_neg (by omega), if_neg (by omega), if_neg (by omega), if_neg (by omega), if_pos (by omega), show (817 + 2 * m + c - 817) % 2 = c by omega]
theorem vg_N {m : Nat} (hm : m < 4) : vg (823 + m) = (0, 9) := by
  unfold vg
  rw [if_neg (by omega), if_neg (by omega), if_neg (by omega), if_neg (by omega), if_neg (by omega), if_neg (by omega), if_neg (by omega), if_neg (by omega), if_neg (by omega), if_neg (by omega), if_pos (by omega)]
theorem vg_Z {m : Nat} (hm : m < 60) : vg (827 + m) = (0, 127) := by
  unfold vg
  rw [if_neg (by omega), if_neg (by omega), if_neg (by omega), if_neg (by omega), if_neg (by omega), if_neg (by omega), if_neg (by omega), if_neg (by omega), if_neg (by omega), if_neg (by omega), if_neg (by omega), if_pos (by omega)]
theorem vg_E {k : Nat} (h : 887 ≤ k) : vg k = dfl := by
  unfold vg
  rw [if_neg (by omega), if_neg (by omega), if_neg (by omega), if_neg (by omega), if_neg (by omega), if_neg (by omega), if_neg (by omega), if_neg (by omega), if_neg (by omega), if_neg (by omega), if_neg (by omega), if_neg (by omega)]
theorem VR.set {f : Nat → Int32} {k : Nat} {x : Int32} (v : VR f) (ok : okV k x) (hk : k < 140 ∨ 152 ≤ k) : VR (upd f k x) := by
  refine ⟨fun i => ?_, fun j hj => ?_⟩
  · by_cases e : i = k
    · subst e; rw [pk_us]; exact ok
    · rw [pk_un e]; exact v.1 i
  · rw [pk_un (by omega), pk_un (by omega), pk_un (by omega)]; exact v.2 j hj
/-- as VR.set, the range by its column -/
theorem VR.up {f : Nat → Int32} {k : Nat} {x : Int32} {r : Int × Int} (v : VR f) (e : vg k = r) (b : bd r.1 r.2 x) (hk : k < 140 ∨ 152 ≤ k) : VR (upd f k x) := v.set (by unfold okV; rw [e]; exact b) hk
theorem VR.at {f : Nat → Int32} {k : Nat} {r : Int × Int} (v : VR f) (e : vg k = r) : bd r.1 r.2 (f k) := by
  have := v.1 k
  unfold okV at this
  rw [e] at this
  exact this
theorem VR.cg {f f' : Nat → Int32} (v : VR f) (e : ∀ k, k < 887 → f' k = f k) : VR f' := by
  refine ⟨fun k => ?_, fun j hj => ?_⟩
  · by_cases h : k < 887
    · rw [e k h]; exact v.1 k
    · unfold okV; rw [vg_E (by omega)]; exact bd_all _
  · rw [e _ (by omega), e _ (by omega), e _ (by omega)]; exact v.2 j hj
theorem vr_part {f f' : Nat → Int32} {m : Nat} {x1 x2 x3 x4 : Int32} (v : VR f) (hm : m < 24) (c : K_part x1 x2 x3 x4) (e : f' = upd (upd (upd (upd (upd (upd f (20 + 5 * m) x1) (20 + 5 * m + 1) x2) (20 + 5 * m + 2) x3) (20 + 5 * m + 3) x4) (20 + 5 * m + 4) 0) 0 (nI (m + 1))) : VR f' := by
  subst e
  obtain ⟨c1, c2, c3, c4⟩ := c
  exact (((((v.up (vg_P (c := 0) hm (by omega)) c1 (by omega)).up (vg_P (c := 1) hm (by omega)) (c2.mo (by decide) (by decide)) (by omega)).up (vg_P (c := 2) hm (by omega)) c3 (by omega)).up (vg_P (c := 3) hm (by omega)) c4 (by omega)).up (vg_P (c := 4) hm (by omega)) (bd_all _) (by omega)).up (vg_0 (by omega)) (bd_all _) (by omega)
theorem vr_machine {f f' : Nat → Int32} {m : Nat} {x1 : Int32} (v : VR f) (hm : m < 6) (c : K_machine x1) (e : f' = upd (upd f (704 + m) x1) 4 (nI (m + 1))) : VR f' := by
  subst e
  exact (v.up (vg_M hm) c (by omega)).up (vg_0 (by omega)) (bd_all _) (by omega)
theorem vr_spare {f f' : Nat → Int32} {m : Nat} {x1 x2 x3 : Int32} (v : VR f) (hm : m < 9) (c : K_spare x1 x2 x3) (e : f' = upd (upd (upd (upd f (710 + 3 * m) x1) (710 + 3 * m + 1) x2) (710 + 3 * m + 2) x3) 5 (nI (m + 1))) : VR f' := by
  subst e
  obtain ⟨c1, c2, c3⟩ := c
  exact (((v.up (vg_X (c := 0) hm (by omega)) c1 (by omega)).up (vg_X (c := 1) hm (by omega)) (c2.mo (by decide) (by decide)) (by omega)).up (vg_X (c := 2) hm (by omega)) c3 (by omega)).up (vg_0 (by omega)) (bd_all _) (by omega)
theorem vr_hand {f f' : Nat → Int32} {m : Nat} {x1 x2 : Int32} (v : VR f) (hm : m < 3) (c : K_hand x1 x2) (e : f' = upd (upd (upd f (817 + 2 * m) x1) (817 + 2 * m + 1) x2) 7 (nI (m + 1))) : VR f' := by
  subst e
  obtain ⟨c1, c2⟩ := c
  exact ((v.up (vg_H (c := 0) hm (by omega)) c1 (by omega)).up (vg_H (c := 1) hm (by omega)) c2 (by omega)).up (vg_0 (by omega)) (bd_all _) (by omega)
theorem bd_01 {c : Prop} [Decidable c] : bd 0 1 (if c then (0 : Int32) else 1) := by
  by_cases q : c
  · rw [if_pos q]; unfold bd; decide
  · rw [if_neg q]; unfold bd; decide
theorem vr_told {f f' : Nat → Int32} {m : Nat} {x1 x2 : Int32} (v : VR f) (hm : m < 40) (c : K_told x1) (e : f' = upd (upd (upd f (737 + 2 * m) x1) (737 + 2 * m + 1) (if x2 = 0 then 0 else 1)) 6 (nI (m + 1))) : VR f' := by
  subst e
  exact ((v.up (vg_T (c := 0) hm (by omega)) c (by omega)).up (vg_T (c := 1) hm (by omega)) bd_01 (by omega)).up (vg_0 (by omega)) (bd_all _) (by omega)
theorem vr_write {f f' : Nat → Int32} {m : Nat} {x1 : Int32} (v : VR f) (hm : m < 60) (c : K_write x1) (e : f' = upd (upd f (827 + m) x1) 8 (nI (m + 1))) : VR f' := by
  subst e
  exact (v.up (vg_Z hm) c (by omega)).up (vg_0 (by omega)) (bd_all _) (by omega)
theorem vr_work {f f' : Nat → Int32} {m : Nat} {x1 x2 x3 x4 : Int32} (v : VR f) (hm : m < 8) (c : K_work x1 x2 x3 x4) (e : f' = upd (upd (upd (upd (upd f (672 + 4 * m) x1) (672 + 4 * m + 1) x2) (672 + 4 * m + 2) x3) (672 + 4 * m + 3) x4) 3 (nI (m + 1))) : VR f' := by
  subst e
  obtain ⟨-, c1, c2, c3, c4⟩ := c
  have c5 : bd 0 3000 x4 := ⟨Int.le_trans (Int.le_trans (by decide) c3.1) c4.1, c4.2⟩
  exact ((((v.up (vg_W (c := 0) hm (by omega)) c1 (by omega)).up (vg_W (c := 1) hm (by omega)) (c2.mo (by decide) (by decide)) (by omega)).up (vg_W (c := 2) hm (by omega)) (c3.mo (by decide) (by decide)) (by omega)).up (vg_W (c := 3) hm (by omega)) c5 (by omega)).up (vg_0 (by omega)) (bd_all _) (by omega)
theorem bd_if {c : Prop} [Decidable c] {a b : Int} {x : Int32} (h : c → bd a b x) (ha : a ≤ 0) (hb : 0 ≤ b) : bd a b (if c then x else 0) := by
  by_cases q : c
  · rw [if_pos q]; exact h q
  · rw [if_neg q]; unfold bd; exact ⟨ha, hb⟩
theorem vr_say {f f' : Nat → Int32} {m : Nat} {x1 x2 x3 x4 x5 : Int32} (v : VR f) (hm : m < 60) (h0 : (f 0).toInt ≤ 24) (c : K_say (f 0) x1 x2 x3 x4 x5) (e : f' = upd (upd (upd (upd (upd (upd (upd f (152 + 6 * m) x1) (152 + 6 * m + 1) x2) (152 + 6 * m + 2) x3) (152 + 6 * m + 3) (if x2 = 0 ∨ x2 = 1 then x4 else 0)) (152 + 6 * m + 4) (if x2 = 0 then x5 else 0)) (152 + 6 * m + 5) 0) 1 (nI (m + 1))) : VR f' := by
  subst e
  obtain ⟨c1, c2, c3, c4, c5⟩ := c
  have b1 : bd 0 23 x1 := ⟨c1.1, by have := c1.2; omega⟩
  have z : bd 0 1 (0 : Int32) := by unfold bd; decide
  exact ((((((v.up (vg_S (c := 0) hm (by omega)) b1 (by omega)).up (vg_S (c := 1) hm (by omega)) c2 (by omega)).up (vg_S (c := 2) hm (by omega)) c3 (by omega)).up (vg_S (c := 3) hm (by omega)) (bd_if c4 (by decide) (by decide)) (by omega)).up (vg_S (c := 4) hm (by omega)) (bd_if c5 (by decide) (by decide)) (by omega)).up (vg_S (c := 5) hm (by omega)) z (by omega)).up (vg_0 (by omega)) (bd_all _) (by omega)
theorem vr_chain {f f' : Nat → Int32} {m : Nat} {x1 x2 : Int32} (v : VR f) (hm : m < 16) (c : K_chain x1 x2) (e : (∀ i, i ≠ 2 → (i < 512 + 10 * m ∨ 512 + 10 * m + 10 ≤ i) → f' i = f i) ∧ ∀ c, c < 10 → f' (512 + 10 * m + c) = rowc x1 x2 0 0 c) : VR f' := by
  obtain ⟨c1, c2⟩ := c
  have c2 : bd (-100000) 100000 x2 := ⟨Int.le_trans c1.1 c2.1, c2.2⟩
  refine ⟨fun k => ?_, fun j hj => ?_⟩
  · by_cases q : k < 512 + 10 * m ∨ 512 + 10 * m + 10 ≤ k
    · by_cases k2 : k = 2
      · subst k2; unfold okV; rw [vg_0 (by omega)]; exact bd_all _
      · rw [e.1 k k2 q]; exact v.1 k
    · obtain ⟨i, rfl⟩ : ∃ i, k = 512 + 10 * m + i := ⟨k - (512 + 10 * m), by omega⟩
      have hi : i < 10 := by omega
      unfold okV
      rw [vg_C hm hi, e.2 i hi]
      have z : ∀ a b : Int, a ≤ 0 → 0 ≤ b → bd a b (0 : Int32) := fun a b h1 h2 => ⟨h1, h2⟩
      have : i = 0 ∨ i = 1 ∨ i = 2 ∨ i = 3 ∨ i = 4 ∨ i = 5 ∨ i = 6 ∨ i = 7 ∨ i = 8 ∨ i = 9 := by omega
      rcases this with rfl | rfl | rfl | rfl | rfl | rfl | rfl | rfl | rfl | rfl
      · exact c1
      · exact c2
      · exact z 0 6 (by decide) (by decide)
      · exact z 0 23 (by decide) (by decide)
      · exact z 0 23 (by decide) (by decide)
      · exact z 0 23 (by decide) (by decide)
      · exact z 0 23 (by decide) (by decide)
      · exact z 0 23 (by decide) (by decide)
      · exact z 0 23 (by decide) (by decide)
      · exact bd_all _
  · rw [e.1 _ (by omega) (by omega), e.1 _ (by omega) (by omega), e.1 _ (by omega) (by omega)]; exact v.2 j hj
theorem bm64 {z : Int} (h1 : -9223372036854775808 ≤ z) (h2 : z < 9223372036854775808) : z.bmod (2 ^ 64) = z := by
  unfold Int.bmod
  have e : ((2 ^ 64 : Nat) : Int) = 18446744073709551616 := rfl
  dsimp only
  rw [e]
  by_cases c : z % 18446744073709551616 < (18446744073709551616 + 1) / 2
  · rw [if_pos c]; omega
  · rw [if_neg c]; omega
theorem fam_le {x2 x3 x4 : Int32} (c2 : bd 1 100000 x2) (c3 : bd 1 100000 x3) (c4 : bd 1 100000 x4) (c : lg_cmp (x2.toInt64 + (x4.toInt64 - 1) * x3.toInt64) 100000 ≤ 0) : x2.toInt + (x4.toInt - 1) * x3.toInt ≤ 100000 := by
  rw [← Int32.not_lt, lgc_gt] at c
  obtain ⟨a1, a2⟩ := c2
  obtain ⟨b1, b2⟩ := c3
  obtain ⟨d1, d2⟩ := c4
  have m0 : 0 ≤ (x4.toInt - 1) * x3.toInt := Int.mul_nonneg (by omega) (by omega)
  have m1 : (x4.toInt - 1) * x3.toInt ≤ 100000 * 100000 := Int.mul_le_mul (by omega) b2 (by omega) (by decide)
  have e1 : (x4.toInt64 - 1).toInt = x4.toInt - 1 := by
    rw [Int64.toInt_sub, Int32.toInt_toInt64, show (1 : Int64).toInt = 1 by decide]
    exact bm64 (by omega) (by omega)
  have e2 : ((x4.toInt64 - 1) * x3.toInt64).toInt = (x4.toInt - 1) * x3.toInt := by
    rw [Int64.toInt_mul, e1, Int32.toInt_toInt64]
    exact bm64 (by omega) (by omega)
  have e3 : (x2.toInt64 + (x4.toInt64 - 1) * x3.toInt64).toInt = x2.toInt + (x4.toInt - 1) * x3.toInt := by
    rw [Int64.toInt_add, e2, Int32.toInt_toInt64]
    exact bm64 (by omega) (by omega)
  rw [e3, show (100000 : Int64).toInt = 100000 by decide] at c
  omega
theorem vr_fam {f f' : Nat → Int32} {n : Nat} {x1 x2 x3 x4 : Int32} (v : VR f) (hn : n < 4) (c : K_fam x1 x2 x3 x4) (e : f' = upd (upd (upd f (140 + 3 * n) x2) (140 + 3 * n + 1) x3) (140 + 3 * n + 2) x4) : VR f' := by
  subst e
  obtain ⟨-, c2, c3, c4, c5⟩ := c
  have le := fam_le c2 c3 c4 c5
  have st : ∀ {f : Nat → Int32} {k : Nat} {x : Int32}, (∀ i, okV i (f i)) → 140 ≤ k → k < 152 → bd 1 100000 x → ∀ i, okV i (upd f k x i) := fun {f k x} w h1 h2 b i => by
    by_cases q : i = k
    · subst q; rw [pk_us]; unfold okV; rw [vg_F h1 h2]; exact b
    · rw [pk_un q]; exact w i
  refine ⟨st (st (st v.1 (by omega) (by omega) c2) (by omega) (by omega) c3) (by omega) (by omega) c4, fun j hj => ?_⟩
  by_cases q : j = n
  · subst q
    have e0 : upd (upd (upd f (140 + 3 * j) x2) (140 + 3 * j + 1) x3) (140 + 3 * j + 2) x4 (140 + 3 * j) = x2 := by rw [pk_un (by omega), pk_un (by omega), pk_us]
    have e1 : upd (upd (upd f (140 + 3 * j) x2) (140 + 3 * j + 1) x3) (140 + 3 * j + 2) x4 (140 + 3 * j + 1) = x3 := by rw [pk_un (by omega), pk_us]
    have e2 : upd (upd (upd f (140 + 3 * j) x2) (140 + 3 * j + 1) x3) (140 + 3 * j + 2) x4 (140 + 3 * j + 2) = x4 := pk_us
    rw [e0, e1, e2]; exact le
  · rw [pk_un (by omega), pk_un (by omega), pk_un (by omega), pk_un (by omega), pk_un (by omega), pk_un (by omega), pk_un (by omega), pk_un (by omega), pk_un (by omega)]
    exact v.2 j hj
