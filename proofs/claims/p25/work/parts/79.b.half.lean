/-! HALF, the class -/
theorem HQ.sc {a b d : Nat} {r : Int32} (hd : 1 ≤ d) (x : HQ a b r) : HQ (a * d) (b * d) r := by
  have pos : ∀ n : Nat, 0 < d ^ n := fun n => Nat.pow_pos (by omega)
  have le : ∀ n : Nat, 2 * a ^ n ≤ b ^ n → 2 * (a * d) ^ n ≤ (b * d) ^ n := fun n h => by
    rw [Nat.mul_pow, Nat.mul_pow, ← Nat.mul_assoc]
    exact Nat.mul_le_mul_right _ h
  have lt : ∀ n : Nat, b ^ n < 2 * a ^ n → (b * d) ^ n < 2 * (a * d) ^ n := fun n h => by
    rw [Nat.mul_pow, Nat.mul_pow, ← Nat.mul_assoc]
    exact Nat.mul_lt_mul_of_pos_right h (pos n)
  rcases x with ⟨n, n1, n2, n3, n4, rfl⟩ | ⟨n4, rfl⟩
  · exact .inl ⟨n, n1, n2, le n n3, fun m m1 m2 => lt m (n4 m m1 m2), rfl⟩
  · exact .inr ⟨fun m m1 m2 => lt m (n4 m m1 m2), rfl⟩
/-- the odds of the works, and the loads, in the class's tables -/
theorem CX.od {h : HI} {f : Nat → Int32} (c : CX h f) : TT h 16 1 2 1 ∧ h 17 0 = f 9 ∧ h 17 1 = f 10 := by
  obtain ⟨m, T, k⟩ := c.1 7 (by omega)
  have k : m = 1 := k
  subst k
  have e := (CE.es (by decide) (by decide)).mp (c.ci (j := 7) (by omega) T)
  exact ⟨T, e 0 (by decide), e 1 (by decide)⟩
def whP (f : Nat → Int32) (p : Nat) : Nat := 1000 - ((f 9).toNatClampNeg + (f 10).toNatClampNeg * (f (20 + 5 * p + 0)).toNatClampNeg)
theorem whP_eq {f : Nat → Int32} {p : Nat} (hp : p < 24) : whN f (nI p) = whP f p := by
  unfold whN whP
  rw [show ((20 : Int32) + ((5 : Int32) * nI p)) + (0 : Int32) = nI (20 + 5 * p + 0) from ix3 20 5 p 0, nI_clamp (by omega)]
theorem RG.odd {f : Nat → Int32} (r : RG f) {p : Nat} (hp : p < 24) : ∃ a b l : Nat, a ≤ 9 ∧ b ≤ 9 ∧ l ≤ 100 ∧ b * l ≤ 900 ∧ f 9 = nI a ∧ f 10 = nI b ∧ f (20 + 5 * p + 0) = nI l ∧ whP f p = 1000 - (a + b * l) := by
  have hR := r.ri
  obtain ⟨a, ha, ha2, ea⟩ := bd_nI (r 9)
  obtain ⟨b, hb, hb2, eb⟩ := bd_nI (r 10)
  have k0 : okR (20 + 5 * p + 0) (f (20 + 5 * p + 0)) := r (20 + 5 * p + 0)
  unfold okR at k0
  rw [rg_A (by omega), if_pos (by omega)] at k0
  obtain ⟨l, hl, hl2, el⟩ := bd_nI k0
  have ha : (a : Int) ≤ 9 := ha
  have hb : (b : Int) ≤ 9 := hb
  have hl : (l : Int) ≤ 100 := hl
  have hbl : b * l ≤ 9 * 100 := Nat.mul_le_mul (by omega) (by omega)
  refine ⟨a, b, l, by omega, by omega, by omega, hbl, ea, eb, el, ?_⟩
  unfold whP
  rw [ea, eb, el, nI_clamp (by omega), nI_clamp (by omega), nI_clamp (by omega)]
/-- the chance of a year, shortened by d -/
def KO (h : HI) (V : Nat) : Prop := ∃ k o d : Nat, 1 ≤ d ∧ 1 ≤ k ∧ k * d = V ∧ o * d = 1000 ∧ h 109 5 = nI k ∧ h 109 6 = nI o
theorem KO.bd {h : HI} {V : Nat} (x : KO h V) (hV : V ≤ 1000) : ∃ k o d : Nat, 1 ≤ d ∧ 1 ≤ k ∧ k ≤ 1000 ∧ 1 ≤ o ∧ o ≤ 1000 ∧ k * d = V ∧ o * d = 1000 ∧ h 109 5 = nI k ∧ h 109 6 = nI o := by
  obtain ⟨k, o, d, hd, hk, e1, e2, e5, e6⟩ := x
  have k1 : k ≤ k * d := Nat.le_mul_of_pos_right k (by omega)
  have o1 : o ≤ o * d := Nat.le_mul_of_pos_right o (by omega)
  have o0 : o ≠ 0 := fun e => by rw [e, Nat.zero_mul] at e2; omega
  exact ⟨k, o, d, hd, hk, by omega, by omega, by omega, e1, e2, e5, e6⟩
def S109 (q : Nat) : Prop := q = 109
theorem q_X1_shorten {h : HI} {g : HL} {V x : Nat} (hV : V ≤ 1000) (hx : 1 ≤ x ∧ x ≤ 10) (H : KO h V) : w_X1_shorten (nI x) h g (fun h' _ => JJ S109 h h' ∧ KO h' V) := by
  have H0 := H
  obtain ⟨k, o, d, hd, hk, hk2, ho, ho2, e1, e2, e5, e6⟩ := H.bd hV
  have xn : ¬ nI x = 0 := nI_ne0 (by omega) (by omega)
  unfold w_X1_shorten
  rw [e5, e6, pk_rem (by omega) (by omega) (by omega), pk_rem (by omega) (by omega) (by omega)]
  refine ⟨fun _ => ⟨JJ.rf, H0⟩, fun _ => ⟨xn, fun _ => ⟨JJ.rf, H0⟩, fun q => ⟨xn, fun _ => ⟨JJ.rf, H0⟩, fun q2 => ⟨xn, ?_⟩⟩⟩⟩
  have m1 := Nat.mod_lt k (y := x) (by omega)
  have m2 := Nat.mod_lt o (y := x) (by omega)
  have q : k % x = 0 := (nI_z (by omega)).mp q
  have q2 : o % x = 0 := (nI_z (by omega)).mp q2
  have d1 := Nat.div_add_mod k x
  have d2 := Nat.div_add_mod o x
  rw [q, Nat.add_zero] at d1
  rw [q2, Nat.add_zero] at d2
  intro h1 f1
  rw [pk_div (by omega) (by omega) (by omega)] at f1
  have f6 : h1 109 6 = nI o := by rw [f1, hu_eq, pk_un (by decide)]; exact e6
  rw [f6, pk_div (by omega) (by omega) (by omega)]
  refine ⟨xn, ?_⟩
  intro h2 f2
  refine ⟨(JJ.rf.hu f1 (by unfold S109; omega)).hu f2 (by unfold S109; omega), k / x, o / x, x * d, Nat.mul_pos (by omega) (by omega), ?_, ?_, ?_, ?_, ?_⟩
  · have : k / x ≠ 0 := fun e => by rw [e, Nat.mul_zero] at d1; omega
    exact Nat.pos_of_ne_zero this
  · rw [← Nat.mul_assoc, Nat.mul_comm (k / x) x, d1]; exact e1
  · rw [← Nat.mul_assoc, Nat.mul_comm (o / x) x, d2]; exact e2
  · rw [f2, hu_eq, pk_un (by decide), f1, hu_eq, pk_us]
  · rw [f2, hu_eq, pk_us]
theorem q_X1_chooseYear {h : HI} {g : HL} {f : Nat → Int32} (c : CX h f) {m p : Nat} (T : TT h 2 m 5 24) (hp : p < m) : w_X1_chooseYear (nI p) h g (fun h' _ => JJ S109 h h' ∧ KO h' (whP f p)) := by
  have hm := T.2.2.2.1
  obtain ⟨To, o0, o1⟩ := c.od
  obtain ⟨a, b, l, ha, hb, hl, hbl, ea, eb, el, ew⟩ := c.2.2.2.2.odd (p := p) (by omega)
  unfold w_X1_chooseYear
  refine c_i (p_atT To) ?_
  rintro _ _ _ ⟨rfl, rfl, rfl⟩
  refine c_i (p_atT To) ?_
  rintro _ _ _ ⟨rfl, rfl, rfl⟩
  refine c_i (p_atT T) ?_
  rintro _ _ _ ⟨rfl, rfl, rfl⟩
  rw [show tat h 16 (0 : Int32) (0 : Int32) = nI a from (tat_nI To (a := 0) (b := 0) (by omega) (by omega)).trans (o0.trans ea), show tat h 16 (0 : Int32) (1 : Int32) = nI b from (tat_nI To (a := 0) (b := 1) (by omega) (by omega)).trans (o1.trans eb), show tat h 2 (nI p) (0 : Int32) = nI l from (tat_nI T (b := 0) hp (by omega)).trans ((c.cp T hp (by omega)).trans el)]
  refine ⟨fun r h' g' => r = nI (a + b * l) ∧ h = h' ∧ g = g', ?_, ?_⟩
  · unfold w_X1_oddsOf
    exact ⟨by rw [pk_mul, nI_add], rfl, rfl⟩
  rintro _ _ _ ⟨rfl, rfl, rfl⟩
  intro h1 e1
  rw [show (1000 : Int32) = nI 1000 from rfl] at e1
  rw [if_pos ((nI_ltI (by omega) (by omega)).mpr (by omega)), pk_sub (by omega)] at e1
  intro h2 e2
  have J2 : JJ S109 h h2 := (JJ.rf.hu e1 (by unfold S109; omega)).hu e2 (by unfold S109; omega)
  have K2 : KO h2 (whP f p) := by
    refine ⟨1000 - (a + b * l), 1000, 1, by omega, by omega, by rw [ew]; omega, by omega, ?_, ?_⟩
    · rw [e2, hu_eq, pk_un (by decide), e1, hu_eq, pk_us]
    · rw [e2, hu_eq, pk_us]; rfl
  have hV : whP f p ≤ 1000 := by rw [ew]; omega
  refine lpE_intro (fun ⟨a_q, h_q, _⟩ => ∃ i : Nat, i ≤ 3 ∧ nI i = a_q ∧ JJ S109 h h_q ∧ KO h_q (whP f p)) (fun ⟨a_q, _, _⟩ => dif (nI 3) a_q) ?_ _ ⟨0, by omega, nI_0, J2, K2⟩
  clear J2 K2 e1 e2
  rintro ⟨y1, h3, g3⟩ K ⟨i, hi, rfl, J3, K3⟩ hK
  unfold F_X1_chooseYear_67; dsimp only; unfold b_X1_chooseYear_67
  refine ⟨fun _ => ⟨J3, K3⟩, fun q => ?_⟩
  have hd := dif_lt (a := nI 3) q
  rw [show (3 : Int32) = nI 3 from rfl, nI_leI (by omega) (by omega)] at q
  refine c_v (q_X1_shorten (x := 2) hV (by omega) K3) ?_
  rintro h4 g4 ⟨J4, K4⟩
  refine c_v (q_X1_shorten (x := 5) hV (by omega) K4) ?_
  rintro h5 g5 ⟨J5, K5⟩
  rintro _ rfl
  exact hK _ ⟨i + 1, by omega, (nI_1 i).symm, (J3.tr J4).tr J5, K5⟩ hd
theorem pw_s {a k c : Nat} (ha : a ≤ 1000) (hk : k ≤ 200) (hc : c ≤ 2) : c * a ^ k < 2 ^ (30 * 67) := pw_small ha hk hc
theorem q_X1_halved {h : HI} {g : HL} {f : Nat → Int32} (c : CX h f) {m p : Nat} (T : TT h 2 m 5 24) (hp : p < m) : w_X1_halved (nI p) h g (fun r h' _ => JJ SBrk h h' ∧ HQ (whP f p) 1000 r) := by
  have hm := T.2.2.2.1
  obtain ⟨a, b, l, ha, hb, hl, hbl, ea, eb, el, ew⟩ := c.2.2.2.2.odd (p := p) (by omega)
  have uS : ∀ o, 110 ≤ o ∧ o ≤ 116 → ∀ q, SB o q → SBrk q := fun o ho q hq => by unfold SB at hq; unfold SBrk; omega
  unfold w_X1_halved
  refine c_v (q_X1_chooseYear c T hp) ?_
  rintro h1 g1 ⟨J1, K1⟩
  obtain ⟨kp, ot, d, hd, hk, hk2, ho, ho2, e1, e2, e5, e6⟩ := K1.bd (by rw [ew]; omega)
  refine c_v (q_X0_set (o := 114) (v := 2) (by omega)) ?_
  rintro h2 _ ⟨rfl, J2, A2⟩
  refine c_v (q_X0_set (o := 116) (v := 1) (by omega)) ?_
  rintro h3 _ ⟨rfl, J3, B3⟩
  have A3 := A2.fr J3 (by unfold SB; omega)
  have J3' : JJ SBrk h h3 := ((J1.mo (fun q hq => by unfold S109 at hq; unfold SBrk; omega)).tr (J2.mo (uS 114 (by omega)))).tr (J3.mo (uS 116 (by omega)))
  have p5 : h3 109 5 = nI kp := by rw [J3 109 (by unfold SB; omega), J2 109 (by unfold SB; omega)]; exact e5
  have p6 : h3 109 6 = nI ot := by rw [J3 109 (by unfold SB; omega), J2 109 (by unfold SB; omega)]; exact e6
  have fin : ∀ r : Int32, HQ kp ot r → HQ (whP f p) 1000 r := fun r x => by
    have := x.sc hd
    rw [e1, e2] at this; exact this
  refine lpE_intro (fun ⟨a_q, h_q, _⟩ => ∃ k W U : Nat, k ≤ 200 ∧ nI (k + 1) = a_q ∧ JJ SBrk h h_q ∧ h_q 109 5 = nI kp ∧ h_q 109 6 = nI ot ∧ GC h_q 114 W (2 * kp ^ k) ∧ GC h_q 116 U (ot ^ k) ∧ ∀ m, 1 ≤ m → m ≤ k → ot ^ m < 2 * kp ^ m) (fun ⟨a_q, _, _⟩ => dil (200 : Int32) a_q) ?_ _ ⟨0, 1, 1, by omega, rfl, J3', p5, p6, by rw [Nat.pow_zero]; exact A3, by rw [Nat.pow_zero]; exact B3, fun m h1 h2 => by omega⟩
  rintro ⟨y1, h4, g4⟩ K ⟨k, W, U, hk3, rfl, J4, q5, q6, A4, B4, hmm⟩ hK
  unfold F_X1_halved_23; dsimp only; unfold b_X1_halved_23
  refine ⟨fun cc => ?_, fun cc => ?_⟩
  · rw [show (200 : Int32) = nI 200 from rfl, nI_ltI (by omega) (by omega)] at cc
    have : k = 200 := by omega
    subst this
    exact ⟨J4, fin _ (.inr ⟨hmm, rfl⟩)⟩
  · have hd2 := dil_lt cc (by decide)
    rw [show (200 : Int32) = nI 200 from rfl, nI_ltI (by omega) (by omega)] at cc
    have W67 := A4.wle (pw_s hk2 hk3 (by omega))
    have U67 := B4.wle (m := 67) (by have := pw_s (c := 1) ho2 hk3 (by omega); omega)
    rw [q5]
    refine c_v (q_X0_times (B := kp) A4 (by omega) (by omega)) ?_
    rintro h5 _ ⟨rfl, J5, W', hW', A5⟩
    have r6 : h5 109 6 = nI ot := by rw [J5 109 (by unfold SB; omega)]; exact q6
    rw [r6]
    have B5 := B4.fr J5 (by unfold SB; omega)
    refine c_v (q_X0_times (B := ot) B5 (by omega) (by omega)) ?_
    rintro h6 _ ⟨rfl, J6, U', hU', B6⟩
    have A6 := A5.fr J6 (by unfold SB; omega)
    rw [Nat.mul_assoc, ← Nat.pow_succ] at A6
    rw [← Nat.pow_succ] at B6
    have J6' : JJ SBrk h h6 := (J4.tr (J5.mo (uS 114 (by omega)))).tr (J6.mo (uS 116 (by omega)))
    refine c_z (q_X0_above A6 B6 (by omega) (by omega)) ?_
    rintro r _ _ ⟨rfl, rfl, ⟨rfl, lt⟩ | ⟨rfl, le⟩⟩
    · refine ⟨fun _ => ?_, fun z => absurd z (by decide)⟩
      rintro _ rfl
      refine hK _ ⟨k + 1, W', U', by omega, (nI_1 (k + 1)).symm, J6', ?_, ?_, A6, B6, fun m h1 h2 => ?_⟩ hd2
      · rw [J6 109 (by unfold SB; omega), J5 109 (by unfold SB; omega)]; exact q5
      · rw [J6 109 (by unfold SB; omega), J5 109 (by unfold SB; omega)]; exact q6
      · by_cases em : m = k + 1
        · subst em; exact lt
        · exact hmm m h1 (by omega)
    · exact ⟨fun z => absurd rfl z, fun _ => ⟨J6', fin _ (.inl ⟨k + 1, by omega, by omega, le, fun m h1 h2 => hmm m h1 (by omega), rfl⟩)⟩⟩
def AHA (f : Nat → Int32) (m : Nat) (x1 r : Int32) : Prop := (¬ isRow (nI m) x1 ∧ r = -2) ∨ ∃ p : Nat, p < m ∧ x1 = nI p ∧ HQ (whP f p) 1000 r
theorem AHA.un {f : Nat → Int32} {m : Nat} (hm : m ≤ 24) {x1 r s : Int32} (a : AHA f m x1 r) (b : AHA f m x1 s) : r = s := by
  rcases a with ⟨a1, rfl⟩ | ⟨p, hp, rfl, a1⟩
  · rcases b with ⟨-, rfl⟩ | ⟨p, hp, rfl, -⟩
    · rfl
    · exact absurd (row_of hp (by omega)) a1
  · rcases b with ⟨b1, -⟩ | ⟨p', hp', e1, b1⟩
    · exact absurd (row_of hp (by omega)) b1
    · have q1 : p = p' := (nI_eq (by omega) (by omega)).mp e1
      subst q1; exact a1.un b1
theorem q_X10_half {h : HI} {g : HL} {f : Nat → Int32} (c : CX h f) {m : Nat} (T : TT h 2 m 5 24) {x1 : Int32} : w_X10_half x1 h g (fun r h' _ => JJ SBrk h h' ∧ AHA f m x1 r) := by
  have hm := T.2.2.2.1
  unfold w_X10_half
  refine c_hb (fun q0 => ⟨fun _ => ?_, fun z => absI z⟩) (fun q0 => ⟨fun z => absurd rfl z, fun _ => ⟨JJ.rf, .inl ⟨fun k => q0 (by rw [T.2.2.1]; exact k), rfl⟩⟩⟩)
  obtain ⟨p, hp, rfl⟩ := row_n q0 T.2.2.1 (by omega)
  refine c_i (q_X1_halved c T hp) ?_
  rintro r h' g' ⟨J, x⟩
  exact ⟨J, .inr ⟨p, hp, rfl, x⟩⟩
/-- the reference's answer, so read -/
theorem half_r {f : Nat → Int32} (r : RG f) {m : Nat} (em : f 0 = nI m) (hm : m ≤ 24) {x1 s : Int32} (b : isRow (f 0) x1 ∧ HQ (whN f x1 / Nat.gcd (whN f x1) 1000) (1000 / Nat.gcd (whN f x1) 1000) s ∨ s = -2 ∧ ¬ isRow (f 0) x1) : AHA f m x1 s := by
  rw [em] at b
  rcases b with ⟨b1, b2⟩ | ⟨rfl, b1⟩
  · obtain ⟨p, hp, rfl⟩ := row_n b1 rfl (by omega)
    rw [whP_eq (by omega)] at b2
    obtain ⟨a, b, l, ha, hb, hl, hbl, -, -, -, ew⟩ := r.odd (p := p) (by omega)
    have g0 : 0 < Nat.gcd (whP f p) 1000 := Nat.gcd_pos_of_pos_right _ (by omega)
    have h1 := b2.sc (d := Nat.gcd (whP f p) 1000) (by omega)
    rw [Nat.div_mul_cancel (Nat.gcd_dvd_left _ _), Nat.div_mul_cancel (Nat.gcd_dvd_right _ _)] at h1
    exact .inr ⟨p, hp, rfl, h1⟩
  · exact .inl ⟨b1, rfl⟩
