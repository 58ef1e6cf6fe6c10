/-! ODDS of the reference -/
def isRow (c x : Int32) : Prop := 0 ≤ x.toInt ∧ x.toInt < c.toInt
theorem isRow_r {c x : Int32} {N : Int} (q : bd 0 N x) (q1 : ¬ c ≤ x) : isRow c x := by
  rw [Int32.le_iff_toInt_le] at q1
  unfold isRow; unfold bd at q; omega
theorem isRow_n {c x : Int32} (q : x < 0 ∨ c ≤ x) : ¬ isRow c x := by
  rw [Int32.lt_iff_toInt_lt, Int32.le_iff_toInt_le, show (0 : Int32).toInt = 0 by decide] at q
  unfold isRow; omega
theorem isRow_c {c x : Int32} (q : ¬ x < 0) (q1 : ¬ c ≤ x) : isRow c x := by
  rw [Int32.lt_iff_toInt_lt, show (0 : Int32).toInt = 0 by decide] at q
  rw [Int32.le_iff_toInt_le] at q1
  unfold isRow; omega
def whN (f : Nat → Int32) (x1 : Int32) : Nat := 1000 - ((f 9).toNatClampNeg + (f 10).toNatClampNeg * (f (((20 : Int32) + ((5 : Int32) * x1)) + (0 : Int32)).toNatClampNeg).toNatClampNeg)
theorem p_X11_whole {h : HI} {g : HL} (hR : RI (h 136)) {x1 : Int32} (b_x1 : bd 0 23 x1) : w_X11_whole x1 h g (fun r h' g' => h = h' ∧ g = g' ∧ nI (whN (h 136) x1) = r ∧ 1 ≤ whN (h 136) x1 ∧ whN (h 136) x1 ≤ 1000) := by
  unfold w_X11_whole
  refine and_have (vp_in_iff.mpr (by decide)) (fun _ => and_have (vp_in_iff.mpr (by decide)) (fun _ => ?_))
  refine c_i (p_X11_partOf hR b_x1 ((bd_lit (n := 0) (by decide)).mo (by decide) (by decide))) ?_
  rintro _ _ _ ⟨rfl, rfl, rfl⟩
  obtain ⟨a, ha, ha2, ea⟩ := bd_nI hR.c9
  obtain ⟨b, hb, hb2, eb⟩ := bd_nI hR.c10
  obtain ⟨l, hl, hl2, el⟩ := bd_nI (hR.ld b_x1)
  have hbl : b * l ≤ 9 * 100 := Nat.mul_le_mul (by omega) (by omega)
  have ew : whN (h 136) x1 = 1000 - (a + b * l) := by
    unfold whN
    rw [← cl9, ← cl10, ea, eb, el, nI_clamp ha2, nI_clamp hb2, nI_clamp hl2]
  rw [ew, ea, eb, el, pk_mul, nI_add]
  rintro _ rfl
  refine ⟨fun _ => ⟨rfl, rfl, ?_, by omega, by omega⟩, fun c => ?_⟩
  · rw [show (1000 : Int32) = nI 1000 from rfl, pk_sub (by omega)]
  · exact absurd (by rw [show (1000 : Int32) = nI 1000 from rfl]; exact nI_le (by omega) (by omega)) c
theorem p_X11_powers {h : HI} {g : HL} {r v n : Nat} (hr : r < 5) (hv : v ≤ 1000) (hn : n ≤ 78) : w_X11_powers (nI r) (nI v) (nI n) h g (fun h' _ => BF r h h' ∧ ∃ W, W ≤ n + 1 ∧ BG h' r W (v ^ n)) := by
  unfold w_X11_powers
  refine c_v (p_X11_sets (v := 1) hr (.inl rfl)) ?_
  rintro h1 g1 ⟨rfl, F1, G1⟩
  refine lpE_intro (fun ⟨a_q, b_q, c_q, d_q, h_q, _⟩ => ∃ k : Nat, k ≤ n ∧ nI r = a_q ∧ nI v = b_q ∧ nI n = c_q ∧ nI k = d_q ∧ BF r h h_q ∧ ∃ W, W ≤ k + 1 ∧ BG h_q r W (v ^ k)) (fun ⟨_, _, _, d_q, _, _⟩ => dif (nI n) d_q) ?_ _ ⟨0, Nat.zero_le _, rfl, rfl, rfl, nI_0, F1, 1, by omega, G1⟩
  rintro ⟨y1, y2, y3, y4, h2, g2⟩ K ⟨k, hk, rfl, rfl, rfl, rfl, F2, W, hW, G2⟩ hK
  unfold F_X11_powers_9; dsimp only; unfold b_X11_powers_9
  refine ⟨fun c => ?_, fun c => ?_⟩
  · rw [nI_leI (by omega) (by omega)] at c
    have : k = n := by omega
    subst this
    exact ⟨F2, W, hW, G2⟩
  · have hd := dif_lt c
    rw [nI_leI (by omega) (by omega)] at c
    refine c_v (p_X11_times hr hv G2 (by omega)) ?_
    rintro h3 g3 ⟨F3, W', hW', G3⟩
    rintro _ rfl
    exact hK _ ⟨k + 1, by omega, rfl, rfl, rfl, (nI_1 k).symm, F2.tr F3, W', by omega, by rw [Nat.pow_succ]; exact G3⟩ hd
/-- how wide THE FRACTION is -/
def WI (h : HI) : Prop := ∃ a b : Nat, a ≤ 70 ∧ b ≤ 70 ∧ h 147 0 = nI a ∧ h 147 1 = nI b
theorem WI.cg {a b : HI} (w : WI a) (e0 : b 147 0 = a 147 0) (e1 : b 147 1 = a 147 1) : WI b := by
  unfold WI; rw [e0, e1]; exact w
theorem gcd_ne {v : Nat} (h1 : 1 ≤ v) (h2 : v ≤ 1000) : 0 < Nat.gcd v 1000 ∧ Nat.gcd v 1000 ≤ 1000 := ⟨Nat.gcd_pos_of_pos_left _ (by omega), Nat.gcd_le_right _ (by omega)⟩
theorem p_X11_lasts {h : HI} {g : HL} (hR : RI (h 136)) (hW : WI h) {x1 x2 : Int32} : w_X11_lasts x1 x2 h g (fun r h' _ => (r = 1 ∧ (isRow (h 136 0) x1 ∧ bd 0 60 x2) ∨ r = -2 ∧ ¬ (isRow (h 136 0) x1 ∧ bd 0 60 x2)) ∧ KJ SBg h h' ∧ WI h') := by
  unfold w_X11_lasts
  refine c_is (vp_in_iff.mpr (by decide)) hR.c0 (by decide) (fun q q1 => ?_) (fun q => ?_)
  · refine ⟨fun c => absI c, fun _ => ?_⟩
    rw [cl0] at q1
    have hrow := isRow_r q q1
    refine c_in3 (fun q2 => ?_) (fun q2 => ?_)
    · refine ⟨fun _ => ?_, fun c => absI c⟩
      have b2 : bd 0 60 x2 := q2.mo (by decide) (by decide)
      obtain ⟨n, hn, hn2, rfl⟩ := bd_nI b2
      refine c_i (p_X11_whole hR (q.mo (by decide) (by decide))) ?_
      rintro _ _ _ ⟨rfl, rfl, rfl, w1, w2⟩
      obtain ⟨g1, g2⟩ := gcd_ne w1 w2
      refine ⟨fun _ => ?_, fun c => absurd c (nI_ne0 (by omega) (by omega))⟩
      refine c_i (p_X11_divisor (a := whN (h 136) x1) (b := 1000) (by omega) (by omega)) ?_
      rintro _ _ _ ⟨rfl, rfl, rfl⟩
      unfold j_X11_lasts_47
      have hne : ¬ nI (Nat.gcd (whN (h 136) x1) 1000) = 0 := nI_ne0 g1 (by omega)
      refine and_have hne (fun _ => ?_)
      rw [pk_div (by omega) g1 (by omega), show (1000 : Int32) = nI 1000 from rfl, pk_div (by omega) g1 (by omega)]
      refine c_v (p_X11_powers (r := 0) (by omega) (Nat.le_trans (Nat.div_le_self _ _) w2) (by omega)) ?_
      rintro h1 g1' ⟨F1, W1, hW1, G1⟩
      refine and_have hne (fun _ => ?_)
      refine c_v (p_X11_powers (r := 1) (by omega) (Nat.div_le_self _ _) (by omega)) ?_
      rintro h2 g2' ⟨F2, W2, hW2, G2⟩
      exact ⟨.inl ⟨rfl, hrow, b2⟩, F1.kj.tr F2.kj, W1, W2, by omega, by omega, (G1.fr F2 (by omega) (by omega)).1, G2.1⟩
    · refine ⟨fun c => absurd rfl c, fun _ => ⟨.inr ⟨rfl, fun hc => q2 (hc.2.mo (by decide) (by decide))⟩, KJ.rf, hW⟩⟩
  · rw [cl0] at q
    exact ⟨fun _ => ⟨.inr ⟨rfl, fun hc => isRow_n q hc.1⟩, KJ.rf, hW⟩, fun c => absN c⟩
/-- the fewest years in which the half breaks -/
def HQ (a b : Nat) (r : Int32) : Prop := (∃ n : Nat, 1 ≤ n ∧ n ≤ 200 ∧ 2 * a ^ n ≤ b ^ n ∧ (∀ m, 1 ≤ m → m < n → b ^ m < 2 * a ^ m) ∧ r = nI n) ∨ ((∀ m, 1 ≤ m → m ≤ 200 → b ^ m < 2 * a ^ m) ∧ r = -1)
theorem HQ.un {a b : Nat} {r s : Int32} (x : HQ a b r) (y : HQ a b s) : r = s := by
  rcases x with ⟨n, n1, n2, n3, n4, rfl⟩ | ⟨n4, rfl⟩
  · rcases y with ⟨m, m1, m2, m3, m4, rfl⟩ | ⟨m4, rfl⟩
    · rcases Nat.lt_trichotomy n m with l | l | l
      · have := m4 n n1 l; omega
      · rw [l]
      · have := n4 m m1 l; omega
    · have := m4 n n1 n2; omega
  · rcases y with ⟨m, m1, m2, m3, m4, rfl⟩ | ⟨m4, rfl⟩
    · have := n4 m m1 m2; omega
    · rfl
theorem pw_small {a k c : Nat} (ha : a ≤ 1000) (hk : k ≤ 200) (hc : c ≤ 2) : c * a ^ k < 2 ^ (30 * 67) := by
  have h1 : a ^ k ≤ (2 ^ 10) ^ k := Nat.pow_le_pow_left (by omega) k
  rw [← Nat.pow_mul] at h1
  have h2 : 2 ^ (10 * k) ≤ 2 ^ 2000 := Nat.pow_le_pow_right (by omega) (by omega)
  have h3 : c * a ^ k ≤ 2 * 2 ^ 2000 := Nat.mul_le_mul hc (Nat.le_trans h1 h2)
  have h4 : 2 * 2 ^ 2000 = 2 ^ 2001 := by rw [Nat.mul_comm, ← Nat.pow_succ]
  have h5 : 2 ^ 2001 < 2 ^ (30 * 67) := Nat.pow_lt_pow_right (by omega) (by omega)
  omega
theorem cmpN_pos {v u : Nat} : (0 : Int32) < cmpN v u ↔ u < v := by
  unfold cmpN
  by_cases c : v < u
  · rw [if_pos c]; exact ⟨fun x => absurd x (by decide), fun x => by omega⟩
  · rw [if_neg c]
    by_cases d : v = u
    · rw [if_pos d]; exact ⟨fun x => absurd x (by decide), fun x => by omega⟩
    · rw [if_neg d]; exact ⟨fun _ => by omega, fun _ => by decide⟩
theorem p_X11_half {h : HI} {g : HL} (hR : RI (h 136)) {x1 : Int32} : w_X11_half x1 h g (fun r h' _ => (isRow (h 136 0) x1 ∧ HQ (whN (h 136) x1 / Nat.gcd (whN (h 136) x1) 1000) (1000 / Nat.gcd (whN (h 136) x1) 1000) r ∨ r = -2 ∧ ¬ isRow (h 136 0) x1) ∧ KJ SBg h h' ∧ h' 147 0 = h 147 0 ∧ h' 147 1 = h 147 1) := by
  unfold w_X11_half
  refine c_is (vp_in_iff.mpr (by decide)) hR.c0 (by decide) (fun q q1 => ?_) (fun q => ?_)
  · refine ⟨fun _ => ?_, fun c => absI c⟩
    rw [cl0] at q1
    have hrow := isRow_r q q1
    refine c_i (p_X11_whole hR (q.mo (by decide) (by decide))) ?_
    rintro _ _ _ ⟨rfl, rfl, rfl, w1, w2⟩
    obtain ⟨g1, g2⟩ := gcd_ne w1 w2
    refine ⟨fun _ => ?_, fun c => absurd c (nI_ne0 (by omega) (by omega))⟩
    refine c_i (p_X11_divisor (a := whN (h 136) x1) (b := 1000) (by omega) (by omega)) ?_
    rintro _ _ _ ⟨rfl, rfl, rfl⟩
    generalize hG : Nat.gcd (whN (h 136) x1) 1000 = G at g1 g2 ⊢
    generalize hV : whN (h 136) x1 = V at w1 w2 ⊢
    have hne : ¬ nI G = 0 := nI_ne0 g1 (by omega)
    have a1 : V / G ≤ 1000 := Nat.le_trans (Nat.div_le_self _ _) w2
    have b1 : 1000 / G ≤ 1000 := Nat.div_le_self _ _
    unfold j_X11_half_35
    refine c_v (p_X11_sets (r := 2) (v := 2) (by omega) (.inr rfl)) ?_
    rintro h1 _ ⟨rfl, F1, G1⟩
    refine c_v (p_X11_sets (r := 3) (v := 1) (by omega) (.inl rfl)) ?_
    rintro h2 _ ⟨rfl, F2, G2⟩
    have fr : ∀ {a b : HI} {r : Nat}, BF r a b → 2 ≤ r → KJ SBg h a ∧ a 147 0 = h 147 0 ∧ a 147 1 = h 147 1 → KJ SBg h b ∧ b 147 0 = h 147 0 ∧ b 147 1 = h 147 1 := fun F hr x =>
      ⟨x.1.tr F.kj, (F.2.1 0 (by omega)).trans x.2.1, (F.2.1 1 (by omega)).trans x.2.2⟩
    have J2 := fr F2 (by omega) (fr F1 (by omega) ⟨KJ.rf, rfl, rfl⟩)
    refine lpE_intro (fun ⟨a_q, b_q, c_q, h_q, _⟩ => ∃ k W U : Nat, k ≤ 200 ∧ nI V = a_q ∧ nI G = b_q ∧ nI (k + 1) = c_q ∧ (KJ SBg h h_q ∧ h_q 147 0 = h 147 0 ∧ h_q 147 1 = h 147 1) ∧ BG h_q 2 W (2 * (V / G) ^ k) ∧ BG h_q 3 U ((1000 / G) ^ k) ∧ ∀ m, 1 ≤ m → m ≤ k → (1000 / G) ^ m < 2 * (V / G) ^ m) (fun ⟨_, _, c_q, _, _⟩ => dil (200 : Int32) c_q) ?_ _ ⟨0, 1, 1, by omega, rfl, rfl, rfl, J2, G1.fr F2 (by omega) (by omega), G2, fun m h1 h2 => by omega⟩
    rintro ⟨y2, y3, y4, h3, g3⟩ K ⟨k, W, U, hk, rfl, rfl, rfl, J3, A3, B3, hm⟩ hK
    unfold F_X11_half_51; dsimp only; unfold b_X11_half_51
    refine ⟨fun c => ?_, fun c => ?_⟩
    · rw [show (200 : Int32) = nI 200 from rfl, nI_ltI (by omega) (by omega)] at c
      have : k = 200 := by omega
      subst this
      exact ⟨.inl ⟨hrow, .inr ⟨hm, rfl⟩⟩, J3⟩
    · have hd := dil_lt c (by decide)
      rw [show (200 : Int32) = nI 200 from rfl, nI_ltI (by omega) (by omega)] at c
      have W67 := A3.wle (pw_small a1 hk (by omega))
      have U67 := B3.wle (m := 67) (by have := pw_small (c := 1) b1 hk (by omega); omega)
      refine and_have hne (fun _ => ?_)
      rw [pk_div (by omega) g1 (by omega), show (1000 : Int32) = nI 1000 from rfl, pk_div (by omega) g1 (by omega)]
      refine c_v (p_X11_times (r := 2) (by omega) a1 A3 (by omega)) ?_
      rintro h4 g4 ⟨F4, W', hW', A4⟩
      refine and_have hne (fun _ => ?_)
      refine c_v (p_X11_times (r := 3) (by omega) b1 (B3.fr F4 (by omega) (by omega)) (by omega)) ?_
      rintro h5 g5 ⟨F5, U', hU', B5⟩
      have A5 := A4.fr F5 (by omega) (by omega)
      rw [Nat.mul_assoc, ← Nat.pow_succ] at A5
      rw [← Nat.pow_succ] at B5
      have J5 := fr F5 (by omega) (fr F4 (by omega) J3)
      refine c_i (p_X11_against (r := 2) (s := 3) (by omega) (by omega) A5 B5 (by omega) (by omega)) ?_
      rintro _ _ _ ⟨rfl, rfl, rfl⟩
      rw [cmpN_pos]
      refine ⟨fun cc => ?_, fun cc => ?_⟩
      · rintro _ rfl
        refine hK _ ⟨k + 1, W', U', by omega, rfl, rfl, (nI_1 (k + 1)).symm, J5, A5, B5, ?_⟩ hd
        intro m h1 h2
        by_cases em : m = k + 1
        · subst em; exact cc
        · exact hm m h1 (by omega)
      · exact ⟨.inl ⟨hrow, .inl ⟨k + 1, by omega, by omega, Nat.not_lt.mp cc, fun m h1 h2 => hm m h1 (by omega), rfl⟩⟩, J5⟩
  · rw [cl0] at q
    exact ⟨fun c => absurd rfl c, fun _ => ⟨.inr ⟨rfl, fun hc => isRow_n q hc⟩, KJ.rf, rfl, rfl⟩⟩
