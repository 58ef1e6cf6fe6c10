/-! ALONG: the least set that is closed -/
def pcn (S : Nat) : Nat → Nat
  | 0 => 0
  | n + 1 => pcn S n + (if S.testBit n = true then 1 else 0)
theorem pcn_le {S : Nat} : ∀ {n : Nat}, pcn S n ≤ n
  | 0 => Nat.le_refl _
  | n + 1 => by
    have e := pcn_le (S := S) (n := n)
    unfold pcn
    by_cases c : S.testBit n = true
    · rw [if_pos c]; omega
    · rw [if_neg c]; omega
theorem pcn_mo {S T : Nat} : ∀ {n : Nat}, (∀ i, S.testBit i = true → T.testBit i = true) → pcn S n ≤ pcn T n
  | 0, _ => Nat.le_refl _
  | n + 1, h => by
    have e := pcn_mo (n := n) h
    unfold pcn
    by_cases c : S.testBit n = true
    · rw [if_pos c, if_pos (h n c)]; omega
    · rw [if_neg c]; omega
theorem pcn_lt {S T : Nat} : ∀ {n : Nat}, (∀ i, S.testBit i = true → T.testBit i = true) → (∃ i, i < n ∧ T.testBit i = true ∧ ¬ S.testBit i = true) → pcn S n < pcn T n
  | 0, _, h => by
    obtain ⟨i, hi, -⟩ := h
    omega
  | n + 1, h, k => by
    obtain ⟨i, hi, hT, hS⟩ := k
    unfold pcn
    by_cases e : i = n
    · subst e
      have e := pcn_mo (n := i) h
      rw [if_neg hS, if_pos hT]; omega
    · have e := pcn_lt (n := n) h ⟨i, by omega, hT, hS⟩
      by_cases c : S.testBit n = true
      · rw [if_pos c, if_pos (h n c)]; omega
      · rw [if_neg c]; omega
theorem pcn_full {S : Nat} : ∀ {n : Nat}, n ≤ pcn S n → ∀ i, i < n → S.testBit i = true
  | 0, _, i, hi => absurd hi (Nat.not_lt_zero i)
  | n + 1, h, i, hi => by
    have e := pcn_le (S := S) (n := n)
    unfold pcn at h
    by_cases c : S.testBit n = true
    · rw [if_pos c] at h
      by_cases q : i = n
      · subst q; exact c
      · exact pcn_full (n := n) (by omega) i (by omega)
    · rw [if_neg c] at h; omega
def CLo (B : Nat → Nat) (p S : Nat) : Prop := (∀ a, (B p).testBit a = true → S.testBit a = true) ∧ ∀ o a, S.testBit o = true → (B o).testBit a = true → S.testBit a = true
def LCl (B : Nat → Nat) (p S : Nat) : Prop := CLo B p S ∧ ∀ T, CLo B p T → ∀ a, S.testBit a = true → T.testBit a = true
theorem LCl.un {B : Nat → Nat} {p S S' : Nat} (x : LCl B p S) (y : LCl B p S') : S = S' := by
  apply Nat.eq_of_testBit_eq
  intro i
  have h1 := x.2 S' y.1 i
  have h2 := y.2 S x.1 i
  cases e : S.testBit i <;> cases e' : S'.testBit i
  · rfl
  · exact absurd (h2 e') (by rw [e]; decide)
  · exact absurd (h1 e) (by rw [e']; decide)
  · rfl
/-- who bears on a part, as the class keeps it -/
def BRc (h : HI) (m : Nat) (B : Nat → Nat) : Prop := (∀ p, p < m → B p < 2 ^ 24 ∧ h 3 (p * 5 + 4) = nI (B p)) ∧ ∀ a b, (B b).testBit a = true → a < m ∧ b < m
theorem or24 {a b : Nat} (ha : a < 2 ^ 24) (hb : b < 2 ^ 24) : a ||| b < 2 ^ 24 := Nat.or_lt_two_pow ha hb
theorem q_X1_reached {h : HI} {g : HL} {m : Nat} (T : TT h 2 m 5 24) {B : Nat → Nat} (R : BRc h m B) {p : Nat} (hp : p < m) : w_X1_reached (nI p) h g (fun r h' g' => h = h' ∧ g = g' ∧ ∃ S, S < 2 ^ 24 ∧ r = nI S ∧ LCl B p S) := by
  have hm := T.2.2.2.1
  have ta : ∀ k, k < m → tat h 2 (nI k) (4 : Int32) = nI (B k) := fun k hk => (tat_nI T (b := 4) hk (by omega)).trans (R.1 k hk).2
  unfold w_X1_reached
  refine c_i (p_atT T) ?_
  rintro _ _ _ ⟨rfl, rfl, rfl⟩
  rw [ta p hp]
  refine lpE_intro (fun ⟨a_q, b_q, c_q, h_q, g_q⟩ => ∃ S P k : Nat, k ≤ m ∧ nI S = a_q ∧ nI P = b_q ∧ nI k = c_q ∧ h = h_q ∧ g = g_q ∧ S < 2 ^ 24 ∧ P < 2 ^ 24 ∧ (∀ a, S.testBit a = true → a < m) ∧ (∀ a, (B p).testBit a = true → S.testBit a = true) ∧ (∀ T, CLo B p T → ∀ a, S.testBit a = true → T.testBit a = true) ∧ (∀ a, P.testBit a = true → S.testBit a = true) ∧ (∀ o a, P.testBit o = true → (B o).testBit a = true → S.testBit a = true) ∧ k ≤ pcn P m) (fun ⟨_, _, c_q, _, _⟩ => dif (nI m) c_q) ?_ _ ⟨B p, 0, 0, by omega, rfl, nI_0, nI_0, rfl, rfl, (R.1 p hp).1, by decide, fun a ha => (R.2 a p ha).1, fun _ ha => ha, fun T hT a ha => hT.1 a ha, fun a ha => absurd ha (by rw [Nat.zero_testBit]; decide), fun o a ha => absurd ha (by rw [Nat.zero_testBit]; decide), Nat.zero_le _⟩
  rintro ⟨y2, y3, y4, h1, g1⟩ K ⟨S, P, k, hk, rfl, rfl, rfl, rfl, rfl, S24, P24, Sm, Sp, Sl, PS, PB, kP⟩ hK
  unfold F_X1_reached_18; dsimp only; unfold b_X1_reached_18
  refine c_i p_rows ?_
  rintro _ _ _ ⟨rfl, rfl, rfl⟩
  rw [T.2.2.1]
  have fin : S = P → ∃ S', S' < 2 ^ 24 ∧ nI S = nI S' ∧ LCl B p S' := fun e => by
    subst e
    exact ⟨S, S24, rfl, ⟨Sp, PB⟩, Sl⟩
  refine ⟨fun c => ⟨rfl, rfl, fin ?_⟩, fun c => ⟨fun e => ⟨rfl, rfl, fin ((nI_eq (by omega) (by omega)).mp e)⟩, fun e => ?_⟩⟩
  · rw [nI_leI (by omega) (by omega)] at c
    have full := pcn_full (S := P) (n := m) (by omega)
    apply Nat.eq_of_testBit_eq
    intro i
    cases e : P.testBit i
    · cases e' : S.testBit i
      · rfl
      · exact absurd (full i (Sm i e')) (by rw [e]; decide)
    · exact PS i e
  · have hd := dif_lt c
    rw [nI_leI (by omega) (by omega)] at c
    have ne : S ≠ P := fun q => e (by rw [q])
    have grow : k + 1 ≤ pcn S m := by
      obtain ⟨i, hi⟩ := Nat.exists_testBit_ne_of_ne ne
      have iS : S.testBit i = true := by
        cases a : S.testBit i
        · cases b : P.testBit i
          · rw [a, b] at hi; exact absurd rfl hi
          · rw [PS i b] at a; exact absurd a (by decide)
        · rfl
      have := pcn_lt (S := P) (T := S) (n := m) PS ⟨i, Sm i iS, iS, fun q => hi (by rw [iS, q])⟩
      omega
    refine lpE_intro (fun ⟨a_q, b_q, c_q, d_q, h_q, g_q⟩ => ∃ N j : Nat, j ≤ m ∧ nI N = a_q ∧ nI S = b_q ∧ nI k = c_q ∧ nI j = d_q ∧ h = h_q ∧ g = g_q ∧ N < 2 ^ 24 ∧ (∀ a, N.testBit a = true → a < m) ∧ (∀ a, S.testBit a = true → N.testBit a = true) ∧ (∀ T, CLo B p T → ∀ a, N.testBit a = true → T.testBit a = true) ∧ (∀ o a, o < j → S.testBit o = true → (B o).testBit a = true → N.testBit a = true)) (fun ⟨_, _, _, d_q, _, _⟩ => dif (nI m) d_q) ?_ _ ⟨S, 0, by omega, rfl, rfl, rfl, nI_0, rfl, rfl, S24, Sm, fun _ ha => ha, Sl, fun o a ho => by omega⟩
    rintro ⟨z2, z3, z4, z5, h2, g2⟩ K2 ⟨N, j, hj, rfl, rfl, rfl, rfl, rfl, rfl, N24, Nm, SN, Nl, NB⟩ hK2
    unfold F_X1_reached_43; dsimp only; unfold b_X1_reached_43
    refine c_i p_rows ?_
    rintro _ _ _ ⟨rfl, rfl, rfl⟩
    rw [T.2.2.1]
    refine ⟨fun c2 => ?_, fun c2 => ?_⟩
    · rw [nI_leI (by omega) (by omega)] at c2
      rintro _ rfl
      exact hK _ ⟨N, S, k + 1, by omega, rfl, rfl, (nI_1 k).symm, rfl, rfl, N24, S24, Nm, fun a ha => SN a (Sp a ha), Nl, SN, fun o a ho ha => NB o a (by have := Sm o ho; omega) ho ha, grow⟩ hd
    · have hd2 := dif_lt c2
      rw [nI_leI (by omega) (by omega)] at c2
      refine ⟨fun cb => ?_, fun cb => ?_⟩
      · unfold j_X1_reached_84
        rintro _ rfl
        refine hK2 _ ⟨N, j + 1, by omega, rfl, rfl, rfl, (nI_1 j).symm, rfl, rfl, N24, Nm, SN, Nl, fun o a ho hS ha => ?_⟩ hd2
        by_cases eo : o = j
        · subst eo
          exact absurd ((bit_n (by omega) (by omega)).mpr (SN o hS)) cb
        · exact NB o a (by omega) hS ha
      · have Nj : N.testBit j = true := (bit_n (by omega) (by omega)).mp cb
        refine c_i (p_atT T) ?_
        rintro _ _ _ ⟨rfl, rfl, rfl⟩
        rw [ta j (by omega), nI_or]
        rintro _ rfl
        unfold j_X1_reached_84
        rintro _ rfl
        refine hK2 _ ⟨N ||| B j, j + 1, by omega, rfl, rfl, rfl, (nI_1 j).symm, rfl, rfl, or24 N24 (R.1 j (by omega)).1, fun a ha => ?_, fun a ha => ?_, fun T hT a ha => ?_, fun o a ho hS ha => ?_⟩ hd2
        · rw [Nat.testBit_or, Bool.or_eq_true] at ha
          exact ha.elim (Nm a) (fun q => (R.2 a j q).1)
        · rw [Nat.testBit_or, SN a ha, Bool.true_or]
        · rw [Nat.testBit_or, Bool.or_eq_true] at ha
          exact ha.elim (Nl T hT a) (fun q => hT.2 j a (Nl T hT j Nj) q)
        · rw [Nat.testBit_or, Bool.or_eq_true]
          by_cases eo : o = j
          · subst eo; exact .inr ha
          · exact .inl (NB o a (by omega) hS ha)
/-- on whom a part bears, as the reference keeps it -/
def BRr (f : Nat → Int32) (m : Nat) (B : Nat → Nat) : Prop := ∃ rN : Nat → Nat, (∀ p, p < m → rN p < 2 ^ 24 ∧ f (20 + 5 * p + 4) = nI (rN p)) ∧ (∀ a b, (B b).testBit a = (rN a).testBit b) ∧ ∀ a b, (B b).testBit a = true → a < m ∧ b < m
theorem CP.br {h : HI} {f : Nat → Int32} {m : Nat} (c : CP h 1 f m) : ∃ B, BRc h m B ∧ BRr f m B := by
  obtain ⟨-, cN, rN, d2, d3, d4⟩ := c
  have bm : ∀ a b, (cN b).testBit a = true → a < m ∧ b < m := fun a b hab => by
    refine ⟨?_, ?_⟩
    · by_cases q : a < m
      · exact q
      · rw [d4 a b, (d3 a (by omega)).2, Nat.zero_testBit] at hab
        exact absurd hab (by decide)
    · by_cases q : b < m
      · exact q
      · rw [(d3 b (by omega)).1, Nat.zero_testBit] at hab
        exact absurd hab (by decide)
  exact ⟨cN, ⟨fun p hp => ⟨(d2 p hp).1, (d2 p hp).2.2.1⟩, bm⟩, rN, fun p hp => ⟨(d2 p hp).2.1, by rw [show 20 + 5 * p + 4 = 20 + (p * 5 + 4) by omega]; exact (d2 p hp).2.2.2⟩, d4, bm⟩
theorem nI_z {n : Nat} (h : n < 2 ^ 31) : nI n = 0 ↔ n = 0 := by
  have := nI_eq (a := n) (b := 0) h (by omega)
  rwa [nI_0] at this
theorem cn24 {n : Nat} (h : n < 2 ^ 24) : (nI n).toNatClampNeg = n := nI_clamp (by omega)
theorem q_X11_alongOf {h : HI} {g : HL} (hR : RI (h 136)) {m : Nat} (em : h 136 0 = nI m) (hm : m ≤ 24) {B : Nat → Nat} (R : BRr (h 136) m B) {p : Nat} (hp : p < m) : w_X11_alongOf (nI p) h g (fun r h' g' => h = h' ∧ g = g' ∧ ∃ S, S < 2 ^ 24 ∧ r = nI S ∧ LCl B p S) := by
  obtain ⟨rN, R1, R2, R3⟩ := R
  have v0 : vp_in (0 : Int32) 887 := vp_in_iff.mpr (by decide)
  unfold w_X11_alongOf
  refine lpE_intro (fun ⟨a_q, b_q, c_q, h_q, g_q⟩ => ∃ S : Nat, nI p = a_q ∧ nI S = b_q ∧ h = h_q ∧ g = g_q ∧ S < 2 ^ 24 ∧ (∀ a, S.testBit a = true → a < m) ∧ (∀ T, CLo B p T → ∀ a, S.testBit a = true → T.testBit a = true) ∧ (c_q = 0 → CLo B p S)) (fun ⟨_, b_q, c_q, _, _⟩ => 2 * (24 - pcn b_q.toNatClampNeg 24) + (if c_q = 0 then 0 else 1)) ?_ _ ⟨0, rfl, nI_0, rfl, rfl, by decide, fun a ha => absurd ha (by rw [Nat.zero_testBit]; decide), fun T hT a ha => absurd ha (by rw [Nat.zero_testBit]; decide), fun c => absurd c (by decide)⟩
  rintro ⟨y1, y2, y3, h1, g1⟩ K ⟨S, rfl, rfl, rfl, rfl, S24, Sm, Sl, Sc⟩ hK
  unfold F_X11_alongOf_4; dsimp only; unfold b_X11_alongOf_4
  refine ⟨fun c => ⟨rfl, rfl, S, S24, rfl, Sc c, Sl⟩, fun c => ?_⟩
  have P24 : S ||| 2 ^ p < 2 ^ 24 := or24 S24 (p2_24 (by omega))
  refine lpE_intro (fun ⟨a_q, b_q, c_q, d_q, h_q, g_q⟩ => ∃ N j : Nat, j ≤ m ∧ nI p = a_q ∧ nI S = b_q ∧ nI N = c_q ∧ nI j = d_q ∧ h = h_q ∧ g = g_q ∧ N < 2 ^ 24 ∧ (∀ a, N.testBit a = true → a < m) ∧ (∀ a, S.testBit a = true → N.testBit a = true) ∧ (∀ T, CLo B p T → ∀ a, N.testBit a = true → T.testBit a = true) ∧ (∀ o a, a < j → (S.testBit o = true ∨ o = p) → (B o).testBit a = true → N.testBit a = true)) (fun ⟨_, _, _, d_q, _, _⟩ => dif (nI m) d_q) ?_ _ ⟨S, 0, by omega, rfl, rfl, rfl, nI_0, rfl, rfl, S24, Sm, fun _ ha => ha, Sl, fun o a ha => by omega⟩
  rintro ⟨z1, z2, z4, z5, h2, g2⟩ K2 ⟨N, j, hj, rfl, rfl, rfl, rfl, rfl, rfl, N24, Nm, SN, Nl, NB⟩ hK2
  unfold F_X11_alongOf_14; dsimp only; unfold b_X11_alongOf_14
  rw [cl0, em]
  refine and_have v0 (fun _ => ⟨fun c2 => ?_, fun c2 => ?_⟩)
  · rw [nI_leI (by omega) (by omega)] at c2
    have cl : N = S → CLo B p S := fun e => by
      refine ⟨fun a ha => ?_, fun o a ho ha => ?_⟩
      · rw [← e]; exact NB p a (by have := (R3 a p ha).1; omega) (.inr rfl) ha
      · rw [← e]; exact NB o a (by have := (R3 a o ha).1; omega) (.inl ho) ha
    unfold j_X11_alongOf_71
    refine ⟨fun e => ?_, fun e => ?_⟩
    · have eN : N = S := (nI_eq (by omega) (by omega)).mp e
      refine hK _ ⟨N, rfl, rfl, rfl, rfl, N24, Nm, Nl, fun _ => by rw [eN]; exact cl eN⟩ ?_
      dsimp only
      rw [eN, if_pos rfl, if_neg c]; omega
    · refine hK _ ⟨N, rfl, rfl, rfl, rfl, N24, Nm, Nl, fun q => absurd q (by decide)⟩ ?_
      dsimp only
      rw [if_neg (by decide), if_neg c, cn24 N24, cn24 S24]
      have ne : N ≠ S := fun q => e (by rw [q])
      obtain ⟨i, hi⟩ := Nat.exists_testBit_ne_of_ne ne
      have iN : N.testBit i = true := by
        cases a : N.testBit i
        · cases b : S.testBit i
          · rw [a, b] at hi; exact absurd rfl hi
          · rw [SN i b] at a; exact absurd a (by decide)
        · rfl
      have h1 := pcn_lt (S := S) (T := N) (n := 24) SN ⟨i, by have := Nm i iN; omega, iN, fun q => hi (by rw [iN, q])⟩
      have h2 := pcn_le (S := N) (n := 24)
      omega
  · have hd2 := dif_lt c2
    rw [nI_leI (by omega) (by omega)] at c2
    refine c_i (p_X11_partOf hR (bd_of (by omega) (by omega) (by omega)) ((bd_lit (n := 4) (by decide)).mo (by decide) (by decide))) ?_
    rintro _ _ _ ⟨rfl, rfl, rfl⟩
    rw [show ((20 : Int32) + ((5 : Int32) * nI j)) + (4 : Int32) = nI (20 + 5 * j + 4) from ix3 20 5 j 4, nI_clamp (n := 20 + 5 * j + 4) (by omega), (R1 j (by omega)).2, sh_t p (by omega), sh_t j (by omega), nI_or, nI_and]
    have j51 : ∀ M : Nat, M < 2 ^ 24 → (∀ a, M.testBit a = true → a = j) → (∀ o, (S.testBit o = true ∨ o = p) → (B o).testBit j = true → M.testBit j = true) → (M.testBit j = true → ∃ o, (S.testBit o = true ∨ o = p) ∧ (B o).testBit j = true) → j_X11_alongOf_51 (fun r h' g' => h = h' ∧ g = g' ∧ ∃ S, S < 2 ^ 24 ∧ r = nI S ∧ LCl B p S) (fun x1 x2 x3 h g => K (x1, x2, x3, h, g)) (fun x1 x2 x4 x5 h g => K2 (x1, x2, x4, x5, h, g)) (nI p) (nI S) (nI j) (nI N) (nI M) h g := by
      intro M M24 Mj Mi Mo
      unfold j_X11_alongOf_51
      rw [nI_or]
      rintro _ rfl
      rintro _ rfl
      refine hK2 _ ⟨N ||| M, j + 1, by omega, rfl, rfl, rfl, (nI_1 j).symm, rfl, rfl, or24 N24 M24, fun a ha => ?_, fun a ha => ?_, fun T hT a ha => ?_, fun o a ha hS hB => ?_⟩ hd2
      · rw [Nat.testBit_or, Bool.or_eq_true] at ha
        exact ha.elim (Nm a) (fun q => by rw [Mj a q]; omega)
      · rw [Nat.testBit_or, SN a ha, Bool.true_or]
      · rw [Nat.testBit_or, Bool.or_eq_true] at ha
        refine ha.elim (Nl T hT a) (fun q => ?_)
        have ea := Mj a q
        subst ea
        obtain ⟨o, ho, hB⟩ := Mo q
        rcases ho with ho | ho
        · exact hT.2 o a (Sl T hT o ho) hB
        · subst ho; exact hT.1 a hB
      · rw [Nat.testBit_or, Bool.or_eq_true]
        by_cases ea : a = j
        · subst ea; exact .inr (Mi o hS hB)
        · exact .inl (NB o a (by omega) hS hB)
    have e24 : rN j &&& (S ||| 2 ^ p) < 2 ^ 31 := Nat.lt_of_le_of_lt Nat.and_le_left (by have := (R1 j (by omega)).1; omega)
    have mem : ∀ o, (S ||| 2 ^ p).testBit o = true ↔ (S.testBit o = true ∨ o = p) := fun o => by
      rw [Nat.testBit_or, Bool.or_eq_true, Nat.testBit_two_pow, decide_eq_true_iff]
      exact ⟨fun q => q.elim .inl (fun e => .inr e.symm), fun q => q.elim .inl (fun e => .inr e.symm)⟩
    refine ⟨fun cz => ?_, fun cz => ?_⟩
    · rw [nI_z e24] at cz
      refine j51 0 (by decide) (fun a ha => absurd ha (by rw [Nat.zero_testBit]; decide)) (fun o hS hB => ?_) (fun q => absurd q (by rw [Nat.zero_testBit]; decide))
      exfalso
      have h1 : (rN j &&& (S ||| 2 ^ p)).testBit o = true := by
        rw [Nat.testBit_and, (mem o).mpr hS, ← R2 j o, hB]; rfl
      rw [cz, Nat.zero_testBit] at h1
      exact absurd h1 (by decide)
    · rw [nI_z e24] at cz
      refine j51 (2 ^ j) (p2_24 (by omega)) (fun a ha => ?_) (fun o hS hB => Nat.testBit_two_pow_self) (fun _ => ?_)
      · rw [Nat.testBit_two_pow, decide_eq_true_iff] at ha; exact ha.symm
      · obtain ⟨o, ho⟩ := Nat.exists_testBit_of_ne_zero cz
        rw [Nat.testBit_and, Bool.and_eq_true] at ho
        exact ⟨o, (mem o).mp ho.2, by rw [R2 j o]; exact ho.1⟩
theorem q_X10_along {h : HI} {g : HL} {m : Nat} (T : TT h 2 m 5 24) {B : Nat → Nat} (R : BRc h m B) {x1 : Int32} : w_X10_along x1 h g (fun r h' g' => h = h' ∧ g = g' ∧ ((¬ isRow (nI m) x1 ∧ r = -2) ∨ ∃ p S, p < m ∧ x1 = nI p ∧ r = nI S ∧ LCl B p S)) := by
  have hm := T.2.2.2.1
  unfold w_X10_along
  refine c_hb (fun q0 => ?_) (fun q0 => ⟨fun c => absurd rfl c, fun _ => ⟨rfl, rfl, .inl ⟨by rw [T.2.2.1] at q0; exact q0, rfl⟩⟩⟩)
  obtain ⟨p, hp, rfl⟩ := row_n q0 T.2.2.1 (by omega)
  refine ⟨fun _ => ?_, fun c => absI c⟩
  refine c_i (q_X1_reached T R hp) ?_
  rintro _ _ _ ⟨rfl, rfl, S, S24, rfl, L⟩
  exact ⟨rfl, rfl, .inr ⟨p, S, hp, rfl, rfl, L⟩⟩
theorem q_X11_along {h : HI} {g : HL} (hR : RI (h 136)) {m : Nat} (em : h 136 0 = nI m) (hm : m ≤ 24) {B : Nat → Nat} (R : BRr (h 136) m B) {x1 : Int32} : w_X11_along x1 h g (fun r h' g' => h = h' ∧ g = g' ∧ ((¬ isRow (nI m) x1 ∧ r = -2) ∨ ∃ p S, p < m ∧ x1 = nI p ∧ r = nI S ∧ LCl B p S)) := by
  unfold w_X11_along
  refine c_is (vp_in_iff.mpr (by decide)) hR.c0 (by decide) (fun q q1 => ⟨fun c => absI c, fun _ => ?_⟩) (fun q => ⟨fun _ => ⟨rfl, rfl, .inl ⟨by rw [cl0, em] at q; exact isRow_n q, rfl⟩⟩, fun c => absN c⟩)
  rw [cl0, em] at q1
  obtain ⟨p, hp, rfl⟩ := row_n (isRow_r q q1) rfl (by omega)
  refine c_i (q_X11_alongOf hR em hm R hp) ?_
  rintro _ _ _ ⟨rfl, rfl, S, S24, rfl, L⟩
  exact ⟨rfl, rfl, .inr ⟨p, S, hp, rfl, rfl, L⟩⟩
theorem along_st {m : Nat} {B : Nat → Nat} {r s x1 : Int32} (hm : m ≤ 24) (a : (¬ isRow (nI m) x1 ∧ r = -2) ∨ ∃ p S, p < m ∧ x1 = nI p ∧ r = nI S ∧ LCl B p S) (b : (¬ isRow (nI m) x1 ∧ s = -2) ∨ ∃ p S, p < m ∧ x1 = nI p ∧ s = nI S ∧ LCl B p S) : r = s := by
  rcases a with ⟨a1, rfl⟩ | ⟨p, S, hp, rfl, rfl, L⟩
  · rcases b with ⟨-, rfl⟩ | ⟨p, S, hp, rfl, -⟩
    · rfl
    · exact absurd (row_of hp (by omega)) a1
  · rcases b with ⟨b1, -⟩ | ⟨p', S', hp', e, rfl, L'⟩
    · exact absurd (row_of hp (by omega)) b1
    · have : p = p' := (nI_eq (by omega) (by omega)).mp e
      subst this
      rw [L.un L']
