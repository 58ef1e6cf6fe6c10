/-! WAY: look, find, the class's answer -/
def LKO (h h' : HI) (x x2 : Int32) : Prop := (x = -1 ∧ h' = h) ∨ ∃ k, k < 2 ^ 31 ∧ x = nI k ∧ ((¬ h 89 5 = -1 ∧ ¬ nI (k / 32768) < h 89 5 ∧ h' = h) ∨ ((h 89 5 = -1 ∨ nI (k / 32768) < h 89 5) ∧ h' 89 5 = nI (k / 32768) ∧ h' 89 4 = nI (k % 32768) ∧ h' 89 6 = x2))
theorem q_X9_look {h : HI} {g : HL} {a lo hi : Nat} {P : Nat → Nat → Prop} {x2 : Int32} (ha : a < 2) (A : WA h a P) (hl : 1 ≤ lo ∧ lo ≤ hi ∧ hi ≤ 3000) : w_X9_look (nI a) x2 (nI lo) (nI hi) h g (fun h' _ => JJ (SO 89) h h' ∧ ∃ x, LsA (fun k => ∃ t, lo ≤ t ∧ t ≤ hi ∧ P t k) x ∧ LKO h h' x x2) := by
  unfold w_X9_look
  have va : vp_in (nI a) 2 := vp_in_nI ha (by omega)
  refine c_wb (fun _ => ⟨fun _ => ?_, fun c => absI c⟩) (fun n => absurd (w01 ha) n)
  obtain ⟨m, r, a1, a2, a3, a4, a5⟩ := A
  have fin : ∀ (x : Int32) (g1 : HL), LsA (fun k => ∃ j, j < m ∧ (lo ≤ r j ∧ r j ≤ hi) ∧ k < 2 ^ 31 ∧ h (91 + a) (r j) = nI k) x → j_X9_look_104 (fun h' _ => JJ (SO 89) h h' ∧ ∃ x, LsA (fun k => ∃ t, lo ≤ t ∧ t ≤ hi ∧ P t k) x ∧ LKO h h' x x2) x2 x h g1 := by
    intro x g1 L
    have L2 : LsA (fun k => ∃ t, lo ≤ t ∧ t ≤ hi ∧ P t k) x := by
      refine L.dom (fun k => ?_) (fun k => ?_)
      · rintro ⟨j, hj, ⟨j1, j2⟩, hk, e⟩
        obtain ⟨b1, b2⟩ := a5 (r j) (by omega) (by omega)
        rcases b1 with ⟨e1, -⟩ | ⟨k0, k1, e1, k2, -⟩
        · exact absurd (e.symm.trans e1) (nI_nm hk)
        · have : k = k0 := (nI_eq hk k1).mp (e.symm.trans e1)
          subst this
          exact ⟨r j, j1, j2, k2⟩
      · rintro ⟨t, t1, t2, p⟩
        obtain ⟨b1, b2⟩ := a5 t (by omega) (by omega)
        obtain ⟨j, hj, ej⟩ := b2.mpr (b1.nm.mpr ⟨k, p⟩)
        rcases b1 with ⟨e1, n⟩ | ⟨k0, k1, e1, k2, k3⟩
        · exact absurd p (n k)
        · exact ⟨k0, ⟨j, hj, by omega, k1, by rw [ej]; exact e1⟩, k3 k p⟩
    unfold j_X9_look_104
    rcases L2 with ⟨e, n⟩ | ⟨k, k1, e, k2, k3⟩
    · refine ⟨fun _ => ⟨JJ.rf, x, .inl ⟨e, n⟩, .inl ⟨e, rfl⟩⟩, fun c => absurd e c⟩
    · subst e
      have L3 : LsA (fun k => ∃ t, lo ≤ t ∧ t ≤ hi ∧ P t k) (nI k) := .inr ⟨k, k1, rfl, k2, k3⟩
      refine ⟨fun c => absurd c (nI_nm k1), fun _ => ?_⟩
      rw [show nI k / (32768 : Int32) = nI (k / 32768) from pk_div k1 (by decide) (by decide)]
      have set : (h 89 5 = -1 ∨ nI (k / 32768) < h 89 5) → j_X9_look_131 (fun h' _ => JJ (SO 89) h h' ∧ ∃ x, LsA (fun k => ∃ t, lo ≤ t ∧ t ≤ hi ∧ P t k) x ∧ LKO h h' x x2) x2 (nI k) h g1 := by
        intro c
        unfold j_X9_look_131
        intro h1 e1 h2 e2 h3 e3
        rw [show nI k / (32768 : Int32) = nI (k / 32768) from pk_div k1 (by decide) (by decide)] at e1
        rw [show nI k - nI k / (32768 : Int32) * (32768 : Int32) = nI (k % 32768) from pk_rem k1 (by decide) (by decide)] at e2
        have f : h3 89 = upd (upd (upd (h 89) 5 (nI (k / 32768))) 4 (nI (k % 32768))) 6 x2 := by rw [e3, hu_eq, e2, hu_eq, e1, hu_eq]
        refine ⟨(((JJ.rf (S := SO 89)).hu e1 rfl).hu e2 rfl).hu e3 rfl, nI k, L3, .inr ⟨k, k1, rfl, .inr ⟨c, ?_, ?_, ?_⟩⟩⟩
        · rw [f, pk_un (by decide), pk_un (by decide), pk_us]
        · rw [f, pk_un (by decide), pk_us]
        · rw [f, pk_us]
      exact ⟨fun c => set (.inl c), fun c => ⟨fun d => set (.inr d), fun d => ⟨JJ.rf, nI k, L3, .inr ⟨k, k1, rfl, .inl ⟨c, d, rfl⟩⟩⟩⟩⟩
  refine lpE_intro (fun ⟨a_q, b_q, c_q, d_q, e_q, f_q, h_q, _⟩ => ∃ i : Nat, i ≤ m ∧ nI a = a_q ∧ x2 = b_q ∧ nI lo = c_q ∧ nI hi = d_q ∧ nI i = f_q ∧ h = h_q ∧ LsA (fun k => ∃ j, j < i ∧ (lo ≤ r j ∧ r j ≤ hi) ∧ k < 2 ^ 31 ∧ h (91 + a) (r j) = nI k) e_q) (fun ⟨_, _, _, _, _, f_q, _, _⟩ => dif (nI m) f_q) ?_ _ ⟨0, by omega, rfl, rfl, rfl, rfl, nI_0, rfl, .inl ⟨rfl, fun k ⟨j, hj, _⟩ => absurd hj (Nat.not_lt_zero j)⟩⟩
  rintro ⟨y1, y2, y3, y4, x, y6, h1, g1⟩ K ⟨i, hi', rfl, rfl, rfl, rfl, rfl, rfl, L⟩ hK
  unfold F_X9_look_16; dsimp only; unfold b_X9_look_16
  rw [nI_clamp (n := a) (by omega), a1]
  refine and_have va (fun _ => ⟨fun c => ?_, fun c => ⟨fun d => ?_, fun d => ?_⟩⟩)
  · rw [nI_leI (by omega) (by omega)] at c
    have : i = m := by omega
    subst this; exact fin x g1 L
  · rw [show (3000 : Int32) = nI 3000 from rfl, nI_leI (by omega) (by omega)] at d
    have : i = m := by omega
    subst this; exact fin x g1 L
  have hd := dif_lt c
  rw [nI_leI (by omega) (by omega)] at c
  rw [nI_clamp (n := i) (by omega)]
  refine and_have va (fun _ => and_have (vp_in_nI (by omega) (by omega)) (fun _ => ?_))
  rintro _ rfl
  obtain ⟨r1, r2, r3⟩ := a3 i (by omega)
  rw [r3, show (1 : Int32) = nI 1 from rfl, show (3000 : Int32) = nI 3000 from rfl, if_neg (by rw [nI_ltI (by omega) (by omega)]; omega), if_neg (by rw [nI_ltI (by omega) (by omega)]; omega)]
  have stay : ∀ g2 : HL, LsA (fun k => ∃ j, j < i + 1 ∧ (lo ≤ r j ∧ r j ≤ hi) ∧ k < 2 ^ 31 ∧ h (91 + a) (r j) = nI k) x → j_X9_look_98 (fun h' _ => JJ (SO 89) h h' ∧ ∃ x, LsA (fun k => ∃ t, lo ≤ t ∧ t ≤ hi ∧ P t k) x ∧ LKO h h' x x2) (fun x1 x2 x3 x4 x5 x6 h g => K (x1, x2, x3, x4, x5, x6, h, g)) (nI a) x2 (nI lo) (nI hi) x (nI i) h g2 := by
    intro g2 L2
    unfold j_X9_look_98
    rintro _ rfl
    exact hK _ ⟨i + 1, by omega, rfl, rfl, rfl, rfl, (nI_1 i).symm, rfl, L2⟩ hd
  refine c_wb (fun q => ⟨fun _ => ?_, fun c => absI c⟩) (fun q => ⟨fun c => absurd rfl c, fun _ => stay _ (L.cg (fun k => ⟨fun ⟨j, hj, y⟩ => ⟨j, by omega, y⟩, fun ⟨j, hj, y⟩ => ⟨j, ?_, y⟩⟩))⟩)
  · rw [nI_toInt (by omega), nI_toInt (by omega)] at q
    unfold bd at q
    rw [nI_toInt (by omega)] at q
    have q : lo ≤ r i ∧ r i ≤ hi := by omega
    rw [nI_clamp (n := r i) (by omega)]
    refine and_have va (fun _ => and_have (vp_in_nI (by omega) (by omega)) (fun _ => ?_))
    rintro _ rfl
    obtain ⟨b1, b2⟩ := a5 (r i) r1 r2
    obtain ⟨k, k1, ek⟩ : ∃ k, k < 2 ^ 31 ∧ h (91 + a) (r i) = nI k := by
      rcases b1 with ⟨e, -⟩ | ⟨k, k1, e, -⟩
      · exact absurd e (b2.mp ⟨i, by omega, rfl⟩)
      · exact ⟨k, k1, e⟩
    rw [ek]
    have ad : ∀ z, LsA (fun q => (∃ j, j < i ∧ (lo ≤ r j ∧ r j ≤ hi) ∧ q < 2 ^ 31 ∧ h (91 + a) (r j) = nI q) ∨ q = k) z → LsA (fun k => ∃ j, j < i + 1 ∧ (lo ≤ r j ∧ r j ≤ hi) ∧ k < 2 ^ 31 ∧ h (91 + a) (r j) = nI k) z := fun z L2 => L2.cg (fun k' => ⟨fun y => ?_, fun ⟨j, hj, y⟩ => ?_⟩)
    · have new : ∀ g2 : HL, LsA (fun q => (∃ j, j < i ∧ (lo ≤ r j ∧ r j ≤ hi) ∧ q < 2 ^ 31 ∧ h (91 + a) (r j) = nI q) ∨ q = k) (nI k) → j_X9_look_94 (fun h' _ => JJ (SO 89) h h' ∧ ∃ x, LsA (fun k => ∃ t, lo ≤ t ∧ t ≤ hi ∧ P t k) x ∧ LKO h h' x x2) (fun x1 x2 x3 x4 x5 x6 h g => K (x1, x2, x3, x4, x5, x6, h, g)) (nI a) x2 (nI lo) (nI hi) (nI i) (nI k) h g2 := by
        intro g2 L2
        unfold j_X9_look_94 j_X9_look_98
        rintro _ rfl
        exact hK _ ⟨i + 1, by omega, rfl, rfl, rfl, rfl, (nI_1 i).symm, rfl, ad _ L2⟩ hd
      exact ⟨fun c => new _ (L.new k1 c), fun c => ⟨fun d => stay _ (ad _ (L.keep k1 c d)), fun d => new _ (L.less k1 c d)⟩⟩
    · rcases y with ⟨j, hj, y⟩ | y
      · exact ⟨j, by omega, y⟩
      · exact ⟨i, by omega, q, by omega, by rw [y]; exact ek⟩
    · by_cases e : j = i
      · subst e
        exact .inr ((nI_eq y.2.1 k1).mp (y.2.2.symm.trans ek))
      · exact .inl ⟨j, by omega, y⟩
  · have : j ≠ i := fun e => by
      subst e
      refine q ?_
      unfold bd
      rw [nI_toInt (by omega), nI_toInt (by omega), nI_toInt (by omega)]; omega
    omega
def WV (h : HI) : Prop := WA h 0 (fun _ _ => False) ∧ WA h 1 (fun _ _ => False)
theorem WV.cg {h h' : HI} (v : WV h) (e : ∀ q, 90 ≤ q → q ≤ 96 → h' q = h q) : WV h' :=
  ⟨v.1.cg (e 91 (by omega) (by omega)) (e 94 (by omega) (by omega)) (by rw [e 96 (by omega) (by omega)]), v.2.cg (e 92 (by omega) (by omega)) (e 95 (by omega) (by omega)) (by rw [e 96 (by omega) (by omega)])⟩
theorem WV.at {h : HI} (v : WV h) : ∀ {a : Nat}, a < 2 → WA h a (fun _ _ => False)
  | 0, _ => v.1
  | 1, _ => v.2
/-- keys of the rows of n works from s to lo .. hi -/
def RK (f : Nat → Int32) (W s lo hi n k : Nat) : Prop := ∃ t, lo ≤ t ∧ t ≤ hi ∧ PK f W s n t k
def BSP (f : Nat → Int32) (W s lo hi n : Nat) (p q r : Int32) : Prop := (p = -1 ∧ ∀ m k, m < n → ¬ RK f W s lo hi m k) ∨ ∃ n0 k, n0 < n ∧ k < 2 ^ 31 ∧ RK f W s lo hi n0 k ∧ p = nI (k / 32768) ∧ q = nI (k % 32768) ∧ r = nI n0 ∧ ∀ m j, m < n → RK f W s lo hi m j → k / 32768 < j / 32768 ∨ (k / 32768 = j / 32768 ∧ (n0 < m ∨ (n0 = m ∧ k % 32768 ≤ j % 32768)))
theorem BSP.next {f : Nat → Int32} {W s lo hi n : Nat} {h h' : HI} (b : BSP f W s lo hi n (h 89 5) (h 89 4) (h 89 6)) {x : Int32} (L : LsA (RK f W s lo hi n) x) (o : LKO h h' x (nI n)) : BSP f W s lo hi (n + 1) (h' 89 5) (h' 89 4) (h' 89 6) := by
  rcases L with ⟨e, nk⟩ | ⟨k, k1, e, k2, k3⟩
  · have eh : h' = h := by
      rcases o with ⟨-, y⟩ | ⟨k, k1, e2, -⟩
      · exact y
      · exact absurd (e2.symm.trans e) (nI_nm k1)
    rw [eh]
    rcases b with ⟨p, q⟩ | ⟨n0, k, n1, b0, b1, b2, b3, b4, b5⟩
    · refine .inl ⟨p, fun m j hm => ?_⟩
      by_cases c : m = n
      · subst c; exact nk j
      · exact q m j (by omega)
    · refine .inr ⟨n0, k, by omega, b0, b1, b2, b3, b4, fun m j hm rk => ?_⟩
      by_cases c : m = n
      · subst c; exact absurd rk (nk j)
      · exact b5 m j (by omega) rk
  · have o : (¬ h 89 5 = -1 ∧ ¬ nI (k / 32768) < h 89 5 ∧ h' = h) ∨ ((h 89 5 = -1 ∨ nI (k / 32768) < h 89 5) ∧ h' 89 5 = nI (k / 32768) ∧ h' 89 4 = nI (k % 32768) ∧ h' 89 6 = nI n) := by
      rcases o with ⟨y, -⟩ | ⟨k', k1', e2, o⟩
      · exact absurd (e.symm.trans y) (nI_nm k1)
      · have : k = k' := (nI_eq k1 k1').mp (e.symm.trans e2)
        subst this; exact o
    have ord : ∀ j, k ≤ j → k / 32768 < j / 32768 ∨ (k / 32768 = j / 32768 ∧ k % 32768 ≤ j % 32768) := fun j hj => by omega
    rcases b with ⟨p, q⟩ | ⟨n0, k0, n1, b0, b1, b2, b3, b4, b5⟩
    · rcases o with ⟨c, -, -⟩ | ⟨-, f5, f4, f6⟩
      · exact absurd p c
      · refine .inr ⟨n, k, by omega, k1, k2, f5, f4, f6, fun m j hm rk => ?_⟩
        by_cases c : m = n
        · subst c
          rcases ord j (k3 j rk) with d | d
          · exact .inl d
          · exact .inr ⟨d.1, .inr ⟨rfl, d.2⟩⟩
        · exact absurd rk (q m j (by omega))
    · rw [b2] at o
      rw [nI_ltI (by omega) (by omega)] at o
      rcases o with ⟨-, c, eh⟩ | ⟨c, f5, f4, f6⟩
      · rw [eh]
        refine .inr ⟨n0, k0, by omega, b0, b1, b2, b3, b4, fun m j hm rk => ?_⟩
        by_cases d : m = n
        · subst d
          have := k3 j rk
          by_cases q : k0 / 32768 < j / 32768
          · exact .inl q
          · exact .inr ⟨by omega, .inl n1⟩
        · exact b5 m j (by omega) rk
      · have c : k / 32768 < k0 / 32768 := c.elim (fun y => absurd y (nI_nm (by omega))) id
        refine .inr ⟨n, k, by omega, k1, k2, f5, f4, f6, fun m j hm rk => ?_⟩
        by_cases d : m = n
        · subst d
          rcases ord j (k3 j rk) with d | d
          · exact .inl d
          · exact .inr ⟨d.1, .inr ⟨rfl, d.2⟩⟩
        · have := b5 m j (by omega) rk
          exact .inl (by omega)
theorem q_X9_find {h : HI} {g : HL} {f : Nat → Int32} {W s lo hi : Nat} (v : VR f) (T : WT h f W) (hW : W ≤ 8) (V : WV h) (hs : 1 ≤ s ∧ s ≤ 3000) (hl : 1 ≤ lo ∧ lo ≤ hi ∧ hi ≤ 3000) : w_X9_find (nI s) (nI lo) (nI hi) h g (fun h' _ => JJ SWay h h' ∧ WV h' ∧ BSP f W s lo hi 6 (h' 89 5) (h' 89 4) (h' 89 6)) := by
  have sw : ∀ a, a < 2 → ∀ q, SA a q → SWay q := fun a ha q hq => by unfold SA at hq; unfold SWay; omega
  unfold w_X9_find
  intro h1 e1
  have J1 : JJ SWay h h1 := JJ.rf.hu e1 (by unfold SWay; omega)
  have f5 : h1 89 5 = -1 := by rw [e1, hu_eq, pk_us]
  have V1 : WV h1 := V.cg (fun q q1 q2 => by rw [e1, hu_ne (by omega)])
  refine c_v (q_X9_reach (a := 0) (k := 0) (by decide) (by decide) V1.1) ?_
  rintro h2 g2 ⟨J2, e2, A2⟩
  have f52 : h2 89 5 = -1 := by rw [J2 89 (by unfold SA; omega)]; exact f5
  refine lpE_intro (fun ⟨a_q, b_q, c_q, h_q, _⟩ => ∃ n : Nat, n ≤ 6 ∧ nI lo = a_q ∧ nI hi = b_q ∧ nI n = c_q ∧ JJ SWay h h_q ∧ WA h_q (n % 2) (fun t k => n ≤ 5 ∧ PK f W s n t k) ∧ WA h_q (1 - n % 2) (fun _ _ => False) ∧ BSP f W s lo hi n (h_q 89 5) (h_q 89 4) (h_q 89 6)) (fun ⟨_, _, c_q, _, _⟩ => dil (5 : Int32) c_q) ?_ _ ⟨0, by omega, rfl, rfl, nI_0, J1.tr (J2.mo (sw 0 (by decide))), A2.iff (fun t t1 t2 k => ?_), V1.2.cg (J2 92 (by unfold SA; omega)) (J2 95 (by unfold SA; omega)) (e2 1 (by decide)), .inl ⟨f52, fun m k hm => absurd hm (Nat.not_lt_zero m)⟩⟩
  · rintro ⟨y2, y3, y4, h3, g3⟩ K ⟨n, hn, rfl, rfl, rfl, J3, A3, B3, b3⟩ hK
    unfold F_X9_find_15; dsimp only; unfold b_X9_find_15
    refine ⟨fun c => ?_, fun c => ?_⟩
    · rw [show (5 : Int32) = nI 5 from rfl, nI_ltI (by omega) (by omega)] at c
      have : n = 6 := by omega
      subst this
      refine ⟨J3, ⟨A3.iff (fun t _ _ k => ⟨fun x => by omega, fun x => x.elim⟩), B3⟩, b3⟩
    have hd := dil_lt c (by decide)
    rw [show (5 : Int32) = nI 5 from rfl, nI_ltI (by omega) (by omega)] at c
    rw [show nI n &&& (1 : Int32) = nI (n % 2) by rw [show (1 : Int32) = nI 1 from rfl, nI_and, Nat.and_one_is_mod]]
    rintro _ rfl
    have ha : n % 2 < 2 := by omega
    have A3 : WA h3 (n % 2) (PK f W s n) := A3.iff (fun t _ _ k => ⟨fun x => x.2, fun x => ⟨by omega, x⟩⟩)
    refine c_v (q_X9_look ha A3 hl) ?_
    rintro h4 g4 ⟨J4, x, L, o⟩
    have b4 := b3.next L o
    have A4 : WA h4 (n % 2) (PK f W s n) := A3.cg (J4 _ (by unfold SO; omega)) (J4 _ (by unfold SO; omega)) (by rw [J4 96 (by unfold SO; omega)])
    have B4 : WA h4 (1 - n % 2) (fun _ _ => False) := B3.cg (J4 _ (by unfold SO; omega)) (J4 _ (by unfold SO; omega)) (by rw [J4 96 (by unfold SO; omega)])
    have J4' : JJ SWay h h4 := J3.tr (J4.mo (fun q hq => by unfold SO at hq; unfold SWay; omega))
    have nx : ∀ (h5 : HI) (g5 : HL), JJ SWay h h5 → WA h5 (n % 2) (PK f W s n) → WA h5 (1 - n % 2) (fun t k => n + 1 ≤ 5 ∧ PK f W s (n + 1) t k) → h5 89 = h4 89 → j_X9_find_49 (fun h' _ => JJ SWay h h' ∧ WV h' ∧ BSP f W s lo hi 6 (h' 89 5) (h' 89 4) (h' 89 6)) (fun x2 x3 x4 h g => K (x2, x3, x4, h, g)) (nI lo) (nI hi) (nI n) (nI (n % 2)) h5 g5 := by
      intro h5 g5 J5 A5 B5 e5
      unfold j_X9_find_49
      refine c_v (q_X9_forget ha A5) ?_
      rintro h6 g6 ⟨J6, e6, A6⟩
      rintro _ rfl
      have B6 : WA h6 (1 - n % 2) (fun t k => n + 1 ≤ 5 ∧ PK f W s (n + 1) t k) := B5.cg (J6 _ (by unfold SA; omega)) (J6 _ (by unfold SA; omega)) (e6 _ (by omega))
      have e89 : h6 89 = h4 89 := (J6 89 (by unfold SA; omega)).trans e5
      refine hK _ ⟨n + 1, by omega, rfl, rfl, (nI_1 n).symm, J5.tr (J6.mo (sw _ ha)), by rw [show (n + 1) % 2 = 1 - n % 2 by omega]; exact B6, by rw [show 1 - (n + 1) % 2 = n % 2 by omega]; exact A6, by rw [e89]; exact b4⟩ hd
    refine ⟨fun c5 => ?_, fun c5 => ?_⟩
    · rw [show (5 : Int32) = nI 5 from rfl, nI_leI (by omega) (by omega)] at c5
      exact nx h4 g4 J4' A4 (B4.iff (fun t _ _ k => ⟨fun x => x.elim, fun x => by omega⟩)) rfl
    · rw [show (5 : Int32) = nI 5 from rfl, nI_leI (by omega) (by omega)] at c5
      have T4 : WT h4 f W := T.jj J4' (fun q hq => by unfold SWay; omega)
      refine c_v (q_X9_spread v T4 hW hs (by omega) ha A4 B4) ?_
      rintro h5 g5 ⟨J5, e5, A5⟩
      exact nx h5 g5 (J4'.tr (J5.mo (sw _ (by omega)))) (A4.cg (J5 _ (by unfold SA; omega)) (J5 _ (by unfold SA; omega)) (e5 _ (by omega))) (A5.iff (fun t _ _ k => ⟨fun x => ⟨by omega, x⟩, fun x => x.2⟩)) (J5 89 (by unfold SA; omega))
  · constructor
    · rintro (x | ⟨e, rfl⟩)
      · exact x.elim
      · have : t = s := (nI_eq (by omega) (by omega)).mp e
        subst this
        exact ⟨by omega, [], rfl, rfl, rfl⟩
    · rintro ⟨-, l, el, rl, ek⟩
      have : l = [] := List.eq_nil_of_length_eq_zero el
      subst this
      have rl : s = t := rl
      subst rl
      exact .inr ⟨rfl, ek⟩
/-- what WAY answers -/
def RTW (f : Nat → Int32) (W s lo hi : Nat) (l : List Nat) : Prop := ∃ t, lo ≤ t ∧ t ≤ hi ∧ RWy f W l s t
def BTW (f : Nat → Int32) (W s lo hi : Nat) (l : List Nat) : Prop := l.length ≤ 5 ∧ RTW f W s lo hi l ∧ ∀ m : List Nat, m.length ≤ 5 → RTW f W s lo hi m → csW f l < csW f m ∨ (csW f l = csW f m ∧ (l.length < m.length ∨ (l.length = m.length ∧ cdW l ≤ cdW m)))
def pickW (f : Nat → Int32) (l : List Nat) (x r : Int32) : Prop := (x = -1 ∧ r = nI (csW f l)) ∨ (x = -2 ∧ r = nI l.length) ∨ ∃ i, i < 2 ^ 31 ∧ x = nI i ∧ r = if i < l.length then nI (l.getD i 0) else -1
def okW (x1 x2 x3 x4 : Int32) (s lo hi : Nat) : Prop := x1 = nI s ∧ x2 = nI lo ∧ x3 = nI hi ∧ 1 ≤ s ∧ s ≤ 3000 ∧ 1 ≤ lo ∧ lo ≤ hi ∧ hi ≤ 3000 ∧ -2 ≤ x4.toInt
def AWY (f : Nat → Int32) (W : Nat) (x1 x2 x3 x4 r : Int32) : Prop := ((∀ s lo hi, ¬ okW x1 x2 x3 x4 s lo hi) ∧ r = -10) ∨ ∃ s lo hi, okW x1 x2 x3 x4 s lo hi ∧ (((∀ l : List Nat, l.length ≤ 5 → ¬ RTW f W s lo hi l) ∧ r = -5) ∨ ∃ l, BTW f W s lo hi l ∧ pickW f l x4 r)
theorem BTW.un {f : Nat → Int32} {W s lo hi : Nat} (hW : W ≤ 8) {l m : List Nat} (a : BTW f W s lo hi l) (b : BTW f W s lo hi m) : l = m := by
  obtain ⟨a1, ⟨t, t1, t2, a2⟩, a3⟩ := a
  obtain ⟨b1, ⟨u, u1, u2, b2⟩, b3⟩ := b
  have h1 := a3 m b1 ⟨u, u1, u2, b2⟩
  have h2 := b3 l a1 ⟨t, t1, t2, a2⟩
  exact cdW_inj hW a2 b2 (by omega) (by omega)
theorem pickW.un {f : Nat → Int32} {l : List Nat} {x r s : Int32} (a : pickW f l x r) (b : pickW f l x s) : r = s := by
  rcases a with ⟨a1, a2⟩ | ⟨a1, a2⟩ | ⟨i, i1, a1, a2⟩
  · rcases b with ⟨b1, b2⟩ | ⟨b1, b2⟩ | ⟨j, j1, b1, b2⟩
    · rw [a2, b2]
    · exact absurd (a1.symm.trans b1) (by decide)
    · exact absurd (b1.symm.trans a1) (nI_nm j1)
  · rcases b with ⟨b1, b2⟩ | ⟨b1, b2⟩ | ⟨j, j1, b1, b2⟩
    · exact absurd (a1.symm.trans b1) (by decide)
    · rw [a2, b2]
    · exact absurd (congrArg Int32.toInt (b1.symm.trans a1)) (by rw [nI_toInt j1, show (-2 : Int32).toInt = -2 by decide]; omega)
  · rcases b with ⟨b1, b2⟩ | ⟨b1, b2⟩ | ⟨j, j1, b1, b2⟩
    · exact absurd (a1.symm.trans b1) (nI_nm i1)
    · exact absurd (congrArg Int32.toInt (a1.symm.trans b1)) (by rw [nI_toInt i1, show (-2 : Int32).toInt = -2 by decide]; omega)
    · have : i = j := (nI_eq i1 j1).mp (a1.symm.trans b1)
      subst this
      rw [a2, b2]
theorem AWY.un {f : Nat → Int32} {W : Nat} (hW : W ≤ 8) {x1 x2 x3 x4 r t : Int32} (a : AWY f W x1 x2 x3 x4 r) (b : AWY f W x1 x2 x3 x4 t) : r = t := by
  rcases a with ⟨a1, a2⟩ | ⟨s, lo, hi, ok, a⟩
  · rcases b with ⟨b1, b2⟩ | ⟨s, lo, hi, ok, b⟩
    · rw [a2, b2]
    · exact absurd ok (a1 s lo hi)
  · rcases b with ⟨b1, b2⟩ | ⟨s', lo', hi', ok', b⟩
    · exact absurd ok (b1 s lo hi)
    · unfold okW at ok ok'
      have e1 : s = s' := (nI_eq (by omega) (by omega)).mp (ok.1.symm.trans ok'.1)
      have e2 : lo = lo' := (nI_eq (by omega) (by omega)).mp (ok.2.1.symm.trans ok'.2.1)
      have e3 : hi = hi' := (nI_eq (by omega) (by omega)).mp (ok.2.2.1.symm.trans ok'.2.2.1)
      subst e1; subst e2; subst e3
      rcases a with ⟨a1, a2⟩ | ⟨l, a1, a2⟩
      · rcases b with ⟨b1, b2⟩ | ⟨m, b1, b2⟩
        · rw [a2, b2]
        · exact absurd b1.2.1 (a1 m b1.1)
      · rcases b with ⟨b1, b2⟩ | ⟨m, b1, b2⟩
        · exact absurd a1.2.1 (b1 l a1.1)
        · have := BTW.un hW a1 b1
          subst this
          exact a2.un b2
/-- what find leaves tells the least row -/
theorem BSP.row {f : Nat → Int32} {W s lo hi : Nat} (hW : W ≤ 8) (v : VR f) {p q r : Int32} (b : BSP f W s lo hi 6 p q r) : (p = -1 ∧ ∀ l : List Nat, l.length ≤ 5 → ¬ RTW f W s lo hi l) ∨ ∃ l, BTW f W s lo hi l ∧ p = nI (csW f l) ∧ q = nI (cdW l) ∧ r = nI l.length ∧ csW f l < 2 ^ 31 ∧ cdW l < 32768 := by
  have hp : ∀ w, w < W → pcW f w ≤ 1000 := fun w hw => (v.pc (by omega)).2
  have key : ∀ (l : List Nat) (t : Nat), l.length ≤ 5 → RWy f W l s t → (32768 * csW f l + cdW l) / 32768 = csW f l ∧ (32768 * csW f l + cdW l) % 32768 = cdW l ∧ csW f l ≤ 5000 ∧ cdW l < 32768 := fun l t hl rl => by
    have h1 := cdW_lt hW rl
    have h2 := csW_le hp rl
    have h3 : 8 ^ l.length ≤ 32768 := (by decide : ∀ n, n < 6 → 8 ^ n ≤ 32768) l.length (by omega)
    omega
  rcases b with ⟨e, n⟩ | ⟨n0, k, n1, k1, ⟨t, t1, t2, l, el, rl, ek⟩, e1, e2, e3, m⟩
  · exact .inl ⟨e, fun l hl ⟨t, t1, t2, rl⟩ => n l.length _ (by omega) ⟨t, t1, t2, l, rfl, rl, rfl⟩⟩
  · obtain ⟨c1, c2, c3, c4⟩ := key l t (by omega) rl
    rw [← ek] at c1 c2
    refine .inr ⟨l, ⟨by omega, ⟨t, t1, t2, rl⟩, fun l2 h2 ⟨u, u1, u2, r2⟩ => ?_⟩, by rw [e1, c1], by rw [e2, c2], by rw [e3, el], by omega, c4⟩
    obtain ⟨d1, d2, d3, d4⟩ := key l2 u h2 r2
    have := m l2.length _ (by omega) ⟨u, u1, u2, l2, rfl, r2, rfl⟩
    rw [d1, d2, c1, c2] at this
    omega
theorem nI_shr {a j : Nat} (ha : a < 2 ^ 31) (hj : j < 32) : nI a >>> (nI j &&& 31) = nI (a / 2 ^ j) := by
  have e : nI j &&& 31 = nI j := by
    rw [show (31 : Int32) = nI 31 from rfl, nI_and, show (31 : Nat) = 2 ^ 5 - 1 by decide, Nat.and_two_pow_sub_one_eq_mod, Nat.mod_eq_of_lt (by omega)]
  rw [e]
  refine Int32.toBitVec_inj.mp ?_
  rw [Int32.toBitVec_shiftRight]
  have ej : ((nI j).toBitVec.smod 32).toNat = j := by
    have : ∀ j, j < 32 → ((nI j).toBitVec.smod 32).toNat = j := by decide +kernel
    exact this j hj
  show (nI a).toBitVec.sshiftRight ((nI j).toBitVec.smod 32).toNat = _
  rw [ej]
  have ea : (nI a).toBitVec = BitVec.ofNat 32 a := rfl
  rw [ea, BitVec.sshiftRight_eq_of_msb_false (by
    rw [BitVec.msb_eq_decide, BitVec.toNat_ofNat, Nat.mod_eq_of_lt (by omega)]
    exact decide_eq_false (by omega))]
  show _ = BitVec.ofNat 32 (a / 2 ^ j)
  refine BitVec.eq_of_toNat_eq ?_
  rw [BitVec.toNat_ushiftRight, BitVec.toNat_ofNat, BitVec.toNat_ofNat, Nat.mod_eq_of_lt (by omega), Nat.shiftRight_eq_div_pow, Nat.mod_eq_of_lt (Nat.lt_of_le_of_lt (Nat.div_le_self a _) (by omega))]
theorem q_X9_stepAt {h : HI} {g : HL} {f : Nat → Int32} {W s t i : Nat} {l : List Nat} (hW : W ≤ 8) (hl : l.length ≤ 5) (r : RWy f W l s t) (e4 : h 89 4 = nI (cdW l)) (e6 : h 89 6 = nI l.length) (hc : cdW l < 32768) (hi : i < 2 ^ 31) : w_X9_stepAt (nI i) h g (fun r h' _ => h = h' ∧ r = if i < l.length then nI (l.getD i 0) else -1) := by
  unfold w_X9_stepAt
  rw [e6]
  have eL : (nI l.length - (1 : Int32)).toInt = (l.length : Int) - 1 := by
    rw [i_sub (nI_toInt (by omega)) i1 (by omega)]
  refine c_wb (fun q => ⟨fun c => absI c, fun _ => ?_⟩) (fun q => ⟨fun _ => ⟨rfl, ?_⟩, fun c => absurd rfl c⟩)
  · unfold bd at q
    rw [eL, nI_toInt hi] at q
    have q : i < l.length := by omega
    rw [if_pos q]
    refine ⟨rfl, ?_⟩
    rw [e6, e4, show nI l.length - (1 : Int32) = nI (l.length - 1) from nI_subN (b := 1) (by omega), nI_subN (by omega), show (3 : Int32) = nI 3 from rfl, pk_mul, nI_shr (by omega) (by omega), show (7 : Int32) = nI 7 from rfl, nI_and, show (7 : Nat) = 2 ^ 3 - 1 by decide, Nat.and_two_pow_sub_one_eq_mod, show (2 : Nat) ^ 3 = 8 by decide, Nat.pow_mul, show (2 : Nat) ^ 3 = 8 by decide, cdW_at hW r q]
  · unfold bd at q
    rw [eL, nI_toInt hi, show (0 : Int32).toInt = 0 by decide] at q
    rw [if_neg (by omega)]
theorem q_X10_way {h : HI} {g : HL} {f : Nat → Int32} {W : Nat} (v : VR f) (T : WT h f W) (hW : W ≤ 8) (V : WV h) {x1 x2 x3 x4 : Int32} : w_X10_way x1 x2 x3 x4 h g (fun r h' _ => JJ SWay h h' ∧ WV h' ∧ AWY f W x1 x2 x3 x4 r) := by
  have ok1 : ∀ {s lo hi : Nat}, okW x1 x2 x3 x4 s lo hi → bd 1 3000 x1 ∧ bd 1 3000 x2 ∧ bd x2.toInt 3000 x3 ∧ -2 ≤ x4.toInt := fun o => by
    unfold okW at o
    obtain ⟨rfl, rfl, rfl, o⟩ := o
    unfold bd
    rw [nI_toInt (by omega), nI_toInt (by omega), nI_toInt (by omega)]
    omega
  unfold w_X10_way
  refine c_wb (fun q1 => ⟨fun c => absI c, fun _ => ?_⟩) (fun q1 => ⟨fun _ => ⟨JJ.rf, V, .inl ⟨fun s lo hi o => q1 ((ok1 o).1.mo (by decide) (by decide)), rfl⟩⟩, fun c => absurd rfl c⟩)
  refine c_wb (fun q2 => ⟨fun _ => ?_, fun c => absI c⟩) (fun q2 => ⟨fun c => absurd rfl c, fun _ => ⟨JJ.rf, V, .inl ⟨fun s lo hi o => q2 ((ok1 o).2.1.mo (by decide) (by decide)), rfl⟩⟩⟩)
  refine c_wb (fun q3 => ⟨fun c => absI c, fun _ => ?_⟩) (fun q3 => ⟨fun _ => ⟨JJ.rf, V, .inl ⟨fun s lo hi o => q3 ((ok1 o).2.2.1.mo (Int.le_refl _) (by decide)), rfl⟩⟩, fun c => absurd rfl c⟩)
  refine ⟨fun c4 => ?_, fun c4 => ⟨JJ.rf, V, .inl ⟨fun s lo hi o => c4 (Int32.le_iff_toInt_le.mpr (by have := (ok1 o).2.2.2; rw [show (-2 : Int32).toInt = -2 by decide]; exact this)), rfl⟩⟩⟩
  rw [Int32.le_iff_toInt_le, show (-2 : Int32).toInt = -2 by decide] at c4
  obtain ⟨s, s2, s1, s3, rfl⟩ := bd_nIp (q1.mo (c := 1) (d := 3000) (by decide) (by decide)) (by omega)
  obtain ⟨lo, l2, l1, l3, rfl⟩ := bd_nIp (q2.mo (c := 1) (d := 3000) (by decide) (by decide)) (by omega)
  obtain ⟨hi, h2, h1, h3, rfl⟩ := bd_nIp (q3.mo (c := (nI lo).toInt) (d := 3000) (Int.le_refl _) (by decide)) (by rw [nI_toInt l3]; omega)
  rw [nI_toInt l3] at h1
  have ok : okW (nI s) (nI lo) (nI hi) x4 s lo hi := ⟨rfl, rfl, rfl, by omega, by omega, by omega, by omega, by omega, c4⟩
  refine c_v (q_X9_find v T hW V ⟨by omega, by omega⟩ ⟨by omega, by omega, by omega⟩) ?_
  rintro h5 g5 ⟨J5, V5, b⟩
  rcases b.row hW v with ⟨e5, no⟩ | ⟨l, B, e5, e4, e6, k1, k2⟩
  · exact ⟨fun c => absurd e5 c, fun _ => ⟨J5, V5, .inr ⟨s, lo, hi, ok, .inl ⟨no, rfl⟩⟩⟩⟩
  · refine ⟨fun _ => ⟨fun x1 => ⟨fun x2 => ?_, fun x2 => ?_⟩, fun x1 => ?_⟩, fun c => absurd (e5.symm.trans c) (nI_nm k1)⟩
    · obtain ⟨i, hi', rfl⟩ : ∃ i : Nat, i < 2 ^ 31 ∧ x4 = nI i := nI_of (fun q => by
        rw [Int32.lt_iff_toInt_lt, show (0 : Int32).toInt = 0 by decide] at q
        have n1 : ¬ x4.toInt = -1 := fun e => x1 (Int32.toInt_inj.mp (e.trans im1.symm))
        have n2 : ¬ x4.toInt = -2 := fun e => x2 (Int32.toInt_inj.mp (e.trans (by decide)))
        omega)
      obtain ⟨t, t1, t2, rl⟩ := B.2.1
      refine c_i (q_X9_stepAt hW B.1 rl e4 e6 k2 hi') ?_
      rintro r _ g6 ⟨rfl, e⟩
      exact ⟨J5, V5, .inr ⟨s, lo, hi, ok, .inr ⟨l, B, .inr (.inr ⟨i, hi', rfl, e⟩)⟩⟩⟩
    · exact ⟨J5, V5, .inr ⟨s, lo, hi, ok, .inr ⟨l, B, .inr (.inl ⟨x2, e6⟩)⟩⟩⟩
    · exact ⟨J5, V5, .inr ⟨s, lo, hi, ok, .inr ⟨l, B, .inl ⟨x1, e5⟩⟩⟩⟩
