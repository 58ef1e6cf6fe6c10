/-! WAY of the reference -/
def LCo (f : Nat → Int32) (P : List Nat → Prop) (x : Int32) : Prop := (x = 1000000 ∧ ∀ l, ¬ P l) ∨ ∃ l, P l ∧ csW f l < 1000000 ∧ x = nI (csW f l) ∧ ∀ m, P m → csW f l ≤ csW f m
def LYo (f : Nat → Int32) (P : List Nat → Prop) (x : Int32) : Prop := (1000000 ≤ x.toInt ∧ ∀ l, ¬ P l) ∨ ∃ l, P l ∧ csW f l < 1000000 ∧ x = nI (csW f l) ∧ ∀ m, P m → csW f l ≤ csW f m
theorem LCo.cg {f : Nat → Int32} {P R : List Nat → Prop} {x : Int32} (a : LCo f P x) (e : ∀ l, P l ↔ R l) : LCo f R x := by
  rcases a with ⟨a1, a2⟩ | ⟨l, a1, a2, a3, a4⟩
  · exact .inl ⟨a1, fun l r => a2 l ((e l).mpr r)⟩
  · exact .inr ⟨l, (e l).mp a1, a2, a3, fun m r => a4 m ((e m).mpr r)⟩
theorem far_i : (1000000 : Int32).toInt = 1000000 := by decide
theorem LCo.add {f : Nat → Int32} {P R : List Nat → Prop} {x y : Int32} (a : LCo f P x) (b : LYo f R y) : (x ≤ y → LCo f (fun l => P l ∨ R l) x) ∧ (¬ x ≤ y → LCo f (fun l => P l ∨ R l) y) := by
  rw [Int32.le_iff_toInt_le]
  rcases a with ⟨a1, a2⟩ | ⟨l, a1, a2, a3, a4⟩
  · rcases b with ⟨b1, b2⟩ | ⟨k, b1, b2, b3, b4⟩
    · rw [a1, far_i]
      exact ⟨fun _ => .inl ⟨rfl, fun l c => c.elim (a2 l) (b2 l)⟩, fun c => absurd b1 c⟩
    · rw [a1, far_i, b3, nI_toInt (by omega)]
      exact ⟨fun c => by omega, fun _ => .inr ⟨k, .inr b1, b2, rfl, fun m c => c.elim (fun d => absurd d (a2 m)) (b4 m)⟩⟩
  · rcases b with ⟨b1, b2⟩ | ⟨k, b1, b2, b3, b4⟩
    · rw [a3, nI_toInt (by omega)]
      exact ⟨fun _ => .inr ⟨l, .inl a1, a2, rfl, fun m c => c.elim (a4 m) (fun d => absurd d (b2 m))⟩, fun c => by omega⟩
    · rw [a3, b3, nI_toInt (by omega), nI_toInt (by omega)]
      exact ⟨fun c => .inr ⟨l, .inl a1, a2, rfl, fun m d => d.elim (a4 m) (fun d => by have := b4 m d; omega)⟩, fun c => .inr ⟨k, .inr b1, b2, rfl, fun m d => d.elim (fun d => by have := a4 m d; omega) (b4 m)⟩⟩
theorem bv_vs {f q : Nat → Int32} {W w s t l : Nat} (v : VR f) (hW : W ≤ 8) (hs : s ≤ 3000) (x : VS f W w s t) : bv f q w s l = f (672 + 4 * w + 1) + q (3001 * l + t) := by
  obtain ⟨x1, x2, x3, x4, x5, x6⟩ := x
  have v0 := (v.wk (w := w) (by omega)).1
  unfold bd at v0
  have e : (nI s + f (672 + 4 * w)).toInt = t := by
    rw [add_i (by rw [nI_toInt (by omega)]; omega) (by rw [nI_toInt (by omega)]; omega) (by omega) (by omega), nI_toInt (by omega)]; omega
  have e2 : nI s + f (672 + 4 * w) = nI t := Int32.toInt_inj.mp (e.trans (nI_toInt (by omega)).symm)
  unfold bv
  rw [e, if_pos ⟨x2, x3, by omega, by omega⟩, e2, nI_clamp (by omega)]
theorem bv_no {f q : Nat → Int32} {W w s l : Nat} (v : VR f) (hw : w < W) (hW : W ≤ 8) (hs : s ≤ 3000) (n : ∀ t, ¬ VS f W w s t) : bv f q w s l = 1000000 := by
  have v0 := (v.wk (w := w) (by omega)).1
  unfold bd at v0
  unfold bv
  refine if_neg (fun c => ?_)
  obtain ⟨c1, c2, c3, c4⟩ := c
  have e : (nI s + f (672 + 4 * w)).toInt = s + (f (672 + 4 * w)).toInt := by
    rw [add_i (by rw [nI_toInt (by omega)]; omega) (by rw [nI_toInt (by omega)]; omega) (by omega) (by omega), nI_toInt (by omega)]
  rw [e] at c3 c4
  exact n (s + (f (672 + 4 * w)).toInt).toNat ⟨hw, c1, c2, by omega, by omega, by omega⟩
theorem RTW.cons {f : Nat → Int32} {W s lo hi w : Nat} {m : List Nat} : RTW f W s lo hi (w :: m) ↔ ∃ t, VS f W w s t ∧ RTW f W t lo hi m :=
  ⟨fun ⟨e, e1, e2, u, v, r⟩ => ⟨u, v, e, e1, e2, r⟩, fun ⟨u, v, e, e1, e2, r⟩ => ⟨e, e1, e2, u, v, r⟩⟩
theorem RTW.le {f : Nat → Int32} {W s lo hi : Nat} (v : VR f) (hW : W ≤ 8) {l : List Nat} (r : RTW f W s lo hi l) : csW f l ≤ 1000 * l.length := by
  obtain ⟨t, -, -, r⟩ := r
  exact csW_le (fun w hw => (v.pc (by omega)).2) r
def LRo (f : Nat → Int32) (W lo hi n s : Nat) (x : Int32) : Prop := LCo f (fun l => l.length = n ∧ RTW f W s lo hi l) x
theorem by_LY {f q : Nat → Int32} {W lo hi w s n : Nat} (v : VR f) (hW : W ≤ 8) (hw : w < W) (hs : s ≤ 3000) (hn : n ≤ 4) (hq : ∀ t, 1 ≤ t → t ≤ 3000 → LRo f W lo hi n t (q (3001 * n + t))) : LYo f (fun l => ∃ m : List Nat, l = w :: m ∧ m.length = n ∧ RTW f W s lo hi l) (bv f q w s n) := by
  by_cases c : ∃ t, VS f W w s t
  · obtain ⟨t, x⟩ := c
    rw [bv_vs v hW hs x]
    obtain ⟨p1, p2⟩ := v.pc (w := w) (by omega)
    rw [p1]
    rcases hq t x.2.2.2.1 x.2.2.2.2.1 with ⟨a1, a2⟩ | ⟨m, ⟨m1, m2⟩, a2, a3, a4⟩
    · rw [a1]
      refine .inl ⟨?_, ?_⟩
      · rw [i_add (nI_toInt (by omega)) far_i (by omega)]; omega
      · rintro l ⟨m, rfl, em, r⟩
        obtain ⟨u, y, r⟩ := RTW.cons.mp r
        have := x.un y
        subst this
        exact a2 m ⟨em, r⟩
    · rw [a3, nI_add]
      have r : RTW f W s lo hi (w :: m) := RTW.cons.mpr ⟨t, x, m2⟩
      have hle := r.le v hW
      have el : (w :: m).length = m.length + 1 := rfl
      refine .inr ⟨w :: m, ⟨m, rfl, m1, r⟩, by omega, rfl, ?_⟩
      rintro l ⟨m', rfl, em, r'⟩
      obtain ⟨u, y, r'⟩ := RTW.cons.mp r'
      have := x.un y
      subst this
      have := a4 m' ⟨em, r'⟩
      show pcW f w + csW f m ≤ pcW f w + csW f m'
      omega
  · have c : ∀ t, ¬ VS f W w s t := fun t x => c ⟨t, x⟩
    rw [bv_no v hw hW hs c]
    refine .inl ⟨by rw [far_i]; omega, ?_⟩
    rintro l ⟨m, rfl, em, r⟩
    obtain ⟨u, y, r⟩ := RTW.cons.mp r
    exact c u y
def okQ (f q : Nat → Int32) (W lo hi n S : Nat) : Prop := ∀ s, 1 ≤ s → s < S → LRo f W lo hi n s (q (3001 * n + s))
theorem okQ.cg {f q q' : Nat → Int32} {W lo hi n S : Nat} (h : okQ f q W lo hi n S) (e : ∀ i, i < 3001 * n + S → q' i = q i) : okQ f q' W lo hi n S := fun s s1 s2 => by
  rw [e _ (by omega)]; exact h s s1 s2
theorem q_X11_findPrices {h : HI} {g : HL} {f : Nat → Int32} {W lo hi : Nat} (ef : h 136 = f) (v : VR f) (eW : f 3 = nI W) (hW : W ≤ 8) (hl : 1 ≤ lo ∧ lo ≤ hi ∧ hi ≤ 3000) : w_X11_findPrices (nI lo) (nI hi) h g (fun h' _ => KJ SPr h h' ∧ ∀ n : Nat, n ≤ 5 → okQ f (h' 143) W lo hi n 3001) := by
  subst ef
  unfold w_X11_findPrices
  refine lpE_intro (fun ⟨a_q, b_q, c_q, h_q, _⟩ => ∃ n : Nat, n ≤ 6 ∧ nI lo = a_q ∧ nI hi = b_q ∧ nI n = c_q ∧ KJ SPr h h_q ∧ ∀ m : Nat, m < n → okQ (h 136) (h_q 143) W lo hi m 3001) (fun ⟨_, _, c_q, _, _⟩ => dil (5 : Int32) c_q) ?_ _ ⟨0, by omega, rfl, rfl, nI_0, KJ.rf, fun m hm => absurd hm (Nat.not_lt_zero m)⟩
  rintro ⟨y1, y2, y3, h1, g1⟩ K ⟨n, hn, rfl, rfl, rfl, J1, P1⟩ hK
  unfold F_X11_findPrices_2; dsimp only; unfold b_X11_findPrices_2
  refine ⟨fun c => ?_, fun c => ?_⟩
  · rw [show (5 : Int32) = nI 5 from rfl, nI_ltI (by omega) (by omega)] at c
    exact ⟨J1, fun m hm => P1 m (by omega)⟩
  have hd := dil_lt c (by decide)
  rw [show (5 : Int32) = nI 5 from rfl, nI_ltI (by omega) (by omega)] at c
  refine lpE_intro (fun ⟨a_q, b_q, c_q, d_q, h_q, _⟩ => ∃ s : Nat, 1 ≤ s ∧ s ≤ 3001 ∧ nI lo = a_q ∧ nI hi = b_q ∧ nI n = c_q ∧ nI s = d_q ∧ KJ SPr h h_q ∧ (∀ m : Nat, m < n → okQ (h 136) (h_q 143) W lo hi m 3001) ∧ okQ (h 136) (h_q 143) W lo hi n s) (fun ⟨_, _, _, d_q, _, _⟩ => dil (3000 : Int32) d_q) ?_ _ ⟨1, by omega, by omega, rfl, rfl, rfl, rfl, J1, P1, fun s s1 s2 => by omega⟩
  rintro ⟨y1, y2, y3, y4, h2, g2⟩ K2 ⟨s, s1, s2, rfl, rfl, rfl, rfl, J2, P2, Q2⟩ hK2
  unfold F_X11_findPrices_10; dsimp only; unfold b_X11_findPrices_10
  refine ⟨fun cs => ?_, fun cs => ?_⟩
  · rw [show (3000 : Int32) = nI 3000 from rfl, nI_ltI (by omega) (by omega)] at cs
    have : s = 3001 := by omega
    subst this
    rintro _ rfl
    refine hK _ ⟨n + 1, by omega, rfl, rfl, (nI_1 n).symm, J2, fun m hm => ?_⟩ hd
    by_cases em : m = n
    · subst em; exact Q2
    · exact P2 m (by omega)
  have hds := dil_lt cs (by decide)
  rw [show (3000 : Int32) = nI 3000 from rfl, nI_ltI (by omega) (by omega)] at cs
  have eF' : h2 136 = h 136 := funext fun k => J2 136 k (by unfold SPr; omega)
  have j96 : ∀ (x5 : Int32) (g3 : HL), LRo (h 136) W lo hi n s x5 → j_X11_findPrices_96 (fun h' _ => KJ SPr h h' ∧ ∀ n : Nat, n ≤ 5 → okQ (h 136) (h' 143) W lo hi n 3001) (fun x1 x2 x3 h g => K (x1, x2, x3, h, g)) (fun x1 x2 x3 x4 h g => K2 (x1, x2, x3, x4, h, g)) (nI lo) (nI hi) (nI n) (nI s) x5 h2 g3 := by
    intro x5 g3 hx
    unfold j_X11_findPrices_96
    rw [show (3001 : Int32) * nI n = nI (3001 * n) from pk_mul 3001 n, nI_add, nI_clamp (by omega)]
    refine and_have (vp_in_nI (by omega) (by omega)) (fun _ => ?_)
    intro h3 e3
    rintro _ rfl
    have e143 : h3 143 = upd (h2 143) (3001 * n + s) x5 := by rw [e3, hu_eq]
    have same : ∀ i, i ≠ 3001 * n + s → h3 143 i = h2 143 i := fun i hi => by rw [e143, pk_un hi]
    refine hK2 _ ⟨s + 1, by omega, by omega, rfl, rfl, rfl, (nI_1 s).symm, J2.hu e3 (by unfold SPr; rfl), fun m hm => (P2 m hm).cg (fun i hi => same i (by omega)), ?_⟩ hds
    intro t t1 t2
    by_cases et : t = s
    · subst et
      rw [e143, pk_us]
      exact hx
    · exact (Q2.cg (fun i hi => same i (by omega))) t t1 (by omega)
  have j41 : ∀ (x5 : Int32) (g3 : HL), (x5 = 1000000 ∧ 1 ≤ n ∨ n = 0 ∧ LRo (h 136) W lo hi 0 s x5) → j_X11_findPrices_41 (fun h' _ => KJ SPr h h' ∧ ∀ n : Nat, n ≤ 5 → okQ (h 136) (h' 143) W lo hi n 3001) (fun x1 x2 x3 h g => K (x1, x2, x3, h, g)) (fun x1 x2 x3 x4 h g => K2 (x1, x2, x3, x4, h, g)) (nI lo) (nI hi) (nI n) (nI s) x5 h2 g3 := by
    intro x5 g3 hx
    unfold j_X11_findPrices_41
    refine lpE_intro (fun ⟨a_q, b_q, c_q, d_q, e_q, f_q, h_q, _⟩ => ∃ w : Nat, w ≤ W ∧ nI lo = a_q ∧ nI hi = b_q ∧ nI n = c_q ∧ nI s = d_q ∧ nI w = f_q ∧ h2 = h_q ∧ (n = 0 ∧ LRo (h 136) W lo hi 0 s e_q ∨ 1 ≤ n ∧ LCo (h 136) (fun l => ∃ (u : Nat) (m : List Nat), u < w ∧ l = u :: m ∧ m.length = n - 1 ∧ RTW (h 136) W s lo hi l) e_q)) (fun ⟨_, _, _, _, _, f_q, _, _⟩ => dif (nI W) f_q) ?_ _ ⟨0, Nat.zero_le _, rfl, rfl, rfl, rfl, nI_0, rfl, ?_⟩
    · rintro ⟨z1, z2, z3, z4, z5, z6, h3, g4⟩ K3 ⟨w, hw, rfl, rfl, rfl, rfl, rfl, rfl, hx5⟩ hK3
      unfold F_X11_findPrices_46; dsimp only; unfold b_X11_findPrices_46
      rw [eF', show (3 : Int32).toNatClampNeg = 3 by decide, eW]
      refine and_have (vp_in_iff.mpr (by decide)) (fun _ => ⟨fun cw => ?_, fun cw => ⟨fun cn => ?_, fun cn => ?_⟩⟩)
      · rw [nI_leI (by omega) (by omega)] at cw
        have : w = W := by omega
        subst this
        refine j96 _ _ ?_
        rcases hx5 with ⟨e0, hx5⟩ | ⟨n1, hx5⟩
        · subst e0; exact hx5
        · refine hx5.cg (fun l => ⟨?_, ?_⟩)
          · rintro ⟨u, m, hu, rfl, em, r⟩
            exact ⟨by show m.length + 1 = n; omega, r⟩
          · rintro ⟨el, r⟩
            match l, el, r with
            | [], el, _ => exact absurd el (by show ¬ 0 = n; omega)
            | u :: m, el, r =>
              have el : m.length + 1 = n := el
              obtain ⟨t, x, -⟩ := RTW.cons.mp r
              exact ⟨u, m, x.1, rfl, by omega, r⟩
      · rw [show (0 : Int32) = nI 0 from rfl, nI_leI (by omega) (by omega)] at cn
        rcases hx5 with ⟨e0, hx5⟩ | ⟨n1, -⟩
        · subst e0; exact j96 _ _ hx5
        · omega
      have hdw := dif_lt cw
      rw [nI_leI (by omega) (by omega)] at cw
      rw [show (0 : Int32) = nI 0 from rfl, nI_leI (by omega) (by omega)] at cn
      obtain ⟨m, rfl⟩ : ∃ m, n = m + 1 := ⟨n - 1, by omega⟩
      rw [nI_pred]
      refine c_i (p_X11_by (by omega) (by omega) (by omega)) ?_
      rintro _ _ _ ⟨rfl, rfl, rfl⟩
      rw [eF']
      have hx5 : LCo (h 136) (fun l => ∃ (u : Nat) (m' : List Nat), u < w ∧ l = u :: m' ∧ m'.length = m ∧ RTW (h 136) W s lo hi l) z5 := by
        rcases hx5 with ⟨e0, -⟩ | ⟨-, hx5⟩
        · omega
        · exact hx5
      have y := by_LY (lo := lo) (hi := hi) v hW (w := w) (by omega) (s := s) (by omega) (n := m) (by omega) (q := h2 143) (fun t t1 t2 => P2 m (by omega) t t1 (by omega))
      have nx := hx5.add y
      have j88 : ∀ v : Int32, LCo (h 136) (fun l => (∃ (u : Nat) (m' : List Nat), u < w ∧ l = u :: m' ∧ m'.length = m ∧ RTW (h 136) W s lo hi l) ∨ ∃ m' : List Nat, l = w :: m' ∧ m'.length = m ∧ RTW (h 136) W s lo hi l) v → j_X11_findPrices_88 (fun h' _ => KJ SPr h h' ∧ ∀ n : Nat, n ≤ 5 → okQ (h 136) (h' 143) W lo hi n 3001) (fun x1 x2 x3 h g => K (x1, x2, x3, h, g)) (fun x1 x2 x3 x4 h g => K2 (x1, x2, x3, x4, h, g)) (fun x1 x2 x3 x4 x5 x6 h g => K3 (x1, x2, x3, x4, x5, x6, h, g)) (nI lo) (nI hi) (nI (m + 1)) (nI s) (nI w) v h2 g4 := by
        intro v hv
        unfold j_X11_findPrices_88
        rintro _ rfl
        refine hK3 _ ⟨w + 1, by omega, rfl, rfl, rfl, rfl, (nI_1 w).symm, rfl, .inr ⟨by omega, hv.cg (fun l => ⟨?_, ?_⟩)⟩⟩ hdw
        · rintro (⟨u, m', hu, e⟩ | ⟨m', e⟩)
          · exact ⟨u, m', by omega, e⟩
          · exact ⟨w, m', by omega, e⟩
        · rintro ⟨u, m', hu, e⟩
          by_cases c : u = w
          · subst c; exact .inr ⟨m', e⟩
          · exact .inl ⟨u, m', by omega, e⟩
      exact ⟨fun c => j88 _ (nx.1 c), fun c => j88 _ (nx.2 c)⟩
    · rcases hx with ⟨e, n1⟩ | x
      · exact .inr ⟨n1, .inl ⟨e, fun l ⟨u, m, hu, _⟩ => absurd hu (Nat.not_lt_zero u)⟩⟩
      · exact .inl x
  have l0 : ∀ l : List Nat, l.length = 0 ∧ RTW (h 136) W s lo hi l ↔ l = [] ∧ lo ≤ s ∧ s ≤ hi := fun l => by
    constructor
    · rintro ⟨e, t, t1, t2, r⟩
      have : l = [] := List.eq_nil_of_length_eq_zero e
      subst this
      have r : s = t := r
      subst r
      exact ⟨rfl, t1, t2⟩
    · rintro ⟨rfl, t1, t2⟩
      exact ⟨rfl, s, t1, t2, rfl⟩
  refine ⟨fun c0 => ?_, fun c0 => ?_⟩
  · unfold j_X11_findPrices_39
    exact j41 _ _ (.inl ⟨rfl, by
      rcases Nat.eq_zero_or_pos n with e | e
      · exact absurd (by rw [e]; exact nI_0) c0
      · exact e⟩)
  · have n0 : n = 0 := (nI_eq (by omega) (by omega)).mp (c0.trans nI_0.symm)
    refine c_in3 (fun q => ⟨fun c => absI c, fun _ => ?_⟩) (fun q => ⟨fun _ => ?_, fun c => absN c⟩)
    · rw [Int32.toInt_toInt64, Int32.toInt_toInt64, nI_toInt (by omega), nI_toInt (by omega)] at q
      unfold bd at q
      rw [nI_toInt (by omega)] at q
      exact j41 _ _ (.inr ⟨n0, .inr ⟨[], (l0 []).mpr ⟨rfl, by omega, by omega⟩, (show 0 < 1000000 by decide), rfl, fun m _ => Nat.zero_le _⟩⟩)
    · rw [Int32.toInt_toInt64, Int32.toInt_toInt64, nI_toInt (by omega), nI_toInt (by omega)] at q
      unfold bd at q
      rw [nI_toInt (by omega)] at q
      unfold j_X11_findPrices_39
      exact j41 _ _ (.inr ⟨n0, .inl ⟨rfl, fun l x => by
        have := (l0 l).mp x
        omega⟩⟩)
