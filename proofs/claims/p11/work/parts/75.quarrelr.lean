/-! QUARREL, THE REFERENCE -/
theorem c_qu {h : HI} {g : HL} {f : Nat → Int32} (ef : h 136 = f) (r : RG f) (v : VR f) (w : WB f) {s p : Nat} (hs : s < 60) {x : Int32} (hx : 1 ≤ x.toInt ∧ x.toInt ≤ 100000) {body : Int32 → HI → HL → Prop} (h1 : ∀ h' g', KJ SLt h h' → isO f p s → dn f x.toInt s = true → body 1 h' g') (h0 : ∀ h' g', KJ SLt h h' → ¬ (isO f p s ∧ dn f x.toInt s = true) → body 0 h' g') : ∃ P : Int32 → HI → HL → Prop, w_X11_quarrels (nI s) (nI p) x h g P ∧ ∀ (r : Int32) (h : HI) (g : HL), zb r → P r h g → body r h g := by
  refine ⟨fun r h' g' => body r h' g', ?_, fun _ _ _ _ k => k⟩
  unfold w_X11_quarrels
  refine c_isO hs (fun o => ⟨fun _ => ?_, fun q => absurd q (by decide)⟩) (fun o => ⟨fun q => absurd rfl q, fun _ => h0 h g KJ.rf (fun k => o (by rw [ef]; exact k.1))⟩)
  rw [ef] at o
  refine c_v (q_X11_lets ef r v w hs) ?_
  rintro h4 g4 ⟨J4, c9, c10⟩
  refine c_in3 (fun q => ⟨fun _ => h0 h4 _ J4 (fun k => ?_), fun q => absurd q (by decide)⟩) (fun q => ⟨fun q => absurd rfl q, fun _ => h1 h4 _ J4 o (dn_r hx.1 hx.2 |>.mpr (fun k => q ?_))⟩)
  · unfold bd at q
    rw [Int32.toInt_toInt64, Int32.toInt_toInt64, c9, c10] at q
    exact (dn_r hx.1 hx.2).mp k.2 q
  · unfold bd
    rw [Int32.toInt_toInt64, Int32.toInt_toInt64, c9, c10]
    exact k
def BV (h : HI) (f : Nat → Int32) (p n : Nat) (z : Int) : Prop := (h 135 16).toInt = z ∧ h 135 17 = nI (cq f p z n)
/-- the family and the best are untouched by what SLt changes -/
theorem SLt.k {k : Nat} (h : 11 ≤ k) : ¬ SLt 135 k := by unfold SLt; omega
theorem q_X11_tries {h : HI} {g : HL} {f : Nat → Int32} (ef : h 136 = f) (r : RG f) (v : VR f) (w : WB f) {p n : Nat} (hp : p < 24) (en : f 1 = nI n) (hn : n ≤ 60) (b11 : (h 135 11).toInt = fB f p) (b12 : (h 135 12).toInt = fD f p) (b13 : (h 135 13).toInt = fM f p) (pre : h 135 17 = -1 ∨ ∃ z, BV h f p n z) {x : Int32} : w_X11_tries (nI p) x h g (fun h' _ => KJ STr h h' ∧ ((¬ (0 ≤ x.toInt ∧ x.toInt ≤ fM f p - 1) ∧ h' 135 16 = h 135 16 ∧ h' 135 17 = h 135 17) ∨ ((0 ≤ x.toInt ∧ x.toInt ≤ fM f p - 1) ∧ ∃ z', BV h' f p n z' ∧ lex f p n z' (fB f p + fD f p * x.toInt) ∧ (z' = fB f p + fD f p * x.toInt ∨ BV h f p n z') ∧ ∀ z, BV h f p n z → lex f p n z' z))) := by
  have k0 := v.fok hp
  obtain ⟨k1, k2, k3, k4, k5, k6⟩ := id k0
  have e13 : (h 135 13 - 1).toInt = fM f p - 1 := i_sub b13 i1 (by omega)
  unfold w_X11_tries
  refine c_in3 (fun q => ⟨fun _ => ?_, fun q => absurd q (by decide)⟩) (fun q => ⟨fun q => absurd rfl q, fun _ => ⟨KJ.rf, .inl ⟨fun k => q ?_, rfl, rfl⟩⟩⟩)
  rotate_left
  · unfold bd
    rw [Int32.toInt_toInt64, e13]; exact k
  unfold bd at q
  rw [Int32.toInt_toInt64, e13] at q
  have q : 0 ≤ x.toInt ∧ x.toInt ≤ fM f p - 1 := q
  have sz := k0.sz q.1 q.2
  intro x3 ex3
  have e3 : x3.toInt = fB f p + fD f p * x.toInt := by
    rw [ex3]; exact i_add b11 (i_mul b12 rfl (by omega)) (by omega)
  clear ex3
  rw [← e3]
  refine lpE_intro (fun ⟨a_q, b_q, c_q, d_q, h_q, _⟩ => ∃ i : Nat, i ≤ n ∧ nI p = a_q ∧ x3 = b_q ∧ nI (cq f p x3.toInt i) = c_q ∧ nI i = d_q ∧ KJ SLt h h_q) (fun ⟨_, _, _, d_q, _, _⟩ => dif (nI n) d_q) ?_ _ ⟨0, by omega, rfl, rfl, nI_0, nI_0, KJ.rf⟩
  rintro ⟨y1, y2, y3, y4, h3, g3⟩ K ⟨i, hi, rfl, rfl, rfl, rfl, J3⟩ hK
  have f3 : h3 136 = f := (J3.f6 (fun k => by unfold SLt; omega)).trans ef
  unfold F_X11_tries_35; dsimp only; unfold b_X11_tries_35
  rw [cl1, f3, en]
  refine and_have (vp_in_iff.mpr (by decide)) (fun _ => ⟨fun c => ?_, fun c => ?_⟩)
  · rw [nI_leI (by omega) (by omega)] at c
    have : i = n := by omega
    subst this
    have l1 := cq_le (f := f) (p := p) (z := x3.toInt) (k := i)
    have o17 : h3 135 17 = h 135 17 := J3 135 17 (SLt.k (by omega))
    have o16 : h3 135 16 = h 135 16 := J3 135 16 (SLt.k (by omega))
    have J3' : KJ STr h h3 := J3.mo (fun o k hq => by unfold SLt at hq; unfold STr; omega)
    have take : (∀ z, BV h f p i z → lex f p i x3.toInt z) → j_X11_tries_107 (fun h' _ => KJ STr h h' ∧ ((¬ (0 ≤ x.toInt ∧ x.toInt ≤ fM f p - 1) ∧ h' 135 16 = h 135 16 ∧ h' 135 17 = h 135 17) ∨ ((0 ≤ x.toInt ∧ x.toInt ≤ fM f p - 1) ∧ ∃ z', BV h' f p i z' ∧ lex f p i z' x3.toInt ∧ (z' = x3.toInt ∨ BV h f p i z') ∧ ∀ z, BV h f p i z → lex f p i z' z))) x3 (nI (cq f p x3.toInt i)) h3 g3 := by
      intro al
      unfold j_X11_tries_107
      intro h4 e4 h5 e5
      refine ⟨(J3'.hu e4 (by unfold STr; omega)).hu e5 (by unfold STr; omega), .inr ⟨q, x3.toInt, ⟨?_, ?_⟩, lex.rf, .inl rfl, al⟩⟩
      · rw [e5, hu_eq, pk_us]
      · rw [e5, hu_eq, pk_un (by decide), e4, hu_eq, pk_us]
    rw [o17, o16]
    refine ⟨fun a => take (fun z B => ?_), fun a => ?_⟩
    · have := B.2
      rw [a] at this
      have l2 := cq_le (f := f) (p := p) (z := z) (k := i)
      exact absurd this.symm (nI_nm (by omega))
    · obtain ⟨z, B⟩ := pre.resolve_left a
      have l2 := cq_le (f := f) (p := p) (z := z) (k := i)
      have uz : ∀ z', BV h f p i z' → z' = z := fun z' B' => B'.1.symm.trans B.1
      have keep : lex f p i z x3.toInt → KJ STr h h3 ∧ ((¬ (0 ≤ x.toInt ∧ x.toInt ≤ fM f p - 1) ∧ h3 135 16 = h 135 16 ∧ h3 135 17 = h 135 17) ∨ ((0 ≤ x.toInt ∧ x.toInt ≤ fM f p - 1) ∧ ∃ z', BV h3 f p i z' ∧ lex f p i z' x3.toInt ∧ (z' = x3.toInt ∨ BV h f p i z') ∧ ∀ z, BV h f p i z → lex f p i z' z)) := fun lx =>
        ⟨J3', .inr ⟨q, z, ⟨by rw [o16]; exact B.1, by rw [o17]; exact B.2⟩, lx, .inr B, fun z' B' => by rw [uz z' B']; exact lex.rf⟩⟩
      refine ⟨fun c1 => take (fun z' B' => ?_), fun c1 => ?_⟩
      · rw [uz z' B']
        rw [B.2, nI_ltI (by omega) (by omega)] at c1
        exact .inl c1
      · rw [B.2, nI_ltI (by omega) (by omega)] at c1
        refine ⟨fun c2 => keep ?_, fun c2 => ⟨fun c3 => keep ?_, fun c3 => take (fun z' B' => ?_)⟩⟩
        · have : ¬ cq f p x3.toInt i = cq f p z i := fun e => c2 (by rw [e, B.2])
          unfold lex; omega
        · have c2 := (nI_eq (by omega) (by omega)).mp (c2.trans B.2)
          rw [i_le B.1 rfl] at c3
          unfold lex; omega
        · have c2 := (nI_eq (by omega) (by omega)).mp (c2.trans B.2)
          rw [i_le B.1 rfl] at c3
          rw [uz z' B']
          unfold lex; omega
  · have hd := dif_lt c
    rw [nI_leI (by omega) (by omega)] at c
    have nxt : ∀ (a b : Nat) (h4 : HI) (g4 : HL), KJ SLt h3 h4 → a + b = cq f p x3.toInt (i + 1) → j_X11_tries_64 (fun h' _ => KJ STr h h' ∧ ((¬ (0 ≤ x.toInt ∧ x.toInt ≤ fM f p - 1) ∧ h' 135 16 = h 135 16 ∧ h' 135 17 = h 135 17) ∨ ((0 ≤ x.toInt ∧ x.toInt ≤ fM f p - 1) ∧ ∃ z', BV h' f p n z' ∧ lex f p n z' x3.toInt ∧ (z' = x3.toInt ∨ BV h f p n z') ∧ ∀ z, BV h f p n z → lex f p n z' z))) (fun x1 x2 x3 x4 h g => K (x1, x2, x3, x4, h, g)) (nI p) x3 (nI i) (nI a) (nI b) h4 g4 := by
      intro a b h4 g4 J4 e
      unfold j_X11_tries_64
      rw [nI_add, e]
      rintro _ rfl
      rintro _ rfl
      exact hK _ ⟨i + 1, by omega, rfl, rfl, rfl, (nI_1 i).symm, J3.tr J4⟩ hd
    refine c_qu f3 r v w (s := i) (by omega) (by omega) (fun h4 g4 J4 o d => ⟨fun q => absurd q (by decide), fun _ => ?_⟩) (fun h4 g4 J4 o => ⟨fun _ => ?_, fun q => absurd rfl q⟩)
    · exact nxt _ 1 h4 g4 J4 (cq_y o d).symm
    · exact nxt _ 0 h4 g4 J4 (by rw [Nat.add_zero]; exact (cq_n o).symm)
theorem STr.f {k : Nat} (h : 11 ≤ k ∧ k ≤ 13) : ¬ STr 135 k := by unfold STr; omega
theorem pf_rc {f : Nat → Int32} {p s : Nat} (k1 : 1 ≤ fB f p) : pfN (fB f p) (fD f p) (rLo f s) = pfN (fB f p) (fD f p) (cLo f s) := by
  unfold rLo cLo
  by_cases q : f (152 + 6 * s + 1) = 2
  · rw [if_pos q, if_pos q]
    unfold pfN; rw [if_pos (by omega), if_pos (by omega)]
  · rw [if_neg q, if_neg q]
def FG (h : HI) (f : Nat → Int32) (p : Nat) : Prop := (h 135 11).toInt = fB f p ∧ (h 135 12).toInt = fD f p ∧ (h 135 13).toInt = fM f p
theorem FG.kj {S : Nat → Nat → Prop} {h h' : HI} {f : Nat → Int32} {p : Nat} (x : FG h f p) (J : KJ S h h') (n : ∀ k, 11 ≤ k ∧ k ≤ 13 → ¬ S 135 k) : FG h' f p := by
  unfold FG
  rw [J 135 11 (n 11 (by omega)), J 135 12 (n 12 (by omega)), J 135 13 (n 13 (by omega))]; exact x
/-- the best so far, of all that was tried -/
def BQ (h : HI) (f : Nat → Int32) (p n i : Nat) : Prop := ∃ z, BV h f p n z ∧ (∃ t, 0 ≤ t ∧ t ≤ fM f p - 1 ∧ z = fB f p + fD f p * t) ∧ lex f p n z (fB f p + fD f p * 0) ∧ ∀ s, s < i → isO f p s → pfN (fB f p) (fD f p) (cLo f s) ≤ fM f p - 1 → lex f p n z (fB f p + fD f p * pfN (fB f p) (fD f p) (cLo f s))
theorem BQ.tr {h h' : HI} {f : Nat → Int32} {p n i : Nat} {x : Int32} (b : BQ h f p n i) (a : (¬ (0 ≤ x.toInt ∧ x.toInt ≤ fM f p - 1) ∧ h' 135 16 = h 135 16 ∧ h' 135 17 = h 135 17) ∨ ((0 ≤ x.toInt ∧ x.toInt ≤ fM f p - 1) ∧ ∃ z', BV h' f p n z' ∧ lex f p n z' (fB f p + fD f p * x.toInt) ∧ (z' = fB f p + fD f p * x.toInt ∨ BV h f p n z') ∧ ∀ z, BV h f p n z → lex f p n z' z)) : BQ h' f p n i ∧ (0 ≤ x.toInt → x.toInt ≤ fM f p - 1 → ∀ z', BV h' f p n z' → lex f p n z' (fB f p + fD f p * x.toInt)) := by
  obtain ⟨z, B, fam, l0, ls⟩ := b
  rcases a with ⟨a1, a2, a3⟩ | ⟨a1, z', B', lx, o, al⟩
  · exact ⟨⟨z, ⟨by rw [a2]; exact B.1, by rw [a3]; exact B.2⟩, fam, l0, ls⟩, fun h0 h1 => absurd ⟨h0, h1⟩ a1⟩
  · have lz := al z B
    refine ⟨⟨z', B', ?_, lz.tr l0, fun s hs o hp => lz.tr (ls s hs o hp)⟩, fun _ _ z2 B2 => ?_⟩
    · rcases o with e | e
      · exact ⟨x.toInt, a1.1, a1.2, e⟩
      · rw [show z' = z from e.1.symm.trans B.1]; exact fam
    · rw [show z2 = z' from B2.1.symm.trans B'.1]; exact lx
theorem q_X11_quarrel {h : HI} {g : HL} {f : Nat → Int32} (ef : h 136 = f) (r : RG f) (v : VR f) (w : WB f) {m n : Nat} (em : f 0 = nI m) (hm : m ≤ 24) (en : f 1 = nI n) (hn : n ≤ 60) {x1 x2 : Int32} : w_X11_quarrel x1 x2 h g (fun s h' _ => KJ SQu h h' ∧ AQ f m n x1 x2 s) := by
  have e3 : (-3 : Int32).toInt = -3 := by decide
  have u1 : ∀ o k, SFm o k → SQu o k := fun o k hq => by unfold SFm at hq; unfold SQu; omega
  have u2 : ∀ o k, STr o k → SQu o k := fun o k hq => by unfold STr at hq; unfold SQu; omega
  have u3 : ∀ o k, SLt o k → SQu o k := fun o k hq => by unfold SLt at hq; unfold SQu; omega
  unfold w_X11_quarrel
  refine c_isb (vp_in_iff.mpr (by decide)) (by rw [ef]; exact r.ri.c0) (by decide) (fun q0 _ => ⟨fun c => absI c, fun _ => ?_⟩) (fun q0 => ⟨fun _ => ⟨KJ.rf, .inl ⟨fun k => q0 (by rw [cl0, ef, em]; exact k.1), rfl⟩⟩, fun c => absN c⟩)
  rw [cl0, ef, em] at q0
  obtain ⟨p, hp, rfl⟩ := row_n q0 rfl (by omega)
  have k0 := v.fok (p := p) (by omega)
  obtain ⟨k1, k2, k3, k4, k5, k6⟩ := id k0
  have kB : fB f p ≤ 100000 := by
    have := Int.mul_nonneg (a := fM f p - 1) (b := fD f p) (by omega) (by omega)
    omega
  have go : ∀ g1 : HL, (-1 ≤ x2.toInt ∨ x2 = -3) → j_X11_quarrel_23 (fun s h' _ => KJ SQu h h' ∧ AQ f m n (nI p) x2 s) (nI p) x2 h g1 := by
    intro g1 ok
    unfold j_X11_quarrel_23
    refine c_v (q_X11_findFamily (by rw [ef]; exact v) (by omega)) ?_
    rintro h2 g2 ⟨J2, F2⟩
    rw [ef] at F2
    intro h3 e3'
    have J3 : KJ SQu h h3 := (J2.mo u1).hu e3' (by unfold SQu; omega)
    have f3 : h3 136 = f := (J3.f6 (fun k => by unfold SQu; omega)).trans ef
    have F3 : FG h3 f p := by
      unfold FG
      rw [e3', hu_eq, pk_un (by decide), pk_un (by decide), pk_un (by decide)]; exact F2
    have o17 : h3 135 17 = -1 := by rw [e3', hu_eq, pk_us]
    refine c_v (q_X11_tries f3 r v w (n := n) (by omega) en hn F3.1 F3.2.1 F3.2.2 (.inl o17)) ?_
    rintro h4 g4 ⟨J4, a4⟩
    have b4 : BQ h4 f p n 0 := by
      rcases a4 with ⟨a1, -⟩ | ⟨-, z', B', lx, o, -⟩
      · exact absurd (by rw [i0]; omega) a1
      · rw [i0] at lx o
        refine ⟨z', B', ⟨0, by omega, by omega, ?_⟩, lx, fun s hs => absurd hs (Nat.not_lt_zero s)⟩
        rcases o with e | e
        · exact e
        · have := e.2
          rw [o17] at this
          have l2 := cq_le (f := f) (p := p) (z := z') (k := n)
          exact absurd this.symm (nI_nm (by omega))
    have F4 : FG h4 f p := F3.kj J4 (fun k hk => STr.f hk)
    have J4' : KJ SQu h h4 := J3.tr (J4.mo u2)
    clear a4 J4 o17 F3 f3 J3 e3' F2 J2
    refine lpE_intro (fun ⟨a_q, b_q, c_q, h_q, _⟩ => ∃ i : Nat, i ≤ n ∧ nI p = a_q ∧ x2 = b_q ∧ nI i = c_q ∧ KJ SQu h h_q ∧ FG h_q f p ∧ BQ h_q f p n i) (fun ⟨_, _, c_q, _, _⟩ => dif (nI n) c_q) ?_ _ ⟨0, by omega, rfl, rfl, nI_0, J4', F4, b4⟩
    clear b4 F4 J4'
    rintro ⟨y1, y2, y3, h5, g5⟩ K ⟨i, hi, rfl, rfl, rfl, J5, F5, b5⟩ hK
    have f5 : h5 136 = f := (J5.f6 (fun k => by unfold SQu; omega)).trans ef
    unfold F_X11_quarrel_41; dsimp only; unfold b_X11_quarrel_41
    rw [cl1, f5, en]
    refine and_have (vp_in_iff.mpr (by decide)) (fun _ => ⟨fun c => ?_, fun c => ?_⟩)
    · rw [nI_leI (by omega) (by omega)] at c
      have : i = n := by omega
      subst this
      obtain ⟨z, B, fam, l0, ls⟩ := b5
      have ez := bst_eq en hn (BST.of k0 fam l0 ls)
      obtain ⟨B1, B2⟩ := B
      rw [← ez] at B1 B2
      have hz : 1 ≤ bst f p ∧ bst f p ≤ 100000 := by
        obtain ⟨t, t0, t1, et⟩ := fam
        have := k0.sz t0 t1
        rw [ez, et]; omega
      refine ⟨fun q => ?_, fun q => ⟨fun q2 => ⟨J5, .inr ⟨p, hp, rfl, .inl ⟨?_, B1⟩⟩⟩, fun q2 => ⟨J5, .inr ⟨p, hp, rfl, .inr (.inl ⟨q2, B2⟩)⟩⟩⟩⟩
      · have q : 0 ≤ x2.toInt := by rw [Int32.le_iff_toInt_le, i0] at q; exact q
        refine lpE_intro (fun ⟨a_q, b_q, c_q, d_q, h_q, _⟩ => ∃ j : Nat, j ≤ i ∧ nI p = a_q ∧ x2 = b_q ∧ nI (cq f p (bst f p) j) = c_q ∧ nI j = d_q ∧ KJ SQu h h_q ∧ (h_q 135 16).toInt = bst f p ∧ ∀ s, s < j → isO f p s → dn f (bst f p) s = true → ¬ x2 = nI (cq f p (bst f p) s)) (fun ⟨_, _, _, d_q, _, _⟩ => dif (nI i) d_q) ?_ _ ⟨0, by omega, rfl, rfl, nI_0, nI_0, J5, B1, fun s hs => absurd hs (Nat.not_lt_zero s)⟩
        rintro ⟨w1, w2, w3, w4, h6, g6⟩ K2 ⟨j, hj, rfl, rfl, rfl, rfl, J6, o16, no⟩ hK2
        have f6 : h6 136 = f := (J6.f6 (fun k => by unfold SQu; omega)).trans ef
        unfold F_X11_quarrel_129; dsimp only; unfold b_X11_quarrel_129
        rw [cl1, f6, en]
        refine and_have (vp_in_iff.mpr (by decide)) (fun _ => ⟨fun c2 => ⟨J6, .inr ⟨p, hp, rfl, .inr (.inr ⟨q, .inr ⟨fun s hs => no s ?_, rfl⟩⟩)⟩⟩, fun c2 => ?_⟩)
        · rw [nI_leI (by omega) (by omega)] at c2; omega
        · have hd2 := dif_lt c2
          rw [nI_leI (by omega) (by omega)] at c2
          have l2 := cq_le (f := f) (p := p) (z := bst f p) (k := j)
          have nxt : ∀ (a : Nat) (h7 : HI) (g7 : HL), KJ SLt h6 h7 → a = cq f p (bst f p) (j + 1) → (isO f p j → dn f (bst f p) j = true → ¬ x2 = nI (cq f p (bst f p) j)) → j_X11_quarrel_165 (fun s h' _ => KJ SQu h h' ∧ AQ f m i (nI p) x2 s) (fun x1 x2 x3 x4 h g => K2 (x1, x2, x3, x4, h, g)) (nI p) x2 (nI a) (nI j) h7 g7 := by
            rintro a h7 g7 J7 rfl ne
            unfold j_X11_quarrel_165
            rintro _ rfl
            refine hK2 _ ⟨j + 1, by omega, rfl, rfl, rfl, (nI_1 j).symm, J6.tr (J7.mo u3), by rw [J7 135 16 (SLt.k (by omega))]; exact o16, fun s hs o d => ?_⟩ hd2
            by_cases e : s = j
            · subst e; exact ne o d
            · exact no s (by omega) o d
          refine c_qu f6 r v w (s := j) (by omega) (by rw [o16]; exact hz) (fun h7 g7 J7 o d => ⟨fun z => absurd z (by decide), fun _ => ⟨fun ne => ?_, fun ne => ?_⟩⟩) (fun h7 g7 J7 o => ⟨fun _ => ?_, fun z => absurd rfl z⟩)
          · rw [o16] at d
            rintro _ rfl
            rw [show nI (cq f p (bst f p) j) + (1 : Int32) = nI (cq f p (bst f p) j + 1) from nI_1 _]
            exact nxt _ h7 g7 J7 (cq_y o d).symm (fun _ _ e => ne e.symm)
          · rw [o16] at d
            exact ⟨J6.tr (J7.mo u3), .inr ⟨p, hp, rfl, .inr (.inr ⟨q, .inl ⟨j, by omega, o, d, ne.symm, rfl⟩⟩)⟩⟩
          · rw [o16] at o
            exact nxt _ h7 g7 J7 (cq_n o).symm (fun o1 d1 => absurd ⟨o1, d1⟩ o)
      · rcases ok with ok | ok
        · have q : ¬ 0 ≤ x2.toInt := by rw [Int32.le_iff_toInt_le, i0] at q; exact q
          exact absurd (Int32.toInt_inj.mp (show x2.toInt = (-1 : Int32).toInt by rw [im1]; omega)) q2
        · exact ok
    · have hd := dif_lt c
      rw [nI_leI (by omega) (by omega)] at c
      have nxt : ∀ (h6 : HI) (g6 : HL), KJ SQu h h6 → FG h6 f p → BQ h6 f p n (i + 1) → j_X11_quarrel_97 (fun s h' _ => KJ SQu h h' ∧ AQ f m n (nI p) x2 s) (fun x1 x2 x3 h g => K (x1, x2, x3, h, g)) (nI p) x2 (nI i) h6 g6 := by
        intro h6 g6 J6 F6 b6
        unfold j_X11_quarrel_97
        rintro _ rfl
        exact hK _ ⟨i + 1, by omega, rfl, rfl, (nI_1 i).symm, J6, F6, b6⟩ hd
      refine c_isO (by omega) (fun o => ⟨fun z => absI z, fun _ => ?_⟩) (fun o => ⟨fun _ => ?_, fun z => absN z⟩)
      rotate_left
      · rw [f5] at o
        obtain ⟨z, B, fam, l0, ls⟩ := b5
        refine nxt h5 _ J5 F5 ⟨z, B, fam, l0, fun s hs o' hp => ?_⟩
        by_cases e : s = i
        · subst e; exact absurd o' o
        · exact ls s (by omega) o' hp
      rw [f5] at o
      refine c_v (q_X11_lets f5 r v w (s := i) (by omega)) ?_
      rintro h6 g6 ⟨J6, c9, c10⟩
      have F6 : FG h6 f p := F5.kj J6 (fun k hk => SLt.k (by omega))
      have b6 : BQ h6 f p n i := by
        obtain ⟨z, B, rest⟩ := b5
        exact ⟨z, ⟨by rw [J6 135 16 (SLt.k (by omega))]; exact B.1, by rw [J6 135 17 (SLt.k (by omega))]; exact B.2⟩, rest⟩
      have J6' : KJ SQu h h6 := J5.tr (J6.mo u3)
      have f6 : h6 136 = f := (J6'.f6 (fun k => by unfold SQu; omega)).trans ef
      obtain ⟨w1, w2, w3, w4⟩ := rLH v w (s := i) (by omega)
      intro x4 ex4
      have e4 : (x4 + 1).toInt = rHi f i + 1 := i_add (by rw [ex4]; exact c10) i1 (by omega)
      clear ex4
      refine c_i (q_X11_numberFrom c9 F6.1 F6.2.1 (by omega) (by omega) (by omega)) ?_
      rintro ra _ _ ⟨era, rfl, rfl⟩
      refine c_v (q_X11_tries f6 r v w (n := n) (x := ra) (by omega) en hn F6.1 F6.2.1 F6.2.2 (.inr ⟨_, b6.choose_spec.1⟩)) ?_
      rintro h7 g7 ⟨J7, a7⟩
      obtain ⟨b7, l7⟩ := b6.tr a7
      have b8 : BQ h7 f p n (i + 1) := by
        obtain ⟨z, B, fam, l0, ls⟩ := b7
        refine ⟨z, B, fam, l0, fun s hs o' hp => ?_⟩
        by_cases e : s = i
        · subst e
          have pb := pfN_bd (b := fB f p) (d := fD f p) (z := rLo f s) k1 k2 k3 (by omega)
          have := l7 (by omega) (by rw [era, pf_rc k1]; exact hp) z B
          rw [era, pf_rc k1] at this
          exact this
        · exact ls s (by omega) o' hp
      have F7 : FG h7 f p := F6.kj J7 (fun k hk => STr.f hk)
      have J7' : KJ SQu h h7 := J6'.tr (J7.mo u2)
      have f7 : h7 136 = f := (J7'.f6 (fun k => by unfold SQu; omega)).trans ef
      refine c_i (q_X11_numberFrom e4 F7.1 F7.2.1 (by omega) (by omega) (by omega)) ?_
      rintro rb _ _ ⟨-, rfl, rfl⟩
      refine c_v (q_X11_tries f7 r v w (n := n) (x := rb) (by omega) en hn F7.1 F7.2.1 F7.2.2 (.inr ⟨_, b8.choose_spec.1⟩)) ?_
      rintro h9 g9 ⟨J9, a9⟩
      exact nxt h9 g9 (J7'.tr (J9.mo u2)) (F7.kj J9 (fun k hk => STr.f hk)) (b8.tr a9).1
  refine ⟨fun q => go _ (.inl ?_), fun q => ⟨fun q2 => go _ (.inr q2), fun q2 => ⟨KJ.rf, .inl ⟨fun k => ?_, rfl⟩⟩⟩⟩
  · rw [i_le im1 rfl] at q; exact q
  · rw [i_le im1 rfl] at q
    rcases k.2 with k | k
    · exact q k
    · exact q2 k
