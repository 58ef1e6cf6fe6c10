section
-- 53.st
/-! THE STEPS, with what the tables hold -/
theorem PTr.get {A : Prop} {h h' : HI} (b : PTr A h h') : A ∧ (∀ o, o ≠ 136 → h' o = h o) ∧ ∀ i, i < 9 → h' 136 i = h 136 i := by
  obtain ⟨a, f, ⟨F, Ff, R⟩, ef⟩ := b
  exact ⟨a, F, fun i hi => by rw [Ff]; exact ef i hi⟩
theorem up_rel {a a' f f' : Nat → Int32} {N b i i' : Nat} {x : Int32} (c : ∀ k, k < N → a k = f (b + k)) (e : a' = upd a i x) (e' : f' = upd f i' x) (hi : i' = b + i) : ∀ k, k < N → a' k = f' (b + k) := by
  subst hi
  intro k hk
  rw [e, e']
  by_cases q : k = i
  · subst q; rw [pk_us, pk_us]
  · rw [pk_un q, pk_un (by omega)]; exact c k hk
theorem XR.put {f f' : Nat → Int32} (x : XR f) (e9 : ∀ i, i < 9 → f' i = f i) (e : ∀ k, 152 ≤ k → k < 672 → f' k = f k) : XR f' := x.cg (by rw [e9 0 (by omega)]; exact Int.le_refl _) (e9 1 (by omega)) (e9 2 (by omega)) e
theorem st_family {h h1 h2 : HI} {r s x1 x2 x3 x4 : Int32} (q : RLT h) (T0 : TT h 4 4 3 4) (a : PTc (EFc x1 x2 x3 x4 h r h1) h h1 4 4 3 4) (b : PTr (EFr x1 x2 x3 x4 h1 s h2) h1 h2) : r = s ∧ RLT h2 := by
  obtain ⟨a, J, T⟩ := a
  obtain ⟨b, F, e9⟩ := b.get
  have e6 : h1 136 = h 136 := J 136 (by unfold SM; omega)
  rcases a with ⟨a1, rfl, rfl⟩ | ⟨a1, rfl, n, hn, rfl, A⟩
  · rcases b with ⟨b1, rfl, rfl⟩ | ⟨b1, -⟩
    · exact ⟨rfl, q⟩
    · exact absurd b1 a1
  · rcases b with ⟨b1, -⟩ | ⟨b1, rfl, n', hn', en, B⟩
    · exact absurd a1 b1
    · have : n = n' := (nI_eq (by omega) (by omega)).mp en
      subst this
      rw [e6] at B e9
      have fr : ∀ k, k < 140 ∨ 152 ≤ k → h2 136 k = h 136 k := fun k k3 => by
        rw [B, pk_un (by omega), pk_un (by omega), pk_un (by omega)]
      refine ⟨rfl, q.put (j := 1) (by omega) J F (fun k k1 k2 k3 => fr k k3) (fun m hm ht => ?_) (q.1.2.put e9 (fun k k1 k2 => fr k (by omega)))⟩
      have T2 : TT h2 4 4 3 4 := T.cg (F 4 (by decide))
      have : m = 4 := T2.nu ht hm
      subst this
      have c0 : ∀ k, k < 12 → h 5 k = h 136 (140 + k) := (CE.es (j := 1) (by decide) (by decide)).mp (q.1.1 1 4 (by omega) hm T0.2.2.1)
      have c1 := up_rel (x := x2) (i := n * 3 + 0) (i' := 140 + 3 * n) c0 rfl rfl (by omega)
      have c2 := up_rel (x := x3) (i := n * 3 + 1) (i' := 140 + 3 * n + 1) c1 rfl rfl (by omega)
      have c3 := up_rel (x := x4) (i := n * 3 + 2) (i' := 140 + 3 * n + 2) c2 rfl rfl (by omega)
      refine (CE.es (by decide) (by decide)).mpr ?_
      intro k hk
      have hk : k < 12 := hk
      show h2 5 k = h2 136 (140 + k)
      rw [F 5 (by decide), A, B]
      exact c3 k hk
theorem st_odds {h h1 h2 : HI} {r s x1 x2 : Int32} (q : RLT h) (T0 : TT h 16 1 2 1) (a : PTc (EOc x1 x2 h r h1) h h1 16 1 2 1) (b : PTr (EOr x1 x2 h1 s h2) h1 h2) : r = s ∧ RLT h2 := by
  obtain ⟨a, J, T⟩ := a
  obtain ⟨b, F, e9⟩ := b.get
  have e6 : h1 136 = h 136 := J 136 (by unfold SM; omega)
  rcases a with ⟨a1, rfl, rfl⟩ | ⟨a1, rfl, A⟩
  · rcases b with ⟨b1, rfl, rfl⟩ | ⟨b1, -⟩
    · exact ⟨rfl, q⟩
    · exact absurd b1 a1
  · rcases b with ⟨b1, -⟩ | ⟨b1, rfl, B⟩
    · exact absurd a1 b1
    · rw [e6] at B e9
      have fr : ∀ k, k < 9 ∨ 11 ≤ k → h2 136 k = h 136 k := fun k k3 => by
        rw [B, pk_un (by omega), pk_un (by omega)]
      refine ⟨rfl, q.put (j := 7) (by omega) J F (fun k k1 k2 k3 => fr k k3) (fun m hm ht => ?_) (q.1.2.put e9 (fun k k1 k2 => fr k (by omega)))⟩
      have T2 : TT h2 16 1 2 1 := T.cg (F 16 (by decide))
      have : m = 1 := T2.nu ht hm
      subst this
      have c0 : ∀ k, k < 2 → h 17 k = h 136 (9 + k) := (CE.es (j := 7) (by decide) (by decide)).mp (q.1.1 7 1 (by omega) hm T0.2.2.1)
      have c1 := up_rel (x := x1) (i := 0 * 2 + 0) (i' := 9) c0 rfl rfl (by omega)
      have c2 := up_rel (x := x2) (i := 0 * 2 + 1) (i' := 10) c1 rfl rfl (by omega)
      refine (CE.es (by decide) (by decide)).mpr ?_
      intro k hk
      have hk : k < 2 := hk
      show h2 17 k = h2 136 (9 + k)
      rw [F 17 (by decide), A, B]
      exact c2 k hk
theorem st_need {h h1 h2 : HI} {r s x1 x2 : Int32} (q : RLT h) (T0 : TT h 22 4 1 4) (a : PTc (ENc x1 x2 h r h1) h h1 22 4 1 4) (b : PTr (ENr x1 x2 h1 s h2) h1 h2) : r = s ∧ RLT h2 := by
  obtain ⟨a, J, T⟩ := a
  obtain ⟨b, F, e9⟩ := b.get
  have e6 : h1 136 = h 136 := J 136 (by unfold SM; omega)
  have c0 : ∀ k, k < 4 → h 23 k = h 136 (823 + k) := (CE.es (j := 10) (by decide) (by decide)).mp (q.1.1 10 4 (by omega) (Nat.le_refl _) T0.2.2.1)
  rcases a with ⟨a1, rfl, rfl⟩ | ⟨a1, n, hn, rfl, er, A⟩
  · rcases b with ⟨b1, rfl, rfl⟩ | ⟨b1, -⟩
    · exact ⟨rfl, q⟩
    · exact absurd b1 a1
  · rcases b with ⟨b1, -⟩ | ⟨b1, n', hn', en, es, B⟩
    · exact absurd a1 b1
    · have : n = n' := (nI_eq (by omega) (by omega)).mp en
      subst this
      rw [e6] at B e9 es
      have fr : ∀ k, k < 823 ∨ 827 ≤ k → h2 136 k = h 136 k := fun k k3 => by
        rw [B, pk_un (by omega)]
      refine ⟨?_, q.put (j := 10) (by omega) J F (fun k k1 k2 k3 => fr k k3) (fun m hm ht => ?_) (q.1.2.put e9 (fun k k1 k2 => fr k (by omega)))⟩
      · rw [er, es, c0 (n * 1 + 0) (by omega)]; congr 1; omega
      have T2 : TT h2 22 4 1 4 := T.cg (F 22 (by decide))
      have : m = 4 := T2.nu ht hm
      subst this
      have c1 := up_rel (x := x2) (i := n * 1 + 0) (i' := 823 + n) c0 rfl rfl (by omega)
      refine (CE.es (by decide) (by decide)).mpr ?_
      intro k hk
      have hk : k < 4 := hk
      show h2 23 k = h2 136 (823 + k)
      rw [F 23 (by decide), A, B]
      exact c1 k hk
theorem bt2_id {x : Int32} (h : x = 0 ∨ x = 1) : bt2 x = x := by
  rcases h with rfl | rfl
  · exact if_neg (by decide)
  · exact if_pos rfl
theorem zf_id {x : Int32} (h : x = 0 ∨ x = 1) : zf x = x := by
  rcases h with rfl | rfl
  · exact if_pos rfl
  · exact if_neg (by decide)
theorem st_deny {h h1 h2 : HI} {r s x1 x2 : Int32} {m : Nat} (q : RLT h) (T0 : TT h 6 m 6 60) (k : h 136 1 = nI m) (z : x2 = 0 ∨ x2 = 1) (a : PTc (EDc m x1 x2 h r h1) h h1 6 m 6 60) (b : PTr (EDr x1 x2 h1 s h2) h1 h2) : r = s ∧ RLT h2 := by
  obtain ⟨a, J, T⟩ := a
  obtain ⟨b, F, e9⟩ := b.get
  have hm := T0.2.2.2.1
  have e6 : h1 136 = h 136 := J 136 (by unfold SM; omega)
  have c0 : ∀ k, k < m * 6 → h 7 k = h 136 (152 + k) := (CE.es (j := 2) (by decide) (by decide)).mp (q.1.1 2 m (by omega) hm T0.2.2.1)
  have ec : h 6 3 = h 136 1 := T0.2.2.1.trans k.symm
  unfold EDc at a
  unfold EDr at b
  rw [e6] at b e9
  rw [ec] at a
  rcases a with ⟨a1, rfl, rfl⟩ | ⟨n, hn, rfl, a⟩
  · rcases b with ⟨b1, rfl, rfl⟩ | ⟨b1, -⟩
    · exact ⟨rfl, q⟩
    · exact absurd b1 a1
  · rcases b with ⟨b1, -⟩ | ⟨b1, n', hn', en, b⟩
    · exact absurd (by rw [k]; exact row_of hn (by omega)) b1
    · have : n = n' := (nI_eq (by omega) (by omega)).mp en
      subst this
      have x := (q.1.2.1 n m k hm hn).2
      have ev : h 7 (n * 6 + 5) = h 136 (152 + (n * 6 + 5)) := c0 _ (by omega)
      rw [show 152 + 6 * n + 5 = 152 + (n * 6 + 5) by omega, bt2_id x, zf_id z] at b
      rw [ev, zf_id z] at a
      rcases a with ⟨a1, rfl, rfl⟩ | ⟨a1, rfl, A⟩
      · rcases b with ⟨b1, rfl, rfl⟩ | ⟨b1, -⟩
        · exact ⟨rfl, q⟩
        · exact absurd a1 b1
      · rcases b with ⟨b1, -⟩ | ⟨b1, rfl, B⟩
        · exact absurd b1 a1
        · have fr : ∀ k, k < 152 ∨ 512 ≤ k → h2 136 k = h 136 k := fun k k3 => by
            rw [B, pk_un (by omega)]
          refine ⟨rfl, q.put (j := 2) (by omega) J F (fun k k1 k2 k3 => fr k k3) (fun m' hm' ht => ?_) ⟨fun r n' g1 g2 g3 => ?_, fun r n' k' c' g1 g2 g3 g4 g5 g6 => ?_⟩⟩
          · have T2 : TT h2 6 m 6 60 := T.cg (F 6 (by decide))
            have : m' = m := T2.nu ht hm'
            subst this
            have c1 := up_rel (x := x2) (i := n * 6 + 5) (i' := 152 + (n * 6 + 5)) c0 rfl rfl rfl
            refine (CE.es (by decide) (by decide)).mpr ?_
            intro k hk
            have hk : k < m' * 6 := hk
            show h2 7 k = h2 136 (152 + k)
            rw [F 7 (by decide), A, B]
            exact c1 k hk
          · rw [e9 1 (by omega)] at g1
            obtain ⟨y1, y2⟩ := q.1.2.1 r n' g1 g2 g3
            rw [e9 0 (by omega), B]
            refine ⟨by rw [pk_un (by omega)]; exact y1, ?_⟩
            by_cases e : r = n
            · subst e; rw [pk_us]; exact z
            · rw [pk_un (by omega)]; exact y2
          · rw [e9 2 (by omega)] at g1
            rw [fr (512 + (r * 10 + 2)) (by omega)] at g4
            rw [fr (512 + (r * 10 + (3 + k'))) (by omega), e9 0 (by omega)]
            exact q.1.2.2 r n' k' c' g1 g2 g3 g4 g5 g6
theorem sl_t : ∀ n, n < 32 → ((nI n &&& 31).toBitVec.smod 32).toNat = n := by decide +kernel
theorem sh_t : ∀ n, n < 24 → (1 : Int32) <<< (nI n &&& 31) = nI (2 ^ n) := by decide +kernel
theorem nI_and (a b : Nat) : nI a &&& nI b = nI (a &&& b) := by
  unfold nI
  apply Int32.toBitVec_inj.mp
  rw [Int32.toBitVec_and]
  show BitVec.ofNat 32 a &&& BitVec.ofNat 32 b = BitVec.ofNat 32 (a &&& b)
  apply BitVec.eq_of_toNat_eq
  rw [BitVec.toNat_and, BitVec.toNat_ofNat, BitVec.toNat_ofNat, BitVec.toNat_ofNat, Nat.and_mod_two_pow]
theorem nI_xor (a b : Nat) : nI a ^^^ nI b = nI (a ^^^ b) := by
  unfold nI
  apply Int32.toBitVec_inj.mp
  rw [Int32.toBitVec_xor]
  show BitVec.ofNat 32 a ^^^ BitVec.ofNat 32 b = BitVec.ofNat 32 (a ^^^ b)
  apply BitVec.eq_of_toNat_eq
  rw [BitVec.toNat_xor, BitVec.toNat_ofNat, BitVec.toNat_ofNat, BitVec.toNat_ofNat, Nat.xor_mod_two_pow]
theorem bit_n {n a : Nat} (hn : n < 2 ^ 31) (ha : a < 32) : (nI n >>> (nI a &&& 31)) &&& 1 = 1 ↔ n.testBit a = true := by
  rw [pk_shrN hn _ a (sl_t a ha), show (1 : Int32) = nI 1 from rfl, nI_and, Nat.and_one_is_mod, nI_eq (by omega) (by omega), Nat.testBit_eq_decide_div_mod_eq, decide_eq_true_iff]
theorem bt1_n {n a : Nat} (hn : n < 2 ^ 31) (ha : a < 32) : bt1 (nI n) a = if n.testBit a = true then 1 else 0 := by
  unfold bt1
  by_cases c : n.testBit a = true
  · rw [if_pos c, if_pos ((bit_n hn ha).mpr c)]
  · rw [if_neg c, if_neg (fun q => c ((bit_n hn ha).mp q))]
theorem p2_24 {a : Nat} (h : a < 24) : 2 ^ a < 2 ^ 24 := Nat.pow_lt_pow_right (by decide) h
theorem st_bear {h h1 h2 : HI} {r s x1 x2 x3 : Int32} {m : Nat} (q : RLT h) (T0 : TT h 2 m 5 24) (k : h 136 0 = nI m) (a : PTc (EBc m x1 x2 x3 h r h1) h h1 2 m 5 24) (b : PTr (EBr x1 x2 x3 h1 s h2) h1 h2) : r = s ∧ RLT h2 := by
  obtain ⟨a, J, T⟩ := a
  obtain ⟨b, F, e9⟩ := b.get
  have hm := T0.2.2.2.1
  have e6 : h1 136 = h 136 := J 136 (by unfold SM; omega)
  have c0 : CP h 1 (h 136) m := CE.e0.mp (q.1.1 0 m (by omega) hm T0.2.2.1)
  have ec : h 2 3 = h 136 0 := T0.2.2.1.trans k.symm
  unfold EBc at a
  unfold EBr at b
  rw [e6] at b e9
  rw [ec] at a
  rcases a with ⟨a1, rfl, rfl⟩ | ⟨a1, A, B, hA, hB, rfl, rfl, a⟩
  · rcases b with ⟨b1, rfl, rfl⟩ | ⟨b1, -⟩
    · exact ⟨rfl, q⟩
    · exact absurd b1 a1
  · rcases b with ⟨b1, -⟩ | ⟨b1, A', B', hA', hB', eA, eB, b⟩
    · exact absurd a1 b1
    · have : A = A' := (nI_eq (by omega) (by omega)).mp eA
      subst this
      have : B = B' := (nI_eq (by omega) (by omega)).mp eB
      subst this
      obtain ⟨d1, cN, rN, d2, d3, d4⟩ := c0
      obtain ⟨p1, -, p2, -⟩ := d2 B hB
      obtain ⟨-, p3, -, p4⟩ := d2 A hA
      have p2 : h 3 (B * 5 + 4) = nI (cN B) := p2
      rw [show 20 + 5 * A + 4 = 20 + (A * 5 + 4) by omega, p4, bt1_n (by omega) (by omega), ← d4 A B] at b
      rw [p2, bt1_n (by omega) (by omega)] at a
      rcases a with ⟨a5, rfl, rfl⟩ | ⟨a5, rfl, C⟩
      · rcases b with ⟨b5, rfl, rfl⟩ | ⟨b5, -⟩
        · exact ⟨rfl, q⟩
        · exact absurd a5 b5
      · rcases b with ⟨b5, -⟩ | ⟨b5, rfl, D⟩
        · exact absurd b5 a5
        · rw [sh_t A hA', nI_xor] at C
          rw [sh_t B hB', nI_xor] at D
          have fr : ∀ k, k < 20 ∨ 140 ≤ k → h2 136 k = h 136 k := fun k k3 => by
            rw [D, pk_un (by omega)]
          refine ⟨rfl, q.put (j := 0) (by omega) J F (fun k k1 k2 k3 => fr k k3) (fun m' hm' ht => ?_) (q.1.2.put e9 (fun k k1 k2 => fr k (by omega)))⟩
          have T2 : TT h2 2 m 5 24 := T.cg (F 2 (by decide))
          have : m' = m := T2.nu ht hm'
          subst this
          refine CE.e0.mpr ?_
          have C' : h2 (1 + (1 + 2 * 0) + 1) = upd (h 3) (B * 5 + 4) (nI (cN B ^^^ 2 ^ A)) := (F 3 (by decide)).trans C
          refine ⟨fun p hp c hc => ?_, fun p => if p = B then cN B ^^^ 2 ^ A else cN p, fun p => if p = A then rN A ^^^ 2 ^ B else rN p, fun p hp => ?_, fun p hp => ?_, fun x y => ?_⟩
          · rw [C', D, pk_un (by omega), pk_un (by omega)]; exact d1 p hp c hc
          · obtain ⟨g1, g2, g3, g4⟩ := d2 p hp
            have g3 : h 3 (p * 5 + 4) = nI (cN p) := g3
            dsimp only
            rw [C', D]
            refine ⟨?_, ?_, ?_, ?_⟩
            · by_cases e : p = B
              · rw [if_pos e]; exact Nat.xor_lt_two_pow p1 (p2_24 hA')
              · rw [if_neg e]; exact g1
            · by_cases e : p = A
              · rw [if_pos e]; exact Nat.xor_lt_two_pow p3 (p2_24 hB')
              · rw [if_neg e]; exact g2
            · by_cases e : p = B
              · rw [if_pos e, e, pk_us]
              · rw [if_neg e, pk_un (by omega)]; exact g3
            · by_cases e : p = A
              · rw [if_pos e, e, pk_us]
              · rw [if_neg e, pk_un (by omega)]; exact g4
          · dsimp only
            rw [if_neg (by omega), if_neg (by omega)]
            exact d3 p hp
          · dsimp only
            by_cases ey : y = B
            · rw [if_pos ey]
              by_cases ex : x = A
              · rw [if_pos ex, Nat.testBit_xor, Nat.testBit_xor, ex, ey, Nat.testBit_two_pow_self, Nat.testBit_two_pow_self, d4 A B]
              · rw [if_neg ex, Nat.testBit_xor, Nat.testBit_two_pow_of_ne (fun e => ex e.symm), Bool.xor_false, ey]; exact d4 x B
            · rw [if_neg ey]
              by_cases ex : x = A
              · rw [if_pos ex, Nat.testBit_xor, Nat.testBit_two_pow_of_ne (fun e => ey e.symm), Bool.xor_false, ex]; exact d4 A y
              · rw [if_neg ex]; exact d4 x y
theorem st_link {h h1 h2 : HI} {r s x1 x2 x3 : Int32} {m : Nat} (q : RLT h) (T0 : TT h 8 m 15 16) (k : h 136 2 = nI m) (n0 : h 2 3 = h 136 0) (a : PTc (ELc m x1 x2 x3 h r h1) h h1 8 m 15 16) (b : PTr (ELr x1 x2 x3 h1 s h2) h1 h2) : r = s ∧ RLT h2 := by
  obtain ⟨a, J, T⟩ := a
  obtain ⟨b, F, e9⟩ := b.get
  have hm := T0.2.2.2.1
  have e6 : h1 136 = h 136 := J 136 (by unfold SM; omega)
  have c0 : CC h 1 (h 136) m := CE.e3.mp (q.1.1 3 m (by omega) hm T0.2.2.1)
  have ec : h 8 3 = h 136 2 := T0.2.2.1.trans k.symm
  unfold ELc at a
  unfold ELr at b
  rw [e6] at b e9
  rw [ec, n0] at a
  rcases a with ⟨a1, rfl, rfl⟩ | ⟨a1, c, n, hc, hn, rfl, en, a⟩
  · rcases b with ⟨b1, rfl, rfl⟩ | ⟨b1, -⟩
    · exact ⟨rfl, q⟩
    · exact absurd b1 a1
  · rcases b with ⟨b1, -⟩ | ⟨b1, c', n', hc', hn', ecc, en', b⟩
    · exact absurd a1 b1
    · have : c = c' := (nI_eq (by omega) (by omega)).mp ecc
      subst this
      obtain ⟨g1, g2, g3, ng, og, g4, g5, g6, g7, g8⟩ := c0 c hc
      rw [show 512 + 10 * c + 2 = 512 + (c * 10 + 2) by omega] at en' b
      have : n = n' := by
        have e : nI n = nI n' := en.symm.trans (g3.trans en')
        exact (nI_eq (by omega) (by omega)).mp e
      subst this
      have : n = ng := (nI_eq (by omega) (by omega)).mp (en'.symm.trans g5)
      subst this
      have mem : ∀ k, k < n → (h 9 (c * 15 + (3 + 2 * k)) = x2 ↔ h 136 (512 + 10 * c + (3 + k)) = x2) := fun k hk => by
        have e := (g8 k hk).1
        have e : h 9 (c * 15 + (3 + 2 * k)) = h 136 (512 + (c * 10 + (3 + k))) := e
        rw [e, show 512 + (c * 10 + (3 + k)) = 512 + 10 * c + (3 + k) by omega]
      rcases a with ⟨⟨ka, ha, ea⟩, rfl, rfl⟩ | ⟨noa, a⟩
      · rcases b with ⟨-, rfl, rfl⟩ | ⟨nob, -⟩
        · exact ⟨rfl, q⟩
        · exact absurd ((mem ka ha).mp ea) (nob ka ha)
      · rcases b with ⟨⟨kb, hb, eb⟩, -⟩ | ⟨nob, b⟩
        · exact absurd ((mem kb hb).mpr eb) (noa kb hb)
        rcases a with ⟨a2, rfl, rfl⟩ | ⟨a2, rfl, A⟩
        · rcases b with ⟨b2, rfl, rfl⟩ | ⟨b2, -⟩
          · exact ⟨rfl, q⟩
          · omega
        · rcases b with ⟨b2, -⟩ | ⟨b2, rfl, B⟩
          · omega
          · have fr : ∀ k, k < 512 ∨ 672 ≤ k → h2 136 k = h 136 k := fun k k3 => by
              rw [B, pk_un (by omega), pk_un (by omega), pk_un (by omega)]
            have fc : ∀ r' k, r' ≠ c → k < 10 → h2 136 (512 + (r' * 10 + k)) = h 136 (512 + (r' * 10 + k)) := fun r' k e1 e2 => by
              rw [B, pk_un (by omega), pk_un (by omega), pk_un (by omega)]
            have A' : h2 (1 + (1 + 2 * 3) + 1) = upd (upd (upd (h 9) (c * 15 + (3 + 2 * n)) x2) (c * 15 + (3 + 2 * n + 1)) (zf x3)) (c * 15 + 2) (nI (n + 1)) := (F 9 (by decide)).trans A
            refine ⟨rfl, q.put (j := 3) (by omega) J F (fun k k1 k2 k3 => fr k k3) (fun m' hm' ht => ?_) ⟨fun r n' g1 g2 g3 => ?_, fun r n' k' c' y1 y2 y3 y4 y5 y6 => ?_⟩⟩
            · have T2 : TT h2 8 m 15 16 := T.cg (F 8 (by decide))
              have : m' = m := T2.nu ht hm'
              subst this
              refine CE.e3.mpr (fun r' hr' => ?_)
              by_cases er : r' = c
              · subst er
                rw [show 512 + 10 * r' + 3 + n = 512 + (r' * 10 + (3 + n)) by omega, show 512 + 10 * r' + 9 = 512 + (r' * 10 + 9) by omega, g7] at B
                refine ⟨?_, ?_, ?_, n + 1, og ||| (if x3 = 0 then 0 else 2 ^ n), by omega, ?_, ?_, ?_, fun k hk => ?_⟩
                · rw [A', B, pk_un (by omega), pk_un (by omega), pk_un (by omega), pk_un (by omega), pk_un (by omega), pk_un (by omega)]; exact g1
                · rw [A', B, pk_un (by omega), pk_un (by omega), pk_un (by omega), pk_un (by omega), pk_un (by omega), pk_un (by omega)]; exact g2
                · rw [A', B, pk_us, pk_us]
                · rw [B, pk_us]
                · refine Nat.or_lt_two_pow (Nat.lt_of_lt_of_le g6 (Nat.pow_le_pow_right (by decide) (by omega))) ?_
                  by_cases ez : x3 = 0
                  · rw [if_pos ez]; exact Nat.two_pow_pos _
                  · rw [if_neg ez]; exact Nat.pow_lt_pow_right (by decide) (by omega)
                · rw [B, pk_un (by omega), pk_us]
                  unfold zs
                  by_cases ez : x3 = 0
                  · rw [if_pos ez, if_pos ez, Nat.or_zero, show (0 : Int32) = nI 0 from rfl, nI_or, Nat.or_zero]
                  · rw [if_neg ez, if_neg ez, shl_t n (by omega), nI_or]
                · by_cases ek : k = n
                  · subst ek
                    refine ⟨?_, ?_⟩
                    · rw [A', B, pk_un (by omega), pk_un (by omega), pk_us, pk_un (by omega), pk_un (by omega), pk_us]
                    · rw [A', pk_un (by omega), ps_u (by omega), Nat.testBit_or, Nat.testBit_lt_two_pow g6, Bool.false_or]
                      unfold zf
                      by_cases ez : x3 = 0
                      · rw [if_pos ez, if_pos ez, Nat.zero_testBit, if_neg (by decide)]
                      · rw [if_neg ez, if_neg ez, Nat.testBit_two_pow_self, if_pos rfl]
                  · obtain ⟨w1, w2⟩ := g8 k (by omega)
                    refine ⟨?_, ?_⟩
                    · rw [A', B, pk_un (by omega), pk_un (by omega), pk_un (by omega), pk_un (by omega), pk_un (by omega), pk_un (by omega)]; exact w1
                    · rw [A', pk_un (by omega), pk_un (by omega), pk_un (by omega), Nat.testBit_or]
                      have : (if x3 = 0 then 0 else 2 ^ n).testBit k = false := by
                        by_cases ez : x3 = 0
                        · rw [if_pos ez]; exact Nat.zero_testBit _
                        · rw [if_neg ez]; exact Nat.testBit_two_pow_of_ne (fun e => ek e.symm)
                      rw [this, Bool.or_false]
                      exact w2
              · obtain ⟨w1, w2, w3, nw, ow, w4, w5, w6, w7, w8⟩ := c0 r' hr'
                have fa : ∀ k, k < 15 → h2 (1 + (1 + 2 * 3) + 1) (r' * 15 + k) = h 9 (r' * 15 + k) := fun k hk => by
                  rw [A', pk_un (by omega), pk_un (by omega), pk_un (by omega)]
                refine ⟨?_, ?_, ?_, nw, ow, w4, ?_, w6, ?_, fun k hk => ⟨?_, ?_⟩⟩
                · exact (fa 0 (by omega)).trans (w1.trans (fc r' 0 er (by omega)).symm)
                · rw [fa 1 (by omega), fc r' 1 er (by omega)]; exact w2
                · rw [fa 2 (by omega), fc r' 2 er (by omega)]; exact w3
                · rw [fc r' 2 er (by omega)]; exact w5
                · rw [fc r' 9 er (by omega)]; exact w7
                · rw [fa (3 + 2 * k) (by omega), fc r' (3 + k) er (by omega)]; exact (w8 k hk).1
                · rw [fa (4 + 2 * k) (by omega)]; exact (w8 k hk).2
            · rw [e9 1 (by omega)] at g1
              rw [e9 0 (by omega), fr _ (by omega), fr _ (by omega)]
              exact q.1.2.1 r n' g1 g2 g3
            · rw [e9 2 (by omega)] at y1
              rw [e9 0 (by omega)]
              by_cases er : r = c
              · subst er
                rw [B, pk_us] at y4
                have : c' = n + 1 := (nI_eq (by omega) (by omega)).mp y4.symm
                subst this
                by_cases ek : k' = n
                · subst ek
                  rw [B, pk_un (by omega), pk_un (by omega), ps_u (by omega)]
                  exact a1.2
                · rw [B, pk_un (by omega), pk_un (by omega), pk_un (by omega)]
                  exact q.1.2.2 r n' k' n y1 y2 y3 en' (by omega) (by omega)
              · rw [fc r 2 er (by omega)] at y4
                rw [fc r (3 + k') er (by omega)]
                exact q.1.2.2 r n' k' c' y1 y2 y3 y4 y5 y6
theorem ff_part {f f' : Nat → Int32} {m : Nat} {x1 x2 x3 x4 : Int32} (e : f' = upd (upd (upd (upd (upd (upd f (20 + 5 * m) x1) (20 + 5 * m + 1) x2) (20 + 5 * m + 2) x3) (20 + 5 * m + 3) x4) (20 + 5 * m + 4) 0) 0 (nI (m + 1))) : FF f f' 0 m (rowc x1 x2 x3 x4) := by
  have g1 : ∀ k, 9 ≤ k → k < 887 → (k < 20 + m * 5 ∨ 20 + m * 5 + 5 ≤ k) → f' k = f k := fun k k1 k2 k3 => by
    rw [e, pk_un (by omega), pk_un (by omega), pk_un (by omega), pk_un (by omega), pk_un (by omega), pk_un (by omega)]
  have g2 : ∀ c, c < 5 → f' (20 + (m * 5 + c)) = (rowc x1 x2 x3 x4) c := by
    intro c hc
    rw [e]
    have : c = 0 ∨ c = 1 ∨ c = 2 ∨ c = 3 ∨ c = 4 := by omega
    rcases this with rfl | rfl | rfl | rfl | rfl
    · rw [pk_un (by omega), pk_un (by omega), pk_un (by omega), pk_un (by omega), pk_un (by omega), ps_u (by omega)]; rfl
    · rw [pk_un (by omega), pk_un (by omega), pk_un (by omega), pk_un (by omega), ps_u (by omega)]; rfl
    · rw [pk_un (by omega), pk_un (by omega), pk_un (by omega), ps_u (by omega)]; rfl
    · rw [pk_un (by omega), pk_un (by omega), ps_u (by omega)]; rfl
    · rw [pk_un (by omega), ps_u (by omega)]; rfl
  exact ⟨g1, g2⟩
theorem ff_machine {f f' : Nat → Int32} {m : Nat} {x1 : Int32} (e : f' = upd (upd f (704 + m) x1) 4 (nI (m + 1))) : FF f f' 5 m (rowc x1 0 0 0) := by
  have g1 : ∀ k, 9 ≤ k → k < 887 → (k < 704 + m * 1 ∨ 704 + m * 1 + 1 ≤ k) → f' k = f k := fun k k1 k2 k3 => by
    rw [e, pk_un (by omega), pk_un (by omega)]
  have g2 : ∀ c, c < 1 → f' (704 + (m * 1 + c)) = (rowc x1 0 0 0) c := by
    intro c hc
    rw [e]
    have : c = 0 := by omega
    subst this
    rw [pk_un (by omega), ps_u (by omega)]; rfl
  exact ⟨g1, g2⟩
theorem ff_spare {f f' : Nat → Int32} {m : Nat} {x1 x2 x3 : Int32} (e : f' = upd (upd (upd (upd f (710 + 3 * m) x1) (710 + 3 * m + 1) x2) (710 + 3 * m + 2) x3) 5 (nI (m + 1))) : FF f f' 6 m (rowc x1 x2 x3 0) := by
  have g1 : ∀ k, 9 ≤ k → k < 887 → (k < 710 + m * 3 ∨ 710 + m * 3 + 3 ≤ k) → f' k = f k := fun k k1 k2 k3 => by
    rw [e, pk_un (by omega), pk_un (by omega), pk_un (by omega), pk_un (by omega)]
  have g2 : ∀ c, c < 3 → f' (710 + (m * 3 + c)) = (rowc x1 x2 x3 0) c := by
    intro c hc
    rw [e]
    have : c = 0 ∨ c = 1 ∨ c = 2 := by omega
    rcases this with rfl | rfl | rfl
    · rw [pk_un (by omega), pk_un (by omega), pk_un (by omega), ps_u (by omega)]; rfl
    · rw [pk_un (by omega), pk_un (by omega), ps_u (by omega)]; rfl
    · rw [pk_un (by omega), ps_u (by omega)]; rfl
  exact ⟨g1, g2⟩
theorem ff_hand {f f' : Nat → Int32} {m : Nat} {x1 x2 : Int32} (e : f' = upd (upd (upd f (817 + 2 * m) x1) (817 + 2 * m + 1) x2) 7 (nI (m + 1))) : FF f f' 9 m (rowc x1 x2 0 0) := by
  have g1 : ∀ k, 9 ≤ k → k < 887 → (k < 817 + m * 2 ∨ 817 + m * 2 + 2 ≤ k) → f' k = f k := fun k k1 k2 k3 => by
    rw [e, pk_un (by omega), pk_un (by omega), pk_un (by omega)]
  have g2 : ∀ c, c < 2 → f' (817 + (m * 2 + c)) = (rowc x1 x2 0 0) c := by
    intro c hc
    rw [e]
    have : c = 0 ∨ c = 1 := by omega
    rcases this with rfl | rfl
    · rw [pk_un (by omega), pk_un (by omega), ps_u (by omega)]; rfl
    · rw [pk_un (by omega), ps_u (by omega)]; rfl
  exact ⟨g1, g2⟩
theorem ff_told {f f' : Nat → Int32} {m : Nat} {x1 x2 : Int32} (e : f' = upd (upd (upd f (737 + 2 * m) x1) (737 + 2 * m + 1) (if x2 = 0 then 0 else 1)) 6 (nI (m + 1))) : FF f f' 8 m (rowc x1 (if x2 = 0 then 0 else 1) 0 0) := by
  have g1 : ∀ k, 9 ≤ k → k < 887 → (k < 737 + m * 2 ∨ 737 + m * 2 + 2 ≤ k) → f' k = f k := fun k k1 k2 k3 => by
    rw [e, pk_un (by omega), pk_un (by omega), pk_un (by omega)]
  have g2 : ∀ c, c < 2 → f' (737 + (m * 2 + c)) = (rowc x1 (if x2 = 0 then 0 else 1) 0 0) c := by
    intro c hc
    rw [e]
    have : c = 0 ∨ c = 1 := by omega
    rcases this with rfl | rfl
    · rw [pk_un (by omega), pk_un (by omega), ps_u (by omega)]; rfl
    · rw [pk_un (by omega), ps_u (by omega)]; rfl
  exact ⟨g1, g2⟩
theorem ff_write {f f' : Nat → Int32} {m : Nat} {x1 : Int32} (e : f' = upd (upd f (827 + m) x1) 8 (nI (m + 1))) : FF f f' 11 m (rowc x1 0 0 0) := by
  have g1 : ∀ k, 9 ≤ k → k < 887 → (k < 827 + m * 1 ∨ 827 + m * 1 + 1 ≤ k) → f' k = f k := fun k k1 k2 k3 => by
    rw [e, pk_un (by omega), pk_un (by omega)]
  have g2 : ∀ c, c < 1 → f' (827 + (m * 1 + c)) = (rowc x1 0 0 0) c := by
    intro c hc
    rw [e]
    have : c = 0 := by omega
    subst this
    rw [pk_un (by omega), ps_u (by omega)]; rfl
  exact ⟨g1, g2⟩
theorem ff_say {f f' : Nat → Int32} {m : Nat} {x1 x2 x3 x4 x5 : Int32} (e : f' = upd (upd (upd (upd (upd (upd (upd f (152 + 6 * m) x1) (152 + 6 * m + 1) x2) (152 + 6 * m + 2) x3) (152 + 6 * m + 3) (if x2 = 0 ∨ x2 = 1 then x4 else 0)) (152 + 6 * m + 4) (if x2 = 0 then x5 else 0)) (152 + 6 * m + 5) 0) 1 (nI (m + 1))) : FF f f' 2 m (rows x1 x2 x3 x4 x5) := by
  have g1 : ∀ k, 9 ≤ k → k < 887 → (k < 152 + m * 6 ∨ 152 + m * 6 + 6 ≤ k) → f' k = f k := fun k k1 k2 k3 => by
    rw [e, pk_un (by omega), pk_un (by omega), pk_un (by omega), pk_un (by omega), pk_un (by omega), pk_un (by omega), pk_un (by omega)]
  have g2 : ∀ c, c < 6 → f' (152 + (m * 6 + c)) = (rows x1 x2 x3 x4 x5) c := by
    intro c hc
    rw [e]
    have : c = 0 ∨ c = 1 ∨ c = 2 ∨ c = 3 ∨ c = 4 ∨ c = 5 := by omega
    rcases this with rfl | rfl | rfl | rfl | rfl | rfl
    · rw [pk_un (by omega), pk_un (by omega), pk_un (by omega), pk_un (by omega), pk_un (by omega), pk_un (by omega), ps_u (by omega)]; rfl
    · rw [pk_un (by omega), pk_un (by omega), pk_un (by omega), pk_un (by omega), pk_un (by omega), ps_u (by omega)]; rfl
    · rw [pk_un (by omega), pk_un (by omega), pk_un (by omega), pk_un (by omega), ps_u (by omega)]; rfl
    · rw [pk_un (by omega), pk_un (by omega), pk_un (by omega), ps_u (by omega)]; rfl
    · rw [pk_un (by omega), pk_un (by omega), ps_u (by omega)]; rfl
    · rw [pk_un (by omega), ps_u (by omega)]; rfl
  exact ⟨g1, g2⟩
theorem ff_work {f f' : Nat → Int32} {m : Nat} {x1 x2 x3 x4 : Int32} (e : f' = upd (upd (upd (upd (upd f (672 + 4 * m) x1) (672 + 4 * m + 1) x2) (672 + 4 * m + 2) x3) (672 + 4 * m + 3) x4) 3 (nI (m + 1))) : FF f f' 4 m (rowc x1 x2 x3 x4) := by
  have g1 : ∀ k, 9 ≤ k → k < 887 → (k < 672 + m * 4 ∨ 672 + m * 4 + 4 ≤ k) → f' k = f k := fun k k1 k2 k3 => by
    rw [e, pk_un (by omega), pk_un (by omega), pk_un (by omega), pk_un (by omega), pk_un (by omega)]
  have g2 : ∀ c, c < 4 → f' (672 + (m * 4 + c)) = (rowc x1 x2 x3 x4) c := by
    intro c hc
    rw [e]
    have : c = 0 ∨ c = 1 ∨ c = 2 ∨ c = 3 := by omega
    rcases this with rfl | rfl | rfl | rfl
    · rw [pk_un (by omega), pk_un (by omega), pk_un (by omega), pk_un (by omega), ps_u (by omega)]; rfl
    · rw [pk_un (by omega), pk_un (by omega), pk_un (by omega), ps_u (by omega)]; rfl
    · rw [pk_un (by omega), pk_un (by omega), ps_u (by omega)]; rfl
    · rw [pk_un (by omega), ps_u (by omega)]; rfl
  exact ⟨g1, g2⟩
theorem RLT.addP {C : Prop} {h h1 h2 : HI} {r s : Int32} {m k : Nat} {x1 x2 x3 x4 : Int32} {F : (Nat → Int32) → Prop} (q : RLT h) (T : TT h 2 m 5 24) (em : h 136 0 = nI m) (a : ADc C h r h1 2 m 5 24 k (rowc x1 x2 x3 x4)) (b : ADr C h1 s h2 0 m 24 k F) (up : h1 136 = h 136) (ff : ∀ f', F f' → FF (h1 136) f' 0 m (rowc x1 x2 x3 x4)) : RLT h2 := by
  have hm' := T.2.2.2.1
  rw [up] at ff
  refine RLT.add (j := 0) q (by omega) T a b (fun hm f' hf k k1 k2 k3 => by rw [up]; exact (ff f' hf).fr (by omega) (by decide) hm k k1 k2 k3) (fun _ hm f' hf c old new => ?_) (fun _ hm f' hf x ec ef => ?_)
  · have hm : m < 24 := hm
    rw [CE.e0] at c ⊢
    obtain ⟨d1, cN, rN, d2, d3, d4⟩ := c
    have old : ∀ i, i < m * 5 → h2 3 i = h 3 i := old
    have new : ∀ c, c < 5 → h2 3 (m * 5 + c) = rowc x1 x2 x3 x4 c := new
    have f1 : ∀ k, 9 ≤ k → k < 887 → (k < 20 + m * 5 ∨ 20 + m * 5 + 5 ≤ k) → f' k = h 136 k := (ff f' hf).1
    have f2 : ∀ c, c < 5 → f' (20 + (m * 5 + c)) = rowc x1 x2 x3 x4 c := (ff f' hf).2
    have d1 : ∀ p, p < m → ∀ c, c < 4 → h 3 (p * 5 + c) = h 136 (20 + (p * 5 + c)) := d1
    have d2 : ∀ p, p < m → cN p < 2 ^ 24 ∧ rN p < 2 ^ 24 ∧ h 3 (p * 5 + 4) = nI (cN p) ∧ h 136 (20 + (p * 5 + 4)) = nI (rN p) := d2
    refine ⟨fun p hp c hc => ?_, cN, rN, fun p hp => ?_, fun p hp => d3 p (by omega), d4⟩
    · show h2 3 (p * 5 + c) = f' (20 + (p * 5 + c))
      by_cases e : p = m
      · subst e; rw [new c (by omega), f2 c (by omega)]
      · rw [old (p * 5 + c) (by omega), f1 (20 + (p * 5 + c)) (by omega) (by omega) (by omega)]; exact d1 p (by omega) c hc
    · show cN p < 2 ^ 24 ∧ rN p < 2 ^ 24 ∧ h2 3 (p * 5 + 4) = nI (cN p) ∧ f' (20 + (p * 5 + 4)) = nI (rN p)
      by_cases e : p = m
      · subst e
        obtain ⟨z1, z2⟩ := d3 p (Nat.le_refl _)
        rw [z1, z2, new 4 (by omega), f2 4 (by omega), nI_0]
        exact ⟨by decide, by decide, rfl, rfl⟩
      · rw [old (p * 5 + 4) (by omega), f1 (20 + (p * 5 + 4)) (by omega) (by omega) (by omega)]; exact d2 p (by omega)
  · have hm : m < 24 := hm
    have f1 : ∀ k, 9 ≤ k → k < 887 → (k < 20 + m * 5 ∨ 20 + m * 5 + 5 ≤ k) → f' k = h 136 k := (ff f' hf).1
    have ec : f' 0 = nI (m + 1) := ec
    have ef : ∀ i, i < 9 → i ≠ 0 → f' i = h 136 i := ef
    exact x.cg (by rw [ec, em, nI_toInt (by omega), nI_toInt (by omega)]; omega) (ef 1 (by omega) (by omega)) (ef 2 (by omega) (by omega)) (fun k k1 k2 => f1 k (by omega) (by omega) (by omega))
theorem RLT.addY {C : Prop} {h h1 h2 : HI} {r s : Int32} {m k : Nat} {x1 x2 x3 x4 x5 : Int32} {F : (Nat → Int32) → Prop} (q : RLT h) (T : TT h 6 m 6 60) (em : h 136 1 = nI m) (cC : C → isRow (h 136 0) x1) (a : ADc C h r h1 6 m 6 60 k (rows x1 x2 x3 x4 x5)) (b : ADr C h1 s h2 1 m 60 k F) (up : h1 136 = h 136) (ff : ∀ f', F f' → FF (h1 136) f' 2 m (rows x1 x2 x3 x4 x5)) : RLT h2 := by
  have hm' := T.2.2.2.1
  rw [up] at ff
  refine RLT.add (j := 2) q (by omega) T a b (fun hm f' hf k k1 k2 k3 => by rw [up]; exact (ff f' hf).fr (by omega) (by decide) hm k k1 k2 k3) (fun _ hm f' hf c old new => (ff f' hf).ce (by omega) (by decide) (by decide) hm c old new) (fun hC hm f' hf x ec ef => ?_)
  have hm : m < 60 := hm
  have f1 : ∀ k, 9 ≤ k → k < 887 → (k < 152 + m * 6 ∨ 152 + m * 6 + 6 ≤ k) → f' k = h 136 k := (ff f' hf).1
  have f2 : ∀ c, c < 6 → f' (152 + (m * 6 + c)) = rows x1 x2 x3 x4 x5 c := (ff f' hf).2
  have ec : f' 1 = nI (m + 1) := ec
  have ef : ∀ i, i < 9 → i ≠ 1 → f' i = h 136 i := ef
  refine ⟨fun r n g1 g2 g3 => ?_, fun r n k c g1 g2 g3 g4 g5 g6 => ?_⟩
  · have : n = m + 1 := (nI_eq (by omega) (by omega)).mp (g1.symm.trans ec)
    subst this
    rw [ef 0 (by omega) (by omega)]
    by_cases e : r = m
    · subst e
      rw [f2 0 (by omega), f2 5 (by omega)]
      exact ⟨cC hC, .inl rfl⟩
    · rw [f1 (152 + (r * 6 + 0)) (by omega) (by omega) (by omega), f1 (152 + (r * 6 + 5)) (by omega) (by omega) (by omega)]
      exact x.1 r m em (by omega) (by omega)
  · rw [ef 2 (by omega) (by omega)] at g1
    rw [f1 (512 + (r * 10 + 2)) (by omega) (by omega) (by omega)] at g4
    rw [ef 0 (by omega) (by omega), f1 (512 + (r * 10 + (3 + k))) (by omega) (by omega) (by omega)]
    exact x.2 r n k c g1 g2 g3 g4 g5 g6
theorem RLT.addC {h h1 h2 : HI} {r s : Int32} {m k : Nat} {x1 x2 : Int32} (q : RLT h) (T : TT h 8 m 15 16) (em : h 136 2 = nI m) (a : ADc (K_chain x1 x2) h r h1 8 m 15 16 k (rowc x1 x2 0 0)) (b : ADr (K_chain x1 x2) h1 s h2 2 m 16 k (fun f' => (∀ i, i ≠ 2 → (i < 512 + 10 * m ∨ 512 + 10 * m + 10 ≤ i) → f' i = h1 136 i) ∧ ∀ c, c < 10 → f' (512 + 10 * m + c) = rowc x1 x2 0 0 c)) (up : h1 136 = h 136) : RLT h2 := by
  have hm' := T.2.2.2.1
  refine RLT.add (j := 3) q (by omega) T a b (fun hm f' hf k k1 k2 k3 => ?_) (fun _ hm f' hf c old new => ?_) (fun hC hm f' hf x ec ef => ?_)
  · have hm : m < 16 := hm
    have k3 : k < 512 ∨ 672 ≤ k := k3
    exact hf.1 k (by omega) (by omega)
  · have hm : m < 16 := hm
    rw [up] at hf
    obtain ⟨f1, f2⟩ := hf
    rw [CE.e3] at c ⊢
    have old : ∀ i, i < m * 15 → h2 9 i = h 9 i := old
    have new : ∀ c, c < 15 → h2 9 (m * 15 + c) = rowc x1 x2 0 0 c := new
    have f2 : ∀ c, c < 10 → f' (512 + (m * 10 + c)) = rowc x1 x2 0 0 c := fun c hc => by rw [← f2 c hc]; congr 1; omega
    intro r' hr'
    show h2 9 (r' * 15) = f' (512 + r' * 10) ∧ h2 9 (r' * 15 + 1) = f' (512 + (r' * 10 + 1)) ∧ h2 9 (r' * 15 + 2) = f' (512 + (r' * 10 + 2)) ∧ ∃ n o : Nat, n ≤ 6 ∧ f' (512 + (r' * 10 + 2)) = nI n ∧ o < 2 ^ n ∧ f' (512 + (r' * 10 + 9)) = nI o ∧ ∀ k, k < n → h2 9 (r' * 15 + (3 + 2 * k)) = f' (512 + (r' * 10 + (3 + k))) ∧ h2 9 (r' * 15 + (4 + 2 * k)) = (if o.testBit k then 1 else 0)
    by_cases e : r' = m
    · subst e
      refine ⟨(new 0 (by omega)).trans (f2 0 (by omega)).symm, by rw [new 1 (by omega), f2 1 (by omega)], by rw [new 2 (by omega), f2 2 (by omega)], 0, 0, by omega, by rw [f2 2 (by omega)]; exact nI_0.symm, by decide, by rw [f2 9 (by omega)]; exact nI_0.symm, fun k hk => by omega⟩
    · obtain ⟨w1, w2, w3, nw, ow, w4, w5, w6, w7, w8⟩ := c r' (by omega)
      have fa : ∀ k, k < 15 → h2 9 (r' * 15 + k) = h 9 (r' * 15 + k) := fun k hk => old _ (by omega)
      have fc : ∀ k, k < 10 → f' (512 + (r' * 10 + k)) = h 136 (512 + (r' * 10 + k)) := fun k hk => f1 _ (by omega) (by omega)
      refine ⟨(fa 0 (by omega)).trans (w1.trans (fc 0 (by omega)).symm), by rw [fa 1 (by omega), fc 1 (by omega)]; exact w2, by rw [fa 2 (by omega), fc 2 (by omega)]; exact w3, nw, ow, w4, by rw [fc 2 (by omega)]; exact w5, w6, by rw [fc 9 (by omega)]; exact w7, fun k hk => ⟨by rw [fa (3 + 2 * k) (by omega), fc (3 + k) (by omega)]; exact (w8 k hk).1, by rw [fa (4 + 2 * k) (by omega)]; exact (w8 k hk).2⟩⟩
  · have hm : m < 16 := hm
    rw [up] at hf
    obtain ⟨f1, f2⟩ := hf
    have f2 : ∀ c, c < 10 → f' (512 + (m * 10 + c)) = rowc x1 x2 0 0 c := fun c hc => by rw [← f2 c hc]; congr 1; omega
    have ec : f' 2 = nI (m + 1) := ec
    refine ⟨fun r n g1 g2 g3 => ?_, fun r n k c g1 g2 g3 g4 g5 g6 => ?_⟩
    · rw [f1 1 (by omega) (by omega)] at g1
      rw [f1 0 (by omega) (by omega), f1 (152 + (r * 6 + 0)) (by omega) (by omega), f1 (152 + (r * 6 + 5)) (by omega) (by omega)]
      exact x.1 r n g1 g2 g3
    · have : n = m + 1 := (nI_eq (by omega) (by omega)).mp (g1.symm.trans ec)
      subst this
      by_cases e : r = m
      · subst e
        rw [f2 2 (by omega)] at g4
        have : c = 0 := (nI_eq (b := 0) (by omega) (by omega)).mp g4.symm
        omega
      · rw [f1 (512 + (r * 10 + 2)) (by omega) (by omega)] at g4
        rw [f1 0 (by omega) (by omega), f1 (512 + (r * 10 + (3 + k))) (by omega) (by omega)]
        exact x.2 r m k c em (by omega) (by omega) g4 g5 g6
theorem st_erase {A : Prop} {h h1 h2 : HI} (q : RLT h) (a : PTc A h h1 24 0 1 60) (b : ST h1 h2 (upd (h1 136) 8 0)) : RLT h2 := by
  obtain ⟨-, J, T⟩ := a
  obtain ⟨F, Ff, R⟩ := b
  have e6 : h1 136 = h 136 := J 136 (by unfold SM; omega)
  rw [e6] at Ff
  have fr : ∀ k, k ≠ 8 → h2 136 k = h 136 k := fun k hk => by rw [Ff, pk_un hk]
  refine q.put (j := 11) (by omega) J F (fun k k1 k2 k3 => fr k (by omega)) (fun m hm ht => ?_) (q.1.2.cg (by rw [fr 0 (by omega)]; exact Int.le_refl _) (fr 1 (by omega)) (fr 2 (by omega)) (fun k k1 k2 => fr k (by omega)))
  have T2 : TT h2 24 0 1 60 := T.cg (F 24 (by decide))
  have : m = 0 := T2.nu ht hm
  subst this
  refine (CE.es (by decide) (by decide)).mpr (fun k hk => ?_)
  rw [Nat.zero_mul] at hk
  omega
theorem st_scrap {h h1 h2 : HI} (q : RLT h) (J : JJ (fun q => q = 12 ∨ q = 14) h h1) (T : TT h1 12 0 1 6) (U : TT h1 14 0 3 9) (b : ST h1 h2 (upd (upd (h1 136) 4 0) 5 0)) : RLT h2 := by
  obtain ⟨F, Ff, R⟩ := b
  have e6 : h1 136 = h 136 := J 136 (by decide)
  rw [e6] at Ff
  have fr : ∀ k, k ≠ 4 → k ≠ 5 → h2 136 k = h 136 k := fun k h4 h5 => by rw [Ff, pk_un h5, pk_un h4]
  have e : ∀ o, o ≠ 12 → o ≠ 14 → o ≠ 136 → h2 o = h o := fun o a b c => (F o c).trans (J o (by omega))
  refine q.sh ⟨fun j m hj hm ht => ?_, q.1.2.cg (by rw [fr 0 (by omega) (by omega)]; exact Int.le_refl _) (fr 1 (by omega) (by omega)) (fr 2 (by omega) (by omega)) (fun k k1 k2 => fr k (by omega) (by omega))⟩ (fun o a b => e o (by omega) (by omega) (by omega)) (e 137 (by decide) (by decide) (by decide)) (e 138 (by decide) (by decide) (by decide))
  by_cases j5 : j = 5
  · subst j5
    have : m = 0 := (T.cg (F 12 (by decide))).nu ht hm
    subst this
    refine (CE.es (by decide) (by decide)).mpr (fun k hk => ?_)
    rw [Nat.zero_mul] at hk; omega
  by_cases j6 : j = 6
  · subst j6
    have : m = 0 := (U.cg (F 14 (by decide))).nu ht hm
    subst this
    refine (CE.es (by decide) (by decide)).mpr (fun k hk => ?_)
    rw [Nat.zero_mul] at hk; omega
  rw [e (1 + (1 + 2 * j)) (by omega) (by omega) (by omega)] at ht
  have h9 := bs_9 hj
  exact (q.1.1 j m hj hm ht).tr hj hm (fun i _ => by rw [e (1 + (1 + 2 * j) + 1) (by omega) (by omega) (by omega)]) (fun k k1 k2 => fr k (by omega) (by omega))
/-- a shop that was copied holds what the other did -/
theorem RL1.cp {h h' : HI} {o o1 : Nat} {f f' : Nat → Int32} (r : RL1 h o1 f) (I : CPK h h' o o1 12) (ef : ∀ k, k < 887 → f' k = f k) : RL1 h' o f' := by
  refine ⟨fun j m hj hm ht => ?_, r.2.cg (by rw [ef 0 (by omega)]; exact Int.le_refl _) (ef 1 (by omega)) (ef 2 (by omega)) (fun k _ hk => ef k (by omega))⟩
  obtain ⟨m1, T1, T2, cc⟩ := I.2 j hj
  have : m = m1 := T2.nu ht hm
  subst this
  have := hi_le hj
  exact (r.1 j m hj hm T1.2.2.1).tr hj hm cc (fun k _ hk => ef k (by omega))
theorem rl_image {h h1 h2 : HI} {r s x1 : Int32} (q : RLT h) (a : (¬ bd 0 1 x1 ∧ r = -2 ∧ h1 = h) ∨ ∃ i, i < 2 ∧ x1 = nI i ∧ r = 1 ∧ ∃ h0, CPK h h0 (26 + 25 * i) 1 12 ∧ h1 = hu h0 76 i 1) (b : (¬ bd 0 1 x1 ∧ s = -2 ∧ h2 = h1) ∨ ∃ i, i < 2 ∧ x1 = nI i ∧ s = 1 ∧ (∀ o, o ≠ 137 → o ≠ 138 → h2 o = h1 o) ∧ h2 138 = upd (h1 138) i 1 ∧ (∀ k, k < 887 → h2 137 (887 * i + k) = h1 136 k) ∧ ∀ k, k < 887 * i ∨ 887 * i + 887 ≤ k → h2 137 k = h1 137 k) : RLT h2 := by
  rcases a with ⟨a1, a2, rfl⟩ | ⟨i, hi, rfl, a2, h0, I0, e1⟩
  · rcases b with ⟨b1, b2, rfl⟩ | ⟨i, hi, rfl, b2, -⟩
    · exact q
    · exact absurd (bd_of (by omega) (by omega) (by omega)) a1
  · rcases b with ⟨b1, b2, rfl⟩ | ⟨i', hi', e', b2, F, F8, F7, F7'⟩
    · exact absurd (bd_of (by omega) (by omega) (by omega)) b1
    · have : i = i' := (nI_eq (by omega) (by omega)).mp e'
      subst this
      have g1 : ∀ q, q ≠ 76 → h1 q = h0 q := fun q n => by rw [e1, hu_ne n]
      have g0 : ∀ q, q ≠ 76 → (q < 26 + 25 * i + 1 ∨ 26 + 25 * i + 24 < q) → h1 q = h q := fun q n76 n1 => by
        rw [g1 q n76]; exact I0.1 q (by omega)
      have e6 : h2 136 = h 136 := (F 136 (by decide) (by decide)).trans (g0 136 (by decide) (by omega))
      have e7 : h1 137 = h 137 := g0 137 (by decide) (by omega)
      have e8 : h1 138 = h 138 := g0 138 (by decide) (by omega)
      rw [e8] at F8
      rw [e7] at F7'
      rw [g0 136 (by decide) (by omega)] at F7
      have tb : ∀ q, q ≤ 75 → h2 q = h0 q := fun q hq => (F q (by omega) (by omega)).trans (g1 q (by omega))
      refine ⟨q.1.cg (fun o a b => (tb o (by omega)).trans (I0.1 o (by omega))) (fun k _ => by rw [e6]), fun i' hi' hn => ?_⟩
      by_cases qi : i' = i
      · subst qi
        have c1 : RL1 h0 (26 + 25 * i') (IMG h2 i') := q.1.cp I0 (fun k hk => F7 k hk)
        exact c1.cg (fun o a b => tb o (by omega)) (fun _ _ => rfl)
      · rw [F8, pk_un qi] at hn
        exact (q.2 i' hi' hn).cg (fun o a b => (tb o (by omega)).trans (I0.1 o (by omega))) (fun k hk => F7' _ (by omega))
theorem rl_from {h h1 h2 : HI} {r s x1 : Int32} (v : INV h) (q : RLT h) (a : (¬ bd 0 1 x1 ∧ r = -2 ∧ h1 = h) ∨ ∃ i, i < 2 ∧ x1 = nI i ∧ ((h 76 i = 0 ∧ r = -3 ∧ h1 = h) ∨ (¬ h 76 i = 0 ∧ r = 1 ∧ ∃ h0, CPK h h0 1 (26 + 25 * i) 12 ∧ JJ SLaw h0 h1))) (b : (¬ bd 0 1 x1 ∧ s = -2 ∧ h2 = h1) ∨ ∃ i, i < 2 ∧ x1 = nI i ∧ ((h1 138 i = 0 ∧ s = -3 ∧ h2 = h1) ∨ (¬ h1 138 i = 0 ∧ s = 1 ∧ (∀ o, o ≠ 136 → h2 o = h1 o) ∧ (∀ k, k < 887 → h2 136 k = h1 137 (887 * i + k)) ∧ ∀ k, 887 ≤ k → h2 136 k = h1 136 k))) : RLT h2 := by
  obtain ⟨-, -, -, -, kf, -⟩ := v
  have kk : ∀ i, i < 2 → h 76 i = h 138 i := fun i hi => by
    have : i = 0 ∨ i = 1 := by omega
    rcases this with rfl | rfl
    · exact kf.1
    · exact kf.2
  rcases a with ⟨a1, a2, rfl⟩ | ⟨i, hi, rfl, a⟩
  · rcases b with ⟨b1, b2, rfl⟩ | ⟨i, hi, rfl, b2⟩
    · exact q
    · exact absurd (bd_of (by omega) (by omega) (by omega)) a1
  · rcases b with ⟨b1, b2, rfl⟩ | ⟨i', hi', e', b⟩
    · exact absurd (bd_of (by omega) (by omega) (by omega)) b1
    · have : i = i' := (nI_eq (by omega) (by omega)).mp e'
      subst this
      rcases a with ⟨a0, a2, rfl⟩ | ⟨a0, a2, h0, I0, J0⟩
      · rcases b with ⟨b0, b2, rfl⟩ | ⟨b0, b2⟩
        · exact q
        · exact absurd ((kk i hi).symm.trans a0) b0
      · have up : ∀ q, 76 ≤ q → ¬ SLaw q → h1 q = h q := fun q hq n => (J0 q n).trans (I0.1 q (by omega))
        rcases b with ⟨b0, b2, rfl⟩ | ⟨b0, b2, F, F6, F6'⟩
        · rw [up 138 (by omega) (by unfold SLaw; omega), ← kk i hi] at b0
          exact absurd b0 a0
        · have tb : ∀ q, q ≤ 75 → h2 q = h0 q := fun q hq => (F q (by omega)).trans (J0 q (by unfold SLaw; omega))
          have e7 : h2 137 = h 137 := (F 137 (by decide)).trans (up 137 (by omega) (by unfold SLaw; omega))
          have e8 : h2 138 = h 138 := (F 138 (by decide)).trans (up 138 (by omega) (by unfold SLaw; omega))
          rw [up 137 (by omega) (by unfold SLaw; omega)] at F6
          have c1 : RL1 h0 1 (h2 136) := (q.2 i hi (by rw [← kk i hi]; exact a0)).cp I0 (fun k hk => F6 k hk)
          refine ⟨c1.cg (fun o a b => tb o (by omega)) (fun _ _ => rfl), fun i' hi' hn => ?_⟩
          rw [e8] at hn
          exact (q.2 i' hi' hn).cg (fun o a b => (tb o (by omega)).trans (I0.1 o (by omega))) (fun k _ => by unfold IMG; rw [e7])
theorem RL_start {h1 h2 : HI} (a : (∀ s, isS s → ∀ j, j < 12 → TT h1 (s + (1 + 2 * j)) (m0 j) (wJ j) (MJ j)) ∧ h1 76 = (fun _ => 0) ∧ (∀ i, i < 12 → h1 5 i = fam i) ∧ (∀ i, i < 4 → h1 23 i = 0) ∧ (∀ i, i < 2 → h1 17 i = 0) ∧ h1 77 9 = 1) (b : (∀ o, o < 135 → h2 o = h1 o) ∧ RG (h2 136) ∧ (∀ i, i < 9 → h2 136 i = 0) ∧ h2 138 = (fun _ => 0) ∧ h2 147 0 = 0 ∧ h2 147 1 = 1 ∧ (∀ i, i < 12 → h2 136 (140 + i) = fam i) ∧ ∀ i, i < 140 ∨ 152 ≤ i → h2 136 i = 0) : RLT h2 := by
  obtain ⟨T, z, fa, nd, od, -⟩ := a
  obtain ⟨F, R, Z, K, w0, w1, fr, zr⟩ := b
  refine ⟨⟨fun j m hj hm ht => ?_, ⟨fun r n g1 g2 g3 => ?_, fun r n k c g1 g2 g3 g4 g5 g6 => ?_⟩⟩, fun i hi hn => ?_⟩
  · have T2 : TT h2 (1 + (1 + 2 * j)) (m0 j) (wJ j) (MJ j) := (T 1 isS1 j hj).cg (F _ (by omega))
    have : m = m0 j := T2.nu ht hm
    subst this
    by_cases j1 : j = 1
    · subst j1
      refine (CE.es (by decide) (by decide)).mpr (fun k hk => ?_)
      have hk : k < 12 := hk
      show h2 5 k = h2 136 (140 + k)
      rw [F 5 (by omega), fa k hk, fr k hk]
    by_cases j10 : j = 10
    · subst j10
      refine (CE.es (by decide) (by decide)).mpr (fun k hk => ?_)
      have hk : k < 4 := hk
      show h2 23 k = h2 136 (823 + k)
      rw [F 23 (by omega), nd k hk, zr _ (by omega)]
    by_cases j7 : j = 7
    · subst j7
      refine (CE.es (by decide) (by decide)).mpr (fun k hk => ?_)
      have hk : k < 2 := hk
      show h2 17 k = h2 136 (9 + k)
      rw [F 17 (by omega), od k hk, zr _ (by omega)]
    have e0 : m0 j = 0 := by
      unfold m0
      rw [if_neg (fun q => q.elim j1 j10), if_neg j7]
    rw [e0]
    by_cases j0 : j = 0
    · subst j0
      refine CE.e0.mpr ⟨fun p hp => absurd hp (Nat.not_lt_zero p), fun _ => 0, fun _ => 0, fun p hp => absurd hp (Nat.not_lt_zero p), fun p _ => ⟨rfl, rfl⟩, fun a b => ?_⟩
      rw [Nat.zero_testBit, Nat.zero_testBit]
    by_cases j3 : j = 3
    · subst j3
      exact CE.e3.mpr (fun r hr => absurd hr (Nat.not_lt_zero r))
    · refine (CE.es j0 j3).mpr (fun k hk => ?_)
      rw [Nat.zero_mul] at hk; omega
  · rw [Z 1 (by omega)] at g1
    have : n = 0 := (nI_eq (b := 0) (by omega) (by omega)).mp g1.symm
    omega
  · rw [Z 2 (by omega)] at g1
    have : n = 0 := (nI_eq (b := 0) (by omega) (by omega)).mp g1.symm
    omega
  · rw [K] at hn
    exact absurd rfl hn
theorem st_ask {h h1 h2 : HI} (q : RLT h) (a : JJ SC h h1) (b : KJ SRef h1 h2) : RLT h2 := by
  have e : ∀ o, ¬ SC o → (∀ k, ¬ SRef o k) → h2 o = h o := fun o n m => (funext fun k => b o k (m k)).trans (a o n)
  exact q.ask (fun o ho => e o (by unfold SC; omega) (fun k => by unfold SRef; omega)) (e 136 (by unfold SC; omega) (fun k => by unfold SRef; omega)) (e 137 (by unfold SC; omega) (fun k => by unfold SRef; omega)) (e 138 (by unfold SC; omega) (fun k => by unfold SRef; omega))
def INV2 (h : HI) : Prop := INV h ∧ RLT h
theorem link_n {h : HI} {m : Nat} (q : RLT h) (T : TT h 8 m 15 16) : ∀ c, c < m → ∃ n, n ≤ 6 ∧ h 9 (c * 15 + 2) = nI n := fun c hc => by
  obtain ⟨-, -, g3, n, -, n6, g5, -⟩ := CE.e3.mp (q.1.1 3 m (by omega) T.2.2.2.1 T.2.2.1) c hc
  exact ⟨n, n6, g3.trans g5⟩
theorem count_eq {h : HI} (v : INV h) (q : RLT h) {m : Nat} (T : TT h 6 m 6 60) (k1 : h 136 1 = nI m) {k : Nat} (hk : k ≤ 9) : cvC h m k = cvR (h 136) m k := by
  have cn := v.2.2.2.1
  have hm := T.2.2.2.1
  have c0 : ∀ k, k < m * 6 → h 7 k = h 136 (152 + k) := (CE.es (j := 2) (by decide) (by decide)).mp (q.1.1 2 m (by omega) hm T.2.2.1)
  have d : ∀ j c, j < 12 → ¬ (j = 1 ∨ j = 10) → ¬ j = 7 → cpJ j = c → h (1 + (1 + 2 * j)) 3 = h 136 c := fun j c hj a b e => by
    obtain ⟨m', T', k'⟩ := cn j hj
    unfold cOK at k'
    rw [if_neg a, if_neg b, e] at k'
    exact T'.2.2.1.trans k'.symm
  have : k = 0 ∨ k = 1 ∨ k = 2 ∨ k = 3 ∨ k = 4 ∨ k = 5 ∨ k = 6 ∨ k = 7 ∨ k = 8 ∨ k = 9 := by omega
  unfold cvC cvR
  rcases this with rfl | rfl | rfl | rfl | rfl | rfl | rfl | rfl | rfl | rfl
  · rw [if_neg (by decide), if_pos (by decide)]; exact d 0 0 (by omega) (by decide) (by decide) rfl
  · rw [if_neg (by decide), if_pos (by decide)]; exact d 2 1 (by omega) (by decide) (by decide) rfl
  · rw [if_pos rfl, if_neg (by decide), if_pos rfl]
    exact dsm_cg (fun i hi => c0 _ (by omega))
  · rw [if_neg (by decide), if_neg (by decide), if_neg (by decide)]; exact d 3 2 (by omega) (by decide) (by decide) rfl
  · rw [if_neg (by decide), if_neg (by decide), if_neg (by decide)]; exact d 4 3 (by omega) (by decide) (by decide) rfl
  · rw [if_neg (by decide), if_neg (by decide), if_neg (by decide)]; exact d 5 4 (by omega) (by decide) (by decide) rfl
  · rw [if_neg (by decide), if_neg (by decide), if_neg (by decide)]; exact d 6 5 (by omega) (by decide) (by decide) rfl
  · rw [if_neg (by decide), if_neg (by decide), if_neg (by decide)]; exact d 8 6 (by omega) (by decide) (by decide) rfl
  · rw [if_neg (by decide), if_neg (by decide), if_neg (by decide)]; exact d 9 7 (by omega) (by decide) (by decide) rfl
  · rw [if_neg (by decide), if_neg (by decide), if_neg (by decide)]; exact d 11 8 (by omega) (by decide) (by decide) rfl
theorem count_st {h : HI} {r s x1 : Int32} (v : INV h) (q : RLT h) {m : Nat} (T : TT h 6 m 6 60) (k1 : h 136 1 = nI m) (a : (¬ bd 0 9 x1 ∧ r = -2) ∨ ∃ k : Nat, k ≤ 9 ∧ x1 = nI k ∧ r = cvC h m k) (b : (¬ bd 0 9 x1 ∧ s = -2) ∨ ∃ k : Nat, k ≤ 9 ∧ x1 = nI k ∧ s = cvR (h 136) m k) : r = s := by
  rcases a with ⟨a1, rfl⟩ | ⟨k, hk, rfl, rfl⟩
  · rcases b with ⟨b1, rfl⟩ | ⟨k, hk, rfl, -⟩
    · rfl
    · exact absurd (bd_of (by omega) (by omega) (by omega)) a1
  · rcases b with ⟨b1, -⟩ | ⟨k', hk', e, rfl⟩
    · exact absurd (bd_of (by omega) (by omega) (by omega)) b1
    · have : k = k' := (nI_eq (by omega) (by omega)).mp e
      subst this
      exact count_eq v q T k1 hk
end
section
-- 54.along
/-! ALONG: the least set that is closed -/
def pcn (S : Nat) : Nat → Nat
  | 0 => 0
  | n + 1 => pcn S n + (if S.testBit n = true then 1 else 0)
theorem pcn_le {S : Nat} : ∀ {n : Nat}, pcn S n ≤ n
  | 0 => Nat.le_refl _
  | n + 1 => by
    have e := pcn_le (S := S) (n := n)
    unfold pcn
    by_cases c : S.testBit n = true
    · rw [if_pos c]; omega
    · rw [if_neg c]; omega
theorem pcn_mo {S T : Nat} : ∀ {n : Nat}, (∀ i, S.testBit i = true → T.testBit i = true) → pcn S n ≤ pcn T n
  | 0, _ => Nat.le_refl _
  | n + 1, h => by
    have e := pcn_mo (n := n) h
    unfold pcn
    by_cases c : S.testBit n = true
    · rw [if_pos c, if_pos (h n c)]; omega
    · rw [if_neg c]; omega
theorem pcn_lt {S T : Nat} : ∀ {n : Nat}, (∀ i, S.testBit i = true → T.testBit i = true) → (∃ i, i < n ∧ T.testBit i = true ∧ ¬ S.testBit i = true) → pcn S n < pcn T n
  | 0, _, h => by
    obtain ⟨i, hi, -⟩ := h
    omega
  | n + 1, h, k => by
    obtain ⟨i, hi, hT, hS⟩ := k
    unfold pcn
    by_cases e : i = n
    · subst e
      have e := pcn_mo (n := i) h
      rw [if_neg hS, if_pos hT]; omega
    · have e := pcn_lt (n := n) h ⟨i, by omega, hT, hS⟩
      by_cases c : S.testBit n = true
      · rw [if_pos c, if_pos (h n c)]; omega
      · rw [if_neg c]; omega
theorem pcn_full {S : Nat} : ∀ {n : Nat}, n ≤ pcn S n → ∀ i, i < n → S.testBit i = true
  | 0, _, i, hi => absurd hi (Nat.not_lt_zero i)
  | n + 1, h, i, hi => by
    have e := pcn_le (S := S) (n := n)
    unfold pcn at h
    by_cases c : S.testBit n = true
    · rw [if_pos c] at h
      by_cases q : i = n
      · subst q; exact c
      · exact pcn_full (n := n) (by omega) i (by omega)
    · rw [if_neg c] at h; omega
def CLo (B : Nat → Nat) (p S : Nat) : Prop := (∀ a, (B p).testBit a = true → S.testBit a = true) ∧ ∀ o a, S.testBit o = true → (B o).testBit a = true → S.testBit a = true
def LCl (B : Nat → Nat) (p S : Nat) : Prop := CLo B p S ∧ ∀ T, CLo B p T → ∀ a, S.testBit a = true → T.testBit a = true
theorem LCl.un {B : Nat → Nat} {p S S' : Nat} (x : LCl B p S) (y : LCl B p S') : S = S' := by
  apply Nat.eq_of_testBit_eq
  intro i
  have h1 := x.2 S' y.1 i
  have h2 := y.2 S x.1 i
  cases e : S.testBit i <;> cases e' : S'.testBit i
  · rfl
  · exact absurd (h2 e') (by rw [e]; decide)
  · exact absurd (h1 e) (by rw [e']; decide)
  · rfl
/-- who bears on a part, as the class keeps it -/
def BRc (h : HI) (m : Nat) (B : Nat → Nat) : Prop := (∀ p, p < m → B p < 2 ^ 24 ∧ h 3 (p * 5 + 4) = nI (B p)) ∧ ∀ a b, (B b).testBit a = true → a < m ∧ b < m
theorem or24 {a b : Nat} (ha : a < 2 ^ 24) (hb : b < 2 ^ 24) : a ||| b < 2 ^ 24 := Nat.or_lt_two_pow ha hb
theorem q_X1_reached {h : HI} {g : HL} {m : Nat} (T : TT h 2 m 5 24) {B : Nat → Nat} (R : BRc h m B) {p : Nat} (hp : p < m) : w_X1_reached (nI p) h g (fun r h' g' => h = h' ∧ g = g' ∧ ∃ S, S < 2 ^ 24 ∧ r = nI S ∧ LCl B p S) := by
  have hm := T.2.2.2.1
  have ta : ∀ k, k < m → tat h 2 (nI k) (4 : Int32) = nI (B k) := fun k hk => (tat_nI T (b := 4) hk (by omega)).trans (R.1 k hk).2
  unfold w_X1_reached
  refine c_i (p_atT T) ?_
  rintro _ _ _ ⟨rfl, rfl, rfl⟩
  rw [ta p hp]
  refine lpE_intro (fun ⟨a_q, b_q, c_q, h_q, g_q⟩ => ∃ S P k : Nat, k ≤ m ∧ nI S = a_q ∧ nI P = b_q ∧ nI k = c_q ∧ h = h_q ∧ g = g_q ∧ S < 2 ^ 24 ∧ P < 2 ^ 24 ∧ (∀ a, S.testBit a = true → a < m) ∧ (∀ a, (B p).testBit a = true → S.testBit a = true) ∧ (∀ T, CLo B p T → ∀ a, S.testBit a = true → T.testBit a = true) ∧ (∀ a, P.testBit a = true → S.testBit a = true) ∧ (∀ o a, P.testBit o = true → (B o).testBit a = true → S.testBit a = true) ∧ k ≤ pcn P m) (fun ⟨_, _, c_q, _, _⟩ => dif (nI m) c_q) ?_ _ ⟨B p, 0, 0, by omega, rfl, nI_0, nI_0, rfl, rfl, (R.1 p hp).1, by decide, fun a ha => (R.2 a p ha).1, fun _ ha => ha, fun T hT a ha => hT.1 a ha, fun a ha => absurd ha (by rw [Nat.zero_testBit]; decide), fun o a ha => absurd ha (by rw [Nat.zero_testBit]; decide), Nat.zero_le _⟩
  rintro ⟨y2, y3, y4, h1, g1⟩ K ⟨S, P, k, hk, rfl, rfl, rfl, rfl, rfl, S24, P24, Sm, Sp, Sl, PS, PB, kP⟩ hK
  unfold F_X1_reached_18; dsimp only; unfold b_X1_reached_18
  refine c_i p_rows ?_
  rintro _ _ _ ⟨rfl, rfl, rfl⟩
  rw [T.2.2.1]
  have fin : S = P → ∃ S', S' < 2 ^ 24 ∧ nI S = nI S' ∧ LCl B p S' := fun e => by
    subst e
    exact ⟨S, S24, rfl, ⟨Sp, PB⟩, Sl⟩
  refine ⟨fun c => ⟨rfl, rfl, fin ?_⟩, fun c => ⟨fun e => ⟨rfl, rfl, fin ((nI_eq (by omega) (by omega)).mp e)⟩, fun e => ?_⟩⟩
  · rw [nI_leI (by omega) (by omega)] at c
    have full := pcn_full (S := P) (n := m) (by omega)
    apply Nat.eq_of_testBit_eq
    intro i
    cases e : P.testBit i
    · cases e' : S.testBit i
      · rfl
      · exact absurd (full i (Sm i e')) (by rw [e]; decide)
    · exact PS i e
  · have hd := dif_lt c
    rw [nI_leI (by omega) (by omega)] at c
    have ne : S ≠ P := fun q => e (by rw [q])
    have grow : k + 1 ≤ pcn S m := by
      obtain ⟨i, hi⟩ := Nat.exists_testBit_ne_of_ne ne
      have iS : S.testBit i = true := by
        cases a : S.testBit i
        · cases b : P.testBit i
          · rw [a, b] at hi; exact absurd rfl hi
          · rw [PS i b] at a; exact absurd a (by decide)
        · rfl
      have := pcn_lt (S := P) (T := S) (n := m) PS ⟨i, Sm i iS, iS, fun q => hi (by rw [iS, q])⟩
      omega
    refine lpE_intro (fun ⟨a_q, b_q, c_q, d_q, h_q, g_q⟩ => ∃ N j : Nat, j ≤ m ∧ nI N = a_q ∧ nI S = b_q ∧ nI k = c_q ∧ nI j = d_q ∧ h = h_q ∧ g = g_q ∧ N < 2 ^ 24 ∧ (∀ a, N.testBit a = true → a < m) ∧ (∀ a, S.testBit a = true → N.testBit a = true) ∧ (∀ T, CLo B p T → ∀ a, N.testBit a = true → T.testBit a = true) ∧ (∀ o a, o < j → S.testBit o = true → (B o).testBit a = true → N.testBit a = true)) (fun ⟨_, _, _, d_q, _, _⟩ => dif (nI m) d_q) ?_ _ ⟨S, 0, by omega, rfl, rfl, rfl, nI_0, rfl, rfl, S24, Sm, fun _ ha => ha, Sl, fun o a ho => by omega⟩
    rintro ⟨z2, z3, z4, z5, h2, g2⟩ K2 ⟨N, j, hj, rfl, rfl, rfl, rfl, rfl, rfl, N24, Nm, SN, Nl, NB⟩ hK2
    unfold F_X1_reached_43; dsimp only; unfold b_X1_reached_43
    refine c_i p_rows ?_
    rintro _ _ _ ⟨rfl, rfl, rfl⟩
    rw [T.2.2.1]
    refine ⟨fun c2 => ?_, fun c2 => ?_⟩
    · rw [nI_leI (by omega) (by omega)] at c2
      rintro _ rfl
      exact hK _ ⟨N, S, k + 1, by omega, rfl, rfl, (nI_1 k).symm, rfl, rfl, N24, S24, Nm, fun a ha => SN a (Sp a ha), Nl, SN, fun o a ho ha => NB o a (by have := Sm o ho; omega) ho ha, grow⟩ hd
    · have hd2 := dif_lt c2
      rw [nI_leI (by omega) (by omega)] at c2
      refine ⟨fun cb => ?_, fun cb => ?_⟩
      · unfold j_X1_reached_84
        rintro _ rfl
        refine hK2 _ ⟨N, j + 1, by omega, rfl, rfl, rfl, (nI_1 j).symm, rfl, rfl, N24, Nm, SN, Nl, fun o a ho hS ha => ?_⟩ hd2
        by_cases eo : o = j
        · subst eo
          exact absurd ((bit_n (by omega) (by omega)).mpr (SN o hS)) cb
        · exact NB o a (by omega) hS ha
      · have Nj : N.testBit j = true := (bit_n (by omega) (by omega)).mp cb
        refine c_i (p_atT T) ?_
        rintro _ _ _ ⟨rfl, rfl, rfl⟩
        rw [ta j (by omega), nI_or]
        rintro _ rfl
        unfold j_X1_reached_84
        rintro _ rfl
        refine hK2 _ ⟨N ||| B j, j + 1, by omega, rfl, rfl, rfl, (nI_1 j).symm, rfl, rfl, or24 N24 (R.1 j (by omega)).1, fun a ha => ?_, fun a ha => ?_, fun T hT a ha => ?_, fun o a ho hS ha => ?_⟩ hd2
        · rw [Nat.testBit_or, Bool.or_eq_true] at ha
          exact ha.elim (Nm a) (fun q => (R.2 a j q).1)
        · rw [Nat.testBit_or, SN a ha, Bool.true_or]
        · rw [Nat.testBit_or, Bool.or_eq_true] at ha
          exact ha.elim (Nl T hT a) (fun q => hT.2 j a (Nl T hT j Nj) q)
        · rw [Nat.testBit_or, Bool.or_eq_true]
          by_cases eo : o = j
          · subst eo; exact .inr ha
          · exact .inl (NB o a (by omega) hS ha)
/-- on whom a part bears, as the reference keeps it -/
def BRr (f : Nat → Int32) (m : Nat) (B : Nat → Nat) : Prop := ∃ rN : Nat → Nat, (∀ p, p < m → rN p < 2 ^ 24 ∧ f (20 + 5 * p + 4) = nI (rN p)) ∧ (∀ a b, (B b).testBit a = (rN a).testBit b) ∧ ∀ a b, (B b).testBit a = true → a < m ∧ b < m
theorem CP.br {h : HI} {f : Nat → Int32} {m : Nat} (c : CP h 1 f m) : ∃ B, BRc h m B ∧ BRr f m B := by
  obtain ⟨-, cN, rN, d2, d3, d4⟩ := c
  have bm : ∀ a b, (cN b).testBit a = true → a < m ∧ b < m := fun a b hab => by
    refine ⟨?_, ?_⟩
    · by_cases q : a < m
      · exact q
      · rw [d4 a b, (d3 a (by omega)).2, Nat.zero_testBit] at hab
        exact absurd hab (by decide)
    · by_cases q : b < m
      · exact q
      · rw [(d3 b (by omega)).1, Nat.zero_testBit] at hab
        exact absurd hab (by decide)
  exact ⟨cN, ⟨fun p hp => ⟨(d2 p hp).1, (d2 p hp).2.2.1⟩, bm⟩, rN, fun p hp => ⟨(d2 p hp).2.1, by rw [show 20 + 5 * p + 4 = 20 + (p * 5 + 4) by omega]; exact (d2 p hp).2.2.2⟩, d4, bm⟩
theorem nI_z {n : Nat} (h : n < 2 ^ 31) : nI n = 0 ↔ n = 0 := by
  have := nI_eq (a := n) (b := 0) h (by omega)
  rwa [nI_0] at this
theorem cn24 {n : Nat} (h : n < 2 ^ 24) : (nI n).toNatClampNeg = n := nI_clamp (by omega)
theorem q_X11_alongOf {h : HI} {g : HL} (hR : RI (h 136)) {m : Nat} (em : h 136 0 = nI m) (hm : m ≤ 24) {B : Nat → Nat} (R : BRr (h 136) m B) {p : Nat} (hp : p < m) : w_X11_alongOf (nI p) h g (fun r h' g' => h = h' ∧ g = g' ∧ ∃ S, S < 2 ^ 24 ∧ r = nI S ∧ LCl B p S) := by
  obtain ⟨rN, R1, R2, R3⟩ := R
  have v0 : vp_in (0 : Int32) 887 := vp_in_iff.mpr (by decide)
  unfold w_X11_alongOf
  refine lpE_intro (fun ⟨a_q, b_q, c_q, h_q, g_q⟩ => ∃ S : Nat, nI p = a_q ∧ nI S = b_q ∧ h = h_q ∧ g = g_q ∧ S < 2 ^ 24 ∧ (∀ a, S.testBit a = true → a < m) ∧ (∀ T, CLo B p T → ∀ a, S.testBit a = true → T.testBit a = true) ∧ (c_q = 0 → CLo B p S)) (fun ⟨_, b_q, c_q, _, _⟩ => 2 * (24 - pcn b_q.toNatClampNeg 24) + (if c_q = 0 then 0 else 1)) ?_ _ ⟨0, rfl, nI_0, rfl, rfl, by decide, fun a ha => absurd ha (by rw [Nat.zero_testBit]; decide), fun T hT a ha => absurd ha (by rw [Nat.zero_testBit]; decide), fun c => absurd c (by decide)⟩
  rintro ⟨y1, y2, y3, h1, g1⟩ K ⟨S, rfl, rfl, rfl, rfl, S24, Sm, Sl, Sc⟩ hK
  unfold F_X11_alongOf_4; dsimp only; unfold b_X11_alongOf_4
  refine ⟨fun c => ⟨rfl, rfl, S, S24, rfl, Sc c, Sl⟩, fun c => ?_⟩
  have P24 : S ||| 2 ^ p < 2 ^ 24 := or24 S24 (p2_24 (by omega))
  refine lpE_intro (fun ⟨a_q, b_q, c_q, d_q, h_q, g_q⟩ => ∃ N j : Nat, j ≤ m ∧ nI p = a_q ∧ nI S = b_q ∧ nI N = c_q ∧ nI j = d_q ∧ h = h_q ∧ g = g_q ∧ N < 2 ^ 24 ∧ (∀ a, N.testBit a = true → a < m) ∧ (∀ a, S.testBit a = true → N.testBit a = true) ∧ (∀ T, CLo B p T → ∀ a, N.testBit a = true → T.testBit a = true) ∧ (∀ o a, a < j → (S.testBit o = true ∨ o = p) → (B o).testBit a = true → N.testBit a = true)) (fun ⟨_, _, _, d_q, _, _⟩ => dif (nI m) d_q) ?_ _ ⟨S, 0, by omega, rfl, rfl, rfl, nI_0, rfl, rfl, S24, Sm, fun _ ha => ha, Sl, fun o a ha => by omega⟩
  rintro ⟨z1, z2, z4, z5, h2, g2⟩ K2 ⟨N, j, hj, rfl, rfl, rfl, rfl, rfl, rfl, N24, Nm, SN, Nl, NB⟩ hK2
  unfold F_X11_alongOf_14; dsimp only; unfold b_X11_alongOf_14
  rw [cl0, em]
  refine and_have v0 (fun _ => ⟨fun c2 => ?_, fun c2 => ?_⟩)
  · rw [nI_leI (by omega) (by omega)] at c2
    have cl : N = S → CLo B p S := fun e => by
      refine ⟨fun a ha => ?_, fun o a ho ha => ?_⟩
      · rw [← e]; exact NB p a (by have := (R3 a p ha).1; omega) (.inr rfl) ha
      · rw [← e]; exact NB o a (by have := (R3 a o ha).1; omega) (.inl ho) ha
    unfold j_X11_alongOf_71
    refine ⟨fun e => ?_, fun e => ?_⟩
    · have eN : N = S := (nI_eq (by omega) (by omega)).mp e
      refine hK _ ⟨N, rfl, rfl, rfl, rfl, N24, Nm, Nl, fun _ => by rw [eN]; exact cl eN⟩ ?_
      dsimp only
      rw [eN, if_pos rfl, if_neg c]; omega
    · refine hK _ ⟨N, rfl, rfl, rfl, rfl, N24, Nm, Nl, fun q => absurd q (by decide)⟩ ?_
      dsimp only
      rw [if_neg (by decide), if_neg c, cn24 N24, cn24 S24]
      have ne : N ≠ S := fun q => e (by rw [q])
      obtain ⟨i, hi⟩ := Nat.exists_testBit_ne_of_ne ne
      have iN : N.testBit i = true := by
        cases a : N.testBit i
        · cases b : S.testBit i
          · rw [a, b] at hi; exact absurd rfl hi
          · rw [SN i b] at a; exact absurd a (by decide)
        · rfl
      have h1 := pcn_lt (S := S) (T := N) (n := 24) SN ⟨i, by have := Nm i iN; omega, iN, fun q => hi (by rw [iN, q])⟩
      have h2 := pcn_le (S := N) (n := 24)
      omega
  · have hd2 := dif_lt c2
    rw [nI_leI (by omega) (by omega)] at c2
    refine c_i (p_X11_partOf hR (bd_of (by omega) (by omega) (by omega)) ((bd_lit (n := 4) (by decide)).mo (by decide) (by decide))) ?_
    rintro _ _ _ ⟨rfl, rfl, rfl⟩
    rw [show ((20 : Int32) + ((5 : Int32) * nI j)) + (4 : Int32) = nI (20 + 5 * j + 4) from ix3 20 5 j 4, nI_clamp (n := 20 + 5 * j + 4) (by omega), (R1 j (by omega)).2, sh_t p (by omega), sh_t j (by omega), nI_or, nI_and]
    have j51 : ∀ M : Nat, M < 2 ^ 24 → (∀ a, M.testBit a = true → a = j) → (∀ o, (S.testBit o = true ∨ o = p) → (B o).testBit j = true → M.testBit j = true) → (M.testBit j = true → ∃ o, (S.testBit o = true ∨ o = p) ∧ (B o).testBit j = true) → j_X11_alongOf_51 (fun r h' g' => h = h' ∧ g = g' ∧ ∃ S, S < 2 ^ 24 ∧ r = nI S ∧ LCl B p S) (fun x1 x2 x3 h g => K (x1, x2, x3, h, g)) (fun x1 x2 x4 x5 h g => K2 (x1, x2, x4, x5, h, g)) (nI p) (nI S) (nI j) (nI N) (nI M) h g := by
      intro M M24 Mj Mi Mo
      unfold j_X11_alongOf_51
      rw [nI_or]
      rintro _ rfl
      rintro _ rfl
      refine hK2 _ ⟨N ||| M, j + 1, by omega, rfl, rfl, rfl, (nI_1 j).symm, rfl, rfl, or24 N24 M24, fun a ha => ?_, fun a ha => ?_, fun T hT a ha => ?_, fun o a ha hS hB => ?_⟩ hd2
      · rw [Nat.testBit_or, Bool.or_eq_true] at ha
        exact ha.elim (Nm a) (fun q => by rw [Mj a q]; omega)
      · rw [Nat.testBit_or, SN a ha, Bool.true_or]
      · rw [Nat.testBit_or, Bool.or_eq_true] at ha
        refine ha.elim (Nl T hT a) (fun q => ?_)
        have ea := Mj a q
        subst ea
        obtain ⟨o, ho, hB⟩ := Mo q
        rcases ho with ho | ho
        · exact hT.2 o a (Sl T hT o ho) hB
        · subst ho; exact hT.1 a hB
      · rw [Nat.testBit_or, Bool.or_eq_true]
        by_cases ea : a = j
        · subst ea; exact .inr (Mi o hS hB)
        · exact .inl (NB o a (by omega) hS hB)
    have e24 : rN j &&& (S ||| 2 ^ p) < 2 ^ 31 := Nat.lt_of_le_of_lt Nat.and_le_left (by have := (R1 j (by omega)).1; omega)
    have mem : ∀ o, (S ||| 2 ^ p).testBit o = true ↔ (S.testBit o = true ∨ o = p) := fun o => by
      rw [Nat.testBit_or, Bool.or_eq_true, Nat.testBit_two_pow, decide_eq_true_iff]
      exact ⟨fun q => q.elim .inl (fun e => .inr e.symm), fun q => q.elim .inl (fun e => .inr e.symm)⟩
    refine ⟨fun cz => ?_, fun cz => ?_⟩
    · rw [nI_z e24] at cz
      refine j51 0 (by decide) (fun a ha => absurd ha (by rw [Nat.zero_testBit]; decide)) (fun o hS hB => ?_) (fun q => absurd q (by rw [Nat.zero_testBit]; decide))
      exfalso
      have h1 : (rN j &&& (S ||| 2 ^ p)).testBit o = true := by
        rw [Nat.testBit_and, (mem o).mpr hS, ← R2 j o, hB]; rfl
      rw [cz, Nat.zero_testBit] at h1
      exact absurd h1 (by decide)
    · rw [nI_z e24] at cz
      refine j51 (2 ^ j) (p2_24 (by omega)) (fun a ha => ?_) (fun o hS hB => Nat.testBit_two_pow_self) (fun _ => ?_)
      · rw [Nat.testBit_two_pow, decide_eq_true_iff] at ha; exact ha.symm
      · obtain ⟨o, ho⟩ := Nat.exists_testBit_of_ne_zero cz
        rw [Nat.testBit_and, Bool.and_eq_true] at ho
        exact ⟨o, (mem o).mp ho.2, by rw [R2 j o]; exact ho.1⟩
theorem q_X10_along {h : HI} {g : HL} {m : Nat} (T : TT h 2 m 5 24) {B : Nat → Nat} (R : BRc h m B) {x1 : Int32} : w_X10_along x1 h g (fun r h' g' => h = h' ∧ g = g' ∧ ((¬ isRow (nI m) x1 ∧ r = -2) ∨ ∃ p S, p < m ∧ x1 = nI p ∧ r = nI S ∧ LCl B p S)) := by
  have hm := T.2.2.2.1
  unfold w_X10_along
  refine c_hb (fun q0 => ?_) (fun q0 => ⟨fun c => absurd rfl c, fun _ => ⟨rfl, rfl, .inl ⟨by rw [T.2.2.1] at q0; exact q0, rfl⟩⟩⟩)
  obtain ⟨p, hp, rfl⟩ := row_n q0 T.2.2.1 (by omega)
  refine ⟨fun _ => ?_, fun c => absI c⟩
  refine c_i (q_X1_reached T R hp) ?_
  rintro _ _ _ ⟨rfl, rfl, S, S24, rfl, L⟩
  exact ⟨rfl, rfl, .inr ⟨p, S, hp, rfl, rfl, L⟩⟩
theorem q_X11_along {h : HI} {g : HL} (hR : RI (h 136)) {m : Nat} (em : h 136 0 = nI m) (hm : m ≤ 24) {B : Nat → Nat} (R : BRr (h 136) m B) {x1 : Int32} : w_X11_along x1 h g (fun r h' g' => h = h' ∧ g = g' ∧ ((¬ isRow (nI m) x1 ∧ r = -2) ∨ ∃ p S, p < m ∧ x1 = nI p ∧ r = nI S ∧ LCl B p S)) := by
  unfold w_X11_along
  refine c_is (vp_in_iff.mpr (by decide)) hR.c0 (by decide) (fun q q1 => ⟨fun c => absI c, fun _ => ?_⟩) (fun q => ⟨fun _ => ⟨rfl, rfl, .inl ⟨by rw [cl0, em] at q; exact isRow_n q, rfl⟩⟩, fun c => absN c⟩)
  rw [cl0, em] at q1
  obtain ⟨p, hp, rfl⟩ := row_n (isRow_r q q1) rfl (by omega)
  refine c_i (q_X11_alongOf hR em hm R hp) ?_
  rintro _ _ _ ⟨rfl, rfl, S, S24, rfl, L⟩
  exact ⟨rfl, rfl, .inr ⟨p, S, hp, rfl, rfl, L⟩⟩
theorem along_st {m : Nat} {B : Nat → Nat} {r s x1 : Int32} (hm : m ≤ 24) (a : (¬ isRow (nI m) x1 ∧ r = -2) ∨ ∃ p S, p < m ∧ x1 = nI p ∧ r = nI S ∧ LCl B p S) (b : (¬ isRow (nI m) x1 ∧ s = -2) ∨ ∃ p S, p < m ∧ x1 = nI p ∧ s = nI S ∧ LCl B p S) : r = s := by
  rcases a with ⟨a1, rfl⟩ | ⟨p, S, hp, rfl, rfl, L⟩
  · rcases b with ⟨-, rfl⟩ | ⟨p, S, hp, rfl, -⟩
    · rfl
    · exact absurd (row_of hp (by omega)) a1
  · rcases b with ⟨b1, -⟩ | ⟨p', S', hp', e, rfl, L'⟩
    · exact absurd (row_of hp (by omega)) b1
    · have : p = p' := (nI_eq (by omega) (by omega)).mp e
      subst this
      rw [L.un L']
end
section
-- 60.lawabs
/-! THE LAW OF WEAR, read sign by sign -/
def rk (c : Int32) : Nat := if c = 33 then 6 else if c = 126 then 6 else if c = 42 then 5 else if c = 47 then 5 else if c = 43 then 4 else if c = 45 then 4 else if c = 60 then 3 else if c = 61 then 3 else if c = 62 then 3 else if c = 38 then 2 else if c = 124 then 1 else 0
/-- what waits is written, as far as it binds r at least: the top first, of what waits and of what is written -/
def stl (r : Nat) : List Int32 → List Int32 → List Int32 × List Int32
  | [], o => ([], o)
  | w :: ws, o => if r ≤ rk w then stl r ws (-w :: o) else (w :: ws, o)
def tp : List Int32 → Nat
  | [] => 0
  | w :: _ => rk w
def hd0 : List Int32 → Int32
  | [] => 0
  | x :: _ => x
/-- written, waiting, open, digits, whether a UNIT is due -/
abbrev LSt : Type := List Int32 × List Int32 × Nat × Nat × Nat
def dgt (c : Int32) : Prop := ¬ c < 48 ∧ ¬ 57 < c
def rr (c : Int32) : Nat := if rk c = 3 then 4 else rk c
/-- 0: it goes on; else the fault's last digit -/
def badL (c : Int32) : LSt → Nat
  | (o, w, n, d, u) =>
    if ¬ c < 48 ∧ ¬ 57 < c then (if d = 0 ∧ u = 0 then 1 else if 6 ≤ d then 2 else 0)
    else if c = 32 then 0
    else if u = 0 then (if c = 41 then (if n = 0 then 1 else 0) else if rk c < 1 ∨ 6 ≤ rk c then 1 else if rk c = 3 ∧ tp (stl (rr c) w o).1 = 3 then 1 else 0)
    else if c = 40 then (if n < 8 then 0 else 3)
    else if c = 121 ∨ c = 108 ∨ c = 104 ∨ c = 33 ∨ c = 45 then 0 else 1
def nxL (c : Int32) : LSt → LSt
  | (o, w, n, d, u) =>
    if ¬ c < 48 ∧ ¬ 57 < c then (if d = 0 then ((c - 48) :: o, w, n, 1, 0) else ((10 * hd0 o + (c - 48)) :: o.tail, w, n, d + 1, 0))
    else if c = 32 then (o, w, n, 0, u)
    else if u = 0 then (if c = 41 then ((stl 1 w o).2, (stl 1 w o).1.tail, n - 1, 0, 0) else ((stl (rr c) w o).2, c :: (stl (rr c) w o).1, n, 0, 1))
    else if c = 40 then (o, 40 :: w, n + 1, 0, 1)
    else if c = 33 then (o, 33 :: w, n, 0, 1)
    else if c = 45 then (o, 126 :: w, n, 0, 1)
    else (-c :: o, w, n, 0, 0)
def AR (f : Nat → Int32) : Nat → LSt
  | 0 => ([], [], 0, 0, 1)
  | k + 1 => nxL (f k) (AR f k)
def okp (f : Nat → Int32) (n : Nat) : Prop := ∀ k, k < n → badL (f k) (AR f k) = 0
def flw (k b d : Nat) : Int32 := if b = 2 then nI (10 * (k - d) + 2) else nI (10 * k + b)
def dgL : LSt → Nat
  | (_, _, _, d, _) => d
def enb : LSt → Prop
  | (_, _, n, _, u) => ¬ (u = 0 ∧ n = 0)
def prg : LSt → List Int32
  | (o, w, _, _, _) => (stl 1 w o).2
/-- what reading n signs f finds: the fault, and the steps where there is none -/
def RSl (f : Nat → Int32) (n : Nat) (fl : Int32) (p : List Int32) : Prop :=
  (∃ k, k < n ∧ okp f k ∧ badL (f k) (AR f k) ≠ 0 ∧ fl = flw k (badL (f k) (AR f k)) (dgL (AR f k)) ∧ ¬ fl = -1) ∨
  (okp f n ∧ enb (AR f n) ∧ fl = nI (10 * n + 1) ∧ ¬ fl = -1) ∨ (okp f n ∧ ¬ enb (AR f n) ∧ fl = -1 ∧ p = prg (AR f n))
theorem RSl.un {f : Nat → Int32} {n : Nat} {a b : Int32} {p q : List Int32} (x : RSl f n a p) (y : RSl f n b q) : a = b ∧ (a = -1 → p = q) := by
  rcases x with ⟨k, hk, ok, bk, ea, na⟩ | ⟨ok, e, ea, na⟩ | ⟨ok, e, ea, ep⟩
  · refine ⟨?_, fun q => absurd q na⟩
    rcases y with ⟨k', hk', ok', bk', eb, nb⟩ | ⟨ok', -⟩ | ⟨ok', -⟩
    · have : k = k' := by
        rcases Nat.lt_trichotomy k k' with c | c | c
        · exact absurd (ok' k c) bk
        · exact c
        · exact absurd (ok k' c) bk'
      subst this
      exact ea.trans eb.symm
    · exact absurd (ok' k hk) bk
    · exact absurd (ok' k hk) bk
  · refine ⟨?_, fun q => absurd q na⟩
    rcases y with ⟨k', hk', ok', bk', eb, nb⟩ | ⟨ok', -, eb, -⟩ | ⟨ok', e', -⟩
    · exact absurd (ok k' hk') bk'
    · exact ea.trans eb.symm
    · exact absurd e e'
  · rcases y with ⟨k', hk', ok', bk', eb, nb⟩ | ⟨ok', e', -⟩ | ⟨ok', e', eb, eq⟩
    · exact absurd (ok k' hk') bk'
    · exact absurd e' e
    · exact ⟨ea.trans eb.symm, fun _ => ep.trans eq.symm⟩
theorem AR_cg {f f' : Nat → Int32} : ∀ {n : Nat}, (∀ k, k < n → f' k = f k) → AR f' n = AR f n
  | 0, _ => rfl
  | n + 1, e => by
    unfold AR
    rw [e n (by omega), AR_cg (fun k hk => e k (by omega))]
theorem RSl.cg {f f' : Nat → Int32} {n : Nat} {a : Int32} {p : List Int32} (x : RSl f n a p) (e : ∀ k, k < n → f' k = f k) : RSl f' n a p := by
  have ea : ∀ k, k ≤ n → AR f' k = AR f k := fun k hk => AR_cg (fun i hi => e i (by omega))
  have eo : ∀ k, k ≤ n → okp f k → okp f' k := fun k hk o i hi => by
    rw [e i (by omega), ea i (by omega)]; exact o i hi
  rcases x with ⟨k, hk, ok, bk, q, na⟩ | ⟨ok, q, na⟩ | ⟨ok, q, q2, ep⟩
  · exact .inl ⟨k, hk, eo k (by omega) ok, by rw [e k hk, ea k (by omega)]; exact bk, by rw [e k hk, ea k (by omega)]; exact q, na⟩
  · exact .inr (.inl ⟨eo n (by omega) ok, by rw [ea n (by omega)]; exact q, na⟩)
  · exact .inr (.inr ⟨eo n (by omega) ok, by rw [ea n (by omega)]; exact q, q2, by rw [ea n (by omega)]; exact ep⟩)
/-! the case equations -/
theorem bad_dg {c : Int32} (h : dgt c) {o w : List Int32} {n d u : Nat} : badL c (o, w, n, d, u) = (if d = 0 ∧ u = 0 then 1 else if 6 ≤ d then 2 else 0) := if_pos h
theorem bad_sp {c : Int32} (h : ¬ dgt c) (h2 : c = 32) {o w : List Int32} {n d u : Nat} : badL c (o, w, n, d, u) = 0 := (if_neg h).trans (if_pos h2)
theorem bad_f {c : Int32} (h : ¬ dgt c) (h2 : ¬ c = 32) {o w : List Int32} {n d : Nat} : badL c (o, w, n, d, 0) = (if c = 41 then (if n = 0 then 1 else 0) else if rk c < 1 ∨ 6 ≤ rk c then 1 else if rk c = 3 ∧ tp (stl (rr c) w o).1 = 3 then 1 else 0) := (if_neg h).trans ((if_neg h2).trans (if_pos rfl))
theorem bad_u {c : Int32} (h : ¬ dgt c) (h2 : ¬ c = 32) {o w : List Int32} {n d u : Nat} (hu : ¬ u = 0) : badL c (o, w, n, d, u) = (if c = 40 then (if n < 8 then 0 else 3) else if c = 121 ∨ c = 108 ∨ c = 104 ∨ c = 33 ∨ c = 45 then 0 else 1) := (if_neg h).trans ((if_neg h2).trans (if_neg hu))
theorem nx_d0 {c : Int32} (h : dgt c) {o w : List Int32} {n u : Nat} : nxL c (o, w, n, 0, u) = ((c - 48) :: o, w, n, 1, 0) := (if_pos h).trans (if_pos rfl)
theorem nx_d1 {c : Int32} (h : dgt c) {o w : List Int32} {n d u : Nat} (hd : ¬ d = 0) : nxL c (o, w, n, d, u) = ((10 * hd0 o + (c - 48)) :: o.tail, w, n, d + 1, 0) := (if_pos h).trans (if_neg hd)
theorem nx_sp {c : Int32} (h : ¬ dgt c) (h2 : c = 32) {o w : List Int32} {n d u : Nat} : nxL c (o, w, n, d, u) = (o, w, n, 0, u) := (if_neg h).trans (if_pos h2)
theorem nx_f {c : Int32} (h : ¬ dgt c) (h2 : ¬ c = 32) {o w : List Int32} {n d : Nat} : nxL c (o, w, n, d, 0) = (if c = 41 then ((stl 1 w o).2, (stl 1 w o).1.tail, n - 1, 0, 0) else ((stl (rr c) w o).2, c :: (stl (rr c) w o).1, n, 0, 1)) := (if_neg h).trans ((if_neg h2).trans (if_pos rfl))
theorem nx_u {c : Int32} (h : ¬ dgt c) (h2 : ¬ c = 32) {o w : List Int32} {n d u : Nat} (hu : ¬ u = 0) : nxL c (o, w, n, d, u) = (if c = 40 then (o, 40 :: w, n + 1, 0, 1) else if c = 33 then (o, 33 :: w, n, 0, 1) else if c = 45 then (o, 126 :: w, n, 0, 1) else (-c :: o, w, n, 0, 0)) := (if_neg h).trans ((if_neg h2).trans (if_neg hu))
theorem dgt_of {c : Int32} (h : c = 33 ∨ c = 40 ∨ c = 41 ∨ c = 45 ∨ c = 32 ∨ c = 121 ∨ c = 108 ∨ c = 104) : ¬ dgt c := by
  unfold dgt
  rcases h with rfl | rfl | rfl | rfl | rfl | rfl | rfl | rfl <;> decide
/-! what holds of every state that is reached -/
def wcL : List Int32 := [33, 126, 42, 47, 43, 45, 60, 61, 62, 38, 124, 40]
def okT (t : Int32) : Prop := (∃ v : Nat, v < 1000000 ∧ t = nI v) ∨ t = -121 ∨ t = -108 ∨ t = -104 ∨ ∃ x, x ∈ wcL ∧ 1 ≤ rk x ∧ t = -x
def c40 : List Int32 → Nat
  | [] => 0
  | w :: ws => c40 ws + (if w = 40 then 1 else 0)
def SIl (i : Nat) : LSt → Prop
  | (o, w, n, d, u) => o.length + w.length ≤ i ∧ c40 w = n ∧ (0 < d → u = 0 ∧ ∃ v xs, o = nI v :: xs ∧ v < 10 ^ d) ∧ d ≤ 6 ∧ u ≤ 1 ∧ n ≤ 8 ∧ d ≤ i ∧ (∀ x, x ∈ w → x ∈ wcL) ∧ ∀ t, t ∈ o → okT t
theorem stl_len {r : Nat} : ∀ {w o : List Int32}, (stl r w o).1.length + (stl r w o).2.length = w.length + o.length
  | [], o => rfl
  | w :: ws, o => by
    unfold stl
    by_cases c : r ≤ rk w
    · rw [if_pos c, stl_len, List.length_cons, List.length_cons]; omega
    · rw [if_neg c]
theorem rk40 : rk 40 = 0 := by decide
theorem stl_c40 {r : Nat} (hr : 1 ≤ r) : ∀ {w o : List Int32}, c40 (stl r w o).1 = c40 w
  | [], o => rfl
  | w :: ws, o => by
    unfold stl
    by_cases c : r ≤ rk w
    · rw [if_pos c, stl_c40 hr]
      have : ¬ w = 40 := fun e => by rw [e, rk40] at c; omega
      rw [show c40 (w :: ws) = c40 ws + (if w = 40 then 1 else 0) from rfl, if_neg this]; rfl
    · rw [if_neg c]
theorem stl_w {r : Nat} : ∀ {w o : List Int32}, ∀ x, x ∈ (stl r w o).1 → x ∈ w
  | [], o, x, h => h
  | w :: ws, o, x, h => by
    unfold stl at h
    by_cases c : r ≤ rk w
    · rw [if_pos c] at h
      exact List.mem_cons_of_mem _ (stl_w x h)
    · rw [if_neg c] at h; exact h
theorem stl_o {r : Nat} (hr : 1 ≤ r) : ∀ {w o : List Int32}, (∀ x, x ∈ w → x ∈ wcL) → (∀ t, t ∈ o → okT t) → ∀ t, t ∈ (stl r w o).2 → okT t
  | [], o, _, ho, t, h => ho t h
  | w :: ws, o, hw, ho, t, h => by
    unfold stl at h
    by_cases c : r ≤ rk w
    · rw [if_pos c] at h
      refine stl_o hr (fun x hx => hw x (List.mem_cons_of_mem _ hx)) (fun t' ht => ?_) t h
      rcases List.mem_cons.mp ht with e | e
      · exact .inr (.inr (.inr (.inr ⟨w, hw w (List.mem_cons_self ..), by omega, e⟩)))
      · exact ho t' e
    · rw [if_neg c] at h; exact ho t h
theorem dg_nI {c : Int32} (h : dgt c) : ∃ v : Nat, v < 10 ∧ c - 48 = nI v ∧ c = nI (48 + v) := by
  obtain ⟨a, b⟩ := h
  obtain ⟨n, hn, rfl⟩ := nI_of (x := c) (fun q => a (by
    rw [Int32.lt_iff_toInt_lt] at q ⊢
    rw [show (0 : Int32).toInt = 0 by decide] at q
    rw [show (48 : Int32).toInt = 48 by decide]; omega))
  rw [show (48 : Int32) = nI 48 from rfl, nI_ltI (by omega) (by omega)] at a
  rw [show (57 : Int32) = nI 57 from rfl, nI_ltI (by omega) (by omega)] at b
  obtain ⟨v, rfl⟩ : ∃ v, n = 48 + v := ⟨n - 48, by omega⟩
  refine ⟨v, by omega, ?_, rfl⟩
  rw [← nI_add, show (48 : Int32) = nI 48 from rfl, Int32.add_comm, Int32.add_sub_cancel]
theorem stl_tp {r : Nat} : ∀ {w o : List Int32}, ∀ y ys, (stl r w o).1 = y :: ys → rk y < r
  | [], o, y, ys, h => by
    have h : ([] : List Int32) = y :: ys := h
    cases h
  | w :: ws, o, y, ys, h => by
    unfold stl at h
    by_cases c : r ≤ rk w
    · rw [if_pos c] at h
      exact stl_tp y ys h
    · rw [if_neg c] at h
      have e : w :: ws = y :: ys := h
      rw [List.cons.injEq] at e
      rw [← e.1]; omega
theorem wc0 {y : Int32} (h : y ∈ wcL) (h0 : rk y < 1) : y = 40 := (by decide : ∀ y ∈ wcL, rk y < 1 → y = 40) y h h0
theorem rk_wc {c : Int32} (h : 1 ≤ rk c) : c ∈ wcL := by
  unfold rk at h
  by_cases c1 : c = 33
  · subst c1; decide
  by_cases c2 : c = 126
  · subst c2; decide
  by_cases c3 : c = 42
  · subst c3; decide
  by_cases c4 : c = 47
  · subst c4; decide
  by_cases c5 : c = 43
  · subst c5; decide
  by_cases c6 : c = 45
  · subst c6; decide
  by_cases c7 : c = 60
  · subst c7; decide
  by_cases c8 : c = 61
  · subst c8; decide
  by_cases c9 : c = 62
  · subst c9; decide
  by_cases c10 : c = 38
  · subst c10; decide
  by_cases c11 : c = 124
  · subst c11; decide
  rw [if_neg c1, if_neg c2, if_neg c3, if_neg c4, if_neg c5, if_neg c6, if_neg c7, if_neg c8, if_neg c9, if_neg c10, if_neg c11] at h
  omega
theorem SIl.nx {c : Int32} {i : Nat} {s : LSt} (x : SIl i s) (b : badL c s = 0) : SIl (i + 1) (nxL c s) := by
  obtain ⟨o, w, n, d, u⟩ := s
  obtain ⟨a1, a2, a3, a4, a5, a6, a7, a8, a9⟩ := x
  by_cases cd : dgt c
  · obtain ⟨v, hv, ev, -⟩ := dg_nI cd
    rw [bad_dg cd] at b
    by_cases d0 : d = 0
    · subst d0
      rw [nx_d0 cd, ev]
      refine ⟨by rw [List.length_cons]; omega, a2, fun _ => ⟨rfl, v, o, rfl, by omega⟩, by omega, by omega, a6, by omega, a8, fun t ht => ?_⟩
      rcases List.mem_cons.mp ht with e | e
      · exact .inl ⟨v, by omega, e⟩
      · exact a9 t e
    · rw [nx_d1 cd d0, ev]
      obtain ⟨e0, v0, xs, e1, e2⟩ := a3 (by omega)
      subst e1
      rw [if_neg (fun q => d0 q.1)] at b
      have d6 : ¬ 6 ≤ d := fun q => by rw [if_pos q] at b; omega
      have eh : 10 * hd0 (nI v0 :: xs) + nI v = nI (10 * v0 + v) := by
        rw [show hd0 (nI v0 :: xs) = nI v0 from rfl, show (10 : Int32) = nI 10 from rfl, pk_mul, nI_add]
      have p6 : 10 ^ (d + 1) ≤ 10 ^ 6 := Nat.pow_le_pow_right (by decide) (by omega)
      have p1 : 10 ^ (d + 1) = 10 * 10 ^ d := by rw [Nat.pow_succ]; omega
      rw [eh]
      refine ⟨?_, a2, fun _ => ⟨rfl, 10 * v0 + v, xs, rfl, by omega⟩, by omega, by omega, a6, by omega, a8, fun t ht => ?_⟩
      · rw [List.tail_cons, List.length_cons]; rw [List.length_cons] at a1; omega
      · rcases List.mem_cons.mp ht with e | e
        · exact .inl ⟨10 * v0 + v, by omega, e⟩
        · exact a9 t (List.mem_cons_of_mem _ e)
  by_cases c32 : c = 32
  · rw [nx_sp cd c32]
    exact ⟨by omega, a2, fun q => by omega, by omega, a5, a6, by omega, a8, a9⟩
  by_cases u0 : u = 0
  · subst u0
    rw [bad_f cd c32] at b
    rw [nx_f cd c32]
    by_cases c41 : c = 41
    · rw [if_pos c41] at b ⊢
      have n0 : ¬ n = 0 := fun q => by rw [if_pos q] at b; omega
      have l := stl_len (r := 1) (w := w) (o := o)
      have k := stl_c40 (r := 1) (Nat.le_refl _) (w := w) (o := o)
      have m := stl_w (r := 1) (w := w) (o := o)
      have m2 := stl_o (r := 1) (Nat.le_refl _) a8 a9
      have tpx := stl_tp (r := 1) (w := w) (o := o)
      generalize stl 1 w o = s at l k m m2 tpx ⊢
      obtain ⟨w', o'⟩ := s
      cases w' with
      | nil =>
        rw [a2] at k
        exact absurd k.symm n0
      | cons y ys =>
        have hy : y ∈ wcL := a8 y (m y (List.mem_cons_self ..))
        have y40 : y = 40 := wc0 hy (tpx y ys rfl)
        rw [show c40 (y :: ys) = c40 ys + (if y = 40 then 1 else 0) from rfl, if_pos y40] at k
        rw [List.length_cons] at l
        refine ⟨?_, ?_, fun q => absurd q (Nat.lt_irrefl 0), by omega, by omega, by omega, by omega, fun x hx => a8 x (m x (List.mem_cons_of_mem _ hx)), m2⟩
        · show o'.length + ys.length ≤ i + 1
          have l : ys.length + 1 + o'.length = w.length + o.length := l
          omega
        · show c40 ys = n - 1
          omega
    · rw [if_neg c41] at b ⊢
      have rb : 1 ≤ rk c := by
        by_cases q : rk c < 1 ∨ 6 ≤ rk c
        · rw [if_pos q] at b; omega
        · omega
      have rrb : 1 ≤ rr c := by
        unfold rr
        by_cases q : rk c = 3
        · rw [if_pos q]; omega
        · rw [if_neg q]; exact rb
      have l := stl_len (r := rr c) (w := w) (o := o)
      have k := stl_c40 (r := rr c) rrb (w := w) (o := o)
      have m := stl_w (r := rr c) (w := w) (o := o)
      have m2 := stl_o (r := rr c) rrb a8 a9
      generalize stl (rr c) w o = s at l k m m2 ⊢
      obtain ⟨w', o'⟩ := s
      have l : w'.length + o'.length = w.length + o.length := l
      have k : c40 w' = c40 w := k
      have n40 : ¬ c = 40 := fun e => by rw [e, rk40] at rb; omega
      refine ⟨?_, ?_, fun q => absurd q (Nat.lt_irrefl 0), by omega, by omega, by omega, by omega, fun x hx => ?_, m2⟩
      · show o'.length + (c :: w').length ≤ i + 1
        rw [List.length_cons]; omega
      · show c40 w' + (if c = 40 then 1 else 0) = n
        rw [if_neg n40]; omega
      · rcases List.mem_cons.mp hx with e | e
        · rw [e]; exact rk_wc rb
        · exact a8 x (m x e)
  · rw [bad_u cd c32 u0] at b
    rw [nx_u cd c32 u0]
    have wt : ∀ y, y ∈ wcL → ∀ x, x ∈ y :: w → x ∈ wcL := fun y hy x hx => by
      rcases List.mem_cons.mp hx with e | e
      · rw [e]; exact hy
      · exact a8 x e
    by_cases c4 : c = 40
    · rw [if_pos c4] at b ⊢
      have n8 : n < 8 := by
        by_cases q : n < 8
        · exact q
        · rw [if_neg q] at b; omega
      refine ⟨by rw [List.length_cons]; omega, ?_, fun q => absurd q (Nat.lt_irrefl 0), by omega, by omega, by omega, by omega, wt 40 (by decide), a9⟩
      show c40 w + (if (40 : Int32) = 40 then 1 else 0) = n + 1
      rw [if_pos rfl]; omega
    rw [if_neg c4] at b ⊢
    by_cases c3 : c = 33
    · rw [if_pos c3]
      refine ⟨by rw [List.length_cons]; omega, ?_, fun q => absurd q (Nat.lt_irrefl 0), by omega, by omega, by omega, by omega, wt 33 (by decide), a9⟩
      show c40 w + (if (33 : Int32) = 40 then 1 else 0) = n
      rw [if_neg (by decide)]; omega
    rw [if_neg c3]
    by_cases c5 : c = 45
    · rw [if_pos c5]
      refine ⟨by rw [List.length_cons]; omega, ?_, fun q => absurd q (Nat.lt_irrefl 0), by omega, by omega, by omega, by omega, wt 126 (by decide), a9⟩
      show c40 w + (if (126 : Int32) = 40 then 1 else 0) = n
      rw [if_neg (by decide)]; omega
    rw [if_neg c5]
    have cu : c = 121 ∨ c = 108 ∨ c = 104 := by
      by_cases q : c = 121 ∨ c = 108 ∨ c = 104 ∨ c = 33 ∨ c = 45
      · rcases q with q | q | q | q | q
        · exact .inl q
        · exact .inr (.inl q)
        · exact .inr (.inr q)
        · exact absurd q c3
        · exact absurd q c5
      · rw [if_neg q] at b; omega
    refine ⟨by rw [List.length_cons]; omega, a2, fun q => absurd q (Nat.lt_irrefl 0), by omega, by omega, a6, by omega, a8, fun t ht => ?_⟩
    rcases List.mem_cons.mp ht with e | e
    · rcases cu with rfl | rfl | rfl
      · exact .inr (.inl e)
      · exact .inr (.inr (.inl e))
      · exact .inr (.inr (.inr (.inl e)))
    · exact a9 t e
theorem SIl.at {f : Nat → Int32} : ∀ {i : Nat}, okp f i → SIl i (AR f i)
  | 0, _ => ⟨Nat.le_refl _, rfl, fun q => absurd q (Nat.lt_irrefl 0), by omega, by omega, by omega, by omega, fun x hx => absurd hx (List.not_mem_nil), fun x hx => absurd hx (List.not_mem_nil)⟩
  | i + 1, o => (SIl.at (fun k hk => o k (by omega))).nx (o i (by omega))
/-! stacks in arrays -/
def SK (f : Nat → Int32) : List Int32 → Prop
  | [] => True
  | x :: xs => f xs.length = x ∧ SK f xs
theorem SK.cg {f f' : Nat → Int32} : ∀ {l : List Int32}, (∀ k, k < l.length → f' k = f k) → SK f l → SK f' l
  | [], _, _ => trivial
  | x :: xs, e, h => by
    rw [List.length_cons] at e
    exact ⟨(e _ (by omega)).trans h.1, SK.cg (fun k hk => e k (by omega)) h.2⟩
theorem SK.push {f : Nat → Int32} {l : List Int32} {x : Int32} (h : SK f l) : SK (upd f l.length x) (x :: l) := ⟨pk_us, h.cg (fun k hk => pk_un (by omega))⟩
end
section
-- 61.lawcls
/-! THE CLASS READS IT SO -/
theorem sub1 (x : Int32) : x - 1 = x + (-1) := Int32.sub_eq_add_neg x 1
theorem nI_subN {a b : Nat} (h : b ≤ a) : nI a - nI b = nI (a - b) := by
  obtain ⟨c, rfl⟩ : ∃ c, a = b + c := ⟨a - b, by omega⟩
  rw [← nI_add, Int32.add_comm, Int32.add_sub_cancel, Nat.add_sub_cancel_left]
def STK (h : HI) (o w : List Int32) : Prop := h 77 4 = nI o.length ∧ SK (h 78) o ∧ h 77 5 = nI w.length ∧ SK (h 79) w
def FRL (h h' : HI) : Prop := JJ SLaw h h' ∧ h' 77 6 = h 77 6 ∧ h' 77 7 = h 77 7 ∧ h' 77 8 = h 77 8 ∧ h' 77 9 = h 77 9
theorem FRL.rf {h : HI} : FRL h h := ⟨JJ.rf, rfl, rfl, rfl, rfl⟩
theorem FRL.tr {a b c : HI} (x : FRL a b) (y : FRL b c) : FRL a c := ⟨x.1.tr y.1, y.2.1.trans x.2.1, y.2.2.1.trans x.2.2.1, y.2.2.2.1.trans x.2.2.2.1, y.2.2.2.2.trans x.2.2.2.2⟩
theorem FRL.h5 {h h' : HI} {k : Nat} {x : Int32} (e : h' = hu h 77 k x) (hk : k < 6) : FRL h h' := ⟨JJ.rf.hu e (by unfold SLaw; omega), by rw [e, hu_eq, pk_un (by omega)], by rw [e, hu_eq, pk_un (by omega)], by rw [e, hu_eq, pk_un (by omega)], by rw [e, hu_eq, pk_un (by omega)]⟩
theorem FRL.h78 {h h' : HI} {o k : Nat} {x : Int32} (e : h' = hu h o k x) (ho : o = 78 ∨ o = 79) : FRL h h' := by
  have e7 : h' 77 = h 77 := by rw [e, hu_ne (by omega)]
  exact ⟨JJ.rf.hu e (by unfold SLaw; omega), by rw [e7], by rw [e7], by rw [e7], by rw [e7]⟩
theorem q_X4_rank {h : HI} {g : HL} {x : Int32} : w_X4_rank x h g (fun r h' g' => nI (rk x) = r ∧ h = h' ∧ g = g') := by
  unfold w_X4_rank
  refine ⟨fun c => ?_, fun c => ?_, fun c => ?_, fun c => ?_, fun c => ?_, fun c => ?_, fun c => ?_, fun c => ?_, fun c => ?_, fun c => ?_, fun c => ?_, fun c1 c2 c3 c4 c5 c6 c7 c8 c9 c10 c11 => ?_⟩
  iterate 11 (· subst c; exact ⟨by decide, rfl, rfl⟩)
  unfold rk
  rw [if_neg c1, if_neg c11, if_neg c3, if_neg c6, if_neg c4, if_neg c5, if_neg c7, if_neg c8, if_neg c9, if_neg c2, if_neg c10]
  exact ⟨nI_0, rfl, rfl⟩
theorem q_X4_put {h : HI} {g : HL} {o w : List Int32} {x : Int32} (S : STK h o w) (hl : o.length < 60) : w_X4_put x h g (fun h' g' => g = g' ∧ FRL h h' ∧ STK h' (x :: o) w) := by
  obtain ⟨s4, s8, s5, s9⟩ := S
  unfold w_X4_put
  rw [s4]
  refine ⟨fun c => absurd c (nI_pos (by omega)), fun _ => ⟨fun c => ?_, fun _ => and_have (vp_in_nI hl (by omega)) (fun _ => ?_)⟩⟩
  · rw [show (60 : Int32) = nI 60 from rfl, nI_leI (by omega) (by omega)] at c; omega
  intro h1 e1
  rw [nI_clamp (by omega)] at e1
  intro h2 e2
  have e17 : h1 77 = h 77 := by rw [e1, hu_ne (by decide)]
  rw [e17, s4, nI_1] at e2
  refine ⟨rfl, (FRL.h78 e1 (.inl rfl)).tr (FRL.h5 e2 (by omega)), ?_, ?_, ?_, ?_⟩
  · rw [e2, hu_eq, pk_us]; rfl
  · rw [e2, hu_ne (by decide), e1, hu_eq]; exact s8.push
  · rw [e2, hu_eq, pk_un (by decide), e17]; exact s5
  · rw [e2, hu_ne (by decide), e1, hu_ne (by decide)]; exact s9
theorem q_X4_await {h : HI} {g : HL} {o w : List Int32} {x : Int32} (S : STK h o w) (hl : w.length < 60) : w_X4_await x h g (fun h' g' => g = g' ∧ FRL h h' ∧ STK h' o (x :: w)) := by
  obtain ⟨s4, s8, s5, s9⟩ := S
  unfold w_X4_await
  rw [s5]
  refine ⟨fun c => absurd c (nI_pos (by omega)), fun _ => ⟨fun c => ?_, fun _ => and_have (vp_in_nI hl (by omega)) (fun _ => ?_)⟩⟩
  · rw [show (60 : Int32) = nI 60 from rfl, nI_leI (by omega) (by omega)] at c; omega
  intro h1 e1
  rw [nI_clamp (by omega)] at e1
  intro h2 e2
  have e17 : h1 77 = h 77 := by rw [e1, hu_ne (by decide)]
  rw [e17, s5, nI_1] at e2
  refine ⟨rfl, (FRL.h78 e1 (.inr rfl)).tr (FRL.h5 e2 (by omega)), ?_, ?_, ?_, ?_⟩
  · rw [e2, hu_eq, pk_un (by decide), e17]; exact s4
  · rw [e2, hu_ne (by decide), e1, hu_ne (by decide)]; exact s8
  · rw [e2, hu_eq, pk_us]; rfl
  · rw [e2, hu_ne (by decide), e1, hu_eq]; exact s9.push
theorem stl_y {r : Nat} {a : Int32} {ws o : List Int32} (h : r ≤ rk a) : stl r (a :: ws) o = stl r ws (-a :: o) := if_pos h
theorem stl_n {r : Nat} {a : Int32} {ws o : List Int32} (h : ¬ r ≤ rk a) : stl r (a :: ws) o = (a :: ws, o) := if_neg h
theorem rk_6 (x : Int32) : rk x ≤ 6 := by
  unfold rk
  by_cases c1 : x = 33
  · rw [if_pos c1]; omega
  rw [if_neg c1]
  by_cases c2 : x = 126
  · rw [if_pos c2]; omega
  rw [if_neg c2]
  by_cases c3 : x = 42
  · rw [if_pos c3]; omega
  rw [if_neg c3]
  by_cases c4 : x = 47
  · rw [if_pos c4]; omega
  rw [if_neg c4]
  by_cases c5 : x = 43
  · rw [if_pos c5]; omega
  rw [if_neg c5]
  by_cases c6 : x = 45
  · rw [if_pos c6]; omega
  rw [if_neg c6]
  by_cases c7 : x = 60
  · rw [if_pos c7]; omega
  rw [if_neg c7]
  by_cases c8 : x = 61
  · rw [if_pos c8]; omega
  rw [if_neg c8]
  by_cases c9 : x = 62
  · rw [if_pos c9]; omega
  rw [if_neg c9]
  by_cases c10 : x = 38
  · rw [if_pos c10]; omega
  rw [if_neg c10]
  by_cases c11 : x = 124
  · rw [if_pos c11]; omega
  rw [if_neg c11]; omega
theorem q_X4_settle {h : HI} {g : HL} {r : Nat} {o w : List Int32} (S : STK h o w) (B : o.length + w.length ≤ 60) (hr : r < 100) : w_X4_settle (nI r) h g (fun h' g' => g = g' ∧ FRL h h' ∧ STK h' (stl r w o).2 (stl r w o).1) := by
  unfold w_X4_settle
  rintro _ rfl
  refine lpE_intro (fun ⟨a_q, b_q, h_q, g_q⟩ => ∃ o' w' : List Int32, nI r = a_q ∧ nI w'.length + (-1) = b_q ∧ g = g_q ∧ FRL h h_q ∧ STK h_q o' w' ∧ o'.length + w'.length ≤ 60 ∧ stl r w' o' = stl r w o) (fun ⟨_, b_q, _, _⟩ => prd b_q) ?_ _ ⟨o, w, rfl, by rw [S.2.2.1, sub1], rfl, FRL.rf, S, B, rfl⟩
  rintro ⟨y1, y2, h1, g1⟩ K ⟨o', w', rfl, rfl, rfl, F, S1, B1, e⟩ hK
  unfold F_X4_settle_7; dsimp only; unfold b_X4_settle_7
  cases w' with
  | nil =>
    refine ⟨fun c => ⟨rfl, F, ?_⟩, fun c => absurd (by decide) c⟩
    rw [← e]; exact S1
  | cons a ws =>
    rw [List.length_cons] at B1 hK ⊢
    rw [pk_m1] at hK ⊢
    obtain ⟨s4, s8, s5, sa, s9⟩ := S1
    have v : vp_in (nI ws.length) 60 := vp_in_nI (by omega) (by omega)
    refine ⟨fun c => absurd c (nI_pos (by omega)), fun c0 => ⟨fun c => ?_, fun _ => and_have v (fun _ => ?_)⟩⟩
    · rw [show (60 : Int32) = nI 60 from rfl, nI_leI (by omega) (by omega)] at c; omega
    rw [nI_clamp (n := ws.length) (by omega), sa]
    refine c_i q_X4_rank ?_
    rintro _ _ _ ⟨rfl, rfl, rfl⟩
    have h6 := rk_6 a
    refine ⟨fun c => ⟨rfl, F, ?_⟩, fun c => and_have v (fun _ => ?_)⟩
    · rw [nI_ltI (by omega) (by omega)] at c
      rw [← e, stl_n (by omega)]
      exact ⟨s4, s8, s5, sa, s9⟩
    · rw [nI_ltI (by omega) (by omega)] at c
      rw [sa]
      refine c_v (q_X4_put ⟨s4, s8, s5, sa, s9⟩ (by omega)) ?_
      rintro h2 g2 ⟨rfl, F2, t4, t8, t5, t9⟩
      intro h3 e3
      rintro _ rfl
      refine hK _ ⟨-a :: o', ws, rfl, rfl, rfl, (F.tr F2).tr (FRL.h5 e3 (by omega)), ⟨?_, ?_, ?_, ?_⟩, by rw [List.length_cons]; omega, ?_⟩ (prd_lt c0)
      · rw [e3, hu_eq, pk_un (by decide)]; exact t4
      · rw [e3, hu_ne (by decide)]; exact t8
      · rw [e3, hu_eq, pk_us]
      · rw [e3, hu_ne (by decide)]; exact t9.2
      · rw [← e, stl_y (by omega)]
def CTl (h : HI) : LSt → Prop
  | (o, w, n, d, u) => STK h o w ∧ h 77 6 = nI n ∧ h 77 7 = nI d ∧ h 77 8 = nI u
/-- what one sign does -/
def OUTl (h' : HI) (c : Int32) (i : Nat) (s : LSt) : Prop := (badL c s = 0 ∧ CTl h' (nxL c s) ∧ h' 77 9 = -1) ∨ (¬ badL c s = 0 ∧ h' 77 9 = flw i (badL c s) (dgL s) ∧ ¬ h' 77 9 = -1)
theorem n10 {k c : Nat} (hk : k ≤ 60) (hc : c ≤ 3) : ¬ nI (10 * k + c) = -1 := fun e => r10 hk hc (by rw [show (10 : Int32) = nI 10 from rfl, pk_mul, nI_add]; exact e)
theorem flw1 (i d : Nat) : flw i 1 d = (10 : Int32) * nI i + 1 := by
  rw [show (10 : Int32) = nI 10 from rfl, pk_mul, nI_1]; exact if_neg (by decide)
theorem flw3 (i d : Nat) : flw i 3 d = (10 : Int32) * nI i + 3 := by
  rw [show (10 : Int32) = nI 10 from rfl, show (3 : Int32) = nI 3 from rfl, pk_mul, nI_add]; exact if_neg (by decide)
theorem flw2 {i d : Nat} (h : d ≤ i) : flw i 2 d = (10 : Int32) * (nI i - nI d) + 2 := by
  rw [nI_subN h, show (10 : Int32) = nI 10 from rfl, show (2 : Int32) = nI 2 from rfl, pk_mul, nI_add]; exact if_pos rfl
theorem flw_n {i b d : Nat} (hi : i ≤ 60) (hb : b ≤ 3) : ¬ flw i b d = -1 := by
  unfold flw
  by_cases e : b = 2
  · rw [if_pos e]; exact n10 (by omega) (by omega)
  · rw [if_neg e]; exact n10 hi hb
/-- a flaw is put down -/
theorem OUTl.bad {h h' : HI} {c x : Int32} {i b : Nat} {s : LSt} (e : h' = hu h 77 9 x) (eb : badL c s = b) (b0 : ¬ b = 0) (b3 : b ≤ 3) (hi : i ≤ 60) (ex : x = flw i b (dgL s)) : OUTl h' c i s := by
  have e9 : h' 77 9 = flw i b (dgL s) := by rw [e, hu_eq, pk_us]; exact ex
  refine .inr ⟨by rw [eb]; exact b0, by rw [eb]; exact e9, by rw [e9]; exact flw_n hi b3⟩
theorem q_X4_readDigit {h : HI} {g : HL} {c : Int32} {i v : Nat} {s : LSt} (I : SIl i s) (hi : i < 60) (S : CTl h s) (e9 : h 77 9 = -1) (cd : dgt c) (ev : c - 48 = nI v) : w_X4_readDigit (nI v) (nI i) h g (fun h' _ => JJ SLaw h h' ∧ OUTl h' c i s) := by
  obtain ⟨o, w, n, d, u⟩ := s
  obtain ⟨a1, a2, a3, a4, a5, a6, a7, a8, a9⟩ := I
  obtain ⟨S, s6, s7, s8⟩ := S
  have j102 : ∀ (h1 : HI) (g1 : HL) (o1 : List Int32) (x3 : Int32), JJ SLaw h h1 → STK h1 o1 w → o1.length < 60 → h1 77 6 = nI n → h1 77 7 = nI d → h1 77 9 = -1 → badL c (o, w, n, d, u) = 0 → nxL c (o, w, n, d, u) = (((10 : Int32) * x3 + nI v) :: o1, w, n, d + 1, 0) → j_X4_readDigit_102 (fun h' _ => JJ SLaw h h' ∧ OUTl h' c i (o, w, n, d, u)) (nI v) x3 h1 g1 := by
    intro h1 g1 o1 x3 J1 S1 l1 k6 k7 k9 b0 en
    unfold j_X4_readDigit_102
    refine c_v (q_X4_put S1 l1) ?_
    rintro h2 g2 ⟨rfl, F2, t4, t8, t5, t9⟩
    have m7 : h2 77 7 = nI d := F2.2.2.1.trans k7
    intro h3 e3
    rw [m7, nI_1] at e3
    intro h4 e4
    refine ⟨((J1.tr F2.1).hu e3 (by unfold SLaw; omega)).hu e4 (by unfold SLaw; omega), .inl ⟨b0, ?_, ?_⟩⟩
    · rw [en]
      refine ⟨⟨?_, ?_, ?_, ?_⟩, ?_, ?_, ?_⟩
      · rw [e4, hu_eq, pk_un (by decide), e3, hu_eq, pk_un (by decide)]; exact t4
      · rw [e4, hu_ne (by decide), e3, hu_ne (by decide)]; exact t8
      · rw [e4, hu_eq, pk_un (by decide), e3, hu_eq, pk_un (by decide)]; exact t5
      · rw [e4, hu_ne (by decide), e3, hu_ne (by decide)]; exact t9
      · rw [e4, hu_eq, pk_un (by decide), e3, hu_eq, pk_un (by decide)]; exact F2.2.1.trans k6
      · rw [e4, hu_eq, pk_un (by decide), e3, hu_eq, pk_us]
      · rw [e4, hu_eq, pk_us]; exact nI_0.symm
    · rw [e4, hu_eq, pk_un (by decide), e3, hu_eq, pk_un (by decide)]; exact F2.2.2.2.2.trans k9
  have j27 : (d = 0 → ¬ u = 0) → j_X4_readDigit_27 (fun h' _ => JJ SLaw h h' ∧ OUTl h' c i (o, w, n, d, u)) (nI v) (nI i) h g := by
    intro hdu
    unfold j_X4_readDigit_27
    rw [s7, show (6 : Int32) = nI 6 from rfl, nI_ltI (by omega) (by omega)]
    have bd0 : badL c (o, w, n, d, u) = (if 6 ≤ d then 2 else 0) := (bad_dg cd).trans (if_neg (fun q => hdu q.1 q.2))
    refine ⟨fun c6 => ⟨fun c0 => ?_, fun c0 => ?_⟩, fun c6 => ?_⟩
    · have d0 : d = 0 := by
        rw [show (0 : Int32) = nI 0 from rfl, nI_leI (by omega) (by omega)] at c0; omega
      subst d0
      refine j102 h g o 0 JJ.rf S (by omega) s6 s7 e9 (bd0.trans (if_neg (by omega))) ?_
      rw [nx_d0 cd, ev, Int32.mul_zero, Int32.zero_add]
    · have d0 : ¬ d = 0 := fun q => c0 (by rw [q]; decide)
      obtain ⟨u0, v0, xs, eo, hv0⟩ := a3 (by omega)
      subst eo
      obtain ⟨s4, sa, s5, sw⟩ := S
      rw [List.length_cons] at s4 a1
      rw [s4]
      refine ⟨fun q => ?_, fun _ => ⟨fun q => ?_, fun _ => ?_⟩⟩
      · rw [show (0 : Int32) = nI 0 from rfl, nI_leI (by omega) (by omega)] at q; omega
      · rw [show (60 : Int32) = nI 60 from rfl, nI_ltI (by omega) (by omega)] at q; omega
      intro h1 e1
      rw [nI_pred] at e1
      have k4 : h1 77 4 = nI xs.length := by rw [e1, hu_eq, pk_us]
      have k8 : h1 78 = h 78 := by rw [e1, hu_ne (by decide)]
      rw [k4]
      refine and_have (vp_in_nI (by omega) (by omega)) (fun _ => ?_)
      intro x3 e3
      rw [nI_clamp (by omega), k8, sa.1] at e3
      subst e3
      refine j102 h1 g xs (nI v0) (JJ.rf.hu e1 (by unfold SLaw; omega)) ⟨k4, by rw [k8]; exact sa.2, ?_, ?_⟩ (by omega) ?_ ?_ ?_ (bd0.trans (if_neg (by omega))) ?_
      · rw [e1, hu_eq, pk_un (by decide)]; exact s5
      · rw [e1, hu_ne (by decide)]; exact sw
      · rw [e1, hu_eq, pk_un (by decide)]; exact s6
      · rw [e1, hu_eq, pk_un (by decide)]; exact s7
      · rw [e1, hu_eq, pk_un (by decide)]; exact e9
      · rw [nx_d1 cd d0, ev]; rfl
    · intro h1 e1
      exact ⟨JJ.rf.hu e1 (by unfold SLaw; omega), OUTl.bad e1 (bd0.trans (if_pos (by omega))) (by decide) (by decide) (by omega) (flw2 a7).symm⟩
  unfold w_X4_readDigit
  rw [s7, s8, nI_z (by omega), nI_z (by omega)]
  refine ⟨fun q => j27 (fun e => absurd e q), fun q => ⟨fun k => j27 (fun _ => k), fun k => ?_⟩⟩
  intro h1 e1
  exact ⟨JJ.rf.hu e1 (by unfold SLaw; omega), OUTl.bad e1 ((bad_dg cd).trans (if_pos ⟨q, k⟩)) (by decide) (by decide) (by omega) (flw1 _ _).symm⟩
end
section
-- 62.lawcls2
theorem CTl.of {h h' : HI} {o w o' w' : List Int32} {n u : Nat} (F : FRL h h') (S : STK h' o' w') (s6 : h 77 6 = nI n) (s7 : h 77 7 = nI 0) (s8 : h 77 8 = nI u) : CTl h' (o', w', n, 0, u) := ⟨S, F.2.1.trans s6, F.2.2.1.trans s7, F.2.2.2.1.trans s8⟩
/-- after the sign, the UNIT is due or it is not -/
theorem CTl.u8 {h h' : HI} {o w : List Int32} {n d u u' : Nat} (S : CTl h (o, w, n, d, u)) (e : h' = hu h 77 8 (nI u')) : CTl h' (o, w, n, d, u') ∧ h' 77 9 = h 77 9 ∧ JJ SLaw h h' := by
  obtain ⟨⟨s4, sa, s5, sw⟩, s6, s7, s8⟩ := S
  refine ⟨⟨⟨?_, ?_, ?_, ?_⟩, ?_, ?_, ?_⟩, ?_, JJ.rf.hu e (by unfold SLaw; omega)⟩
  · rw [e, hu_eq, pk_un (by decide)]; exact s4
  · rw [e, hu_ne (by decide)]; exact sa
  · rw [e, hu_eq, pk_un (by decide)]; exact s5
  · rw [e, hu_ne (by decide)]; exact sw
  · rw [e, hu_eq, pk_un (by decide)]; exact s6
  · rw [e, hu_eq, pk_un (by decide)]; exact s7
  · rw [e, hu_eq, pk_us]
  · rw [e, hu_eq, pk_un (by decide)]
theorem CTl.n6 {h h' : HI} {o w : List Int32} {n d u n' : Nat} (S : CTl h (o, w, n, d, u)) (e : h' = hu h 77 6 (nI n')) : CTl h' (o, w, n', d, u) ∧ h' 77 9 = h 77 9 ∧ JJ SLaw h h' := by
  obtain ⟨⟨s4, sa, s5, sw⟩, s6, s7, s8⟩ := S
  refine ⟨⟨⟨?_, ?_, ?_, ?_⟩, ?_, ?_, ?_⟩, ?_, JJ.rf.hu e (by unfold SLaw; omega)⟩
  · rw [e, hu_eq, pk_un (by decide)]; exact s4
  · rw [e, hu_ne (by decide)]; exact sa
  · rw [e, hu_eq, pk_un (by decide)]; exact s5
  · rw [e, hu_ne (by decide)]; exact sw
  · rw [e, hu_eq, pk_us]
  · rw [e, hu_eq, pk_un (by decide)]; exact s7
  · rw [e, hu_eq, pk_un (by decide)]; exact s8
  · rw [e, hu_eq, pk_un (by decide)]
/-- a UNIT begins, or nothing may stand here -/
def UOL (h h' : HI) (r c : Int32) (s : LSt) : Prop := JJ SLaw h h' ∧ ((r = 1 ∧ badL c s = 0 ∧ CTl h' (nxL c s) ∧ h' 77 9 = h 77 9) ∨ (r = 0 ∧ badL c s = 1))
theorem q_X4_startsUnit {h : HI} {g : HL} {c : Int32} {i : Nat} {o w : List Int32} {n u : Nat} (I : SIl i (o, w, n, 0, u)) (hi : i < 60) (S : CTl h (o, w, n, 0, u)) (hu : ¬ u = 0) (cd : ¬ dgt c) (c32 : ¬ c = 32) (c40 : c = 40 → n < 8) : w_X4_startsUnit c h g (fun r h' _ => UOL h h' r c (o, w, n, 0, u)) := by
  have a1 : o.length + w.length ≤ i := I.1
  have a5 : u ≤ 1 := I.2.2.2.2.1
  have n8 : n ≤ 8 := I.2.2.2.2.2.1
  have u1 : u = 1 := by omega
  subst u1
  have S0 := S
  obtain ⟨S, s6, s7, s8⟩ := S
  have bu : badL c (o, w, n, 0, 1) = (if c = 40 then (if n < 8 then 0 else 3) else if c = 121 ∨ c = 108 ∨ c = 104 ∨ c = 33 ∨ c = 45 then 0 else 1) := bad_u cd c32 (by decide)
  have nu : nxL c (o, w, n, 0, 1) = (if c = 40 then (o, 40 :: w, n + 1, 0, 1) else if c = 33 then (o, 33 :: w, n, 0, 1) else if c = 45 then (o, 126 :: w, n, 0, 1) else (-c :: o, w, n, 0, 0)) := nx_u cd c32 (by decide)
  have j18 : ¬ c = 40 → ¬ c = 33 → ¬ c = 45 → (c = 121 ∨ c = 108 ∨ c = 104 ∨ c = 33 ∨ c = 45) → j_X4_startsUnit_18 (fun r h' _ => UOL h h' r c (o, w, n, 0, 1)) c h g := by
    intro k1 k2 k3 k4
    unfold j_X4_startsUnit_18
    refine c_v (q_X4_put S (by omega)) ?_
    rintro h1 g1 ⟨rfl, F, T⟩
    intro h2 e2
    obtain ⟨t1, t2, t3⟩ := (CTl.of (o := o) (w := w) F T s6 s7 s8).u8 (u' := 0) e2
    refine ⟨F.1.tr t3, .inl ⟨rfl, ?_, ?_, t2.trans F.2.2.2.2⟩⟩
    · rw [bu, if_neg k1, if_pos k4]
    · rw [nu, if_neg k1, if_neg k2, if_neg k3]; exact t1
  have j77 : ∀ (a : Int32) (h1 : HI) (g1 : HL) (n' : Nat), JJ SLaw h h1 → h1 77 9 = h 77 9 → CTl h1 (o, w, n', 0, 1) → badL c (o, w, n, 0, 1) = 0 → nxL c (o, w, n, 0, 1) = (o, a :: w, n', 0, 1) → j_X4_startsUnit_77 (fun r h' _ => UOL h h' r c (o, w, n, 0, 1)) a h1 g1 := by
    intro a h1 g1 n' J1 k9 S1 b0 en
    unfold j_X4_startsUnit_77
    refine c_v (q_X4_await S1.1 (by omega)) ?_
    rintro h2 g2 ⟨rfl, F, T⟩
    refine ⟨J1.tr F.1, .inl ⟨rfl, b0, ?_, F.2.2.2.2.trans k9⟩⟩
    rw [en]
    exact CTl.of (o := o) (w := w) F T S1.2.1 S1.2.2.1 S1.2.2.2
  unfold w_X4_startsUnit
  refine ⟨fun c1 => j18 (by rw [c1]; decide) (by rw [c1]; decide) (by rw [c1]; decide) (.inl c1), fun c1 => ⟨fun c2 => j18 (by rw [c2]; decide) (by rw [c2]; decide) (by rw [c2]; decide) (.inr (.inl c2)), fun c2 => ⟨fun c3 => ⟨fun c4 => ⟨fun c5 => ?_, fun c5 => ⟨fun c6 => ?_, fun c6 => ?_⟩⟩, fun c4 => ?_⟩, fun c3 => j18 (by rw [c3]; decide) (by rw [c3]; decide) (by rw [c3]; decide) (.inr (.inr (.inl c3)))⟩⟩⟩
  · unfold j_X4_startsUnit_64
    have b0 : badL c (o, w, n, 0, 1) = 0 := by rw [bu, if_neg c4, if_pos (.inr (.inr (.inr (.inl c5))))]
    refine ⟨fun c7 => ?_, fun c7 => absurd (c5.symm.trans c7) (by decide)⟩
    refine j77 c h g n JJ.rf rfl S0 b0 ?_
    rw [nu, if_neg c4, if_pos c5, c5]
  · unfold j_X4_startsUnit_64
    have b0 : badL c (o, w, n, 0, 1) = 0 := by rw [bu, if_neg c4, if_pos (.inr (.inr (.inr (.inr c6))))]
    refine ⟨fun c7 => absurd c6 c7, fun c7 => ?_⟩
    refine j77 126 h g n JJ.rf rfl S0 b0 ?_
    rw [nu, if_neg c4, if_neg c5, if_pos c6]
  · refine ⟨JJ.rf, .inr ⟨rfl, ?_⟩⟩
    rw [bu, if_neg c4, if_neg (fun q => q.elim c1 (fun q => q.elim c2 (fun q => q.elim c3 (fun q => q.elim c5 c6))))]
  · intro h1 e1
    rw [s6, nI_1] at e1
    obtain ⟨t1, t2, t3⟩ := S0.n6 e1
    unfold j_X4_startsUnit_64
    have b0 : badL c (o, w, n, 0, 1) = 0 := by rw [bu, if_pos c4, if_pos (c40 c4)]
    refine ⟨fun c7 => ?_, fun c7 => absurd (c4.symm.trans c7) (by decide)⟩
    refine j77 c h1 g (n + 1) t3 t2 t1 b0 ?_
    rw [nu, if_pos c4, c4]
theorem q_X4_lastRank {h : HI} {g : HL} {o w : List Int32} (S : STK h o w) (hw : w.length ≤ 60) : w_X4_lastRank h g (fun r h' g' => nI (tp w) = r ∧ h = h' ∧ g = g') := by
  obtain ⟨s4, sa, s5, sw⟩ := S
  unfold w_X4_lastRank
  rw [s5]
  cases w with
  | nil => exact ⟨fun _ => ⟨nI_0, rfl, rfl⟩, fun c => absurd (by decide) c⟩
  | cons a ws =>
    rw [List.length_cons] at hw ⊢
    refine ⟨fun c => ?_, fun _ => ⟨fun c => ?_, fun _ => ?_⟩⟩
    · rw [show (0 : Int32) = nI 0 from rfl, nI_leI (by omega) (by omega)] at c; omega
    · rw [show (60 : Int32) = nI 60 from rfl, nI_ltI (by omega) (by omega)] at c; omega
    rw [nI_pred, nI_clamp (by omega), sw.1]
    refine and_have (vp_in_nI (by omega) (by omega)) (fun _ => ?_)
    refine c_i q_X4_rank ?_
    rintro _ _ _ ⟨rfl, rfl, rfl⟩
    exact ⟨rfl, rfl, rfl⟩
theorem q_X4_followsUnit {h : HI} {g : HL} {c : Int32} {i : Nat} {o w : List Int32} {n : Nat} (I : SIl i (o, w, n, 0, 0)) (hi : i < 60) (S : CTl h (o, w, n, 0, 0)) (cd : ¬ dgt c) (c32 : ¬ c = 32) : w_X4_followsUnit c h g (fun r h' _ => UOL h h' r c (o, w, n, 0, 0)) := by
  have a1 : o.length + w.length ≤ i := I.1
  have a2 : c40 w = n := I.2.1
  have n8 : n ≤ 8 := I.2.2.2.2.2.1
  have S0 := S
  obtain ⟨S, s6, s7, s8⟩ := S
  have bf : badL c (o, w, n, 0, 0) = (if c = 41 then (if n = 0 then 1 else 0) else if rk c < 1 ∨ 6 ≤ rk c then 1 else if rk c = 3 ∧ tp (stl (rr c) w o).1 = 3 then 1 else 0) := bad_f cd c32
  have nf : nxL c (o, w, n, 0, 0) = (if c = 41 then ((stl 1 w o).2, (stl 1 w o).1.tail, n - 1, 0, 0) else ((stl (rr c) w o).2, c :: (stl (rr c) w o).1, n, 0, 1)) := nx_f cd c32
  unfold w_X4_followsUnit
  refine ⟨fun c1 => ?_, fun c1 => ⟨fun c2 => ?_, fun c2 => ?_⟩⟩
  · refine c_i q_X4_rank ?_
    rintro _ _ _ ⟨rfl, rfl, rfl⟩
    have h6 := rk_6 c
    have lb := stl_len (r := rr c) (w := w) (o := o)
    rw [if_neg c1] at bf nf
    refine ⟨fun k1 => ⟨JJ.rf, .inr ⟨rfl, ?_⟩⟩, fun k1 => ⟨fun k6 => ?_, fun k6 => ⟨JJ.rf, .inr ⟨rfl, ?_⟩⟩⟩⟩
    · rw [show (1 : Int32) = nI 1 from rfl, nI_ltI (by omega) (by omega)] at k1
      rw [bf, if_pos (.inl k1)]
    · rw [show (1 : Int32) = nI 1 from rfl, nI_ltI (by omega) (by omega)] at k1
      rw [show (6 : Int32) = nI 6 from rfl, nI_ltI (by omega) (by omega)] at k6
      rw [if_neg (fun q => q.elim (fun q => by omega) (fun q => by omega))] at bf
      have j73 : j_X4_followsUnit_73 (fun r h' _ => UOL h h' r c (o, w, n, 0, 0)) c (nI (rk c)) (nI (rr c)) h g := by
        unfold j_X4_followsUnit_73
        have rb : rr c < 100 := by
          unfold rr
          by_cases q : rk c = 3
          · rw [if_pos q]; omega
          · rw [if_neg q]; omega
        refine c_v (q_X4_settle S (by omega) rb) ?_
        rintro h1 g1 ⟨rfl, F, T⟩
        have j91 : badL c (o, w, n, 0, 0) = 0 → j_X4_followsUnit_91 (fun r h' _ => UOL h h' r c (o, w, n, 0, 0)) c h1 g := by
          intro b0
          unfold j_X4_followsUnit_91
          refine c_v (q_X4_await T (by omega)) ?_
          rintro h2 g2 ⟨rfl, F2, T2⟩
          intro h3 e3
          obtain ⟨t1, t2, t3⟩ := (CTl.of (o := o) (w := w) (F.tr F2) T2 s6 s7 s8).u8 (u' := 1) e3
          refine ⟨(F.tr F2).1.tr t3, .inl ⟨rfl, b0, ?_, t2.trans (F.tr F2).2.2.2.2⟩⟩
          rw [nf]; exact t1
        refine ⟨fun k3 => j91 ?_, fun k3 => ?_⟩
        · rw [bf, if_neg (fun q => k3 (by rw [q.1]; rfl))]
        · have k3 : rk c = 3 := (nI_eq (b := 3) (by omega) (by omega)).mp k3
          refine c_i (q_X4_lastRank T (by omega)) ?_
          rintro _ _ _ ⟨rfl, rfl, rfl⟩
          have t6 : tp (stl (rr c) w o).1 ≤ 6 := by
            cases (stl (rr c) w o).1 with
            | nil => exact Nat.zero_le _
            | cons a b => exact rk_6 a
          refine ⟨fun k4 => j91 ?_, fun k4 => ⟨F.1, .inr ⟨rfl, ?_⟩⟩⟩
          · rw [bf, if_neg (fun q => k4 (by rw [q.2]; rfl))]
          · rw [bf, if_pos ⟨k3, (nI_eq (b := 3) (by omega) (by omega)).mp k4⟩]
      refine ⟨fun k3 => ?_, fun k3 => ?_⟩
      · have e : rr c = rk c := if_neg (fun q => k3 (by rw [q]; rfl))
        rw [e] at j73; exact j73
      · have k3' : rk c = 3 := (nI_eq (b := 3) (by omega) (by omega)).mp k3
        have e : rr c = rk c + 1 := by
          unfold rr
          rw [if_pos k3', k3']
        rw [e] at j73
        rw [nI_1]; exact j73
    · rw [show (6 : Int32) = nI 6 from rfl, nI_ltI (by omega) (by omega)] at k6
      rw [bf, if_pos (.inr (by omega))]
  · rw [s6, nI_z (by omega)] at c2
    rw [if_pos c1] at bf nf
    have l := stl_len (r := 1) (w := w) (o := o)
    have k := stl_c40 (r := 1) (Nat.le_refl _) (w := w) (o := o)
    refine c_v (q_X4_settle (r := 1) S (by omega) (by omega)) ?_
    rintro h1 g1 ⟨rfl, F, T⟩
    generalize stl 1 w o = s at l k nf T
    obtain ⟨w', o'⟩ := s
    cases w' with
    | nil =>
      have k : (0 : Nat) = c40 w := k
      omega
    | cons y ys =>
      obtain ⟨t4, ta, t5, ty, tw⟩ := T
      intro h2 e2
      have t5 : h1 77 5 = nI (ys.length + 1) := t5
      rw [t5, nI_pred] at e2
      intro h3 e3
      have k6 : h2 77 6 = nI n := by rw [e2, hu_eq, pk_un (by decide)]; exact F.2.1.trans s6
      have e2F := FRL.h5 e2 (by omega)
      have T2 : STK h2 o' ys := ⟨by rw [e2, hu_eq, pk_un (by decide)]; exact t4, by rw [e2, hu_ne (by decide)]; exact ta, by rw [e2, hu_eq, pk_us], by rw [e2, hu_ne (by decide)]; exact tw⟩
      rw [k6, show (1 : Int32) = nI 1 from rfl, nI_subN (by omega)] at e3
      obtain ⟨u1, u2, u3⟩ := (CTl.of (o := o) (w := w) (F.tr e2F) T2 s6 s7 s8).n6 e3
      refine ⟨(F.tr e2F).1.tr u3, .inl ⟨rfl, ?_, ?_, u2.trans (F.tr e2F).2.2.2.2⟩⟩
      · rw [bf, if_neg c2]
      · rw [nf]; exact u1
  · rw [s6, nI_z (by omega)] at c2
    refine ⟨JJ.rf, .inr ⟨rfl, ?_⟩⟩
    rw [bf, if_pos c1, if_pos c2]
theorem bad_d0 {c : Int32} (cd : ¬ dgt c) {o w : List Int32} {n d u : Nat} : badL c (o, w, n, d, u) = badL c (o, w, n, 0, u) := (if_neg cd).trans (Eq.symm (if_neg cd))
theorem nx_d {c : Int32} (cd : ¬ dgt c) {o w : List Int32} {n d u : Nat} : nxL c (o, w, n, d, u) = nxL c (o, w, n, 0, u) := (if_neg cd).trans (Eq.symm (if_neg cd))
theorem SIl.d0 {i : Nat} {o w : List Int32} {n d u : Nat} (x : SIl i (o, w, n, d, u)) : SIl i (o, w, n, 0, u) := ⟨x.1, x.2.1, fun q => absurd q (Nat.lt_irrefl 0), by omega, x.2.2.2.2.1, x.2.2.2.2.2.1, by omega, x.2.2.2.2.2.2.2.1, x.2.2.2.2.2.2.2.2⟩
theorem q_X4_readSign {h : HI} {g : HL} {c : Int32} {i : Nat} {o w : List Int32} {n d u : Nat} (I : SIl i (o, w, n, d, u)) (hi : i < 60) (S : CTl h (o, w, n, 0, u)) (e9 : h 77 9 = -1) (cd : ¬ dgt c) (c32 : ¬ c = 32) : w_X4_readSign c (nI i) h g (fun h' _ => JJ SLaw h h' ∧ OUTl h' c i (o, w, n, d, u)) := by
  have n8 : n ≤ 8 := I.2.2.2.2.2.1
  have u1 : u ≤ 1 := I.2.2.2.2.1
  have I0 := I.d0
  have e8 : h 77 8 = nI u := S.2.2.2
  have e6 : h 77 6 = nI n := S.2.1
  have fin : ∀ (r : Int32) (h1 : HI) (g1 : HL), UOL h h1 r c (o, w, n, 0, u) → (¬ r = 0 → JJ SLaw h h1 ∧ OUTl h1 c i (o, w, n, d, u)) ∧ (r = 0 → j_X4_readSign_61 (fun h' _ => JJ SLaw h h' ∧ OUTl h' c i (o, w, n, d, u)) (nI i) h1 g1) := by
    rintro r h1 g1 ⟨J, k⟩
    rcases k with ⟨rfl, b0, T, k9⟩ | ⟨rfl, b1⟩
    · exact ⟨fun _ => ⟨J, .inl ⟨by rw [bad_d0 cd]; exact b0, by rw [nx_d cd]; exact T, k9.trans e9⟩⟩, fun q => absurd q (by decide)⟩
    · refine ⟨fun q => absurd rfl q, fun _ => ?_⟩
      unfold j_X4_readSign_61
      intro h2 e2
      exact ⟨J.hu e2 (by unfold SLaw; omega), OUTl.bad e2 ((bad_d0 cd).trans b1) (by decide) (by decide) (by omega) (flw1 _ _).symm⟩
  have j35 : (c = 40 → ¬ u = 0 → n < 8) → j_X4_readSign_35 (fun h' _ => JJ SLaw h h' ∧ OUTl h' c i (o, w, n, d, u)) c (nI i) h g := by
    intro k40
    unfold j_X4_readSign_35
    rw [e8, nI_z (by omega)]
    refine ⟨fun u0 => ?_, fun u0 => ?_⟩
    · subst u0
      refine c_z (q_X4_followsUnit I0 hi S cd c32) ?_
      intro r h1 g1 k
      exact fin r h1 g1 k
    · refine c_z (q_X4_startsUnit I0 hi S u0 cd c32 (fun q => k40 q u0)) ?_
      intro r h1 g1 k
      exact fin r h1 g1 k
  unfold w_X4_readSign
  rw [e8, nI_z (by omega), e6]
  refine ⟨fun u0 => j35 (fun _ q => absurd u0 q), fun u0 => ⟨fun c4 => j35 (fun q => absurd q c4), fun c4 => ⟨fun n7 => j35 (fun _ _ => (nI_ltI (b := 8) (by omega) (by omega)).mp n7), fun n7 => ?_⟩⟩⟩
  have n7 : ¬ n < 8 := fun q => n7 ((nI_ltI (b := 8) (by omega) (by omega)).mpr q)
  intro h1 e1
  refine ⟨JJ.rf.hu e1 (by unfold SLaw; omega), OUTl.bad e1 ?_ (by decide : ¬ 3 = 0) (by decide) (by omega) (flw3 _ _).symm⟩
  rw [bad_u cd c32 u0, if_pos c4, if_neg n7]
/-- what the class keeps of the law: the signs f, n of them, are read -/
def LWC (h : HI) (f : Nat → Int32) (n : Nat) : Prop := ∃ p, RSl f n (h 77 9) p ∧ (h 77 9 = -1 → h 77 4 = nI p.length ∧ SK (h 78) p ∧ p.length ≤ 60 ∧ ∀ t, t ∈ p → okT t)
theorem LWC.cg {h h' : HI} {f f' : Nat → Int32} {n : Nat} (x : LWC h f n) (e7 : h' 77 = h 77) (e8 : h' 78 = h 78) (e : ∀ k, k < n → f' k = f k) : LWC h' f' n := by
  obtain ⟨p, r, k⟩ := x
  exact ⟨p, by rw [e7]; exact r.cg e, by rw [e7, e8]; exact k⟩
set_option maxHeartbeats 1000000 in
theorem q_X4_read {h : HI} {g : HL} {m : Nat} (T : TT h 24 m 1 60) : w_X4_read h g (fun h' _ => JJ SLaw h h' ∧ LWC h' (h 25) m) := by
  have hm := T.2.2.2.1
  unfold w_X4_read
  intro h1 e1 h2 e2 h3 e3 h4 e4 h5 e5 h6 e6
  have J6 : JJ SLaw h h6 := (((((JJ.rf.hu e1 (by unfold SLaw; omega)).hu e2 (by unfold SLaw; omega)).hu e3 (by unfold SLaw; omega)).hu e4 (by unfold SLaw; omega)).hu e5 (by unfold SLaw; omega)).hu e6 (by unfold SLaw; omega)
  have f6 : h6 77 = upd (upd (upd (upd (upd (upd (h 77) 4 0) 5 0) 6 0) 7 0) 8 1) 9 (-1) := by
    rw [e6, hu_eq, e5, hu_eq, e4, hu_eq, e3, hu_eq, e2, hu_eq, e1, hu_eq]
  have C6 : CTl h6 ([], [], 0, 0, 1) := by
    refine ⟨⟨?_, trivial, ?_, trivial⟩, ?_, ?_, ?_⟩
    · rw [f6]; exact nI_0.symm
    · rw [f6]; exact nI_0.symm
    · rw [f6]; exact nI_0.symm
    · rw [f6]; exact nI_0.symm
    · rw [f6]; rfl
  have k6 : h6 77 9 = -1 := by rw [f6]; rfl
  clear e1 e2 e3 e4 e5 e6 f6
  refine c_i p_rows ?_
  rintro _ _ _ ⟨rfl, rfl, rfl⟩
  have c24 : h6 24 3 = nI m := by rw [J6 24 (by unfold SLaw; omega)]; exact T.2.2.1
  rw [c24]
  refine lpE_intro (fun ⟨a_q, b_q, h_q, _⟩ => ∃ i : Nat, i ≤ m ∧ nI m = a_q ∧ nI i = b_q ∧ JJ SLaw h h_q ∧ ((okp (h 25) i ∧ CTl h_q (AR (h 25) i) ∧ h_q 77 9 = -1) ∨ (∃ k, k < m ∧ okp (h 25) k ∧ ¬ badL (h 25 k) (AR (h 25) k) = 0 ∧ h_q 77 9 = flw k (badL (h 25 k) (AR (h 25) k)) (dgL (AR (h 25) k)) ∧ ¬ h_q 77 9 = -1))) (fun ⟨_, b_q, _, _⟩ => dif (nI m) b_q) ?_ _ ⟨0, by omega, rfl, nI_0, J6, .inl ⟨fun k hk => absurd hk (Nat.not_lt_zero k), C6, k6⟩⟩
  clear C6 k6 J6 c24
  rintro ⟨y1, y2, h1, g1⟩ K ⟨i, hi, rfl, rfl, J, st⟩ hK
  unfold F_X4_read_43; dsimp only; unfold b_X4_read_43
  have j148 : ∀ (h2 : HI) (g2 : HL), JJ SLaw h h2 → ¬ h2 77 9 = -1 → LWC h2 (h 25) m → j_X4_read_148 (fun h' _ => JJ SLaw h h' ∧ LWC h' (h 25) m) h2 g2 := by
    intro h2 g2 J2 n9 L
    unfold j_X4_read_148
    exact ⟨fun _ => ⟨J2, L⟩, fun q => absurd q n9⟩
  have lwc : ∀ h2 : HI, ¬ h2 77 9 = -1 → RSl (h 25) m (h2 77 9) [] → LWC h2 (h 25) m := fun h2 n9 r => ⟨[], r, fun q => absurd q n9⟩
  have flawed : ∀ g2 : HL, ¬ h1 77 9 = -1 → j_X4_read_116 (fun h' _ => JJ SLaw h h' ∧ LWC h' (h 25) m) (nI m) h1 g2 := by
    intro g2 n9
    unfold j_X4_read_116
    refine ⟨fun _ => j148 h1 g2 J n9 (lwc h1 n9 ?_), fun q => absurd q n9⟩
    rcases st with ⟨-, -, q⟩ | ⟨k, hk, ok, bk, ek, nk⟩
    · exact absurd q n9
    · exact .inl ⟨k, hk, ok, bk, ek, nk⟩
  refine ⟨fun c => ?_, fun c => ⟨fun n9 => flawed g1 n9, fun e9 => ?_⟩⟩
  · rw [nI_leI (by omega) (by omega)] at c
    have : i = m := by omega
    subst this
    by_cases n9 : h1 77 9 = -1
    · rcases st with ⟨ok, S, -⟩ | ⟨k, hk, ok, bk, ek, nk⟩
      · have I := SIl.at ok
        have S0 := S
        generalize es : AR (h 25) i = s at S I
        obtain ⟨o, w, n, d, u⟩ := s
        obtain ⟨S, s6, s7, s8⟩ := S
        have l1 : o.length + w.length ≤ i := I.1
        have n8 : n ≤ 8 := I.2.2.2.2.2.1
        have u1 : u ≤ 1 := I.2.2.2.2.1
        have j138 : enb (AR (h 25) i) → j_X4_read_138 (fun h' _ => JJ SLaw h h' ∧ LWC h' (h 25) i) (nI i) h1 g1 := by
          intro en
          unfold j_X4_read_138
          intro h2 e2
          have q9 : h2 77 9 = nI (10 * i + 1) := by
            rw [e2, hu_eq, pk_us, show (10 : Int32) = nI 10 from rfl, pk_mul, nI_1]
          have nn : ¬ h2 77 9 = -1 := by rw [q9]; exact n10 (by omega) (by omega)
          exact j148 h2 g1 (J.hu e2 (by unfold SLaw; omega)) nn (lwc h2 nn (.inr (.inl ⟨ok, en, q9, nn⟩)))
        unfold j_X4_read_116
        rw [s8, nI_z (by omega), s6]
        refine ⟨fun q => absurd n9 q, fun _ => ⟨fun q => j138 (by rw [es]; exact fun k => q k.1), fun q => ⟨fun q2 => ?_, fun q2 => j138 (by rw [es]; exact fun k => q2 (by rw [k.2]; decide))⟩⟩⟩
        have n0 : n = 0 := by
          rw [show (0 : Int32) = nI 0 from rfl, nI_leI (by omega) (by omega)] at q2; omega
        unfold j_X4_read_148
        refine ⟨fun q => absurd n9 q, fun _ => ?_⟩
        refine c_v (q_X4_settle (r := 1) S (by omega) (by omega)) ?_
        rintro h2 g2 ⟨rfl, F, T2⟩
        have q9 : h2 77 9 = -1 := F.2.2.2.2.trans n9
        have lp := stl_len (r := 1) (w := w) (o := o)
        refine ⟨J.tr F.1, (stl 1 w o).2, .inr (.inr ⟨ok, by rw [es]; exact fun k => k ⟨q, n0⟩, q9, by rw [es]; rfl⟩), fun _ => ⟨T2.1, T2.2.1, by omega, stl_o (Nat.le_refl _) I.2.2.2.2.2.2.2.1 I.2.2.2.2.2.2.2.2⟩⟩
      · exact absurd n9 nk
    · exact flawed g1 n9
  · have hd := dif_lt c
    rw [nI_leI (by omega) (by omega)] at c
    rcases st with ⟨ok, S, -⟩ | ⟨k, hk, ok, bk, ek, nk⟩
    rotate_left
    · exact absurd e9 nk
    have I := SIl.at ok
    have T1 : TT h1 24 m 1 60 := T.cg (J 24 (by unfold SLaw; omega))
    have e25 : h1 25 = h 25 := J 25 (by unfold SLaw; omega)
    refine c_i (p_atT T1) ?_
    rintro _ _ _ ⟨rfl, rfl, rfl⟩
    rw [show tat h1 24 (nI i) (0 : Int32) = h 25 i from (tat_nI T1 (b := 0) (by omega) (by omega)).trans (by rw [e25, Nat.mul_one, Nat.add_zero])]
    generalize ec : h 25 i = ch
    have nxt : ∀ (h2 : HI) (g2 : HL), JJ SLaw h1 h2 → OUTl h2 ch i (AR (h 25) i) → j_X4_read_110 (fun h' _ => JJ SLaw h h' ∧ LWC h' (h 25) m) (fun x1 x2 h g => K (x1, x2, h, g)) (nI m) (nI i) h2 g2 := by
      intro h2 g2 J2 O
      unfold j_X4_read_110
      rintro _ rfl
      refine hK _ ⟨i + 1, by omega, rfl, (nI_1 i).symm, J.tr J2, ?_⟩ hd
      rcases O with ⟨b0, C, k9⟩ | ⟨b0, ef, nf⟩
      · refine .inl ⟨fun k hk => ?_, ?_, k9⟩
        · by_cases q : k = i
          · subst q; rw [ec]; exact b0
          · exact ok k (by omega)
        · show CTl h2 (nxL (h 25 i) (AR (h 25) i))
          rw [ec]; exact C
      · exact .inr ⟨i, by omega, ok, by rw [ec]; exact b0, by rw [ec]; exact ef, nf⟩
    have j93 : ¬ dgt ch → j_X4_read_93 (fun h' _ => JJ SLaw h h' ∧ LWC h' (h 25) m) (fun x1 x2 h g => K (x1, x2, h, g)) (nI m) (nI i) ch h1 g1 := by
      intro cd
      unfold j_X4_read_93
      intro h2 e2
      generalize es : AR (h 25) i = s at S I nxt
      obtain ⟨o, w, n, d, u⟩ := s
      obtain ⟨⟨s4, sa, s5, sw⟩, s6, s7, s8⟩ := S
      have S2 : CTl h2 (o, w, n, 0, u) := by
        refine ⟨⟨?_, ?_, ?_, ?_⟩, ?_, ?_, ?_⟩
        · rw [e2, hu_eq, pk_un (by decide)]; exact s4
        · rw [e2, hu_ne (by decide)]; exact sa
        · rw [e2, hu_eq, pk_un (by decide)]; exact s5
        · rw [e2, hu_ne (by decide)]; exact sw
        · rw [e2, hu_eq, pk_un (by decide)]; exact s6
        · rw [e2, hu_eq, pk_us]; exact nI_0.symm
        · rw [e2, hu_eq, pk_un (by decide)]; exact s8
      have k9 : h2 77 9 = -1 := by rw [e2, hu_eq, pk_un (by decide)]; exact e9
      have J2 : JJ SLaw h1 h2 := JJ.rf.hu e2 (by unfold SLaw; omega)
      refine ⟨fun c32 => nxt h2 g1 J2 (.inl ⟨bad_sp cd c32, by rw [nx_sp cd c32]; exact S2, k9⟩), fun c32 => ?_⟩
      refine c_v (q_X4_readSign I (by omega) S2 k9 cd c32) ?_
      rintro h3 g3 ⟨J3, O⟩
      exact nxt h3 g3 (J2.tr J3) O
    refine ⟨fun k1 => j93 (fun q => q.1 k1), fun k1 => ⟨fun k2 => j93 (fun q => q.2 k2), fun k2 => ?_⟩⟩
    have cd : dgt ch := ⟨k1, k2⟩
    obtain ⟨v, hv, ev, -⟩ := dg_nI cd
    rw [ev]
    refine c_v (q_X4_readDigit I (by omega) S e9 cd ev) ?_
    rintro h3 g3 ⟨J3, O⟩
    exact nxt h3 g3 J3 O
end
section
-- 63.lawwf
/-! WHAT IS READ CAN BE RUN -/
/-- the steps t, the last first, leave d numbers on the pile, and never lack one: 1 puts, 2 changes, 3 joins -/
def kdT (t : Int32) : Nat := if ¬ t < 0 ∨ t = -121 ∨ t = -108 ∨ t = -104 then 1 else if t = -33 ∨ t = -126 then 2 else 3
def gdl : List Int32 → Nat → Prop
  | [], d => d = 0
  | t :: ts, d => 1 ≤ d ∧ gdl ts (if kdT t = 1 then d - 1 else if kdT t = 2 then d else d + 1)
def cbl : List Int32 → Nat
  | [] => 0
  | x :: xs => cbl xs + (if x = 33 ∨ x = 126 ∨ x = 40 then 0 else 1)
theorem kd_w {w : Int32} (h : w ∈ wcL) (h1 : 1 ≤ rk w) : (if w = 33 ∨ w = 126 ∨ w = 40 then 0 else 1) = (if kdT (-w) = 1 then 5 else if kdT (-w) = 2 then 0 else 1) := (by decide : ∀ w ∈ wcL, 1 ≤ rk w → (if w = 33 ∨ w = 126 ∨ w = 40 then 0 else 1) = (if kdT (-w) = 1 then 5 else if kdT (-w) = 2 then 0 else 1)) w h h1
theorem kd_3 (t : Int32) : kdT t = 1 ∨ kdT t = 2 ∨ kdT t = 3 := by
  unfold kdT
  by_cases a : ¬ t < 0 ∨ t = -121 ∨ t = -108 ∨ t = -104
  · rw [if_pos a]; exact .inl rfl
  · rw [if_neg a]
    by_cases b : t = -33 ∨ t = -126
    · rw [if_pos b]; exact .inr (.inl rfl)
    · rw [if_neg b]; exact .inr (.inr rfl)
theorem gdl_stl {r : Nat} (hr : 1 ≤ r) : ∀ {w o : List Int32}, (∀ x, x ∈ w → x ∈ wcL) → gdl o (cbl w + 1) → gdl (stl r w o).2 (cbl (stl r w o).1 + 1)
  | [], o, _, h => h
  | w :: ws, o, hw, h => by
    by_cases c : r ≤ rk w
    · rw [stl_y c]
      refine gdl_stl hr (fun x hx => hw x (List.mem_cons_of_mem _ hx)) ⟨by omega, ?_⟩
      have k := kd_w (hw w (List.mem_cons_self ..)) (by omega)
      have e : cbl (w :: ws) = cbl ws + (if w = 33 ∨ w = 126 ∨ w = 40 then 0 else 1) := rfl
      rw [e, k] at h
      rcases kd_3 (-w) with q | q | q
      · exfalso
        rw [q, if_pos rfl] at k
        by_cases z : w = 33 ∨ w = 126 ∨ w = 40
        · rw [if_pos z] at k; omega
        · rw [if_neg z] at k; omega
      · rw [q, if_neg (by decide), if_pos rfl] at h ⊢; exact h
      · rw [q, if_neg (by decide), if_neg (by decide)] at h ⊢; exact h
    · rw [stl_n c]; exact h
def GIl : LSt → Prop
  | (o, w, _, _, u) => gdl o (cbl w + (1 - u))
theorem gdl_push {t : Int32} {o : List Int32} {d : Nat} (h : gdl o d) (k : kdT t = 1) : gdl (t :: o) (d + 1) := by
  refine ⟨by omega, ?_⟩
  rw [if_pos k, Nat.add_sub_cancel]; exact h
theorem kd_n {v : Nat} (h : v < 2 ^ 31) : kdT (nI v) = 1 := if_pos (.inl (nI_pos h))
theorem GIl.nx {c : Int32} {i : Nat} {s : LSt} (I : SIl i s) (x : GIl s) (b : badL c s = 0) : GIl (nxL c s) := by
  obtain ⟨o, w, n, d, u⟩ := s
  obtain ⟨a1, a2, a3, a4, a5, a6, a7, a8, a9⟩ := I
  have x : gdl o (cbl w + (1 - u)) := x
  by_cases cd : dgt c
  · obtain ⟨v, hv, ev, -⟩ := dg_nI cd
    rw [bad_dg cd] at b
    by_cases d0 : d = 0
    · subst d0
      have u1 : u = 1 := by
        by_cases q : u = 0
        · rw [if_pos ⟨rfl, q⟩] at b; omega
        · omega
      subst u1
      rw [nx_d0 cd, ev]
      exact gdl_push x (kd_n (by omega))
    · rw [nx_d1 cd d0, ev]
      obtain ⟨e0, v0, xs, e1, e2⟩ := a3 (by omega)
      subst e1
      subst e0
      have p6 : 10 ^ d ≤ 10 ^ 6 := Nat.pow_le_pow_right (by decide) (by omega)
      have eh : 10 * hd0 (nI v0 :: xs) + nI v = nI (10 * v0 + v) := by
        rw [show hd0 (nI v0 :: xs) = nI v0 from rfl, show (10 : Int32) = nI 10 from rfl, pk_mul, nI_add]
      rw [eh]
      refine ⟨by omega, ?_⟩
      have y := x.2
      rw [if_pos (kd_n (by omega))] at y ⊢
      exact y
  by_cases c32 : c = 32
  · rw [nx_sp cd c32]; exact x
  by_cases u0 : u = 0
  · subst u0
    rw [bad_f cd c32] at b
    rw [nx_f cd c32]
    by_cases c41 : c = 41
    · rw [if_pos c41] at b ⊢
      have n0 : ¬ n = 0 := fun q => by rw [if_pos q] at b; omega
      have k := stl_c40 (r := 1) (Nat.le_refl _) (w := w) (o := o)
      have m := stl_w (r := 1) (w := w) (o := o)
      have tpx := stl_tp (r := 1) (w := w) (o := o)
      have y := gdl_stl (r := 1) (Nat.le_refl _) a8 x
      generalize stl 1 w o = s at k m tpx y ⊢
      obtain ⟨w', o'⟩ := s
      cases w' with
      | nil =>
        rw [a2] at k
        exact absurd k.symm n0
      | cons z zs =>
        have y40 : z = 40 := wc0 (a8 z (m z (List.mem_cons_self ..))) (tpx z zs rfl)
        subst y40
        have y : gdl o' (cbl zs + (if (40 : Int32) = 33 ∨ (40 : Int32) = 126 ∨ (40 : Int32) = 40 then 0 else 1) + 1) := y
        rw [if_pos (.inr (.inr rfl))] at y
        exact y
    · rw [if_neg c41] at b ⊢
      have rb : 1 ≤ rk c ∧ rk c < 6 := by
        by_cases q : rk c < 1 ∨ 6 ≤ rk c
        · rw [if_pos q] at b; omega
        · omega
      have rrb : 1 ≤ rr c := by
        unfold rr
        by_cases q : rk c = 3
        · rw [if_pos q]; omega
        · rw [if_neg q]; exact rb.1
      have y := gdl_stl (r := rr c) rrb a8 x
      have nb : ¬ (c = 33 ∨ c = 126 ∨ c = 40) := fun q => by
        rcases q with rfl | rfl | rfl
        · exact absurd rb.2 (by decide)
        · exact absurd rb.2 (by decide)
        · exact absurd rb.1 (by decide)
      show gdl (stl (rr c) w o).2 (cbl (stl (rr c) w o).1 + (if c = 33 ∨ c = 126 ∨ c = 40 then 0 else 1) + 0)
      rw [if_neg nb]; exact y
  · have u1 : u = 1 := by omega
    subst u1
    rw [bad_u cd c32 u0] at b
    rw [nx_u cd c32 u0]
    have x : gdl o (cbl w) := x
    by_cases c4 : c = 40
    · rw [if_pos c4]
      show gdl o (cbl w + (if (40 : Int32) = 33 ∨ (40 : Int32) = 126 ∨ (40 : Int32) = 40 then 0 else 1) + 0)
      rw [if_pos (.inr (.inr rfl))]; exact x
    rw [if_neg c4] at b ⊢
    by_cases c3 : c = 33
    · rw [if_pos c3]
      show gdl o (cbl w + (if (33 : Int32) = 33 ∨ (33 : Int32) = 126 ∨ (33 : Int32) = 40 then 0 else 1) + 0)
      rw [if_pos (.inl rfl)]; exact x
    rw [if_neg c3]
    by_cases c5 : c = 45
    · rw [if_pos c5]
      show gdl o (cbl w + (if (126 : Int32) = 33 ∨ (126 : Int32) = 126 ∨ (126 : Int32) = 40 then 0 else 1) + 0)
      rw [if_pos (.inr (.inl rfl))]; exact x
    rw [if_neg c5]
    have cu : c = 121 ∨ c = 108 ∨ c = 104 := by
      by_cases q : c = 121 ∨ c = 108 ∨ c = 104 ∨ c = 33 ∨ c = 45
      · rcases q with q | q | q | q | q
        · exact .inl q
        · exact .inr (.inl q)
        · exact .inr (.inr q)
        · exact absurd q c3
        · exact absurd q c5
      · rw [if_neg q] at b; omega
    refine gdl_push x ?_
    rcases cu with rfl | rfl | rfl <;> decide
theorem GIl.at {f : Nat → Int32} : ∀ {i : Nat}, okp f i → GIl (AR f i)
  | 0, _ => rfl
  | i + 1, o => GIl.nx (SIl.at (fun k hk => o k (by omega))) (GIl.at (fun k hk => o k (by omega))) (o i (by omega))
theorem stl_all {w o : List Int32} (h : ∀ x, x ∈ w → x ∈ wcL) (h0 : c40 w = 0) : (stl 1 w o).1 = [] := by
  have k := stl_c40 (r := 1) (Nat.le_refl _) (w := w) (o := o)
  have m := stl_w (r := 1) (w := w) (o := o)
  have tpx := stl_tp (r := 1) (w := w) (o := o)
  generalize stl 1 w o = s at k m tpx ⊢
  obtain ⟨w', o'⟩ := s
  cases w' with
  | nil => rfl
  | cons z zs =>
    exfalso
    have y40 : z = 40 := wc0 (h z (m z (List.mem_cons_self ..))) (tpx z zs rfl)
    subst y40
    have k : c40 zs + (if (40 : Int32) = 40 then 1 else 0) = c40 w := k
    rw [if_pos rfl] at k; omega
theorem RSl.wf {f : Nat → Int32} {n : Nat} {p : List Int32} (x : RSl f n (-1) p) : gdl p 1 ∧ p.length ≤ n ∧ ∀ t, t ∈ p → okT t := by
  rcases x with ⟨k, hk, ok, bk, ea, na⟩ | ⟨ok, e, ea, na⟩ | ⟨ok, e, ea, ep⟩
  · exact absurd rfl na
  · exact absurd rfl na
  · have I := SIl.at ok
    have G := GIl.at ok
    generalize AR f n = s at e ep I G
    obtain ⟨o, w, nn, d, u⟩ := s
    obtain ⟨a1, a2, a3, a4, a5, a6, a7, a8, a9⟩ := I
    have un : u = 0 ∧ nn = 0 := Decidable.byContradiction e
    obtain ⟨rfl, rfl⟩ := un
    have ep : p = (stl 1 w o).2 := ep
    have l := stl_len (r := 1) (w := w) (o := o)
    have y := gdl_stl (r := 1) (Nat.le_refl _) a8 G
    rw [stl_all a8 a2] at y l
    subst ep
    rw [List.length_nil] at l
    exact ⟨y, by omega, stl_o (Nat.le_refl _) a8 a9⟩
end
section
-- 64.lawref
/-! THE REFERENCE READS IT SO -/
def opc (x : Int32) : Int32 := if x = 33 then 2 else if x = 126 then 3 else if x = 42 then 4 else if x = 47 then 5 else if x = 43 then 6 else if x = 45 then 7 else if x = 60 then 8 else if x = 62 then 9 else if x = 61 then 10 else if x = 38 then 11 else if x = 124 then 12 else 13
def tc1 (t : Int32) : Int32 := if ¬ t < 0 then 0 else if t = -121 ∨ t = -108 ∨ t = -104 then 1 else opc (-t)
def tc2 (t : Int32) : Int32 := if ¬ t < 0 then t else if t = -108 then 1 else if t = -104 then 2 else 0
theorem hld_opc {w : Int32} (h : w ∈ wcL) : hld (opc w) = nI (rk w) := (by decide : ∀ w ∈ wcL, hld (opc w) = nI (rk w)) w h
theorem tc_w {w : Int32} (h : w ∈ wcL) (h1 : 1 ≤ rk w) : tc1 (-w) = opc w ∧ tc2 (-w) = 0 := (by decide : ∀ w ∈ wcL, 1 ≤ rk w → tc1 (-w) = opc w ∧ tc2 (-w) = 0) w h h1
theorem tc_n {v : Nat} (h : v < 2 ^ 31) : tc1 (nI v) = 0 ∧ tc2 (nI v) = nI v := ⟨if_pos (nI_pos h), if_pos (nI_pos h)⟩
def RTK (h : HI) (o w : List Int32) : Prop := h 135 3 = nI o.length ∧ SK (h 139) (o.map tc1) ∧ SK (h 140) (o.map tc2) ∧ h 135 6 = nI w.length ∧ SK (h 141) (w.map opc)
theorem SK.pm {f : Nat → Int32} {k : Int32 → Int32} {l : List Int32} {t : Int32} (h : SK f (l.map k)) : SK (upd f l.length (k t)) ((t :: l).map k) := by
  have e := SK.push (x := k t) h
  rw [List.length_map] at e
  exact e
theorem SK.hm {f : Nat → Int32} {k : Int32 → Int32} {l : List Int32} {t : Int32} (h : SK f ((t :: l).map k)) : f l.length = k t ∧ SK f (l.map k) := by
  have e : f (l.map k).length = k t ∧ SK f (l.map k) := h
  rw [List.length_map] at e
  exact e
theorem RTK.emit {h h' : HI} {o w : List Int32} {t : Int32} (S : RTK h o w) (t3 : h' 135 3 = nI (o.length + 1)) (t6 : h' 135 6 = h 135 6) (t139 : h' 139 = upd (h 139) o.length (tc1 t)) (t140 : h' 140 = upd (h 140) o.length (tc2 t)) (t141 : h' 141 = h 141) : RTK h' (t :: o) w := by
  obtain ⟨s3, s9, s0, s6, s1⟩ := S
  exact ⟨t3, by rw [t139]; exact s9.pm, by rw [t140]; exact s0.pm, t6.trans s6, by rw [t141]; exact s1⟩
theorem RTK.wait {h h' : HI} {o w : List Int32} {c : Int32} (S : RTK h o w) (t6 : h' 135 6 = nI (w.length + 1)) (t3 : h' 135 3 = h 135 3) (t141 : h' 141 = upd (h 141) w.length (opc c)) (t139 : h' 139 = h 139) (t140 : h' 140 = h 140) : RTK h' o (c :: w) := by
  obtain ⟨s3, s9, s0, s6, s1⟩ := S
  exact ⟨t3.trans s3, by rw [t139]; exact s9, by rw [t140]; exact s0, t6, by rw [t141]; exact s1.pm⟩
theorem q_X11_settles {h : HI} {g : HL} {r : Nat} {o w : List Int32} (S : RTK h o w) (V : ∀ x, x ∈ w → x ∈ wcL) (B : o.length + w.length ≤ 60) (hr : 1 ≤ r ∧ r < 100) : w_X11_settles (nI r) h g (fun h' _ => KJ SRd h h' ∧ RTK h' (stl r w o).2 (stl r w o).1) := by
  unfold w_X11_settles
  refine lpE_intro (fun ⟨a_q, h_q, _⟩ => ∃ o' w' : List Int32, nI r = a_q ∧ KJ SRd h h_q ∧ RTK h_q o' w' ∧ (∀ x, x ∈ w' → x ∈ wcL) ∧ o'.length + w'.length ≤ 60 ∧ stl r w' o' = stl r w o) (fun ⟨_, h_q, _⟩ => (h_q 135 6).toNatClampNeg) ?_ _ ⟨o, w, rfl, KJ.rf, S, V, B, rfl⟩
  rintro ⟨y1, h1, g1⟩ K ⟨o', w', rfl, J, S1, V1, B1, e⟩ hK
  unfold F_X11_settles_0; dsimp only; unfold b_X11_settles_0
  have S1' := S1
  obtain ⟨s3, s9, s0, s6, s1⟩ := S1
  cases w' with
  | nil =>
    rw [s6]
    refine ⟨fun _ => ⟨J, ?_⟩, fun c => absurd (by decide) c⟩
    rw [← e]; exact S1'
  | cons a ws =>
    have s6 : h1 135 6 = nI (ws.length + 1) := s6
    have B1 : o'.length + (ws.length + 1) ≤ 60 := B1
    obtain ⟨sa, st⟩ := s1.hm
    rw [s6]
    refine ⟨fun c => ?_, fun c => ?_⟩
    · rw [show (0 : Int32) = nI 0 from rfl, nI_leI (by omega) (by omega)] at c; omega
    rw [nI_pred, nI_clamp (n := ws.length) (by omega), sa]
    have v : vp_in (nI ws.length) 70 := vp_in_nI (by omega) (by omega)
    refine and_have v (fun _ => ?_)
    refine c_i p_X11_holds ?_
    rintro _ _ _ ⟨rfl, rfl, rfl⟩
    have ha := V1 a (List.mem_cons_self ..)
    have h6 := rk_6 a
    rw [hld_opc ha, nI_ltI (by omega) (by omega)]
    refine ⟨fun c2 => ⟨J, ?_⟩, fun c2 => ?_⟩
    · rw [← e, stl_n (by omega)]; exact S1'
    intro h2 e2
    rw [s6, nI_pred] at e2
    have k6 : h2 135 6 = nI ws.length := by rw [e2, hu_eq, pk_us]
    have k3 : h2 135 3 = nI o'.length := by rw [e2, hu_eq, pk_un (by decide)]; exact s3
    have e139 : h2 139 = h1 139 := by rw [e2, hu_ne (by decide)]
    have e140 : h2 140 = h1 140 := by rw [e2, hu_ne (by decide)]
    have e141 : h2 141 = h1 141 := by rw [e2, hu_ne (by decide)]
    rw [k6, nI_clamp (by omega), e141, sa]
    refine and_have v (fun _ => ?_)
    refine c_v (p_X11_emits k3 (by omega)) ?_
    rintro h3 g3 ⟨rfl, J3, t3, t6, t139, t140, t141⟩
    obtain ⟨w1, w2⟩ := tc_w ha (by omega)
    have S2 : RTK h2 o' ws := ⟨k3, by rw [e139]; exact s9, by rw [e140]; exact s0, k6, by rw [e141]; exact st⟩
    refine hK _ ⟨-a :: o', ws, rfl, (J.hu e2 (by unfold SRd; omega)).tr J3, S2.emit t3 t6 (by rw [w1]; exact t139) (by rw [w2]; exact t140) t141, fun x hx => V1 x (List.mem_cons_of_mem _ hx), by rw [List.length_cons]; omega, by rw [← e, stl_y (by omega)]⟩ ?_
    dsimp only
    rw [t6, k6, s6, nI_clamp (by omega), nI_clamp (by omega)]
    omega
theorem stl_6 {r : Nat} (hr : r ≤ 6) : ∀ {w o : List Int32}, stl r (stl 6 w o).1 (stl 6 w o).2 = stl r w o
  | [], o => rfl
  | w :: ws, o => by
    by_cases c : 6 ≤ rk w
    · rw [stl_y c, stl_6 hr, stl_y (by omega)]
    · rw [stl_n c]
theorem stl_34 {w o : List Int32} (h : ¬ tp (stl 4 w o).1 = 3) : stl 3 (stl 4 w o).1 (stl 4 w o).2 = stl 4 w o := by
  have t := stl_tp (r := 4) (w := w) (o := o)
  generalize stl 4 w o = s at h t ⊢
  obtain ⟨w', o'⟩ := s
  cases w' with
  | nil => rfl
  | cons a ws =>
    have h : ¬ rk a = 3 := h
    have := t a ws rfl
    exact stl_n (by omega)
theorem q_X11_goesOn {h : HI} {g : HL} {c : Int32} {o w : List Int32} (S : RTK h (stl 6 w o).2 (stl 6 w o).1) (V : ∀ x, x ∈ w → x ∈ wcL) (B : o.length + w.length ≤ 59) (hc : 1 ≤ rk c ∧ rk c < 6) : w_X11_goesOn (opc c) h g (fun r h' _ => KJ SRd h h' ∧ ((r = 0 ∧ rk c = 3 ∧ tp (stl (rr c) w o).1 = 3) ∨ (r = 1 ∧ ¬ (rk c = 3 ∧ tp (stl (rr c) w o).1 = 3) ∧ RTK h' (stl (rr c) w o).2 (c :: (stl (rr c) w o).1)))) := by
  have cw := rk_wc hc.1
  have l6 := stl_len (r := 6) (w := w) (o := o)
  have l4 := stl_len (r := 4) (w := w) (o := o)
  have lr := stl_len (r := rr c) (w := w) (o := o)
  have v6 := stl_w (r := 6) (w := w) (o := o)
  have v4 := stl_w (r := 4) (w := w) (o := o)
  unfold w_X11_goesOn
  refine c_i p_X11_holds ?_
  rintro _ _ _ ⟨rfl, rfl, rfl⟩
  rw [hld_opc cw]
  have j42 : ∀ (h1 : HI) (g1 : HL) (o1 w1 : List Int32), KJ SRd h h1 → RTK h1 o1 w1 → (∀ x, x ∈ w1 → x ∈ wcL) → o1.length + w1.length ≤ 59 → stl (rk c) w1 o1 = stl (rr c) w o → ¬ (rk c = 3 ∧ tp (stl (rr c) w o).1 = 3) → j_X11_goesOn_42 (fun r h' _ => KJ SRd h h' ∧ ((r = 0 ∧ rk c = 3 ∧ tp (stl (rr c) w o).1 = 3) ∨ (r = 1 ∧ ¬ (rk c = 3 ∧ tp (stl (rr c) w o).1 = 3) ∧ RTK h' (stl (rr c) w o).2 (c :: (stl (rr c) w o).1)))) (opc c) (nI (rk c)) h1 g1 := by
    intro h1 g1 o1 w1 J1 S1 V1 B1 es n3
    unfold j_X11_goesOn_42
    refine c_v (q_X11_settles S1 V1 (by omega) (by omega)) ?_
    rintro h2 g2 ⟨J2, S2⟩
    rw [es] at S2
    refine c_v (p_X11_waitsWith S2.2.2.2.1 (by omega)) ?_
    rintro h3 g3 ⟨rfl, J3, t6, t3, t141, t139, t140⟩
    exact ⟨(J1.tr J2).tr J3, .inr ⟨rfl, n3, S2.wait t6 t3 t141 t139 t140⟩⟩
  refine ⟨fun k3 => ?_, fun k3 => ?_⟩
  · have e : rr c = rk c := if_neg (fun q => k3 (by rw [q]; rfl))
    refine j42 h g _ _ KJ.rf S (fun x hx => V x (v6 x hx)) (by omega) (by rw [e]; exact stl_6 (by omega)) (fun q => k3 (by rw [q.1]; rfl))
  · have k3 : rk c = 3 := (nI_eq (b := 3) (by omega) (by omega)).mp k3
    have er : rr c = 4 := if_pos k3
    rw [er] at j42 ⊢
    refine c_v (q_X11_settles (r := 4) S (fun x hx => V x (v6 x hx)) (by omega) (by omega)) ?_
    rintro h1 g1 ⟨J1, S1⟩
    rw [stl_6 (by omega)] at S1
    have t4 : ∀ x, x ∈ (stl 4 w o).1 → x ∈ wcL := fun x hx => V x (v4 x hx)
    have go : ∀ g1 : HL, ¬ tp (stl 4 w o).1 = 3 → _ := fun g1 nt => j42 h1 g1 _ _ J1 S1 t4 (by omega) (by rw [k3]; exact stl_34 nt) (fun q => nt q.2)
    have s6 := S1.2.2.2.1
    have s1 := S1.2.2.2.2
    rw [s6]
    generalize stl 4 w o = s at l4 s1 t4 go ⊢
    obtain ⟨w', o'⟩ := s
    cases w' with
    | nil => exact ⟨fun _ => go g1 (show ¬ tp ([] : List Int32) = 3 by decide), fun q => absurd (show nI ([] : List Int32).length ≤ 0 by decide) q⟩
    | cons a ws =>
      obtain ⟨sa, -⟩ := SK.hm s1
      have l4 : ws.length + 1 + o'.length = w.length + o.length := l4
      have h6 := rk_6 a
      refine ⟨fun q => ?_, fun _ => ?_⟩
      · have q : nI (ws.length + 1) ≤ 0 := q
        rw [show (0 : Int32) = nI 0 from rfl, nI_leI (by omega) (by omega)] at q; omega
      dsimp only [List.length_cons]
      rw [nI_pred]
      refine and_have (vp_in_nI (by omega) (by omega)) (fun _ => ?_)
      rw [nI_clamp (by omega), sa]
      refine c_i p_X11_holds ?_
      rintro _ _ _ ⟨rfl, rfl, rfl⟩
      rw [hld_opc (t4 a (List.mem_cons_self ..))]
      refine ⟨fun q => go g1 (fun e => q (by have e : rk a = 3 := e; rw [e]; rfl)), fun q => ⟨J1, .inl ⟨rfl, k3, ?_⟩⟩⟩
      show rk a = 3
      exact (nI_eq (b := 3) (by omega) (by omega)).mp q
/-- the state between two signs: a UNIT read is told at once -/
def RTl (h : HI) (o w : List Int32) (u : Nat) : Prop := if u = 0 then RTK h (stl 6 w o).2 (stl 6 w o).1 else RTK h o w
theorem RTl.z {h : HI} {o w : List Int32} : RTl h o w 0 ↔ RTK h (stl 6 w o).2 (stl 6 w o).1 := by unfold RTl; rw [if_pos rfl]
theorem RTl.o {h : HI} {o w : List Int32} : RTl h o w 1 ↔ RTK h o w := by unfold RTl; rw [if_neg (by decide)]
theorem sof_y {c : Int32} (h : ¬ sof c = -1) : sof c = opc c ∧ 1 ≤ rk c ∧ rk c < 6 := by
  unfold sof at h ⊢
  by_cases c1 : c = 38
  · subst c1; decide
  by_cases c2 : c = 42
  · subst c2; decide
  by_cases c3 : c = 43
  · subst c3; decide
  by_cases c4 : c = 45
  · subst c4; decide
  by_cases c5 : c = 47
  · subst c5; decide
  by_cases c6 : c = 60
  · subst c6; decide
  by_cases c7 : c = 61
  · subst c7; decide
  by_cases c8 : c = 62
  · subst c8; decide
  by_cases c9 : c = 124
  · subst c9; decide
  rw [if_neg c1, if_neg c2, if_neg c3, if_neg c4, if_neg c5, if_neg c6, if_neg c7, if_neg c8, if_neg c9] at h
  exact absurd rfl h
theorem sof_n {c : Int32} (h : sof c = -1) : rk c < 1 ∨ 6 ≤ rk c := by
  unfold rk
  by_cases c1 : c = 33
  · rw [if_pos c1]; exact .inr (by omega)
  rw [if_neg c1]
  by_cases c2 : c = 126
  · rw [if_pos c2]; exact .inr (by omega)
  rw [if_neg c2]
  by_cases c3 : c = 42
  · subst c3; exact absurd h (by decide)
  rw [if_neg c3]
  by_cases c4 : c = 47
  · subst c4; exact absurd h (by decide)
  rw [if_neg c4]
  by_cases c5 : c = 43
  · subst c5; exact absurd h (by decide)
  rw [if_neg c5]
  by_cases c6 : c = 45
  · subst c6; exact absurd h (by decide)
  rw [if_neg c6]
  by_cases c7 : c = 60
  · subst c7; exact absurd h (by decide)
  rw [if_neg c7]
  by_cases c8 : c = 61
  · subst c8; exact absurd h (by decide)
  rw [if_neg c8]
  by_cases c9 : c = 62
  · subst c9; exact absurd h (by decide)
  rw [if_neg c9]
  by_cases c10 : c = 38
  · subst c10; exact absurd h (by decide)
  rw [if_neg c10]
  by_cases c11 : c = 124
  · subst c11; exact absurd h (by decide)
  rw [if_neg c11]; exact .inl (by omega)
theorem nof_y {c : Int32} (h : ¬ nof c = -1) : (c = 121 ∨ c = 108 ∨ c = 104) ∧ tc1 (-c) = 1 ∧ tc2 (-c) = nof c := by
  unfold nof at h ⊢
  by_cases c1 : c = 104
  · subst c1; decide
  by_cases c2 : c = 108
  · subst c2; decide
  by_cases c3 : c = 121
  · subst c3; decide
  rw [if_neg c1, if_neg c2, if_neg c3] at h
  exact absurd rfl h
theorem nof_n {c : Int32} (h : nof c = -1) : ¬ c = 121 ∧ ¬ c = 108 ∧ ¬ c = 104 :=
  ⟨fun e => by subst e; exact absurd h (by decide), fun e => by subst e; exact absurd h (by decide), fun e => by subst e; exact absurd h (by decide)⟩
/-- the reference's program -/
def PRr (h : HI) (p : List Int32) : Prop := h 135 3 = nI p.length ∧ SK (h 139) (p.map tc1) ∧ SK (h 140) (p.map tc2)
def QRl (h : HI) (f : Nat → Int32) (N : Nat) (r : Int32) (h' : HI) : Prop := KJ SRd h h' ∧ ∃ p, RSl f N r p ∧ (r = -1 → PRr h' p)
theorem dg_bd {c : Int32} : bd (48 : Int64).toInt (57 : Int64).toInt c ↔ dgt c := by
  unfold bd dgt
  rw [Int32.lt_iff_toInt_lt, Int32.lt_iff_toInt_lt, show (48 : Int64).toInt = 48 by decide, show (57 : Int64).toInt = 57 by decide, show (48 : Int32).toInt = 48 by decide, show (57 : Int32).toInt = 57 by decide]
  omega
end
