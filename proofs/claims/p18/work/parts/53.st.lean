/-! THE STEPS, with what the tables hold -/
theorem PTr.get {A : Prop} {h h' : HI} (b : PTr A h h') : A ∧ (∀ o, o ≠ 136 → h' o = h o) ∧ ∀ i, i < 9 → h' 136 i = h 136 i := by
  obtain ⟨a, f, ⟨F, Ff, R⟩, ef⟩ := b
  exact ⟨a, F, fun i hi => by rw [Ff]; exact ef i hi⟩
theorem up_rel {a a' f f' : Nat → Int32} {N b i i' : Nat} {x : Int32} (c : ∀ k, k < N → a k = f (b + k)) (e : a' = upd a i x) (e' : f' = upd f i' x) (hi : i' = b + i) : ∀ k, k < N → a' k = f' (b + k) := by
  subst hi
  intro k hk
  rw [e, e']
  by_cases q : k = i
  · subst q; rw [pk_us, pk_us]
  · rw [pk_un q, pk_un (by omega)]; exact c k hk
theorem XR.put {f f' : Nat → Int32} (x : XR f) (e9 : ∀ i, i < 9 → f' i = f i) (e : ∀ k, 152 ≤ k → k < 672 → f' k = f k) : XR f' := x.cg (by rw [e9 0 (by omega)]; exact Int.le_refl _) (e9 1 (by omega)) (e9 2 (by omega)) e
theorem st_family {h h1 h2 : HI} {r s x1 x2 x3 x4 : Int32} (q : RLT h) (T0 : TT h 4 4 3 4) (a : PTc (EFc x1 x2 x3 x4 h r h1) h h1 4 4 3 4) (b : PTr (EFr x1 x2 x3 x4 h1 s h2) h1 h2) : r = s ∧ RLT h2 := by
  obtain ⟨a, J, T⟩ := a
  obtain ⟨b, F, e9⟩ := b.get
  have e6 : h1 136 = h 136 := J 136 (by unfold SM; omega)
  rcases a with ⟨a1, rfl, rfl⟩ | ⟨a1, rfl, n, hn, rfl, A⟩
  · rcases b with ⟨b1, rfl, rfl⟩ | ⟨b1, -⟩
    · exact ⟨rfl, q⟩
    · exact absurd b1 a1
  · rcases b with ⟨b1, -⟩ | ⟨b1, rfl, n', hn', en, B⟩
    · exact absurd a1 b1
    · have : n = n' := (nI_eq (by omega) (by omega)).mp en
      subst this
      rw [e6] at B e9
      have fr : ∀ k, k < 140 ∨ 152 ≤ k → h2 136 k = h 136 k := fun k k3 => by
        rw [B, pk_un (by omega), pk_un (by omega), pk_un (by omega)]
      refine ⟨rfl, q.put (j := 1) (by omega) J F (fun k k1 k2 k3 => fr k k3) (fun m hm ht => ?_) (q.1.2.put e9 (fun k k1 k2 => fr k (by omega)))⟩
      have T2 : TT h2 4 4 3 4 := T.cg (F 4 (by decide))
      have : m = 4 := T2.nu ht hm
      subst this
      have c0 : ∀ k, k < 12 → h 5 k = h 136 (140 + k) := (CE.es (j := 1) (by decide) (by decide)).mp (q.1.1 1 4 (by omega) hm T0.2.2.1)
      have c1 := up_rel (x := x2) (i := n * 3 + 0) (i' := 140 + 3 * n) c0 rfl rfl (by omega)
      have c2 := up_rel (x := x3) (i := n * 3 + 1) (i' := 140 + 3 * n + 1) c1 rfl rfl (by omega)
      have c3 := up_rel (x := x4) (i := n * 3 + 2) (i' := 140 + 3 * n + 2) c2 rfl rfl (by omega)
      refine (CE.es (by decide) (by decide)).mpr ?_
      intro k hk
      have hk : k < 12 := hk
      show h2 5 k = h2 136 (140 + k)
      rw [F 5 (by decide), A, B]
      exact c3 k hk
theorem st_odds {h h1 h2 : HI} {r s x1 x2 : Int32} (q : RLT h) (T0 : TT h 16 1 2 1) (a : PTc (EOc x1 x2 h r h1) h h1 16 1 2 1) (b : PTr (EOr x1 x2 h1 s h2) h1 h2) : r = s ∧ RLT h2 := by
  obtain ⟨a, J, T⟩ := a
  obtain ⟨b, F, e9⟩ := b.get
  have e6 : h1 136 = h 136 := J 136 (by unfold SM; omega)
  rcases a with ⟨a1, rfl, rfl⟩ | ⟨a1, rfl, A⟩
  · rcases b with ⟨b1, rfl, rfl⟩ | ⟨b1, -⟩
    · exact ⟨rfl, q⟩
    · exact absurd b1 a1
  · rcases b with ⟨b1, -⟩ | ⟨b1, rfl, B⟩
    · exact absurd a1 b1
    · rw [e6] at B e9
      have fr : ∀ k, k < 9 ∨ 11 ≤ k → h2 136 k = h 136 k := fun k k3 => by
        rw [B, pk_un (by omega), pk_un (by omega)]
      refine ⟨rfl, q.put (j := 7) (by omega) J F (fun k k1 k2 k3 => fr k k3) (fun m hm ht => ?_) (q.1.2.put e9 (fun k k1 k2 => fr k (by omega)))⟩
      have T2 : TT h2 16 1 2 1 := T.cg (F 16 (by decide))
      have : m = 1 := T2.nu ht hm
      subst this
      have c0 : ∀ k, k < 2 → h 17 k = h 136 (9 + k) := (CE.es (j := 7) (by decide) (by decide)).mp (q.1.1 7 1 (by omega) hm T0.2.2.1)
      have c1 := up_rel (x := x1) (i := 0 * 2 + 0) (i' := 9) c0 rfl rfl (by omega)
      have c2 := up_rel (x := x2) (i := 0 * 2 + 1) (i' := 10) c1 rfl rfl (by omega)
      refine (CE.es (by decide) (by decide)).mpr ?_
      intro k hk
      have hk : k < 2 := hk
      show h2 17 k = h2 136 (9 + k)
      rw [F 17 (by decide), A, B]
      exact c2 k hk
theorem st_need {h h1 h2 : HI} {r s x1 x2 : Int32} (q : RLT h) (T0 : TT h 22 4 1 4) (a : PTc (ENc x1 x2 h r h1) h h1 22 4 1 4) (b : PTr (ENr x1 x2 h1 s h2) h1 h2) : r = s ∧ RLT h2 := by
  obtain ⟨a, J, T⟩ := a
  obtain ⟨b, F, e9⟩ := b.get
  have e6 : h1 136 = h 136 := J 136 (by unfold SM; omega)
  have c0 : ∀ k, k < 4 → h 23 k = h 136 (823 + k) := (CE.es (j := 10) (by decide) (by decide)).mp (q.1.1 10 4 (by omega) (Nat.le_refl _) T0.2.2.1)
  rcases a with ⟨a1, rfl, rfl⟩ | ⟨a1, n, hn, rfl, er, A⟩
  · rcases b with ⟨b1, rfl, rfl⟩ | ⟨b1, -⟩
    · exact ⟨rfl, q⟩
    · exact absurd b1 a1
  · rcases b with ⟨b1, -⟩ | ⟨b1, n', hn', en, es, B⟩
    · exact absurd a1 b1
    · have : n = n' := (nI_eq (by omega) (by omega)).mp en
      subst this
      rw [e6] at B e9 es
      have fr : ∀ k, k < 823 ∨ 827 ≤ k → h2 136 k = h 136 k := fun k k3 => by
        rw [B, pk_un (by omega)]
      refine ⟨?_, q.put (j := 10) (by omega) J F (fun k k1 k2 k3 => fr k k3) (fun m hm ht => ?_) (q.1.2.put e9 (fun k k1 k2 => fr k (by omega)))⟩
      · rw [er, es, c0 (n * 1 + 0) (by omega)]; congr 1; omega
      have T2 : TT h2 22 4 1 4 := T.cg (F 22 (by decide))
      have : m = 4 := T2.nu ht hm
      subst this
      have c1 := up_rel (x := x2) (i := n * 1 + 0) (i' := 823 + n) c0 rfl rfl (by omega)
      refine (CE.es (by decide) (by decide)).mpr ?_
      intro k hk
      have hk : k < 4 := hk
      show h2 23 k = h2 136 (823 + k)
      rw [F 23 (by decide), A, B]
      exact c1 k hk
theorem bt2_id {x : Int32} (h : x = 0 ∨ x = 1) : bt2 x = x := by
  rcases h with rfl | rfl
  · exact if_neg (by decide)
  · exact if_pos rfl
theorem zf_id {x : Int32} (h : x = 0 ∨ x = 1) : zf x = x := by
  rcases h with rfl | rfl
  · exact if_pos rfl
  · exact if_neg (by decide)
theorem st_deny {h h1 h2 : HI} {r s x1 x2 : Int32} {m : Nat} (q : RLT h) (T0 : TT h 6 m 6 60) (k : h 136 1 = nI m) (z : x2 = 0 ∨ x2 = 1) (a : PTc (EDc m x1 x2 h r h1) h h1 6 m 6 60) (b : PTr (EDr x1 x2 h1 s h2) h1 h2) : r = s ∧ RLT h2 := by
  obtain ⟨a, J, T⟩ := a
  obtain ⟨b, F, e9⟩ := b.get
  have hm := T0.2.2.2.1
  have e6 : h1 136 = h 136 := J 136 (by unfold SM; omega)
  have c0 : ∀ k, k < m * 6 → h 7 k = h 136 (152 + k) := (CE.es (j := 2) (by decide) (by decide)).mp (q.1.1 2 m (by omega) hm T0.2.2.1)
  have ec : h 6 3 = h 136 1 := T0.2.2.1.trans k.symm
  unfold EDc at a
  unfold EDr at b
  rw [e6] at b e9
  rw [ec] at a
  rcases a with ⟨a1, rfl, rfl⟩ | ⟨n, hn, rfl, a⟩
  · rcases b with ⟨b1, rfl, rfl⟩ | ⟨b1, -⟩
    · exact ⟨rfl, q⟩
    · exact absurd b1 a1
  · rcases b with ⟨b1, -⟩ | ⟨b1, n', hn', en, b⟩
    · exact absurd (by rw [k]; exact row_of hn (by omega)) b1
    · have : n = n' := (nI_eq (by omega) (by omega)).mp en
      subst this
      have x := (q.1.2.1 n m k hm hn).2
      have ev : h 7 (n * 6 + 5) = h 136 (152 + (n * 6 + 5)) := c0 _ (by omega)
      rw [show 152 + 6 * n + 5 = 152 + (n * 6 + 5) by omega, bt2_id x, zf_id z] at b
      rw [ev, zf_id z] at a
      rcases a with ⟨a1, rfl, rfl⟩ | ⟨a1, rfl, A⟩
      · rcases b with ⟨b1, rfl, rfl⟩ | ⟨b1, -⟩
        · exact ⟨rfl, q⟩
        · exact absurd a1 b1
      · rcases b with ⟨b1, -⟩ | ⟨b1, rfl, B⟩
        · exact absurd b1 a1
        · have fr : ∀ k, k < 152 ∨ 512 ≤ k → h2 136 k = h 136 k := fun k k3 => by
            rw [B, pk_un (by omega)]
          refine ⟨rfl, q.put (j := 2) (by omega) J F (fun k k1 k2 k3 => fr k k3) (fun m' hm' ht => ?_) ⟨fun r n' g1 g2 g3 => ?_, fun r n' k' c' g1 g2 g3 g4 g5 g6 => ?_⟩⟩
          · have T2 : TT h2 6 m 6 60 := T.cg (F 6 (by decide))
            have : m' = m := T2.nu ht hm'
            subst this
            have c1 := up_rel (x := x2) (i := n * 6 + 5) (i' := 152 + (n * 6 + 5)) c0 rfl rfl rfl
            refine (CE.es (by decide) (by decide)).mpr ?_
            intro k hk
            have hk : k < m' * 6 := hk
            show h2 7 k = h2 136 (152 + k)
            rw [F 7 (by decide), A, B]
            exact c1 k hk
          · rw [e9 1 (by omega)] at g1
            obtain ⟨y1, y2⟩ := q.1.2.1 r n' g1 g2 g3
            rw [e9 0 (by omega), B]
            refine ⟨by rw [pk_un (by omega)]; exact y1, ?_⟩
            by_cases e : r = n
            · subst e; rw [pk_us]; exact z
            · rw [pk_un (by omega)]; exact y2
          · rw [e9 2 (by omega)] at g1
            rw [fr (512 + (r * 10 + 2)) (by omega)] at g4
            rw [fr (512 + (r * 10 + (3 + k'))) (by omega), e9 0 (by omega)]
            exact q.1.2.2 r n' k' c' g1 g2 g3 g4 g5 g6
theorem sl_t : ∀ n, n < 32 → ((nI n &&& 31).toBitVec.smod 32).toNat = n := by decide +kernel
theorem sh_t : ∀ n, n < 24 → (1 : Int32) <<< (nI n &&& 31) = nI (2 ^ n) := by decide +kernel
theorem nI_and (a b : Nat) : nI a &&& nI b = nI (a &&& b) := by
  unfold nI
  apply Int32.toBitVec_inj.mp
  rw [Int32.toBitVec_and]
  show BitVec.ofNat 32 a &&& BitVec.ofNat 32 b = BitVec.ofNat 32 (a &&& b)
  apply BitVec.eq_of_toNat_eq
  rw [BitVec.toNat_and, BitVec.toNat_ofNat, BitVec.toNat_ofNat, BitVec.toNat_ofNat, Nat.and_mod_two_pow]
theorem nI_xor (a b : Nat) : nI a ^^^ nI b = nI (a ^^^ b) := by
  unfold nI
  apply Int32.toBitVec_inj.mp
  rw [Int32.toBitVec_xor]
  show BitVec.ofNat 32 a ^^^ BitVec.ofNat 32 b = BitVec.ofNat 32 (a ^^^ b)
  apply BitVec.eq_of_toNat_eq
  rw [BitVec.toNat_xor, BitVec.toNat_ofNat, BitVec.toNat_ofNat, BitVec.toNat_ofNat, Nat.xor_mod_two_pow]
theorem bit_n {n a : Nat} (hn : n < 2 ^ 31) (ha : a < 32) : (nI n >>> (nI a &&& 31)) &&& 1 = 1 ↔ n.testBit a = true := by
  rw [pk_shrN hn _ a (sl_t a ha), show (1 : Int32) = nI 1 from rfl, nI_and, Nat.and_one_is_mod, nI_eq (by omega) (by omega), Nat.testBit_eq_decide_div_mod_eq, decide_eq_true_iff]
theorem bt1_n {n a : Nat} (hn : n < 2 ^ 31) (ha : a < 32) : bt1 (nI n) a = if n.testBit a = true then 1 else 0 := by
  unfold bt1
  by_cases c : n.testBit a = true
  · rw [if_pos c, if_pos ((bit_n hn ha).mpr c)]
  · rw [if_neg c, if_neg (fun q => c ((bit_n hn ha).mp q))]
theorem p2_24 {a : Nat} (h : a < 24) : 2 ^ a < 2 ^ 24 := Nat.pow_lt_pow_right (by decide) h
theorem st_bear {h h1 h2 : HI} {r s x1 x2 x3 : Int32} {m : Nat} (q : RLT h) (T0 : TT h 2 m 5 24) (k : h 136 0 = nI m) (a : PTc (EBc m x1 x2 x3 h r h1) h h1 2 m 5 24) (b : PTr (EBr x1 x2 x3 h1 s h2) h1 h2) : r = s ∧ RLT h2 := by
  obtain ⟨a, J, T⟩ := a
  obtain ⟨b, F, e9⟩ := b.get
  have hm := T0.2.2.2.1
  have e6 : h1 136 = h 136 := J 136 (by unfold SM; omega)
  have c0 : CP h 1 (h 136) m := CE.e0.mp (q.1.1 0 m (by omega) hm T0.2.2.1)
  have ec : h 2 3 = h 136 0 := T0.2.2.1.trans k.symm
  unfold EBc at a
  unfold EBr at b
  rw [e6] at b e9
  rw [ec] at a
  rcases a with ⟨a1, rfl, rfl⟩ | ⟨a1, A, B, hA, hB, rfl, rfl, a⟩
  · rcases b with ⟨b1, rfl, rfl⟩ | ⟨b1, -⟩
    · exact ⟨rfl, q⟩
    · exact absurd b1 a1
  · rcases b with ⟨b1, -⟩ | ⟨b1, A', B', hA', hB', eA, eB, b⟩
    · exact absurd a1 b1
    · have : A = A' := (nI_eq (by omega) (by omega)).mp eA
      subst this
      have : B = B' := (nI_eq (by omega) (by omega)).mp eB
      subst this
      obtain ⟨d1, cN, rN, d2, d3, d4⟩ := c0
      obtain ⟨p1, -, p2, -⟩ := d2 B hB
      obtain ⟨-, p3, -, p4⟩ := d2 A hA
      have p2 : h 3 (B * 5 + 4) = nI (cN B) := p2
      rw [show 20 + 5 * A + 4 = 20 + (A * 5 + 4) by omega, p4, bt1_n (by omega) (by omega), ← d4 A B] at b
      rw [p2, bt1_n (by omega) (by omega)] at a
      rcases a with ⟨a5, rfl, rfl⟩ | ⟨a5, rfl, C⟩
      · rcases b with ⟨b5, rfl, rfl⟩ | ⟨b5, -⟩
        · exact ⟨rfl, q⟩
        · exact absurd a5 b5
      · rcases b with ⟨b5, -⟩ | ⟨b5, rfl, D⟩
        · exact absurd b5 a5
        · rw [sh_t A hA', nI_xor] at C
          rw [sh_t B hB', nI_xor] at D
          have fr : ∀ k, k < 20 ∨ 140 ≤ k → h2 136 k = h 136 k := fun k k3 => by
            rw [D, pk_un (by omega)]
          refine ⟨rfl, q.put (j := 0) (by omega) J F (fun k k1 k2 k3 => fr k k3) (fun m' hm' ht => ?_) (q.1.2.put e9 (fun k k1 k2 => fr k (by omega)))⟩
          have T2 : TT h2 2 m 5 24 := T.cg (F 2 (by decide))
          have : m' = m := T2.nu ht hm'
          subst this
          refine CE.e0.mpr ?_
          have C' : h2 (1 + (1 + 2 * 0) + 1) = upd (h 3) (B * 5 + 4) (nI (cN B ^^^ 2 ^ A)) := (F 3 (by decide)).trans C
          refine ⟨fun p hp c hc => ?_, fun p => if p = B then cN B ^^^ 2 ^ A else cN p, fun p => if p = A then rN A ^^^ 2 ^ B else rN p, fun p hp => ?_, fun p hp => ?_, fun x y => ?_⟩
          · rw [C', D, pk_un (by omega), pk_un (by omega)]; exact d1 p hp c hc
          · obtain ⟨g1, g2, g3, g4⟩ := d2 p hp
            have g3 : h 3 (p * 5 + 4) = nI (cN p) := g3
            dsimp only
            rw [C', D]
            refine ⟨?_, ?_, ?_, ?_⟩
            · by_cases e : p = B
              · rw [if_pos e]; exact Nat.xor_lt_two_pow p1 (p2_24 hA')
              · rw [if_neg e]; exact g1
            · by_cases e : p = A
              · rw [if_pos e]; exact Nat.xor_lt_two_pow p3 (p2_24 hB')
              · rw [if_neg e]; exact g2
            · by_cases e : p = B
              · rw [if_pos e, e, pk_us]
              · rw [if_neg e, pk_un (by omega)]; exact g3
            · by_cases e : p = A
              · rw [if_pos e, e, pk_us]
              · rw [if_neg e, pk_un (by omega)]; exact g4
          · dsimp only
            rw [if_neg (by omega), if_neg (by omega)]
            exact d3 p hp
          · dsimp only
            by_cases ey : y = B
            · rw [if_pos ey]
              by_cases ex : x = A
              · rw [if_pos ex, Nat.testBit_xor, Nat.testBit_xor, ex, ey, Nat.testBit_two_pow_self, Nat.testBit_two_pow_self, d4 A B]
              · rw [if_neg ex, Nat.testBit_xor, Nat.testBit_two_pow_of_ne (fun e => ex e.symm), Bool.xor_false, ey]; exact d4 x B
            · rw [if_neg ey]
              by_cases ex : x = A
              · rw [if_pos ex, Nat.testBit_xor, Nat.testBit_two_pow_of_ne (fun e => ey e.symm), Bool.xor_false, ex]; exact d4 A y
              · rw [if_neg ex]; exact d4 x y
theorem st_link {h h1 h2 : HI} {r s x1 x2 x3 : Int32} {m : Nat} (q : RLT h) (T0 : TT h 8 m 15 16) (k : h 136 2 = nI m) (n0 : h 2 3 = h 136 0) (a : PTc (ELc m x1 x2 x3 h r h1) h h1 8 m 15 16) (b : PTr (ELr x1 x2 x3 h1 s h2) h1 h2) : r = s ∧ RLT h2 := by
  obtain ⟨a, J, T⟩ := a
  obtain ⟨b, F, e9⟩ := b.get
  have hm := T0.2.2.2.1
  have e6 : h1 136 = h 136 := J 136 (by unfold SM; omega)
  have c0 : CC h 1 (h 136) m := CE.e3.mp (q.1.1 3 m (by omega) hm T0.2.2.1)
  have ec : h 8 3 = h 136 2 := T0.2.2.1.trans k.symm
  unfold ELc at a
  unfold ELr at b
  rw [e6] at b e9
  rw [ec, n0] at a
  rcases a with ⟨a1, rfl, rfl⟩ | ⟨a1, c, n, hc, hn, rfl, en, a⟩
  · rcases b with ⟨b1, rfl, rfl⟩ | ⟨b1, -⟩
    · exact ⟨rfl, q⟩
    · exact absurd b1 a1
  · rcases b with ⟨b1, -⟩ | ⟨b1, c', n', hc', hn', ecc, en', b⟩
    · exact absurd a1 b1
    · have : c = c' := (nI_eq (by omega) (by omega)).mp ecc
      subst this
      obtain ⟨g1, g2, g3, ng, og, g4, g5, g6, g7, g8⟩ := c0 c hc
      rw [show 512 + 10 * c + 2 = 512 + (c * 10 + 2) by omega] at en' b
      have : n = n' := by
        have e : nI n = nI n' := en.symm.trans (g3.trans en')
        exact (nI_eq (by omega) (by omega)).mp e
      subst this
      have : n = ng := (nI_eq (by omega) (by omega)).mp (en'.symm.trans g5)
      subst this
      have mem : ∀ k, k < n → (h 9 (c * 15 + (3 + 2 * k)) = x2 ↔ h 136 (512 + 10 * c + (3 + k)) = x2) := fun k hk => by
        have e := (g8 k hk).1
        have e : h 9 (c * 15 + (3 + 2 * k)) = h 136 (512 + (c * 10 + (3 + k))) := e
        rw [e, show 512 + (c * 10 + (3 + k)) = 512 + 10 * c + (3 + k) by omega]
      rcases a with ⟨⟨ka, ha, ea⟩, rfl, rfl⟩ | ⟨noa, a⟩
      · rcases b with ⟨-, rfl, rfl⟩ | ⟨nob, -⟩
        · exact ⟨rfl, q⟩
        · exact absurd ((mem ka ha).mp ea) (nob ka ha)
      · rcases b with ⟨⟨kb, hb, eb⟩, -⟩ | ⟨nob, b⟩
        · exact absurd ((mem kb hb).mpr eb) (noa kb hb)
        rcases a with ⟨a2, rfl, rfl⟩ | ⟨a2, rfl, A⟩
        · rcases b with ⟨b2, rfl, rfl⟩ | ⟨b2, -⟩
          · exact ⟨rfl, q⟩
          · omega
        · rcases b with ⟨b2, -⟩ | ⟨b2, rfl, B⟩
          · omega
          · have fr : ∀ k, k < 512 ∨ 672 ≤ k → h2 136 k = h 136 k := fun k k3 => by
              rw [B, pk_un (by omega), pk_un (by omega), pk_un (by omega)]
            have fc : ∀ r' k, r' ≠ c → k < 10 → h2 136 (512 + (r' * 10 + k)) = h 136 (512 + (r' * 10 + k)) := fun r' k e1 e2 => by
              rw [B, pk_un (by omega), pk_un (by omega), pk_un (by omega)]
            have A' : h2 (1 + (1 + 2 * 3) + 1) = upd (upd (upd (h 9) (c * 15 + (3 + 2 * n)) x2) (c * 15 + (3 + 2 * n + 1)) (zf x3)) (c * 15 + 2) (nI (n + 1)) := (F 9 (by decide)).trans A
            refine ⟨rfl, q.put (j := 3) (by omega) J F (fun k k1 k2 k3 => fr k k3) (fun m' hm' ht => ?_) ⟨fun r n' g1 g2 g3 => ?_, fun r n' k' c' y1 y2 y3 y4 y5 y6 => ?_⟩⟩
            · have T2 : TT h2 8 m 15 16 := T.cg (F 8 (by decide))
              have : m' = m := T2.nu ht hm'
              subst this
              refine CE.e3.mpr (fun r' hr' => ?_)
              by_cases er : r' = c
              · subst er
                rw [show 512 + 10 * r' + 3 + n = 512 + (r' * 10 + (3 + n)) by omega, show 512 + 10 * r' + 9 = 512 + (r' * 10 + 9) by omega, g7] at B
                refine ⟨?_, ?_, ?_, n + 1, og ||| (if x3 = 0 then 0 else 2 ^ n), by omega, ?_, ?_, ?_, fun k hk => ?_⟩
                · rw [A', B, pk_un (by omega), pk_un (by omega), pk_un (by omega), pk_un (by omega), pk_un (by omega), pk_un (by omega)]; exact g1
                · rw [A', B, pk_un (by omega), pk_un (by omega), pk_un (by omega), pk_un (by omega), pk_un (by omega), pk_un (by omega)]; exact g2
                · rw [A', B, pk_us, pk_us]
                · rw [B, pk_us]
                · refine Nat.or_lt_two_pow (Nat.lt_of_lt_of_le g6 (Nat.pow_le_pow_right (by decide) (by omega))) ?_
                  by_cases ez : x3 = 0
                  · rw [if_pos ez]; exact Nat.two_pow_pos _
                  · rw [if_neg ez]; exact Nat.pow_lt_pow_right (by decide) (by omega)
                · rw [B, pk_un (by omega), pk_us]
                  unfold zs
                  by_cases ez : x3 = 0
                  · rw [if_pos ez, if_pos ez, Nat.or_zero, show (0 : Int32) = nI 0 from rfl, nI_or, Nat.or_zero]
                  · rw [if_neg ez, if_neg ez, shl_t n (by omega), nI_or]
                · by_cases ek : k = n
                  · subst ek
                    refine ⟨?_, ?_⟩
                    · rw [A', B, pk_un (by omega), pk_un (by omega), pk_us, pk_un (by omega), pk_un (by omega), pk_us]
                    · rw [A', pk_un (by omega), ps_u (by omega), Nat.testBit_or, Nat.testBit_lt_two_pow g6, Bool.false_or]
                      unfold zf
                      by_cases ez : x3 = 0
                      · rw [if_pos ez, if_pos ez, Nat.zero_testBit, if_neg (by decide)]
                      · rw [if_neg ez, if_neg ez, Nat.testBit_two_pow_self, if_pos rfl]
                  · obtain ⟨w1, w2⟩ := g8 k (by omega)
                    refine ⟨?_, ?_⟩
                    · rw [A', B, pk_un (by omega), pk_un (by omega), pk_un (by omega), pk_un (by omega), pk_un (by omega), pk_un (by omega)]; exact w1
                    · rw [A', pk_un (by omega), pk_un (by omega), pk_un (by omega), Nat.testBit_or]
                      have : (if x3 = 0 then 0 else 2 ^ n).testBit k = false := by
                        by_cases ez : x3 = 0
                        · rw [if_pos ez]; exact Nat.zero_testBit _
                        · rw [if_neg ez]; exact Nat.testBit_two_pow_of_ne (fun e => ek e.symm)
                      rw [this, Bool.or_false]
                      exact w2
              · obtain ⟨w1, w2, w3, nw, ow, w4, w5, w6, w7, w8⟩ := c0 r' hr'
                have fa : ∀ k, k < 15 → h2 (1 + (1 + 2 * 3) + 1) (r' * 15 + k) = h 9 (r' * 15 + k) := fun k hk => by
                  rw [A', pk_un (by omega), pk_un (by omega), pk_un (by omega)]
                refine ⟨?_, ?_, ?_, nw, ow, w4, ?_, w6, ?_, fun k hk => ⟨?_, ?_⟩⟩
                · exact (fa 0 (by omega)).trans (w1.trans (fc r' 0 er (by omega)).symm)
                · rw [fa 1 (by omega), fc r' 1 er (by omega)]; exact w2
                · rw [fa 2 (by omega), fc r' 2 er (by omega)]; exact w3
                · rw [fc r' 2 er (by omega)]; exact w5
                · rw [fc r' 9 er (by omega)]; exact w7
                · rw [fa (3 + 2 * k) (by omega), fc r' (3 + k) er (by omega)]; exact (w8 k hk).1
                · rw [fa (4 + 2 * k) (by omega)]; exact (w8 k hk).2
            · rw [e9 1 (by omega)] at g1
              rw [e9 0 (by omega), fr _ (by omega), fr _ (by omega)]
              exact q.1.2.1 r n' g1 g2 g3
            · rw [e9 2 (by omega)] at y1
              rw [e9 0 (by omega)]
              by_cases er : r = c
              · subst er
                rw [B, pk_us] at y4
                have : c' = n + 1 := (nI_eq (by omega) (by omega)).mp y4.symm
                subst this
                by_cases ek : k' = n
                · subst ek
                  rw [B, pk_un (by omega), pk_un (by omega), ps_u (by omega)]
                  exact a1.2
                · rw [B, pk_un (by omega), pk_un (by omega), pk_un (by omega)]
                  exact q.1.2.2 r n' k' n y1 y2 y3 en' (by omega) (by omega)
              · rw [fc r 2 er (by omega)] at y4
                rw [fc r (3 + k') er (by omega)]
                exact q.1.2.2 r n' k' c' y1 y2 y3 y4 y5 y6
theorem ff_part {f f' : Nat → Int32} {m : Nat} {x1 x2 x3 x4 : Int32} (e : f' = upd (upd (upd (upd (upd (upd f (20 + 5 * m) x1) (20 + 5 * m + 1) x2) (20 + 5 * m + 2) x3) (20 + 5 * m + 3) x4) (20 + 5 * m + 4) 0) 0 (nI (m + 1))) : FF f f' 0 m (rowc x1 x2 x3 x4) := by
  have g1 : ∀ k, 9 ≤ k → k < 887 → (k < 20 + m * 5 ∨ 20 + m * 5 + 5 ≤ k) → f' k = f k := fun k k1 k2 k3 => by
    rw [e, pk_un (by omega), pk_un (by omega), pk_un (by omega), pk_un (by omega), pk_un (by omega), pk_un (by omega)]
  have g2 : ∀ c, c < 5 → f' (20 + (m * 5 + c)) = (rowc x1 x2 x3 x4) c := by
    intro c hc
    rw [e]
    have : c = 0 ∨ c = 1 ∨ c = 2 ∨ c = 3 ∨ c = 4 := by omega
    rcases this with rfl | rfl | rfl | rfl | rfl
    · rw [pk_un (by omega), pk_un (by omega), pk_un (by omega), pk_un (by omega), pk_un (by omega), ps_u (by omega)]; rfl
    · rw [pk_un (by omega), pk_un (by omega), pk_un (by omega), pk_un (by omega), ps_u (by omega)]; rfl
    · rw [pk_un (by omega), pk_un (by omega), pk_un (by omega), ps_u (by omega)]; rfl
    · rw [pk_un (by omega), pk_un (by omega), ps_u (by omega)]; rfl
    · rw [pk_un (by omega), ps_u (by omega)]; rfl
  exact ⟨g1, g2⟩
theorem ff_machine {f f' : Nat → Int32} {m : Nat} {x1 : Int32} (e : f' = upd (upd f (704 + m) x1) 4 (nI (m + 1))) : FF f f' 5 m (rowc x1 0 0 0) := by
  have g1 : ∀ k, 9 ≤ k → k < 887 → (k < 704 + m * 1 ∨ 704 + m * 1 + 1 ≤ k) → f' k = f k := fun k k1 k2 k3 => by
    rw [e, pk_un (by omega), pk_un (by omega)]
  have g2 : ∀ c, c < 1 → f' (704 + (m * 1 + c)) = (rowc x1 0 0 0) c := by
    intro c hc
    rw [e]
    have : c = 0 := by omega
    subst this
    rw [pk_un (by omega), ps_u (by omega)]; rfl
  exact ⟨g1, g2⟩
theorem ff_spare {f f' : Nat → Int32} {m : Nat} {x1 x2 x3 : Int32} (e : f' = upd (upd (upd (upd f (710 + 3 * m) x1) (710 + 3 * m + 1) x2) (710 + 3 * m + 2) x3) 5 (nI (m + 1))) : FF f f' 6 m (rowc x1 x2 x3 0) := by
  have g1 : ∀ k, 9 ≤ k → k < 887 → (k < 710 + m * 3 ∨ 710 + m * 3 + 3 ≤ k) → f' k = f k := fun k k1 k2 k3 => by
    rw [e, pk_un (by omega), pk_un (by omega), pk_un (by omega), pk_un (by omega)]
  have g2 : ∀ c, c < 3 → f' (710 + (m * 3 + c)) = (rowc x1 x2 x3 0) c := by
    intro c hc
    rw [e]
    have : c = 0 ∨ c = 1 ∨ c = 2 := by omega
    rcases this with rfl | rfl | rfl
    · rw [pk_un (by omega), pk_un (by omega), pk_un (by omega), ps_u (by omega)]; rfl
    · rw [pk_un (by omega), pk_un (by omega), ps_u (by omega)]; rfl
    · rw [pk_un (by omega), ps_u (by omega)]; rfl
  exact ⟨g1, g2⟩
theorem ff_hand {f f' : Nat → Int32} {m : Nat} {x1 x2 : Int32} (e : f' = upd (upd (upd f (817 + 2 * m) x1) (817 + 2 * m + 1) x2) 7 (nI (m + 1))) : FF f f' 9 m (rowc x1 x2 0 0) := by
  have g1 : ∀ k, 9 ≤ k → k < 887 → (k < 817 + m * 2 ∨ 817 + m * 2 + 2 ≤ k) → f' k = f k := fun k k1 k2 k3 => by
    rw [e, pk_un (by omega), pk_un (by omega), pk_un (by omega)]
  have g2 : ∀ c, c < 2 → f' (817 + (m * 2 + c)) = (rowc x1 x2 0 0) c := by
    intro c hc
    rw [e]
    have : c = 0 ∨ c = 1 := by omega
    rcases this with rfl | rfl
    · rw [pk_un (by omega), pk_un (by omega), ps_u (by omega)]; rfl
    · rw [pk_un (by omega), ps_u (by omega)]; rfl
  exact ⟨g1, g2⟩
theorem ff_told {f f' : Nat → Int32} {m : Nat} {x1 x2 : Int32} (e : f' = upd (upd (upd f (737 + 2 * m) x1) (737 + 2 * m + 1) (if x2 = 0 then 0 else 1)) 6 (nI (m + 1))) : FF f f' 8 m (rowc x1 (if x2 = 0 then 0 else 1) 0 0) := by
  have g1 : ∀ k, 9 ≤ k → k < 887 → (k < 737 + m * 2 ∨ 737 + m * 2 + 2 ≤ k) → f' k = f k := fun k k1 k2 k3 => by
    rw [e, pk_un (by omega), pk_un (by omega), pk_un (by omega)]
  have g2 : ∀ c, c < 2 → f' (737 + (m * 2 + c)) = (rowc x1 (if x2 = 0 then 0 else 1) 0 0) c := by
    intro c hc
    rw [e]
    have : c = 0 ∨ c = 1 := by omega
    rcases this with rfl | rfl
    · rw [pk_un (by omega), pk_un (by omega), ps_u (by omega)]; rfl
    · rw [pk_un (by omega), ps_u (by omega)]; rfl
  exact ⟨g1, g2⟩
theorem ff_write {f f' : Nat → Int32} {m : Nat} {x1 : Int32} (e : f' = upd (upd f (827 + m) x1) 8 (nI (m + 1))) : FF f f' 11 m (rowc x1 0 0 0) := by
  have g1 : ∀ k, 9 ≤ k → k < 887 → (k < 827 + m * 1 ∨ 827 + m * 1 + 1 ≤ k) → f' k = f k := fun k k1 k2 k3 => by
    rw [e, pk_un (by omega), pk_un (by omega)]
  have g2 : ∀ c, c < 1 → f' (827 + (m * 1 + c)) = (rowc x1 0 0 0) c := by
    intro c hc
    rw [e]
    have : c = 0 := by omega
    subst this
    rw [pk_un (by omega), ps_u (by omega)]; rfl
  exact ⟨g1, g2⟩
theorem ff_say {f f' : Nat → Int32} {m : Nat} {x1 x2 x3 x4 x5 : Int32} (e : f' = upd (upd (upd (upd (upd (upd (upd f (152 + 6 * m) x1) (152 + 6 * m + 1) x2) (152 + 6 * m + 2) x3) (152 + 6 * m + 3) (if x2 = 0 ∨ x2 = 1 then x4 else 0)) (152 + 6 * m + 4) (if x2 = 0 then x5 else 0)) (152 + 6 * m + 5) 0) 1 (nI (m + 1))) : FF f f' 2 m (rows x1 x2 x3 x4 x5) := by
  have g1 : ∀ k, 9 ≤ k → k < 887 → (k < 152 + m * 6 ∨ 152 + m * 6 + 6 ≤ k) → f' k = f k := fun k k1 k2 k3 => by
    rw [e, pk_un (by omega), pk_un (by omega), pk_un (by omega), pk_un (by omega), pk_un (by omega), pk_un (by omega), pk_un (by omega)]
  have g2 : ∀ c, c < 6 → f' (152 + (m * 6 + c)) = (rows x1 x2 x3 x4 x5) c := by
    intro c hc
    rw [e]
    have : c = 0 ∨ c = 1 ∨ c = 2 ∨ c = 3 ∨ c = 4 ∨ c = 5 := by omega
    rcases this with rfl | rfl | rfl | rfl | rfl | rfl
    · rw [pk_un (by omega), pk_un (by omega), pk_un (by omega), pk_un (by omega), pk_un (by omega), pk_un (by omega), ps_u (by omega)]; rfl
    · rw [pk_un (by omega), pk_un (by omega), pk_un (by omega), pk_un (by omega), pk_un (by omega), ps_u (by omega)]; rfl
    · rw [pk_un (by omega), pk_un (by omega), pk_un (by omega), pk_un (by omega), ps_u (by omega)]; rfl
    · rw [pk_un (by omega), pk_un (by omega), pk_un (by omega), ps_u (by omega)]; rfl
    · rw [pk_un (by omega), pk_un (by omega), ps_u (by omega)]; rfl
    · rw [pk_un (by omega), ps_u (by omega)]; rfl
  exact ⟨g1, g2⟩
theorem ff_work {f f' : Nat → Int32} {m : Nat} {x1 x2 x3 x4 : Int32} (e : f' = upd (upd (upd (upd (upd f (672 + 4 * m) x1) (672 + 4 * m + 1) x2) (672 + 4 * m + 2) x3) (672 + 4 * m + 3) x4) 3 (nI (m + 1))) : FF f f' 4 m (rowc x1 x2 x3 x4) := by
  have g1 : ∀ k, 9 ≤ k → k < 887 → (k < 672 + m * 4 ∨ 672 + m * 4 + 4 ≤ k) → f' k = f k := fun k k1 k2 k3 => by
    rw [e, pk_un (by omega), pk_un (by omega), pk_un (by omega), pk_un (by omega), pk_un (by omega)]
  have g2 : ∀ c, c < 4 → f' (672 + (m * 4 + c)) = (rowc x1 x2 x3 x4) c := by
    intro c hc
    rw [e]
    have : c = 0 ∨ c = 1 ∨ c = 2 ∨ c = 3 := by omega
    rcases this with rfl | rfl | rfl | rfl
    · rw [pk_un (by omega), pk_un (by omega), pk_un (by omega), pk_un (by omega), ps_u (by omega)]; rfl
    · rw [pk_un (by omega), pk_un (by omega), pk_un (by omega), ps_u (by omega)]; rfl
    · rw [pk_un (by omega), pk_un (by omega), ps_u (by omega)]; rfl
    · rw [pk_un (by omega), ps_u (by omega)]; rfl
  exact ⟨g1, g2⟩
theorem RLT.addP {C : Prop} {h h1 h2 : HI} {r s : Int32} {m k : Nat} {x1 x2 x3 x4 : Int32} {F : (Nat → Int32) → Prop} (q : RLT h) (T : TT h 2 m 5 24) (em : h 136 0 = nI m) (a : ADc C h r h1 2 m 5 24 k (rowc x1 x2 x3 x4)) (b : ADr C h1 s h2 0 m 24 k F) (up : h1 136 = h 136) (ff : ∀ f', F f' → FF (h1 136) f' 0 m (rowc x1 x2 x3 x4)) : RLT h2 := by
  have hm' := T.2.2.2.1
  rw [up] at ff
  refine RLT.add (j := 0) q (by omega) T a b (fun hm f' hf k k1 k2 k3 => by rw [up]; exact (ff f' hf).fr (by omega) (by decide) hm k k1 k2 k3) (fun _ hm f' hf c old new => ?_) (fun _ hm f' hf x ec ef => ?_)
  · have hm : m < 24 := hm
    rw [CE.e0] at c ⊢
    obtain ⟨d1, cN, rN, d2, d3, d4⟩ := c
    have old : ∀ i, i < m * 5 → h2 3 i = h 3 i := old
    have new : ∀ c, c < 5 → h2 3 (m * 5 + c) = rowc x1 x2 x3 x4 c := new
    have f1 : ∀ k, 9 ≤ k → k < 887 → (k < 20 + m * 5 ∨ 20 + m * 5 + 5 ≤ k) → f' k = h 136 k := (ff f' hf).1
    have f2 : ∀ c, c < 5 → f' (20 + (m * 5 + c)) = rowc x1 x2 x3 x4 c := (ff f' hf).2
    have d1 : ∀ p, p < m → ∀ c, c < 4 → h 3 (p * 5 + c) = h 136 (20 + (p * 5 + c)) := d1
    have d2 : ∀ p, p < m → cN p < 2 ^ 24 ∧ rN p < 2 ^ 24 ∧ h 3 (p * 5 + 4) = nI (cN p) ∧ h 136 (20 + (p * 5 + 4)) = nI (rN p) := d2
    refine ⟨fun p hp c hc => ?_, cN, rN, fun p hp => ?_, fun p hp => d3 p (by omega), d4⟩
    · show h2 3 (p * 5 + c) = f' (20 + (p * 5 + c))
      by_cases e : p = m
      · subst e; rw [new c (by omega), f2 c (by omega)]
      · rw [old (p * 5 + c) (by omega), f1 (20 + (p * 5 + c)) (by omega) (by omega) (by omega)]; exact d1 p (by omega) c hc
    · show cN p < 2 ^ 24 ∧ rN p < 2 ^ 24 ∧ h2 3 (p * 5 + 4) = nI (cN p) ∧ f' (20 + (p * 5 + 4)) = nI (rN p)
      by_cases e : p = m
      · subst e
        obtain ⟨z1, z2⟩ := d3 p (Nat.le_refl _)
        rw [z1, z2, new 4 (by omega), f2 4 (by omega), nI_0]
        exact ⟨by decide, by decide, rfl, rfl⟩
      · rw [old (p * 5 + 4) (by omega), f1 (20 + (p * 5 + 4)) (by omega) (by omega) (by omega)]; exact d2 p (by omega)
  · have hm : m < 24 := hm
    have f1 : ∀ k, 9 ≤ k → k < 887 → (k < 20 + m * 5 ∨ 20 + m * 5 + 5 ≤ k) → f' k = h 136 k := (ff f' hf).1
    have ec : f' 0 = nI (m + 1) := ec
    have ef : ∀ i, i < 9 → i ≠ 0 → f' i = h 136 i := ef
    exact x.cg (by rw [ec, em, nI_toInt (by omega), nI_toInt (by omega)]; omega) (ef 1 (by omega) (by omega)) (ef 2 (by omega) (by omega)) (fun k k1 k2 => f1 k (by omega) (by omega) (by omega))
theorem RLT.addY {C : Prop} {h h1 h2 : HI} {r s : Int32} {m k : Nat} {x1 x2 x3 x4 x5 : Int32} {F : (Nat → Int32) → Prop} (q : RLT h) (T : TT h 6 m 6 60) (em : h 136 1 = nI m) (cC : C → isRow (h 136 0) x1) (a : ADc C h r h1 6 m 6 60 k (rows x1 x2 x3 x4 x5)) (b : ADr C h1 s h2 1 m 60 k F) (up : h1 136 = h 136) (ff : ∀ f', F f' → FF (h1 136) f' 2 m (rows x1 x2 x3 x4 x5)) : RLT h2 := by
  have hm' := T.2.2.2.1
  rw [up] at ff
  refine RLT.add (j := 2) q (by omega) T a b (fun hm f' hf k k1 k2 k3 => by rw [up]; exact (ff f' hf).fr (by omega) (by decide) hm k k1 k2 k3) (fun _ hm f' hf c old new => (ff f' hf).ce (by omega) (by decide) (by decide) hm c old new) (fun hC hm f' hf x ec ef => ?_)
  have hm : m < 60 := hm
  have f1 : ∀ k, 9 ≤ k → k < 887 → (k < 152 + m * 6 ∨ 152 + m * 6 + 6 ≤ k) → f' k = h 136 k := (ff f' hf).1
  have f2 : ∀ c, c < 6 → f' (152 + (m * 6 + c)) = rows x1 x2 x3 x4 x5 c := (ff f' hf).2
  have ec : f' 1 = nI (m + 1) := ec
  have ef : ∀ i, i < 9 → i ≠ 1 → f' i = h 136 i := ef
  refine ⟨fun r n g1 g2 g3 => ?_, fun r n k c g1 g2 g3 g4 g5 g6 => ?_⟩
  · have : n = m + 1 := (nI_eq (by omega) (by omega)).mp (g1.symm.trans ec)
    subst this
    rw [ef 0 (by omega) (by omega)]
    by_cases e : r = m
    · subst e
      rw [f2 0 (by omega), f2 5 (by omega)]
      exact ⟨cC hC, .inl rfl⟩
    · rw [f1 (152 + (r * 6 + 0)) (by omega) (by omega) (by omega), f1 (152 + (r * 6 + 5)) (by omega) (by omega) (by omega)]
      exact x.1 r m em (by omega) (by omega)
  · rw [ef 2 (by omega) (by omega)] at g1
    rw [f1 (512 + (r * 10 + 2)) (by omega) (by omega) (by omega)] at g4
    rw [ef 0 (by omega) (by omega), f1 (512 + (r * 10 + (3 + k))) (by omega) (by omega) (by omega)]
    exact x.2 r n k c g1 g2 g3 g4 g5 g6
theorem RLT.addC {h h1 h2 : HI} {r s : Int32} {m k : Nat} {x1 x2 : Int32} (q : RLT h) (T : TT h 8 m 15 16) (em : h 136 2 = nI m) (a : ADc (K_chain x1 x2) h r h1 8 m 15 16 k (rowc x1 x2 0 0)) (b : ADr (K_chain x1 x2) h1 s h2 2 m 16 k (fun f' => (∀ i, i ≠ 2 → (i < 512 + 10 * m ∨ 512 + 10 * m + 10 ≤ i) → f' i = h1 136 i) ∧ ∀ c, c < 10 → f' (512 + 10 * m + c) = rowc x1 x2 0 0 c)) (up : h1 136 = h 136) : RLT h2 := by
  have hm' := T.2.2.2.1
  refine RLT.add (j := 3) q (by omega) T a b (fun hm f' hf k k1 k2 k3 => ?_) (fun _ hm f' hf c old new => ?_) (fun hC hm f' hf x ec ef => ?_)
  · have hm : m < 16 := hm
    have k3 : k < 512 ∨ 672 ≤ k := k3
    exact hf.1 k (by omega) (by omega)
  · have hm : m < 16 := hm
    rw [up] at hf
    obtain ⟨f1, f2⟩ := hf
    rw [CE.e3] at c ⊢
    have old : ∀ i, i < m * 15 → h2 9 i = h 9 i := old
    have new : ∀ c, c < 15 → h2 9 (m * 15 + c) = rowc x1 x2 0 0 c := new
    have f2 : ∀ c, c < 10 → f' (512 + (m * 10 + c)) = rowc x1 x2 0 0 c := fun c hc => by rw [← f2 c hc]; congr 1; omega
    intro r' hr'
    show h2 9 (r' * 15) = f' (512 + r' * 10) ∧ h2 9 (r' * 15 + 1) = f' (512 + (r' * 10 + 1)) ∧ h2 9 (r' * 15 + 2) = f' (512 + (r' * 10 + 2)) ∧ ∃ n o : Nat, n ≤ 6 ∧ f' (512 + (r' * 10 + 2)) = nI n ∧ o < 2 ^ n ∧ f' (512 + (r' * 10 + 9)) = nI o ∧ ∀ k, k < n → h2 9 (r' * 15 + (3 + 2 * k)) = f' (512 + (r' * 10 + (3 + k))) ∧ h2 9 (r' * 15 + (4 + 2 * k)) = (if o.testBit k then 1 else 0)
    by_cases e : r' = m
    · subst e
      refine ⟨(new 0 (by omega)).trans (f2 0 (by omega)).symm, by rw [new 1 (by omega), f2 1 (by omega)], by rw [new 2 (by omega), f2 2 (by omega)], 0, 0, by omega, by rw [f2 2 (by omega)]; exact nI_0.symm, by decide, by rw [f2 9 (by omega)]; exact nI_0.symm, fun k hk => by omega⟩
    · obtain ⟨w1, w2, w3, nw, ow, w4, w5, w6, w7, w8⟩ := c r' (by omega)
      have fa : ∀ k, k < 15 → h2 9 (r' * 15 + k) = h 9 (r' * 15 + k) := fun k hk => old _ (by omega)
      have fc : ∀ k, k < 10 → f' (512 + (r' * 10 + k)) = h 136 (512 + (r' * 10 + k)) := fun k hk => f1 _ (by omega) (by omega)
      refine ⟨(fa 0 (by omega)).trans (w1.trans (fc 0 (by omega)).symm), by rw [fa 1 (by omega), fc 1 (by omega)]; exact w2, by rw [fa 2 (by omega), fc 2 (by omega)]; exact w3, nw, ow, w4, by rw [fc 2 (by omega)]; exact w5, w6, by rw [fc 9 (by omega)]; exact w7, fun k hk => ⟨by rw [fa (3 + 2 * k) (by omega), fc (3 + k) (by omega)]; exact (w8 k hk).1, by rw [fa (4 + 2 * k) (by omega)]; exact (w8 k hk).2⟩⟩
  · have hm : m < 16 := hm
    rw [up] at hf
    obtain ⟨f1, f2⟩ := hf
    have f2 : ∀ c, c < 10 → f' (512 + (m * 10 + c)) = rowc x1 x2 0 0 c := fun c hc => by rw [← f2 c hc]; congr 1; omega
    have ec : f' 2 = nI (m + 1) := ec
    refine ⟨fun r n g1 g2 g3 => ?_, fun r n k c g1 g2 g3 g4 g5 g6 => ?_⟩
    · rw [f1 1 (by omega) (by omega)] at g1
      rw [f1 0 (by omega) (by omega), f1 (152 + (r * 6 + 0)) (by omega) (by omega), f1 (152 + (r * 6 + 5)) (by omega) (by omega)]
      exact x.1 r n g1 g2 g3
    · have : n = m + 1 := (nI_eq (by omega) (by omega)).mp (g1.symm.trans ec)
      subst this
      by_cases e : r = m
      · subst e
        rw [f2 2 (by omega)] at g4
        have : c = 0 := (nI_eq (b := 0) (by omega) (by omega)).mp g4.symm
        omega
      · rw [f1 (512 + (r * 10 + 2)) (by omega) (by omega)] at g4
        rw [f1 0 (by omega) (by omega), f1 (512 + (r * 10 + (3 + k))) (by omega) (by omega)]
        exact x.2 r m k c em (by omega) (by omega) g4 g5 g6
theorem st_erase {A : Prop} {h h1 h2 : HI} (q : RLT h) (a : PTc A h h1 24 0 1 60) (b : ST h1 h2 (upd (h1 136) 8 0)) : RLT h2 := by
  obtain ⟨-, J, T⟩ := a
  obtain ⟨F, Ff, R⟩ := b
  have e6 : h1 136 = h 136 := J 136 (by unfold SM; omega)
  rw [e6] at Ff
  have fr : ∀ k, k ≠ 8 → h2 136 k = h 136 k := fun k hk => by rw [Ff, pk_un hk]
  refine q.put (j := 11) (by omega) J F (fun k k1 k2 k3 => fr k (by omega)) (fun m hm ht => ?_) (q.1.2.cg (by rw [fr 0 (by omega)]; exact Int.le_refl _) (fr 1 (by omega)) (fr 2 (by omega)) (fun k k1 k2 => fr k (by omega)))
  have T2 : TT h2 24 0 1 60 := T.cg (F 24 (by decide))
  have : m = 0 := T2.nu ht hm
  subst this
  refine (CE.es (by decide) (by decide)).mpr (fun k hk => ?_)
  rw [Nat.zero_mul] at hk
  omega
theorem st_scrap {h h1 h2 : HI} (q : RLT h) (J : JJ (fun q => q = 12 ∨ q = 14) h h1) (T : TT h1 12 0 1 6) (U : TT h1 14 0 3 9) (b : ST h1 h2 (upd (upd (h1 136) 4 0) 5 0)) : RLT h2 := by
  obtain ⟨F, Ff, R⟩ := b
  have e6 : h1 136 = h 136 := J 136 (by decide)
  rw [e6] at Ff
  have fr : ∀ k, k ≠ 4 → k ≠ 5 → h2 136 k = h 136 k := fun k h4 h5 => by rw [Ff, pk_un h5, pk_un h4]
  have e : ∀ o, o ≠ 12 → o ≠ 14 → o ≠ 136 → h2 o = h o := fun o a b c => (F o c).trans (J o (by omega))
  refine q.sh ⟨fun j m hj hm ht => ?_, q.1.2.cg (by rw [fr 0 (by omega) (by omega)]; exact Int.le_refl _) (fr 1 (by omega) (by omega)) (fr 2 (by omega) (by omega)) (fun k k1 k2 => fr k (by omega) (by omega))⟩ (fun o a b => e o (by omega) (by omega) (by omega)) (e 137 (by decide) (by decide) (by decide)) (e 138 (by decide) (by decide) (by decide))
  by_cases j5 : j = 5
  · subst j5
    have : m = 0 := (T.cg (F 12 (by decide))).nu ht hm
    subst this
    refine (CE.es (by decide) (by decide)).mpr (fun k hk => ?_)
    rw [Nat.zero_mul] at hk; omega
  by_cases j6 : j = 6
  · subst j6
    have : m = 0 := (U.cg (F 14 (by decide))).nu ht hm
    subst this
    refine (CE.es (by decide) (by decide)).mpr (fun k hk => ?_)
    rw [Nat.zero_mul] at hk; omega
  rw [e (1 + (1 + 2 * j)) (by omega) (by omega) (by omega)] at ht
  have h9 := bs_9 hj
  exact (q.1.1 j m hj hm ht).tr hj hm (fun i _ => by rw [e (1 + (1 + 2 * j) + 1) (by omega) (by omega) (by omega)]) (fun k k1 k2 => fr k (by omega) (by omega))
/-- a shop that was copied holds what the other did -/
theorem RL1.cp {h h' : HI} {o o1 : Nat} {f f' : Nat → Int32} (r : RL1 h o1 f) (I : CPK h h' o o1 12) (ef : ∀ k, k < 887 → f' k = f k) : RL1 h' o f' := by
  refine ⟨fun j m hj hm ht => ?_, r.2.cg (by rw [ef 0 (by omega)]; exact Int.le_refl _) (ef 1 (by omega)) (ef 2 (by omega)) (fun k _ hk => ef k (by omega))⟩
  obtain ⟨m1, T1, T2, cc⟩ := I.2 j hj
  have : m = m1 := T2.nu ht hm
  subst this
  have := hi_le hj
  exact (r.1 j m hj hm T1.2.2.1).tr hj hm cc (fun k _ hk => ef k (by omega))
theorem rl_image {h h1 h2 : HI} {r s x1 : Int32} (q : RLT h) (a : (¬ bd 0 1 x1 ∧ r = -2 ∧ h1 = h) ∨ ∃ i, i < 2 ∧ x1 = nI i ∧ r = 1 ∧ ∃ h0, CPK h h0 (26 + 25 * i) 1 12 ∧ h1 = hu h0 76 i 1) (b : (¬ bd 0 1 x1 ∧ s = -2 ∧ h2 = h1) ∨ ∃ i, i < 2 ∧ x1 = nI i ∧ s = 1 ∧ (∀ o, o ≠ 137 → o ≠ 138 → h2 o = h1 o) ∧ h2 138 = upd (h1 138) i 1 ∧ (∀ k, k < 887 → h2 137 (887 * i + k) = h1 136 k) ∧ ∀ k, k < 887 * i ∨ 887 * i + 887 ≤ k → h2 137 k = h1 137 k) : RLT h2 := by
  rcases a with ⟨a1, a2, rfl⟩ | ⟨i, hi, rfl, a2, h0, I0, e1⟩
  · rcases b with ⟨b1, b2, rfl⟩ | ⟨i, hi, rfl, b2, -⟩
    · exact q
    · exact absurd (bd_of (by omega) (by omega) (by omega)) a1
  · rcases b with ⟨b1, b2, rfl⟩ | ⟨i', hi', e', b2, F, F8, F7, F7'⟩
    · exact absurd (bd_of (by omega) (by omega) (by omega)) b1
    · have : i = i' := (nI_eq (by omega) (by omega)).mp e'
      subst this
      have g1 : ∀ q, q ≠ 76 → h1 q = h0 q := fun q n => by rw [e1, hu_ne n]
      have g0 : ∀ q, q ≠ 76 → (q < 26 + 25 * i + 1 ∨ 26 + 25 * i + 24 < q) → h1 q = h q := fun q n76 n1 => by
        rw [g1 q n76]; exact I0.1 q (by omega)
      have e6 : h2 136 = h 136 := (F 136 (by decide) (by decide)).trans (g0 136 (by decide) (by omega))
      have e7 : h1 137 = h 137 := g0 137 (by decide) (by omega)
      have e8 : h1 138 = h 138 := g0 138 (by decide) (by omega)
      rw [e8] at F8
      rw [e7] at F7'
      rw [g0 136 (by decide) (by omega)] at F7
      have tb : ∀ q, q ≤ 75 → h2 q = h0 q := fun q hq => (F q (by omega) (by omega)).trans (g1 q (by omega))
      refine ⟨q.1.cg (fun o a b => (tb o (by omega)).trans (I0.1 o (by omega))) (fun k _ => by rw [e6]), fun i' hi' hn => ?_⟩
      by_cases qi : i' = i
      · subst qi
        have c1 : RL1 h0 (26 + 25 * i') (IMG h2 i') := q.1.cp I0 (fun k hk => F7 k hk)
        exact c1.cg (fun o a b => tb o (by omega)) (fun _ _ => rfl)
      · rw [F8, pk_un qi] at hn
        exact (q.2 i' hi' hn).cg (fun o a b => (tb o (by omega)).trans (I0.1 o (by omega))) (fun k hk => F7' _ (by omega))
theorem rl_from {h h1 h2 : HI} {r s x1 : Int32} (v : INV h) (q : RLT h) (a : (¬ bd 0 1 x1 ∧ r = -2 ∧ h1 = h) ∨ ∃ i, i < 2 ∧ x1 = nI i ∧ ((h 76 i = 0 ∧ r = -3 ∧ h1 = h) ∨ (¬ h 76 i = 0 ∧ r = 1 ∧ ∃ h0, CPK h h0 1 (26 + 25 * i) 12 ∧ JJ SLaw h0 h1))) (b : (¬ bd 0 1 x1 ∧ s = -2 ∧ h2 = h1) ∨ ∃ i, i < 2 ∧ x1 = nI i ∧ ((h1 138 i = 0 ∧ s = -3 ∧ h2 = h1) ∨ (¬ h1 138 i = 0 ∧ s = 1 ∧ (∀ o, o ≠ 136 → h2 o = h1 o) ∧ (∀ k, k < 887 → h2 136 k = h1 137 (887 * i + k)) ∧ ∀ k, 887 ≤ k → h2 136 k = h1 136 k))) : RLT h2 := by
  obtain ⟨-, -, -, -, kf, -⟩ := v
  have kk : ∀ i, i < 2 → h 76 i = h 138 i := fun i hi => by
    have : i = 0 ∨ i = 1 := by omega
    rcases this with rfl | rfl
    · exact kf.1
    · exact kf.2
  rcases a with ⟨a1, a2, rfl⟩ | ⟨i, hi, rfl, a⟩
  · rcases b with ⟨b1, b2, rfl⟩ | ⟨i, hi, rfl, b2⟩
    · exact q
    · exact absurd (bd_of (by omega) (by omega) (by omega)) a1
  · rcases b with ⟨b1, b2, rfl⟩ | ⟨i', hi', e', b⟩
    · exact absurd (bd_of (by omega) (by omega) (by omega)) b1
    · have : i = i' := (nI_eq (by omega) (by omega)).mp e'
      subst this
      rcases a with ⟨a0, a2, rfl⟩ | ⟨a0, a2, h0, I0, J0⟩
      · rcases b with ⟨b0, b2, rfl⟩ | ⟨b0, b2⟩
        · exact q
        · exact absurd ((kk i hi).symm.trans a0) b0
      · have up : ∀ q, 76 ≤ q → ¬ SLaw q → h1 q = h q := fun q hq n => (J0 q n).trans (I0.1 q (by omega))
        rcases b with ⟨b0, b2, rfl⟩ | ⟨b0, b2, F, F6, F6'⟩
        · rw [up 138 (by omega) (by unfold SLaw; omega), ← kk i hi] at b0
          exact absurd b0 a0
        · have tb : ∀ q, q ≤ 75 → h2 q = h0 q := fun q hq => (F q (by omega)).trans (J0 q (by unfold SLaw; omega))
          have e7 : h2 137 = h 137 := (F 137 (by decide)).trans (up 137 (by omega) (by unfold SLaw; omega))
          have e8 : h2 138 = h 138 := (F 138 (by decide)).trans (up 138 (by omega) (by unfold SLaw; omega))
          rw [up 137 (by omega) (by unfold SLaw; omega)] at F6
          have c1 : RL1 h0 1 (h2 136) := (q.2 i hi (by rw [← kk i hi]; exact a0)).cp I0 (fun k hk => F6 k hk)
          refine ⟨c1.cg (fun o a b => tb o (by omega)) (fun _ _ => rfl), fun i' hi' hn => ?_⟩
          rw [e8] at hn
          exact (q.2 i' hi' hn).cg (fun o a b => (tb o (by omega)).trans (I0.1 o (by omega))) (fun k _ => by unfold IMG; rw [e7])
theorem RL_start {h1 h2 : HI} (a : (∀ s, isS s → ∀ j, j < 12 → TT h1 (s + (1 + 2 * j)) (m0 j) (wJ j) (MJ j)) ∧ h1 76 = (fun _ => 0) ∧ (∀ i, i < 12 → h1 5 i = fam i) ∧ (∀ i, i < 4 → h1 23 i = 0) ∧ (∀ i, i < 2 → h1 17 i = 0) ∧ h1 77 9 = 1) (b : (∀ o, o < 135 → h2 o = h1 o) ∧ RG (h2 136) ∧ (∀ i, i < 9 → h2 136 i = 0) ∧ h2 138 = (fun _ => 0) ∧ h2 147 0 = 0 ∧ h2 147 1 = 1 ∧ (∀ i, i < 12 → h2 136 (140 + i) = fam i) ∧ ∀ i, i < 140 ∨ 152 ≤ i → h2 136 i = 0) : RLT h2 := by
  obtain ⟨T, z, fa, nd, od, -⟩ := a
  obtain ⟨F, R, Z, K, w0, w1, fr, zr⟩ := b
  refine ⟨⟨fun j m hj hm ht => ?_, ⟨fun r n g1 g2 g3 => ?_, fun r n k c g1 g2 g3 g4 g5 g6 => ?_⟩⟩, fun i hi hn => ?_⟩
  · have T2 : TT h2 (1 + (1 + 2 * j)) (m0 j) (wJ j) (MJ j) := (T 1 isS1 j hj).cg (F _ (by omega))
    have : m = m0 j := T2.nu ht hm
    subst this
    by_cases j1 : j = 1
    · subst j1
      refine (CE.es (by decide) (by decide)).mpr (fun k hk => ?_)
      have hk : k < 12 := hk
      show h2 5 k = h2 136 (140 + k)
      rw [F 5 (by omega), fa k hk, fr k hk]
    by_cases j10 : j = 10
    · subst j10
      refine (CE.es (by decide) (by decide)).mpr (fun k hk => ?_)
      have hk : k < 4 := hk
      show h2 23 k = h2 136 (823 + k)
      rw [F 23 (by omega), nd k hk, zr _ (by omega)]
    by_cases j7 : j = 7
    · subst j7
      refine (CE.es (by decide) (by decide)).mpr (fun k hk => ?_)
      have hk : k < 2 := hk
      show h2 17 k = h2 136 (9 + k)
      rw [F 17 (by omega), od k hk, zr _ (by omega)]
    have e0 : m0 j = 0 := by
      unfold m0
      rw [if_neg (fun q => q.elim j1 j10), if_neg j7]
    rw [e0]
    by_cases j0 : j = 0
    · subst j0
      refine CE.e0.mpr ⟨fun p hp => absurd hp (Nat.not_lt_zero p), fun _ => 0, fun _ => 0, fun p hp => absurd hp (Nat.not_lt_zero p), fun p _ => ⟨rfl, rfl⟩, fun a b => ?_⟩
      rw [Nat.zero_testBit, Nat.zero_testBit]
    by_cases j3 : j = 3
    · subst j3
      exact CE.e3.mpr (fun r hr => absurd hr (Nat.not_lt_zero r))
    · refine (CE.es j0 j3).mpr (fun k hk => ?_)
      rw [Nat.zero_mul] at hk; omega
  · rw [Z 1 (by omega)] at g1
    have : n = 0 := (nI_eq (b := 0) (by omega) (by omega)).mp g1.symm
    omega
  · rw [Z 2 (by omega)] at g1
    have : n = 0 := (nI_eq (b := 0) (by omega) (by omega)).mp g1.symm
    omega
  · rw [K] at hn
    exact absurd rfl hn
theorem st_ask {h h1 h2 : HI} (q : RLT h) (a : JJ SC h h1) (b : KJ SRef h1 h2) : RLT h2 := by
  have e : ∀ o, ¬ SC o → (∀ k, ¬ SRef o k) → h2 o = h o := fun o n m => (funext fun k => b o k (m k)).trans (a o n)
  exact q.ask (fun o ho => e o (by unfold SC; omega) (fun k => by unfold SRef; omega)) (e 136 (by unfold SC; omega) (fun k => by unfold SRef; omega)) (e 137 (by unfold SC; omega) (fun k => by unfold SRef; omega)) (e 138 (by unfold SC; omega) (fun k => by unfold SRef; omega))
def INV2 (h : HI) : Prop := INV h ∧ RLT h
theorem link_n {h : HI} {m : Nat} (q : RLT h) (T : TT h 8 m 15 16) : ∀ c, c < m → ∃ n, n ≤ 6 ∧ h 9 (c * 15 + 2) = nI n := fun c hc => by
  obtain ⟨-, -, g3, n, -, n6, g5, -⟩ := CE.e3.mp (q.1.1 3 m (by omega) T.2.2.2.1 T.2.2.1) c hc
  exact ⟨n, n6, g3.trans g5⟩
theorem count_eq {h : HI} (v : INV h) (q : RLT h) {m : Nat} (T : TT h 6 m 6 60) (k1 : h 136 1 = nI m) {k : Nat} (hk : k ≤ 9) : cvC h m k = cvR (h 136) m k := by
  have cn := v.2.2.2.1
  have hm := T.2.2.2.1
  have c0 : ∀ k, k < m * 6 → h 7 k = h 136 (152 + k) := (CE.es (j := 2) (by decide) (by decide)).mp (q.1.1 2 m (by omega) hm T.2.2.1)
  have d : ∀ j c, j < 12 → ¬ (j = 1 ∨ j = 10) → ¬ j = 7 → cpJ j = c → h (1 + (1 + 2 * j)) 3 = h 136 c := fun j c hj a b e => by
    obtain ⟨m', T', k'⟩ := cn j hj
    unfold cOK at k'
    rw [if_neg a, if_neg b, e] at k'
    exact T'.2.2.1.trans k'.symm
  have : k = 0 ∨ k = 1 ∨ k = 2 ∨ k = 3 ∨ k = 4 ∨ k = 5 ∨ k = 6 ∨ k = 7 ∨ k = 8 ∨ k = 9 := by omega
  unfold cvC cvR
  rcases this with rfl | rfl | rfl | rfl | rfl | rfl | rfl | rfl | rfl | rfl
  · rw [if_neg (by decide), if_pos (by decide)]; exact d 0 0 (by omega) (by decide) (by decide) rfl
  · rw [if_neg (by decide), if_pos (by decide)]; exact d 2 1 (by omega) (by decide) (by decide) rfl
  · rw [if_pos rfl, if_neg (by decide), if_pos rfl]
    exact dsm_cg (fun i hi => c0 _ (by omega))
  · rw [if_neg (by decide), if_neg (by decide), if_neg (by decide)]; exact d 3 2 (by omega) (by decide) (by decide) rfl
  · rw [if_neg (by decide), if_neg (by decide), if_neg (by decide)]; exact d 4 3 (by omega) (by decide) (by decide) rfl
  · rw [if_neg (by decide), if_neg (by decide), if_neg (by decide)]; exact d 5 4 (by omega) (by decide) (by decide) rfl
  · rw [if_neg (by decide), if_neg (by decide), if_neg (by decide)]; exact d 6 5 (by omega) (by decide) (by decide) rfl
  · rw [if_neg (by decide), if_neg (by decide), if_neg (by decide)]; exact d 8 6 (by omega) (by decide) (by decide) rfl
  · rw [if_neg (by decide), if_neg (by decide), if_neg (by decide)]; exact d 9 7 (by omega) (by decide) (by decide) rfl
  · rw [if_neg (by decide), if_neg (by decide), if_neg (by decide)]; exact d 11 8 (by omega) (by decide) (by decide) rfl
theorem count_st {h : HI} {r s x1 : Int32} (v : INV h) (q : RLT h) {m : Nat} (T : TT h 6 m 6 60) (k1 : h 136 1 = nI m) (a : (¬ bd 0 9 x1 ∧ r = -2) ∨ ∃ k : Nat, k ≤ 9 ∧ x1 = nI k ∧ r = cvC h m k) (b : (¬ bd 0 9 x1 ∧ s = -2) ∨ ∃ k : Nat, k ≤ 9 ∧ x1 = nI k ∧ s = cvR (h 136) m k) : r = s := by
  rcases a with ⟨a1, rfl⟩ | ⟨k, hk, rfl, rfl⟩
  · rcases b with ⟨b1, rfl⟩ | ⟨k, hk, rfl, -⟩
    · rfl
    · exact absurd (bd_of (by omega) (by omega) (by omega)) a1
  · rcases b with ⟨b1, -⟩ | ⟨k', hk', e, rfl⟩
    · exact absurd (bd_of (by omega) (by omega) (by omega)) b1
    · have : k = k' := (nI_eq (by omega) (by omega)).mp e
      subst this
      exact count_eq v q T k1 hk
