/-! WAY: spread, look, find of the class -/
def WT (h : HI) (f : Nat → Int32) (W : Nat) : Prop := TT h 10 W 4 8 ∧ ∀ w k, w < W → k < 4 → h 11 (w * 4 + k) = f (672 + 4 * w + k)
theorem WT.jj {S : Nat → Prop} {h h' : HI} {f : Nat → Int32} {W : Nat} (T : WT h f W) (J : JJ S h h') (n : ∀ q, q ≤ 80 → ¬ S q) : WT h' f W := by
  refine ⟨T.1.cg (J 10 (n 10 (by omega))), fun w k hw hk => ?_⟩
  rw [J 11 (n 11 (by omega))]; exact T.2 w k hw hk
theorem CX.wt {h : HI} {f : Nat → Int32} (c : CX h f) : ∃ W, WT h f W ∧ W ≤ 8 ∧ f 3 = nI W := by
  obtain ⟨W, T, k⟩ : ∃ m, TT h 10 m 4 8 ∧ f 3 = nI m := c.1 4 (by omega)
  refine ⟨W, ⟨T, fun w k hw hk => ?_⟩, T.2.2.2.1, k⟩
  have := (CE.es (by decide) (by decide)).mp (c.ci (j := 4) (by omega) T) (w * 4 + k) (by show w * 4 + k < W * 4; omega)
  rw [show 672 + 4 * w + k = 672 + (w * 4 + k) by omega]; exact this
theorem c_wk {h : HI} {g : HL} {f : Nat → Int32} {W w k : Nat} (T : WT h f W) (hw : w < W) (hk : k < 4) {body : Int32 → HI → HL → Prop} (b : body (f (672 + 4 * w + k)) h g) : ∃ P : Int32 → HI → HL → Prop, w_X8_at 10 (nI w) (nI k) h g P ∧ ∀ (r : Int32) (h : HI) (g : HL), P r h g → body r h g := by
  refine c_i (p_atT T.1) ?_
  rintro _ _ _ ⟨rfl, rfl, rfl⟩
  rw [tat_nI T.1 hw hk, T.2 w k hw hk]; exact b
theorem VR.wk {f : Nat → Int32} (v : VR f) {w : Nat} (hw : w < 8) : bd (-500) 500 (f (672 + 4 * w)) ∧ bd 0 1000 (f (672 + 4 * w + 1)) ∧ bd 0 3000 (f (672 + 4 * w + 2)) ∧ bd 0 3000 (f (672 + 4 * w + 3)) := by
  have e : ∀ c, c < 4 → bd (vW c).1 (vW c).2 (f (672 + 4 * w + c)) := fun c hc => by
    have := v.1 (672 + 4 * w + c)
    unfold okV at this
    rw [vg_W hw hc] at this; exact this
  exact ⟨e 0 (by omega), e 1 (by omega), e 2 (by omega), e 3 (by omega)⟩
theorem VR.pc {f : Nat → Int32} (v : VR f) {w : Nat} (hw : w < 8) : f (672 + 4 * w + 1) = nI (pcW f w) ∧ pcW f w ≤ 1000 := by
  obtain ⟨j, j1, j2, e⟩ := bd_nI (v.wk hw).2.1
  unfold pcW
  rw [e, nI_clamp j2]; exact ⟨rfl, by omega⟩
theorem RWy.rng {f : Nat → Int32} {W : Nat} : ∀ {l : List Nat} {s t : Nat}, RWy f W l s t → 1 ≤ s → s ≤ 3000 → 1 ≤ t ∧ t ≤ 3000
  | [], s, t, x, a, b => by
    have x : s = t := x
    subst x; exact ⟨a, b⟩
  | _ :: _, s, t, ⟨u, v, x⟩, a, b => x.rng v.2.2.2.1 v.2.2.2.2.1
theorem w_diff {a : Nat} (ha : a < 2) : (1 : Int32) - nI a = nI (1 - a) := nI_subN (a := 1) (by omega)
theorem q_X9_spread {h : HI} {g : HL} {f : Nat → Int32} {W s n a : Nat} (v : VR f) (T : WT h f W) (hW : W ≤ 8) (hs : 1 ≤ s ∧ s ≤ 3000) (hn : n ≤ 4) (ha : a < 2) (A : WA h a (PK f W s n)) (B : WA h (1 - a) (fun _ _ => False)) : w_X9_spread (nI a) h g (fun h' _ => JJ (SA (1 - a)) h h' ∧ (∀ i, i ≠ 1 - a → h' 96 i = h 96 i) ∧ WA h' (1 - a) (PK f W s (n + 1))) := by
  have hp : ∀ w, w < W → pcW f w ≤ 1000 := fun w hw => (v.pc (by omega)).2
  unfold w_X9_spread
  have va : vp_in (nI a) 2 := vp_in_nI ha (by omega)
  refine c_wb (fun _ => ⟨fun _ => ?_, fun c => absI c⟩) (fun n => absurd (w01 ha) n)
  obtain ⟨m, r, a1, a2, a3, a4, a5⟩ := A
  have best : ∀ i, i < m → ∃ k, k < 2 ^ 31 ∧ h (91 + a) (r i) = nI k ∧ PK f W s n (r i) k ∧ ∀ j, PK f W s n (r i) j → k ≤ j := fun i hi => by
    obtain ⟨r1, r2, r3⟩ := a3 i hi
    obtain ⟨b1, b2⟩ := a5 (r i) r1 r2
    have b3 := b2.mp ⟨i, hi, rfl⟩
    rcases b1 with ⟨e, -⟩ | ⟨k, k1, e, k2, k3⟩
    · exact absurd e b3
    · exact ⟨k, k1, e, k2, k3⟩
  have fin : ∀ (h1 : HI) (g1 : HL), JJ (SA (1 - a)) h h1 → (∀ i, i ≠ 1 - a → h1 96 i = h 96 i) → WA h1 (1 - a) (fun t' k' => ∃ j k w, j < m ∧ k < 2 ^ 31 ∧ h (91 + a) (r j) = nI k ∧ VS f W w (r j) t' ∧ k' = exK f k w) → (fun h' _ => JJ (SA (1 - a)) h h' ∧ (∀ i, i ≠ 1 - a → h' 96 i = h 96 i) ∧ WA h' (1 - a) (PK f W s (n + 1))) h1 g1 := by
    intro h1 g1 J1 e6 A1
    refine ⟨J1, e6, A1.dom (fun t' _ _ k' => ?_) (fun t' _ _ k' => ?_)⟩
    · rintro ⟨j, k, w, hj, hk, e, x, rfl⟩
      obtain ⟨k0, k1, e0, k2, k3⟩ := best j hj
      have : k = k0 := (nI_eq hk k1).mp (e.symm.trans e0)
      subst this
      exact (PK.next hW hn).mpr ⟨r j, k, w, k2, x, rfl⟩
    · intro x
      obtain ⟨t, k, w, k2, x, rfl⟩ := (PK.next hW hn).mp x
      obtain ⟨l, el, rl, ek⟩ := k2
      obtain ⟨t1, t2⟩ := rl.rng hs.1 hs.2
      obtain ⟨j, hj, ej⟩ := (a5 t t1 t2).2.mpr ((a5 t t1 t2).1.nm.mpr ⟨k, l, el, rl, ek⟩)
      subst ej
      obtain ⟨k0, k1, e0, k3, k4⟩ := best j hj
      have hb := k3.bd hW hp (by omega)
      have h8 : 8 ^ n ≤ 4096 := (by decide : ∀ n, n < 5 → 8 ^ n ≤ 4096) n (by omega)
      have hw8 : w < 8 := Nat.lt_of_lt_of_le x.1 hW
      exact ⟨_, ⟨j, k0, w, hj, k1, e0, x, rfl⟩, exK_mono hw8 (by omega) (k4 k ⟨l, el, rl, ek⟩)⟩
  refine lpE_intro (fun ⟨a_q, b_q, h_q, _⟩ => ∃ i : Nat, i ≤ m ∧ nI a = a_q ∧ nI i = b_q ∧ JJ (SA (1 - a)) h h_q ∧ (∀ i, i ≠ 1 - a → h_q 96 i = h 96 i) ∧ WA h_q (1 - a) (fun t' k' => ∃ j k w, j < i ∧ k < 2 ^ 31 ∧ h (91 + a) (r j) = nI k ∧ VS f W w (r j) t' ∧ k' = exK f k w)) (fun ⟨_, b_q, _, _⟩ => dif (nI m) b_q) ?_ _ ⟨0, by omega, rfl, nI_0, JJ.rf, fun _ _ => rfl, B.iff (fun t _ _ k => ⟨fun x => x.elim, fun ⟨j, _, _, hj, _⟩ => absurd hj (Nat.not_lt_zero j)⟩)⟩
  rintro ⟨y1, y2, h1, g1⟩ K ⟨i, hi, rfl, rfl, J1, e6, A1⟩ hK
  have f1 : h1 (91 + a) = h (91 + a) := J1 _ (by unfold SA; omega)
  have f4 : h1 (94 + a) = h (94 + a) := J1 _ (by unfold SA; omega)
  have f6 : h1 96 a = nI m := (e6 a (by omega)).trans a1
  unfold F_X9_spread_12; dsimp only; unfold b_X9_spread_12
  rw [nI_clamp (n := a) (by omega), f6, f4]
  have stop : i = m → (fun h' _ => JJ (SA (1 - a)) h h' ∧ (∀ i, i ≠ 1 - a → h' 96 i = h 96 i) ∧ WA h' (1 - a) (PK f W s (n + 1))) h1 g1 := fun e => by
    subst e; exact fin h1 g1 J1 e6 A1
  refine and_have va (fun _ => ⟨fun c => ?_, fun c => ⟨fun d => ?_, fun d => ?_⟩⟩)
  · rw [nI_leI (by omega) (by omega)] at c
    exact stop (by omega)
  · rw [show (3000 : Int32) = nI 3000 from rfl, nI_leI (by omega) (by omega)] at d
    exact stop (by omega)
  have hd := dif_lt c
  rw [nI_leI (by omega) (by omega)] at c
  rw [nI_clamp (n := i) (by omega)]
  refine and_have va (fun _ => and_have (vp_in_nI (by omega) (by omega)) (fun _ => ?_))
  rintro _ rfl
  obtain ⟨r1, r2, r3⟩ := a3 i (by omega)
  obtain ⟨k, k1, ek, k2, k3⟩ := best i (by omega)
  have hb := k2.bd hW hp (by omega)
  rw [r3]
  refine c_wb (fun _ => ⟨fun _ => ?_, fun c => absI c⟩) (fun n => absurd ((bd_of (n := r i) (a := 1) (b := 3000) (by omega) (by omega) (by omega)).mo (by decide) (by decide)) n)
  rw [nI_clamp (n := r i) (by omega), f1, ek]
  refine and_have va (fun _ => and_have (vp_in_nI (by omega) (by omega)) (fun _ => ?_))
  rintro _ rfl _ rfl _ rfl
  rw [show nI k - nI k / (32768 : Int32) * (32768 : Int32) = nI (k % 32768) from pk_rem k1 (by decide) (by decide), show nI k / (32768 : Int32) = nI (k / 32768) from pk_div k1 (by decide) (by decide)]
  refine lpE_intro (fun ⟨a_q, b_q, c_q, d_q, e_q, f_q, h_q, _⟩ => ∃ w : Nat, w ≤ W ∧ nI a = a_q ∧ nI i = b_q ∧ nI (r i) = c_q ∧ nI (k / 32768) = d_q ∧ nI (k % 32768) = e_q ∧ nI w = f_q ∧ JJ (SA (1 - a)) h h_q ∧ (∀ i, i ≠ 1 - a → h_q 96 i = h 96 i) ∧ WA h_q (1 - a) (fun t' k' => (∃ j k w, j < i ∧ k < 2 ^ 31 ∧ h (91 + a) (r j) = nI k ∧ VS f W w (r j) t' ∧ k' = exK f k w) ∨ ∃ u, u < w ∧ VS f W u (r i) t' ∧ k' = exK f k u)) (fun ⟨_, _, _, _, _, f_q, _, _⟩ => dif (nI W) f_q) ?_ _ ⟨0, by omega, rfl, rfl, rfl, rfl, rfl, nI_0, J1, e6, A1.iff (fun t _ _ k => ⟨.inl, fun x => x.elim id (fun ⟨u, hu, _⟩ => absurd hu (Nat.not_lt_zero u))⟩)⟩
  rintro ⟨z1, z2, z3, z4, z5, z6, h2, g2⟩ K2 ⟨w, hw, rfl, rfl, rfl, rfl, rfl, rfl, J2, e7, A2⟩ hK2
  have T2 : WT h2 f W := T.jj J2 (fun q hq => by unfold SA; omega)
  unfold F_X9_spread_79; dsimp only; unfold b_X9_spread_79
  refine c_i p_rows ?_
  rintro _ _ _ ⟨rfl, rfl, rfl⟩
  rw [T2.1.2.2.1]
  refine ⟨fun cw => ?_, fun cw => ?_⟩
  · rw [nI_leI (by omega) (by omega)] at cw
    have : w = W := by omega
    subst this
    unfold j_X9_spread_194
    rintro _ rfl
    refine hK _ ⟨i + 1, by omega, rfl, (nI_1 i).symm, J2, e7, A2.iff (fun t' _ _ k' => ⟨fun x => ?_, fun x => ?_⟩)⟩ hd
    · rcases x with ⟨j, k, u, hj, x⟩ | ⟨u, hu, x, e⟩
      · exact ⟨j, k, u, by omega, x⟩
      · exact ⟨i, k, u, by omega, k1, ek, x, e⟩
    · obtain ⟨j, k', u, hj, hk, e, x, ex⟩ := x
      by_cases q : j = i
      · subst q
        have : k' = k := (nI_eq hk k1).mp (e.symm.trans ek)
        subst this
        exact .inr ⟨u, x.1, x, ex⟩
      · exact .inl ⟨j, k', u, by omega, hk, e, x, ex⟩
  · have hdw := dif_lt cw
    rw [nI_leI (by omega) (by omega)] at cw
    have hw8 : w < 8 := by omega
    obtain ⟨v0, v1, v2, v3⟩ := v.wk hw8
    obtain ⟨p1, p2⟩ := v.pc hw8
    have nx : ∀ (h3 : HI) (g3 : HL), JJ (SA (1 - a)) h h3 → (∀ i, i ≠ 1 - a → h3 96 i = h 96 i) → WA h3 (1 - a) (fun t' k' => ((∃ j k w, j < i ∧ k < 2 ^ 31 ∧ h (91 + a) (r j) = nI k ∧ VS f W w (r j) t' ∧ k' = exK f k w) ∨ ∃ u, u < w ∧ VS f W u (r i) t' ∧ k' = exK f k u) ∨ (VS f W w (r i) t' ∧ k' = exK f k w)) → j_X9_spread_188 (fun h' _ => JJ (SA (1 - a)) h h' ∧ (∀ i, i ≠ 1 - a → h' 96 i = h 96 i) ∧ WA h' (1 - a) (PK f W s (n + 1))) (fun x1 x2 h g => K (x1, x2, h, g)) (fun x1 x2 x3 x5 x6 x7 h g => K2 (x1, x2, x3, x5, x6, x7, h, g)) (nI a) (nI i) (nI (r i)) (nI (k / 32768)) (nI (k % 32768)) (nI w) h3 g3 := by
      intro h3 g3 J3 e8 A3
      unfold j_X9_spread_188
      rintro _ rfl
      refine hK2 _ ⟨w + 1, by omega, rfl, rfl, rfl, rfl, rfl, (nI_1 w).symm, J3, e8, A3.iff (fun t' _ _ k' => ⟨fun x => ?_, fun x => ?_⟩)⟩ hdw
      · rcases x with (x | ⟨u, hu, x⟩) | x
        · exact .inl x
        · exact .inr ⟨u, by omega, x⟩
        · exact .inr ⟨w, by omega, x⟩
      · rcases x with x | ⟨u, hu, x⟩
        · exact .inl (.inl x)
        · by_cases q : u = w
          · subst q; exact .inr x
          · exact .inl (.inr ⟨u, by omega, x⟩)
    have no : (∀ t', ¬ VS f W w (r i) t') → WA h2 (1 - a) (fun t' k' => ((∃ j k w, j < i ∧ k < 2 ^ 31 ∧ h (91 + a) (r j) = nI k ∧ VS f W w (r j) t' ∧ k' = exK f k w) ∨ ∃ u, u < w ∧ VS f W u (r i) t' ∧ k' = exK f k u) ∨ (VS f W w (r i) t' ∧ k' = exK f k w)) := fun n => A2.iff (fun t' _ _ k' => ⟨.inl, fun x => x.elim id (fun y => absurd y.1 (n t'))⟩)
    refine c_wk (k := 2) T2 (by omega) (by omega) ?_
    rw [Int32.le_iff_toInt_le, nI_toInt (n := r i) (by omega)]
    refine ⟨fun d2 => ?_, fun d2 => nx _ _ J2 e7 (no (fun t' x => d2 x.2.1))⟩
    refine c_wk (k := 3) T2 (by omega) (by omega) ?_
    rw [Int32.le_iff_toInt_le, nI_toInt (n := r i) (by omega)]
    refine ⟨fun d3 => ?_, fun d3 => nx _ _ J2 e7 (no (fun t' x => d3 x.2.2.1))⟩
    refine c_wk (k := 1) T2 (by omega) (by omega) ?_
    rintro _ rfl
    refine c_wk (k := 0) T2 (by omega) (by omega) ?_
    have h8 : 8 ^ n ≤ 4096 := (by decide : ∀ n, n < 5 → 8 ^ n ≤ 4096) n (by omega)
    have hx : exK f k w < 2 ^ 31 := by unfold exK; omega
    rw [w_diff ha, p1, nI_add, show (32768 : Int32) = nI 32768 from rfl, show (8 : Int32) = nI 8 from rfl, pk_mul, pk_mul, nI_add, nI_add, show (k / 32768 + pcW f w) * 32768 + k % 32768 * 8 + w = exK f k w from rfl, Nat.add_zero]
    refine c_v (q_X9_reach (by omega) hx A2) ?_
    rintro h3 g3 ⟨J3, e8, A3⟩
    refine nx _ _ (J2.tr J3) (fun i hi => (e8 i hi).trans (e7 i hi)) (A3.iff (fun t' t1 t2 k' => ⟨fun x => x.imp id (fun y => ⟨?_, y.2⟩), fun x => x.imp id (fun y => ⟨?_, y.2⟩)⟩))
    · have e := congrArg Int32.toInt y.1
      unfold bd at v0
      rw [nI_toInt (by omega), add_i (by rw [nI_toInt (by omega)]; omega) (by rw [nI_toInt (by omega)]; omega) (by omega) (by omega), nI_toInt (by omega)] at e
      exact ⟨by omega, d2, d3, t1, t2, e⟩
    · have e := y.1.2.2.2.2.2
      unfold bd at v0
      refine Int32.toInt_inj.mp ?_
      rw [nI_toInt (by omega), add_i (by rw [nI_toInt (by omega)]; omega) (by rw [nI_toInt (by omega)]; omega) (by omega) (by omega), nI_toInt (by omega)]
      exact e
