/-! SUM, LIFE, STANDS, the reference -/
theorem c_cO {h : HI} {g : HL} {c k : Nat} (hc : c < 16) (hk : k < 10) {body : Int32 → HI → HL → Prop} (b : body (h 136 (512 + 10 * c + k)) h g) : ∃ P : Int32 → HI → HL → Prop, w_X11_chainOf (nI c) (nI k) h g P ∧ ∀ (r : Int32) (h : HI) (g : HL), P r h g → body r h g := by
  refine ⟨fun r h' g' => body r h' g', ?_, fun _ _ _ x => x⟩
  unfold w_X11_chainOf
  rw [show (512 : Int32) + (10 : Int32) * nI c + nI k = nI (512 + 10 * c + k) from ix3 512 10 c k, nI_clamp (by omega)]
  exact ⟨vp_in_nI (by omega) (by omega), b⟩
theorem i_neg {a : Int32} {x : Int} (ha : a.toInt = x) (h : -2147483648 < x ∧ x < 2147483648) : (-a).toInt = -x := by
  rw [Int32.toInt_neg, ha]; exact bm (by omega) (by omega)
theorem fsel0 {f : Nat → Int32} {p : Nat} : fsel f p 0 = fLo f p := by
  unfold fsel; rw [if_neg (by decide), if_pos rfl]
theorem fsel1 {f : Nat → Int32} {p : Nat} : fsel f p 1 = fHi f p := by
  unfold fsel; rw [if_neg (by decide), if_neg (by decide)]
theorem nI_n2 {j : Nat} (h : j < 2 ^ 31) : ¬ nI j = -2 := fun e => by
  have := nI_toInt h
  rw [e, show (-2 : Int32).toInt = -2 by decide] at this
  omega
theorem q_X11_sums {h : HI} {g : HL} {f : Nat → Int32} (ef : h 136 = f) (r : RG f) (v : VR f) (w : WB f) {m n c y : Nat} {qp : Nat → Nat} (hm : m ≤ 24) (en : f 1 = nI n) (hn : n ≤ 60) (hc : c < 16) (C : CHf f c qp m) (hy : y ≤ 99) (tb : ∀ k, k < nCh f c → -200000 ≤ tLo f c qp y k ∧ tLo f c qp y k ≤ 200000 ∧ -200000 ≤ tHi f c qp y k ∧ tHi f c qp y k ≤ 200000) (sbd : ∀ k, k ≤ nCh f c → -200000 * (k : Int) ≤ sumL f c qp y k ∧ sumL f c qp y k ≤ 200000 * (k : Int) ∧ -200000 * (k : Int) ≤ sumH f c qp y k ∧ sumH f c qp y k ≤ 200000 * (k : Int)) {x3 x4 : Int32} (sb : ∀ k, k < nCh f c → (nI (lkP f c k) = x4 → x3 = nI (qp (lkP f c k))) ∧ (¬ nI (lkP f c k) = x4 → qp (lkP f c k) = lkP f c k)) : w_X11_sums (nI c) (nI y) x3 x4 h g (fun s h' _ => KJ SSm h h' ∧ ((s = 1 ∧ SZD f c qp (nCh f c) ∧ (h' 135 18).toInt = sumL f c qp y (nCh f c) ∧ (h' 135 19).toInt = sumH f c qp y (nCh f c)) ∨ (s = 0 ∧ ¬ SZD f c qp (nCh f c)))) := by
  obtain ⟨C1, C2, C3, C4, C5⟩ := C
  have uF : ∀ o k, SFf o k → SSm o k := fun o k hq => by unfold SFf at hq; unfold SSm; omega
  have uR : ∀ o k, SRd o k → SSm o k := fun o k hq => by unfold SRd at hq; unfold SSm; omega
  have nF : ∀ k, 18 ≤ k → ¬ SFf 135 k := fun k hk => by unfold SFf; omega
  have nR : ∀ k, 18 ≤ k → ¬ SRd 135 k := fun k hk => by unfold SRd; omega
  unfold w_X11_sums
  intro h1 e1 h2 e2
  have J2 : KJ SSm h h2 := (KJ.rf.hu e1 (by unfold SSm; omega)).hu e2 (by unfold SSm; omega)
  have o8 : (h2 135 18).toInt = 0 := by rw [e2, hu_eq, pk_un (by decide), e1, hu_eq, pk_us]; exact i0
  have o9 : (h2 135 19).toInt = 0 := by rw [e2, hu_eq, pk_us]; exact i0
  refine lpE_intro (fun ⟨a_q, b_q, c_q, d_q, e_q, h_q, _⟩ => ∃ i : Nat, i ≤ nCh f c ∧ nI c = a_q ∧ nI y = b_q ∧ x3 = c_q ∧ x4 = d_q ∧ nI i = e_q ∧ KJ SSm h h_q ∧ SZD f c qp i ∧ (h_q 135 18).toInt = sumL f c qp y i ∧ (h_q 135 19).toInt = sumH f c qp y i) (fun ⟨_, _, _, _, e_q, _, _⟩ => dif (nI (nCh f c)) e_q) ?_ _ ⟨0, by omega, rfl, rfl, rfl, rfl, nI_0, J2, fun k hk => absurd hk (Nat.not_lt_zero k), o8, o9⟩
  clear o8 o9 J2 e1 e2
  rintro ⟨y1, y2, y3, y4, y5, h3, g3⟩ K ⟨i, hi, rfl, rfl, rfl, rfl, rfl, J3, sz, o8, o9⟩ hK
  have f3' : h3 136 = f := (J3.f6 (fun k => by unfold SSm; omega)).trans ef
  unfold F_X11_sums_13; dsimp only; unfold b_X11_sums_13
  refine c_cO (k := 2) hc (by omega) ?_
  rw [f3', C2]
  refine ⟨fun q => ?_, fun q => ?_⟩
  · rw [nI_leI (by omega) (by omega)] at q
    have : i = nCh f c := by omega
    subst this
    exact ⟨J3, .inl ⟨rfl, sz, o8, o9⟩⟩
  · have hd := dif_lt q
    rw [nI_leI (by omega) (by omega)] at q
    have hk : i < nCh f c := by omega
    obtain ⟨p1, p2, p3⟩ := C5 i hk
    obtain ⟨b1, b2, b3, b4, b5, b6, b7⟩ := f3_bd v w (p := qp (lkP f c i)) (by omega) en hn
    obtain ⟨tl, th, -⟩ := fLo_t v w (p := qp (lkP f c i)) (by omega) en hn
    have z1 := fLo_1 v w (p := qp (lkP f c i)) (by omega) en hn
    obtain ⟨w1, w2⟩ := w (qp (lkP f c i)) y (by omega) hy
    have t := tb i hk
    obtain ⟨s1, s2, s3, s4⟩ := sbd i (by omega)
    have j51 : ∀ (g4 : HL) (s : Int32), s = nI (qp (lkP f c i)) → j_X11_sums_51 (fun s h' _ => KJ SSm h h' ∧ ((s = 1 ∧ SZD f c qp (nCh f c) ∧ (h' 135 18).toInt = sumL f c qp y (nCh f c) ∧ (h' 135 19).toInt = sumH f c qp y (nCh f c)) ∨ (s = 0 ∧ ¬ SZD f c qp (nCh f c)))) (fun x1 x2 x3 x4 x5 h g => K (x1, x2, x3, x4, x5, h, g)) (nI c) (nI y) x3 x4 (nI i) s h3 g4 := by
      rintro g4 _ rfl
      unfold j_X11_sums_51
      refine c_i (q_X11_firstOf f3' r v w (p := qp (lkP f c i)) (by omega) en hn) ?_
      rintro _ h5 g5 ⟨J5, rfl⟩
      rw [fsel0]
      refine ⟨fun n1 => ?_, fun n1 => ⟨J3.tr (J5.mo uF), .inr ⟨rfl, fun k => k i hk (z1.mp n1)⟩⟩⟩
      have f5 : h5 136 = f := (J5.f6 (fun k => by unfold SFf; omega)).trans f3'
      refine c_wornR (by rw [f5]; exact r) (by rw [f5]; exact v) (a := qp (lkP f c i)) (y := y) (by omega) hy (fun h6 g6 J6 => ?_)
      rw [f5]
      have f6 : h6 136 = f := (J6.f6 (fun k => by unfold SRd; omega)).trans f5
      refine c_i (q_X11_firstOf f6 r v w (p := qp (lkP f c i)) (by omega) en hn) ?_
      rintro _ h7 g7 ⟨J7, rfl⟩
      rw [fsel1]
      have f7 : h7 136 = f := (J7.f6 (fun k => by unfold SFf; omega)).trans f6
      have J7' : KJ SSm h h7 := ((J3.tr (J5.mo uF)).tr (J6.mo uR)).tr (J7.mo uF)
      have p18 : (h7 135 18).toInt = sumL f c qp y i := by rw [J7 135 18 (nF 18 (by omega)), J6 135 18 (nR 18 (by omega)), J5 135 18 (nF 18 (by omega))]; exact o8
      have p19 : (h7 135 19).toInt = sumH f c qp y i := by rw [J7 135 19 (nF 19 (by omega)), J6 135 19 (nR 19 (by omega)), J5 135 19 (nF 19 (by omega))]; exact o9
      intro x9 ex9 x7 ex7
      have e9 : x9.toInt = (f3 f (qp (lkP f c i))).2.1 - (wvN f (qp (lkP f c i)) y).toInt := by rw [ex9]; exact i_sub th rfl (by omega)
      have e7 : x7.toInt = (f3 f (qp (lkP f c i))).1 - (wvN f (qp (lkP f c i)) y).toInt := by rw [ex7]; exact i_sub tl rfl (by omega)
      clear ex9 ex7
      have j119 : ∀ (g8 : HL) (s0 : Int32), ((s0 = 0 ∧ ¬ (oCh f c).testBit i = true) ∨ (¬ s0 = 0 ∧ (oCh f c).testBit i = true)) → j_X11_sums_119 (fun s h' _ => KJ SSm h h' ∧ ((s = 1 ∧ SZD f c qp (nCh f c) ∧ (h' 135 18).toInt = sumL f c qp y (nCh f c) ∧ (h' 135 19).toInt = sumH f c qp y (nCh f c)) ∨ (s = 0 ∧ ¬ SZD f c qp (nCh f c)))) (fun x1 x2 x3 x4 x5 h g => K (x1, x2, x3, x4, x5, h, g)) (nI c) (nI y) x3 x4 (nI i) x7 x9 s0 h7 g8 := by
        intro g8 s0 o
        have j139 : ∀ s2 : Int32, s2.toInt = tLo f c qp y i → j_X11_sums_139 (fun s h' _ => KJ SSm h h' ∧ ((s = 1 ∧ SZD f c qp (nCh f c) ∧ (h' 135 18).toInt = sumL f c qp y (nCh f c) ∧ (h' 135 19).toInt = sumH f c qp y (nCh f c)) ∨ (s = 0 ∧ ¬ SZD f c qp (nCh f c)))) (fun x1 x2 x3 x4 x5 h g => K (x1, x2, x3, x4, x5, h, g)) (nI c) (nI y) x3 x4 (nI i) x7 x9 s0 (h7 135 18) s2 h7 g8 := by
          intro s2 es2
          unfold j_X11_sums_139
          intro h8 e8
          have J8 := J7'.hu e8 (by unfold SSm; omega)
          have q18 : (h8 135 18).toInt = sumL f c qp y (i + 1) := by
            rw [e8, hu_eq, pk_us]
            exact i_add p18 es2 (by omega)
          have q19 : h8 135 19 = h7 135 19 := by rw [e8, hu_eq, pk_un (by decide)]
          have j161 : ∀ s3 : Int32, s3.toInt = tHi f c qp y i → j_X11_sums_161 (fun s h' _ => KJ SSm h h' ∧ ((s = 1 ∧ SZD f c qp (nCh f c) ∧ (h' 135 18).toInt = sumL f c qp y (nCh f c) ∧ (h' 135 19).toInt = sumH f c qp y (nCh f c)) ∨ (s = 0 ∧ ¬ SZD f c qp (nCh f c)))) (fun x1 x2 x3 x4 x5 h g => K (x1, x2, x3, x4, x5, h, g)) (nI c) (nI y) x3 x4 (nI i) (h8 135 19) s3 h8 g8 := by
            intro s3 es3
            unfold j_X11_sums_161
            intro h9 e9'
            rintro _ rfl
            refine hK _ ⟨i + 1, by omega, rfl, rfl, rfl, rfl, (nI_1 i).symm, J8.hu e9' (by unfold SSm; omega), fun k hk2 => ?_, ?_, ?_⟩ hd
            · by_cases e : k = i
              · subst e; exact fun z => n1 (z1.mpr z)
              · exact sz k (by omega)
            · rw [e9', hu_eq, pk_un (by decide)]; exact q18
            · rw [e9', hu_eq, pk_us, q19]
              exact i_add p19 es3 (by omega)
          refine ⟨fun z => j161 _ ?_, fun z => j161 _ ?_⟩
          · rcases o with ⟨-, ob⟩ | ⟨o1, -⟩
            · rw [e9]; unfold tHi; rw [if_neg ob]
            · exact absurd z o1
          · rcases o with ⟨o1, -⟩ | ⟨-, ob⟩
            · exact absurd o1 z
            · rw [i_neg e7 (by omega)]; unfold tHi; rw [if_pos ob]; omega
        unfold j_X11_sums_119
        refine ⟨fun z => j139 _ ?_, fun z => j139 _ ?_⟩
        · rcases o with ⟨-, ob⟩ | ⟨o1, -⟩
          · rw [e7]; unfold tLo; rw [if_neg ob]
          · exact absurd z o1
        · rcases o with ⟨o1, -⟩ | ⟨-, ob⟩
          · exact absurd o1 z
          · rw [i_neg e9 (by omega)]; unfold tLo; rw [if_pos ob]; omega
      refine c_cO (k := 9) hc (by omega) ?_
      rw [f7, C3]
      have bn := bit_n (n := oCh f c) (a := i) (by omega) (by omega)
      refine ⟨fun z => j119 _ _ (.inl ⟨rfl, fun k => z (bn.mpr k)⟩), fun z => j119 _ _ (.inr ⟨by decide, bn.mp z⟩)⟩
    rw [show (3 : Int32) + nI i = nI (3 + i) from nI_add 3 i]
    refine c_cO (k := 3 + i) hc (by omega) ?_
    rw [f3', p2]
    refine ⟨fun z => c_cO (k := 3 + i) hc (by omega) ?_, fun z => j51 _ _ ((sb i hk).1 z)⟩
    rw [f3', p2]
    exact j51 _ _ (by rw [(sb i hk).2 z])
theorem q_X11_holds0 {h : HI} {g : HL} {f : Nat → Int32} (ef : h 136 = f) (r : RG f) (v : VR f) (w : WB f) {m n c y : Nat} {qp : Nat → Nat} (hm : m ≤ 24) (en : f 1 = nI n) (hn : n ≤ 60) (hc : c < 16) (C : CHf f c qp m) (hy : y ≤ 99) (tb : ∀ k, k < nCh f c → -200000 ≤ tLo f c qp y k ∧ tLo f c qp y k ≤ 200000 ∧ -200000 ≤ tHi f c qp y k ∧ tHi f c qp y k ≤ 200000) (sbd : ∀ k, k ≤ nCh f c → -200000 * (k : Int) ≤ sumL f c qp y k ∧ sumL f c qp y k ≤ 200000 * (k : Int) ∧ -200000 * (k : Int) ≤ sumH f c qp y k ∧ sumH f c qp y k ≤ 200000 * (k : Int)) {x3 x4 : Int32} (sb : ∀ k, k < nCh f c → (nI (lkP f c k) = x4 → x3 = nI (qp (lkP f c k))) ∧ (¬ nI (lkP f c k) = x4 → qp (lkP f c k) = lkP f c k)) : w_X11_holds0 (nI c) (nI y) x3 x4 h g (fun s h' _ => KJ SSm h h' ∧ ((s = 1 ∧ HLD f c qp y) ∨ (s = 0 ∧ ¬ HLD f c qp y))) := by
  unfold w_X11_holds0
  refine c_z (q_X11_sums ef r v w hm en hn hc C hy tb sbd sb) ?_
  rintro s h1 g1 ⟨J1, ⟨rfl, sz, l, u⟩ | ⟨rfl, sz⟩⟩
  · have f1 : h1 136 = f := (J1.f6 (fun k => by unfold SSm; omega)).trans ef
    refine ⟨fun a => absurd a (by decide), fun _ => c_cO (k := 0) hc (by omega) ?_⟩
    rw [f1]
    refine ⟨fun z => ⟨J1, .inr ⟨rfl, fun k => ?_⟩⟩, fun z => c_cO (k := 1) hc (by omega) ?_⟩
    · rw [i_lt l rfl] at z
      have := k.2.1
      omega
    · rw [i_lt l rfl] at z
      rw [f1]
      refine ⟨fun z2 => ⟨J1, .inr ⟨rfl, fun k => ?_⟩⟩, fun z2 => ⟨J1, .inl ⟨rfl, sz, by omega, ?_⟩⟩⟩
      · rw [i_lt rfl u] at z2
        have := k.2.2
        omega
      · rw [i_lt rfl u] at z2
        omega
  · exact ⟨fun _ => ⟨J1, .inr ⟨rfl, fun k => sz k.1⟩⟩, fun a => absurd rfl a⟩
theorem CHf.n2 {f : Nat → Int32} {c m : Nat} (C : CHf f c id m) (hm : m ≤ 24) : ∀ k, k < nCh f c → (nI (lkP f c k) = (-2 : Int32) → (-1 : Int32) = nI (id (lkP f c k))) ∧ (¬ nI (lkP f c k) = (-2 : Int32) → id (lkP f c k) = lkP f c k) := fun k hk =>
  ⟨fun e => absurd e (nI_n2 (by have := (C.2.2.2.2 k hk).1; omega)), fun _ => rfl⟩
/-- what both sides know of f, for the reference's questions about chains -/
def FX (f : Nat → Int32) (m n mc : Nat) : Prop := RG f ∧ VR f ∧ WB f ∧ f 0 = nI m ∧ m ≤ 24 ∧ f 1 = nI n ∧ n ≤ 60 ∧ f 2 = nI mc ∧ mc ≤ 16 ∧ (∀ c, c < mc → CHf f c id m) ∧ ∀ (c y : Nat) (qp : Nat → Nat), y ≤ 99 → CHf f c qp m → (∀ k, k < nCh f c → -200000 ≤ tLo f c qp y k ∧ tLo f c qp y k ≤ 200000 ∧ -200000 ≤ tHi f c qp y k ∧ tHi f c qp y k ≤ 200000) ∧ ∀ k, k ≤ nCh f c → -200000 * (k : Int) ≤ sumL f c qp y k ∧ sumL f c qp y k ≤ 200000 * (k : Int) ∧ -200000 * (k : Int) ≤ sumH f c qp y k ∧ sumH f c qp y k ≤ 200000 * (k : Int)
theorem CX.fx {h : HI} {f : Nat → Int32} (x : CX h f) {m n mc : Nat} (T : TT h 2 m 5 24) (em : f 0 = nI m) (S : TT h 6 n 6 60) (en : f 1 = nI n) (U : TT h 8 mc 15 16) (ec : f 2 = nI mc) : FX f m n mc :=
  ⟨x.2.2.2.2, x.2.2.2.1, x.wb, em, T.2.2.2.1, en, S.2.2.2.1, ec, U.2.2.2.1, fun _ hc => (x.ch T em U ec hc).1, fun _ _ _ hy C => ⟨fun _ hk => tLH x T.2.2.2.1 en S.2.2.2.1 C hy hk, sLHb x T.2.2.2.1 en S.2.2.2.1 C hy⟩⟩
theorem q_X11_life {h : HI} {g : HL} {f : Nat → Int32} (ef : h 136 = f) {m n mc : Nat} (X : FX f m n mc) {x1 x2 : Int32} : w_X11_life x1 x2 h g (fun s h' _ => KJ SSm h h' ∧ ALF f mc x1 x2 s) := by
  obtain ⟨r, v, w, em, hm, en, hn, ec, hmc, CH, tb⟩ := X
  unfold w_X11_life
  refine c_isb (vp_in_iff.mpr (by decide)) (by rw [ef]; exact r.ri.c2) (by decide) (fun q0 _ => ⟨fun c => absI c, fun _ => ?_⟩) (fun q0 => ⟨fun _ => ⟨KJ.rf, .inl ⟨fun k => q0 (by rw [cl2, ef, ec]; exact k.1), rfl⟩⟩, fun c => absN c⟩)
  rw [cl2, ef, ec] at q0
  refine c_yr (fun q1 => ⟨fun _ => ?_, fun c => absI c⟩) (fun q1 => ⟨fun c => absurd rfl c, fun _ => ⟨KJ.rf, .inl ⟨fun k => q1 k.2, rfl⟩⟩⟩)
  obtain ⟨c, hc, rfl⟩ := row_n q0 rfl (by omega)
  obtain ⟨y, hy, rfl⟩ := bd_99 q1
  have C := CH c hc
  refine lpE_intro (fun ⟨a_q, b_q, c_q, h_q, _⟩ => ∃ L : Nat, y + L ≤ 100 ∧ nI c = a_q ∧ nI y = b_q ∧ nI L = c_q ∧ KJ SSm h h_q ∧ ∀ j, j < L → HLD f c id (y + j)) (fun ⟨_, _, c_q, _, _⟩ => dif (nI 200) c_q) ?_ _ ⟨0, by omega, rfl, rfl, nI_0, KJ.rf, fun j hj => absurd hj (Nat.not_lt_zero j)⟩
  rintro ⟨y1, y2, y3, h2, g2⟩ K ⟨L, hL, rfl, rfl, rfl, J2, al⟩ hK
  have f2 : h2 136 = f := (J2.f6 (fun k => by unfold SSm; omega)).trans ef
  unfold F_X11_life_21; dsimp only; unfold b_X11_life_21
  rw [nI_add]
  refine ⟨fun q => ⟨J2, .inr ⟨c, y, L, hc, hy, rfl, rfl, rfl, hL, al, fun z => ?_⟩⟩, fun q => ?_⟩
  · rw [show (100 : Int32) = nI 100 from rfl, nI_leI (by omega) (by omega)] at q; omega
  · rw [show (100 : Int32) = nI 100 from rfl, nI_leI (by omega) (by omega)] at q
    obtain ⟨t1, t2⟩ := tb c (y + L) id (by omega) C
    refine c_z (q_X11_holds0 (y := y + L) f2 r v w hm en hn (by omega) C (by omega) t1 t2 (C.n2 hm)) ?_
    rintro s h3 g3 ⟨J3, ⟨rfl, o⟩ | ⟨rfl, o⟩⟩
    · refine ⟨fun a => absurd a (by decide), fun _ => ?_⟩
      rintro _ rfl
      refine hK _ ⟨L + 1, by omega, rfl, rfl, (nI_1 L).symm, J2.tr J3, fun j hj => ?_⟩ ?_
      · by_cases e : j = L
        · subst e; exact o
        · exact al j (by omega)
      · show dif (nI 200) (nI L + 1) < dif (nI 200) (nI L)
        rw [show nI L + (1 : Int32) = nI (L + 1) from nI_1 L, dif_nI (by omega) (by omega), dif_nI (by omega) (by omega)]
        omega
    · exact ⟨fun _ => ⟨J2.tr J3, .inr ⟨c, y, L, hc, hy, rfl, rfl, rfl, hL, al, fun _ => o⟩⟩, fun a => absurd rfl a⟩
