/-! SUMS OF A CHAIN -/
theorem FSp_ex {f : Nat → Int32} {p : Nat} (k : FOK f p) (v : VR f) (w : WB f) : ∀ n, n ≤ 60 → ∃ a b, FSp f p n a b
  | 0, _ => ⟨0, fM f p - 1, by omega, by omega, fun i h0 h1 => ⟨fun _ s hs => absurd hs (Nat.not_lt_zero s), fun _ => ⟨h0, h1⟩⟩⟩
  | n + 1, hn => by
    obtain ⟨a, b, a0, b0, kk⟩ := FSp_ex k v w n (by omega)
    by_cases o : isO f p n
    · have d1 : 1 ≤ fD f p := k.2.1
      refine ⟨if a < pfN (fB f p) (fD f p) (cLo f n) then pfN (fB f p) (fD f p) (cLo f n) else a, if qfN (fB f p) (fD f p) (cHi f n) < b then qfN (fB f p) (fD f p) (cHi f n) else b, ?_, ?_, fun i h0 h1 => ?_⟩
      · by_cases c : a < pfN (fB f p) (fD f p) (cLo f n)
        · rw [if_pos c]; omega
        · rw [if_neg c]; exact a0
      · by_cases c : qfN (fB f p) (fD f p) (cHi f n) < b
        · rw [if_pos c]; omega
        · rw [if_neg c]; exact b0
      · have s := k.sz h0 h1
        rw [okZs_s, ← kk i h0 h1, alw_c (by omega) (by omega), ← pfN_le d1 h0, ← le_qfN d1 h0]
        generalize pfN (fB f p) (fD f p) (cLo f n) = u
        generalize qfN (fB f p) (fD f p) (cHi f n) = t
        have e : ((a ≤ i ∧ i ≤ b) ∧ (isO f p n → u ≤ i ∧ i ≤ t)) ↔ ((a ≤ i ∧ i ≤ b) ∧ (u ≤ i ∧ i ≤ t)) := ⟨fun q => ⟨q.1, q.2 o⟩, fun q => ⟨q.1, fun _ => q.2⟩⟩
        rw [e]
        by_cases c1 : a < u
        · rw [if_pos c1]
          by_cases c2 : t < b
          · rw [if_pos c2]; omega
          · rw [if_neg c2]; omega
        · rw [if_neg c1]
          by_cases c2 : t < b
          · rw [if_pos c2]; omega
          · rw [if_neg c2]; omega
    · refine ⟨a, b, a0, b0, fun i h0 h1 => ?_⟩
      rw [okZs_s, ← kk i h0 h1]
      exact ⟨fun q => ⟨q, fun o' => absurd o' o⟩, fun q => q.1⟩
/-- the bounds of FIRST -/
theorem f3_bd {f : Nat → Int32} (v : VR f) (w : WB f) {p n : Nat} (hp : p < 24) (en : f 1 = nI n) (hn : n ≤ 60) : -1 ≤ (f3 f p).1 ∧ (f3 f p).1 ≤ 100000 ∧ -1 ≤ (f3 f p).2.1 ∧ (f3 f p).2.1 ≤ 100000 ∧ 0 ≤ (f3 f p).2.2 ∧ (f3 f p).2.2 ≤ 100001 ∧ ((f3 f p).1 = -1 ↔ (f3 f p).2.2 = 0) := by
  have k := v.fok hp
  obtain ⟨a, b, fs⟩ := FSp_ex k v w n hn
  obtain ⟨a0, b0, -⟩ := id fs
  have k5 : fM f p ≤ 100000 := k.2.2.2.2.1
  rw [f3_eq en hn ⟨a, b, fs, rfl, rfl, rfl⟩]
  dsimp only
  by_cases c : b < a
  · rw [if_pos c, if_pos c, if_pos c]; omega
  · rw [if_neg c, if_neg c, if_neg c]
    have s1 := k.sz a0 (by omega)
    have s2 := k.sz (i := b) (by omega) b0
    omega
theorem fLo_t {f : Nat → Int32} (v : VR f) (w : WB f) {p n : Nat} (hp : p < 24) (en : f 1 = nI n) (hn : n ≤ 60) : (fLo f p).toInt = (f3 f p).1 ∧ (fHi f p).toInt = (f3 f p).2.1 ∧ (fMn f p).toInt = (f3 f p).2.2 := by
  obtain ⟨a, b, c, d, e, g, -⟩ := f3_bd v w hp en hn
  exact ⟨i32_t (by omega), i32_t (by omega), i32_t (by omega)⟩
theorem fLo_1 {f : Nat → Int32} (v : VR f) (w : WB f) {p n : Nat} (hp : p < 24) (en : f 1 = nI n) (hn : n ≤ 60) : fLo f p = -1 ↔ fMn f p = 0 := by
  obtain ⟨a, -, c⟩ := fLo_t v w hp en hn
  rw [i_eq a im1, i_eq c i0]
  exact (f3_bd v w hp en hn).2.2.2.2.2.2
def lkP (f : Nat → Int32) (c k : Nat) : Nat := (f (512 + 10 * c + (3 + k))).toNatClampNeg
def nCh (f : Nat → Int32) (c : Nat) : Nat := (f (512 + 10 * c + 2)).toNatClampNeg
def oCh (f : Nat → Int32) (c : Nat) : Nat := (f (512 + 10 * c + 9)).toNatClampNeg
/-- what the k-th part adds to the least and to the greatest sum; some part stands for another -/
noncomputable def tLo (f : Nat → Int32) (c : Nat) (qp : Nat → Nat) (y k : Nat) : Int := if (oCh f c).testBit k = true then (wvN f (qp (lkP f c k)) y).toInt - (f3 f (qp (lkP f c k))).2.1 else (f3 f (qp (lkP f c k))).1 - (wvN f (qp (lkP f c k)) y).toInt
noncomputable def tHi (f : Nat → Int32) (c : Nat) (qp : Nat → Nat) (y k : Nat) : Int := if (oCh f c).testBit k = true then (wvN f (qp (lkP f c k)) y).toInt - (f3 f (qp (lkP f c k))).1 else (f3 f (qp (lkP f c k))).2.1 - (wvN f (qp (lkP f c k)) y).toInt
noncomputable def sumL (f : Nat → Int32) (c : Nat) (qp : Nat → Nat) (y : Nat) : Nat → Int
  | 0 => 0
  | k + 1 => sumL f c qp y k + tLo f c qp y k
noncomputable def sumH (f : Nat → Int32) (c : Nat) (qp : Nat → Nat) (y : Nat) : Nat → Int
  | 0 => 0
  | k + 1 => sumH f c qp y k + tHi f c qp y k
def SZD (f : Nat → Int32) (c : Nat) (qp : Nat → Nat) (n : Nat) : Prop := ∀ k, k < n → ¬ fMn f (qp (lkP f c k)) = 0
def HLD (f : Nat → Int32) (c : Nat) (qp : Nat → Nat) (y : Nat) : Prop := SZD f c qp (nCh f c) ∧ (f (512 + 10 * c + 0)).toInt ≤ sumL f c qp y (nCh f c) ∧ sumH f c qp y (nCh f c) ≤ (f (512 + 10 * c + 1)).toInt
/-- the chain c of n parts, by the reference's numbers: all its parts, and those that stand for them, are there -/
def CHf (f : Nat → Int32) (c : Nat) (qp : Nat → Nat) (m : Nat) : Prop := nCh f c ≤ 6 ∧ f (512 + 10 * c + 2) = nI (nCh f c) ∧ f (512 + 10 * c + 9) = nI (oCh f c) ∧ oCh f c < 64 ∧ ∀ k, k < nCh f c → lkP f c k < m ∧ f (512 + 10 * c + (3 + k)) = nI (lkP f c k) ∧ qp (lkP f c k) < m
def CHc (h : HI) (f : Nat → Int32) (c : Nat) : Prop := h 9 (c * 15 + 0) = f (512 + 10 * c + 0) ∧ h 9 (c * 15 + 1) = f (512 + 10 * c + 1) ∧ h 9 (c * 15 + 2) = nI (nCh f c) ∧ ∀ k, k < nCh f c → h 9 (c * 15 + (3 + 2 * k)) = nI (lkP f c k) ∧ h 9 (c * 15 + (4 + 2 * k)) = (if (oCh f c).testBit k = true then 1 else 0)
theorem CX.ch {h : HI} {f : Nat → Int32} (x : CX h f) {m mc c : Nat} (T : TT h 2 m 5 24) (em : f 0 = nI m) (U : TT h 8 mc 15 16) (ec : f 2 = nI mc) (hc : c < mc) : CHf f c id m ∧ CHc h f c := by
  have hm := T.2.2.2.1
  have hmc := U.2.2.2.1
  obtain ⟨a1, a2, a3, n, o, a4, a5, a6, a7, a8⟩ := CE.e3.mp (x.ci (j := 3) (by omega) U) c hc
  have a1 : h 9 (c * 15) = f (512 + c * 10) := a1
  have a2 : h 9 (c * 15 + 1) = f (512 + (c * 10 + 1)) := a2
  have a3 : h 9 (c * 15 + 2) = f (512 + (c * 10 + 2)) := a3
  have a8 : ∀ k, k < n → h 9 (c * 15 + (3 + 2 * k)) = f (512 + (c * 10 + (3 + k))) ∧ h 9 (c * 15 + (4 + 2 * k)) = (if o.testBit k then 1 else 0) := a8
  have n2 : 2 ^ n ≤ 2 ^ 6 := Nat.pow_le_pow_right (by decide) a4
  rw [a5] at a3
  rw [show 512 + (c * 10 + 2) = 512 + 10 * c + 2 by omega] at a5
  rw [show 512 + (c * 10 + 9) = 512 + 10 * c + 9 by omega] at a7
  have en : nCh f c = n := by unfold nCh; rw [a5, nI_clamp (by omega)]
  have eo : oCh f c = o := by unfold oCh; rw [a7, nI_clamp (by omega)]
  have pk : ∀ k, k < n → lkP f c k < m ∧ f (512 + 10 * c + (3 + k)) = nI (lkP f c k) := fun k hk => by
    have r := x.2.1.2.2 c mc k n ec hmc hc (by rw [show 512 + (c * 10 + 2) = 512 + 10 * c + 2 by omega]; exact a5) a4 hk
    rw [show 512 + (c * 10 + (3 + k)) = 512 + 10 * c + (3 + k) by omega] at r
    obtain ⟨t, ht, et⟩ := row_n r em (by omega)
    have : lkP f c k = t := by unfold lkP; rw [et, nI_clamp (by omega)]
    rw [this]; exact ⟨ht, et⟩
  unfold CHf CHc
  rw [en, eo]
  refine ⟨⟨a4, a5, a7, by omega, fun k hk => ⟨(pk k hk).1, (pk k hk).2, (pk k hk).1⟩⟩, ?_, ?_, a3, fun k hk => ⟨?_, (a8 k hk).2⟩⟩
  · rw [show 512 + 10 * c + 0 = 512 + c * 10 by omega, Nat.add_zero]; exact a1
  · rw [show 512 + 10 * c + 1 = 512 + (c * 10 + 1) by omega]; exact a2
  · rw [(a8 k hk).1, show 512 + (c * 10 + (3 + k)) = 512 + 10 * c + (3 + k) by omega]; exact (pk k hk).2
theorem CHc.jj {S : Nat → Prop} {h h' : HI} {f : Nat → Int32} {c : Nat} (x : CHc h f c) (J : JJ S h h') (n : ¬ S 9) : CHc h' f c := by
  unfold CHc; rw [J 9 n]; exact x
/-- small sums -/
theorem tLH {h : HI} {f : Nat → Int32} (x : CX h f) {c m n : Nat} {qp : Nat → Nat} (hm : m ≤ 24) (en : f 1 = nI n) (hn : n ≤ 60) (C : CHf f c qp m) {y k : Nat} (hy : y ≤ 99) (hk : k < nCh f c) : -200000 ≤ tLo f c qp y k ∧ tLo f c qp y k ≤ 200000 ∧ -200000 ≤ tHi f c qp y k ∧ tHi f c qp y k ≤ 200000 := by
  have ht := (C.2.2.2.2 k hk).2.2
  obtain ⟨a1, a2, a3, a4, -⟩ := f3_bd x.2.2.2.1 x.wb (p := qp (lkP f c k)) (by omega) en hn
  obtain ⟨w1, w2⟩ := x.wv (a := qp (lkP f c k)) (y := y) (by omega) hy
  unfold tLo tHi
  by_cases q : (oCh f c).testBit k = true
  · rw [if_pos q, if_pos q]; omega
  · rw [if_neg q, if_neg q]; omega
theorem sLHb {h : HI} {f : Nat → Int32} (x : CX h f) {c m n : Nat} {qp : Nat → Nat} (hm : m ≤ 24) (en : f 1 = nI n) (hn : n ≤ 60) (C : CHf f c qp m) {y : Nat} (hy : y ≤ 99) : ∀ k, k ≤ nCh f c → -200000 * (k : Int) ≤ sumL f c qp y k ∧ sumL f c qp y k ≤ 200000 * (k : Int) ∧ -200000 * (k : Int) ≤ sumH f c qp y k ∧ sumH f c qp y k ≤ 200000 * (k : Int)
  | 0, _ => by
    unfold sumL sumH; omega
  | k + 1, hk => by
    have ih := sLHb x hm en hn C hy k (by omega)
    have t := tLH x hm en hn C hy (k := k) (by omega)
    have e1 : sumL f c qp y (k + 1) = sumL f c qp y k + tLo f c qp y k := rfl
    have e2 : sumH f c qp y (k + 1) = sumH f c qp y k + tHi f c qp y k := rfl
    rw [e1, e2]; omega
/-- the chain that was taken -/
def FTK (h : HI) (f : Nat → Int32) (c : Nat) (qp : Nat → Nat) : Prop := h 85 6 = nI c ∧ ((h 85 7 = 1 ∧ SZD f c qp (nCh f c)) ∨ (h 85 7 = 0 ∧ ¬ SZD f c qp (nCh f c))) ∧ ∀ k, k < nCh f c → h 86 k = nI (qp (lkP f c k)) ∧ h 87 k = fLo f (qp (lkP f c k)) ∧ h 88 k = fHi f (qp (lkP f c k))
theorem q_X2_take {h : HI} {g : HL} {f : Nat → Int32} (x : CX h f) {m n mc c : Nat} {qp : Nat → Nat} (T : TT h 2 m 5 24) (S : TT h 6 n 6 60) (en : f 1 = nI n) (U : TT h 8 mc 15 16) (hc : c < mc) (C : CHf f c qp m) (D : CHc h f c) {x2 x3 : Int32} (sb : ∀ k, k < nCh f c → (nI (lkP f c k) = x2 → x3 = nI (qp (lkP f c k))) ∧ (¬ nI (lkP f c k) = x2 → qp (lkP f c k) = lkP f c k)) : w_X2_take (nI c) x2 x3 h g (fun h' _ => JJ SFit h h' ∧ FTK h' f c qp) := by
  have hm := T.2.2.2.1
  obtain ⟨C1, C2, C3, C4, C5⟩ := C
  unfold w_X2_take
  intro h1 e1 h2 e2
  have J2 : JJ SFit h h2 := (JJ.rf.hu e1 (by unfold SFit; omega)).hu e2 (by unfold SFit; omega)
  have o6 : h2 85 6 = nI c := by rw [e2, hu_eq, pk_un (by decide), e1, hu_eq, pk_us]
  have o7 : h2 85 7 = 1 := by rw [e2, hu_eq, pk_us]
  have U2 : TT h2 8 mc 15 16 := U.cg (J2 8 (by unfold SFit; omega))
  have D2 := D.jj J2 (by unfold SFit; omega)
  rw [o6]
  refine c_i (p_atT U2) ?_
  rintro _ _ _ ⟨rfl, rfl, rfl⟩
  rw [show tat h2 8 (nI c) (2 : Int32) = nI (nCh f c) from (tat_nI U2 (b := 2) hc (by omega)).trans D2.2.2.1]
  refine lpE_intro (fun ⟨a_q, b_q, c_q, d_q, h_q, _⟩ => ∃ i : Nat, i ≤ nCh f c ∧ x2 = a_q ∧ x3 = b_q ∧ nI (nCh f c) = c_q ∧ nI i = d_q ∧ JJ SFit h h_q ∧ h_q 85 6 = nI c ∧ ((h_q 85 7 = 1 ∧ SZD f c qp i) ∨ (h_q 85 7 = 0 ∧ ¬ SZD f c qp i)) ∧ ∀ k, k < i → h_q 86 k = nI (qp (lkP f c k)) ∧ h_q 87 k = fLo f (qp (lkP f c k)) ∧ h_q 88 k = fHi f (qp (lkP f c k))) (fun ⟨_, _, _, d_q, _, _⟩ => dif (nI (nCh f c)) d_q) ?_ _ ⟨0, by omega, rfl, rfl, rfl, nI_0, J2, o6, .inl ⟨o7, fun k hk => absurd hk (Nat.not_lt_zero k)⟩, fun k hk => absurd hk (Nat.not_lt_zero k)⟩
  clear o6 o7 U2 D2 J2 e1 e2
  rintro ⟨y1, y2, y3, y4, h3, g3⟩ K ⟨i, hi, rfl, rfl, rfl, rfl, J3, o6, o7, A⟩ hK
  have U3 : TT h3 8 mc 15 16 := U.cg (J3 8 (by unfold SFit; omega))
  have D3 := D.jj J3 (by unfold SFit; omega)
  unfold F_X2_take_30; dsimp only; unfold b_X2_take_30
  refine ⟨fun q => ⟨J3, ?_⟩, fun q => ?_⟩
  · rw [nI_leI (by omega) (by omega)] at q
    have : i = nCh f c := by omega
    subst this
    exact ⟨o6, o7, A⟩
  · have hd := dif_lt q
    rw [nI_leI (by omega) (by omega)] at q
    have hk : i < nCh f c := by omega
    have vi : vp_in (nI i) 6 := vp_in_nI (by omega) (by omega)
    have ht := (C5 i hk).2.2
    refine ⟨fun z => ?_, fun _ => ?_⟩
    · rw [show (6 : Int32) = nI 6 from rfl, nI_leI (by omega) (by omega)] at z; omega
    rw [o6, show (3 : Int32) + ((2 : Int32) * nI i) = nI (3 + 2 * i) from ix2 3 2 i]
    refine c_i (p_atT U3) ?_
    rintro _ _ _ ⟨rfl, rfl, rfl⟩
    rw [show tat h3 8 (nI c) (nI (3 + 2 * i)) = nI (lkP f c i) from (tat_nI U3 hc (by omega)).trans (D3.2.2.2 i hk).1]
    have j84 : ∀ (g4 : HL) (s : Int32), s = nI (qp (lkP f c i)) → j_X2_take_84 (fun h' _ => JJ SFit h h' ∧ FTK h' f c qp) (fun x2 x3 x4 x5 h g => K (x2, x3, x4, x5, h, g)) x2 x3 (nI (nCh f c)) (nI i) (nI i) s h3 g4 := by
      rintro g4 _ rfl
      unfold j_X2_take_84
      refine and_have vi (fun _ => ?_)
      intro h4 e4
      rw [nI_clamp (by omega)] at e4
      have J4 : JJ SFit h h4 := J3.hu e4 (by unfold SFit; omega)
      have q86 : h4 86 i = nI (qp (lkP f c i)) := by rw [e4, hu_eq, pk_us]
      refine and_have vi (fun _ => ?_)
      rw [nI_clamp (by omega), q86]
      refine c_v (q_X7_find (x.jj J4 (fun q hq => by unfold SFit; omega)) (T.cg (J4 2 (by unfold SFit; omega))) (S.cg (J4 6 (by unfold SFit; omega))) en ht) ?_
      rintro h5 g5 ⟨J5, z9, z10, z11, -⟩
      have J5' : JJ SFit h h5 := J4.tr (J5.mo (fun q hq => by unfold SSz at hq; unfold SFit; omega))
      have n5 : ∀ q, 85 ≤ q → h5 q = h4 q := fun q hq => J5 q (by unfold SSz; omega)
      have j114 : ∀ h6 : HI, (∀ q, ¬ q = 85 → h6 q = h5 q) → JJ SFit h h6 → h6 85 6 = nI c → ((h6 85 7 = 1 ∧ SZD f c qp (i + 1)) ∨ (h6 85 7 = 0 ∧ ¬ SZD f c qp (i + 1))) → j_X2_take_114 (fun h' _ => JJ SFit h h' ∧ FTK h' f c qp) (fun x2 x3 x4 x5 h g => K (x2, x3, x4, x5, h, g)) x2 x3 (nI (nCh f c)) (nI i) h6 g5 := by
        intro h6 n6 J6 p6 p7
        unfold j_X2_take_114
        refine and_have vi (fun _ => ?_)
        intro h7 e7
        rw [nI_clamp (by omega), n6 81 (by decide), z9] at e7
        refine and_have vi (fun _ => ?_)
        intro h8 e8
        have e81 : h7 81 10 = fHi f (qp (lkP f c i)) := by rw [e7, hu_ne (by decide), n6 81 (by decide), z10]
        rw [nI_clamp (by omega), e81] at e8
        rintro _ rfl
        have n8 : ∀ q, ¬ q = 87 → ¬ q = 88 → h8 q = h6 q := fun q a b => by rw [e8, hu_ne b, e7, hu_ne a]
        refine hK _ ⟨i + 1, by omega, rfl, rfl, rfl, (nI_1 i).symm, (J6.hu e7 (by unfold SFit; omega)).hu e8 (by unfold SFit; omega), by rw [n8 85 (by decide) (by decide)]; exact p6, by rw [n8 85 (by decide) (by decide)]; exact p7, fun k hk => ?_⟩ hd
        have l86 : h8 86 = upd (h3 86) i (nI (qp (lkP f c i))) := by rw [n8 86 (by decide) (by decide), n6 86 (by decide), n5 86 (by decide), e4, hu_eq]
        have l87 : h8 87 = upd (h3 87) i (fLo f (qp (lkP f c i))) := by rw [e8, hu_ne (by decide), e7, hu_eq, n6 87 (by decide), n5 87 (by decide), e4, hu_ne (by decide)]
        have l88 : h8 88 = upd (h3 88) i (fHi f (qp (lkP f c i))) := by rw [e8, hu_eq, e7, hu_ne (by decide), n6 88 (by decide), n5 88 (by decide), e4, hu_ne (by decide)]
        rw [l86, l87, l88]
        by_cases ek : k = i
        · subst ek; rw [pk_us, pk_us, pk_us]; exact ⟨rfl, rfl, rfl⟩
        · rw [pk_un ek, pk_un ek, pk_un ek]; exact A k (by omega)
      have r6 : h5 85 6 = nI c := by rw [n5 85 (by decide), e4, hu_ne (by decide)]; exact o6
      have r7 : h5 85 7 = h3 85 7 := by rw [n5 85 (by decide), e4, hu_ne (by decide)]
      rw [z11]
      refine ⟨fun z => j114 h5 (fun _ _ => rfl) J5' r6 ?_, fun z => ?_⟩
      · rw [r7]
        have up : SZD f c qp (i + 1) ↔ SZD f c qp i := ⟨fun k j hj => k j (by omega), fun k j hj => by
          by_cases e : j = i
          · subst e; exact z
          · exact k j (by omega)⟩
        rw [up]; exact o7
      · intro h6 e6
        refine j114 h6 (fun q hq => by rw [e6, hu_ne hq]) (J5'.hu e6 (by unfold SFit; omega)) (by rw [e6, hu_eq, pk_un (by decide)]; exact r6) (.inr ⟨by rw [e6, hu_eq, pk_us], fun k => k i (by omega) z⟩)
    refine ⟨fun z => j84 _ _ ?_, fun z => j84 _ _ ?_⟩
    · rw [(sb i hk).2 z]
    · exact (sb i hk).1 z
def S85 (q : Nat) : Prop := q = 85
theorem q_X2_addUp {h : HI} {g : HL} {f : Nat → Int32} (x : CX h f) {m n mc c : Nat} {qp : Nat → Nat} (T : TT h 2 m 5 24) (en : f 1 = nI n) (hn : n ≤ 60) (U : TT h 8 mc 15 16) (hc : c < mc) (C : CHf f c qp m) (D : CHc h f c) (F : FTK h f c qp) {y : Nat} (hy : y ≤ 99) : w_X2_addUp (nI y) h g (fun h' _ => JJ S85 h h' ∧ FTK h' f c qp ∧ (h' 85 8).toInt = sumL f c qp y (nCh f c) ∧ (h' 85 9).toInt = sumH f c qp y (nCh f c)) := by
  have hm := T.2.2.2.1
  have C0 := C
  obtain ⟨C1, C2, C3, C4, C5⟩ := C
  have keep : ∀ h' : HI, JJ S85 h h' → h' 85 6 = h 85 6 → h' 85 7 = h 85 7 → FTK h' f c qp := fun h' J a b => by
    obtain ⟨F1, F2, F3⟩ := F
    refine ⟨by rw [a]; exact F1, by rw [b]; exact F2, fun k hk => ?_⟩
    rw [J 86 (by unfold S85; omega), J 87 (by unfold S85; omega), J 88 (by unfold S85; omega)]; exact F3 k hk
  obtain ⟨F1, F2, F3⟩ := F
  unfold w_X2_addUp
  intro h1 e1 h2 e2
  have J2 : JJ S85 h h2 := (JJ.rf.hu e1 (by unfold S85; omega)).hu e2 (by unfold S85; omega)
  have o6 : h2 85 6 = h 85 6 := by rw [e2, hu_eq, pk_un (by decide), e1, hu_eq, pk_un (by decide)]
  have o7 : h2 85 7 = h 85 7 := by rw [e2, hu_eq, pk_un (by decide), e1, hu_eq, pk_un (by decide)]
  have o8 : (h2 85 8).toInt = 0 := by rw [e2, hu_eq, pk_un (by decide), e1, hu_eq, pk_us]; exact i0
  have o9 : (h2 85 9).toInt = 0 := by rw [e2, hu_eq, pk_us]; exact i0
  have U2 : TT h2 8 mc 15 16 := U.cg (J2 8 (by unfold S85; omega))
  have D2 := D.jj J2 (by unfold S85; omega)
  rw [o6, F1]
  refine c_i (p_atT U2) ?_
  rintro _ _ _ ⟨rfl, rfl, rfl⟩
  rw [show tat h2 8 (nI c) (2 : Int32) = nI (nCh f c) from (tat_nI U2 (b := 2) hc (by omega)).trans D2.2.2.1]
  refine lpE_intro (fun ⟨a_q, b_q, c_q, h_q, _⟩ => ∃ i : Nat, i ≤ nCh f c ∧ nI y = a_q ∧ nI (nCh f c) = b_q ∧ nI i = c_q ∧ JJ S85 h h_q ∧ h_q 85 6 = h 85 6 ∧ h_q 85 7 = h 85 7 ∧ (h_q 85 8).toInt = sumL f c qp y i ∧ (h_q 85 9).toInt = sumH f c qp y i) (fun ⟨_, _, c_q, _, _⟩ => dif (nI (nCh f c)) c_q) ?_ _ ⟨0, by omega, rfl, rfl, nI_0, J2, o6, o7, o8, o9⟩
  clear o6 o7 o8 o9 U2 D2 J2 e1 e2
  rintro ⟨y1, y2, y3, h3, g3⟩ K ⟨i, hi, rfl, rfl, rfl, J3, o6, o7, o8, o9⟩ hK
  have U3 : TT h3 8 mc 15 16 := U.cg (J3 8 (by unfold S85; omega))
  have D3 := D.jj J3 (by unfold S85; omega)
  unfold F_X2_addUp_28; dsimp only; unfold b_X2_addUp_28
  refine ⟨fun q => ?_, fun q => ?_⟩
  · rw [nI_leI (by omega) (by omega)] at q
    have : i = nCh f c := by omega
    subst this
    exact ⟨J3, keep h3 J3 o6 o7, o8, o9⟩
  · have hd := dif_lt q
    rw [nI_leI (by omega) (by omega)] at q
    have hk : i < nCh f c := by omega
    have vi : vp_in (nI i) 6 := vp_in_nI (by omega) (by omega)
    have ht := (C5 i hk).2.2
    obtain ⟨G1, G2, G3⟩ := F3 i hk
    obtain ⟨b1, b2, b3, b4, b5, b6, -⟩ := f3_bd x.2.2.2.1 x.wb (p := qp (lkP f c i)) (by omega) en hn
    obtain ⟨tl, th, -⟩ := fLo_t x.2.2.2.1 x.wb (p := qp (lkP f c i)) (by omega) en hn
    obtain ⟨w1, w2⟩ := x.wv (a := qp (lkP f c i)) (y := y) (by omega) hy
    obtain ⟨s1, s2, s3, s4⟩ := sLHb x hm en hn C0 hy i (by omega)
    refine ⟨fun z => ?_, fun _ => and_have vi (fun _ => ?_)⟩
    · rw [show (6 : Int32) = nI 6 from rfl, nI_leI (by omega) (by omega)] at z; omega
    rw [nI_clamp (by omega), J3 86 (by unfold S85; omega), G1]
    refine c_worn (x.jj J3 (fun q hq => by unfold S85; omega)) (T.cg (J3 2 (by unfold S85; omega))) ht hy (fun g4 => ?_)
    rw [o6, F1, show ((3 : Int32) + ((2 : Int32) * nI i)) + (1 : Int32) = nI (4 + 2 * i) from (ix3 3 2 i 1).trans (by rw [show 3 + 2 * i + 1 = 4 + 2 * i by omega])]
    refine c_i (p_atT U3) ?_
    rintro _ _ _ ⟨rfl, rfl, rfl⟩
    rw [show tat h3 8 (nI c) (nI (4 + 2 * i)) = (if (oCh f c).testBit i = true then 1 else 0) from (tat_nI U3 hc (by omega)).trans (D3.2.2.2 i hk).2]
    have e87 : (h3 87 i).toInt = (f3 f (qp (lkP f c i))).1 := by rw [J3 87 (by unfold S85; omega), G2]; exact tl
    have e88 : (h3 88 i).toInt = (f3 f (qp (lkP f c i))).2.1 := by rw [J3 88 (by unfold S85; omega), G3]; exact th
    have j118 : ∀ (s0 s2 : Int32), s2.toInt = tLo f c qp y i → ((s0 = 0 ∧ ¬ (oCh f c).testBit i = true) ∨ (¬ s0 = 0 ∧ (oCh f c).testBit i = true)) → j_X2_addUp_118 (fun h' _ => JJ S85 h h' ∧ FTK h' f c qp ∧ (h' 85 8).toInt = sumL f c qp y (nCh f c) ∧ (h' 85 9).toInt = sumH f c qp y (nCh f c)) (fun x1 x2 x3 h g => K (x1, x2, x3, h, g)) (nI y) (nI (nCh f c)) (nI i) (wvN f (qp (lkP f c i)) y) s0 (h3 85 8) s2 h3 g4 := by
      intro s0 s2 es2 o
      have t := tLH x hm en hn C0 hy (k := i) hk
      unfold j_X2_addUp_118
      intro h4 e4
      have J4 : JJ S85 h h4 := J3.hu e4 (by unfold S85; omega)
      have p8 : (h4 85 8).toInt = sumL f c qp y (i + 1) := by
        rw [e4, hu_eq, pk_us]
        exact i_add o8 es2 (by omega)
      have p9 : h4 85 9 = h3 85 9 := by rw [e4, hu_eq, pk_un (by decide)]
      have j153 : ∀ s3 : Int32, s3.toInt = tHi f c qp y i → j_X2_addUp_153 (fun h' _ => JJ S85 h h' ∧ FTK h' f c qp ∧ (h' 85 8).toInt = sumL f c qp y (nCh f c) ∧ (h' 85 9).toInt = sumH f c qp y (nCh f c)) (fun x1 x2 x3 h g => K (x1, x2, x3, h, g)) (nI y) (nI (nCh f c)) (nI i) (h4 85 9) s3 h4 g4 := by
        intro s3 es3
        unfold j_X2_addUp_153
        intro h5 e5
        rintro _ rfl
        refine hK _ ⟨i + 1, by omega, rfl, rfl, (nI_1 i).symm, J4.hu e5 (by unfold S85; omega), ?_, ?_, ?_, ?_⟩ hd
        · rw [e5, hu_eq, pk_un (by decide), e4, hu_eq, pk_un (by decide)]; exact o6
        · rw [e5, hu_eq, pk_un (by decide), e4, hu_eq, pk_un (by decide)]; exact o7
        · rw [e5, hu_eq, pk_un (by decide)]; exact p8
        · rw [e5, hu_eq, pk_us, p9]
          exact i_add o9 es3 (by omega)
      rw [nI_clamp (by omega), show h4 88 = h3 88 by rw [e4, hu_ne (by decide)], show h4 87 = h3 87 by rw [e4, hu_ne (by decide)]]
      refine ⟨fun z => ⟨vi, j153 _ ?_⟩, fun z => ⟨vi, j153 _ ?_⟩⟩
      · rcases o with ⟨-, ob⟩ | ⟨o1, -⟩
        · rw [i_sub e88 rfl (by omega)]
          unfold tHi; rw [if_neg ob]
        · exact absurd z o1
      · rcases o with ⟨o1, -⟩ | ⟨-, ob⟩
        · exact absurd o1 z
        · rw [i_sub rfl e87 (by omega)]
          unfold tHi; rw [if_pos ob]
    have j85 : ∀ s0 : Int32, ((s0 = 0 ∧ ¬ (oCh f c).testBit i = true) ∨ (¬ s0 = 0 ∧ (oCh f c).testBit i = true)) → j_X2_addUp_85 (fun h' _ => JJ S85 h h' ∧ FTK h' f c qp ∧ (h' 85 8).toInt = sumL f c qp y (nCh f c) ∧ (h' 85 9).toInt = sumH f c qp y (nCh f c)) (fun x1 x2 x3 h g => K (x1, x2, x3, h, g)) (nI y) (nI (nCh f c)) (nI i) (wvN f (qp (lkP f c i)) y) s0 h3 g4 := by
      intro s0 o
      unfold j_X2_addUp_85
      rw [nI_clamp (by omega)]
      refine ⟨fun z => ⟨vi, j118 _ _ ?_ o⟩, fun z => ⟨vi, j118 _ _ ?_ o⟩⟩
      · rcases o with ⟨-, ob⟩ | ⟨o1, -⟩
        · rw [i_sub e87 rfl (by omega)]
          unfold tLo; rw [if_neg ob]
        · exact absurd z o1
      · rcases o with ⟨o1, -⟩ | ⟨-, ob⟩
        · exact absurd o1 z
        · rw [i_sub rfl e88 (by omega)]
          unfold tLo; rw [if_pos ob]
    by_cases ob : (oCh f c).testBit i = true
    · rw [if_pos ob]
      exact ⟨fun z => absurd rfl z, fun _ => j85 _ (.inr ⟨by decide, ob⟩)⟩
    · rw [if_neg ob]
      exact ⟨fun _ => j85 _ (.inl ⟨rfl, ob⟩), fun z => absurd z (by decide)⟩
theorem q_X2_holdIn {h : HI} {g : HL} {f : Nat → Int32} (x : CX h f) {m n mc c : Nat} {qp : Nat → Nat} (T : TT h 2 m 5 24) (en : f 1 = nI n) (hn : n ≤ 60) (U : TT h 8 mc 15 16) (hc : c < mc) (C : CHf f c qp m) (D : CHc h f c) (F : FTK h f c qp) {y : Nat} (hy : y ≤ 99) : w_X2_holdIn (nI y) h g (fun r h' _ => JJ S85 h h' ∧ FTK h' f c qp ∧ ((r = 1 ∧ HLD f c qp y) ∨ (r = 0 ∧ ¬ HLD f c qp y))) := by
  unfold w_X2_holdIn
  refine ⟨fun q => ?_, fun q => ⟨JJ.rf, F, .inr ⟨rfl, fun k => ?_⟩⟩⟩
  rotate_left
  · rcases F.2.1 with ⟨a, -⟩ | ⟨-, b⟩
    · rw [a] at q; exact absurd q (by decide)
    · exact b k.1
  have sz : SZD f c qp (nCh f c) := by
    rcases F.2.1 with ⟨-, b⟩ | ⟨a, -⟩
    · exact b
    · exact absurd a q
  refine c_v (q_X2_addUp x T en hn U hc C D F hy) ?_
  rintro h1 g1 ⟨J1, F1, l, u⟩
  have U1 : TT h1 8 mc 15 16 := U.cg (J1 8 (by unfold S85; omega))
  have D1 := D.jj J1 (by unfold S85; omega)
  rw [F1.1]
  refine c_i (p_atT U1) ?_
  rintro _ _ _ ⟨rfl, rfl, rfl⟩
  rw [show tat h1 8 (nI c) (0 : Int32) = f (512 + 10 * c + 0) from (tat_nI U1 (b := 0) hc (by omega)).trans D1.1]
  refine ⟨fun z => ⟨J1, F1, .inr ⟨rfl, fun k => ?_⟩⟩, fun z => ?_⟩
  · rw [i_lt l rfl] at z
    have := k.2.1
    omega
  · rw [i_lt l rfl] at z
    refine c_i (p_atT U1) ?_
    rintro _ _ _ ⟨rfl, rfl, rfl⟩
    rw [F1.1, show tat h1 8 (nI c) (1 : Int32) = f (512 + 10 * c + 1) from (tat_nI U1 (b := 1) hc (by omega)).trans D1.2.1]
    refine ⟨fun z2 => ⟨J1, F1, .inr ⟨rfl, fun k => ?_⟩⟩, fun z2 => ⟨J1, F1, .inl ⟨rfl, sz, by omega, ?_⟩⟩⟩
    · rw [i_lt rfl u] at z2
      have := k.2.2
      omega
    · rw [i_lt rfl u] at z2
      omega
