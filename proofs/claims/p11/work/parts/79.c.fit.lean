/-! FITTED -/
def ldT (f : Nat → Int32) (i : Nat) : Nat := (f (737 + 2 * i + 0)).toNatClampNeg
def fcT (f : Nat → Int32) (a b i : Nat) : Nat := if f (737 + 2 * i + 1) = 1 then a + b * ldT f i else 1000 - (a + b * ldT f i)
def okT9 (f : Nat → Int32) (a b i : Nat) : Prop := 1 ≤ a + b * ldT f i ∧ a + b * ldT f i ≤ 999
/-- the product of what was told, none where A and B may not be -/
def LK (f : Nat → Int32) (a b : Nat) : Nat → Nat → Prop
  | 0, v => v = 1
  | i + 1, v => ∃ u, LK f a b i u ∧ okT9 f a b i ∧ v = u * fcT f a b i
theorem LK.un {f : Nat → Int32} {a b : Nat} : ∀ {i v u : Nat}, LK f a b i v → LK f a b i u → v = u
  | 0, v, u, x, y => Eq.trans (show v = 1 from x) (Eq.symm (show u = 1 from y))
  | i + 1, v, u, ⟨v', x, _, ev⟩, ⟨u', y, _, eu⟩ => by rw [ev, eu, LK.un x y]
theorem LK.bd {f : Nat → Int32} {a b : Nat} : ∀ {i v : Nat}, LK f a b i v → 1 ≤ v ∧ v ≤ 1000 ^ i
  | 0, v, x => by
    have x : v = 1 := x
    rw [x]; exact ⟨by decide, by decide⟩
  | i + 1, v, ⟨u, x, ok, e⟩ => by
    obtain ⟨h1, h2⟩ := LK.bd x
    have hf : 1 ≤ fcT f a b i ∧ fcT f a b i ≤ 1000 := by
      unfold okT9 at ok
      unfold fcT
      by_cases q : f (737 + 2 * i + 1) = 1
      · rw [if_pos q]; omega
      · rw [if_neg q]; omega
    rw [e]
    refine ⟨Nat.mul_pos (by omega) (by omega), ?_⟩
    rw [Nat.pow_succ]
    exact Nat.mul_le_mul h2 hf.2
theorem LK.dn {f : Nat → Int32} {a b i : Nat} (n : ¬ okT9 f a b i) : ∀ {j : Nat}, i < j → ∀ v, ¬ LK f a b j v
  | 0, h, _, _ => absurd h (Nat.not_lt_zero i)
  | j + 1, h, v, ⟨u, x, ok, _⟩ => by
    by_cases e : i = j
    · subst e; exact n ok
    · exact LK.dn n (j := j) (by omega) u x
theorem LK.sm {f : Nat → Int32} {a b i v : Nat} (x : LK f a b i v) (hi : i ≤ 40) : v < 2 ^ (30 * 14) := by
  have h := x.bd.2
  have h1 : (1000 : Nat) ^ i ≤ 1024 ^ i := Nat.pow_le_pow_left (by decide) i
  have h2 : (1024 : Nat) ^ i ≤ 1024 ^ 40 := Nat.pow_le_pow_right (by decide) hi
  have h3 : (1024 : Nat) ^ 40 < 2 ^ (30 * 14) := by decide
  omega
/-- the first of the likeliest among the first k codes -/
def BF9 (f : Nat → Int32) (n : Nat) : Nat → Nat → Nat → Prop
  | 0, _, _ => False
  | k + 1, c, v => (LK f (k / 10) (k % 10) n v ∧ c = k ∧ ∀ c' u, BF9 f n k c' u → u < v) ∨ (BF9 f n k c v ∧ ∀ u, LK f (k / 10) (k % 10) n u → u ≤ v)
theorem BF9.un {f : Nat → Int32} {n : Nat} : ∀ {k c v c' v' : Nat}, BF9 f n k c v → BF9 f n k c' v' → c = c' ∧ v = v'
  | 0, _, _, _, _, x, _ => absurd x id
  | k + 1, c, v, c', v', x, y => by
    rcases x with ⟨x1, rfl, x3⟩ | ⟨x1, x3⟩
    · rcases y with ⟨y1, rfl, y3⟩ | ⟨y1, y3⟩
      · exact ⟨rfl, x1.un y1⟩
      · have := x3 _ _ y1
        have := y3 _ x1
        omega
    · rcases y with ⟨y1, rfl, y3⟩ | ⟨y1, y3⟩
      · have := y3 _ _ x1
        have := x3 _ y1
        omega
      · exact BF9.un x1 y1
def AFT (f : Nat → Int32) (n : Nat) (r : Int32) : Prop := ((∀ c v, ¬ BF9 f n 100 c v) ∧ r = -1) ∨ ∃ c v : Nat, BF9 f n 100 c v ∧ r = nI c
theorem AFT.un {f : Nat → Int32} {n : Nat} {r s : Int32} (a : AFT f n r) (b : AFT f n s) : r = s := by
  rcases a with ⟨a1, rfl⟩ | ⟨c, v, a1, rfl⟩
  · rcases b with ⟨-, rfl⟩ | ⟨c, v, b1, rfl⟩
    · rfl
    · exact absurd b1 (a1 c v)
  · rcases b with ⟨b1, -⟩ | ⟨c', v', b1, rfl⟩
    · exact absurd a1 (b1 c v)
    · rw [(a1.un b1).1]
theorem VR.ld {f : Nat → Int32} (v : VR f) {i : Nat} (hi : i < 40) : ldT f i ≤ 100 ∧ f (737 + 2 * i + 0) = nI (ldT f i) := by
  obtain ⟨l, h1, h2, e⟩ := bd_nI (v.at (vg_T (c := 0) hi (by omega)))
  have h1 : (l : Int) ≤ 100 := h1
  have : ldT f i = l := by unfold ldT; rw [e, nI_clamp h2]
  rw [this]; exact ⟨by omega, e⟩
theorem CX.tT {h : HI} {f : Nat → Int32} (c : CX h f) : ∃ m, TT h 18 m 2 40 ∧ f 6 = nI m := c.1 8 (by omega)
theorem CX.ct {h : HI} {f : Nat → Int32} (c : CX h f) {m i k : Nat} (T : TT h 18 m 2 40) (hi : i < m) (hk : k < 2) : h 19 (i * 2 + k) = f (737 + 2 * i + k) := by
  have := (CE.es (by decide) (by decide)).mp (c.ci (j := 8) (by omega) T) (i * 2 + k) (by show i * 2 + k < m * 2; omega)
  rw [show 737 + 2 * i + k = 737 + (i * 2 + k) by omega]; exact this
theorem q_X1_weigh {h : HI} {g : HL} {f : Nat → Int32} (c : CX h f) {n a b : Nat} (T : TT h 18 n 2 40) (ha : a ≤ 9) (hb : b ≤ 9) : w_X1_weigh (nI a) (nI b) h g (fun r h' _ => JJ (SB 114) h h' ∧ ((r = 1 ∧ ∃ v W, LK f a b n v ∧ W ≤ 15 ∧ GC h' 114 W v) ∨ (r = 0 ∧ ∀ v, ¬ LK f a b n v))) := by
  have hn := T.2.2.2.1
  have v := c.2.2.2.1
  unfold w_X1_weigh
  refine c_v (q_X0_set (o := 114) (v := 1) (by omega)) ?_
  rintro h1 _ ⟨rfl, J1, A1⟩
  refine lpE_intro (fun ⟨a_q, b_q, c_q, d_q, h_q, _⟩ => ∃ i wt u W : Nat, i ≤ n ∧ nI a = a_q ∧ nI b = b_q ∧ nI wt = c_q ∧ nI i = d_q ∧ JJ (SB 114) h h_q ∧ 1 ≤ wt ∧ wt < 1073741 ∧ GC h_q 114 W u ∧ LK f a b i (u * wt)) (fun ⟨_, _, _, d_q, _, _⟩ => dif (nI n) d_q) ?_ _ ⟨0, 1, 1, 1, by omega, rfl, rfl, rfl, nI_0, J1, by omega, by omega, A1, rfl⟩
  clear A1 J1
  rintro ⟨y1, y2, y3, y4, h2, g2⟩ K ⟨i, wt, u, W, hi, rfl, rfl, rfl, rfl, J2, w1, w2, A2, lk⟩ hK
  have T2 : TT h2 18 n 2 40 := T.cg (J2 18 (by unfold SB; omega))
  have c2 : CX h2 f := c.jj J2 (fun q hq => by unfold SB; omega)
  have uw : u ≤ u * wt := Nat.le_mul_of_pos_right u (by omega)
  have W14 : W ≤ 14 := A2.wle (by have := lk.sm (by omega); omega)
  unfold F_X1_weigh_13; dsimp only; unfold b_X1_weigh_13
  refine c_i p_rows ?_
  rintro _ _ _ ⟨rfl, rfl, rfl⟩
  rw [T2.2.2.1]
  refine ⟨fun q => ?_, fun q => ?_⟩
  · rw [nI_leI (by omega) (by omega)] at q
    have : i = n := by omega
    subst this
    refine c_v (q_X0_times (B := wt) A2 (by omega) (by omega)) ?_
    rintro h3 _ ⟨rfl, J3, W', hW', A3⟩
    exact ⟨J2.tr J3, .inl ⟨rfl, _, W', lk, by omega, A3⟩⟩
  · have hd := dif_lt q
    rw [nI_leI (by omega) (by omega)] at q
    obtain ⟨l1, l2⟩ := v.ld (i := i) (by omega)
    have bl : b * ldT f i ≤ 9 * 100 := Nat.mul_le_mul hb l1
    refine c_i (p_atT T2) ?_
    rintro _ _ _ ⟨rfl, rfl, rfl⟩
    rw [show tat h2 18 (nI i) (0 : Int32) = nI (ldT f i) from (tat_nI T2 (b := 0) (by omega) (by omega)).trans ((c2.ct T2 (by omega) (by omega)).trans l2)]
    refine ⟨fun r h' g' => r = nI (a + b * ldT f i) ∧ h2 = h' ∧ g2 = g', ?_, ?_⟩
    · unfold w_X1_oddsOf
      exact ⟨by rw [pk_mul, nI_add], rfl, rfl⟩
    rintro _ _ _ ⟨rfl, rfl, rfl⟩
    refine c_wb (fun k => ⟨fun _ => ?_, fun z => absI z⟩) (fun k => ⟨fun z => absurd rfl z, fun _ => ⟨J2, .inr ⟨rfl, LK.dn (i := i) (fun ok => k ?_) (by omega)⟩⟩⟩)
    rotate_left
    · exact bd_of (by omega) (by rw [show (1 : Int32).toInt = 1 by decide]; unfold okT9 at ok; omega) (by rw [show (999 : Int32).toInt = 999 by decide]; unfold okT9 at ok; omega)
    have ok : okT9 f a b i := by
      unfold bd at k
      rw [nI_toInt (by omega), show (1 : Int32).toInt = 1 by decide, show (999 : Int32).toInt = 999 by decide] at k
      unfold okT9; omega
    refine c_i (p_atT T2) ?_
    rintro _ _ _ ⟨rfl, rfl, rfl⟩
    rw [show tat h2 18 (nI i) (1 : Int32) = f (737 + 2 * i + 1) from (tat_nI T2 (b := 1) (by omega) (by omega)).trans (c2.ct T2 (by omega) (by omega))]
    have j91 : ∀ (fc : Nat), fc = fcT f a b i → 1 ≤ fc → fc ≤ 999 → j_X1_weigh_91 (fun r h' _ => JJ (SB 114) h h' ∧ ((r = 1 ∧ ∃ v W, LK f a b n v ∧ W ≤ 15 ∧ GC h' 114 W v) ∨ (r = 0 ∧ ∀ v, ¬ LK f a b n v))) (fun x1 x2 x3 x4 h g => K (x1, x2, x3, x4, h, g)) (nI a) (nI b) (nI i) (nI wt) (nI fc) h2 g2 := by
      intro fc efc f1 f2
      have wf : wt * fc ≤ 1073740 * 999 := Nat.mul_le_mul (by omega) f2
      have wf1 : 1 ≤ wt * fc := Nat.mul_pos (by omega) (by omega)
      have lk' : LK f a b (i + 1) (u * (wt * fc)) := ⟨u * wt, lk, ok, by rw [← efc, Nat.mul_assoc]⟩
      unfold j_X1_weigh_91
      rw [pk_mul]
      rintro _ rfl
      refine ⟨fun z => ?_, fun z => ?_⟩
      · rw [show (1073741 : Int32) = nI 1073741 from rfl, nI_ltI (by omega) (by omega)] at z
        unfold j_X1_weigh_109
        rintro _ rfl
        exact hK _ ⟨i + 1, wt * fc, u, W, by omega, rfl, rfl, rfl, (nI_1 i).symm, J2, wf1, z, A2, lk'⟩ hd
      · refine c_v (q_X0_times (B := wt * fc) A2 (by omega) (by omega)) ?_
        rintro h3 _ ⟨rfl, J3, W', hW', A3⟩
        unfold j_X1_weigh_109
        rintro _ rfl
        exact hK _ ⟨i + 1, 1, u * (wt * fc), W', by omega, rfl, rfl, rfl, (nI_1 i).symm, J2.tr J3, by omega, by omega, A3, by rw [Nat.mul_one]; exact lk'⟩ hd
    unfold okT9 at ok
    refine ⟨fun z => ?_, fun z => j91 _ (by unfold fcT; rw [if_pos z]) (by omega) (by omega)⟩
    rw [show (1000 : Int32) = nI 1000 from rfl, pk_sub (by omega)]
    exact j91 _ (by unfold fcT; rw [if_neg z]) (by omega) (by omega)
theorem BF9.lt {f : Nat → Int32} {n : Nat} : ∀ {k c v : Nat}, BF9 f n k c v → c < k
  | 0, _, _, x => absurd x id
  | k + 1, c, v, x => by
    rcases x with ⟨-, e, -⟩ | ⟨x1, -⟩
    · omega
    · have := BF9.lt x1; omega
theorem q_X10_fitted {h : HI} {g : HL} {f : Nat → Int32} (c : CX h f) {n : Nat} (T : TT h 18 n 2 40) : w_X10_fitted h g (fun r h' _ => JJ SBrk h h' ∧ AFT f n r) := by
  have hn := T.2.2.2.1
  have uS : ∀ o, 110 ≤ o ∧ o ≤ 116 → ∀ q, SB o q → SBrk q := fun o ho q hq => by unfold SB at hq; unfold SBrk; omega
  unfold w_X10_fitted
  refine ⟨fun r h' _ => JJ SBrk h h' ∧ AFT f n r, ?_, fun _ _ _ x => x⟩
  unfold w_X1_fit
  refine lpE_intro (fun ⟨a_q, b_q, h_q, _⟩ => ∃ k : Nat, k ≤ 100 ∧ nI k = b_q ∧ JJ SBrk h h_q ∧ (((∀ c v, ¬ BF9 f n k c v) ∧ a_q = -1) ∨ ∃ c v W : Nat, BF9 f n k c v ∧ a_q = nI c ∧ W ≤ 15 ∧ GC h_q 116 W v)) (fun ⟨_, b_q, _, _⟩ => dif (nI 100) b_q) ?_ _ ⟨0, by omega, nI_0, JJ.rf, .inl ⟨fun _ _ x => x, rfl⟩⟩
  rintro ⟨y1, y2, h2, g2⟩ K ⟨k, hk, rfl, J2, st⟩ hK
  have T2 : TT h2 18 n 2 40 := T.cg (J2 18 (by unfold SBrk; omega))
  have c2 : CX h2 f := c.jj J2 (fun q hq => by unfold SBrk; omega)
  unfold F_X1_fit_4; dsimp only; unfold b_X1_fit_4
  refine ⟨fun q => ⟨J2, ?_⟩, fun q => ?_⟩
  · rw [show (100 : Int32) = nI 100 from rfl, nI_leI (by omega) (by omega)] at q
    have : k = 100 := by omega
    subst this
    rcases st with st | ⟨c', v', W, x, e, -⟩
    · exact .inl st
    · exact .inr ⟨c', v', x, e⟩
  · have hd := dif_lt (a := nI 100) q
    rw [show (100 : Int32) = nI 100 from rfl, nI_leI (by omega) (by omega)] at q
    rw [show (10 : Int32) = nI 10 from rfl, pk_rem (by omega) (by omega) (by omega), pk_div (by omega) (by omega) (by omega)]
    refine c_z (q_X1_weigh c2 T2 (a := k / 10) (b := k % 10) (by omega) (by omega)) ?_
    rintro r h3 g3 ⟨J3, o⟩
    have J3' : JJ SBrk h h3 := J2.tr (J3.mo (uS 114 (by omega)))
    have st3 : ((∀ c v, ¬ BF9 f n k c v) ∧ y1 = -1) ∨ ∃ c v W : Nat, BF9 f n k c v ∧ y1 = nI c ∧ W ≤ 15 ∧ GC h3 116 W v := by
      rcases st with st | ⟨c', v', W, x, e, hW, A⟩
      · exact .inl st
      · exact .inr ⟨c', v', W, x, e, hW, A.fr J3 (by unfold SB; omega)⟩
    have nxt : ∀ (a : Int32) (h4 : HI) (g4 : HL), JJ SBrk h h4 → (((∀ c v, ¬ BF9 f n (k + 1) c v) ∧ a = -1) ∨ ∃ c v W : Nat, BF9 f n (k + 1) c v ∧ a = nI c ∧ W ≤ 15 ∧ GC h4 116 W v) → j_X1_fit_60 (fun r h' _ => JJ SBrk h h' ∧ AFT f n r) (fun x1 x2 h g => K (x1, x2, h, g)) a (nI k) h4 g4 := by
      intro a h4 g4 J4 s4
      unfold j_X1_fit_60
      rintro _ rfl
      exact hK _ ⟨k + 1, by omega, (nI_1 k).symm, J4, s4⟩ hd
    rcases o with ⟨rfl, v, W, lk, hW, A⟩ | ⟨rfl, no⟩
    · refine ⟨fun _ => ?_, fun z => absurd z (by decide)⟩
      have take : ∀ g4 : HL, (∀ c' u, BF9 f n k c' u → u < v) → j_X1_fit_47 (fun r h' _ => JJ SBrk h h' ∧ AFT f n r) (fun x1 x2 h g => K (x1, x2, h, g)) (nI k) h3 g4 := by
        intro g4 al
        unfold j_X1_fit_47
        refine c_v (q_X0_copy (o := 116) A (by omega) (by omega)) ?_
        rintro h4 _ ⟨rfl, J4, A4⟩
        exact nxt _ h4 _ (J3'.tr (J4.mo (uS 116 (by omega)))) (.inr ⟨k, v, W, .inl ⟨lk, rfl, al⟩, rfl, hW, A4⟩)
      rcases st3 with ⟨nb, e⟩ | ⟨c', v', W', x, e, hW', A'⟩
      · exact ⟨fun _ => take _ (fun c' u x => absurd x (nb c' u)), fun z => absurd e z⟩
      · have cl := x.lt
        refine ⟨fun z => absurd (e.symm.trans z) (nI_nm (by omega)), fun _ => ?_⟩
        refine c_z (q_X0_above A A' (by omega) (by omega)) ?_
        rintro r _ g5 ⟨rfl, -, ⟨rfl, lt⟩ | ⟨rfl, le⟩⟩
        · exact ⟨fun z => absurd z (by decide), fun _ => take _ (fun c2 u x2 => by rw [(x2.un x).2]; exact lt)⟩
        · exact ⟨fun _ => nxt _ h3 _ J3' (.inr ⟨c', v', W', .inr ⟨x, fun u lu => by rw [lu.un lk]; exact le⟩, e, hW', A'⟩), fun z => absurd rfl z⟩
    · refine ⟨fun z => absurd rfl z, fun _ => nxt _ h3 _ J3' ?_⟩
      rcases st3 with ⟨nb, e⟩ | ⟨c', v', W', x, e, hW', A'⟩
      · exact .inl ⟨fun c' v' x => x.elim (fun q => no _ q.1) (fun q => nb _ _ q.1), e⟩
      · exact .inr ⟨c', v', W', .inr ⟨x, fun u lu => absurd lu (no u)⟩, e, hW', A'⟩
/-! the reference -/
theorem q_X11_likes {h : HI} {g : HL} {f : Nat → Int32} (ef : h 136 = f) (vr : VR f) {n a b : Nat} (en : f 6 = nI n) (hn : n ≤ 40) (ha : a ≤ 9) (hb : b ≤ 9) : w_X11_likes (nI a) (nI b) h g (fun r h' _ => BF 2 h h' ∧ ((r = 1 ∧ ∃ W v, W ≤ 41 ∧ LK f a b n v ∧ BG h' 2 W v) ∨ (r = 0 ∧ ∀ v, ¬ LK f a b n v))) := by
  unfold w_X11_likes
  refine c_v (p_X11_sets (r := 2) (v := 1) (by omega) (.inl rfl)) ?_
  rintro h1 _ ⟨rfl, F1, G1⟩
  refine lpE_intro (fun ⟨a_q, b_q, c_q, h_q, _⟩ => ∃ k W v : Nat, k ≤ n ∧ nI a = a_q ∧ nI b = b_q ∧ nI k = c_q ∧ BF 2 h h_q ∧ W ≤ k + 1 ∧ LK f a b k v ∧ BG h_q 2 W v) (fun ⟨_, _, c_q, _, _⟩ => dif (nI n) c_q) ?_ _ ⟨0, 1, 1, Nat.zero_le _, rfl, rfl, nI_0, F1, by omega, rfl, G1⟩
  rintro ⟨y1, y2, y3, h2, g2⟩ K ⟨k, W, v, hk, rfl, rfl, rfl, F2, hW, lk, G2⟩ hK
  have f2 : h2 136 = f := (F2.1 136 (by decide) (by decide)).trans ef
  unfold F_X11_likes_8; dsimp only; unfold b_X11_likes_8
  rw [F2.1 136 (by decide) (by decide), ef, show (6 : Int32).toNatClampNeg = 6 by decide, en]
  refine and_have (vp_in_iff.mpr (by decide)) (fun _ => ⟨fun c => ⟨F2, .inl ⟨rfl, W, v, by omega, ?_, G2⟩⟩, fun c => ?_⟩)
  · rw [nI_leI (by omega) (by omega)] at c
    rw [show n = k by omega]; exact lk
  have hd := dif_lt c
  rw [nI_leI (by omega) (by omega)] at c
  obtain ⟨l1, l2⟩ := vr.ld (i := k) (by omega)
  have bl : b * ldT f k ≤ 9 * 100 := Nat.mul_le_mul hb l1
  rw [show (737 : Int32) + ((2 : Int32) * nI k) + (1 : Int32) = nI (737 + 2 * k + 1) from ix3 737 2 k 1, show (737 : Int32) + ((2 : Int32) * nI k) = nI (737 + 2 * k) from ix2 737 2 k, nI_clamp (n := 737 + 2 * k) (by omega), nI_clamp (n := 737 + 2 * k + 1) (by omega)]
  refine and_have (vp_in_nI (by omega) (by omega)) (fun _ => ?_)
  rw [show f (737 + 2 * k) = nI (ldT f k) from l2, pk_mul, nI_add]
  rintro _ rfl
  refine c_in3 (fun q => ⟨fun _ => ?_, fun z => absI z⟩) (fun q => ⟨fun z => absurd rfl z, fun _ => ⟨F2, .inr ⟨rfl, LK.dn (i := k) (fun ok => q ?_) (by omega)⟩⟩⟩)
  rotate_left
  · exact bd_of (by omega) (by rw [show (1 : Int64).toInt = 1 by decide]; unfold okT9 at ok; omega) (by rw [show (999 : Int64).toInt = 999 by decide]; unfold okT9 at ok; omega)
  have ok : okT9 f a b k := by
    unfold bd at q
    rw [nI_toInt (by omega), show (1 : Int64).toInt = 1 by decide, show (999 : Int64).toInt = 999 by decide] at q
    unfold okT9; omega
  have j83 : ∀ B : Nat, B = fcT f a b k → B ≤ 1000 → j_X11_likes_83 (fun r h' _ => BF 2 h h' ∧ ((r = 1 ∧ ∃ W v, W ≤ 41 ∧ LK f a b n v ∧ BG h' 2 W v) ∨ (r = 0 ∧ ∀ v, ¬ LK f a b n v))) (fun x1 x2 x3 h g => K (x1, x2, x3, h, g)) (nI a) (nI b) (nI k) (2 : Int32) (nI B) h2 g2 := by
    intro B eB hB
    unfold j_X11_likes_83
    refine c_v (p_X11_times (r := 2) (by omega) hB G2 (by omega)) ?_
    rintro h3 g3 ⟨F3, W', hW', G3⟩
    rintro _ rfl
    exact hK _ ⟨k + 1, W', _, by omega, rfl, rfl, (nI_1 k).symm, F2.tr F3, by omega, ⟨v, lk, ok, by rw [eB]⟩, G3⟩ hd
  unfold okT9 at ok
  refine and_have (vp_in_nI (by omega) (by omega)) (fun _ => ⟨fun z => ?_, fun z => j83 _ (by rw [f2] at z; unfold fcT; rw [if_pos z]) (by omega)⟩)
  rw [show (1000 : Int32) = nI 1000 from rfl, pk_sub (by omega)]
  exact j83 _ (by rw [f2] at z; unfold fcT; rw [if_neg z]) (by omega)
theorem q_X11_fitted {h : HI} {g : HL} {f : Nat → Int32} (ef : h 136 = f) (vr : VR f) {n : Nat} (en : f 6 = nI n) (hn : n ≤ 40) : w_X11_fitted h g (fun r h' _ => AFT f n r ∧ KJ SBg h h' ∧ h' 147 0 = h 147 0 ∧ h' 147 1 = h 147 1) := by
  have fr : ∀ {a b : HI} {r : Nat}, BF r a b → 2 ≤ r → KJ SBg h a ∧ a 147 0 = h 147 0 ∧ a 147 1 = h 147 1 → KJ SBg h b ∧ b 147 0 = h 147 0 ∧ b 147 1 = h 147 1 := fun F hr x =>
    ⟨x.1.tr F.kj, (F.2.1 0 (by omega)).trans x.2.1, (F.2.1 1 (by omega)).trans x.2.2⟩
  unfold w_X11_fitted
  refine lpE_intro (fun ⟨a_q, b_q, h_q, _⟩ => ∃ k : Nat, k ≤ 100 ∧ nI k = b_q ∧ (KJ SBg h h_q ∧ h_q 147 0 = h 147 0 ∧ h_q 147 1 = h 147 1) ∧ (((∀ c v, ¬ BF9 f n k c v) ∧ a_q = -1) ∨ ∃ c v W : Nat, BF9 f n k c v ∧ a_q = nI c ∧ W ≤ 41 ∧ BG h_q 4 W v)) (fun ⟨_, b_q, _, _⟩ => dif (nI 100) b_q) ?_ _ ⟨0, by omega, nI_0, ⟨KJ.rf, rfl, rfl⟩, .inl ⟨fun _ _ x => x, rfl⟩⟩
  rintro ⟨y1, y2, h1, g1⟩ K ⟨k, hk, rfl, J1, hb⟩ hK
  unfold F_X11_fitted_4; dsimp only; unfold b_X11_fitted_4
  refine ⟨fun c => ⟨?_, J1⟩, fun c => ?_⟩
  · rw [show (100 : Int32) = nI 100 from rfl, nI_leI (by omega) (by omega)] at c
    have : k = 100 := by omega
    subst this
    rcases hb with st | ⟨c', v', W, x, e, -⟩
    · exact .inl st
    · exact .inr ⟨c', v', x, e⟩
  have hd := dif_lt (a := nI 100) c
  rw [show (100 : Int32) = nI 100 from rfl, nI_leI (by omega) (by omega)] at c
  have f1 : h1 136 = f := (J1.1.f6 (fun k => by unfold SBg; omega)).trans ef
  rw [show (10 : Int32) = nI 10 from rfl, pk_rem (by omega) (by omega) (by omega), pk_div (by omega) (by omega) (by omega)]
  refine c_z (q_X11_likes f1 vr en hn (a := k / 10) (b := k % 10) (by omega) (by omega)) ?_
  rintro r h2 g2 ⟨F2, o⟩
  have J2 := fr F2 (by omega) J1
  have hb2 : ((∀ c v, ¬ BF9 f n k c v) ∧ y1 = -1) ∨ ∃ c v W : Nat, BF9 f n k c v ∧ y1 = nI c ∧ W ≤ 41 ∧ BG h2 4 W v := by
    rcases hb with st | ⟨c', v', W, x, e, hW, A⟩
    · exact .inl st
    · exact .inr ⟨c', v', W, x, e, hW, A.fr F2 (by omega) (by omega)⟩
  have j91 : ∀ (a : Int32) (h3 : HI) (g3 : HL), (KJ SBg h h3 ∧ h3 147 0 = h 147 0 ∧ h3 147 1 = h 147 1) → (((∀ c v, ¬ BF9 f n (k + 1) c v) ∧ a = -1) ∨ ∃ c v W : Nat, BF9 f n (k + 1) c v ∧ a = nI c ∧ W ≤ 41 ∧ BG h3 4 W v) → j_X11_fitted_91 (fun r h' _ => AFT f n r ∧ KJ SBg h h' ∧ h' 147 0 = h 147 0 ∧ h' 147 1 = h 147 1) (fun x1 x2 h g => K (x1, x2, h, g)) a (nI k) h3 g3 := by
    intro a h3 g3 J3 hb3
    unfold j_X11_fitted_91
    rintro _ rfl
    exact hK _ ⟨k + 1, by omega, (nI_1 k).symm, J3, hb3⟩ hd
  rcases o with ⟨rfl, W, v, hW, lk, G2⟩ | ⟨rfl, no⟩
  rotate_left
  · refine ⟨fun _ => j91 _ h2 _ J2 ?_, fun z => absurd rfl z⟩
    rcases hb2 with ⟨nb, e⟩ | ⟨c', v', W', x, e, hW', A'⟩
    · exact .inl ⟨fun c' v' x => x.elim (fun q => no _ q.1) (fun q => nb _ _ q.1), e⟩
    · exact .inr ⟨c', v', W', .inr ⟨x, fun u lu => absurd lu (no u)⟩, e, hW', A'⟩
  have j39 : ∀ g2 : HL, (∀ c' u, BF9 f n k c' u → u < v) → j_X11_fitted_39 (fun r h' _ => AFT f n r ∧ KJ SBg h h' ∧ h' 147 0 = h 147 0 ∧ h' 147 1 = h 147 1) (fun x1 x2 h g => K (x1, x2, h, g)) (nI k) h2 g2 := by
    intro g2 al
    unfold j_X11_fitted_39
    rw [cl2, cl4, G2.1]
    refine and_have (vp_in_iff.mpr (by decide)) (fun _ => and_have (vp_in_iff.mpr (by decide)) (fun _ => ?_))
    intro h3 e3
    have F3 : BF 4 h2 h3 := ⟨fun o n m => by rw [e3, hu_ne m], fun q n => by rw [e3, hu_eq, pk_un n], fun j _ => by rw [e3, hu_ne (by decide)]⟩
    have e34 : h3 147 4 = nI W := by rw [e3, hu_eq, pk_us]
    have e3b : h3 146 = h2 146 := by rw [e3, hu_ne (by decide)]
    refine lpE_intro (fun ⟨a_q, b_q, c_q, h_q, _⟩ => ∃ j : Nat, j ≤ W ∧ nI k = a_q ∧ nI k = b_q ∧ nI j = c_q ∧ BF 4 h2 h_q ∧ h_q 147 4 = nI W ∧ ∀ i, i < j → h_q 146 (320 + i) = h2 146 (160 + i)) (fun ⟨_, _, c_q, _, _⟩ => dif (nI W) c_q) ?_ _ ⟨0, Nat.zero_le _, rfl, rfl, nI_0, F3, e34, fun i hi => by omega⟩
    rintro ⟨z1, z2, z3, h4, g4⟩ K2 ⟨j, hj, rfl, rfl, rfl, F4, e44, hi⟩ hK2
    unfold F_X11_fitted_55; dsimp only; unfold b_X11_fitted_55
    rw [cl2, (F4.2.1 2 (by omega)).trans G2.1]
    refine and_have (vp_in_iff.mpr (by decide)) (fun _ => ⟨fun cj => ?_, fun cj => ?_⟩)
    · have ej : j = W := by
        rw [nI_leI (by omega) (by omega)] at cj; omega
      subst ej
      refine j91 _ h4 g4 (fr F4 (by omega) J2) (.inr ⟨k, v, j, .inl ⟨lk, rfl, al⟩, rfl, hW, e44, ?_, ?_, ?_⟩)
      · exact fun i h => by
          obtain ⟨d, hd1, hd2⟩ := G2.2.1 i h
          exact ⟨d, hd1, (hi i h).trans hd2⟩
      · rw [← G2.2.2.1]
        have : ∀ m, m ≤ j → vl (h4 146) (80 * 4) m = vl (h2 146) (80 * 2) m := by
          intro m hm
          induction m with
          | zero => rfl
          | succ m ih =>
            unfold vl
            rw [ih (by omega), show 80 * 4 + m = 320 + m by omega, hi m (by omega)]
        exact this j (Nat.le_refl _)
      · intro V hV
        have := G2.2.2.2 V hV
        rw [show 80 * 4 + V = 320 + V by omega, hi V (by omega)]; exact this
    · have hd2 := dif_lt cj
      rw [nI_leI (by omega) (by omega)] at cj
      rw [show (160 : Int32) + nI j = nI (160 + j) from nI_add 160 j, show (320 : Int32) + nI j = nI (320 + j) from nI_add 320 j, nI_clamp (by omega), nI_clamp (by omega)]
      refine and_have (vp_in_nI (by omega) (by omega)) (fun _ => and_have (vp_in_nI (by omega) (by omega)) (fun _ => ?_))
      intro h5 e5
      rintro _ rfl
      refine hK2 _ ⟨j + 1, by omega, rfl, rfl, (nI_1 j).symm, F4.tr ⟨fun o n m => by rw [e5, hu_ne n], fun q n => by rw [e5, hu_ne (by decide)], fun i h => by rw [e5, hu_eq, pk_un (by omega)]⟩, by rw [e5, hu_ne (by decide)]; exact e44, ?_⟩ hd2
      intro i hi2
      rw [e5, hu_eq]
      by_cases ei : i = j
      · subst ei
        rw [pk_us]
        exact F4.2.2 _ (by omega)
      · rw [pk_un (by omega)]; exact hi i (by omega)
  refine ⟨fun z => absurd z (by decide), fun _ => ?_⟩
  rcases hb2 with ⟨nb, e⟩ | ⟨c', v', W', x, e, hW', A'⟩
  · exact ⟨fun _ => j39 _ (fun c' u x => absurd x (nb c' u)), fun z => absurd e z⟩
  · have cl := x.lt
    refine ⟨fun z => absurd (e.symm.trans z) (nI_nm (by omega)), fun _ => ?_⟩
    refine c_i (p_X11_against (r := 2) (s := 4) (by omega) (by omega) G2 A' (by omega) (by omega)) ?_
    rintro _ _ g5 ⟨rfl, -, rfl⟩
    refine ⟨fun z => j91 _ h2 _ J2 (.inr ⟨c', v', W', .inr ⟨x, fun u lu => ?_⟩, e, hW', A'⟩), fun z => j39 _ (fun c2 u x2 => ?_)⟩
    · rw [lu.un lk]
      have : ¬ (0 : Int32) < cmpN v v' := Int32.not_lt.mpr z
      rw [cmpN_pos] at this
      omega
    · rw [(x2.un x).2]
      exact cmpN_pos.mp (Int32.not_le.mp z)
