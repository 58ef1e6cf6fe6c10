/-! CALLS THAT CHANGE CELLS, and what they write -/
theorem pw_at {o w b c : Nat} {v : Int32} {h : HI} (hc : c < w) : pw o w b c v h (o + 1) = upd (h (o + 1)) (b + c) v := by
  unfold pw; rw [if_pos hc, hu_eq]
theorem pw_J {o w b c : Nat} {v : Int32} {h h' : HI} (e : h' = pw o w b c v h) : JJ (SB o) h h' := fun q hq => by
  rw [e, pw_ne (fun k => hq (.inr k))]
theorem pw_T {o w b c m M w' : Nat} {v : Int32} {h h' : HI} (T : TT h o m w' M) (e : h' = pw o w b c v h) : TT h' o m w' M := T.cg (by rw [e, pw_ne (by omega)])
theorem row_n {c x : Int32} {m : Nat} (r : isRow c x) (e : c = nI m) (hm : m < 2 ^ 31) : ∃ n, n < m ∧ x = nI n := by
  unfold isRow at r
  rw [e, nI_toInt hm] at r
  obtain ⟨n, hn, rfl⟩ := nI_of (x := x) (fun q => by
    rw [Int32.lt_iff_toInt_lt, show (0 : Int32).toInt = 0 by decide] at q
    omega)
  rw [nI_toInt hn] at r
  exact ⟨n, by omega, rfl⟩
theorem row_of {m n : Nat} (h : n < m) (hm : m < 2 ^ 31) : isRow (nI m) (nI n) := by
  unfold isRow
  rw [nI_toInt hm, nI_toInt (by omega)]; omega
def zf (x : Int32) : Int32 := if x = 0 then 0 else 1
def EFc (x1 x2 x3 x4 : Int32) (h : HI) (r : Int32) (h' : HI) : Prop := (¬ K_fam x1 x2 x3 x4 ∧ r = -2 ∧ h' = h) ∨ (K_fam x1 x2 x3 x4 ∧ r = 1 ∧ ∃ n, n < 4 ∧ x1 = nI n ∧ h' 5 = upd (upd (upd (h 5) (n * 3 + 0) x2) (n * 3 + 1) x3) (n * 3 + 2) x4)
theorem q_X10_family {h : HI} {g : HL} (T : TT h 4 4 3 4) {x1 x2 x3 x4 : Int32} : w_X10_family x1 x2 x3 x4 h g (fun r h' _ => PTc (EFc x1 x2 x3 x4 h r h') h h' 4 4 3 4) := by
  have bad : ¬ K_fam x1 x2 x3 x4 → PTc (EFc x1 x2 x3 x4 h (-2) h) h h 4 4 3 4 := fun k => ⟨.inl ⟨k, rfl, rfl⟩, JJ.rf, T⟩
  have e4 : isRow (h 4 3) x1 ↔ bd 0 3 x1 := row4 T.2.2.1 (by omega)
  unfold w_X10_family
  refine c_hb (fun q0 => ⟨fun c => absI c, fun _ => ?_⟩) (fun q0 => ⟨fun _ => bad (fun hc => q0 (e4.mpr hc.1)), fun c => absN c⟩)
  refine c_wb (fun q1 => ⟨fun _ => ?_, fun c => absI c⟩) (fun q1 => ⟨fun c => absurd rfl c, fun _ => bad (fun hc => q1 (bd.mo hc.2.1 (by decide) (by decide)))⟩)
  refine c_wb (fun q2 => ⟨fun c => absI c, fun _ => ?_⟩) (fun q2 => ⟨fun _ => bad (fun hc => q2 (bd.mo hc.2.2.1 (by decide) (by decide))), fun c => absN c⟩)
  refine c_wb (fun q3 => ⟨fun _ => ?_, fun c => absI c⟩) (fun q3 => ⟨fun c => absurd rfl c, fun _ => bad (fun hc => q3 (bd.mo hc.2.2.2.1 (by decide) (by decide)))⟩)
  refine ⟨fun q4 => ?_, fun q4 => bad (fun hc => q4 hc.2.2.2.2)⟩
  have hC : K_fam x1 x2 x3 x4 := ⟨e4.mp q0, bd.mo q1 (by decide) (by decide), bd.mo q2 (by decide) (by decide), bd.mo q3 (by decide) (by decide), q4⟩
  clear bad e4
  obtain ⟨n, n1, n2, rfl⟩ := bd_nI hC.1
  refine c_v (p_putG T (a := n) (by omega) 0 (by omega)) ?_
  rintro h1 g1 ⟨e1, -⟩
  have T1 := pw_T T e1
  refine c_v (p_putG T1 (a := n) (by omega) 1 (by omega)) ?_
  rintro h2 g2 ⟨e2, -⟩
  have T2 := pw_T T1 e2
  refine c_v (p_putG T2 (a := n) (by omega) 2 (by omega)) ?_
  rintro h3 g3 ⟨e3, -⟩
  refine ⟨.inr ⟨hC, rfl, n, by omega, rfl, ?_⟩, (((pw_J e1).tr (pw_J e2)).tr (pw_J e3)).mo SB.sm, pw_T T2 e3⟩
  have a1 : h1 5 = upd (h 5) (n * 3 + 0) x2 := by rw [e1]; exact pw_at (o := 4) (by decide)
  have a2 : h2 5 = upd (h1 5) (n * 3 + 1) x3 := by rw [e2]; exact pw_at (o := 4) (by decide)
  have a3 : h3 5 = upd (h2 5) (n * 3 + 2) x4 := by rw [e3]; exact pw_at (o := 4) (by decide)
  rw [a3, a2, a1]
def EOc (x1 x2 : Int32) (h : HI) (r : Int32) (h' : HI) : Prop := (¬ K_odds x1 x2 ∧ r = -2 ∧ h' = h) ∨ (K_odds x1 x2 ∧ r = 1 ∧ h' 17 = upd (upd (h 17) (0 * 2 + 0) x1) (0 * 2 + 1) x2)
theorem q_X10_odds {h : HI} {g : HL} (T : TT h 16 1 2 1) {x1 x2 : Int32} : w_X10_odds x1 x2 h g (fun r h' _ => PTc (EOc x1 x2 h r h') h h' 16 1 2 1) := by
  have bad : ¬ K_odds x1 x2 → PTc (EOc x1 x2 h (-2) h) h h 16 1 2 1 := fun k => ⟨.inl ⟨k, rfl, rfl⟩, JJ.rf, T⟩
  unfold w_X10_odds
  refine c_wb (fun q1 => ⟨fun c => absI c, fun _ => ?_⟩) (fun q1 => ⟨fun _ => bad (fun hc => q1 (bd.mo hc.1 (by decide) (by decide))), fun c => absN c⟩)
  refine c_wb (fun q2 => ⟨fun _ => ?_, fun c => absI c⟩) (fun q2 => ⟨fun c => absurd rfl c, fun _ => bad (fun hc => q2 (bd.mo hc.2 (by decide) (by decide)))⟩)
  refine c_v (p_putG T (a := 0) (by omega) 0 (by omega)) ?_
  rintro h1 g1 ⟨e1, -⟩
  have T1 := pw_T T e1
  refine c_v (p_putG T1 (a := 0) (by omega) 1 (by omega)) ?_
  rintro h2 g2 ⟨e2, -⟩
  refine ⟨.inr ⟨⟨bd.mo q1 (by decide) (by decide), bd.mo q2 (by decide) (by decide)⟩, rfl, ?_⟩, ((pw_J e1).tr (pw_J e2)).mo SB.sm, pw_T T1 e2⟩
  have a1 : h1 17 = upd (h 17) (0 * 2 + 0) x1 := by rw [e1]; exact pw_at (o := 16) (by decide)
  have a2 : h2 17 = upd (h1 17) (0 * 2 + 1) x2 := by rw [e2]; exact pw_at (o := 16) (by decide)
  rw [a2, a1]
def EDc (m : Nat) (x1 x2 : Int32) (h : HI) (r : Int32) (h' : HI) : Prop := (¬ isRow (h 6 3) x1 ∧ r = -2 ∧ h' = h) ∨ ∃ n, n < m ∧ x1 = nI n ∧ ((h 7 (n * 6 + 5) = zf x2 ∧ r = -3 ∧ h' = h) ∨ (¬ h 7 (n * 6 + 5) = zf x2 ∧ r = 1 ∧ h' 7 = upd (h 7) (n * 6 + 5) (zf x2)))
theorem q_X10_deny {h : HI} {g : HL} {m : Nat} (T : TT h 6 m 6 60) {x1 x2 : Int32} : w_X10_deny x1 x2 h g (fun r h' _ => PTc (EDc m x1 x2 h r h') h h' 6 m 6 60) := by
  have hm := T.2.2.2.1
  unfold w_X10_deny
  refine c_hb (fun q0 => ?_) (fun q0 => ⟨fun c => absurd rfl c, fun _ => ⟨.inl ⟨q0, rfl, rfl⟩, JJ.rf, T⟩⟩)
  obtain ⟨n, hn, rfl⟩ := row_n q0 T.2.2.1 (by omega)
  have j26 : ∀ s : Int32, s = zf x2 → j_X10_deny_26 (fun r h' _ => PTc (EDc m (nI n) x2 h r h') h h' 6 m 6 60) (nI n) s h g := by
    rintro _ rfl
    unfold j_X10_deny_26
    refine c_i (p_atT T) ?_
    rintro _ _ _ ⟨rfl, rfl, rfl⟩
    rw [show tat h 6 (nI n) (5 : Int32) = h 7 (n * 6 + 5) from tat_nI T (b := 5) hn (by omega)]
    refine ⟨fun c => ?_, fun c => ⟨.inr ⟨n, hn, rfl, .inl ⟨c, rfl, rfl⟩⟩, JJ.rf, T⟩⟩
    refine c_v (p_putG T hn 5 (by omega)) ?_
    rintro h1 g1 ⟨e1, -⟩
    refine ⟨.inr ⟨n, hn, rfl, .inr ⟨c, rfl, ?_⟩⟩, (pw_J e1).mo SB.sm, pw_T T e1⟩
    rw [e1]; exact pw_at (o := 6) (by decide)
  exact ⟨fun _ => ⟨fun c => j26 _ (if_pos c).symm, fun c => j26 _ (if_neg c).symm⟩, fun c => absI c⟩
def K_need (x1 x2 : Int32) : Prop := bd 0 3 x1 ∧ bd 0 9 x2
def ENc (x1 x2 : Int32) (h : HI) (r : Int32) (h' : HI) : Prop := (¬ K_need x1 x2 ∧ r = -2 ∧ h' = h) ∨ (K_need x1 x2 ∧ ∃ n, n < 4 ∧ x1 = nI n ∧ r = h 23 (n * 1 + 0) ∧ h' 23 = upd (h 23) (n * 1 + 0) x2)
theorem q_X10_need {h : HI} {g : HL} (T : TT h 22 4 1 4) {x1 x2 : Int32} : w_X10_need x1 x2 h g (fun r h' _ => PTc (ENc x1 x2 h r h') h h' 22 4 1 4) := by
  have bad : ¬ K_need x1 x2 → PTc (ENc x1 x2 h (-2) h) h h 22 4 1 4 := fun k => ⟨.inl ⟨k, rfl, rfl⟩, JJ.rf, T⟩
  have e4 : isRow (h 22 3) x1 ↔ bd 0 3 x1 := row4 T.2.2.1 (by omega)
  unfold w_X10_need
  refine c_hb (fun q0 => ⟨fun c => absI c, fun _ => ?_⟩) (fun q0 => ⟨fun _ => bad (fun hc => q0 (e4.mpr hc.1)), fun c => absN c⟩)
  refine c_wb (fun q1 => ⟨fun _ => ?_, fun c => absI c⟩) (fun q1 => ⟨fun c => absurd rfl c, fun _ => bad (fun hc => q1 (bd.mo hc.2 (by decide) (by decide)))⟩)
  have hC : K_need x1 x2 := ⟨e4.mp q0, bd.mo q1 (by decide) (by decide)⟩
  clear bad e4
  obtain ⟨n, n1, n2, rfl⟩ := bd_nI hC.1
  refine c_i (p_atT T) ?_
  rintro _ _ _ ⟨rfl, rfl, rfl⟩
  rw [show tat h 22 (nI n) (0 : Int32) = h 23 (n * 1 + 0) from tat_nI T (b := 0) (by omega) (by omega)]
  refine c_v (p_putG T (a := n) (by omega) 0 (by omega)) ?_
  rintro h1 g1 ⟨e1, -⟩
  refine ⟨.inr ⟨hC, n, by omega, rfl, rfl, ?_⟩, (pw_J e1).mo SB.sm, pw_T T e1⟩
  rw [e1]; exact pw_at (o := 22) (by decide)
/-- bit a of v, as a number -/
def bt1 (v : Int32) (a : Nat) : Int32 := if (v >>> (nI a &&& 31)) &&& 1 = 1 then 1 else 0
def K_bear (c x1 x2 : Int32) : Prop := isRow c x1 ∧ isRow c x2 ∧ ¬ x1 = x2
def EBc (m : Nat) (x1 x2 x3 : Int32) (h : HI) (r : Int32) (h' : HI) : Prop := (¬ K_bear (h 2 3) x1 x2 ∧ r = -2 ∧ h' = h) ∨ (K_bear (h 2 3) x1 x2 ∧ ∃ a b, a < m ∧ b < m ∧ x1 = nI a ∧ x2 = nI b ∧ ((bt1 (h 3 (b * 5 + 4)) a = x3 ∧ r = -3 ∧ h' = h) ∨ (¬ bt1 (h 3 (b * 5 + 4)) a = x3 ∧ r = 1 ∧ h' 3 = upd (h 3) (b * 5 + 4) (h 3 (b * 5 + 4) ^^^ ((1 : Int32) <<< (nI a &&& 31))))))
theorem q_X10_bear {h : HI} {g : HL} {m : Nat} (T : TT h 2 m 5 24) {x1 x2 x3 : Int32} : w_X10_bear x1 x2 x3 h g (fun r h' _ => PTc (EBc m x1 x2 x3 h r h') h h' 2 m 5 24) := by
  have hm := T.2.2.2.1
  have bad : ¬ K_bear (h 2 3) x1 x2 → PTc (EBc m x1 x2 x3 h (-2) h) h h 2 m 5 24 := fun k => ⟨.inl ⟨k, rfl, rfl⟩, JJ.rf, T⟩
  unfold w_X10_bear
  refine c_hb (fun q0 => ⟨fun c => absI c, fun _ => ?_⟩) (fun q0 => ⟨fun _ => bad (fun k => q0 k.1), fun c => absN c⟩)
  refine c_hb (fun q1 => ⟨fun c => absI c, fun _ => ?_⟩) (fun q1 => ⟨fun _ => bad (fun k => q1 k.2.1), fun c => absN c⟩)
  refine ⟨fun q2 => ?_, fun q2 => bad (fun k => k.2.2 q2)⟩
  have hC : K_bear (h 2 3) x1 x2 := ⟨q0, q1, q2⟩
  clear bad
  obtain ⟨a, ha, rfl⟩ := row_n q0 T.2.2.1 (by omega)
  obtain ⟨b, hb, rfl⟩ := row_n q1 T.2.2.1 (by omega)
  refine c_i (p_atT T) ?_
  rintro _ _ _ ⟨rfl, rfl, rfl⟩
  rw [show tat h 2 (nI b) (4 : Int32) = h 3 (b * 5 + 4) from tat_nI T (b := 4) hb (by omega)]
  have j65 : ∀ s : Int32, s = bt1 (h 3 (b * 5 + 4)) a → j_X10_bear_65 (fun r h' _ => PTc (EBc m (nI a) (nI b) x3 h r h') h h' 2 m 5 24) (nI a) (nI b) x3 (h 3 (b * 5 + 4)) s h g := by
    rintro _ rfl
    unfold j_X10_bear_65
    refine ⟨fun c => ?_, fun c => ⟨.inr ⟨hC, a, b, ha, hb, rfl, rfl, .inl ⟨c, rfl, rfl⟩⟩, JJ.rf, T⟩⟩
    refine c_v (p_putG T hb 4 (by omega)) ?_
    rintro h1 g1 ⟨e1, -⟩
    refine ⟨.inr ⟨hC, a, b, ha, hb, rfl, rfl, .inr ⟨c, rfl, ?_⟩⟩, (pw_J e1).mo SB.sm, pw_T T e1⟩
    rw [e1]; exact pw_at (o := 2) (by decide)
  exact ⟨fun c => j65 _ (if_neg c).symm, fun c => j65 _ (if_pos c).symm⟩
theorem q_X6_isIn {h : HI} {g : HL} {m : Nat} (T : TT h 8 m 15 16) {c n : Nat} (hc : c < m) (hn : n ≤ 6) (en : h 9 (c * 15 + 2) = nI n) {x2 : Int32} : w_X6_isIn 1 (nI c) x2 h g (fun r h' g' => h = h' ∧ g = g' ∧ ((r = 0 ∧ ∀ k, k < n → ¬ h 9 (c * 15 + (3 + 2 * k)) = x2) ∨ (r = 1 ∧ ∃ k, k < n ∧ h 9 (c * 15 + (3 + 2 * k)) = x2))) := by
  unfold w_X6_isIn
  refine c_i (p_atT (o := 8) T) ?_
  rintro _ _ _ ⟨rfl, rfl, rfl⟩
  rw [show tat h 8 (nI c) (2 : Int32) = nI n from (tat_nI T (b := 2) hc (by omega)).trans en]
  refine lpE_intro (fun ⟨a_q, b_q, c_q, d_q, h_q, g_q⟩ => ∃ k : Nat, k ≤ n ∧ nI c = a_q ∧ x2 = b_q ∧ nI n = c_q ∧ nI k = d_q ∧ h = h_q ∧ g = g_q ∧ ∀ i, i < k → ¬ h 9 (c * 15 + (3 + 2 * i)) = x2) (fun ⟨_, _, _, d_q, _, _⟩ => dif (nI n) d_q) ?_ _ ⟨0, by omega, rfl, rfl, rfl, nI_0, rfl, rfl, fun i hi => by omega⟩
  rintro ⟨y1, y2, y3, y4, h1, g1⟩ K ⟨k, hk, rfl, rfl, rfl, rfl, rfl, rfl, no⟩ hK
  unfold F_X6_isIn_13; dsimp only; unfold b_X6_isIn_13
  refine ⟨fun c1 => ?_, fun c1 => ?_⟩
  · rw [nI_leI (by omega) (by omega)] at c1
    exact ⟨rfl, rfl, .inl ⟨rfl, fun i hi => no i (by omega)⟩⟩
  · have hd := dif_lt c1
    rw [nI_leI (by omega) (by omega)] at c1
    rw [show (3 : Int32) + ((2 : Int32) * nI k) = nI (3 + 2 * k) from ix2 3 2 k]
    refine c_i (p_atT (o := 8) T) ?_
    rintro _ _ _ ⟨rfl, rfl, rfl⟩
    rw [show tat h 8 (nI c) (nI (3 + 2 * k)) = h 9 (c * 15 + (3 + 2 * k)) from tat_nI T hc (by omega)]
    refine ⟨fun c2 => ?_, fun c2 => ⟨rfl, rfl, .inr ⟨rfl, k, by omega, c2⟩⟩⟩
    rintro _ rfl
    refine hK _ ⟨k + 1, by omega, rfl, rfl, rfl, (nI_1 k).symm, rfl, rfl, fun i hi => ?_⟩ hd
    by_cases e : i = k
    · subst e; exact c2
    · exact no i (by omega)
def ELc (m : Nat) (x1 x2 x3 : Int32) (h : HI) (r : Int32) (h' : HI) : Prop := (¬ (isRow (h 8 3) x1 ∧ isRow (h 2 3) x2) ∧ r = -2 ∧ h' = h) ∨ ((isRow (h 8 3) x1 ∧ isRow (h 2 3) x2) ∧ ∃ c n, c < m ∧ n ≤ 6 ∧ x1 = nI c ∧ h 9 (c * 15 + 2) = nI n ∧ (((∃ k, k < n ∧ h 9 (c * 15 + (3 + 2 * k)) = x2) ∧ r = -2 ∧ h' = h) ∨ ((∀ k, k < n → ¬ h 9 (c * 15 + (3 + 2 * k)) = x2) ∧ ((n = 6 ∧ r = -4 ∧ h' = h) ∨ (n < 6 ∧ r = nI (n + 1) ∧ h' 9 = upd (upd (upd (h 9) (c * 15 + (3 + 2 * n)) x2) (c * 15 + (3 + 2 * n + 1)) (zf x3)) (c * 15 + 2) (nI (n + 1)))))))
theorem q_X10_link {h : HI} {g : HL} {m : Nat} (T : TT h 8 m 15 16) (hn : ∀ c, c < m → ∃ n, n ≤ 6 ∧ h 9 (c * 15 + 2) = nI n) {x1 x2 x3 : Int32} : w_X10_link x1 x2 x3 h g (fun r h' _ => PTc (ELc m x1 x2 x3 h r h') h h' 8 m 15 16) := by
  have hm := T.2.2.2.1
  have bad : ¬ (isRow (h 8 3) x1 ∧ isRow (h 2 3) x2) → PTc (ELc m x1 x2 x3 h (-2) h) h h 8 m 15 16 := fun k => ⟨.inl ⟨k, rfl, rfl⟩, JJ.rf, T⟩
  unfold w_X10_link
  refine c_hb (fun q0 => ⟨fun c => absI c, fun _ => ?_⟩) (fun q0 => ⟨fun _ => bad (fun k => q0 k.1), fun c => absN c⟩)
  refine c_hb (fun q1 => ⟨fun c => absI c, fun _ => ?_⟩) (fun q1 => ⟨fun _ => bad (fun k => q1 k.2), fun c => absN c⟩)
  clear bad
  have hC : isRow (h 8 3) x1 ∧ isRow (h 2 3) x2 := ⟨q0, q1⟩
  obtain ⟨c, hc, rfl⟩ := row_n q0 T.2.2.1 (by omega)
  obtain ⟨n, n6, en⟩ := hn c hc
  refine c_z (q_X6_isIn T hc n6 en) ?_
  rintro r _ _ ⟨rfl, rfl, o⟩
  refine ⟨fun c0 => ?_, fun c0 => ?_⟩
  rotate_left
  · rcases o with o | o
    · exact absurd o.1 c0
    · exact ⟨.inr ⟨hC, c, n, hc, n6, rfl, en, .inl ⟨o.2, rfl, rfl⟩⟩, JJ.rf, T⟩
  have no : ∀ k, k < n → ¬ h 9 (c * 15 + (3 + 2 * k)) = x2 := by
    rcases o with o | o
    · exact o.2
    · rw [o.1] at c0; exact absurd c0 (by decide)
  refine c_i (p_atT T) ?_
  rintro _ _ _ ⟨rfl, rfl, rfl⟩
  rw [show tat h 8 (nI c) (2 : Int32) = nI n from (tat_nI T (b := 2) hc (by omega)).trans en]
  refine ⟨fun c1 => ?_, fun c1 => ?_⟩
  rotate_left
  · have n6' : n = 6 := by
      have : ¬ n < 6 := fun k => c1 ((nI_ltI (a := n) (b := 6) (by omega) (by omega)).mpr k)
      omega
    exact ⟨.inr ⟨hC, c, n, hc, n6, rfl, en, .inr ⟨no, .inl ⟨n6', rfl, rfl⟩⟩⟩, JJ.rf, T⟩
  have n5 : n < 6 := (nI_ltI (a := n) (b := 6) (by omega) (by omega)).mp c1
  rw [show (3 : Int32) + ((2 : Int32) * nI n) = nI (3 + 2 * n) from ix2 3 2 n]
  refine c_v (p_putG T hc (3 + 2 * n) (by omega)) ?_
  rintro h1 g1 ⟨e1, -⟩
  have T1 := pw_T T e1
  have j : ∀ s : Int32, s = zf x3 → j_X10_link_110 (fun r h' _ => PTc (ELc m (nI c) x2 x3 h r h') h h' 8 m 15 16) (nI c) (nI n) (nI c) (nI (3 + 2 * n) + (1 : Int32)) s h1 g1 := by
    rintro _ rfl
    unfold j_X10_link_110
    rw [nI_1, nI_1]
    refine c_v (p_putG T1 hc (3 + 2 * n + 1) (by omega)) ?_
    rintro h2 g2 ⟨e2, -⟩
    have T2 := pw_T T1 e2
    refine c_v (p_putG T2 hc 2 (by omega)) ?_
    rintro h3 g3 ⟨e3, -⟩
    refine ⟨.inr ⟨hC, c, n, hc, n6, rfl, en, .inr ⟨no, .inr ⟨n5, rfl, ?_⟩⟩⟩, (((pw_J e1).tr (pw_J e2)).tr (pw_J e3)).mo SB.sm, pw_T T2 e3⟩
    have a1 : h1 9 = upd (h 9) (c * 15 + (3 + 2 * n)) x2 := by rw [e1]; exact pw_at (o := 8) (by omega)
    have a2 : h2 9 = upd (h1 9) (c * 15 + (3 + 2 * n + 1)) (zf x3) := by rw [e2]; exact pw_at (o := 8) (by omega)
    have a3 : h3 9 = upd (h2 9) (c * 15 + 2) (nI (n + 1)) := by rw [e3]; exact pw_at (o := 8) (by omega)
    rw [a3, a2, a1]
  exact ⟨fun c => j _ (if_pos c).symm, fun c => j _ (if_neg c).symm⟩
/-- how many of n sayings are denied -/
def dsm (a : Nat → Int32) : Nat → Int32
  | 0 => 0
  | n + 1 => dsm a n + a (n * 6 + 5)
theorem dsm_cg {a b : Nat → Int32} : ∀ {n : Nat}, (∀ i, i < n → a (i * 6 + 5) = b (i * 6 + 5)) → dsm a n = dsm b n
  | 0, _ => rfl
  | n + 1, e => by
    unfold dsm
    rw [dsm_cg (fun i hi => e i (by omega)), e n (by omega)]
theorem q_X6_denied {h : HI} {g : HL} {m : Nat} (T : TT h 6 m 6 60) : w_X6_deniedSayings 1 h g (fun r h' g' => h = h' ∧ g = g' ∧ r = dsm (h 7) m) := by
  have hm := T.2.2.2.1
  have ec : h (1 + 5) 3 = nI m := T.2.2.1
  unfold w_X6_deniedSayings
  refine lpE_intro (fun ⟨a_q, b_q, h_q, g_q⟩ => ∃ k : Nat, k ≤ m ∧ dsm (h 7) k = a_q ∧ nI k = b_q ∧ h = h_q ∧ g = g_q) (fun ⟨_, b_q, _, _⟩ => dif (nI m) b_q) ?_ _ ⟨0, by omega, rfl, nI_0, rfl, rfl⟩
  rintro ⟨y1, y2, h1, g1⟩ K ⟨k, hk, rfl, rfl, rfl, rfl⟩ hK
  unfold F_X6_deniedSayings_4; dsimp only; unfold b_X6_deniedSayings_4
  refine c_i p_rows ?_
  rintro _ _ _ ⟨rfl, rfl, rfl⟩
  rw [ec]
  refine ⟨fun c => ?_, fun c => ?_⟩
  · rw [nI_leI (by omega) (by omega)] at c
    have : k = m := by omega
    subst this
    exact ⟨rfl, rfl, rfl⟩
  · have hd := dif_lt c
    rw [nI_leI (by omega) (by omega)] at c
    refine c_i (p_atT (o := 6) T) ?_
    rintro _ _ _ ⟨rfl, rfl, rfl⟩
    rw [show tat h 6 (nI k) (5 : Int32) = h 7 (k * 6 + 5) from tat_nI T (b := 5) (by omega) (by omega)]
    rintro _ rfl
    rintro _ rfl
    exact hK _ ⟨k + 1, by omega, rfl, (nI_1 k).symm, rfl, rfl⟩ hd
def tbL : List Nat := [2, 6, 0, 8, 10, 12, 14, 18, 20, 24]
def cvC (h : HI) (m k : Nat) : Int32 := if k = 2 then dsm (h 7) m else h (tbL.getD k 0) 3
theorem q_X10_count {h : HI} {g : HL} {m : Nat} (T : TT h 6 m 6 60) {x1 : Int32} : w_X10_count x1 h g (fun r h' g' => h = h' ∧ g = g' ∧ ((¬ bd 0 9 x1 ∧ r = -2) ∨ ∃ k : Nat, k ≤ 9 ∧ x1 = nI k ∧ r = cvC h m k)) := by
  unfold w_X10_count
  refine ⟨fun c => ?_, fun c => ?_, fun c => ?_, fun c => ?_, fun c => ?_, fun c => ?_, fun c => ?_, fun c => ?_, fun c => ?_, fun c => ?_, ?_⟩
  · refine c_i p_rows ?_
    rintro _ _ _ ⟨rfl, rfl, rfl⟩
    exact ⟨rfl, rfl, .inr ⟨0, by omega, c.trans nI_0.symm, rfl⟩⟩
  · refine c_i p_rows ?_
    rintro _ _ _ ⟨rfl, rfl, rfl⟩
    exact ⟨rfl, rfl, .inr ⟨1, by omega, c, rfl⟩⟩
  · refine c_i (q_X6_denied T) ?_
    rintro _ _ _ ⟨rfl, rfl, rfl⟩
    exact ⟨rfl, rfl, .inr ⟨2, by omega, c, rfl⟩⟩
  · refine c_i p_rows ?_
    rintro _ _ _ ⟨rfl, rfl, rfl⟩
    exact ⟨rfl, rfl, .inr ⟨3, by omega, c, rfl⟩⟩
  · refine c_i p_rows ?_
    rintro _ _ _ ⟨rfl, rfl, rfl⟩
    exact ⟨rfl, rfl, .inr ⟨4, by omega, c, rfl⟩⟩
  · refine c_i p_rows ?_
    rintro _ _ _ ⟨rfl, rfl, rfl⟩
    exact ⟨rfl, rfl, .inr ⟨5, by omega, c, rfl⟩⟩
  · refine c_i p_rows ?_
    rintro _ _ _ ⟨rfl, rfl, rfl⟩
    exact ⟨rfl, rfl, .inr ⟨6, by omega, c, rfl⟩⟩
  · refine c_i p_rows ?_
    rintro _ _ _ ⟨rfl, rfl, rfl⟩
    exact ⟨rfl, rfl, .inr ⟨7, by omega, c, rfl⟩⟩
  · refine c_i p_rows ?_
    rintro _ _ _ ⟨rfl, rfl, rfl⟩
    exact ⟨rfl, rfl, .inr ⟨8, by omega, c, rfl⟩⟩
  · refine c_i p_rows ?_
    rintro _ _ _ ⟨rfl, rfl, rfl⟩
    exact ⟨rfl, rfl, .inr ⟨9, by omega, c, rfl⟩⟩
  intro c0 c1 c2 c3 c4 c5 c6 c7 c8 c9
  refine ⟨rfl, rfl, .inl ⟨fun b => ?_, rfl⟩⟩
  obtain ⟨j, j1, j2, rfl⟩ := bd_nI b
  have : j = 0 ∨ j = 1 ∨ j = 2 ∨ j = 3 ∨ j = 4 ∨ j = 5 ∨ j = 6 ∨ j = 7 ∨ j = 8 ∨ j = 9 := by omega
  rcases this with rfl | rfl | rfl | rfl | rfl | rfl | rfl | rfl | rfl | rfl
  · exact c0 nI_0
  · exact c1 rfl
  · exact c2 rfl
  · exact c3 rfl
  · exact c4 rfl
  · exact c5 rfl
  · exact c6 rfl
  · exact c7 rfl
  · exact c8 rfl
  · exact c9 rfl
