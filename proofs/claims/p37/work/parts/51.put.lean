section
-- 51.put
/-! CALLS THAT CHANGE CELLS, and what they write -/
theorem pw_at {o w b c : Nat} {v : Int32} {h : HI} (hc : c < w) : pw o w b c v h (o + 1) = upd (h (o + 1)) (b + c) v := by
  unfold pw; rw [if_pos hc, hu_eq]
theorem pw_J {o w b c : Nat} {v : Int32} {h h' : HI} (e : h' = pw o w b c v h) : JJ (SB o) h h' := fun q hq => by
  rw [e, pw_ne (fun k => hq (.inr k))]
theorem pw_T {o w b c m M w' : Nat} {v : Int32} {h h' : HI} (T : TT h o m w' M) (e : h' = pw o w b c v h) : TT h' o m w' M := T.cg (by rw [e, pw_ne (by omega)])
theorem row_n {c x : Int32} {m : Nat} (r : isRow c x) (e : c = nI m) (hm : m < 2 ^ 31) : ∃ n, n < m ∧ x = nI n := by
  unfold isRow at r
  rw [e, nI_toInt hm] at r
  obtain ⟨n, hn, rfl⟩ := nI_of (x := x) (fun q => by
    rw [Int32.lt_iff_toInt_lt, show (0 : Int32).toInt = 0 by decide] at q
    omega)
  rw [nI_toInt hn] at r
  exact ⟨n, by omega, rfl⟩
theorem row_of {m n : Nat} (h : n < m) (hm : m < 2 ^ 31) : isRow (nI m) (nI n) := by
  unfold isRow
  rw [nI_toInt hm, nI_toInt (by omega)]; omega
def zf (x : Int32) : Int32 := if x = 0 then 0 else 1
def EFc (x1 x2 x3 x4 : Int32) (h : HI) (r : Int32) (h' : HI) : Prop := (¬ K_fam x1 x2 x3 x4 ∧ r = -2 ∧ h' = h) ∨ (K_fam x1 x2 x3 x4 ∧ r = 1 ∧ ∃ n, n < 4 ∧ x1 = nI n ∧ h' 5 = upd (upd (upd (h 5) (n * 3 + 0) x2) (n * 3 + 1) x3) (n * 3 + 2) x4)
theorem q_X10_family {h : HI} {g : HL} (T : TT h 4 4 3 4) {x1 x2 x3 x4 : Int32} : w_X10_family x1 x2 x3 x4 h g (fun r h' _ => PTc (EFc x1 x2 x3 x4 h r h') h h' 4 4 3 4) := by
  have bad : ¬ K_fam x1 x2 x3 x4 → PTc (EFc x1 x2 x3 x4 h (-2) h) h h 4 4 3 4 := fun k => ⟨.inl ⟨k, rfl, rfl⟩, JJ.rf, T⟩
  have e4 : isRow (h 4 3) x1 ↔ bd 0 3 x1 := row4 T.2.2.1 (by omega)
  unfold w_X10_family
  refine c_hb (fun q0 => ⟨fun c => absI c, fun _ => ?_⟩) (fun q0 => ⟨fun _ => bad (fun hc => q0 (e4.mpr hc.1)), fun c => absN c⟩)
  refine c_wb (fun q1 => ⟨fun _ => ?_, fun c => absI c⟩) (fun q1 => ⟨fun c => absurd rfl c, fun _ => bad (fun hc => q1 (bd.mo hc.2.1 (by decide) (by decide)))⟩)
  refine c_wb (fun q2 => ⟨fun c => absI c, fun _ => ?_⟩) (fun q2 => ⟨fun _ => bad (fun hc => q2 (bd.mo hc.2.2.1 (by decide) (by decide))), fun c => absN c⟩)
  refine c_wb (fun q3 => ⟨fun _ => ?_, fun c => absI c⟩) (fun q3 => ⟨fun c => absurd rfl c, fun _ => bad (fun hc => q3 (bd.mo hc.2.2.2.1 (by decide) (by decide)))⟩)
  refine ⟨fun q4 => ?_, fun q4 => bad (fun hc => q4 hc.2.2.2.2)⟩
  have hC : K_fam x1 x2 x3 x4 := ⟨e4.mp q0, bd.mo q1 (by decide) (by decide), bd.mo q2 (by decide) (by decide), bd.mo q3 (by decide) (by decide), q4⟩
  clear bad e4
  obtain ⟨n, n1, n2, rfl⟩ := bd_nI hC.1
  refine c_v (p_putG T (a := n) (by omega) 0 (by omega)) ?_
  rintro h1 g1 ⟨e1, -⟩
  have T1 := pw_T T e1
  refine c_v (p_putG T1 (a := n) (by omega) 1 (by omega)) ?_
  rintro h2 g2 ⟨e2, -⟩
  have T2 := pw_T T1 e2
  refine c_v (p_putG T2 (a := n) (by omega) 2 (by omega)) ?_
  rintro h3 g3 ⟨e3, -⟩
  refine ⟨.inr ⟨hC, rfl, n, by omega, rfl, ?_⟩, (((pw_J e1).tr (pw_J e2)).tr (pw_J e3)).mo SB.sm, pw_T T2 e3⟩
  have a1 : h1 5 = upd (h 5) (n * 3 + 0) x2 := by rw [e1]; exact pw_at (o := 4) (by decide)
  have a2 : h2 5 = upd (h1 5) (n * 3 + 1) x3 := by rw [e2]; exact pw_at (o := 4) (by decide)
  have a3 : h3 5 = upd (h2 5) (n * 3 + 2) x4 := by rw [e3]; exact pw_at (o := 4) (by decide)
  rw [a3, a2, a1]
def EOc (x1 x2 : Int32) (h : HI) (r : Int32) (h' : HI) : Prop := (¬ K_odds x1 x2 ∧ r = -2 ∧ h' = h) ∨ (K_odds x1 x2 ∧ r = 1 ∧ h' 17 = upd (upd (h 17) (0 * 2 + 0) x1) (0 * 2 + 1) x2)
theorem q_X10_odds {h : HI} {g : HL} (T : TT h 16 1 2 1) {x1 x2 : Int32} : w_X10_odds x1 x2 h g (fun r h' _ => PTc (EOc x1 x2 h r h') h h' 16 1 2 1) := by
  have bad : ¬ K_odds x1 x2 → PTc (EOc x1 x2 h (-2) h) h h 16 1 2 1 := fun k => ⟨.inl ⟨k, rfl, rfl⟩, JJ.rf, T⟩
  unfold w_X10_odds
  refine c_wb (fun q1 => ⟨fun c => absI c, fun _ => ?_⟩) (fun q1 => ⟨fun _ => bad (fun hc => q1 (bd.mo hc.1 (by decide) (by decide))), fun c => absN c⟩)
  refine c_wb (fun q2 => ⟨fun _ => ?_, fun c => absI c⟩) (fun q2 => ⟨fun c => absurd rfl c, fun _ => bad (fun hc => q2 (bd.mo hc.2 (by decide) (by decide)))⟩)
  refine c_v (p_putG T (a := 0) (by omega) 0 (by omega)) ?_
  rintro h1 g1 ⟨e1, -⟩
  have T1 := pw_T T e1
  refine c_v (p_putG T1 (a := 0) (by omega) 1 (by omega)) ?_
  rintro h2 g2 ⟨e2, -⟩
  refine ⟨.inr ⟨⟨bd.mo q1 (by decide) (by decide), bd.mo q2 (by decide) (by decide)⟩, rfl, ?_⟩, ((pw_J e1).tr (pw_J e2)).mo SB.sm, pw_T T1 e2⟩
  have a1 : h1 17 = upd (h 17) (0 * 2 + 0) x1 := by rw [e1]; exact pw_at (o := 16) (by decide)
  have a2 : h2 17 = upd (h1 17) (0 * 2 + 1) x2 := by rw [e2]; exact pw_at (o := 16) (by decide)
  rw [a2, a1]
def EDc (m : Nat) (x1 x2 : Int32) (h : HI) (r : Int32) (h' : HI) : Prop := (¬ isRow (h 6 3) x1 ∧ r = -2 ∧ h' = h) ∨ ∃ n, n < m ∧ x1 = nI n ∧ ((h 7 (n * 6 + 5) = zf x2 ∧ r = -3 ∧ h' = h) ∨ (¬ h 7 (n * 6 + 5) = zf x2 ∧ r = 1 ∧ h' 7 = upd (h 7) (n * 6 + 5) (zf x2)))
theorem q_X10_deny {h : HI} {g : HL} {m : Nat} (T : TT h 6 m 6 60) {x1 x2 : Int32} : w_X10_deny x1 x2 h g (fun r h' _ => PTc (EDc m x1 x2 h r h') h h' 6 m 6 60) := by
  have hm := T.2.2.2.1
  unfold w_X10_deny
  refine c_hb (fun q0 => ?_) (fun q0 => ⟨fun c => absurd rfl c, fun _ => ⟨.inl ⟨q0, rfl, rfl⟩, JJ.rf, T⟩⟩)
  obtain ⟨n, hn, rfl⟩ := row_n q0 T.2.2.1 (by omega)
  have j26 : ∀ s : Int32, s = zf x2 → j_X10_deny_26 (fun r h' _ => PTc (EDc m (nI n) x2 h r h') h h' 6 m 6 60) (nI n) s h g := by
    rintro _ rfl
    unfold j_X10_deny_26
    refine c_i (p_atT T) ?_
    rintro _ _ _ ⟨rfl, rfl, rfl⟩
    rw [show tat h 6 (nI n) (5 : Int32) = h 7 (n * 6 + 5) from tat_nI T (b := 5) hn (by omega)]
    refine ⟨fun c => ?_, fun c => ⟨.inr ⟨n, hn, rfl, .inl ⟨c, rfl, rfl⟩⟩, JJ.rf, T⟩⟩
    refine c_v (p_putG T hn 5 (by omega)) ?_
    rintro h1 g1 ⟨e1, -⟩
    refine ⟨.inr ⟨n, hn, rfl, .inr ⟨c, rfl, ?_⟩⟩, (pw_J e1).mo SB.sm, pw_T T e1⟩
    rw [e1]; exact pw_at (o := 6) (by decide)
  exact ⟨fun _ => ⟨fun c => j26 _ (if_pos c).symm, fun c => j26 _ (if_neg c).symm⟩, fun c => absI c⟩
def K_need (x1 x2 : Int32) : Prop := bd 0 3 x1 ∧ bd 0 9 x2
def ENc (x1 x2 : Int32) (h : HI) (r : Int32) (h' : HI) : Prop := (¬ K_need x1 x2 ∧ r = -2 ∧ h' = h) ∨ (K_need x1 x2 ∧ ∃ n, n < 4 ∧ x1 = nI n ∧ r = h 23 (n * 1 + 0) ∧ h' 23 = upd (h 23) (n * 1 + 0) x2)
theorem q_X10_need {h : HI} {g : HL} (T : TT h 22 4 1 4) {x1 x2 : Int32} : w_X10_need x1 x2 h g (fun r h' _ => PTc (ENc x1 x2 h r h') h h' 22 4 1 4) := by
  have bad : ¬ K_need x1 x2 → PTc (ENc x1 x2 h (-2) h) h h 22 4 1 4 := fun k => ⟨.inl ⟨k, rfl, rfl⟩, JJ.rf, T⟩
  have e4 : isRow (h 22 3) x1 ↔ bd 0 3 x1 := row4 T.2.2.1 (by omega)
  unfold w_X10_need
  refine c_hb (fun q0 => ⟨fun c => absI c, fun _ => ?_⟩) (fun q0 => ⟨fun _ => bad (fun hc => q0 (e4.mpr hc.1)), fun c => absN c⟩)
  refine c_wb (fun q1 => ⟨fun _ => ?_, fun c => absI c⟩) (fun q1 => ⟨fun c => absurd rfl c, fun _ => bad (fun hc => q1 (bd.mo hc.2 (by decide) (by decide)))⟩)
  have hC : K_need x1 x2 := ⟨e4.mp q0, bd.mo q1 (by decide) (by decide)⟩
  clear bad e4
  obtain ⟨n, n1, n2, rfl⟩ := bd_nI hC.1
  refine c_i (p_atT T) ?_
  rintro _ _ _ ⟨rfl, rfl, rfl⟩
  rw [show tat h 22 (nI n) (0 : Int32) = h 23 (n * 1 + 0) from tat_nI T (b := 0) (by omega) (by omega)]
  refine c_v (p_putG T (a := n) (by omega) 0 (by omega)) ?_
  rintro h1 g1 ⟨e1, -⟩
  refine ⟨.inr ⟨hC, n, by omega, rfl, rfl, ?_⟩, (pw_J e1).mo SB.sm, pw_T T e1⟩
  rw [e1]; exact pw_at (o := 22) (by decide)
/-- bit a of v, as a number -/
def bt1 (v : Int32) (a : Nat) : Int32 := if (v >>> (nI a &&& 31)) &&& 1 = 1 then 1 else 0
def K_bear (c x1 x2 : Int32) : Prop := isRow c x1 ∧ isRow c x2 ∧ ¬ x1 = x2
def EBc (m : Nat) (x1 x2 x3 : Int32) (h : HI) (r : Int32) (h' : HI) : Prop := (¬ K_bear (h 2 3) x1 x2 ∧ r = -2 ∧ h' = h) ∨ (K_bear (h 2 3) x1 x2 ∧ ∃ a b, a < m ∧ b < m ∧ x1 = nI a ∧ x2 = nI b ∧ ((bt1 (h 3 (b * 5 + 4)) a = x3 ∧ r = -3 ∧ h' = h) ∨ (¬ bt1 (h 3 (b * 5 + 4)) a = x3 ∧ r = 1 ∧ h' 3 = upd (h 3) (b * 5 + 4) (h 3 (b * 5 + 4) ^^^ ((1 : Int32) <<< (nI a &&& 31))))))
theorem q_X10_bear {h : HI} {g : HL} {m : Nat} (T : TT h 2 m 5 24) {x1 x2 x3 : Int32} : w_X10_bear x1 x2 x3 h g (fun r h' _ => PTc (EBc m x1 x2 x3 h r h') h h' 2 m 5 24) := by
  have hm := T.2.2.2.1
  have bad : ¬ K_bear (h 2 3) x1 x2 → PTc (EBc m x1 x2 x3 h (-2) h) h h 2 m 5 24 := fun k => ⟨.inl ⟨k, rfl, rfl⟩, JJ.rf, T⟩
  unfold w_X10_bear
  refine c_hb (fun q0 => ⟨fun c => absI c, fun _ => ?_⟩) (fun q0 => ⟨fun _ => bad (fun k => q0 k.1), fun c => absN c⟩)
  refine c_hb (fun q1 => ⟨fun c => absI c, fun _ => ?_⟩) (fun q1 => ⟨fun _ => bad (fun k => q1 k.2.1), fun c => absN c⟩)
  refine ⟨fun q2 => ?_, fun q2 => bad (fun k => k.2.2 q2)⟩
  have hC : K_bear (h 2 3) x1 x2 := ⟨q0, q1, q2⟩
  clear bad
  obtain ⟨a, ha, rfl⟩ := row_n q0 T.2.2.1 (by omega)
  obtain ⟨b, hb, rfl⟩ := row_n q1 T.2.2.1 (by omega)
  refine c_i (p_atT T) ?_
  rintro _ _ _ ⟨rfl, rfl, rfl⟩
  rw [show tat h 2 (nI b) (4 : Int32) = h 3 (b * 5 + 4) from tat_nI T (b := 4) hb (by omega)]
  have j65 : ∀ s : Int32, s = bt1 (h 3 (b * 5 + 4)) a → j_X10_bear_65 (fun r h' _ => PTc (EBc m (nI a) (nI b) x3 h r h') h h' 2 m 5 24) (nI a) (nI b) x3 (h 3 (b * 5 + 4)) s h g := by
    rintro _ rfl
    unfold j_X10_bear_65
    refine ⟨fun c => ?_, fun c => ⟨.inr ⟨hC, a, b, ha, hb, rfl, rfl, .inl ⟨c, rfl, rfl⟩⟩, JJ.rf, T⟩⟩
    refine c_v (p_putG T hb 4 (by omega)) ?_
    rintro h1 g1 ⟨e1, -⟩
    refine ⟨.inr ⟨hC, a, b, ha, hb, rfl, rfl, .inr ⟨c, rfl, ?_⟩⟩, (pw_J e1).mo SB.sm, pw_T T e1⟩
    rw [e1]; exact pw_at (o := 2) (by decide)
  exact ⟨fun c => j65 _ (if_neg c).symm, fun c => j65 _ (if_pos c).symm⟩
theorem q_X6_isIn {h : HI} {g : HL} {m : Nat} (T : TT h 8 m 15 16) {c n : Nat} (hc : c < m) (hn : n ≤ 6) (en : h 9 (c * 15 + 2) = nI n) {x2 : Int32} : w_X6_isIn 1 (nI c) x2 h g (fun r h' g' => h = h' ∧ g = g' ∧ ((r = 0 ∧ ∀ k, k < n → ¬ h 9 (c * 15 + (3 + 2 * k)) = x2) ∨ (r = 1 ∧ ∃ k, k < n ∧ h 9 (c * 15 + (3 + 2 * k)) = x2))) := by
  unfold w_X6_isIn
  refine c_i (p_atT (o := 8) T) ?_
  rintro _ _ _ ⟨rfl, rfl, rfl⟩
  rw [show tat h 8 (nI c) (2 : Int32) = nI n from (tat_nI T (b := 2) hc (by omega)).trans en]
  refine lpE_intro (fun ⟨a_q, b_q, c_q, d_q, h_q, g_q⟩ => ∃ k : Nat, k ≤ n ∧ nI c = a_q ∧ x2 = b_q ∧ nI n = c_q ∧ nI k = d_q ∧ h = h_q ∧ g = g_q ∧ ∀ i, i < k → ¬ h 9 (c * 15 + (3 + 2 * i)) = x2) (fun ⟨_, _, _, d_q, _, _⟩ => dif (nI n) d_q) ?_ _ ⟨0, by omega, rfl, rfl, rfl, nI_0, rfl, rfl, fun i hi => by omega⟩
  rintro ⟨y1, y2, y3, y4, h1, g1⟩ K ⟨k, hk, rfl, rfl, rfl, rfl, rfl, rfl, no⟩ hK
  unfold F_X6_isIn_13; dsimp only; unfold b_X6_isIn_13
  refine ⟨fun c1 => ?_, fun c1 => ?_⟩
  · rw [nI_leI (by omega) (by omega)] at c1
    exact ⟨rfl, rfl, .inl ⟨rfl, fun i hi => no i (by omega)⟩⟩
  · have hd := dif_lt c1
    rw [nI_leI (by omega) (by omega)] at c1
    rw [show (3 : Int32) + ((2 : Int32) * nI k) = nI (3 + 2 * k) from ix2 3 2 k]
    refine c_i (p_atT (o := 8) T) ?_
    rintro _ _ _ ⟨rfl, rfl, rfl⟩
    rw [show tat h 8 (nI c) (nI (3 + 2 * k)) = h 9 (c * 15 + (3 + 2 * k)) from tat_nI T hc (by omega)]
    refine ⟨fun c2 => ?_, fun c2 => ⟨rfl, rfl, .inr ⟨rfl, k, by omega, c2⟩⟩⟩
    rintro _ rfl
    refine hK _ ⟨k + 1, by omega, rfl, rfl, rfl, (nI_1 k).symm, rfl, rfl, fun i hi => ?_⟩ hd
    by_cases e : i = k
    · subst e; exact c2
    · exact no i (by omega)
def ELc (m : Nat) (x1 x2 x3 : Int32) (h : HI) (r : Int32) (h' : HI) : Prop := (¬ (isRow (h 8 3) x1 ∧ isRow (h 2 3) x2) ∧ r = -2 ∧ h' = h) ∨ ((isRow (h 8 3) x1 ∧ isRow (h 2 3) x2) ∧ ∃ c n, c < m ∧ n ≤ 6 ∧ x1 = nI c ∧ h 9 (c * 15 + 2) = nI n ∧ (((∃ k, k < n ∧ h 9 (c * 15 + (3 + 2 * k)) = x2) ∧ r = -2 ∧ h' = h) ∨ ((∀ k, k < n → ¬ h 9 (c * 15 + (3 + 2 * k)) = x2) ∧ ((n = 6 ∧ r = -4 ∧ h' = h) ∨ (n < 6 ∧ r = nI (n + 1) ∧ h' 9 = upd (upd (upd (h 9) (c * 15 + (3 + 2 * n)) x2) (c * 15 + (3 + 2 * n + 1)) (zf x3)) (c * 15 + 2) (nI (n + 1)))))))
theorem q_X10_link {h : HI} {g : HL} {m : Nat} (T : TT h 8 m 15 16) (hn : ∀ c, c < m → ∃ n, n ≤ 6 ∧ h 9 (c * 15 + 2) = nI n) {x1 x2 x3 : Int32} : w_X10_link x1 x2 x3 h g (fun r h' _ => PTc (ELc m x1 x2 x3 h r h') h h' 8 m 15 16) := by
  have hm := T.2.2.2.1
  have bad : ¬ (isRow (h 8 3) x1 ∧ isRow (h 2 3) x2) → PTc (ELc m x1 x2 x3 h (-2) h) h h 8 m 15 16 := fun k => ⟨.inl ⟨k, rfl, rfl⟩, JJ.rf, T⟩
  unfold w_X10_link
  refine c_hb (fun q0 => ⟨fun c => absI c, fun _ => ?_⟩) (fun q0 => ⟨fun _ => bad (fun k => q0 k.1), fun c => absN c⟩)
  refine c_hb (fun q1 => ⟨fun c => absI c, fun _ => ?_⟩) (fun q1 => ⟨fun _ => bad (fun k => q1 k.2), fun c => absN c⟩)
  clear bad
  have hC : isRow (h 8 3) x1 ∧ isRow (h 2 3) x2 := ⟨q0, q1⟩
  obtain ⟨c, hc, rfl⟩ := row_n q0 T.2.2.1 (by omega)
  obtain ⟨n, n6, en⟩ := hn c hc
  refine c_z (q_X6_isIn T hc n6 en) ?_
  rintro r _ _ ⟨rfl, rfl, o⟩
  refine ⟨fun c0 => ?_, fun c0 => ?_⟩
  rotate_left
  · rcases o with o | o
    · exact absurd o.1 c0
    · exact ⟨.inr ⟨hC, c, n, hc, n6, rfl, en, .inl ⟨o.2, rfl, rfl⟩⟩, JJ.rf, T⟩
  have no : ∀ k, k < n → ¬ h 9 (c * 15 + (3 + 2 * k)) = x2 := by
    rcases o with o | o
    · exact o.2
    · rw [o.1] at c0; exact absurd c0 (by decide)
  refine c_i (p_atT T) ?_
  rintro _ _ _ ⟨rfl, rfl, rfl⟩
  rw [show tat h 8 (nI c) (2 : Int32) = nI n from (tat_nI T (b := 2) hc (by omega)).trans en]
  refine ⟨fun c1 => ?_, fun c1 => ?_⟩
  rotate_left
  · have n6' : n = 6 := by
      have : ¬ n < 6 := fun k => c1 ((nI_ltI (a := n) (b := 6) (by omega) (by omega)).mpr k)
      omega
    exact ⟨.inr ⟨hC, c, n, hc, n6, rfl, en, .inr ⟨no, .inl ⟨n6', rfl, rfl⟩⟩⟩, JJ.rf, T⟩
  have n5 : n < 6 := (nI_ltI (a := n) (b := 6) (by omega) (by omega)).mp c1
  rw [show (3 : Int32) + ((2 : Int32) * nI n) = nI (3 + 2 * n) from ix2 3 2 n]
  refine c_v (p_putG T hc (3 + 2 * n) (by omega)) ?_
  rintro h1 g1 ⟨e1, -⟩
  have T1 := pw_T T e1
  have j : ∀ s : Int32, s = zf x3 → j_X10_link_110 (fun r h' _ => PTc (ELc m (nI c) x2 x3 h r h') h h' 8 m 15 16) (nI c) (nI n) (nI c) (nI (3 + 2 * n) + (1 : Int32)) s h1 g1 := by
    rintro _ rfl
    unfold j_X10_link_110
    rw [nI_1, nI_1]
    refine c_v (p_putG T1 hc (3 + 2 * n + 1) (by omega)) ?_
    rintro h2 g2 ⟨e2, -⟩
    have T2 := pw_T T1 e2
    refine c_v (p_putG T2 hc 2 (by omega)) ?_
    rintro h3 g3 ⟨e3, -⟩
    refine ⟨.inr ⟨hC, c, n, hc, n6, rfl, en, .inr ⟨no, .inr ⟨n5, rfl, ?_⟩⟩⟩, (((pw_J e1).tr (pw_J e2)).tr (pw_J e3)).mo SB.sm, pw_T T2 e3⟩
    have a1 : h1 9 = upd (h 9) (c * 15 + (3 + 2 * n)) x2 := by rw [e1]; exact pw_at (o := 8) (by omega)
    have a2 : h2 9 = upd (h1 9) (c * 15 + (3 + 2 * n + 1)) (zf x3) := by rw [e2]; exact pw_at (o := 8) (by omega)
    have a3 : h3 9 = upd (h2 9) (c * 15 + 2) (nI (n + 1)) := by rw [e3]; exact pw_at (o := 8) (by omega)
    rw [a3, a2, a1]
  exact ⟨fun c => j _ (if_pos c).symm, fun c => j _ (if_neg c).symm⟩
/-- how many of n sayings are denied -/
def dsm (a : Nat → Int32) : Nat → Int32
  | 0 => 0
  | n + 1 => dsm a n + a (n * 6 + 5)
theorem dsm_cg {a b : Nat → Int32} : ∀ {n : Nat}, (∀ i, i < n → a (i * 6 + 5) = b (i * 6 + 5)) → dsm a n = dsm b n
  | 0, _ => rfl
  | n + 1, e => by
    unfold dsm
    rw [dsm_cg (fun i hi => e i (by omega)), e n (by omega)]
theorem q_X6_denied {h : HI} {g : HL} {m : Nat} (T : TT h 6 m 6 60) : w_X6_deniedSayings 1 h g (fun r h' g' => h = h' ∧ g = g' ∧ r = dsm (h 7) m) := by
  have hm := T.2.2.2.1
  have ec : h (1 + 5) 3 = nI m := T.2.2.1
  unfold w_X6_deniedSayings
  refine lpE_intro (fun ⟨a_q, b_q, h_q, g_q⟩ => ∃ k : Nat, k ≤ m ∧ dsm (h 7) k = a_q ∧ nI k = b_q ∧ h = h_q ∧ g = g_q) (fun ⟨_, b_q, _, _⟩ => dif (nI m) b_q) ?_ _ ⟨0, by omega, rfl, nI_0, rfl, rfl⟩
  rintro ⟨y1, y2, h1, g1⟩ K ⟨k, hk, rfl, rfl, rfl, rfl⟩ hK
  unfold F_X6_deniedSayings_4; dsimp only; unfold b_X6_deniedSayings_4
  refine c_i p_rows ?_
  rintro _ _ _ ⟨rfl, rfl, rfl⟩
  rw [ec]
  refine ⟨fun c => ?_, fun c => ?_⟩
  · rw [nI_leI (by omega) (by omega)] at c
    have : k = m := by omega
    subst this
    exact ⟨rfl, rfl, rfl⟩
  · have hd := dif_lt c
    rw [nI_leI (by omega) (by omega)] at c
    refine c_i (p_atT (o := 6) T) ?_
    rintro _ _ _ ⟨rfl, rfl, rfl⟩
    rw [show tat h 6 (nI k) (5 : Int32) = h 7 (k * 6 + 5) from tat_nI T (b := 5) (by omega) (by omega)]
    rintro _ rfl
    rintro _ rfl
    exact hK _ ⟨k + 1, by omega, rfl, (nI_1 k).symm, rfl, rfl⟩ hd
def tbL : List Nat := [2, 6, 0, 8, 10, 12, 14, 18, 20, 24]
def cvC (h : HI) (m k : Nat) : Int32 := if k = 2 then dsm (h 7) m else h (tbL.getD k 0) 3
theorem q_X10_count {h : HI} {g : HL} {m : Nat} (T : TT h 6 m 6 60) {x1 : Int32} : w_X10_count x1 h g (fun r h' g' => h = h' ∧ g = g' ∧ ((¬ bd 0 9 x1 ∧ r = -2) ∨ ∃ k : Nat, k ≤ 9 ∧ x1 = nI k ∧ r = cvC h m k)) := by
  unfold w_X10_count
  refine ⟨fun c => ?_, fun c => ?_, fun c => ?_, fun c => ?_, fun c => ?_, fun c => ?_, fun c => ?_, fun c => ?_, fun c => ?_, fun c => ?_, ?_⟩
  · refine c_i p_rows ?_
    rintro _ _ _ ⟨rfl, rfl, rfl⟩
    exact ⟨rfl, rfl, .inr ⟨0, by omega, c.trans nI_0.symm, rfl⟩⟩
  · refine c_i p_rows ?_
    rintro _ _ _ ⟨rfl, rfl, rfl⟩
    exact ⟨rfl, rfl, .inr ⟨1, by omega, c, rfl⟩⟩
  · refine c_i (q_X6_denied T) ?_
    rintro _ _ _ ⟨rfl, rfl, rfl⟩
    exact ⟨rfl, rfl, .inr ⟨2, by omega, c, rfl⟩⟩
  · refine c_i p_rows ?_
    rintro _ _ _ ⟨rfl, rfl, rfl⟩
    exact ⟨rfl, rfl, .inr ⟨3, by omega, c, rfl⟩⟩
  · refine c_i p_rows ?_
    rintro _ _ _ ⟨rfl, rfl, rfl⟩
    exact ⟨rfl, rfl, .inr ⟨4, by omega, c, rfl⟩⟩
  · refine c_i p_rows ?_
    rintro _ _ _ ⟨rfl, rfl, rfl⟩
    exact ⟨rfl, rfl, .inr ⟨5, by omega, c, rfl⟩⟩
  · refine c_i p_rows ?_
    rintro _ _ _ ⟨rfl, rfl, rfl⟩
    exact ⟨rfl, rfl, .inr ⟨6, by omega, c, rfl⟩⟩
  · refine c_i p_rows ?_
    rintro _ _ _ ⟨rfl, rfl, rfl⟩
    exact ⟨rfl, rfl, .inr ⟨7, by omega, c, rfl⟩⟩
  · refine c_i p_rows ?_
    rintro _ _ _ ⟨rfl, rfl, rfl⟩
    exact ⟨rfl, rfl, .inr ⟨8, by omega, c, rfl⟩⟩
  · refine c_i p_rows ?_
    rintro _ _ _ ⟨rfl, rfl, rfl⟩
    exact ⟨rfl, rfl, .inr ⟨9, by omega, c, rfl⟩⟩
  intro c0 c1 c2 c3 c4 c5 c6 c7 c8 c9
  refine ⟨rfl, rfl, .inl ⟨fun b => ?_, rfl⟩⟩
  obtain ⟨j, j1, j2, rfl⟩ := bd_nI b
  have : j = 0 ∨ j = 1 ∨ j = 2 ∨ j = 3 ∨ j = 4 ∨ j = 5 ∨ j = 6 ∨ j = 7 ∨ j = 8 ∨ j = 9 := by omega
  rcases this with rfl | rfl | rfl | rfl | rfl | rfl | rfl | rfl | rfl | rfl
  · exact c0 nI_0
  · exact c1 rfl
  · exact c2 rfl
  · exact c3 rfl
  · exact c4 rfl
  · exact c5 rfl
  · exact c6 rfl
  · exact c7 rfl
  · exact c8 rfl
  · exact c9 rfl
end
section
-- 52.putr
/-! THE REFERENCE'S CALLS THAT CHANGE CELLS, and what they write -/
theorem PTr.of {A : Prop} {h h' : HI} {f : Nat → Int32} (a : A) (s : ST h h' f) (e : ∀ i, i < 9 → f i = h 136 i) : PTr A h h' := ⟨a, f, s, e⟩
def EFr (x1 x2 x3 x4 : Int32) (h : HI) (r : Int32) (h' : HI) : Prop := (¬ K_fam x1 x2 x3 x4 ∧ r = -2 ∧ h' = h) ∨ (K_fam x1 x2 x3 x4 ∧ r = 1 ∧ ∃ n, n < 4 ∧ x1 = nI n ∧ h' 136 = upd (upd (upd (h 136) (140 + 3 * n) x2) (140 + 3 * n + 1) x3) (140 + 3 * n + 2) x4)
theorem q_X11_family {h : HI} {g : HL} (r : RG (h 136)) {x1 x2 x3 x4 : Int32} : w_X11_family x1 x2 x3 x4 h g (fun s h' _ => PTr (EFr x1 x2 x3 x4 h s h') h h') := by
  have bad : ¬ K_fam x1 x2 x3 x4 → PTr (EFr x1 x2 x3 x4 h (-2) h) h h := fun k => PTr.rf r (.inl ⟨k, rfl, rfl⟩)
  unfold w_X11_family
  refine c_in3 (fun q0 => ⟨fun c => absI c, fun _ => ?_⟩) (fun q0 => ⟨fun _ => bad (fun hc => q0 (bd.mo hc.1 (by decide) (by decide))), fun c => absN c⟩)
  refine c_sz (fun q1 => ⟨fun c => absI c, fun _ => ?_⟩) (fun q1 => ⟨fun _ => bad (fun hc => q1 hc.2.1), fun c => absN c⟩)
  refine c_sz (fun q2 => ⟨fun c => absI c, fun _ => ?_⟩) (fun q2 => ⟨fun _ => bad (fun hc => q2 hc.2.2.1), fun c => absN c⟩)
  refine c_sz (fun q3 => ⟨fun c => absI c, fun _ => ?_⟩) (fun q3 => ⟨fun _ => bad (fun hc => q3 hc.2.2.2.1), fun c => absN c⟩)
  refine ⟨fun q4 => ?_, fun q4 => bad (fun hc => q4 hc.2.2.2.2)⟩
  clear bad
  have b0 : bd 0 3 x1 := bd.mo q0 (by decide) (by decide)
  have hC : K_fam x1 x2 x3 x4 := ⟨b0, q1, q2, q3, q4⟩
  obtain ⟨j, j1, j2, rfl⟩ := bd_nI b0
  rw [show ((140 : Int32) + ((3 : Int32) * nI j)) + (1 : Int32) = nI (140 + 3 * j + 1) from ix3 140 3 j 1, show ((140 : Int32) + ((3 : Int32) * nI j)) + (2 : Int32) = nI (140 + 3 * j + 2) from ix3 140 3 j 2, show (140 : Int32) + ((3 : Int32) * nI j) = nI (140 + 3 * j) from ix2 140 3 j, nI_clamp (n := 140 + 3 * j) (by omega), nI_clamp (n := 140 + 3 * j + 1) (by omega), nI_clamp (n := 140 + 3 * j + 2) (by omega)]
  refine and_have (vp_in_nI (by omega) (by omega)) (fun _ => ?_)
  intro h1 e1
  have S1 := (ST.rf r).hu e1 (okB (by omega) (fun _ => by omega))
  refine and_have (vp_in_nI (by omega) (by omega)) (fun _ => ?_)
  intro h2 e2
  have S2 := S1.hu e2 (okB (by omega) (fun _ => q2))
  refine and_have (vp_in_nI (by omega) (by omega)) (fun _ => ?_)
  intro h3 e3
  have S3 := S2.hu e3 (okB (by omega) (fun _ => by omega))
  exact PTr.of (.inr ⟨hC, rfl, j, by omega, rfl, S3.2.1⟩) S3 (fun i hi => by rw [cnt_u hi (by omega), cnt_u hi (by omega), cnt_u hi (by omega)])
def ENr (x1 x2 : Int32) (h : HI) (r : Int32) (h' : HI) : Prop := (¬ K_need x1 x2 ∧ r = -2 ∧ h' = h) ∨ (K_need x1 x2 ∧ ∃ n, n < 4 ∧ x1 = nI n ∧ r = h 136 (823 + n) ∧ h' 136 = upd (h 136) (823 + n) x2)
theorem q_X11_need {h : HI} {g : HL} (r : RG (h 136)) {x1 x2 : Int32} : w_X11_need x1 x2 h g (fun s h' _ => PTr (ENr x1 x2 h s h') h h') := by
  have bad : ¬ K_need x1 x2 → PTr (ENr x1 x2 h (-2) h) h h := fun k => PTr.rf r (.inl ⟨k, rfl, rfl⟩)
  unfold w_X11_need
  refine c_in3 (fun q0 => ⟨fun c => absI c, fun _ => ?_⟩) (fun q0 => ⟨fun _ => bad (fun k => q0 (bd.mo k.1 (by decide) (by decide))), fun c => absN c⟩)
  refine c_in3 (fun q1 => ⟨fun c => absI c, fun _ => ?_⟩) (fun q1 => ⟨fun _ => bad (fun k => q1 (bd.mo k.2 (by decide) (by decide))), fun c => absN c⟩)
  clear bad
  have hC : K_need x1 x2 := ⟨bd.mo q0 (by decide) (by decide), bd.mo q1 (by decide) (by decide)⟩
  obtain ⟨j, j1, j2, rfl⟩ := bd_nI hC.1
  refine c_i (S := fun s h' g' => PTr (ENr (nI j) x2 h s h') h h') ?_ (fun _ _ _ k => k)
  unfold w_X11_puts
  rw [show (823 : Int32) + nI j = nI (823 + j) from nI_add 823 j, nI_clamp (n := 823 + j) (by omega)]
  refine and_have (vp_in_nI (by omega) (by omega)) (fun v => ?_)
  rintro _ rfl
  refine and_have v (fun _ => ?_)
  intro h1 e1
  have S1 := (ST.rf r).hu e1 (okZ (by omega))
  exact PTr.of (.inr ⟨hC, j, by omega, rfl, rfl, S1.2.1⟩) S1 (fun i hi => cnt_u hi (by omega))
def EOr (x1 x2 : Int32) (h : HI) (r : Int32) (h' : HI) : Prop := (¬ K_odds x1 x2 ∧ r = -2 ∧ h' = h) ∨ (K_odds x1 x2 ∧ r = 1 ∧ h' 136 = upd (upd (h 136) 9 x1) 10 x2)
theorem q_X11_odds {h : HI} {g : HL} (r : RG (h 136)) {x1 x2 : Int32} : w_X11_odds x1 x2 h g (fun s h' _ => PTr (EOr x1 x2 h s h') h h') := by
  have bad : ¬ K_odds x1 x2 → PTr (EOr x1 x2 h (-2) h) h h := fun k => PTr.rf r (.inl ⟨k, rfl, rfl⟩)
  unfold w_X11_odds
  refine c_dg (fun q0 => ⟨fun c => absI c, fun _ => ?_⟩) (fun q0 => ⟨fun _ => bad (fun hc => q0 hc.1), fun c => absN c⟩)
  refine c_dg (fun q1 => ⟨fun _ => ?_, fun c => absI c⟩) (fun q1 => ⟨fun c => absurd rfl c, fun _ => bad (fun hc => q1 hc.2)⟩)
  rw [cl9, cl10]
  refine and_have (vp_in_iff.mpr (by decide)) (fun v => ?_)
  intro h1 e1
  have S1 := (ST.rf r).hu e1 (show okR 9 x1 from q0)
  refine and_have (vp_in_iff.mpr (by decide)) (fun v => ?_)
  intro h2 e2
  have S2 := S1.hu e2 (show okR 10 x2 from q1)
  exact PTr.of (.inr ⟨⟨q0, q1⟩, rfl, S2.2.1⟩) S2 (fun i hi => by rw [cnt_u hi (by omega), cnt_u hi (by omega)])
theorem row_b {c x : Int32} {N : Int} (q : isRow c x) (h : bd 0 N c) : bd 0 (N - 1) x := by
  unfold isRow at q; unfold bd at *; omega
def bt2 (v : Int32) : Int32 := if v = 1 then 1 else 0
def EDr (x1 x2 : Int32) (h : HI) (r : Int32) (h' : HI) : Prop := (¬ isRow (h 136 1) x1 ∧ r = -2 ∧ h' = h) ∨ (isRow (h 136 1) x1 ∧ ∃ n, n < 60 ∧ x1 = nI n ∧ ((bt2 (h 136 (152 + 6 * n + 5)) = x2 ∧ r = -3 ∧ h' = h) ∨ (¬ bt2 (h 136 (152 + 6 * n + 5)) = x2 ∧ r = 1 ∧ h' 136 = upd (h 136) (152 + 6 * n + 5) (zf x2))))
theorem q_X11_deny {h : HI} {g : HL} (r : RG (h 136)) {x1 x2 : Int32} : w_X11_deny x1 x2 h g (fun s h' _ => PTr (EDr x1 x2 h s h') h h') := by
  have hR := r.ri
  unfold w_X11_deny
  refine c_is (vp_in_iff.mpr (by decide)) hR.c1 (by decide) (fun q q1 => ⟨fun _ => ?_, fun c => absI c⟩) (fun q => ⟨fun c => absurd rfl c, fun _ => PTr.rf r (.inl ⟨by rw [cl1] at q; exact isRow_n q, rfl, rfl⟩)⟩)
  rw [cl1] at q1
  have hrow : isRow (h 136 1) x1 := isRow_r q q1
  have b1 : bd 0 59 x1 := q.mo (by decide) (by decide)
  refine c_i (p_X11_sayOf hR b1 ((bd_lit (n := 5) (by decide)).mo (by decide) (by decide))) ?_
  rintro _ _ _ ⟨rfl, rfl, rfl⟩
  obtain ⟨j, j1, j2, rfl⟩ := bd_nI b1
  rw [show ((152 : Int32) + ((6 : Int32) * nI j)) + (5 : Int32) = nI (152 + 6 * j + 5) from ix3 152 6 j 5, nI_clamp (n := 152 + 6 * j + 5) (by omega)]
  have j27 : ∀ v : Int32, v = bt2 (h 136 (152 + 6 * j + 5)) → j_X11_deny_27 (fun s h' _ => PTr (EDr (nI j) x2 h s h') h h') (nI j) x2 v h g := by
    rintro _ rfl
    unfold j_X11_deny_27
    refine ⟨fun c => ?_, fun c => PTr.rf r (.inr ⟨hrow, j, by omega, rfl, .inl ⟨c, rfl, rfl⟩⟩)⟩
    have j57 : ∀ v : Int32, v = zf x2 → j_X11_deny_57 (fun s h' _ => PTr (EDr (nI j) x2 h s h') h h') (((152 : Int32) + ((6 : Int32) * nI j)) + (5 : Int32)) v h g := by
      rintro _ rfl
      unfold j_X11_deny_57
      rw [show ((152 : Int32) + ((6 : Int32) * nI j)) + (5 : Int32) = nI (152 + 6 * j + 5) from ix3 152 6 j 5, nI_clamp (by omega)]
      refine and_have (vp_in_nI (by omega) (by omega)) (fun _ => ?_)
      intro h1 e1
      have S1 := (ST.rf r).hu e1 (okC' (by omega) (fun _ => by omega))
      exact PTr.of (.inr ⟨hrow, j, by omega, rfl, .inr ⟨c, rfl, S1.2.1⟩⟩) S1 (fun i hi => cnt_u hi (by omega))
    exact ⟨fun c => j57 _ (if_pos c).symm, fun c => j57 _ (if_neg c).symm⟩
  exact ⟨fun c => j27 _ (if_neg c).symm, fun c => j27 _ (if_pos c).symm⟩
def EBr (x1 x2 x3 : Int32) (h : HI) (r : Int32) (h' : HI) : Prop := (¬ K_bear (h 136 0) x1 x2 ∧ r = -2 ∧ h' = h) ∨ (K_bear (h 136 0) x1 x2 ∧ ∃ a b, a < 24 ∧ b < 24 ∧ x1 = nI a ∧ x2 = nI b ∧ ((bt1 (h 136 (20 + 5 * a + 4)) b = x3 ∧ r = -3 ∧ h' = h) ∨ (¬ bt1 (h 136 (20 + 5 * a + 4)) b = x3 ∧ r = 1 ∧ h' 136 = upd (h 136) (20 + 5 * a + 4) (h 136 (20 + 5 * a + 4) ^^^ ((1 : Int32) <<< (nI b &&& 31))))))
theorem q_X11_bear {h : HI} {g : HL} (r : RG (h 136)) {x1 x2 x3 : Int32} : w_X11_bear x1 x2 x3 h g (fun s h' _ => PTr (EBr x1 x2 x3 h s h') h h') := by
  have hR := r.ri
  have bad : ¬ K_bear (h 136 0) x1 x2 → PTr (EBr x1 x2 x3 h (-2) h) h h := fun k => PTr.rf r (.inl ⟨k, rfl, rfl⟩)
  unfold w_X11_bear
  refine c_is (vp_in_iff.mpr (by decide)) hR.c0 (by decide) (fun q q1 => ⟨fun c => absI c, fun _ => ?_⟩) (fun q => ⟨fun _ => bad (fun k => isRow_n (by rw [cl0] at q; exact q) k.1), fun c => absN c⟩)
  refine c_is (vp_in_iff.mpr (by decide)) hR.c0 (by decide) (fun p p1 => ⟨fun c => absI c, fun _ => ?_⟩) (fun q => ⟨fun _ => bad (fun k => isRow_n (by rw [cl0] at q; exact q) k.2.1), fun c => absN c⟩)
  refine ⟨fun ne => ?_, fun ne => bad (fun k => k.2.2 ne)⟩
  clear bad
  rw [cl0] at q1 p1
  have hC : K_bear (h 136 0) x1 x2 := ⟨isRow_r q q1, isRow_r p p1, ne⟩
  have b1 : bd 0 23 x1 := q.mo (by decide) (by decide)
  have b2 : bd 0 23 x2 := p.mo (by decide) (by decide)
  refine c_i (p_X11_partOf hR b1 ((bd_lit (n := 4) (by decide)).mo (by decide) (by decide))) ?_
  rintro _ _ _ ⟨rfl, rfl, rfl⟩
  obtain ⟨j, j1, j2, rfl⟩ := bd_nI b1
  obtain ⟨b, b3, b4, rfl⟩ := bd_nI b2
  rw [show ((20 : Int32) + ((5 : Int32) * nI j)) + (4 : Int32) = nI (20 + 5 * j + 4) from ix3 20 5 j 4, nI_clamp (n := 20 + 5 * j + 4) (by omega)]
  have j45 : ∀ v : Int32, v = bt1 (h 136 (20 + 5 * j + 4)) b → j_X11_bear_45 (fun s h' _ => PTr (EBr (nI j) (nI b) x3 h s h') h h') (nI j) (nI b) x3 v h g := by
    rintro _ rfl
    unfold j_X11_bear_45
    rw [show ((20 : Int32) + ((5 : Int32) * nI j)) + (4 : Int32) = nI (20 + 5 * j + 4) from ix3 20 5 j 4, nI_clamp (by omega)]
    have v1 : vp_in (nI (20 + 5 * j + 4)) 887 := vp_in_nI (by omega) (by omega)
    refine ⟨fun c => and_have v1 (fun _ => and_have v1 (fun _ => ?_)), fun c => PTr.rf r (.inr ⟨hC, j, b, by omega, by omega, rfl, rfl, .inl ⟨c, rfl, rfl⟩⟩)⟩
    intro h1 e1
    have S1 := (ST.rf r).hu e1 (okA (by omega) (fun _ => by omega) (fun _ => by omega))
    exact PTr.of (.inr ⟨hC, j, b, by omega, by omega, rfl, rfl, .inr ⟨c, rfl, S1.2.1⟩⟩) S1 (fun i hi => cnt_u hi (by omega))
  exact ⟨fun c => j45 _ (if_neg c).symm, fun c => j45 _ (if_pos c).symm⟩
theorem ch_ix {c k : Nat} (hc : c < 16) (hk : k < 10) : (((512 : Int32) + ((10 : Int32) * nI c)) + nI k).toNatClampNeg = 512 + 10 * c + k := by
  rw [show ((512 : Int32) + ((10 : Int32) * nI c)) + nI k = nI (512 + 10 * c + k) from ix3 512 10 c k, nI_clamp (by omega)]
theorem q_X11_has {h : HI} {g : HL} (hR : RI (h 136)) {c n : Nat} (hc : c < 16) (hn : n ≤ 6) (en : h 136 (512 + 10 * c + 2) = nI n) {x2 : Int32} : w_X11_has (nI c) x2 h g (fun r h' g' => h = h' ∧ g = g' ∧ ((r = 0 ∧ ∀ k, k < n → ¬ h 136 (512 + 10 * c + (3 + k)) = x2) ∨ (r = 1 ∧ ∃ k, k < n ∧ h 136 (512 + 10 * c + (3 + k)) = x2))) := by
  have bc : bd 0 15 (nI c) := bd_of (by omega) (by omega) (by omega)
  unfold w_X11_has
  refine lpE_intro (fun ⟨a_q, b_q, d_q, h_q, g_q⟩ => ∃ k : Nat, k ≤ n ∧ nI c = a_q ∧ x2 = b_q ∧ nI k = d_q ∧ h = h_q ∧ g = g_q ∧ ∀ i, i < k → ¬ h 136 (512 + 10 * c + (3 + i)) = x2) (fun ⟨_, _, d_q, _, _⟩ => dif (nI n) d_q) ?_ _ ⟨0, by omega, rfl, rfl, nI_0, rfl, rfl, fun i hi => by omega⟩
  rintro ⟨y1, y2, y4, h1, g1⟩ K ⟨k, hk, rfl, rfl, rfl, rfl, rfl, no⟩ hK
  unfold F_X11_has_2; dsimp only; unfold b_X11_has_2
  refine c_i (p_X11_chainOf hR bc ((bd_lit (n := 2) (by decide)).mo (by decide) (by decide))) ?_
  rintro _ _ _ ⟨rfl, rfl, rfl⟩
  rw [show (((512 : Int32) + ((10 : Int32) * nI c)) + (2 : Int32)).toNatClampNeg = 512 + 10 * c + 2 from ch_ix (k := 2) hc (by omega), en]
  refine ⟨fun c1 => ?_, fun c1 => ?_⟩
  · rw [nI_leI (by omega) (by omega)] at c1
    exact ⟨rfl, rfl, .inl ⟨rfl, fun i hi => no i (by omega)⟩⟩
  · have hd := dif_lt c1
    rw [nI_leI (by omega) (by omega)] at c1
    rw [show (3 : Int32) + nI k = nI (3 + k) from nI_add 3 k]
    refine c_i (p_X11_chainOf hR bc (bd_of (by omega) (by omega) (by omega))) ?_
    rintro _ _ _ ⟨rfl, rfl, rfl⟩
    rw [ch_ix hc (by omega)]
    refine ⟨fun c2 => ?_, fun c2 => ⟨rfl, rfl, .inr ⟨rfl, k, by omega, c2⟩⟩⟩
    rintro _ rfl
    refine hK _ ⟨k + 1, by omega, rfl, rfl, (nI_1 k).symm, rfl, rfl, fun i hi => ?_⟩ hd
    by_cases e : i = k
    · subst e; exact c2
    · exact no i (by omega)
def zs (x3 : Int32) (n : Nat) : Int32 := if x3 = 0 then 0 else (1 : Int32) <<< (nI n &&& 31)
def ELr (x1 x2 x3 : Int32) (h : HI) (r : Int32) (h' : HI) : Prop := (¬ (isRow (h 136 2) x1 ∧ isRow (h 136 0) x2) ∧ r = -2 ∧ h' = h) ∨ ((isRow (h 136 2) x1 ∧ isRow (h 136 0) x2) ∧ ∃ c n, c < 16 ∧ n ≤ 6 ∧ x1 = nI c ∧ h 136 (512 + 10 * c + 2) = nI n ∧ (((∃ k, k < n ∧ h 136 (512 + 10 * c + (3 + k)) = x2) ∧ r = -2 ∧ h' = h) ∨ ((∀ k, k < n → ¬ h 136 (512 + 10 * c + (3 + k)) = x2) ∧ ((n = 6 ∧ r = -4 ∧ h' = h) ∨ (n < 6 ∧ r = nI (n + 1) ∧ h' 136 = upd (upd (upd (h 136) (512 + 10 * c + 3 + n) x2) (512 + 10 * c + 9) (h 136 (512 + 10 * c + 9) ||| zs x3 n)) (512 + 10 * c + 2) (nI (n + 1)))))))
theorem q_X11_link {h : HI} {g : HL} (r : RG (h 136)) {x1 x2 x3 : Int32} : w_X11_link x1 x2 x3 h g (fun s h' _ => PTr (ELr x1 x2 x3 h s h') h h') := by
  have hR := r.ri
  have bad : ¬ (isRow (h 136 2) x1 ∧ isRow (h 136 0) x2) → PTr (ELr x1 x2 x3 h (-2) h) h h := fun k => PTr.rf r (.inl ⟨k, rfl, rfl⟩)
  unfold w_X11_link
  refine c_is (vp_in_iff.mpr (by decide)) hR.c2 (by decide) (fun q q1 => ⟨fun c => absI c, fun _ => ?_⟩) (fun q => ⟨fun _ => bad (fun k => isRow_n (by rw [cl2] at q; exact q) k.1), fun c => absN c⟩)
  refine c_is (vp_in_iff.mpr (by decide)) hR.c0 (by decide) (fun p p1 => ⟨fun c => absI c, fun _ => ?_⟩) (fun q => ⟨fun _ => bad (fun k => isRow_n (by rw [cl0] at q; exact q) k.2), fun c => absN c⟩)
  clear bad
  rw [cl2] at q1
  rw [cl0] at p1
  have hC : isRow (h 136 2) x1 ∧ isRow (h 136 0) x2 := ⟨isRow_r q q1, isRow_r p p1⟩
  have b1 : bd 0 15 x1 := q.mo (by decide) (by decide)
  have b2 : bd 0 23 x2 := p.mo (by decide) (by decide)
  obtain ⟨j, j1, j2, rfl⟩ := bd_nI b1
  obtain ⟨n, n1, n2, en⟩ := bd_nI (r.ri.2.2.2.2.1 j (by omega)).1
  refine c_z (q_X11_has hR (c := j) (n := n) (by omega) (by omega) en) ?_
  rintro s _ _ ⟨rfl, rfl, o⟩
  refine ⟨fun c0 => ?_, fun c0 => ?_⟩
  rotate_left
  · rcases o with o | o
    · exact absurd o.1 c0
    · exact PTr.rf r (.inr ⟨hC, j, n, by omega, by omega, rfl, en, .inl ⟨o.2, rfl, rfl⟩⟩)
  have no : ∀ k, k < n → ¬ h 136 (512 + 10 * j + (3 + k)) = x2 := by
    rcases o with o | o
    · exact o.2
    · rw [o.1] at c0; exact absurd c0 (by decide)
  rintro _ rfl
  rw [show (512 : Int32) + ((10 : Int32) * nI j) = nI (512 + 10 * j) from ix2 512 10 j, show nI (512 + 10 * j) + (2 : Int32) = nI (512 + 10 * j + 2) from nI_add _ 2, show nI (512 + 10 * j) + (3 : Int32) = nI (512 + 10 * j + 3) from nI_add _ 3, show nI (512 + 10 * j) + (9 : Int32) = nI (512 + 10 * j + 9) from nI_add _ 9, nI_clamp (n := 512 + 10 * j + 2) (by omega), nI_clamp (n := 512 + 10 * j + 9) (by omega), en, nI_add, nI_clamp (n := 512 + 10 * j + 3 + n) (by omega)]
  have v2 : vp_in (nI (512 + 10 * j + 2)) 887 := vp_in_nI (by omega) (by omega)
  refine and_have v2 (fun _ => ⟨fun c => ?_, fun c => PTr.rf r (.inr ⟨hC, j, n, by omega, by omega, rfl, en, .inr ⟨no, .inl ⟨(nI_eq (b := 6) (by omega) (by omega)).mp c, rfl, rfl⟩⟩⟩)⟩)
  have hlt : n < 6 := by
    have : n ≠ 6 := fun e => c (by rw [e]; rfl)
    omega
  refine and_have v2 (fun _ => and_have (vp_in_nI (by omega) (by omega)) (fun _ => ?_))
  intro h1 e1
  have S1 := (ST.rf r).hu e1 (okD (by omega) (fun _ => by omega) (fun _ => b2))
  refine and_have (vp_in_nI (by omega) (by omega)) (fun v9 => ?_)
  have j107 : ∀ a b : Int32, a = h 136 (512 + 10 * j + 9) → b = zs x3 n → j_X11_link_107 (fun s h' _ => PTr (ELr (nI j) x2 x3 h s h') h h') (nI (512 + 10 * j)) (nI (512 + 10 * j + 9)) a b h1 g := by
    rintro _ _ rfl rfl
    unfold j_X11_link_107
    rw [nI_clamp (n := 512 + 10 * j + 9) (by omega), show nI (512 + 10 * j) + (2 : Int32) = nI (512 + 10 * j + 2) from nI_add _ 2, nI_clamp (n := 512 + 10 * j + 2) (by omega)]
    refine and_have v9 (fun _ => ?_)
    intro h2 e2
    have S2 := S1.hu e2 (okD (by omega) (fun _ => by omega) (fun _ => by omega))
    have e22 : h2 136 (512 + 10 * j + 2) = nI n := by
      rw [S2.2.1, pk_un (by omega), pk_un (by omega)]; exact en
    rw [e22, nI_1]
    refine and_have v2 (fun _ => and_have v2 (fun _ => ?_))
    intro h3 e3
    have S3 := S2.hu e3 (okD (by omega) (fun _ => bd_of (by omega) (by omega) (by omega)) (fun _ => by omega))
    refine ⟨v2, PTr.of (.inr ⟨hC, j, n, by omega, by omega, rfl, en, .inr ⟨no, .inr ⟨hlt, ?_, S3.2.1⟩⟩⟩) S3 (fun i hi => by rw [cnt_u hi (by omega), cnt_u hi (by omega), cnt_u hi (by omega)])⟩
    rw [S3.2.1, pk_us]
  have k9 : h1 136 (512 + 10 * j + 9) = h 136 (512 + 10 * j + 9) := by rw [S1.2.1, pk_un (by omega)]
  have k2 : h1 136 (512 + 10 * j + 2) = nI n := by rw [S1.2.1, pk_un (by omega)]; exact en
  exact ⟨fun c => j107 _ _ k9 (if_pos c).symm, fun c => ⟨v2, j107 _ _ k9 (by rw [k2]; exact (if_neg c).symm)⟩⟩
theorem q_X11_denied {h : HI} {g : HL} (hR : RI (h 136)) {n : Nat} (en : h 136 1 = nI n) (hn : n ≤ 60) : w_X11_denied h g (fun r h' g' => h = h' ∧ g = g' ∧ r = dsm (fun k => h 136 (152 + k)) n) := by
  unfold w_X11_denied
  refine lpE_intro (fun ⟨a_q, b_q, h_q, g_q⟩ => ∃ k : Nat, k ≤ n ∧ dsm (fun k => h 136 (152 + k)) k = a_q ∧ nI k = b_q ∧ h = h_q ∧ g = g_q) (fun ⟨_, b_q, _, _⟩ => dif (nI n) b_q) ?_ _ ⟨0, by omega, rfl, nI_0, rfl, rfl⟩
  rintro ⟨y1, y2, h1, g1⟩ K ⟨k, hk, rfl, rfl, rfl, rfl⟩ hK
  unfold F_X11_denied_4; dsimp only; unfold b_X11_denied_4
  refine and_have (by exact vp_in_iff.mpr (by decide)) (fun hv => ?_)
  rw [cl1, en]
  refine ⟨fun c => ?_, fun c => ?_⟩
  · rw [nI_leI (by omega) (by omega)] at c
    have : k = n := by omega
    subst this
    exact ⟨rfl, rfl, rfl⟩
  · have hd := dif_lt c
    rw [nI_leI (by omega) (by omega)] at c
    refine c_i (p_X11_sayOf hR (bd_of (by omega) (by omega) (by omega)) ((bd_lit (n := 5) (by decide)).mo (by decide) (by decide))) ?_
    rintro _ _ _ ⟨rfl, rfl, rfl⟩
    rw [show ((152 : Int32) + ((6 : Int32) * nI k)) + (5 : Int32) = nI (152 + 6 * k + 5) from ix3 152 6 k 5, nI_clamp (n := 152 + 6 * k + 5) (by omega), show 152 + 6 * k + 5 = 152 + (k * 6 + 5) by omega]
    rintro _ rfl
    rintro _ rfl
    exact hK _ ⟨k + 1, by omega, rfl, (nI_1 k).symm, rfl, rfl⟩ hd
def cvR (f : Nat → Int32) (n k : Nat) : Int32 := if k < 2 then f k else if k = 2 then dsm (fun i => f (152 + i)) n else f (k - 1)
theorem q_X11_countOf {h : HI} {g : HL} (hR : RI (h 136)) {n : Nat} (en : h 136 1 = nI n) (hn : n ≤ 60) {k : Nat} (hk : k ≤ 9) : w_X11_countOf (nI k) h g (fun r h' g' => h = h' ∧ g = g' ∧ r = cvR (h 136) n k) := by
  unfold w_X11_countOf
  refine ⟨fun c => ⟨fun c2 => ?_, fun c2 => ?_⟩, fun c => ?_⟩
  · have k2 : 2 ≤ k := (nI_leI (a := 2) (b := k) (by omega) (by omega)).mp c
    have k3 : k ≠ 2 := fun e => c2 (by rw [e]; rfl)
    obtain ⟨d, rfl⟩ : ∃ d, k = d + 1 := ⟨k - 1, by omega⟩
    rw [nI_pred, nI_clamp (by omega)]
    refine ⟨vp_in_nI (by omega) (by omega), rfl, rfl, ?_⟩
    unfold cvR
    rw [if_neg (by omega), if_neg k3]; rfl
  · have k2 : k = 2 := (nI_eq (b := 2) (by omega) (by omega)).mp c2
    refine c_i (q_X11_denied hR en hn) ?_
    rintro _ _ _ ⟨rfl, rfl, rfl⟩
    refine ⟨rfl, rfl, ?_⟩
    unfold cvR
    rw [if_neg (by omega), if_pos k2]
  · have k2 : k < 2 := by
      have : ¬ 2 ≤ k := fun q => c ((nI_leI (a := 2) (b := k) (by omega) (by omega)).mpr q)
      omega
    rw [nI_clamp (by omega)]
    refine ⟨vp_in_nI (by omega) (by omega), rfl, rfl, ?_⟩
    unfold cvR
    rw [if_pos k2]
theorem q_X11_count {h : HI} {g : HL} (hR : RI (h 136)) {n : Nat} (en : h 136 1 = nI n) (hn : n ≤ 60) {x1 : Int32} : w_X11_count x1 h g (fun r h' g' => h = h' ∧ g = g' ∧ ((¬ bd 0 9 x1 ∧ r = -2) ∨ ∃ k : Nat, k ≤ 9 ∧ x1 = nI k ∧ r = cvR (h 136) n k)) := by
  unfold w_X11_count
  refine c_in3 (fun q => ⟨fun c => absI c, fun _ => ?_⟩) (fun q => ⟨fun _ => ⟨rfl, rfl, .inl ⟨fun b => q (bd.mo b (by decide) (by decide)), rfl⟩⟩, fun c => absN c⟩)
  have b : bd 0 9 x1 := bd.mo q (by decide) (by decide)
  obtain ⟨k, k1, k2, rfl⟩ := bd_nI b
  refine c_i (q_X11_countOf hR en hn (k := k) (by omega)) ?_
  rintro _ _ _ ⟨rfl, rfl, rfl⟩
  exact ⟨rfl, rfl, .inr ⟨k, by omega, rfl, rfl⟩⟩
end
section
-- 53.st
/-! THE STEPS, with what the tables hold -/
theorem PTr.get {A : Prop} {h h' : HI} (b : PTr A h h') : A ∧ (∀ o, o ≠ 136 → h' o = h o) ∧ ∀ i, i < 9 → h' 136 i = h 136 i := by
  obtain ⟨a, f, ⟨F, Ff, R⟩, ef⟩ := b
  exact ⟨a, F, fun i hi => by rw [Ff]; exact ef i hi⟩
theorem up_rel {a a' f f' : Nat → Int32} {N b i i' : Nat} {x : Int32} (c : ∀ k, k < N → a k = f (b + k)) (e : a' = upd a i x) (e' : f' = upd f i' x) (hi : i' = b + i) : ∀ k, k < N → a' k = f' (b + k) := by
  subst hi
  intro k hk
  rw [e, e']
  by_cases q : k = i
  · subst q; rw [pk_us, pk_us]
  · rw [pk_un q, pk_un (by omega)]; exact c k hk
theorem XR.put {f f' : Nat → Int32} (x : XR f) (e9 : ∀ i, i < 9 → f' i = f i) (e : ∀ k, 152 ≤ k → k < 672 → f' k = f k) : XR f' := x.cg (by rw [e9 0 (by omega)]; exact Int.le_refl _) (e9 1 (by omega)) (e9 2 (by omega)) e
theorem st_family {h h1 h2 : HI} {r s x1 x2 x3 x4 : Int32} (q : RLT h) (T0 : TT h 4 4 3 4) (a : PTc (EFc x1 x2 x3 x4 h r h1) h h1 4 4 3 4) (b : PTr (EFr x1 x2 x3 x4 h1 s h2) h1 h2) : r = s ∧ RLT h2 := by
  obtain ⟨a, J, T⟩ := a
  obtain ⟨b, F, e9⟩ := b.get
  have e6 : h1 136 = h 136 := J 136 (by unfold SM; omega)
  rcases a with ⟨a1, rfl, rfl⟩ | ⟨a1, rfl, n, hn, rfl, A⟩
  · rcases b with ⟨b1, rfl, rfl⟩ | ⟨b1, -⟩
    · exact ⟨rfl, q⟩
    · exact absurd b1 a1
  · rcases b with ⟨b1, -⟩ | ⟨b1, rfl, n', hn', en, B⟩
    · exact absurd a1 b1
    · have : n = n' := (nI_eq (by omega) (by omega)).mp en
      subst this
      rw [e6] at B e9
      have fr : ∀ k, k < 140 ∨ 152 ≤ k → h2 136 k = h 136 k := fun k k3 => by
        rw [B, pk_un (by omega), pk_un (by omega), pk_un (by omega)]
      refine ⟨rfl, q.put (j := 1) (by omega) J F (fun k k1 k2 k3 => fr k k3) (fun m hm ht => ?_) (q.1.2.put e9 (fun k k1 k2 => fr k (by omega)))⟩
      have T2 : TT h2 4 4 3 4 := T.cg (F 4 (by decide))
      have : m = 4 := T2.nu ht hm
      subst this
      have c0 : ∀ k, k < 12 → h 5 k = h 136 (140 + k) := (CE.es (j := 1) (by decide) (by decide)).mp (q.1.1 1 4 (by omega) hm T0.2.2.1)
      have c1 := up_rel (x := x2) (i := n * 3 + 0) (i' := 140 + 3 * n) c0 rfl rfl (by omega)
      have c2 := up_rel (x := x3) (i := n * 3 + 1) (i' := 140 + 3 * n + 1) c1 rfl rfl (by omega)
      have c3 := up_rel (x := x4) (i := n * 3 + 2) (i' := 140 + 3 * n + 2) c2 rfl rfl (by omega)
      refine (CE.es (by decide) (by decide)).mpr ?_
      intro k hk
      have hk : k < 12 := hk
      show h2 5 k = h2 136 (140 + k)
      rw [F 5 (by decide), A, B]
      exact c3 k hk
theorem st_odds {h h1 h2 : HI} {r s x1 x2 : Int32} (q : RLT h) (T0 : TT h 16 1 2 1) (a : PTc (EOc x1 x2 h r h1) h h1 16 1 2 1) (b : PTr (EOr x1 x2 h1 s h2) h1 h2) : r = s ∧ RLT h2 := by
  obtain ⟨a, J, T⟩ := a
  obtain ⟨b, F, e9⟩ := b.get
  have e6 : h1 136 = h 136 := J 136 (by unfold SM; omega)
  rcases a with ⟨a1, rfl, rfl⟩ | ⟨a1, rfl, A⟩
  · rcases b with ⟨b1, rfl, rfl⟩ | ⟨b1, -⟩
    · exact ⟨rfl, q⟩
    · exact absurd b1 a1
  · rcases b with ⟨b1, -⟩ | ⟨b1, rfl, B⟩
    · exact absurd a1 b1
    · rw [e6] at B e9
      have fr : ∀ k, k < 9 ∨ 11 ≤ k → h2 136 k = h 136 k := fun k k3 => by
        rw [B, pk_un (by omega), pk_un (by omega)]
      refine ⟨rfl, q.put (j := 7) (by omega) J F (fun k k1 k2 k3 => fr k k3) (fun m hm ht => ?_) (q.1.2.put e9 (fun k k1 k2 => fr k (by omega)))⟩
      have T2 : TT h2 16 1 2 1 := T.cg (F 16 (by decide))
      have : m = 1 := T2.nu ht hm
      subst this
      have c0 : ∀ k, k < 2 → h 17 k = h 136 (9 + k) := (CE.es (j := 7) (by decide) (by decide)).mp (q.1.1 7 1 (by omega) hm T0.2.2.1)
      have c1 := up_rel (x := x1) (i := 0 * 2 + 0) (i' := 9) c0 rfl rfl (by omega)
      have c2 := up_rel (x := x2) (i := 0 * 2 + 1) (i' := 10) c1 rfl rfl (by omega)
      refine (CE.es (by decide) (by decide)).mpr ?_
      intro k hk
      have hk : k < 2 := hk
      show h2 17 k = h2 136 (9 + k)
      rw [F 17 (by decide), A, B]
      exact c2 k hk
theorem st_need {h h1 h2 : HI} {r s x1 x2 : Int32} (q : RLT h) (T0 : TT h 22 4 1 4) (a : PTc (ENc x1 x2 h r h1) h h1 22 4 1 4) (b : PTr (ENr x1 x2 h1 s h2) h1 h2) : r = s ∧ RLT h2 := by
  obtain ⟨a, J, T⟩ := a
  obtain ⟨b, F, e9⟩ := b.get
  have e6 : h1 136 = h 136 := J 136 (by unfold SM; omega)
  have c0 : ∀ k, k < 4 → h 23 k = h 136 (823 + k) := (CE.es (j := 10) (by decide) (by decide)).mp (q.1.1 10 4 (by omega) (Nat.le_refl _) T0.2.2.1)
  rcases a with ⟨a1, rfl, rfl⟩ | ⟨a1, n, hn, rfl, er, A⟩
  · rcases b with ⟨b1, rfl, rfl⟩ | ⟨b1, -⟩
    · exact ⟨rfl, q⟩
    · exact absurd b1 a1
  · rcases b with ⟨b1, -⟩ | ⟨b1, n', hn', en, es, B⟩
    · exact absurd a1 b1
    · have : n = n' := (nI_eq (by omega) (by omega)).mp en
      subst this
      rw [e6] at B e9 es
      have fr : ∀ k, k < 823 ∨ 827 ≤ k → h2 136 k = h 136 k := fun k k3 => by
        rw [B, pk_un (by omega)]
      refine ⟨?_, q.put (j := 10) (by omega) J F (fun k k1 k2 k3 => fr k k3) (fun m hm ht => ?_) (q.1.2.put e9 (fun k k1 k2 => fr k (by omega)))⟩
      · rw [er, es, c0 (n * 1 + 0) (by omega)]; congr 1; omega
      have T2 : TT h2 22 4 1 4 := T.cg (F 22 (by decide))
      have : m = 4 := T2.nu ht hm
      subst this
      have c1 := up_rel (x := x2) (i := n * 1 + 0) (i' := 823 + n) c0 rfl rfl (by omega)
      refine (CE.es (by decide) (by decide)).mpr ?_
      intro k hk
      have hk : k < 4 := hk
      show h2 23 k = h2 136 (823 + k)
      rw [F 23 (by decide), A, B]
      exact c1 k hk
theorem bt2_id {x : Int32} (h : x = 0 ∨ x = 1) : bt2 x = x := by
  rcases h with rfl | rfl
  · exact if_neg (by decide)
  · exact if_pos rfl
theorem zf_id {x : Int32} (h : x = 0 ∨ x = 1) : zf x = x := by
  rcases h with rfl | rfl
  · exact if_pos rfl
  · exact if_neg (by decide)
theorem st_deny {h h1 h2 : HI} {r s x1 x2 : Int32} {m : Nat} (q : RLT h) (T0 : TT h 6 m 6 60) (k : h 136 1 = nI m) (z : x2 = 0 ∨ x2 = 1) (a : PTc (EDc m x1 x2 h r h1) h h1 6 m 6 60) (b : PTr (EDr x1 x2 h1 s h2) h1 h2) : r = s ∧ RLT h2 := by
  obtain ⟨a, J, T⟩ := a
  obtain ⟨b, F, e9⟩ := b.get
  have hm := T0.2.2.2.1
  have e6 : h1 136 = h 136 := J 136 (by unfold SM; omega)
  have c0 : ∀ k, k < m * 6 → h 7 k = h 136 (152 + k) := (CE.es (j := 2) (by decide) (by decide)).mp (q.1.1 2 m (by omega) hm T0.2.2.1)
  have ec : h 6 3 = h 136 1 := T0.2.2.1.trans k.symm
  unfold EDc at a
  unfold EDr at b
  rw [e6] at b e9
  rw [ec] at a
  rcases a with ⟨a1, rfl, rfl⟩ | ⟨n, hn, rfl, a⟩
  · rcases b with ⟨b1, rfl, rfl⟩ | ⟨b1, -⟩
    · exact ⟨rfl, q⟩
    · exact absurd b1 a1
  · rcases b with ⟨b1, -⟩ | ⟨b1, n', hn', en, b⟩
    · exact absurd (by rw [k]; exact row_of hn (by omega)) b1
    · have : n = n' := (nI_eq (by omega) (by omega)).mp en
      subst this
      have x := (q.1.2.1 n m k hm hn).2
      have ev : h 7 (n * 6 + 5) = h 136 (152 + (n * 6 + 5)) := c0 _ (by omega)
      rw [show 152 + 6 * n + 5 = 152 + (n * 6 + 5) by omega, bt2_id x, zf_id z] at b
      rw [ev, zf_id z] at a
      rcases a with ⟨a1, rfl, rfl⟩ | ⟨a1, rfl, A⟩
      · rcases b with ⟨b1, rfl, rfl⟩ | ⟨b1, -⟩
        · exact ⟨rfl, q⟩
        · exact absurd a1 b1
      · rcases b with ⟨b1, -⟩ | ⟨b1, rfl, B⟩
        · exact absurd b1 a1
        · have fr : ∀ k, k < 152 ∨ 512 ≤ k → h2 136 k = h 136 k := fun k k3 => by
            rw [B, pk_un (by omega)]
          refine ⟨rfl, q.put (j := 2) (by omega) J F (fun k k1 k2 k3 => fr k k3) (fun m' hm' ht => ?_) ⟨fun r n' g1 g2 g3 => ?_, fun r n' k' c' g1 g2 g3 g4 g5 g6 => ?_⟩⟩
          · have T2 : TT h2 6 m 6 60 := T.cg (F 6 (by decide))
            have : m' = m := T2.nu ht hm'
            subst this
            have c1 := up_rel (x := x2) (i := n * 6 + 5) (i' := 152 + (n * 6 + 5)) c0 rfl rfl rfl
            refine (CE.es (by decide) (by decide)).mpr ?_
            intro k hk
            have hk : k < m' * 6 := hk
            show h2 7 k = h2 136 (152 + k)
            rw [F 7 (by decide), A, B]
            exact c1 k hk
          · rw [e9 1 (by omega)] at g1
            obtain ⟨y1, y2⟩ := q.1.2.1 r n' g1 g2 g3
            rw [e9 0 (by omega), B]
            refine ⟨by rw [pk_un (by omega)]; exact y1, ?_⟩
            by_cases e : r = n
            · subst e; rw [pk_us]; exact z
            · rw [pk_un (by omega)]; exact y2
          · rw [e9 2 (by omega)] at g1
            rw [fr (512 + (r * 10 + 2)) (by omega)] at g4
            rw [fr (512 + (r * 10 + (3 + k'))) (by omega), e9 0 (by omega)]
            exact q.1.2.2 r n' k' c' g1 g2 g3 g4 g5 g6
theorem sl_t : ∀ n, n < 32 → ((nI n &&& 31).toBitVec.smod 32).toNat = n := by decide +kernel
theorem sh_t : ∀ n, n < 24 → (1 : Int32) <<< (nI n &&& 31) = nI (2 ^ n) := by decide +kernel
theorem nI_and (a b : Nat) : nI a &&& nI b = nI (a &&& b) := by
  unfold nI
  apply Int32.toBitVec_inj.mp
  rw [Int32.toBitVec_and]
  show BitVec.ofNat 32 a &&& BitVec.ofNat 32 b = BitVec.ofNat 32 (a &&& b)
  apply BitVec.eq_of_toNat_eq
  rw [BitVec.toNat_and, BitVec.toNat_ofNat, BitVec.toNat_ofNat, BitVec.toNat_ofNat, Nat.and_mod_two_pow]
theorem nI_xor (a b : Nat) : nI a ^^^ nI b = nI (a ^^^ b) := by
  unfold nI
  apply Int32.toBitVec_inj.mp
  rw [Int32.toBitVec_xor]
  show BitVec.ofNat 32 a ^^^ BitVec.ofNat 32 b = BitVec.ofNat 32 (a ^^^ b)
  apply BitVec.eq_of_toNat_eq
  rw [BitVec.toNat_xor, BitVec.toNat_ofNat, BitVec.toNat_ofNat, BitVec.toNat_ofNat, Nat.xor_mod_two_pow]
theorem bit_n {n a : Nat} (hn : n < 2 ^ 31) (ha : a < 32) : (nI n >>> (nI a &&& 31)) &&& 1 = 1 ↔ n.testBit a = true := by
  rw [pk_shrN hn _ a (sl_t a ha), show (1 : Int32) = nI 1 from rfl, nI_and, Nat.and_one_is_mod, nI_eq (by omega) (by omega), Nat.testBit_eq_decide_div_mod_eq, decide_eq_true_iff]
theorem bt1_n {n a : Nat} (hn : n < 2 ^ 31) (ha : a < 32) : bt1 (nI n) a = if n.testBit a = true then 1 else 0 := by
  unfold bt1
  by_cases c : n.testBit a = true
  · rw [if_pos c, if_pos ((bit_n hn ha).mpr c)]
  · rw [if_neg c, if_neg (fun q => c ((bit_n hn ha).mp q))]
theorem p2_24 {a : Nat} (h : a < 24) : 2 ^ a < 2 ^ 24 := Nat.pow_lt_pow_right (by decide) h
theorem st_bear {h h1 h2 : HI} {r s x1 x2 x3 : Int32} {m : Nat} (q : RLT h) (T0 : TT h 2 m 5 24) (k : h 136 0 = nI m) (a : PTc (EBc m x1 x2 x3 h r h1) h h1 2 m 5 24) (b : PTr (EBr x1 x2 x3 h1 s h2) h1 h2) : r = s ∧ RLT h2 := by
  obtain ⟨a, J, T⟩ := a
  obtain ⟨b, F, e9⟩ := b.get
  have hm := T0.2.2.2.1
  have e6 : h1 136 = h 136 := J 136 (by unfold SM; omega)
  have c0 : CP h 1 (h 136) m := CE.e0.mp (q.1.1 0 m (by omega) hm T0.2.2.1)
  have ec : h 2 3 = h 136 0 := T0.2.2.1.trans k.symm
  unfold EBc at a
  unfold EBr at b
  rw [e6] at b e9
  rw [ec] at a
  rcases a with ⟨a1, rfl, rfl⟩ | ⟨a1, A, B, hA, hB, rfl, rfl, a⟩
  · rcases b with ⟨b1, rfl, rfl⟩ | ⟨b1, -⟩
    · exact ⟨rfl, q⟩
    · exact absurd b1 a1
  · rcases b with ⟨b1, -⟩ | ⟨b1, A', B', hA', hB', eA, eB, b⟩
    · exact absurd a1 b1
    · have : A = A' := (nI_eq (by omega) (by omega)).mp eA
      subst this
      have : B = B' := (nI_eq (by omega) (by omega)).mp eB
      subst this
      obtain ⟨d1, cN, rN, d2, d3, d4⟩ := c0
      obtain ⟨p1, -, p2, -⟩ := d2 B hB
      obtain ⟨-, p3, -, p4⟩ := d2 A hA
      have p2 : h 3 (B * 5 + 4) = nI (cN B) := p2
      rw [show 20 + 5 * A + 4 = 20 + (A * 5 + 4) by omega, p4, bt1_n (by omega) (by omega), ← d4 A B] at b
      rw [p2, bt1_n (by omega) (by omega)] at a
      rcases a with ⟨a5, rfl, rfl⟩ | ⟨a5, rfl, C⟩
      · rcases b with ⟨b5, rfl, rfl⟩ | ⟨b5, -⟩
        · exact ⟨rfl, q⟩
        · exact absurd a5 b5
      · rcases b with ⟨b5, -⟩ | ⟨b5, rfl, D⟩
        · exact absurd b5 a5
        · rw [sh_t A hA', nI_xor] at C
          rw [sh_t B hB', nI_xor] at D
          have fr : ∀ k, k < 20 ∨ 140 ≤ k → h2 136 k = h 136 k := fun k k3 => by
            rw [D, pk_un (by omega)]
          refine ⟨rfl, q.put (j := 0) (by omega) J F (fun k k1 k2 k3 => fr k k3) (fun m' hm' ht => ?_) (q.1.2.put e9 (fun k k1 k2 => fr k (by omega)))⟩
          have T2 : TT h2 2 m 5 24 := T.cg (F 2 (by decide))
          have : m' = m := T2.nu ht hm'
          subst this
          refine CE.e0.mpr ?_
          have C' : h2 (1 + (1 + 2 * 0) + 1) = upd (h 3) (B * 5 + 4) (nI (cN B ^^^ 2 ^ A)) := (F 3 (by decide)).trans C
          refine ⟨fun p hp c hc => ?_, fun p => if p = B then cN B ^^^ 2 ^ A else cN p, fun p => if p = A then rN A ^^^ 2 ^ B else rN p, fun p hp => ?_, fun p hp => ?_, fun x y => ?_⟩
          · rw [C', D, pk_un (by omega), pk_un (by omega)]; exact d1 p hp c hc
          · obtain ⟨g1, g2, g3, g4⟩ := d2 p hp
            have g3 : h 3 (p * 5 + 4) = nI (cN p) := g3
            dsimp only
            rw [C', D]
            refine ⟨?_, ?_, ?_, ?_⟩
            · by_cases e : p = B
              · rw [if_pos e]; exact Nat.xor_lt_two_pow p1 (p2_24 hA')
              · rw [if_neg e]; exact g1
            · by_cases e : p = A
              · rw [if_pos e]; exact Nat.xor_lt_two_pow p3 (p2_24 hB')
              · rw [if_neg e]; exact g2
            · by_cases e : p = B
              · rw [if_pos e, e, pk_us]
              · rw [if_neg e, pk_un (by omega)]; exact g3
            · by_cases e : p = A
              · rw [if_pos e, e, pk_us]
              · rw [if_neg e, pk_un (by omega)]; exact g4
          · dsimp only
            rw [if_neg (by omega), if_neg (by omega)]
            exact d3 p hp
          · dsimp only
            by_cases ey : y = B
            · rw [if_pos ey]
              by_cases ex : x = A
              · rw [if_pos ex, Nat.testBit_xor, Nat.testBit_xor, ex, ey, Nat.testBit_two_pow_self, Nat.testBit_two_pow_self, d4 A B]
              · rw [if_neg ex, Nat.testBit_xor, Nat.testBit_two_pow_of_ne (fun e => ex e.symm), Bool.xor_false, ey]; exact d4 x B
            · rw [if_neg ey]
              by_cases ex : x = A
              · rw [if_pos ex, Nat.testBit_xor, Nat.testBit_two_pow_of_ne (fun e => ey e.symm), Bool.xor_false, ex]; exact d4 A y
              · rw [if_neg ex]; exact d4 x y
theorem st_link {h h1 h2 : HI} {r s x1 x2 x3 : Int32} {m : Nat} (q : RLT h) (T0 : TT h 8 m 15 16) (k : h 136 2 = nI m) (n0 : h 2 3 = h 136 0) (a : PTc (ELc m x1 x2 x3 h r h1) h h1 8 m 15 16) (b : PTr (ELr x1 x2 x3 h1 s h2) h1 h2) : r = s ∧ RLT h2 := by
  obtain ⟨a, J, T⟩ := a
  obtain ⟨b, F, e9⟩ := b.get
  have hm := T0.2.2.2.1
  have e6 : h1 136 = h 136 := J 136 (by unfold SM; omega)
  have c0 : CC h 1 (h 136) m := CE.e3.mp (q.1.1 3 m (by omega) hm T0.2.2.1)
  have ec : h 8 3 = h 136 2 := T0.2.2.1.trans k.symm
  unfold ELc at a
  unfold ELr at b
  rw [e6] at b e9
  rw [ec, n0] at a
  rcases a with ⟨a1, rfl, rfl⟩ | ⟨a1, c, n, hc, hn, rfl, en, a⟩
  · rcases b with ⟨b1, rfl, rfl⟩ | ⟨b1, -⟩
    · exact ⟨rfl, q⟩
    · exact absurd b1 a1
  · rcases b with ⟨b1, -⟩ | ⟨b1, c', n', hc', hn', ecc, en', b⟩
    · exact absurd a1 b1
    · have : c = c' := (nI_eq (by omega) (by omega)).mp ecc
      subst this
      obtain ⟨g1, g2, g3, ng, og, g4, g5, g6, g7, g8⟩ := c0 c hc
      rw [show 512 + 10 * c + 2 = 512 + (c * 10 + 2) by omega] at en' b
      have : n = n' := by
        have e : nI n = nI n' := en.symm.trans (g3.trans en')
        exact (nI_eq (by omega) (by omega)).mp e
      subst this
      have : n = ng := (nI_eq (by omega) (by omega)).mp (en'.symm.trans g5)
      subst this
      have mem : ∀ k, k < n → (h 9 (c * 15 + (3 + 2 * k)) = x2 ↔ h 136 (512 + 10 * c + (3 + k)) = x2) := fun k hk => by
        have e := (g8 k hk).1
        have e : h 9 (c * 15 + (3 + 2 * k)) = h 136 (512 + (c * 10 + (3 + k))) := e
        rw [e, show 512 + (c * 10 + (3 + k)) = 512 + 10 * c + (3 + k) by omega]
      rcases a with ⟨⟨ka, ha, ea⟩, rfl, rfl⟩ | ⟨noa, a⟩
      · rcases b with ⟨-, rfl, rfl⟩ | ⟨nob, -⟩
        · exact ⟨rfl, q⟩
        · exact absurd ((mem ka ha).mp ea) (nob ka ha)
      · rcases b with ⟨⟨kb, hb, eb⟩, -⟩ | ⟨nob, b⟩
        · exact absurd ((mem kb hb).mpr eb) (noa kb hb)
        rcases a with ⟨a2, rfl, rfl⟩ | ⟨a2, rfl, A⟩
        · rcases b with ⟨b2, rfl, rfl⟩ | ⟨b2, -⟩
          · exact ⟨rfl, q⟩
          · omega
        · rcases b with ⟨b2, -⟩ | ⟨b2, rfl, B⟩
          · omega
          · have fr : ∀ k, k < 512 ∨ 672 ≤ k → h2 136 k = h 136 k := fun k k3 => by
              rw [B, pk_un (by omega), pk_un (by omega), pk_un (by omega)]
            have fc : ∀ r' k, r' ≠ c → k < 10 → h2 136 (512 + (r' * 10 + k)) = h 136 (512 + (r' * 10 + k)) := fun r' k e1 e2 => by
              rw [B, pk_un (by omega), pk_un (by omega), pk_un (by omega)]
            have A' : h2 (1 + (1 + 2 * 3) + 1) = upd (upd (upd (h 9) (c * 15 + (3 + 2 * n)) x2) (c * 15 + (3 + 2 * n + 1)) (zf x3)) (c * 15 + 2) (nI (n + 1)) := (F 9 (by decide)).trans A
            refine ⟨rfl, q.put (j := 3) (by omega) J F (fun k k1 k2 k3 => fr k k3) (fun m' hm' ht => ?_) ⟨fun r n' g1 g2 g3 => ?_, fun r n' k' c' y1 y2 y3 y4 y5 y6 => ?_⟩⟩
            · have T2 : TT h2 8 m 15 16 := T.cg (F 8 (by decide))
              have : m' = m := T2.nu ht hm'
              subst this
              refine CE.e3.mpr (fun r' hr' => ?_)
              by_cases er : r' = c
              · subst er
                rw [show 512 + 10 * r' + 3 + n = 512 + (r' * 10 + (3 + n)) by omega, show 512 + 10 * r' + 9 = 512 + (r' * 10 + 9) by omega, g7] at B
                refine ⟨?_, ?_, ?_, n + 1, og ||| (if x3 = 0 then 0 else 2 ^ n), by omega, ?_, ?_, ?_, fun k hk => ?_⟩
                · rw [A', B, pk_un (by omega), pk_un (by omega), pk_un (by omega), pk_un (by omega), pk_un (by omega), pk_un (by omega)]; exact g1
                · rw [A', B, pk_un (by omega), pk_un (by omega), pk_un (by omega), pk_un (by omega), pk_un (by omega), pk_un (by omega)]; exact g2
                · rw [A', B, pk_us, pk_us]
                · rw [B, pk_us]
                · refine Nat.or_lt_two_pow (Nat.lt_of_lt_of_le g6 (Nat.pow_le_pow_right (by decide) (by omega))) ?_
                  by_cases ez : x3 = 0
                  · rw [if_pos ez]; exact Nat.two_pow_pos _
                  · rw [if_neg ez]; exact Nat.pow_lt_pow_right (by decide) (by omega)
                · rw [B, pk_un (by omega), pk_us]
                  unfold zs
                  by_cases ez : x3 = 0
                  · rw [if_pos ez, if_pos ez, Nat.or_zero, show (0 : Int32) = nI 0 from rfl, nI_or, Nat.or_zero]
                  · rw [if_neg ez, if_neg ez, shl_t n (by omega), nI_or]
                · by_cases ek : k = n
                  · subst ek
                    refine ⟨?_, ?_⟩
                    · rw [A', B, pk_un (by omega), pk_un (by omega), pk_us, pk_un (by omega), pk_un (by omega), pk_us]
                    · rw [A', pk_un (by omega), ps_u (by omega), Nat.testBit_or, Nat.testBit_lt_two_pow g6, Bool.false_or]
                      unfold zf
                      by_cases ez : x3 = 0
                      · rw [if_pos ez, if_pos ez, Nat.zero_testBit, if_neg (by decide)]
                      · rw [if_neg ez, if_neg ez, Nat.testBit_two_pow_self, if_pos rfl]
                  · obtain ⟨w1, w2⟩ := g8 k (by omega)
                    refine ⟨?_, ?_⟩
                    · rw [A', B, pk_un (by omega), pk_un (by omega), pk_un (by omega), pk_un (by omega), pk_un (by omega), pk_un (by omega)]; exact w1
                    · rw [A', pk_un (by omega), pk_un (by omega), pk_un (by omega), Nat.testBit_or]
                      have : (if x3 = 0 then 0 else 2 ^ n).testBit k = false := by
                        by_cases ez : x3 = 0
                        · rw [if_pos ez]; exact Nat.zero_testBit _
                        · rw [if_neg ez]; exact Nat.testBit_two_pow_of_ne (fun e => ek e.symm)
                      rw [this, Bool.or_false]
                      exact w2
              · obtain ⟨w1, w2, w3, nw, ow, w4, w5, w6, w7, w8⟩ := c0 r' hr'
                have fa : ∀ k, k < 15 → h2 (1 + (1 + 2 * 3) + 1) (r' * 15 + k) = h 9 (r' * 15 + k) := fun k hk => by
                  rw [A', pk_un (by omega), pk_un (by omega), pk_un (by omega)]
                refine ⟨?_, ?_, ?_, nw, ow, w4, ?_, w6, ?_, fun k hk => ⟨?_, ?_⟩⟩
                · exact (fa 0 (by omega)).trans (w1.trans (fc r' 0 er (by omega)).symm)
                · rw [fa 1 (by omega), fc r' 1 er (by omega)]; exact w2
                · rw [fa 2 (by omega), fc r' 2 er (by omega)]; exact w3
                · rw [fc r' 2 er (by omega)]; exact w5
                · rw [fc r' 9 er (by omega)]; exact w7
                · rw [fa (3 + 2 * k) (by omega), fc r' (3 + k) er (by omega)]; exact (w8 k hk).1
                · rw [fa (4 + 2 * k) (by omega)]; exact (w8 k hk).2
            · rw [e9 1 (by omega)] at g1
              rw [e9 0 (by omega), fr _ (by omega), fr _ (by omega)]
              exact q.1.2.1 r n' g1 g2 g3
            · rw [e9 2 (by omega)] at y1
              rw [e9 0 (by omega)]
              by_cases er : r = c
              · subst er
                rw [B, pk_us] at y4
                have : c' = n + 1 := (nI_eq (by omega) (by omega)).mp y4.symm
                subst this
                by_cases ek : k' = n
                · subst ek
                  rw [B, pk_un (by omega), pk_un (by omega), ps_u (by omega)]
                  exact a1.2
                · rw [B, pk_un (by omega), pk_un (by omega), pk_un (by omega)]
                  exact q.1.2.2 r n' k' n y1 y2 y3 en' (by omega) (by omega)
              · rw [fc r 2 er (by omega)] at y4
                rw [fc r (3 + k') er (by omega)]
                exact q.1.2.2 r n' k' c' y1 y2 y3 y4 y5 y6
theorem ff_part {f f' : Nat → Int32} {m : Nat} {x1 x2 x3 x4 : Int32} (e : f' = upd (upd (upd (upd (upd (upd f (20 + 5 * m) x1) (20 + 5 * m + 1) x2) (20 + 5 * m + 2) x3) (20 + 5 * m + 3) x4) (20 + 5 * m + 4) 0) 0 (nI (m + 1))) : FF f f' 0 m (rowc x1 x2 x3 x4) := by
  have g1 : ∀ k, 9 ≤ k → k < 887 → (k < 20 + m * 5 ∨ 20 + m * 5 + 5 ≤ k) → f' k = f k := fun k k1 k2 k3 => by
    rw [e, pk_un (by omega), pk_un (by omega), pk_un (by omega), pk_un (by omega), pk_un (by omega), pk_un (by omega)]
  have g2 : ∀ c, c < 5 → f' (20 + (m * 5 + c)) = (rowc x1 x2 x3 x4) c := by
    intro c hc
    rw [e]
    have : c = 0 ∨ c = 1 ∨ c = 2 ∨ c = 3 ∨ c = 4 := by omega
    rcases this with rfl | rfl | rfl | rfl | rfl
    · rw [pk_un (by omega), pk_un (by omega), pk_un (by omega), pk_un (by omega), pk_un (by omega), ps_u (by omega)]; rfl
    · rw [pk_un (by omega), pk_un (by omega), pk_un (by omega), pk_un (by omega), ps_u (by omega)]; rfl
    · rw [pk_un (by omega), pk_un (by omega), pk_un (by omega), ps_u (by omega)]; rfl
    · rw [pk_un (by omega), pk_un (by omega), ps_u (by omega)]; rfl
    · rw [pk_un (by omega), ps_u (by omega)]; rfl
  exact ⟨g1, g2⟩
theorem ff_machine {f f' : Nat → Int32} {m : Nat} {x1 : Int32} (e : f' = upd (upd f (704 + m) x1) 4 (nI (m + 1))) : FF f f' 5 m (rowc x1 0 0 0) := by
  have g1 : ∀ k, 9 ≤ k → k < 887 → (k < 704 + m * 1 ∨ 704 + m * 1 + 1 ≤ k) → f' k = f k := fun k k1 k2 k3 => by
    rw [e, pk_un (by omega), pk_un (by omega)]
  have g2 : ∀ c, c < 1 → f' (704 + (m * 1 + c)) = (rowc x1 0 0 0) c := by
    intro c hc
    rw [e]
    have : c = 0 := by omega
    subst this
    rw [pk_un (by omega), ps_u (by omega)]; rfl
  exact ⟨g1, g2⟩
theorem ff_spare {f f' : Nat → Int32} {m : Nat} {x1 x2 x3 : Int32} (e : f' = upd (upd (upd (upd f (710 + 3 * m) x1) (710 + 3 * m + 1) x2) (710 + 3 * m + 2) x3) 5 (nI (m + 1))) : FF f f' 6 m (rowc x1 x2 x3 0) := by
  have g1 : ∀ k, 9 ≤ k → k < 887 → (k < 710 + m * 3 ∨ 710 + m * 3 + 3 ≤ k) → f' k = f k := fun k k1 k2 k3 => by
    rw [e, pk_un (by omega), pk_un (by omega), pk_un (by omega), pk_un (by omega)]
  have g2 : ∀ c, c < 3 → f' (710 + (m * 3 + c)) = (rowc x1 x2 x3 0) c := by
    intro c hc
    rw [e]
    have : c = 0 ∨ c = 1 ∨ c = 2 := by omega
    rcases this with rfl | rfl | rfl
    · rw [pk_un (by omega), pk_un (by omega), pk_un (by omega), ps_u (by omega)]; rfl
    · rw [pk_un (by omega), pk_un (by omega), ps_u (by omega)]; rfl
    · rw [pk_un (by omega), ps_u (by omega)]; rfl
  exact ⟨g1, g2⟩
theorem ff_hand {f f' : Nat → Int32} {m : Nat} {x1 x2 : Int32} (e : f' = upd (upd (upd f (817 + 2 * m) x1) (817 + 2 * m + 1) x2) 7 (nI (m + 1))) : FF f f' 9 m (rowc x1 x2 0 0) := by
  have g1 : ∀ k, 9 ≤ k → k < 887 → (k < 817 + m * 2 ∨ 817 + m * 2 + 2 ≤ k) → f' k = f k := fun k k1 k2 k3 => by
    rw [e, pk_un (by omega), pk_un (by omega), pk_un (by omega)]
  have g2 : ∀ c, c < 2 → f' (817 + (m * 2 + c)) = (rowc x1 x2 0 0) c := by
    intro c hc
    rw [e]
    have : c = 0 ∨ c = 1 := by omega
    rcases this with rfl | rfl
    · rw [pk_un (by omega), pk_un (by omega), ps_u (by omega)]; rfl
    · rw [pk_un (by omega), ps_u (by omega)]; rfl
  exact ⟨g1, g2⟩
theorem ff_told {f f' : Nat → Int32} {m : Nat} {x1 x2 : Int32} (e : f' = upd (upd (upd f (737 + 2 * m) x1) (737 + 2 * m + 1) (if x2 = 0 then 0 else 1)) 6 (nI (m + 1))) : FF f f' 8 m (rowc x1 (if x2 = 0 then 0 else 1) 0 0) := by
  have g1 : ∀ k, 9 ≤ k → k < 887 → (k < 737 + m * 2 ∨ 737 + m * 2 + 2 ≤ k) → f' k = f k := fun k k1 k2 k3 => by
    rw [e, pk_un (by omega), pk_un (by omega), pk_un (by omega)]
  have g2 : ∀ c, c < 2 → f' (737 + (m * 2 + c)) = (rowc x1 (if x2 = 0 then 0 else 1) 0 0) c := by
    intro c hc
    rw [e]
    have : c = 0 ∨ c = 1 := by omega
    rcases this with rfl | rfl
    · rw [pk_un (by omega), pk_un (by omega), ps_u (by omega)]; rfl
    · rw [pk_un (by omega), ps_u (by omega)]; rfl
  exact ⟨g1, g2⟩
theorem ff_write {f f' : Nat → Int32} {m : Nat} {x1 : Int32} (e : f' = upd (upd f (827 + m) x1) 8 (nI (m + 1))) : FF f f' 11 m (rowc x1 0 0 0) := by
  have g1 : ∀ k, 9 ≤ k → k < 887 → (k < 827 + m * 1 ∨ 827 + m * 1 + 1 ≤ k) → f' k = f k := fun k k1 k2 k3 => by
    rw [e, pk_un (by omega), pk_un (by omega)]
  have g2 : ∀ c, c < 1 → f' (827 + (m * 1 + c)) = (rowc x1 0 0 0) c := by
    intro c hc
    rw [e]
    have : c = 0 := by omega
    subst this
    rw [pk_un (by omega), ps_u (by omega)]; rfl
  exact ⟨g1, g2⟩
theorem ff_say {f f' : Nat → Int32} {m : Nat} {x1 x2 x3 x4 x5 : Int32} (e : f' = upd (upd (upd (upd (upd (upd (upd f (152 + 6 * m) x1) (152 + 6 * m + 1) x2) (152 + 6 * m + 2) x3) (152 + 6 * m + 3) (if x2 = 0 ∨ x2 = 1 then x4 else 0)) (152 + 6 * m + 4) (if x2 = 0 then x5 else 0)) (152 + 6 * m + 5) 0) 1 (nI (m + 1))) : FF f f' 2 m (rows x1 x2 x3 x4 x5) := by
  have g1 : ∀ k, 9 ≤ k → k < 887 → (k < 152 + m * 6 ∨ 152 + m * 6 + 6 ≤ k) → f' k = f k := fun k k1 k2 k3 => by
    rw [e, pk_un (by omega), pk_un (by omega), pk_un (by omega), pk_un (by omega), pk_un (by omega), pk_un (by omega), pk_un (by omega)]
  have g2 : ∀ c, c < 6 → f' (152 + (m * 6 + c)) = (rows x1 x2 x3 x4 x5) c := by
    intro c hc
    rw [e]
    have : c = 0 ∨ c = 1 ∨ c = 2 ∨ c = 3 ∨ c = 4 ∨ c = 5 := by omega
    rcases this with rfl | rfl | rfl | rfl | rfl | rfl
    · rw [pk_un (by omega), pk_un (by omega), pk_un (by omega), pk_un (by omega), pk_un (by omega), pk_un (by omega), ps_u (by omega)]; rfl
    · rw [pk_un (by omega), pk_un (by omega), pk_un (by omega), pk_un (by omega), pk_un (by omega), ps_u (by omega)]; rfl
    · rw [pk_un (by omega), pk_un (by omega), pk_un (by omega), pk_un (by omega), ps_u (by omega)]; rfl
    · rw [pk_un (by omega), pk_un (by omega), pk_un (by omega), ps_u (by omega)]; rfl
    · rw [pk_un (by omega), pk_un (by omega), ps_u (by omega)]; rfl
    · rw [pk_un (by omega), ps_u (by omega)]; rfl
  exact ⟨g1, g2⟩
theorem ff_work {f f' : Nat → Int32} {m : Nat} {x1 x2 x3 x4 : Int32} (e : f' = upd (upd (upd (upd (upd f (672 + 4 * m) x1) (672 + 4 * m + 1) x2) (672 + 4 * m + 2) x3) (672 + 4 * m + 3) x4) 3 (nI (m + 1))) : FF f f' 4 m (rowc x1 x2 x3 x4) := by
  have g1 : ∀ k, 9 ≤ k → k < 887 → (k < 672 + m * 4 ∨ 672 + m * 4 + 4 ≤ k) → f' k = f k := fun k k1 k2 k3 => by
    rw [e, pk_un (by omega), pk_un (by omega), pk_un (by omega), pk_un (by omega), pk_un (by omega)]
  have g2 : ∀ c, c < 4 → f' (672 + (m * 4 + c)) = (rowc x1 x2 x3 x4) c := by
    intro c hc
    rw [e]
    have : c = 0 ∨ c = 1 ∨ c = 2 ∨ c = 3 := by omega
    rcases this with rfl | rfl | rfl | rfl
    · rw [pk_un (by omega), pk_un (by omega), pk_un (by omega), pk_un (by omega), ps_u (by omega)]; rfl
    · rw [pk_un (by omega), pk_un (by omega), pk_un (by omega), ps_u (by omega)]; rfl
    · rw [pk_un (by omega), pk_un (by omega), ps_u (by omega)]; rfl
    · rw [pk_un (by omega), ps_u (by omega)]; rfl
  exact ⟨g1, g2⟩
theorem RLT.addP {C : Prop} {h h1 h2 : HI} {r s : Int32} {m k : Nat} {x1 x2 x3 x4 : Int32} {F : (Nat → Int32) → Prop} (q : RLT h) (T : TT h 2 m 5 24) (em : h 136 0 = nI m) (a : ADc C h r h1 2 m 5 24 k (rowc x1 x2 x3 x4)) (b : ADr C h1 s h2 0 m 24 k F) (up : h1 136 = h 136) (ff : ∀ f', F f' → FF (h1 136) f' 0 m (rowc x1 x2 x3 x4)) : RLT h2 := by
  have hm' := T.2.2.2.1
  rw [up] at ff
  refine RLT.add (j := 0) q (by omega) T a b (fun hm f' hf k k1 k2 k3 => by rw [up]; exact (ff f' hf).fr (by omega) (by decide) hm k k1 k2 k3) (fun _ hm f' hf c old new => ?_) (fun _ hm f' hf x ec ef => ?_)
  · have hm : m < 24 := hm
    rw [CE.e0] at c ⊢
    obtain ⟨d1, cN, rN, d2, d3, d4⟩ := c
    have old : ∀ i, i < m * 5 → h2 3 i = h 3 i := old
    have new : ∀ c, c < 5 → h2 3 (m * 5 + c) = rowc x1 x2 x3 x4 c := new
    have f1 : ∀ k, 9 ≤ k → k < 887 → (k < 20 + m * 5 ∨ 20 + m * 5 + 5 ≤ k) → f' k = h 136 k := (ff f' hf).1
    have f2 : ∀ c, c < 5 → f' (20 + (m * 5 + c)) = rowc x1 x2 x3 x4 c := (ff f' hf).2
    have d1 : ∀ p, p < m → ∀ c, c < 4 → h 3 (p * 5 + c) = h 136 (20 + (p * 5 + c)) := d1
    have d2 : ∀ p, p < m → cN p < 2 ^ 24 ∧ rN p < 2 ^ 24 ∧ h 3 (p * 5 + 4) = nI (cN p) ∧ h 136 (20 + (p * 5 + 4)) = nI (rN p) := d2
    refine ⟨fun p hp c hc => ?_, cN, rN, fun p hp => ?_, fun p hp => d3 p (by omega), d4⟩
    · show h2 3 (p * 5 + c) = f' (20 + (p * 5 + c))
      by_cases e : p = m
      · subst e; rw [new c (by omega), f2 c (by omega)]
      · rw [old (p * 5 + c) (by omega), f1 (20 + (p * 5 + c)) (by omega) (by omega) (by omega)]; exact d1 p (by omega) c hc
    · show cN p < 2 ^ 24 ∧ rN p < 2 ^ 24 ∧ h2 3 (p * 5 + 4) = nI (cN p) ∧ f' (20 + (p * 5 + 4)) = nI (rN p)
      by_cases e : p = m
      · subst e
        obtain ⟨z1, z2⟩ := d3 p (Nat.le_refl _)
        rw [z1, z2, new 4 (by omega), f2 4 (by omega), nI_0]
        exact ⟨by decide, by decide, rfl, rfl⟩
      · rw [old (p * 5 + 4) (by omega), f1 (20 + (p * 5 + 4)) (by omega) (by omega) (by omega)]; exact d2 p (by omega)
  · have hm : m < 24 := hm
    have f1 : ∀ k, 9 ≤ k → k < 887 → (k < 20 + m * 5 ∨ 20 + m * 5 + 5 ≤ k) → f' k = h 136 k := (ff f' hf).1
    have ec : f' 0 = nI (m + 1) := ec
    have ef : ∀ i, i < 9 → i ≠ 0 → f' i = h 136 i := ef
    exact x.cg (by rw [ec, em, nI_toInt (by omega), nI_toInt (by omega)]; omega) (ef 1 (by omega) (by omega)) (ef 2 (by omega) (by omega)) (fun k k1 k2 => f1 k (by omega) (by omega) (by omega))
theorem RLT.addY {C : Prop} {h h1 h2 : HI} {r s : Int32} {m k : Nat} {x1 x2 x3 x4 x5 : Int32} {F : (Nat → Int32) → Prop} (q : RLT h) (T : TT h 6 m 6 60) (em : h 136 1 = nI m) (cC : C → isRow (h 136 0) x1) (a : ADc C h r h1 6 m 6 60 k (rows x1 x2 x3 x4 x5)) (b : ADr C h1 s h2 1 m 60 k F) (up : h1 136 = h 136) (ff : ∀ f', F f' → FF (h1 136) f' 2 m (rows x1 x2 x3 x4 x5)) : RLT h2 := by
  have hm' := T.2.2.2.1
  rw [up] at ff
  refine RLT.add (j := 2) q (by omega) T a b (fun hm f' hf k k1 k2 k3 => by rw [up]; exact (ff f' hf).fr (by omega) (by decide) hm k k1 k2 k3) (fun _ hm f' hf c old new => (ff f' hf).ce (by omega) (by decide) (by decide) hm c old new) (fun hC hm f' hf x ec ef => ?_)
  have hm : m < 60 := hm
  have f1 : ∀ k, 9 ≤ k → k < 887 → (k < 152 + m * 6 ∨ 152 + m * 6 + 6 ≤ k) → f' k = h 136 k := (ff f' hf).1
  have f2 : ∀ c, c < 6 → f' (152 + (m * 6 + c)) = rows x1 x2 x3 x4 x5 c := (ff f' hf).2
  have ec : f' 1 = nI (m + 1) := ec
  have ef : ∀ i, i < 9 → i ≠ 1 → f' i = h 136 i := ef
  refine ⟨fun r n g1 g2 g3 => ?_, fun r n k c g1 g2 g3 g4 g5 g6 => ?_⟩
  · have : n = m + 1 := (nI_eq (by omega) (by omega)).mp (g1.symm.trans ec)
    subst this
    rw [ef 0 (by omega) (by omega)]
    by_cases e : r = m
    · subst e
      rw [f2 0 (by omega), f2 5 (by omega)]
      exact ⟨cC hC, .inl rfl⟩
    · rw [f1 (152 + (r * 6 + 0)) (by omega) (by omega) (by omega), f1 (152 + (r * 6 + 5)) (by omega) (by omega) (by omega)]
      exact x.1 r m em (by omega) (by omega)
  · rw [ef 2 (by omega) (by omega)] at g1
    rw [f1 (512 + (r * 10 + 2)) (by omega) (by omega) (by omega)] at g4
    rw [ef 0 (by omega) (by omega), f1 (512 + (r * 10 + (3 + k))) (by omega) (by omega) (by omega)]
    exact x.2 r n k c g1 g2 g3 g4 g5 g6
theorem RLT.addC {h h1 h2 : HI} {r s : Int32} {m k : Nat} {x1 x2 : Int32} (q : RLT h) (T : TT h 8 m 15 16) (em : h 136 2 = nI m) (a : ADc (K_chain x1 x2) h r h1 8 m 15 16 k (rowc x1 x2 0 0)) (b : ADr (K_chain x1 x2) h1 s h2 2 m 16 k (fun f' => (∀ i, i ≠ 2 → (i < 512 + 10 * m ∨ 512 + 10 * m + 10 ≤ i) → f' i = h1 136 i) ∧ ∀ c, c < 10 → f' (512 + 10 * m + c) = rowc x1 x2 0 0 c)) (up : h1 136 = h 136) : RLT h2 := by
  have hm' := T.2.2.2.1
  refine RLT.add (j := 3) q (by omega) T a b (fun hm f' hf k k1 k2 k3 => ?_) (fun _ hm f' hf c old new => ?_) (fun hC hm f' hf x ec ef => ?_)
  · have hm : m < 16 := hm
    have k3 : k < 512 ∨ 672 ≤ k := k3
    exact hf.1 k (by omega) (by omega)
  · have hm : m < 16 := hm
    rw [up] at hf
    obtain ⟨f1, f2⟩ := hf
    rw [CE.e3] at c ⊢
    have old : ∀ i, i < m * 15 → h2 9 i = h 9 i := old
    have new : ∀ c, c < 15 → h2 9 (m * 15 + c) = rowc x1 x2 0 0 c := new
    have f2 : ∀ c, c < 10 → f' (512 + (m * 10 + c)) = rowc x1 x2 0 0 c := fun c hc => by rw [← f2 c hc]; congr 1; omega
    intro r' hr'
    show h2 9 (r' * 15) = f' (512 + r' * 10) ∧ h2 9 (r' * 15 + 1) = f' (512 + (r' * 10 + 1)) ∧ h2 9 (r' * 15 + 2) = f' (512 + (r' * 10 + 2)) ∧ ∃ n o : Nat, n ≤ 6 ∧ f' (512 + (r' * 10 + 2)) = nI n ∧ o < 2 ^ n ∧ f' (512 + (r' * 10 + 9)) = nI o ∧ ∀ k, k < n → h2 9 (r' * 15 + (3 + 2 * k)) = f' (512 + (r' * 10 + (3 + k))) ∧ h2 9 (r' * 15 + (4 + 2 * k)) = (if o.testBit k then 1 else 0)
    by_cases e : r' = m
    · subst e
      refine ⟨(new 0 (by omega)).trans (f2 0 (by omega)).symm, by rw [new 1 (by omega), f2 1 (by omega)], by rw [new 2 (by omega), f2 2 (by omega)], 0, 0, by omega, by rw [f2 2 (by omega)]; exact nI_0.symm, by decide, by rw [f2 9 (by omega)]; exact nI_0.symm, fun k hk => by omega⟩
    · obtain ⟨w1, w2, w3, nw, ow, w4, w5, w6, w7, w8⟩ := c r' (by omega)
      have fa : ∀ k, k < 15 → h2 9 (r' * 15 + k) = h 9 (r' * 15 + k) := fun k hk => old _ (by omega)
      have fc : ∀ k, k < 10 → f' (512 + (r' * 10 + k)) = h 136 (512 + (r' * 10 + k)) := fun k hk => f1 _ (by omega) (by omega)
      refine ⟨(fa 0 (by omega)).trans (w1.trans (fc 0 (by omega)).symm), by rw [fa 1 (by omega), fc 1 (by omega)]; exact w2, by rw [fa 2 (by omega), fc 2 (by omega)]; exact w3, nw, ow, w4, by rw [fc 2 (by omega)]; exact w5, w6, by rw [fc 9 (by omega)]; exact w7, fun k hk => ⟨by rw [fa (3 + 2 * k) (by omega), fc (3 + k) (by omega)]; exact (w8 k hk).1, by rw [fa (4 + 2 * k) (by omega)]; exact (w8 k hk).2⟩⟩
  · have hm : m < 16 := hm
    rw [up] at hf
    obtain ⟨f1, f2⟩ := hf
    have f2 : ∀ c, c < 10 → f' (512 + (m * 10 + c)) = rowc x1 x2 0 0 c := fun c hc => by rw [← f2 c hc]; congr 1; omega
    have ec : f' 2 = nI (m + 1) := ec
    refine ⟨fun r n g1 g2 g3 => ?_, fun r n k c g1 g2 g3 g4 g5 g6 => ?_⟩
    · rw [f1 1 (by omega) (by omega)] at g1
      rw [f1 0 (by omega) (by omega), f1 (152 + (r * 6 + 0)) (by omega) (by omega), f1 (152 + (r * 6 + 5)) (by omega) (by omega)]
      exact x.1 r n g1 g2 g3
    · have : n = m + 1 := (nI_eq (by omega) (by omega)).mp (g1.symm.trans ec)
      subst this
      by_cases e : r = m
      · subst e
        rw [f2 2 (by omega)] at g4
        have : c = 0 := (nI_eq (b := 0) (by omega) (by omega)).mp g4.symm
        omega
      · rw [f1 (512 + (r * 10 + 2)) (by omega) (by omega)] at g4
        rw [f1 0 (by omega) (by omega), f1 (512 + (r * 10 + (3 + k))) (by omega) (by omega)]
        exact x.2 r m k c em (by omega) (by omega) g4 g5 g6
theorem st_erase {A : Prop} {h h1 h2 : HI} (q : RLT h) (a : PTc A h h1 24 0 1 60) (b : ST h1 h2 (upd (h1 136) 8 0)) : RLT h2 := by
  obtain ⟨-, J, T⟩ := a
  obtain ⟨F, Ff, R⟩ := b
  have e6 : h1 136 = h 136 := J 136 (by unfold SM; omega)
  rw [e6] at Ff
  have fr : ∀ k, k ≠ 8 → h2 136 k = h 136 k := fun k hk => by rw [Ff, pk_un hk]
  refine q.put (j := 11) (by omega) J F (fun k k1 k2 k3 => fr k (by omega)) (fun m hm ht => ?_) (q.1.2.cg (by rw [fr 0 (by omega)]; exact Int.le_refl _) (fr 1 (by omega)) (fr 2 (by omega)) (fun k k1 k2 => fr k (by omega)))
  have T2 : TT h2 24 0 1 60 := T.cg (F 24 (by decide))
  have : m = 0 := T2.nu ht hm
  subst this
  refine (CE.es (by decide) (by decide)).mpr (fun k hk => ?_)
  rw [Nat.zero_mul] at hk
  omega
theorem st_scrap {h h1 h2 : HI} (q : RLT h) (J : JJ (fun q => q = 12 ∨ q = 14) h h1) (T : TT h1 12 0 1 6) (U : TT h1 14 0 3 9) (b : ST h1 h2 (upd (upd (h1 136) 4 0) 5 0)) : RLT h2 := by
  obtain ⟨F, Ff, R⟩ := b
  have e6 : h1 136 = h 136 := J 136 (by decide)
  rw [e6] at Ff
  have fr : ∀ k, k ≠ 4 → k ≠ 5 → h2 136 k = h 136 k := fun k h4 h5 => by rw [Ff, pk_un h5, pk_un h4]
  have e : ∀ o, o ≠ 12 → o ≠ 14 → o ≠ 136 → h2 o = h o := fun o a b c => (F o c).trans (J o (by omega))
  refine q.sh ⟨fun j m hj hm ht => ?_, q.1.2.cg (by rw [fr 0 (by omega) (by omega)]; exact Int.le_refl _) (fr 1 (by omega) (by omega)) (fr 2 (by omega) (by omega)) (fun k k1 k2 => fr k (by omega) (by omega))⟩ (fun o a b => e o (by omega) (by omega) (by omega)) (e 137 (by decide) (by decide) (by decide)) (e 138 (by decide) (by decide) (by decide))
  by_cases j5 : j = 5
  · subst j5
    have : m = 0 := (T.cg (F 12 (by decide))).nu ht hm
    subst this
    refine (CE.es (by decide) (by decide)).mpr (fun k hk => ?_)
    rw [Nat.zero_mul] at hk; omega
  by_cases j6 : j = 6
  · subst j6
    have : m = 0 := (U.cg (F 14 (by decide))).nu ht hm
    subst this
    refine (CE.es (by decide) (by decide)).mpr (fun k hk => ?_)
    rw [Nat.zero_mul] at hk; omega
  rw [e (1 + (1 + 2 * j)) (by omega) (by omega) (by omega)] at ht
  have h9 := bs_9 hj
  exact (q.1.1 j m hj hm ht).tr hj hm (fun i _ => by rw [e (1 + (1 + 2 * j) + 1) (by omega) (by omega) (by omega)]) (fun k k1 k2 => fr k (by omega) (by omega))
/-- a shop that was copied holds what the other did -/
theorem RL1.cp {h h' : HI} {o o1 : Nat} {f f' : Nat → Int32} (r : RL1 h o1 f) (I : CPK h h' o o1 12) (ef : ∀ k, k < 887 → f' k = f k) : RL1 h' o f' := by
  refine ⟨fun j m hj hm ht => ?_, r.2.cg (by rw [ef 0 (by omega)]; exact Int.le_refl _) (ef 1 (by omega)) (ef 2 (by omega)) (fun k _ hk => ef k (by omega))⟩
  obtain ⟨m1, T1, T2, cc⟩ := I.2 j hj
  have : m = m1 := T2.nu ht hm
  subst this
  have := hi_le hj
  exact (r.1 j m hj hm T1.2.2.1).tr hj hm cc (fun k _ hk => ef k (by omega))
theorem rl_image {h h1 h2 : HI} {r s x1 : Int32} (q : RLT h) (a : (¬ bd 0 1 x1 ∧ r = -2 ∧ h1 = h) ∨ ∃ i, i < 2 ∧ x1 = nI i ∧ r = 1 ∧ ∃ h0, CPK h h0 (26 + 25 * i) 1 12 ∧ h1 = hu h0 76 i 1) (b : (¬ bd 0 1 x1 ∧ s = -2 ∧ h2 = h1) ∨ ∃ i, i < 2 ∧ x1 = nI i ∧ s = 1 ∧ (∀ o, o ≠ 137 → o ≠ 138 → h2 o = h1 o) ∧ h2 138 = upd (h1 138) i 1 ∧ (∀ k, k < 887 → h2 137 (887 * i + k) = h1 136 k) ∧ ∀ k, k < 887 * i ∨ 887 * i + 887 ≤ k → h2 137 k = h1 137 k) : RLT h2 := by
  rcases a with ⟨a1, a2, rfl⟩ | ⟨i, hi, rfl, a2, h0, I0, e1⟩
  · rcases b with ⟨b1, b2, rfl⟩ | ⟨i, hi, rfl, b2, -⟩
    · exact q
    · exact absurd (bd_of (by omega) (by omega) (by omega)) a1
  · rcases b with ⟨b1, b2, rfl⟩ | ⟨i', hi', e', b2, F, F8, F7, F7'⟩
    · exact absurd (bd_of (by omega) (by omega) (by omega)) b1
    · have : i = i' := (nI_eq (by omega) (by omega)).mp e'
      subst this
      have g1 : ∀ q, q ≠ 76 → h1 q = h0 q := fun q n => by rw [e1, hu_ne n]
      have g0 : ∀ q, q ≠ 76 → (q < 26 + 25 * i + 1 ∨ 26 + 25 * i + 24 < q) → h1 q = h q := fun q n76 n1 => by
        rw [g1 q n76]; exact I0.1 q (by omega)
      have e6 : h2 136 = h 136 := (F 136 (by decide) (by decide)).trans (g0 136 (by decide) (by omega))
      have e7 : h1 137 = h 137 := g0 137 (by decide) (by omega)
      have e8 : h1 138 = h 138 := g0 138 (by decide) (by omega)
      rw [e8] at F8
      rw [e7] at F7'
      rw [g0 136 (by decide) (by omega)] at F7
      have tb : ∀ q, q ≤ 75 → h2 q = h0 q := fun q hq => (F q (by omega) (by omega)).trans (g1 q (by omega))
      refine ⟨q.1.cg (fun o a b => (tb o (by omega)).trans (I0.1 o (by omega))) (fun k _ => by rw [e6]), fun i' hi' hn => ?_⟩
      by_cases qi : i' = i
      · subst qi
        have c1 : RL1 h0 (26 + 25 * i') (IMG h2 i') := q.1.cp I0 (fun k hk => F7 k hk)
        exact c1.cg (fun o a b => tb o (by omega)) (fun _ _ => rfl)
      · rw [F8, pk_un qi] at hn
        exact (q.2 i' hi' hn).cg (fun o a b => (tb o (by omega)).trans (I0.1 o (by omega))) (fun k hk => F7' _ (by omega))
theorem rl_from {h h1 h2 : HI} {r s x1 : Int32} (v : INV h) (q : RLT h) (a : (¬ bd 0 1 x1 ∧ r = -2 ∧ h1 = h) ∨ ∃ i, i < 2 ∧ x1 = nI i ∧ ((h 76 i = 0 ∧ r = -3 ∧ h1 = h) ∨ (¬ h 76 i = 0 ∧ r = 1 ∧ ∃ h0, CPK h h0 1 (26 + 25 * i) 12 ∧ JJ SLaw h0 h1))) (b : (¬ bd 0 1 x1 ∧ s = -2 ∧ h2 = h1) ∨ ∃ i, i < 2 ∧ x1 = nI i ∧ ((h1 138 i = 0 ∧ s = -3 ∧ h2 = h1) ∨ (¬ h1 138 i = 0 ∧ s = 1 ∧ (∀ o, o ≠ 136 → h2 o = h1 o) ∧ (∀ k, k < 887 → h2 136 k = h1 137 (887 * i + k)) ∧ ∀ k, 887 ≤ k → h2 136 k = h1 136 k))) : RLT h2 := by
  obtain ⟨-, -, -, -, kf, -⟩ := v
  have kk : ∀ i, i < 2 → h 76 i = h 138 i := fun i hi => by
    have : i = 0 ∨ i = 1 := by omega
    rcases this with rfl | rfl
    · exact kf.1
    · exact kf.2
  rcases a with ⟨a1, a2, rfl⟩ | ⟨i, hi, rfl, a⟩
  · rcases b with ⟨b1, b2, rfl⟩ | ⟨i, hi, rfl, b2⟩
    · exact q
    · exact absurd (bd_of (by omega) (by omega) (by omega)) a1
  · rcases b with ⟨b1, b2, rfl⟩ | ⟨i', hi', e', b⟩
    · exact absurd (bd_of (by omega) (by omega) (by omega)) b1
    · have : i = i' := (nI_eq (by omega) (by omega)).mp e'
      subst this
      rcases a with ⟨a0, a2, rfl⟩ | ⟨a0, a2, h0, I0, J0⟩
      · rcases b with ⟨b0, b2, rfl⟩ | ⟨b0, b2⟩
        · exact q
        · exact absurd ((kk i hi).symm.trans a0) b0
      · have up : ∀ q, 76 ≤ q → ¬ SLaw q → h1 q = h q := fun q hq n => (J0 q n).trans (I0.1 q (by omega))
        rcases b with ⟨b0, b2, rfl⟩ | ⟨b0, b2, F, F6, F6'⟩
        · rw [up 138 (by omega) (by unfold SLaw; omega), ← kk i hi] at b0
          exact absurd b0 a0
        · have tb : ∀ q, q ≤ 75 → h2 q = h0 q := fun q hq => (F q (by omega)).trans (J0 q (by unfold SLaw; omega))
          have e7 : h2 137 = h 137 := (F 137 (by decide)).trans (up 137 (by omega) (by unfold SLaw; omega))
          have e8 : h2 138 = h 138 := (F 138 (by decide)).trans (up 138 (by omega) (by unfold SLaw; omega))
          rw [up 137 (by omega) (by unfold SLaw; omega)] at F6
          have c1 : RL1 h0 1 (h2 136) := (q.2 i hi (by rw [← kk i hi]; exact a0)).cp I0 (fun k hk => F6 k hk)
          refine ⟨c1.cg (fun o a b => tb o (by omega)) (fun _ _ => rfl), fun i' hi' hn => ?_⟩
          rw [e8] at hn
          exact (q.2 i' hi' hn).cg (fun o a b => (tb o (by omega)).trans (I0.1 o (by omega))) (fun k _ => by unfold IMG; rw [e7])
theorem RL_start {h1 h2 : HI} (a : (∀ s, isS s → ∀ j, j < 12 → TT h1 (s + (1 + 2 * j)) (m0 j) (wJ j) (MJ j)) ∧ h1 76 = (fun _ => 0) ∧ (∀ i, i < 12 → h1 5 i = fam i) ∧ (∀ i, i < 4 → h1 23 i = 0) ∧ ∀ i, i < 2 → h1 17 i = 0) (b : (∀ o, o < 135 → h2 o = h1 o) ∧ RG (h2 136) ∧ (∀ i, i < 9 → h2 136 i = 0) ∧ h2 138 = (fun _ => 0) ∧ h2 147 0 = 0 ∧ h2 147 1 = 1 ∧ (∀ i, i < 12 → h2 136 (140 + i) = fam i) ∧ ∀ i, i < 140 ∨ 152 ≤ i → h2 136 i = 0) : RLT h2 := by
  obtain ⟨T, z, fa, nd, od⟩ := a
  obtain ⟨F, R, Z, K, w0, w1, fr, zr⟩ := b
  refine ⟨⟨fun j m hj hm ht => ?_, ⟨fun r n g1 g2 g3 => ?_, fun r n k c g1 g2 g3 g4 g5 g6 => ?_⟩⟩, fun i hi hn => ?_⟩
  · have T2 : TT h2 (1 + (1 + 2 * j)) (m0 j) (wJ j) (MJ j) := (T 1 isS1 j hj).cg (F _ (by omega))
    have : m = m0 j := T2.nu ht hm
    subst this
    by_cases j1 : j = 1
    · subst j1
      refine (CE.es (by decide) (by decide)).mpr (fun k hk => ?_)
      have hk : k < 12 := hk
      show h2 5 k = h2 136 (140 + k)
      rw [F 5 (by omega), fa k hk, fr k hk]
    by_cases j10 : j = 10
    · subst j10
      refine (CE.es (by decide) (by decide)).mpr (fun k hk => ?_)
      have hk : k < 4 := hk
      show h2 23 k = h2 136 (823 + k)
      rw [F 23 (by omega), nd k hk, zr _ (by omega)]
    by_cases j7 : j = 7
    · subst j7
      refine (CE.es (by decide) (by decide)).mpr (fun k hk => ?_)
      have hk : k < 2 := hk
      show h2 17 k = h2 136 (9 + k)
      rw [F 17 (by omega), od k hk, zr _ (by omega)]
    have e0 : m0 j = 0 := by
      unfold m0
      rw [if_neg (fun q => q.elim j1 j10), if_neg j7]
    rw [e0]
    by_cases j0 : j = 0
    · subst j0
      refine CE.e0.mpr ⟨fun p hp => absurd hp (Nat.not_lt_zero p), fun _ => 0, fun _ => 0, fun p hp => absurd hp (Nat.not_lt_zero p), fun p _ => ⟨rfl, rfl⟩, fun a b => ?_⟩
      rw [Nat.zero_testBit, Nat.zero_testBit]
    by_cases j3 : j = 3
    · subst j3
      exact CE.e3.mpr (fun r hr => absurd hr (Nat.not_lt_zero r))
    · refine (CE.es j0 j3).mpr (fun k hk => ?_)
      rw [Nat.zero_mul] at hk; omega
  · rw [Z 1 (by omega)] at g1
    have : n = 0 := (nI_eq (b := 0) (by omega) (by omega)).mp g1.symm
    omega
  · rw [Z 2 (by omega)] at g1
    have : n = 0 := (nI_eq (b := 0) (by omega) (by omega)).mp g1.symm
    omega
  · rw [K] at hn
    exact absurd rfl hn
theorem st_ask {h h1 h2 : HI} (q : RLT h) (a : JJ SC h h1) (b : KJ SRef h1 h2) : RLT h2 := by
  have e : ∀ o, ¬ SC o → (∀ k, ¬ SRef o k) → h2 o = h o := fun o n m => (funext fun k => b o k (m k)).trans (a o n)
  exact q.ask (fun o ho => e o (by unfold SC; omega) (fun k => by unfold SRef; omega)) (e 136 (by unfold SC; omega) (fun k => by unfold SRef; omega)) (e 137 (by unfold SC; omega) (fun k => by unfold SRef; omega)) (e 138 (by unfold SC; omega) (fun k => by unfold SRef; omega))
def INV2 (h : HI) : Prop := INV h ∧ RLT h
theorem link_n {h : HI} {m : Nat} (q : RLT h) (T : TT h 8 m 15 16) : ∀ c, c < m → ∃ n, n ≤ 6 ∧ h 9 (c * 15 + 2) = nI n := fun c hc => by
  obtain ⟨-, -, g3, n, -, n6, g5, -⟩ := CE.e3.mp (q.1.1 3 m (by omega) T.2.2.2.1 T.2.2.1) c hc
  exact ⟨n, n6, g3.trans g5⟩
theorem count_eq {h : HI} (v : INV h) (q : RLT h) {m : Nat} (T : TT h 6 m 6 60) (k1 : h 136 1 = nI m) {k : Nat} (hk : k ≤ 9) : cvC h m k = cvR (h 136) m k := by
  have cn := v.2.2.2.1
  have hm := T.2.2.2.1
  have c0 : ∀ k, k < m * 6 → h 7 k = h 136 (152 + k) := (CE.es (j := 2) (by decide) (by decide)).mp (q.1.1 2 m (by omega) hm T.2.2.1)
  have d : ∀ j c, j < 12 → ¬ (j = 1 ∨ j = 10) → ¬ j = 7 → cpJ j = c → h (1 + (1 + 2 * j)) 3 = h 136 c := fun j c hj a b e => by
    obtain ⟨m', T', k'⟩ := cn j hj
    unfold cOK at k'
    rw [if_neg a, if_neg b, e] at k'
    exact T'.2.2.1.trans k'.symm
  have : k = 0 ∨ k = 1 ∨ k = 2 ∨ k = 3 ∨ k = 4 ∨ k = 5 ∨ k = 6 ∨ k = 7 ∨ k = 8 ∨ k = 9 := by omega
  unfold cvC cvR
  rcases this with rfl | rfl | rfl | rfl | rfl | rfl | rfl | rfl | rfl | rfl
  · rw [if_neg (by decide), if_pos (by decide)]; exact d 0 0 (by omega) (by decide) (by decide) rfl
  · rw [if_neg (by decide), if_pos (by decide)]; exact d 2 1 (by omega) (by decide) (by decide) rfl
  · rw [if_pos rfl, if_neg (by decide), if_pos rfl]
    exact dsm_cg (fun i hi => c0 _ (by omega))
  · rw [if_neg (by decide), if_neg (by decide), if_neg (by decide)]; exact d 3 2 (by omega) (by decide) (by decide) rfl
  · rw [if_neg (by decide), if_neg (by decide), if_neg (by decide)]; exact d 4 3 (by omega) (by decide) (by decide) rfl
  · rw [if_neg (by decide), if_neg (by decide), if_neg (by decide)]; exact d 5 4 (by omega) (by decide) (by decide) rfl
  · rw [if_neg (by decide), if_neg (by decide), if_neg (by decide)]; exact d 6 5 (by omega) (by decide) (by decide) rfl
  · rw [if_neg (by decide), if_neg (by decide), if_neg (by decide)]; exact d 8 6 (by omega) (by decide) (by decide) rfl
  · rw [if_neg (by decide), if_neg (by decide), if_neg (by decide)]; exact d 9 7 (by omega) (by decide) (by decide) rfl
  · rw [if_neg (by decide), if_neg (by decide), if_neg (by decide)]; exact d 11 8 (by omega) (by decide) (by decide) rfl
theorem count_st {h : HI} {r s x1 : Int32} (v : INV h) (q : RLT h) {m : Nat} (T : TT h 6 m 6 60) (k1 : h 136 1 = nI m) (a : (¬ bd 0 9 x1 ∧ r = -2) ∨ ∃ k : Nat, k ≤ 9 ∧ x1 = nI k ∧ r = cvC h m k) (b : (¬ bd 0 9 x1 ∧ s = -2) ∨ ∃ k : Nat, k ≤ 9 ∧ x1 = nI k ∧ s = cvR (h 136) m k) : r = s := by
  rcases a with ⟨a1, rfl⟩ | ⟨k, hk, rfl, rfl⟩
  · rcases b with ⟨b1, rfl⟩ | ⟨k, hk, rfl, -⟩
    · rfl
    · exact absurd (bd_of (by omega) (by omega) (by omega)) a1
  · rcases b with ⟨b1, -⟩ | ⟨k', hk', e, rfl⟩
    · exact absurd (bd_of (by omega) (by omega) (by omega)) b1
    · have : k = k' := (nI_eq (by omega) (by omega)).mp e
      subst this
      exact count_eq v q T k1 hk
end
section
-- 54.along
/-! ALONG: the least set that is closed -/
def pcn (S : Nat) : Nat → Nat
  | 0 => 0
  | n + 1 => pcn S n + (if S.testBit n = true then 1 else 0)
theorem pcn_le {S : Nat} : ∀ {n : Nat}, pcn S n ≤ n
  | 0 => Nat.le_refl _
  | n + 1 => by
    have e := pcn_le (S := S) (n := n)
    unfold pcn
    by_cases c : S.testBit n = true
    · rw [if_pos c]; omega
    · rw [if_neg c]; omega
theorem pcn_mo {S T : Nat} : ∀ {n : Nat}, (∀ i, S.testBit i = true → T.testBit i = true) → pcn S n ≤ pcn T n
  | 0, _ => Nat.le_refl _
  | n + 1, h => by
    have e := pcn_mo (n := n) h
    unfold pcn
    by_cases c : S.testBit n = true
    · rw [if_pos c, if_pos (h n c)]; omega
    · rw [if_neg c]; omega
theorem pcn_lt {S T : Nat} : ∀ {n : Nat}, (∀ i, S.testBit i = true → T.testBit i = true) → (∃ i, i < n ∧ T.testBit i = true ∧ ¬ S.testBit i = true) → pcn S n < pcn T n
  | 0, _, h => by
    obtain ⟨i, hi, -⟩ := h
    omega
  | n + 1, h, k => by
    obtain ⟨i, hi, hT, hS⟩ := k
    unfold pcn
    by_cases e : i = n
    · subst e
      have e := pcn_mo (n := i) h
      rw [if_neg hS, if_pos hT]; omega
    · have e := pcn_lt (n := n) h ⟨i, by omega, hT, hS⟩
      by_cases c : S.testBit n = true
      · rw [if_pos c, if_pos (h n c)]; omega
      · rw [if_neg c]; omega
theorem pcn_full {S : Nat} : ∀ {n : Nat}, n ≤ pcn S n → ∀ i, i < n → S.testBit i = true
  | 0, _, i, hi => absurd hi (Nat.not_lt_zero i)
  | n + 1, h, i, hi => by
    have e := pcn_le (S := S) (n := n)
    unfold pcn at h
    by_cases c : S.testBit n = true
    · rw [if_pos c] at h
      by_cases q : i = n
      · subst q; exact c
      · exact pcn_full (n := n) (by omega) i (by omega)
    · rw [if_neg c] at h; omega
def CLo (B : Nat → Nat) (p S : Nat) : Prop := (∀ a, (B p).testBit a = true → S.testBit a = true) ∧ ∀ o a, S.testBit o = true → (B o).testBit a = true → S.testBit a = true
def LCl (B : Nat → Nat) (p S : Nat) : Prop := CLo B p S ∧ ∀ T, CLo B p T → ∀ a, S.testBit a = true → T.testBit a = true
theorem LCl.un {B : Nat → Nat} {p S S' : Nat} (x : LCl B p S) (y : LCl B p S') : S = S' := by
  apply Nat.eq_of_testBit_eq
  intro i
  have h1 := x.2 S' y.1 i
  have h2 := y.2 S x.1 i
  cases e : S.testBit i <;> cases e' : S'.testBit i
  · rfl
  · exact absurd (h2 e') (by rw [e]; decide)
  · exact absurd (h1 e) (by rw [e']; decide)
  · rfl
/-- who bears on a part, as the class keeps it -/
def BRc (h : HI) (m : Nat) (B : Nat → Nat) : Prop := (∀ p, p < m → B p < 2 ^ 24 ∧ h 3 (p * 5 + 4) = nI (B p)) ∧ ∀ a b, (B b).testBit a = true → a < m ∧ b < m
theorem or24 {a b : Nat} (ha : a < 2 ^ 24) (hb : b < 2 ^ 24) : a ||| b < 2 ^ 24 := Nat.or_lt_two_pow ha hb
theorem q_X1_reached {h : HI} {g : HL} {m : Nat} (T : TT h 2 m 5 24) {B : Nat → Nat} (R : BRc h m B) {p : Nat} (hp : p < m) : w_X1_reached (nI p) h g (fun r h' g' => h = h' ∧ g = g' ∧ ∃ S, S < 2 ^ 24 ∧ r = nI S ∧ LCl B p S) := by
  have hm := T.2.2.2.1
  have ta : ∀ k, k < m → tat h 2 (nI k) (4 : Int32) = nI (B k) := fun k hk => (tat_nI T (b := 4) hk (by omega)).trans (R.1 k hk).2
  unfold w_X1_reached
  refine c_i (p_atT T) ?_
  rintro _ _ _ ⟨rfl, rfl, rfl⟩
  rw [ta p hp]
  refine lpE_intro (fun ⟨a_q, b_q, c_q, h_q, g_q⟩ => ∃ S P k : Nat, k ≤ m ∧ nI S = a_q ∧ nI P = b_q ∧ nI k = c_q ∧ h = h_q ∧ g = g_q ∧ S < 2 ^ 24 ∧ P < 2 ^ 24 ∧ (∀ a, S.testBit a = true → a < m) ∧ (∀ a, (B p).testBit a = true → S.testBit a = true) ∧ (∀ T, CLo B p T → ∀ a, S.testBit a = true → T.testBit a = true) ∧ (∀ a, P.testBit a = true → S.testBit a = true) ∧ (∀ o a, P.testBit o = true → (B o).testBit a = true → S.testBit a = true) ∧ k ≤ pcn P m) (fun ⟨_, _, c_q, _, _⟩ => dif (nI m) c_q) ?_ _ ⟨B p, 0, 0, by omega, rfl, nI_0, nI_0, rfl, rfl, (R.1 p hp).1, by decide, fun a ha => (R.2 a p ha).1, fun _ ha => ha, fun T hT a ha => hT.1 a ha, fun a ha => absurd ha (by rw [Nat.zero_testBit]; decide), fun o a ha => absurd ha (by rw [Nat.zero_testBit]; decide), Nat.zero_le _⟩
  rintro ⟨y2, y3, y4, h1, g1⟩ K ⟨S, P, k, hk, rfl, rfl, rfl, rfl, rfl, S24, P24, Sm, Sp, Sl, PS, PB, kP⟩ hK
  unfold F_X1_reached_18; dsimp only; unfold b_X1_reached_18
  refine c_i p_rows ?_
  rintro _ _ _ ⟨rfl, rfl, rfl⟩
  rw [T.2.2.1]
  have fin : S = P → ∃ S', S' < 2 ^ 24 ∧ nI S = nI S' ∧ LCl B p S' := fun e => by
    subst e
    exact ⟨S, S24, rfl, ⟨Sp, PB⟩, Sl⟩
  refine ⟨fun c => ⟨rfl, rfl, fin ?_⟩, fun c => ⟨fun e => ⟨rfl, rfl, fin ((nI_eq (by omega) (by omega)).mp e)⟩, fun e => ?_⟩⟩
  · rw [nI_leI (by omega) (by omega)] at c
    have full := pcn_full (S := P) (n := m) (by omega)
    apply Nat.eq_of_testBit_eq
    intro i
    cases e : P.testBit i
    · cases e' : S.testBit i
      · rfl
      · exact absurd (full i (Sm i e')) (by rw [e]; decide)
    · exact PS i e
  · have hd := dif_lt c
    rw [nI_leI (by omega) (by omega)] at c
    have ne : S ≠ P := fun q => e (by rw [q])
    have grow : k + 1 ≤ pcn S m := by
      obtain ⟨i, hi⟩ := Nat.exists_testBit_ne_of_ne ne
      have iS : S.testBit i = true := by
        cases a : S.testBit i
        · cases b : P.testBit i
          · rw [a, b] at hi; exact absurd rfl hi
          · rw [PS i b] at a; exact absurd a (by decide)
        · rfl
      have := pcn_lt (S := P) (T := S) (n := m) PS ⟨i, Sm i iS, iS, fun q => hi (by rw [iS, q])⟩
      omega
    refine lpE_intro (fun ⟨a_q, b_q, c_q, d_q, h_q, g_q⟩ => ∃ N j : Nat, j ≤ m ∧ nI N = a_q ∧ nI S = b_q ∧ nI k = c_q ∧ nI j = d_q ∧ h = h_q ∧ g = g_q ∧ N < 2 ^ 24 ∧ (∀ a, N.testBit a = true → a < m) ∧ (∀ a, S.testBit a = true → N.testBit a = true) ∧ (∀ T, CLo B p T → ∀ a, N.testBit a = true → T.testBit a = true) ∧ (∀ o a, o < j → S.testBit o = true → (B o).testBit a = true → N.testBit a = true)) (fun ⟨_, _, _, d_q, _, _⟩ => dif (nI m) d_q) ?_ _ ⟨S, 0, by omega, rfl, rfl, rfl, nI_0, rfl, rfl, S24, Sm, fun _ ha => ha, Sl, fun o a ho => by omega⟩
    rintro ⟨z2, z3, z4, z5, h2, g2⟩ K2 ⟨N, j, hj, rfl, rfl, rfl, rfl, rfl, rfl, N24, Nm, SN, Nl, NB⟩ hK2
    unfold F_X1_reached_43; dsimp only; unfold b_X1_reached_43
    refine c_i p_rows ?_
    rintro _ _ _ ⟨rfl, rfl, rfl⟩
    rw [T.2.2.1]
    refine ⟨fun c2 => ?_, fun c2 => ?_⟩
    · rw [nI_leI (by omega) (by omega)] at c2
      rintro _ rfl
      exact hK _ ⟨N, S, k + 1, by omega, rfl, rfl, (nI_1 k).symm, rfl, rfl, N24, S24, Nm, fun a ha => SN a (Sp a ha), Nl, SN, fun o a ho ha => NB o a (by have := Sm o ho; omega) ho ha, grow⟩ hd
    · have hd2 := dif_lt c2
      rw [nI_leI (by omega) (by omega)] at c2
      refine ⟨fun cb => ?_, fun cb => ?_⟩
      · unfold j_X1_reached_84
        rintro _ rfl
        refine hK2 _ ⟨N, j + 1, by omega, rfl, rfl, rfl, (nI_1 j).symm, rfl, rfl, N24, Nm, SN, Nl, fun o a ho hS ha => ?_⟩ hd2
        by_cases eo : o = j
        · subst eo
          exact absurd ((bit_n (by omega) (by omega)).mpr (SN o hS)) cb
        · exact NB o a (by omega) hS ha
      · have Nj : N.testBit j = true := (bit_n (by omega) (by omega)).mp cb
        refine c_i (p_atT T) ?_
        rintro _ _ _ ⟨rfl, rfl, rfl⟩
        rw [ta j (by omega), nI_or]
        rintro _ rfl
        unfold j_X1_reached_84
        rintro _ rfl
        refine hK2 _ ⟨N ||| B j, j + 1, by omega, rfl, rfl, rfl, (nI_1 j).symm, rfl, rfl, or24 N24 (R.1 j (by omega)).1, fun a ha => ?_, fun a ha => ?_, fun T hT a ha => ?_, fun o a ho hS ha => ?_⟩ hd2
        · rw [Nat.testBit_or, Bool.or_eq_true] at ha
          exact ha.elim (Nm a) (fun q => (R.2 a j q).1)
        · rw [Nat.testBit_or, SN a ha, Bool.true_or]
        · rw [Nat.testBit_or, Bool.or_eq_true] at ha
          exact ha.elim (Nl T hT a) (fun q => hT.2 j a (Nl T hT j Nj) q)
        · rw [Nat.testBit_or, Bool.or_eq_true]
          by_cases eo : o = j
          · subst eo; exact .inr ha
          · exact .inl (NB o a (by omega) hS ha)
/-- on whom a part bears, as the reference keeps it -/
def BRr (f : Nat → Int32) (m : Nat) (B : Nat → Nat) : Prop := ∃ rN : Nat → Nat, (∀ p, p < m → rN p < 2 ^ 24 ∧ f (20 + 5 * p + 4) = nI (rN p)) ∧ (∀ a b, (B b).testBit a = (rN a).testBit b) ∧ ∀ a b, (B b).testBit a = true → a < m ∧ b < m
theorem CP.br {h : HI} {f : Nat → Int32} {m : Nat} (c : CP h 1 f m) : ∃ B, BRc h m B ∧ BRr f m B := by
  obtain ⟨-, cN, rN, d2, d3, d4⟩ := c
  have bm : ∀ a b, (cN b).testBit a = true → a < m ∧ b < m := fun a b hab => by
    refine ⟨?_, ?_⟩
    · by_cases q : a < m
      · exact q
      · rw [d4 a b, (d3 a (by omega)).2, Nat.zero_testBit] at hab
        exact absurd hab (by decide)
    · by_cases q : b < m
      · exact q
      · rw [(d3 b (by omega)).1, Nat.zero_testBit] at hab
        exact absurd hab (by decide)
  exact ⟨cN, ⟨fun p hp => ⟨(d2 p hp).1, (d2 p hp).2.2.1⟩, bm⟩, rN, fun p hp => ⟨(d2 p hp).2.1, by rw [show 20 + 5 * p + 4 = 20 + (p * 5 + 4) by omega]; exact (d2 p hp).2.2.2⟩, d4, bm⟩
theorem nI_z {n : Nat} (h : n < 2 ^ 31) : nI n = 0 ↔ n = 0 := by
  have := nI_eq (a := n) (b := 0) h (by omega)
  rwa [nI_0] at this
theorem cn24 {n : Nat} (h : n < 2 ^ 24) : (nI n).toNatClampNeg = n := nI_clamp (by omega)
theorem q_X11_alongOf {h : HI} {g : HL} (hR : RI (h 136)) {m : Nat} (em : h 136 0 = nI m) (hm : m ≤ 24) {B : Nat → Nat} (R : BRr (h 136) m B) {p : Nat} (hp : p < m) : w_X11_alongOf (nI p) h g (fun r h' g' => h = h' ∧ g = g' ∧ ∃ S, S < 2 ^ 24 ∧ r = nI S ∧ LCl B p S) := by
  obtain ⟨rN, R1, R2, R3⟩ := R
  have v0 : vp_in (0 : Int32) 887 := vp_in_iff.mpr (by decide)
  unfold w_X11_alongOf
  refine lpE_intro (fun ⟨a_q, b_q, c_q, h_q, g_q⟩ => ∃ S : Nat, nI p = a_q ∧ nI S = b_q ∧ h = h_q ∧ g = g_q ∧ S < 2 ^ 24 ∧ (∀ a, S.testBit a = true → a < m) ∧ (∀ T, CLo B p T → ∀ a, S.testBit a = true → T.testBit a = true) ∧ (c_q = 0 → CLo B p S)) (fun ⟨_, b_q, c_q, _, _⟩ => 2 * (24 - pcn b_q.toNatClampNeg 24) + (if c_q = 0 then 0 else 1)) ?_ _ ⟨0, rfl, nI_0, rfl, rfl, by decide, fun a ha => absurd ha (by rw [Nat.zero_testBit]; decide), fun T hT a ha => absurd ha (by rw [Nat.zero_testBit]; decide), fun c => absurd c (by decide)⟩
  rintro ⟨y1, y2, y3, h1, g1⟩ K ⟨S, rfl, rfl, rfl, rfl, S24, Sm, Sl, Sc⟩ hK
  unfold F_X11_alongOf_4; dsimp only; unfold b_X11_alongOf_4
  refine ⟨fun c => ⟨rfl, rfl, S, S24, rfl, Sc c, Sl⟩, fun c => ?_⟩
  have P24 : S ||| 2 ^ p < 2 ^ 24 := or24 S24 (p2_24 (by omega))
  refine lpE_intro (fun ⟨a_q, b_q, c_q, d_q, h_q, g_q⟩ => ∃ N j : Nat, j ≤ m ∧ nI p = a_q ∧ nI S = b_q ∧ nI N = c_q ∧ nI j = d_q ∧ h = h_q ∧ g = g_q ∧ N < 2 ^ 24 ∧ (∀ a, N.testBit a = true → a < m) ∧ (∀ a, S.testBit a = true → N.testBit a = true) ∧ (∀ T, CLo B p T → ∀ a, N.testBit a = true → T.testBit a = true) ∧ (∀ o a, a < j → (S.testBit o = true ∨ o = p) → (B o).testBit a = true → N.testBit a = true)) (fun ⟨_, _, _, d_q, _, _⟩ => dif (nI m) d_q) ?_ _ ⟨S, 0, by omega, rfl, rfl, rfl, nI_0, rfl, rfl, S24, Sm, fun _ ha => ha, Sl, fun o a ha => by omega⟩
  rintro ⟨z1, z2, z4, z5, h2, g2⟩ K2 ⟨N, j, hj, rfl, rfl, rfl, rfl, rfl, rfl, N24, Nm, SN, Nl, NB⟩ hK2
  unfold F_X11_alongOf_14; dsimp only; unfold b_X11_alongOf_14
  rw [cl0, em]
  refine and_have v0 (fun _ => ⟨fun c2 => ?_, fun c2 => ?_⟩)
  · rw [nI_leI (by omega) (by omega)] at c2
    have cl : N = S → CLo B p S := fun e => by
      refine ⟨fun a ha => ?_, fun o a ho ha => ?_⟩
      · rw [← e]; exact NB p a (by have := (R3 a p ha).1; omega) (.inr rfl) ha
      · rw [← e]; exact NB o a (by have := (R3 a o ha).1; omega) (.inl ho) ha
    unfold j_X11_alongOf_71
    refine ⟨fun e => ?_, fun e => ?_⟩
    · have eN : N = S := (nI_eq (by omega) (by omega)).mp e
      refine hK _ ⟨N, rfl, rfl, rfl, rfl, N24, Nm, Nl, fun _ => by rw [eN]; exact cl eN⟩ ?_
      dsimp only
      rw [eN, if_pos rfl, if_neg c]; omega
    · refine hK _ ⟨N, rfl, rfl, rfl, rfl, N24, Nm, Nl, fun q => absurd q (by decide)⟩ ?_
      dsimp only
      rw [if_neg (by decide), if_neg c, cn24 N24, cn24 S24]
      have ne : N ≠ S := fun q => e (by rw [q])
      obtain ⟨i, hi⟩ := Nat.exists_testBit_ne_of_ne ne
      have iN : N.testBit i = true := by
        cases a : N.testBit i
        · cases b : S.testBit i
          · rw [a, b] at hi; exact absurd rfl hi
          · rw [SN i b] at a; exact absurd a (by decide)
        · rfl
      have h1 := pcn_lt (S := S) (T := N) (n := 24) SN ⟨i, by have := Nm i iN; omega, iN, fun q => hi (by rw [iN, q])⟩
      have h2 := pcn_le (S := N) (n := 24)
      omega
  · have hd2 := dif_lt c2
    rw [nI_leI (by omega) (by omega)] at c2
    refine c_i (p_X11_partOf hR (bd_of (by omega) (by omega) (by omega)) ((bd_lit (n := 4) (by decide)).mo (by decide) (by decide))) ?_
    rintro _ _ _ ⟨rfl, rfl, rfl⟩
    rw [show ((20 : Int32) + ((5 : Int32) * nI j)) + (4 : Int32) = nI (20 + 5 * j + 4) from ix3 20 5 j 4, nI_clamp (n := 20 + 5 * j + 4) (by omega), (R1 j (by omega)).2, sh_t p (by omega), sh_t j (by omega), nI_or, nI_and]
    have j51 : ∀ M : Nat, M < 2 ^ 24 → (∀ a, M.testBit a = true → a = j) → (∀ o, (S.testBit o = true ∨ o = p) → (B o).testBit j = true → M.testBit j = true) → (M.testBit j = true → ∃ o, (S.testBit o = true ∨ o = p) ∧ (B o).testBit j = true) → j_X11_alongOf_51 (fun r h' g' => h = h' ∧ g = g' ∧ ∃ S, S < 2 ^ 24 ∧ r = nI S ∧ LCl B p S) (fun x1 x2 x3 h g => K (x1, x2, x3, h, g)) (fun x1 x2 x4 x5 h g => K2 (x1, x2, x4, x5, h, g)) (nI p) (nI S) (nI j) (nI N) (nI M) h g := by
      intro M M24 Mj Mi Mo
      unfold j_X11_alongOf_51
      rw [nI_or]
      rintro _ rfl
      rintro _ rfl
      refine hK2 _ ⟨N ||| M, j + 1, by omega, rfl, rfl, rfl, (nI_1 j).symm, rfl, rfl, or24 N24 M24, fun a ha => ?_, fun a ha => ?_, fun T hT a ha => ?_, fun o a ha hS hB => ?_⟩ hd2
      · rw [Nat.testBit_or, Bool.or_eq_true] at ha
        exact ha.elim (Nm a) (fun q => by rw [Mj a q]; omega)
      · rw [Nat.testBit_or, SN a ha, Bool.true_or]
      · rw [Nat.testBit_or, Bool.or_eq_true] at ha
        refine ha.elim (Nl T hT a) (fun q => ?_)
        have ea := Mj a q
        subst ea
        obtain ⟨o, ho, hB⟩ := Mo q
        rcases ho with ho | ho
        · exact hT.2 o a (Sl T hT o ho) hB
        · subst ho; exact hT.1 a hB
      · rw [Nat.testBit_or, Bool.or_eq_true]
        by_cases ea : a = j
        · subst ea; exact .inr (Mi o hS hB)
        · exact .inl (NB o a (by omega) hS hB)
    have e24 : rN j &&& (S ||| 2 ^ p) < 2 ^ 31 := Nat.lt_of_le_of_lt Nat.and_le_left (by have := (R1 j (by omega)).1; omega)
    have mem : ∀ o, (S ||| 2 ^ p).testBit o = true ↔ (S.testBit o = true ∨ o = p) := fun o => by
      rw [Nat.testBit_or, Bool.or_eq_true, Nat.testBit_two_pow, decide_eq_true_iff]
      exact ⟨fun q => q.elim .inl (fun e => .inr e.symm), fun q => q.elim .inl (fun e => .inr e.symm)⟩
    refine ⟨fun cz => ?_, fun cz => ?_⟩
    · rw [nI_z e24] at cz
      refine j51 0 (by decide) (fun a ha => absurd ha (by rw [Nat.zero_testBit]; decide)) (fun o hS hB => ?_) (fun q => absurd q (by rw [Nat.zero_testBit]; decide))
      exfalso
      have h1 : (rN j &&& (S ||| 2 ^ p)).testBit o = true := by
        rw [Nat.testBit_and, (mem o).mpr hS, ← R2 j o, hB]; rfl
      rw [cz, Nat.zero_testBit] at h1
      exact absurd h1 (by decide)
    · rw [nI_z e24] at cz
      refine j51 (2 ^ j) (p2_24 (by omega)) (fun a ha => ?_) (fun o hS hB => Nat.testBit_two_pow_self) (fun _ => ?_)
      · rw [Nat.testBit_two_pow, decide_eq_true_iff] at ha; exact ha.symm
      · obtain ⟨o, ho⟩ := Nat.exists_testBit_of_ne_zero cz
        rw [Nat.testBit_and, Bool.and_eq_true] at ho
        exact ⟨o, (mem o).mp ho.2, by rw [R2 j o]; exact ho.1⟩
theorem q_X10_along {h : HI} {g : HL} {m : Nat} (T : TT h 2 m 5 24) {B : Nat → Nat} (R : BRc h m B) {x1 : Int32} : w_X10_along x1 h g (fun r h' g' => h = h' ∧ g = g' ∧ ((¬ isRow (nI m) x1 ∧ r = -2) ∨ ∃ p S, p < m ∧ x1 = nI p ∧ r = nI S ∧ LCl B p S)) := by
  have hm := T.2.2.2.1
  unfold w_X10_along
  refine c_hb (fun q0 => ?_) (fun q0 => ⟨fun c => absurd rfl c, fun _ => ⟨rfl, rfl, .inl ⟨by rw [T.2.2.1] at q0; exact q0, rfl⟩⟩⟩)
  obtain ⟨p, hp, rfl⟩ := row_n q0 T.2.2.1 (by omega)
  refine ⟨fun _ => ?_, fun c => absI c⟩
  refine c_i (q_X1_reached T R hp) ?_
  rintro _ _ _ ⟨rfl, rfl, S, S24, rfl, L⟩
  exact ⟨rfl, rfl, .inr ⟨p, S, hp, rfl, rfl, L⟩⟩
theorem q_X11_along {h : HI} {g : HL} (hR : RI (h 136)) {m : Nat} (em : h 136 0 = nI m) (hm : m ≤ 24) {B : Nat → Nat} (R : BRr (h 136) m B) {x1 : Int32} : w_X11_along x1 h g (fun r h' g' => h = h' ∧ g = g' ∧ ((¬ isRow (nI m) x1 ∧ r = -2) ∨ ∃ p S, p < m ∧ x1 = nI p ∧ r = nI S ∧ LCl B p S)) := by
  unfold w_X11_along
  refine c_is (vp_in_iff.mpr (by decide)) hR.c0 (by decide) (fun q q1 => ⟨fun c => absI c, fun _ => ?_⟩) (fun q => ⟨fun _ => ⟨rfl, rfl, .inl ⟨by rw [cl0, em] at q; exact isRow_n q, rfl⟩⟩, fun c => absN c⟩)
  rw [cl0, em] at q1
  obtain ⟨p, hp, rfl⟩ := row_n (isRow_r q q1) rfl (by omega)
  refine c_i (q_X11_alongOf hR em hm R hp) ?_
  rintro _ _ _ ⟨rfl, rfl, S, S24, rfl, L⟩
  exact ⟨rfl, rfl, .inr ⟨p, S, hp, rfl, rfl, L⟩⟩
theorem along_st {m : Nat} {B : Nat → Nat} {r s x1 : Int32} (hm : m ≤ 24) (a : (¬ isRow (nI m) x1 ∧ r = -2) ∨ ∃ p S, p < m ∧ x1 = nI p ∧ r = nI S ∧ LCl B p S) (b : (¬ isRow (nI m) x1 ∧ s = -2) ∨ ∃ p S, p < m ∧ x1 = nI p ∧ s = nI S ∧ LCl B p S) : r = s := by
  rcases a with ⟨a1, rfl⟩ | ⟨p, S, hp, rfl, rfl, L⟩
  · rcases b with ⟨-, rfl⟩ | ⟨p, S, hp, rfl, -⟩
    · rfl
    · exact absurd (row_of hp (by omega)) a1
  · rcases b with ⟨b1, -⟩ | ⟨p', S', hp', e, rfl, L'⟩
    · exact absurd (row_of hp (by omega)) b1
    · have : p = p' := (nI_eq (by omega) (by omega)).mp e
      subst this
      rw [L.un L']
end
