/-! THE REFERENCE'S CALLS THAT CHANGE CELLS, and what they write -/
theorem PTr.of {A : Prop} {h h' : HI} {f : Nat → Int32} (a : A) (s : ST h h' f) (e : ∀ i, i < 9 → f i = h 136 i) : PTr A h h' := ⟨a, f, s, e⟩
def EFr (x1 x2 x3 x4 : Int32) (h : HI) (r : Int32) (h' : HI) : Prop := (¬ K_fam x1 x2 x3 x4 ∧ r = -2 ∧ h' = h) ∨ (K_fam x1 x2 x3 x4 ∧ r = 1 ∧ ∃ n, n < 4 ∧ x1 = nI n ∧ h' 136 = upd (upd (upd (h 136) (140 + 3 * n) x2) (140 + 3 * n + 1) x3) (140 + 3 * n + 2) x4)
theorem q_X11_family {h : HI} {g : HL} (r : RG (h 136)) {x1 x2 x3 x4 : Int32} : w_X11_family x1 x2 x3 x4 h g (fun s h' _ => PTr (EFr x1 x2 x3 x4 h s h') h h') := by
  have bad : ¬ K_fam x1 x2 x3 x4 → PTr (EFr x1 x2 x3 x4 h (-2) h) h h := fun k => PTr.rf r (.inl ⟨k, rfl, rfl⟩)
  unfold w_X11_family
  refine c_in3 (fun q0 => ⟨fun c => absI c, fun _ => ?_⟩) (fun q0 => ⟨fun _ => bad (fun hc => q0 (bd.mo hc.1 (by decide) (by decide))), fun c => absN c⟩)
  refine c_sz (fun q1 => ⟨fun c => absI c, fun _ => ?_⟩) (fun q1 => ⟨fun _ => bad (fun hc => q1 hc.2.1), fun c => absN c⟩)
  refine c_sz (fun q2 => ⟨fun c => absI c, fun _ => ?_⟩) (fun q2 => ⟨fun _ => bad (fun hc => q2 hc.2.2.1), fun c => absN c⟩)
  refine c_sz (fun q3 => ⟨fun c => absI c, fun _ => ?_⟩) (fun q3 => ⟨fun _ => bad (fun hc => q3 hc.2.2.2.1), fun c => absN c⟩)
  refine ⟨fun q4 => ?_, fun q4 => bad (fun hc => q4 hc.2.2.2.2)⟩
  clear bad
  have b0 : bd 0 3 x1 := bd.mo q0 (by decide) (by decide)
  have hC : K_fam x1 x2 x3 x4 := ⟨b0, q1, q2, q3, q4⟩
  obtain ⟨j, j1, j2, rfl⟩ := bd_nI b0
  rw [show ((140 : Int32) + ((3 : Int32) * nI j)) + (1 : Int32) = nI (140 + 3 * j + 1) from ix3 140 3 j 1, show ((140 : Int32) + ((3 : Int32) * nI j)) + (2 : Int32) = nI (140 + 3 * j + 2) from ix3 140 3 j 2, show (140 : Int32) + ((3 : Int32) * nI j) = nI (140 + 3 * j) from ix2 140 3 j, nI_clamp (n := 140 + 3 * j) (by omega), nI_clamp (n := 140 + 3 * j + 1) (by omega), nI_clamp (n := 140 + 3 * j + 2) (by omega)]
  refine and_have (vp_in_nI (by omega) (by omega)) (fun _ => ?_)
  intro h1 e1
  have S1 := (ST.rf r).hu e1 (okB (by omega) (fun _ => by omega))
  refine and_have (vp_in_nI (by omega) (by omega)) (fun _ => ?_)
  intro h2 e2
  have S2 := S1.hu e2 (okB (by omega) (fun _ => q2))
  refine and_have (vp_in_nI (by omega) (by omega)) (fun _ => ?_)
  intro h3 e3
  have S3 := S2.hu e3 (okB (by omega) (fun _ => by omega))
  exact PTr.of (.inr ⟨hC, rfl, j, by omega, rfl, S3.2.1⟩) S3 (fun i hi => by rw [cnt_u hi (by omega), cnt_u hi (by omega), cnt_u hi (by omega)])
def ENr (x1 x2 : Int32) (h : HI) (r : Int32) (h' : HI) : Prop := (¬ K_need x1 x2 ∧ r = -2 ∧ h' = h) ∨ (K_need x1 x2 ∧ ∃ n, n < 4 ∧ x1 = nI n ∧ r = h 136 (823 + n) ∧ h' 136 = upd (h 136) (823 + n) x2)
theorem q_X11_need {h : HI} {g : HL} (r : RG (h 136)) {x1 x2 : Int32} : w_X11_need x1 x2 h g (fun s h' _ => PTr (ENr x1 x2 h s h') h h') := by
  have bad : ¬ K_need x1 x2 → PTr (ENr x1 x2 h (-2) h) h h := fun k => PTr.rf r (.inl ⟨k, rfl, rfl⟩)
  unfold w_X11_need
  refine c_in3 (fun q0 => ⟨fun c => absI c, fun _ => ?_⟩) (fun q0 => ⟨fun _ => bad (fun k => q0 (bd.mo k.1 (by decide) (by decide))), fun c => absN c⟩)
  refine c_in3 (fun q1 => ⟨fun c => absI c, fun _ => ?_⟩) (fun q1 => ⟨fun _ => bad (fun k => q1 (bd.mo k.2 (by decide) (by decide))), fun c => absN c⟩)
  clear bad
  have hC : K_need x1 x2 := ⟨bd.mo q0 (by decide) (by decide), bd.mo q1 (by decide) (by decide)⟩
  obtain ⟨j, j1, j2, rfl⟩ := bd_nI hC.1
  refine c_i (S := fun s h' g' => PTr (ENr (nI j) x2 h s h') h h') ?_ (fun _ _ _ k => k)
  unfold w_X11_puts
  rw [show (823 : Int32) + nI j = nI (823 + j) from nI_add 823 j, nI_clamp (n := 823 + j) (by omega)]
  refine and_have (vp_in_nI (by omega) (by omega)) (fun v => ?_)
  rintro _ rfl
  refine and_have v (fun _ => ?_)
  intro h1 e1
  have S1 := (ST.rf r).hu e1 (okZ (by omega))
  exact PTr.of (.inr ⟨hC, j, by omega, rfl, rfl, S1.2.1⟩) S1 (fun i hi => cnt_u hi (by omega))
def EOr (x1 x2 : Int32) (h : HI) (r : Int32) (h' : HI) : Prop := (¬ K_odds x1 x2 ∧ r = -2 ∧ h' = h) ∨ (K_odds x1 x2 ∧ r = 1 ∧ h' 136 = upd (upd (h 136) 9 x1) 10 x2)
theorem q_X11_odds {h : HI} {g : HL} (r : RG (h 136)) {x1 x2 : Int32} : w_X11_odds x1 x2 h g (fun s h' _ => PTr (EOr x1 x2 h s h') h h') := by
  have bad : ¬ K_odds x1 x2 → PTr (EOr x1 x2 h (-2) h) h h := fun k => PTr.rf r (.inl ⟨k, rfl, rfl⟩)
  unfold w_X11_odds
  refine c_dg (fun q0 => ⟨fun c => absI c, fun _ => ?_⟩) (fun q0 => ⟨fun _ => bad (fun hc => q0 hc.1), fun c => absN c⟩)
  refine c_dg (fun q1 => ⟨fun _ => ?_, fun c => absI c⟩) (fun q1 => ⟨fun c => absurd rfl c, fun _ => bad (fun hc => q1 hc.2)⟩)
  rw [cl9, cl10]
  refine and_have (vp_in_iff.mpr (by decide)) (fun v => ?_)
  intro h1 e1
  have S1 := (ST.rf r).hu e1 (show okR 9 x1 from q0)
  refine and_have (vp_in_iff.mpr (by decide)) (fun v => ?_)
  intro h2 e2
  have S2 := S1.hu e2 (show okR 10 x2 from q1)
  exact PTr.of (.inr ⟨⟨q0, q1⟩, rfl, S2.2.1⟩) S2 (fun i hi => by rw [cnt_u hi (by omega), cnt_u hi (by omega)])
def bt2 (v : Int32) : Int32 := if v = 1 then 1 else 0
def EDr (x1 x2 : Int32) (h : HI) (r : Int32) (h' : HI) : Prop := (¬ isRow (h 136 1) x1 ∧ r = -2 ∧ h' = h) ∨ (isRow (h 136 1) x1 ∧ ∃ n, n < 60 ∧ x1 = nI n ∧ ((bt2 (h 136 (152 + 6 * n + 5)) = x2 ∧ r = -3 ∧ h' = h) ∨ (¬ bt2 (h 136 (152 + 6 * n + 5)) = x2 ∧ r = 1 ∧ h' 136 = upd (h 136) (152 + 6 * n + 5) (zf x2))))
theorem q_X11_deny {h : HI} {g : HL} (r : RG (h 136)) {x1 x2 : Int32} : w_X11_deny x1 x2 h g (fun s h' _ => PTr (EDr x1 x2 h s h') h h') := by
  have hR := r.ri
  unfold w_X11_deny
  refine c_is (vp_in_iff.mpr (by decide)) hR.c1 (by decide) (fun q q1 => ⟨fun _ => ?_, fun c => absI c⟩) (fun q => ⟨fun c => absurd rfl c, fun _ => PTr.rf r (.inl ⟨by rw [cl1] at q; exact isRow_n q, rfl, rfl⟩)⟩)
  rw [cl1] at q1
  have hrow : isRow (h 136 1) x1 := isRow_r q q1
  have b1 : bd 0 59 x1 := q.mo (by decide) (by decide)
  refine c_i (p_X11_sayOf hR b1 ((bd_lit (n := 5) (by decide)).mo (by decide) (by decide))) ?_
  rintro _ _ _ ⟨rfl, rfl, rfl⟩
  obtain ⟨j, j1, j2, rfl⟩ := bd_nI b1
  rw [show ((152 : Int32) + ((6 : Int32) * nI j)) + (5 : Int32) = nI (152 + 6 * j + 5) from ix3 152 6 j 5, nI_clamp (n := 152 + 6 * j + 5) (by omega)]
  have j27 : ∀ v : Int32, v = bt2 (h 136 (152 + 6 * j + 5)) → j_X11_deny_27 (fun s h' _ => PTr (EDr (nI j) x2 h s h') h h') (nI j) x2 v h g := by
    rintro _ rfl
    unfold j_X11_deny_27
    refine ⟨fun c => ?_, fun c => PTr.rf r (.inr ⟨hrow, j, by omega, rfl, .inl ⟨c, rfl, rfl⟩⟩)⟩
    have j57 : ∀ v : Int32, v = zf x2 → j_X11_deny_57 (fun s h' _ => PTr (EDr (nI j) x2 h s h') h h') (((152 : Int32) + ((6 : Int32) * nI j)) + (5 : Int32)) v h g := by
      rintro _ rfl
      unfold j_X11_deny_57
      rw [show ((152 : Int32) + ((6 : Int32) * nI j)) + (5 : Int32) = nI (152 + 6 * j + 5) from ix3 152 6 j 5, nI_clamp (by omega)]
      refine and_have (vp_in_nI (by omega) (by omega)) (fun _ => ?_)
      intro h1 e1
      have S1 := (ST.rf r).hu e1 (okC' (by omega) (fun _ => by omega))
      exact PTr.of (.inr ⟨hrow, j, by omega, rfl, .inr ⟨c, rfl, S1.2.1⟩⟩) S1 (fun i hi => cnt_u hi (by omega))
    exact ⟨fun c => j57 _ (if_pos c).symm, fun c => j57 _ (if_neg c).symm⟩
  exact ⟨fun c => j27 _ (if_neg c).symm, fun c => j27 _ (if_pos c).symm⟩
def EBr (x1 x2 x3 : Int32) (h : HI) (r : Int32) (h' : HI) : Prop := (¬ K_bear (h 136 0) x1 x2 ∧ r = -2 ∧ h' = h) ∨ (K_bear (h 136 0) x1 x2 ∧ ∃ a b, a < 24 ∧ b < 24 ∧ x1 = nI a ∧ x2 = nI b ∧ ((bt1 (h 136 (20 + 5 * a + 4)) b = x3 ∧ r = -3 ∧ h' = h) ∨ (¬ bt1 (h 136 (20 + 5 * a + 4)) b = x3 ∧ r = 1 ∧ h' 136 = upd (h 136) (20 + 5 * a + 4) (h 136 (20 + 5 * a + 4) ^^^ ((1 : Int32) <<< (nI b &&& 31))))))
theorem q_X11_bear {h : HI} {g : HL} (r : RG (h 136)) {x1 x2 x3 : Int32} : w_X11_bear x1 x2 x3 h g (fun s h' _ => PTr (EBr x1 x2 x3 h s h') h h') := by
  have hR := r.ri
  have bad : ¬ K_bear (h 136 0) x1 x2 → PTr (EBr x1 x2 x3 h (-2) h) h h := fun k => PTr.rf r (.inl ⟨k, rfl, rfl⟩)
  unfold w_X11_bear
  refine c_is (vp_in_iff.mpr (by decide)) hR.c0 (by decide) (fun q q1 => ⟨fun c => absI c, fun _ => ?_⟩) (fun q => ⟨fun _ => bad (fun k => isRow_n (by rw [cl0] at q; exact q) k.1), fun c => absN c⟩)
  refine c_is (vp_in_iff.mpr (by decide)) hR.c0 (by decide) (fun p p1 => ⟨fun c => absI c, fun _ => ?_⟩) (fun q => ⟨fun _ => bad (fun k => isRow_n (by rw [cl0] at q; exact q) k.2.1), fun c => absN c⟩)
  refine ⟨fun ne => ?_, fun ne => bad (fun k => k.2.2 ne)⟩
  clear bad
  rw [cl0] at q1 p1
  have hC : K_bear (h 136 0) x1 x2 := ⟨isRow_r q q1, isRow_r p p1, ne⟩
  have b1 : bd 0 23 x1 := q.mo (by decide) (by decide)
  have b2 : bd 0 23 x2 := p.mo (by decide) (by decide)
  refine c_i (p_X11_partOf hR b1 ((bd_lit (n := 4) (by decide)).mo (by decide) (by decide))) ?_
  rintro _ _ _ ⟨rfl, rfl, rfl⟩
  obtain ⟨j, j1, j2, rfl⟩ := bd_nI b1
  obtain ⟨b, b3, b4, rfl⟩ := bd_nI b2
  rw [show ((20 : Int32) + ((5 : Int32) * nI j)) + (4 : Int32) = nI (20 + 5 * j + 4) from ix3 20 5 j 4, nI_clamp (n := 20 + 5 * j + 4) (by omega)]
  have j45 : ∀ v : Int32, v = bt1 (h 136 (20 + 5 * j + 4)) b → j_X11_bear_45 (fun s h' _ => PTr (EBr (nI j) (nI b) x3 h s h') h h') (nI j) (nI b) x3 v h g := by
    rintro _ rfl
    unfold j_X11_bear_45
    rw [show ((20 : Int32) + ((5 : Int32) * nI j)) + (4 : Int32) = nI (20 + 5 * j + 4) from ix3 20 5 j 4, nI_clamp (by omega)]
    have v1 : vp_in (nI (20 + 5 * j + 4)) 887 := vp_in_nI (by omega) (by omega)
    refine ⟨fun c => and_have v1 (fun _ => and_have v1 (fun _ => ?_)), fun c => PTr.rf r (.inr ⟨hC, j, b, by omega, by omega, rfl, rfl, .inl ⟨c, rfl, rfl⟩⟩)⟩
    intro h1 e1
    have S1 := (ST.rf r).hu e1 (okA (by omega) (fun _ => by omega) (fun _ => by omega))
    exact PTr.of (.inr ⟨hC, j, b, by omega, by omega, rfl, rfl, .inr ⟨c, rfl, S1.2.1⟩⟩) S1 (fun i hi => cnt_u hi (by omega))
  exact ⟨fun c => j45 _ (if_neg c).symm, fun c => j45 _ (if_pos c).symm⟩
theorem ch_ix {c k : Nat} (hc : c < 16) (hk : k < 10) : (((512 : Int32) + ((10 : Int32) * nI c)) + nI k).toNatClampNeg = 512 + 10 * c + k := by
  rw [show ((512 : Int32) + ((10 : Int32) * nI c)) + nI k = nI (512 + 10 * c + k) from ix3 512 10 c k, nI_clamp (by omega)]
theorem q_X11_has {h : HI} {g : HL} (hR : RI (h 136)) {c n : Nat} (hc : c < 16) (hn : n ≤ 6) (en : h 136 (512 + 10 * c + 2) = nI n) {x2 : Int32} : w_X11_has (nI c) x2 h g (fun r h' g' => h = h' ∧ g = g' ∧ ((r = 0 ∧ ∀ k, k < n → ¬ h 136 (512 + 10 * c + (3 + k)) = x2) ∨ (r = 1 ∧ ∃ k, k < n ∧ h 136 (512 + 10 * c + (3 + k)) = x2))) := by
  have bc : bd 0 15 (nI c) := bd_of (by omega) (by omega) (by omega)
  unfold w_X11_has
  refine lpE_intro (fun ⟨a_q, b_q, d_q, h_q, g_q⟩ => ∃ k : Nat, k ≤ n ∧ nI c = a_q ∧ x2 = b_q ∧ nI k = d_q ∧ h = h_q ∧ g = g_q ∧ ∀ i, i < k → ¬ h 136 (512 + 10 * c + (3 + i)) = x2) (fun ⟨_, _, d_q, _, _⟩ => dif (nI n) d_q) ?_ _ ⟨0, by omega, rfl, rfl, nI_0, rfl, rfl, fun i hi => by omega⟩
  rintro ⟨y1, y2, y4, h1, g1⟩ K ⟨k, hk, rfl, rfl, rfl, rfl, rfl, no⟩ hK
  unfold F_X11_has_2; dsimp only; unfold b_X11_has_2
  refine c_i (p_X11_chainOf hR bc ((bd_lit (n := 2) (by decide)).mo (by decide) (by decide))) ?_
  rintro _ _ _ ⟨rfl, rfl, rfl⟩
  rw [show (((512 : Int32) + ((10 : Int32) * nI c)) + (2 : Int32)).toNatClampNeg = 512 + 10 * c + 2 from ch_ix (k := 2) hc (by omega), en]
  refine ⟨fun c1 => ?_, fun c1 => ?_⟩
  · rw [nI_leI (by omega) (by omega)] at c1
    exact ⟨rfl, rfl, .inl ⟨rfl, fun i hi => no i (by omega)⟩⟩
  · have hd := dif_lt c1
    rw [nI_leI (by omega) (by omega)] at c1
    rw [show (3 : Int32) + nI k = nI (3 + k) from nI_add 3 k]
    refine c_i (p_X11_chainOf hR bc (bd_of (by omega) (by omega) (by omega))) ?_
    rintro _ _ _ ⟨rfl, rfl, rfl⟩
    rw [ch_ix hc (by omega)]
    refine ⟨fun c2 => ?_, fun c2 => ⟨rfl, rfl, .inr ⟨rfl, k, by omega, c2⟩⟩⟩
    rintro _ rfl
    refine hK _ ⟨k + 1, by omega, rfl, rfl, (nI_1 k).symm, rfl, rfl, fun i hi => ?_⟩ hd
    by_cases e : i = k
    · subst e; exact c2
    · exact no i (by omega)
def zs (x3 : Int32) (n : Nat) : Int32 := if x3 = 0 then 0 else (1 : Int32) <<< (nI n &&& 31)
def ELr (x1 x2 x3 : Int32) (h : HI) (r : Int32) (h' : HI) : Prop := (¬ (isRow (h 136 2) x1 ∧ isRow (h 136 0) x2) ∧ r = -2 ∧ h' = h) ∨ ((isRow (h 136 2) x1 ∧ isRow (h 136 0) x2) ∧ ∃ c n, c < 16 ∧ n ≤ 6 ∧ x1 = nI c ∧ h 136 (512 + 10 * c + 2) = nI n ∧ (((∃ k, k < n ∧ h 136 (512 + 10 * c + (3 + k)) = x2) ∧ r = -2 ∧ h' = h) ∨ ((∀ k, k < n → ¬ h 136 (512 + 10 * c + (3 + k)) = x2) ∧ ((n = 6 ∧ r = -4 ∧ h' = h) ∨ (n < 6 ∧ r = nI (n + 1) ∧ h' 136 = upd (upd (upd (h 136) (512 + 10 * c + 3 + n) x2) (512 + 10 * c + 9) (h 136 (512 + 10 * c + 9) ||| zs x3 n)) (512 + 10 * c + 2) (nI (n + 1)))))))
theorem q_X11_link {h : HI} {g : HL} (r : RG (h 136)) {x1 x2 x3 : Int32} : w_X11_link x1 x2 x3 h g (fun s h' _ => PTr (ELr x1 x2 x3 h s h') h h') := by
  have hR := r.ri
  have bad : ¬ (isRow (h 136 2) x1 ∧ isRow (h 136 0) x2) → PTr (ELr x1 x2 x3 h (-2) h) h h := fun k => PTr.rf r (.inl ⟨k, rfl, rfl⟩)
  unfold w_X11_link
  refine c_is (vp_in_iff.mpr (by decide)) hR.c2 (by decide) (fun q q1 => ⟨fun c => absI c, fun _ => ?_⟩) (fun q => ⟨fun _ => bad (fun k => isRow_n (by rw [cl2] at q; exact q) k.1), fun c => absN c⟩)
  refine c_is (vp_in_iff.mpr (by decide)) hR.c0 (by decide) (fun p p1 => ⟨fun c => absI c, fun _ => ?_⟩) (fun q => ⟨fun _ => bad (fun k => isRow_n (by rw [cl0] at q; exact q) k.2), fun c => absN c⟩)
  clear bad
  rw [cl2] at q1
  rw [cl0] at p1
  have hC : isRow (h 136 2) x1 ∧ isRow (h 136 0) x2 := ⟨isRow_r q q1, isRow_r p p1⟩
  have b1 : bd 0 15 x1 := q.mo (by decide) (by decide)
  have b2 : bd 0 23 x2 := p.mo (by decide) (by decide)
  obtain ⟨j, j1, j2, rfl⟩ := bd_nI b1
  obtain ⟨n, n1, n2, en⟩ := bd_nI (r.ri.2.2.2.2.1 j (by omega)).1
  refine c_z (q_X11_has hR (c := j) (n := n) (by omega) (by omega) en) ?_
  rintro s _ _ ⟨rfl, rfl, o⟩
  refine ⟨fun c0 => ?_, fun c0 => ?_⟩
  rotate_left
  · rcases o with o | o
    · exact absurd o.1 c0
    · exact PTr.rf r (.inr ⟨hC, j, n, by omega, by omega, rfl, en, .inl ⟨o.2, rfl, rfl⟩⟩)
  have no : ∀ k, k < n → ¬ h 136 (512 + 10 * j + (3 + k)) = x2 := by
    rcases o with o | o
    · exact o.2
    · rw [o.1] at c0; exact absurd c0 (by decide)
  rintro _ rfl
  rw [show (512 : Int32) + ((10 : Int32) * nI j) = nI (512 + 10 * j) from ix2 512 10 j, show nI (512 + 10 * j) + (2 : Int32) = nI (512 + 10 * j + 2) from nI_add _ 2, show nI (512 + 10 * j) + (3 : Int32) = nI (512 + 10 * j + 3) from nI_add _ 3, show nI (512 + 10 * j) + (9 : Int32) = nI (512 + 10 * j + 9) from nI_add _ 9, nI_clamp (n := 512 + 10 * j + 2) (by omega), nI_clamp (n := 512 + 10 * j + 9) (by omega), en, nI_add, nI_clamp (n := 512 + 10 * j + 3 + n) (by omega)]
  have v2 : vp_in (nI (512 + 10 * j + 2)) 887 := vp_in_nI (by omega) (by omega)
  refine and_have v2 (fun _ => ⟨fun c => ?_, fun c => PTr.rf r (.inr ⟨hC, j, n, by omega, by omega, rfl, en, .inr ⟨no, .inl ⟨(nI_eq (b := 6) (by omega) (by omega)).mp c, rfl, rfl⟩⟩⟩)⟩)
  have hlt : n < 6 := by
    have : n ≠ 6 := fun e => c (by rw [e]; rfl)
    omega
  refine and_have v2 (fun _ => and_have (vp_in_nI (by omega) (by omega)) (fun _ => ?_))
  intro h1 e1
  have S1 := (ST.rf r).hu e1 (okD (by omega) (fun _ => by omega) (fun _ => b2))
  refine and_have (vp_in_nI (by omega) (by omega)) (fun v9 => ?_)
  have j107 : ∀ a b : Int32, a = h 136 (512 + 10 * j + 9) → b = zs x3 n → j_X11_link_107 (fun s h' _ => PTr (ELr (nI j) x2 x3 h s h') h h') (nI (512 + 10 * j)) (nI (512 + 10 * j + 9)) a b h1 g := by
    rintro _ _ rfl rfl
    unfold j_X11_link_107
    rw [nI_clamp (n := 512 + 10 * j + 9) (by omega), show nI (512 + 10 * j) + (2 : Int32) = nI (512 + 10 * j + 2) from nI_add _ 2, nI_clamp (n := 512 + 10 * j + 2) (by omega)]
    refine and_have v9 (fun _ => ?_)
    intro h2 e2
    have S2 := S1.hu e2 (okD (by omega) (fun _ => by omega) (fun _ => by omega))
    have e22 : h2 136 (512 + 10 * j + 2) = nI n := by
      rw [S2.2.1, pk_un (by omega), pk_un (by omega)]; exact en
    rw [e22, nI_1]
    refine and_have v2 (fun _ => and_have v2 (fun _ => ?_))
    intro h3 e3
    have S3 := S2.hu e3 (okD (by omega) (fun _ => bd_of (by omega) (by omega) (by omega)) (fun _ => by omega))
    refine ⟨v2, PTr.of (.inr ⟨hC, j, n, by omega, by omega, rfl, en, .inr ⟨no, .inr ⟨hlt, ?_, S3.2.1⟩⟩⟩) S3 (fun i hi => by rw [cnt_u hi (by omega), cnt_u hi (by omega), cnt_u hi (by omega)])⟩
    rw [S3.2.1, pk_us]
  have k9 : h1 136 (512 + 10 * j + 9) = h 136 (512 + 10 * j + 9) := by rw [S1.2.1, pk_un (by omega)]
  have k2 : h1 136 (512 + 10 * j + 2) = nI n := by rw [S1.2.1, pk_un (by omega)]; exact en
  exact ⟨fun c => j107 _ _ k9 (if_pos c).symm, fun c => ⟨v2, j107 _ _ k9 (by rw [k2]; exact (if_neg c).symm)⟩⟩
theorem q_X11_denied {h : HI} {g : HL} (hR : RI (h 136)) {n : Nat} (en : h 136 1 = nI n) (hn : n ≤ 60) : w_X11_denied h g (fun r h' g' => h = h' ∧ g = g' ∧ r = dsm (fun k => h 136 (152 + k)) n) := by
  unfold w_X11_denied
  refine lpE_intro (fun ⟨a_q, b_q, h_q, g_q⟩ => ∃ k : Nat, k ≤ n ∧ dsm (fun k => h 136 (152 + k)) k = a_q ∧ nI k = b_q ∧ h = h_q ∧ g = g_q) (fun ⟨_, b_q, _, _⟩ => dif (nI n) b_q) ?_ _ ⟨0, by omega, rfl, nI_0, rfl, rfl⟩
  rintro ⟨y1, y2, h1, g1⟩ K ⟨k, hk, rfl, rfl, rfl, rfl⟩ hK
  unfold F_X11_denied_4; dsimp only; unfold b_X11_denied_4
  refine and_have (by exact vp_in_iff.mpr (by decide)) (fun hv => ?_)
  rw [cl1, en]
  refine ⟨fun c => ?_, fun c => ?_⟩
  · rw [nI_leI (by omega) (by omega)] at c
    have : k = n := by omega
    subst this
    exact ⟨rfl, rfl, rfl⟩
  · have hd := dif_lt c
    rw [nI_leI (by omega) (by omega)] at c
    refine c_i (p_X11_sayOf hR (bd_of (by omega) (by omega) (by omega)) ((bd_lit (n := 5) (by decide)).mo (by decide) (by decide))) ?_
    rintro _ _ _ ⟨rfl, rfl, rfl⟩
    rw [show ((152 : Int32) + ((6 : Int32) * nI k)) + (5 : Int32) = nI (152 + 6 * k + 5) from ix3 152 6 k 5, nI_clamp (n := 152 + 6 * k + 5) (by omega), show 152 + 6 * k + 5 = 152 + (k * 6 + 5) by omega]
    rintro _ rfl
    rintro _ rfl
    exact hK _ ⟨k + 1, by omega, rfl, (nI_1 k).symm, rfl, rfl⟩ hd
def cvR (f : Nat → Int32) (n k : Nat) : Int32 := if k < 2 then f k else if k = 2 then dsm (fun i => f (152 + i)) n else f (k - 1)
theorem q_X11_countOf {h : HI} {g : HL} (hR : RI (h 136)) {n : Nat} (en : h 136 1 = nI n) (hn : n ≤ 60) {k : Nat} (hk : k ≤ 9) : w_X11_countOf (nI k) h g (fun r h' g' => h = h' ∧ g = g' ∧ r = cvR (h 136) n k) := by
  unfold w_X11_countOf
  refine ⟨fun c => ⟨fun c2 => ?_, fun c2 => ?_⟩, fun c => ?_⟩
  · have k2 : 2 ≤ k := (nI_leI (a := 2) (b := k) (by omega) (by omega)).mp c
    have k3 : k ≠ 2 := fun e => c2 (by rw [e]; rfl)
    obtain ⟨d, rfl⟩ : ∃ d, k = d + 1 := ⟨k - 1, by omega⟩
    rw [nI_pred, nI_clamp (by omega)]
    refine ⟨vp_in_nI (by omega) (by omega), rfl, rfl, ?_⟩
    unfold cvR
    rw [if_neg (by omega), if_neg k3]; rfl
  · have k2 : k = 2 := (nI_eq (b := 2) (by omega) (by omega)).mp c2
    refine c_i (q_X11_denied hR en hn) ?_
    rintro _ _ _ ⟨rfl, rfl, rfl⟩
    refine ⟨rfl, rfl, ?_⟩
    unfold cvR
    rw [if_neg (by omega), if_pos k2]
  · have k2 : k < 2 := by
      have : ¬ 2 ≤ k := fun q => c ((nI_leI (a := 2) (b := k) (by omega) (by omega)).mpr q)
      omega
    rw [nI_clamp (by omega)]
    refine ⟨vp_in_nI (by omega) (by omega), rfl, rfl, ?_⟩
    unfold cvR
    rw [if_pos k2]
theorem q_X11_count {h : HI} {g : HL} (hR : RI (h 136)) {n : Nat} (en : h 136 1 = nI n) (hn : n ≤ 60) {x1 : Int32} : w_X11_count x1 h g (fun r h' g' => h = h' ∧ g = g' ∧ ((¬ bd 0 9 x1 ∧ r = -2) ∨ ∃ k : Nat, k ≤ 9 ∧ x1 = nI k ∧ r = cvR (h 136) n k)) := by
  unfold w_X11_count
  refine c_in3 (fun q => ⟨fun c => absI c, fun _ => ?_⟩) (fun q => ⟨fun _ => ⟨rfl, rfl, .inl ⟨fun b => q (bd.mo b (by decide) (by decide)), rfl⟩⟩, fun c => absN c⟩)
  have b : bd 0 9 x1 := bd.mo q (by decide) (by decide)
  obtain ⟨k, k1, k2, rfl⟩ := bd_nI b
  refine c_i (q_X11_countOf hR en hn (k := k) (by omega)) ?_
  rintro _ _ _ ⟨rfl, rfl, rfl⟩
  exact ⟨rfl, rfl, .inr ⟨k, by omega, rfl, rfl⟩⟩
