/-! WHAT HOLDS BETWEEN CALLS, with the law of wear read and every number in its range -/
def LW (h : HI) : Prop := ∀ m, TT h 24 m 1 60 → LWC h (h 25) m
theorem LW.cg {h h' : HI} (L : LW h) (e4 : h' 24 = h 24) (e5 : h' 25 = h 25) (e7 : h' 77 = h 77) (e8 : h' 78 = h 78) : LW h' := fun m T => by
  have := L m (T.cg e4.symm)
  exact this.cg e7 e8 (fun k _ => by rw [e5])
theorem LW.un {h : HI} {m : Nat} (T : TT h 24 m 1 60) (x : LWC h (h 25) m) : LW h := fun n U => by
  have : n = m := U.un T rfl
  subst this; exact x
def VRI (h : HI) : Prop := VR (h 136) ∧ ∀ i, i < 2 → ¬ h 138 i = 0 → VR (IMG h i)
theorem VRI.cg {h h' : HI} (v : VRI h) (e6 : VR (h' 136)) (e7 : h' 137 = h 137) (e8 : h' 138 = h 138) : VRI h' := by
  refine ⟨e6, fun i hi hn => ?_⟩
  rw [e8] at hn
  have eI : IMG h' i = IMG h i := by unfold IMG; rw [e7]
  rw [eI]; exact v.2 i hi hn
def INV3 (h : HI) : Prop := INV2 h ∧ LW h ∧ VRI h
/-- the class's calls, but for write, erase and from -/
theorem lw_add {C : Prop} {h h' : HI} {r : Int32} {o m w M k : Nat} {row : Nat → Int32} (L : LW h) (a : ADc C h r h' o m w M k row) (ho : o ≤ 22) : LW h' := by
  rcases a with ⟨-, -, rfl⟩ | ⟨-, -, -, rfl⟩ | ⟨-, -, -, J, -⟩
  · exact L
  · exact L
  · exact L.cg (J 24 (by unfold SM; omega)) (J 25 (by unfold SM; omega)) (J 77 (by unfold SM; omega)) (J 78 (by unfold SM; omega))
theorem lw_put {A : Prop} {h h' : HI} {o m w M : Nat} (L : LW h) (a : PTc A h h' o m w M) (ho : o ≤ 22) : LW h' :=
  L.cg (a.2.1 24 (by unfold SM; omega)) (a.2.1 25 (by unfold SM; omega)) (a.2.1 77 (by unfold SM; omega)) (a.2.1 78 (by unfold SM; omega))
theorem lw_jj {S : Nat → Prop} {h h' : HI} (L : LW h) (J : JJ S h h') (n : ∀ q, q ≤ 80 → ¬ S q) : LW h' :=
  L.cg (J 24 (n _ (by omega))) (J 25 (n _ (by omega))) (J 77 (n _ (by omega))) (J 78 (n _ (by omega)))
/-- the reference's -/
theorem lw_ref {h h' : HI} (L : LW h) (e : ∀ o, o ≤ 80 → h' o = h o) : LW h' := L.cg (e _ (by omega)) (e _ (by omega)) (e _ (by omega)) (e _ (by omega))
theorem adr_lo {C : Prop} {h h' : HI} {s : Int32} {c m M k : Nat} {F : (Nat → Int32) → Prop} (b : ADr C h s h' c m M k F) (o : Nat) (ho : o ≠ 136) : h' o = h o := by
  rcases b with ⟨-, -, rfl⟩ | ⟨-, -, -, rfl⟩ | ⟨-, -, -, e, -⟩
  · rfl
  · rfl
  · exact e o ho
theorem vr_add {C : Prop} {h h' : HI} {s : Int32} {c m M k : Nat} {F : (Nat → Int32) → Prop} (v : VRI h) (b : ADr C h s h' c m M k F) (n : C → m < M → ∀ f', F f' → VR f') : VRI h' := by
  refine v.cg ?_ (adr_lo b 137 (by decide)) (adr_lo b 138 (by decide))
  rcases b with ⟨-, -, rfl⟩ | ⟨-, -, -, rfl⟩ | ⟨b1, b3, -, -, -, -, -, hF⟩
  · exact v.1
  · exact v.1
  · exact n b1 b3 _ hF
theorem ptr_lo {A : Prop} {h h' : HI} (b : PTr A h h') (o : Nat) (ho : o ≠ 136) : h' o = h o := b.get.2.1 o ho
theorem vri_h1 {h h1 : HI} (v : VRI h) (e : ∀ q, 135 ≤ q → h1 q = h q) : VRI h1 := v.cg (by rw [e 136 (by omega)]; exact v.1) (e 137 (by omega)) (e 138 (by omega))
theorem vr_family {h h' : HI} {s x1 x2 x3 x4 : Int32} (v : VRI h) (b : PTr (EFr x1 x2 x3 x4 h s h') h h') : VRI h' := by
  refine v.cg ?_ (ptr_lo b 137 (by decide)) (ptr_lo b 138 (by decide))
  rcases b.1 with ⟨-, -, rfl⟩ | ⟨c, -, n, hn, -, e⟩
  · exact v.1
  · exact vr_fam v.1 hn c e
theorem vr_odds {h h' : HI} {s x1 x2 : Int32} (v : VRI h) (b : PTr (EOr x1 x2 h s h') h h') : VRI h' := by
  refine v.cg ?_ (ptr_lo b 137 (by decide)) (ptr_lo b 138 (by decide))
  rcases b.1 with ⟨-, -, rfl⟩ | ⟨c, -, e⟩
  · exact v.1
  · rw [e]; exact (v.1.up (vg_0 (by omega)) (bd_all _) (by omega)).up (vg_0 (by omega)) (bd_all _) (by omega)
theorem vr_need {h h' : HI} {s x1 x2 : Int32} (v : VRI h) (b : PTr (ENr x1 x2 h s h') h h') : VRI h' := by
  refine v.cg ?_ (ptr_lo b 137 (by decide)) (ptr_lo b 138 (by decide))
  rcases b.1 with ⟨-, -, rfl⟩ | ⟨c, n, hn, -, -, e⟩
  · exact v.1
  · rw [e]; exact v.1.up (vg_N hn) c.2 (by omega)
theorem vr_deny {h h' : HI} {s x1 x2 : Int32} (v : VRI h) (b : PTr (EDr x1 x2 h s h') h h') : VRI h' := by
  refine v.cg ?_ (ptr_lo b 137 (by decide)) (ptr_lo b 138 (by decide))
  rcases b.1 with ⟨-, -, rfl⟩ | ⟨c, n, hn, -, ⟨-, -, rfl⟩ | ⟨-, -, e⟩⟩
  · exact v.1
  · exact v.1
  · rw [e]; exact v.1.up (vg_S (c := 5) hn (by omega)) (by unfold zf; exact bd_01) (by omega)
theorem vr_bear {h h' : HI} {s x1 x2 x3 : Int32} (v : VRI h) (b : PTr (EBr x1 x2 x3 h s h') h h') : VRI h' := by
  refine v.cg ?_ (ptr_lo b 137 (by decide)) (ptr_lo b 138 (by decide))
  rcases b.1 with ⟨-, -, rfl⟩ | ⟨c, p, q, hp, hq, -, -, ⟨-, -, rfl⟩ | ⟨-, -, e⟩⟩
  · exact v.1
  · exact v.1
  · rw [e]; exact v.1.up (vg_P (c := 4) hp (by omega)) (bd_all _) (by omega)
theorem vr_link {h h' : HI} {s x1 x2 x3 : Int32} (v : VRI h) (h0 : (h 136 0).toInt ≤ 24) (b : PTr (ELr x1 x2 x3 h s h') h h') : VRI h' := by
  refine v.cg ?_ (ptr_lo b 137 (by decide)) (ptr_lo b 138 (by decide))
  rcases b.1 with ⟨-, -, rfl⟩ | ⟨c, p, n, hp, hn, -, -, ⟨-, -, rfl⟩ | ⟨-, ⟨-, -, rfl⟩ | ⟨n6, -, e⟩⟩⟩
  · exact v.1
  · exact v.1
  · exact v.1
  · have b1 : bd 0 23 x2 := ⟨c.2.1, by have := c.2.2; omega⟩
    have e3 : vg (512 + 10 * p + 3 + n) = (0, 23) := by
      rw [show 512 + 10 * p + 3 + n = 512 + 10 * p + (3 + n) by omega, vg_C hp (by omega)]
      exact (by decide : ∀ n, n < 6 → vC (3 + n) = (0, 23)) n n6
    rw [e]
    exact ((v.1.up e3 b1 (by omega)).up (vg_C (c := 9) hp (by omega)) (bd_all _) (by omega)).up (vg_C (c := 2) hp (by omega)) (bd_of (n := n + 1) (a := 0) (b := 6) (by omega) (by omega) (by omega)) (by omega)
theorem cls_from_hi {h h' : HI} {r x1 : Int32} (a : (¬ bd 0 1 x1 ∧ r = -2 ∧ h' = h) ∨ ∃ i, i < 2 ∧ x1 = nI i ∧ ((h 76 i = 0 ∧ r = -3 ∧ h' = h) ∨ (¬ h 76 i = 0 ∧ r = 1 ∧ ∃ h1, CPK h h1 1 (26 + 25 * i) 12 ∧ JJ SLaw h1 h'))) (o : Nat) (ho : 80 ≤ o) : h' o = h o := by
  rcases a with ⟨-, -, rfl⟩ | ⟨i, hi, -, ⟨-, -, rfl⟩ | ⟨-, -, h1, I, J⟩⟩
  · rfl
  · rfl
  · exact (J o (by unfold SLaw; omega)).trans (I.1 o (by omega))
theorem VRI.rf {h h' : HI} (v : VRI h) (F : ∀ o, o ≠ 136 → h' o = h o) (r : VR (h' 136)) : VRI h' := v.cg r (F 137 (by decide)) (F 138 (by decide))
theorem vr_erase {h h' : HI} (v : VRI h) (b : ST h h' (upd (h 136) 8 0)) : VRI h' := v.rf b.1 (by rw [b.2.1]; exact v.1.up (vg_0 (by omega)) (bd_all _) (by omega))
theorem vr_scrap {h h' : HI} (v : VRI h) (b : ST h h' (upd (upd (h 136) 4 0) 5 0)) : VRI h' := v.rf b.1 (by rw [b.2.1]; exact (v.1.up (vg_0 (by omega)) (bd_all _) (by omega)).up (vg_0 (by omega)) (bd_all _) (by omega))
theorem vr_ask {h h' : HI} (v : VRI h) (b : KJ SRef h h') : VRI h' :=
  have e : ∀ o, (∀ k, ¬ SRef o k) → h' o = h o := fun o m => funext fun k => b o k (m k)
  v.cg (by rw [e 136 (fun k => by unfold SRef; omega)]; exact v.1) (e 137 (fun k => by unfold SRef; omega)) (e 138 (fun k => by unfold SRef; omega))
theorem lw_ask {h h' : HI} (L : LW h) (b : KJ SRef h h') : LW h' := lw_ref L (fun o ho => funext fun k => b o k (by unfold SRef; omega))
theorem vr_image {h h' : HI} {s x1 : Int32} (v : VRI h) (b : (¬ bd 0 1 x1 ∧ s = -2 ∧ h' = h) ∨ ∃ i, i < 2 ∧ x1 = nI i ∧ s = 1 ∧ (∀ o, o ≠ 137 → o ≠ 138 → h' o = h o) ∧ h' 138 = upd (h 138) i 1 ∧ (∀ k, k < 887 → h' 137 (887 * i + k) = h 136 k) ∧ ∀ k, k < 887 * i ∨ 887 * i + 887 ≤ k → h' 137 k = h 137 k) : VRI h' := by
  rcases b with ⟨-, -, rfl⟩ | ⟨i, hi, -, -, F, F8, F7, F7'⟩
  · exact v
  · refine ⟨by rw [F 136 (by decide) (by decide)]; exact v.1, fun i' hi' hn => ?_⟩
    by_cases q : i' = i
    · subst q; exact v.1.cg (fun k hk => F7 k hk)
    · rw [F8, pk_un q] at hn
      exact (v.2 i' hi' hn).cg (fun k hk => F7' _ (by omega))
theorem vr_from {h h' : HI} {s x1 : Int32} (v : VRI h) (b : (¬ bd 0 1 x1 ∧ s = -2 ∧ h' = h) ∨ ∃ i, i < 2 ∧ x1 = nI i ∧ ((h 138 i = 0 ∧ s = -3 ∧ h' = h) ∨ (¬ h 138 i = 0 ∧ s = 1 ∧ (∀ o, o ≠ 136 → h' o = h o) ∧ (∀ k, k < 887 → h' 136 k = h 137 (887 * i + k)) ∧ ∀ k, 887 ≤ k → h' 136 k = h 136 k))) : VRI h' := by
  rcases b with ⟨-, -, rfl⟩ | ⟨i, hi, -, ⟨-, -, rfl⟩ | ⟨hn, -, F, F6, -⟩⟩
  · exact v
  · exact v
  · exact v.rf F ((v.2 i hi hn).cg (fun k hk => F6 k hk))
theorem ref_from_lo {h h' : HI} {s x1 : Int32} (b : (¬ bd 0 1 x1 ∧ s = -2 ∧ h' = h) ∨ ∃ i, i < 2 ∧ x1 = nI i ∧ ((h 138 i = 0 ∧ s = -3 ∧ h' = h) ∨ (¬ h 138 i = 0 ∧ s = 1 ∧ (∀ o, o ≠ 136 → h' o = h o) ∧ (∀ k, k < 887 → h' 136 k = h 137 (887 * i + k)) ∧ ∀ k, 887 ≤ k → h' 136 k = h 136 k))) (o : Nat) (ho : o ≠ 136) : h' o = h o := by
  rcases b with ⟨-, -, rfl⟩ | ⟨i, hi, -, ⟨-, -, rfl⟩ | ⟨hn, -, F, F6, -⟩⟩
  · rfl
  · rfl
  · exact F o ho
theorem ref_image_lo {h h' : HI} {s x1 : Int32} (b : (¬ bd 0 1 x1 ∧ s = -2 ∧ h' = h) ∨ ∃ i, i < 2 ∧ x1 = nI i ∧ s = 1 ∧ (∀ o, o ≠ 137 → o ≠ 138 → h' o = h o) ∧ h' 138 = upd (h 138) i 1 ∧ (∀ k, k < 887 → h' 137 (887 * i + k) = h 136 k) ∧ ∀ k, k < 887 * i ∨ 887 * i + 887 ≤ k → h' 137 k = h 137 k) (o : Nat) (ho : o ≤ 136) : h' o = h o := by
  rcases b with ⟨-, -, rfl⟩ | ⟨i, hi, -, -, F, -⟩
  · rfl
  · exact F o (by omega) (by omega)
theorem cls_image_lo {h h' : HI} {r x1 : Int32} (a : (¬ bd 0 1 x1 ∧ r = -2 ∧ h' = h) ∨ ∃ i, i < 2 ∧ x1 = nI i ∧ r = 1 ∧ ∃ h0, CPK h h0 (26 + 25 * i) 1 12 ∧ h' = hu h0 76 i 1) (o : Nat) (ho : o ≤ 26 ∨ 77 ≤ o) : h' o = h o := by
  rcases a with ⟨-, -, rfl⟩ | ⟨i, hi, -, -, h0, I0, rfl⟩
  · rfl
  · rw [hu_ne (by omega)]; exact I0.1 o (by omega)
/-- write, erase and from read the law anew -/
theorem q_X10_write {h : HI} {g : HL} (L : LW h) {m : Nat} (T : TT h 24 m 1 60) {x1 : Int32} : w_X10_write x1 h g (fun r h' _ => ADc (K_write x1) h r h' 24 m 1 60 1 (rowc x1 0 0 0) ∧ LW h') := by
  unfold w_X10_write
  refine c_wb (fun q0 => ⟨fun _ => ?_, fun c => absI c⟩) (fun q0 => ⟨fun c => absurd rfl c, fun _ => ⟨.inl ⟨fun hc => q0 (bd.mo hc (by decide) (by decide)), rfl, rfl⟩, L⟩⟩)
  have hC : K_write x1 := bd.mo q0 (by decide) (by decide)
  by_cases hm : m = 60
  · refine c_i (p_addF T hm) ?_
    rintro _ _ _ ⟨rfl, rfl, rfl⟩
    exact ⟨fun c => absurd rfl c, fun _ => ⟨.inr (.inl ⟨hC, hm, rfl, rfl⟩), L⟩⟩
  · have hlt : m < 60 := by have := T.2.2.2.1; omega
    refine c_i (p_add T hlt) ?_
    rintro _ h1 g1 ⟨rfl, -, J, T1, ho, hr⟩
    refine ⟨fun _ => ?_, fun c => absurd c (nI_m4 (by omega))⟩
    refine c_v (q_X4_read T1) ?_
    rintro h2 g2 ⟨J2, L2⟩
    refine c_i p_rows ?_
    rintro _ _ _ ⟨rfl, rfl, rfl⟩
    have e24 : h2 24 = h1 24 := J2 24 (by unfold SLaw; omega)
    have e25 : h2 25 = h1 25 := J2 25 (by unfold SLaw; omega)
    have T2 := T1.cg e24
    refine ⟨.inr (.inr ⟨hC, hlt, ?_, (J.mo SB.sm).tr (J2.mo SLaw.sm), T2, fun i hi => by rw [e25]; exact ho i (.inl hi), fun c hc => by rw [e25]; exact hr c hc⟩), LW.un T2 (by rw [e25]; exact L2)⟩
    rw [e24]; exact T1.2.2.1
theorem q_X10_erase {h : HI} {g : HL} {m : Nat} (T : TT h 24 m 1 60) : w_X10_erase h g (fun r h' _ => PTc (r = nI m) h h' 24 0 1 60 ∧ LW h') := by
  unfold w_X10_erase
  refine c_i p_rows ?_
  rintro _ _ _ ⟨rfl, rfl, rfl⟩
  refine c_v (p_empty T) ?_
  rintro h1 g1 ⟨-, J, T1⟩
  refine c_v (q_X4_read T1) ?_
  rintro h2 g2 ⟨J2, L2⟩
  have T2 := T1.cg (J2 24 (by unfold SLaw; omega))
  exact ⟨⟨T.2.2.1, (J.mo (fun q hq => by unfold SO at hq; unfold SM; omega)).tr (J2.mo SLaw.sm), T2⟩, LW.un T2 (by rw [J2 25 (by unfold SLaw; omega)]; exact L2)⟩
theorem q_X10_from {h : HI} {g : HL} (L : LW h) (c : CJ h) {x1 : Int32} : w_X10_from x1 h g (fun r h' _ => ((¬ bd 0 1 x1 ∧ r = -2 ∧ h' = h) ∨ ∃ i, i < 2 ∧ x1 = nI i ∧ ((h 76 i = 0 ∧ r = -3 ∧ h' = h) ∨ (¬ h 76 i = 0 ∧ r = 1 ∧ ∃ h1, CPK h h1 1 (26 + 25 * i) 12 ∧ JJ SLaw h1 h'))) ∧ LW h') := by
  unfold w_X10_from
  refine c_wb (fun q0 => ⟨fun _ => ?_, fun c => absI c⟩) (fun q0 => ⟨fun c => absurd rfl c, fun _ => ⟨.inl ⟨fun hc => q0 (bd.mo hc (by decide) (by decide)), rfl, rfl⟩, L⟩⟩)
  obtain ⟨i, i1, i2, rfl⟩ := bd_nI (bd.mo q0 (c := 0) (d := 1) (by decide) (by decide))
  rw [nI_clamp (n := i) (by omega)]
  refine and_have (vp_in_nI (by omega) (by omega)) (fun _ => ⟨fun ck => ?_, fun ck => ⟨.inr ⟨i, by omega, rfl, .inl ⟨ck, rfl, rfl⟩⟩, L⟩⟩)
  refine c_n (p_X10_imageAt (by omega)) ?_
  rintro _ _ _ ⟨rfl, rfl, rfl⟩
  have hs := isS26 (i := i) (by omega)
  refine and_have hs (fun _ => ?_)
  refine c_v (p_X6_copy (by omega) (c _ isS1) (c _ hs)) ?_
  intro h1 g1 I1
  obtain ⟨m1, -, T1, -⟩ := I1.2 11 (by omega)
  refine c_v (q_X4_read T1) ?_
  rintro h2 g2 ⟨J2, L2⟩
  exact ⟨.inr ⟨i, by omega, rfl, .inr ⟨ck, rfl, h1, I1, J2⟩⟩, LW.un (T1.cg (J2 24 (by unfold SLaw; omega))) (by rw [J2 25 (by unfold SLaw; omega)]; exact L2)⟩
theorem LW_start {h : HI} (T : TT h 24 0 1 60) (e : h 77 9 = 1) : LW h := LW.un T ⟨[], by
  rw [e]
  exact .inr (.inl ⟨fun k hk => absurd hk (Nat.not_lt_zero k), fun q => absurd q.1 (by decide), rfl, by decide⟩), fun q => by rw [e] at q; exact absurd q (by decide)⟩
theorem VR_start {f : Nat → Int32} (fr : ∀ i, i < 12 → f (140 + i) = fam i) (zr : ∀ i, i < 140 ∨ 152 ≤ i → f i = 0) : VR f := by
  have z : ∀ k, k < 20 ∨ 140 ≤ k ∧ k < 152 ∨ 887 ≤ k ∨ (vg k).1 ≤ 0 ∧ 0 ≤ (vg k).2 := fun k => by
    have w : ∀ (c : Nat) (r : Nat → Int × Int) (n : Nat), (∀ c, c < n → (r c).1 ≤ 0 ∧ 0 ≤ (r c).2) → c < n → (r c).1 ≤ 0 ∧ 0 ≤ (r c).2 := fun c r n h hc => h c hc
    by_cases k1 : k < 20
    · exact .inl k1
    by_cases k2 : k < 140
    · obtain ⟨m, c, rfl, hm, hc⟩ : ∃ m c, k = 20 + 5 * m + c ∧ m < 24 ∧ c < 5 := ⟨(k - 20) / 5, (k - 20) % 5, by omega, by omega, by omega⟩
      rw [vg_P hm hc]; exact .inr (.inr (.inr ((by decide : ∀ c, c < 5 → (vP c).1 ≤ 0 ∧ 0 ≤ (vP c).2) c hc)))
    by_cases k3 : k < 152
    · exact .inr (.inl ⟨by omega, k3⟩)
    by_cases k4 : k < 512
    · obtain ⟨m, c, rfl, hm, hc⟩ : ∃ m c, k = 152 + 6 * m + c ∧ m < 60 ∧ c < 6 := ⟨(k - 152) / 6, (k - 152) % 6, by omega, by omega, by omega⟩
      rw [vg_S hm hc]; exact .inr (.inr (.inr ((by decide : ∀ c, c < 6 → (vS c).1 ≤ 0 ∧ 0 ≤ (vS c).2) c hc)))
    by_cases k5 : k < 672
    · obtain ⟨m, c, rfl, hm, hc⟩ : ∃ m c, k = 512 + 10 * m + c ∧ m < 16 ∧ c < 10 := ⟨(k - 512) / 10, (k - 512) % 10, by omega, by omega, by omega⟩
      rw [vg_C hm hc]; exact .inr (.inr (.inr ((by decide : ∀ c, c < 10 → (vC c).1 ≤ 0 ∧ 0 ≤ (vC c).2) c hc)))
    by_cases k6 : k < 704
    · obtain ⟨m, c, rfl, hm, hc⟩ : ∃ m c, k = 672 + 4 * m + c ∧ m < 8 ∧ c < 4 := ⟨(k - 672) / 4, (k - 672) % 4, by omega, by omega, by omega⟩
      rw [vg_W hm hc]; exact .inr (.inr (.inr ((by decide : ∀ c, c < 4 → (vW c).1 ≤ 0 ∧ 0 ≤ (vW c).2) c hc)))
    by_cases k7 : k < 710
    · obtain ⟨m, rfl, hm⟩ : ∃ m, k = 704 + m ∧ m < 6 := ⟨k - 704, by omega, by omega⟩
      rw [vg_M hm]; exact .inr (.inr (.inr (by decide)))
    by_cases k8 : k < 737
    · obtain ⟨m, c, rfl, hm, hc⟩ : ∃ m c, k = 710 + 3 * m + c ∧ m < 9 ∧ c < 3 := ⟨(k - 710) / 3, (k - 710) % 3, by omega, by omega, by omega⟩
      rw [vg_X hm hc]; exact .inr (.inr (.inr ((by decide : ∀ c, c < 3 → (vX c).1 ≤ 0 ∧ 0 ≤ (vX c).2) c hc)))
    by_cases k9 : k < 817
    · obtain ⟨m, c, rfl, hm, hc⟩ : ∃ m c, k = 737 + 2 * m + c ∧ m < 40 ∧ c < 2 := ⟨(k - 737) / 2, (k - 737) % 2, by omega, by omega, by omega⟩
      rw [vg_T hm hc]; exact .inr (.inr (.inr ((by decide : ∀ c, c < 2 → (vT c).1 ≤ 0 ∧ 0 ≤ (vT c).2) c hc)))
    by_cases k10 : k < 823
    · obtain ⟨m, c, rfl, hm, hc⟩ : ∃ m c, k = 817 + 2 * m + c ∧ m < 3 ∧ c < 2 := ⟨(k - 817) / 2, (k - 817) % 2, by omega, by omega, by omega⟩
      rw [vg_H hm hc]; exact .inr (.inr (.inr ((by decide : ∀ c, c < 2 → (vH c).1 ≤ 0 ∧ 0 ≤ (vH c).2) c hc)))
    by_cases k11 : k < 827
    · obtain ⟨m, rfl, hm⟩ : ∃ m, k = 823 + m ∧ m < 4 := ⟨k - 823, by omega, by omega⟩
      rw [vg_N hm]; exact .inr (.inr (.inr (by decide)))
    by_cases k12 : k < 887
    · obtain ⟨m, rfl, hm⟩ : ∃ m, k = 827 + m ∧ m < 60 := ⟨k - 827, by omega, by omega⟩
      rw [vg_Z hm]; exact .inr (.inr (.inr (by decide)))
    exact .inr (.inr (.inl (by omega)))
  refine ⟨fun k => ?_, fun j hj => ?_⟩
  · rcases z k with c | ⟨c, d⟩ | c | c
    · unfold okV; rw [vg_0 c]; exact bd_all _
    · obtain ⟨i, rfl⟩ : ∃ i, k = 140 + i := ⟨k - 140, by omega⟩
      unfold okV; rw [vg_F c d, fr i (by omega)]
      unfold fam bd
      by_cases q : i % 3 = 2
      · rw [if_pos q]; decide
      · rw [if_neg q]; decide
    · unfold okV; rw [vg_E c]; exact bd_all _
    · by_cases q : 140 ≤ k ∧ k < 152
      · obtain ⟨i, rfl⟩ : ∃ i, k = 140 + i := ⟨k - 140, by omega⟩
        unfold okV; rw [vg_F q.1 q.2, fr i (by omega)]
        unfold fam bd
        by_cases q : i % 3 = 2
        · rw [if_pos q]; decide
        · rw [if_neg q]; decide
      · unfold okV bd
        rw [zr k (by omega)]; exact c
  · rw [fr (3 * j) (by omega), show 140 + 3 * j + 2 = 140 + (3 * j + 2) by omega, fr (3 * j + 2) (by omega), show 140 + 3 * j + 1 = 140 + (3 * j + 1) by omega, fr (3 * j + 1) (by omega)]
    unfold fam
    rw [if_neg (by omega), if_pos (by omega), if_neg (by omega)]
    decide
theorem INV3_start {h1 h2 : HI} (a : (∀ s, isS s → ∀ j, j < 12 → TT h1 (s + (1 + 2 * j)) (m0 j) (wJ j) (MJ j)) ∧ h1 76 = (fun _ => 0) ∧ (∀ i, i < 12 → h1 5 i = fam i) ∧ (∀ i, i < 4 → h1 23 i = 0) ∧ (∀ i, i < 2 → h1 17 i = 0) ∧ h1 77 9 = 1) (b : (∀ o, o < 135 → h2 o = h1 o) ∧ RG (h2 136) ∧ (∀ i, i < 9 → h2 136 i = 0) ∧ h2 138 = (fun _ => 0) ∧ h2 147 0 = 0 ∧ h2 147 1 = 1 ∧ (∀ i, i < 12 → h2 136 (140 + i) = fam i) ∧ ∀ i, i < 140 ∨ 152 ≤ i → h2 136 i = 0) : INV3 h2 :=
  ⟨⟨INV_start a b, RL_start a b⟩, LW_start ((a.1 1 isS1 11 (by omega)).cg (b.1 24 (by omega))) (by rw [b.1 77 (by omega)]; exact a.2.2.2.2.2), VR_start b.2.2.2.2.2.2.1 b.2.2.2.2.2.2.2, fun i hi hn => by rw [b.2.2.2.1] at hn; exact absurd rfl hn⟩
