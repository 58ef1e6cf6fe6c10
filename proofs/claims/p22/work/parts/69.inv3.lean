section
-- 69.inv3
/-! WHAT HOLDS BETWEEN CALLS, with the law of wear read and every number in its range -/
def LW (h : HI) : Prop := ∀ m, TT h 24 m 1 60 → LWC h (h 25) m
theorem LW.cg {h h' : HI} (L : LW h) (e4 : h' 24 = h 24) (e5 : h' 25 = h 25) (e7 : h' 77 = h 77) (e8 : h' 78 = h 78) : LW h' := fun m T => by
  have := L m (T.cg e4.symm)
  exact this.cg e7 e8 (fun k _ => by rw [e5])
theorem LW.un {h : HI} {m : Nat} (T : TT h 24 m 1 60) (x : LWC h (h 25) m) : LW h := fun n U => by
  have : n = m := U.un T rfl
  subst this; exact x
def VRI (h : HI) : Prop := VR (h 136) ∧ ∀ i, i < 2 → ¬ h 138 i = 0 → VR (IMG h i)
theorem VRI.cg {h h' : HI} (v : VRI h) (e6 : VR (h' 136)) (e7 : h' 137 = h 137) (e8 : h' 138 = h 138) : VRI h' := by
  refine ⟨e6, fun i hi hn => ?_⟩
  rw [e8] at hn
  have eI : IMG h' i = IMG h i := by unfold IMG; rw [e7]
  rw [eI]; exact v.2 i hi hn
def INV3 (h : HI) : Prop := INV2 h ∧ LW h ∧ VRI h
/-- the class's calls, but for write, erase and from -/
theorem lw_add {C : Prop} {h h' : HI} {r : Int32} {o m w M k : Nat} {row : Nat → Int32} (L : LW h) (a : ADc C h r h' o m w M k row) (ho : o ≤ 22) : LW h' := by
  rcases a with ⟨-, -, rfl⟩ | ⟨-, -, -, rfl⟩ | ⟨-, -, -, J, -⟩
  · exact L
  · exact L
  · exact L.cg (J 24 (by unfold SM; omega)) (J 25 (by unfold SM; omega)) (J 77 (by unfold SM; omega)) (J 78 (by unfold SM; omega))
theorem lw_put {A : Prop} {h h' : HI} {o m w M : Nat} (L : LW h) (a : PTc A h h' o m w M) (ho : o ≤ 22) : LW h' :=
  L.cg (a.2.1 24 (by unfold SM; omega)) (a.2.1 25 (by unfold SM; omega)) (a.2.1 77 (by unfold SM; omega)) (a.2.1 78 (by unfold SM; omega))
theorem lw_jj {S : Nat → Prop} {h h' : HI} (L : LW h) (J : JJ S h h') (n : ∀ q, q ≤ 80 → ¬ S q) : LW h' :=
  L.cg (J 24 (n _ (by omega))) (J 25 (n _ (by omega))) (J 77 (n _ (by omega))) (J 78 (n _ (by omega)))
/-- the reference's -/
theorem lw_ref {h h' : HI} (L : LW h) (e : ∀ o, o ≤ 80 → h' o = h o) : LW h' := L.cg (e _ (by omega)) (e _ (by omega)) (e _ (by omega)) (e _ (by omega))
theorem adr_lo {C : Prop} {h h' : HI} {s : Int32} {c m M k : Nat} {F : (Nat → Int32) → Prop} (b : ADr C h s h' c m M k F) (o : Nat) (ho : o ≠ 136) : h' o = h o := by
  rcases b with ⟨-, -, rfl⟩ | ⟨-, -, -, rfl⟩ | ⟨-, -, -, e, -⟩
  · rfl
  · rfl
  · exact e o ho
theorem vr_add {C : Prop} {h h' : HI} {s : Int32} {c m M k : Nat} {F : (Nat → Int32) → Prop} (v : VRI h) (b : ADr C h s h' c m M k F) (n : C → m < M → ∀ f', F f' → VR f') : VRI h' := by
  refine v.cg ?_ (adr_lo b 137 (by decide)) (adr_lo b 138 (by decide))
  rcases b with ⟨-, -, rfl⟩ | ⟨-, -, -, rfl⟩ | ⟨b1, b3, -, -, -, -, -, hF⟩
  · exact v.1
  · exact v.1
  · exact n b1 b3 _ hF
theorem ptr_lo {A : Prop} {h h' : HI} (b : PTr A h h') (o : Nat) (ho : o ≠ 136) : h' o = h o := b.get.2.1 o ho
theorem vri_h1 {h h1 : HI} (v : VRI h) (e : ∀ q, 135 ≤ q → h1 q = h q) : VRI h1 := v.cg (by rw [e 136 (by omega)]; exact v.1) (e 137 (by omega)) (e 138 (by omega))
theorem vr_family {h h' : HI} {s x1 x2 x3 x4 : Int32} (v : VRI h) (b : PTr (EFr x1 x2 x3 x4 h s h') h h') : VRI h' := by
  refine v.cg ?_ (ptr_lo b 137 (by decide)) (ptr_lo b 138 (by decide))
  rcases b.1 with ⟨-, -, rfl⟩ | ⟨c, -, n, hn, -, e⟩
  · exact v.1
  · exact vr_fam v.1 hn c e
theorem vr_odds {h h' : HI} {s x1 x2 : Int32} (v : VRI h) (b : PTr (EOr x1 x2 h s h') h h') : VRI h' := by
  refine v.cg ?_ (ptr_lo b 137 (by decide)) (ptr_lo b 138 (by decide))
  rcases b.1 with ⟨-, -, rfl⟩ | ⟨c, -, e⟩
  · exact v.1
  · rw [e]; exact (v.1.up (vg_0 (by omega)) (bd_all _) (by omega)).up (vg_0 (by omega)) (bd_all _) (by omega)
theorem vr_need {h h' : HI} {s x1 x2 : Int32} (v : VRI h) (b : PTr (ENr x1 x2 h s h') h h') : VRI h' := by
  refine v.cg ?_ (ptr_lo b 137 (by decide)) (ptr_lo b 138 (by decide))
  rcases b.1 with ⟨-, -, rfl⟩ | ⟨c, n, hn, -, -, e⟩
  · exact v.1
  · rw [e]; exact v.1.up (vg_N hn) c.2 (by omega)
theorem vr_deny {h h' : HI} {s x1 x2 : Int32} (v : VRI h) (b : PTr (EDr x1 x2 h s h') h h') : VRI h' := by
  refine v.cg ?_ (ptr_lo b 137 (by decide)) (ptr_lo b 138 (by decide))
  rcases b.1 with ⟨-, -, rfl⟩ | ⟨c, n, hn, -, ⟨-, -, rfl⟩ | ⟨-, -, e⟩⟩
  · exact v.1
  · exact v.1
  · rw [e]; exact v.1.up (vg_S (c := 5) hn (by omega)) (by unfold zf; exact bd_01) (by omega)
theorem vr_bear {h h' : HI} {s x1 x2 x3 : Int32} (v : VRI h) (b : PTr (EBr x1 x2 x3 h s h') h h') : VRI h' := by
  refine v.cg ?_ (ptr_lo b 137 (by decide)) (ptr_lo b 138 (by decide))
  rcases b.1 with ⟨-, -, rfl⟩ | ⟨c, p, q, hp, hq, -, -, ⟨-, -, rfl⟩ | ⟨-, -, e⟩⟩
  · exact v.1
  · exact v.1
  · rw [e]; exact v.1.up (vg_P (c := 4) hp (by omega)) (bd_all _) (by omega)
theorem vr_link {h h' : HI} {s x1 x2 x3 : Int32} (v : VRI h) (h0 : (h 136 0).toInt ≤ 24) (b : PTr (ELr x1 x2 x3 h s h') h h') : VRI h' := by
  refine v.cg ?_ (ptr_lo b 137 (by decide)) (ptr_lo b 138 (by decide))
  rcases b.1 with ⟨-, -, rfl⟩ | ⟨c, p, n, hp, hn, -, -, ⟨-, -, rfl⟩ | ⟨-, ⟨-, -, rfl⟩ | ⟨n6, -, e⟩⟩⟩
  · exact v.1
  · exact v.1
  · exact v.1
  · have b1 : bd 0 23 x2 := ⟨c.2.1, by have := c.2.2; omega⟩
    have e3 : vg (512 + 10 * p + 3 + n) = (0, 23) := by
      rw [show 512 + 10 * p + 3 + n = 512 + 10 * p + (3 + n) by omega, vg_C hp (by omega)]
      exact (by decide : ∀ n, n < 6 → vC (3 + n) = (0, 23)) n n6
    rw [e]
    exact ((v.1.up e3 b1 (by omega)).up (vg_C (c := 9) hp (by omega)) (bd_all _) (by omega)).up (vg_C (c := 2) hp (by omega)) (bd_of (n := n + 1) (a := 0) (b := 6) (by omega) (by omega) (by omega)) (by omega)
theorem cls_from_hi {h h' : HI} {r x1 : Int32} (a : (¬ bd 0 1 x1 ∧ r = -2 ∧ h' = h) ∨ ∃ i, i < 2 ∧ x1 = nI i ∧ ((h 76 i = 0 ∧ r = -3 ∧ h' = h) ∨ (¬ h 76 i = 0 ∧ r = 1 ∧ ∃ h1, CPK h h1 1 (26 + 25 * i) 12 ∧ JJ SLaw h1 h'))) (o : Nat) (ho : 80 ≤ o) : h' o = h o := by
  rcases a with ⟨-, -, rfl⟩ | ⟨i, hi, -, ⟨-, -, rfl⟩ | ⟨-, -, h1, I, J⟩⟩
  · rfl
  · rfl
  · exact (J o (by unfold SLaw; omega)).trans (I.1 o (by omega))
theorem VRI.rf {h h' : HI} (v : VRI h) (F : ∀ o, o ≠ 136 → h' o = h o) (r : VR (h' 136)) : VRI h' := v.cg r (F 137 (by decide)) (F 138 (by decide))
theorem vr_erase {h h' : HI} (v : VRI h) (b : ST h h' (upd (h 136) 8 0)) : VRI h' := v.rf b.1 (by rw [b.2.1]; exact v.1.up (vg_0 (by omega)) (bd_all _) (by omega))
theorem vr_scrap {h h' : HI} (v : VRI h) (b : ST h h' (upd (upd (h 136) 4 0) 5 0)) : VRI h' := v.rf b.1 (by rw [b.2.1]; exact (v.1.up (vg_0 (by omega)) (bd_all _) (by omega)).up (vg_0 (by omega)) (bd_all _) (by omega))
theorem vr_ask {h h' : HI} (v : VRI h) (b : KJ SRef h h') : VRI h' :=
  have e : ∀ o, (∀ k, ¬ SRef o k) → h' o = h o := fun o m => funext fun k => b o k (m k)
  v.cg (by rw [e 136 (fun k => by unfold SRef; omega)]; exact v.1) (e 137 (fun k => by unfold SRef; omega)) (e 138 (fun k => by unfold SRef; omega))
theorem lw_ask {h h' : HI} (L : LW h) (b : KJ SRef h h') : LW h' := lw_ref L (fun o ho => funext fun k => b o k (by unfold SRef; omega))
theorem vr_image {h h' : HI} {s x1 : Int32} (v : VRI h) (b : (¬ bd 0 1 x1 ∧ s = -2 ∧ h' = h) ∨ ∃ i, i < 2 ∧ x1 = nI i ∧ s = 1 ∧ (∀ o, o ≠ 137 → o ≠ 138 → h' o = h o) ∧ h' 138 = upd (h 138) i 1 ∧ (∀ k, k < 887 → h' 137 (887 * i + k) = h 136 k) ∧ ∀ k, k < 887 * i ∨ 887 * i + 887 ≤ k → h' 137 k = h 137 k) : VRI h' := by
  rcases b with ⟨-, -, rfl⟩ | ⟨i, hi, -, -, F, F8, F7, F7'⟩
  · exact v
  · refine ⟨by rw [F 136 (by decide) (by decide)]; exact v.1, fun i' hi' hn => ?_⟩
    by_cases q : i' = i
    · subst q; exact v.1.cg (fun k hk => F7 k hk)
    · rw [F8, pk_un q] at hn
      exact (v.2 i' hi' hn).cg (fun k hk => F7' _ (by omega))
theorem vr_from {h h' : HI} {s x1 : Int32} (v : VRI h) (b : (¬ bd 0 1 x1 ∧ s = -2 ∧ h' = h) ∨ ∃ i, i < 2 ∧ x1 = nI i ∧ ((h 138 i = 0 ∧ s = -3 ∧ h' = h) ∨ (¬ h 138 i = 0 ∧ s = 1 ∧ (∀ o, o ≠ 136 → h' o = h o) ∧ (∀ k, k < 887 → h' 136 k = h 137 (887 * i + k)) ∧ ∀ k, 887 ≤ k → h' 136 k = h 136 k))) : VRI h' := by
  rcases b with ⟨-, -, rfl⟩ | ⟨i, hi, -, ⟨-, -, rfl⟩ | ⟨hn, -, F, F6, -⟩⟩
  · exact v
  · exact v
  · exact v.rf F ((v.2 i hi hn).cg (fun k hk => F6 k hk))
theorem ref_from_lo {h h' : HI} {s x1 : Int32} (b : (¬ bd 0 1 x1 ∧ s = -2 ∧ h' = h) ∨ ∃ i, i < 2 ∧ x1 = nI i ∧ ((h 138 i = 0 ∧ s = -3 ∧ h' = h) ∨ (¬ h 138 i = 0 ∧ s = 1 ∧ (∀ o, o ≠ 136 → h' o = h o) ∧ (∀ k, k < 887 → h' 136 k = h 137 (887 * i + k)) ∧ ∀ k, 887 ≤ k → h' 136 k = h 136 k))) (o : Nat) (ho : o ≠ 136) : h' o = h o := by
  rcases b with ⟨-, -, rfl⟩ | ⟨i, hi, -, ⟨-, -, rfl⟩ | ⟨hn, -, F, F6, -⟩⟩
  · rfl
  · rfl
  · exact F o ho
theorem ref_image_lo {h h' : HI} {s x1 : Int32} (b : (¬ bd 0 1 x1 ∧ s = -2 ∧ h' = h) ∨ ∃ i, i < 2 ∧ x1 = nI i ∧ s = 1 ∧ (∀ o, o ≠ 137 → o ≠ 138 → h' o = h o) ∧ h' 138 = upd (h 138) i 1 ∧ (∀ k, k < 887 → h' 137 (887 * i + k) = h 136 k) ∧ ∀ k, k < 887 * i ∨ 887 * i + 887 ≤ k → h' 137 k = h 137 k) (o : Nat) (ho : o ≤ 136) : h' o = h o := by
  rcases b with ⟨-, -, rfl⟩ | ⟨i, hi, -, -, F, -⟩
  · rfl
  · exact F o (by omega) (by omega)
theorem cls_image_lo {h h' : HI} {r x1 : Int32} (a : (¬ bd 0 1 x1 ∧ r = -2 ∧ h' = h) ∨ ∃ i, i < 2 ∧ x1 = nI i ∧ r = 1 ∧ ∃ h0, CPK h h0 (26 + 25 * i) 1 12 ∧ h' = hu h0 76 i 1) (o : Nat) (ho : o ≤ 26 ∨ 77 ≤ o) : h' o = h o := by
  rcases a with ⟨-, -, rfl⟩ | ⟨i, hi, -, -, h0, I0, rfl⟩
  · rfl
  · rw [hu_ne (by omega)]; exact I0.1 o (by omega)
/-- write, erase and from read the law anew -/
theorem q_X10_write {h : HI} {g : HL} (L : LW h) {m : Nat} (T : TT h 24 m 1 60) {x1 : Int32} : w_X10_write x1 h g (fun r h' _ => ADc (K_write x1) h r h' 24 m 1 60 1 (rowc x1 0 0 0) ∧ LW h') := by
  unfold w_X10_write
  refine c_wb (fun q0 => ⟨fun _ => ?_, fun c => absI c⟩) (fun q0 => ⟨fun c => absurd rfl c, fun _ => ⟨.inl ⟨fun hc => q0 (bd.mo hc (by decide) (by decide)), rfl, rfl⟩, L⟩⟩)
  have hC : K_write x1 := bd.mo q0 (by decide) (by decide)
  by_cases hm : m = 60
  · refine c_i (p_addF T hm) ?_
    rintro _ _ _ ⟨rfl, rfl, rfl⟩
    exact ⟨fun c => absurd rfl c, fun _ => ⟨.inr (.inl ⟨hC, hm, rfl, rfl⟩), L⟩⟩
  · have hlt : m < 60 := by have := T.2.2.2.1; omega
    refine c_i (p_add T hlt) ?_
    rintro _ h1 g1 ⟨rfl, -, J, T1, ho, hr⟩
    refine ⟨fun _ => ?_, fun c => absurd c (nI_m4 (by omega))⟩
    refine c_v (q_X4_read T1) ?_
    rintro h2 g2 ⟨J2, L2⟩
    refine c_i p_rows ?_
    rintro _ _ _ ⟨rfl, rfl, rfl⟩
    have e24 : h2 24 = h1 24 := J2 24 (by unfold SLaw; omega)
    have e25 : h2 25 = h1 25 := J2 25 (by unfold SLaw; omega)
    have T2 := T1.cg e24
    refine ⟨.inr (.inr ⟨hC, hlt, ?_, (J.mo SB.sm).tr (J2.mo SLaw.sm), T2, fun i hi => by rw [e25]; exact ho i (.inl hi), fun c hc => by rw [e25]; exact hr c hc⟩), LW.un T2 (by rw [e25]; exact L2)⟩
    rw [e24]; exact T1.2.2.1
theorem q_X10_erase {h : HI} {g : HL} {m : Nat} (T : TT h 24 m 1 60) : w_X10_erase h g (fun r h' _ => PTc (r = nI m) h h' 24 0 1 60 ∧ LW h') := by
  unfold w_X10_erase
  refine c_i p_rows ?_
  rintro _ _ _ ⟨rfl, rfl, rfl⟩
  refine c_v (p_empty T) ?_
  rintro h1 g1 ⟨-, J, T1⟩
  refine c_v (q_X4_read T1) ?_
  rintro h2 g2 ⟨J2, L2⟩
  have T2 := T1.cg (J2 24 (by unfold SLaw; omega))
  exact ⟨⟨T.2.2.1, (J.mo (fun q hq => by unfold SO at hq; unfold SM; omega)).tr (J2.mo SLaw.sm), T2⟩, LW.un T2 (by rw [J2 25 (by unfold SLaw; omega)]; exact L2)⟩
theorem q_X10_from {h : HI} {g : HL} (L : LW h) (c : CJ h) {x1 : Int32} : w_X10_from x1 h g (fun r h' _ => ((¬ bd 0 1 x1 ∧ r = -2 ∧ h' = h) ∨ ∃ i, i < 2 ∧ x1 = nI i ∧ ((h 76 i = 0 ∧ r = -3 ∧ h' = h) ∨ (¬ h 76 i = 0 ∧ r = 1 ∧ ∃ h1, CPK h h1 1 (26 + 25 * i) 12 ∧ JJ SLaw h1 h'))) ∧ LW h') := by
  unfold w_X10_from
  refine c_wb (fun q0 => ⟨fun _ => ?_, fun c => absI c⟩) (fun q0 => ⟨fun c => absurd rfl c, fun _ => ⟨.inl ⟨fun hc => q0 (bd.mo hc (by decide) (by decide)), rfl, rfl⟩, L⟩⟩)
  obtain ⟨i, i1, i2, rfl⟩ := bd_nI (bd.mo q0 (c := 0) (d := 1) (by decide) (by decide))
  rw [nI_clamp (n := i) (by omega)]
  refine and_have (vp_in_nI (by omega) (by omega)) (fun _ => ⟨fun ck => ?_, fun ck => ⟨.inr ⟨i, by omega, rfl, .inl ⟨ck, rfl, rfl⟩⟩, L⟩⟩)
  refine c_n (p_X10_imageAt (by omega)) ?_
  rintro _ _ _ ⟨rfl, rfl, rfl⟩
  have hs := isS26 (i := i) (by omega)
  refine and_have hs (fun _ => ?_)
  refine c_v (p_X6_copy (by omega) (c _ isS1) (c _ hs)) ?_
  intro h1 g1 I1
  obtain ⟨m1, -, T1, -⟩ := I1.2 11 (by omega)
  refine c_v (q_X4_read T1) ?_
  rintro h2 g2 ⟨J2, L2⟩
  exact ⟨.inr ⟨i, by omega, rfl, .inr ⟨ck, rfl, h1, I1, J2⟩⟩, LW.un (T1.cg (J2 24 (by unfold SLaw; omega))) (by rw [J2 25 (by unfold SLaw; omega)]; exact L2)⟩
theorem LW_start {h : HI} (T : TT h 24 0 1 60) (e : h 77 9 = 1) : LW h := LW.un T ⟨[], by
  rw [e]
  exact .inr (.inl ⟨fun k hk => absurd hk (Nat.not_lt_zero k), fun q => absurd q.1 (by decide), rfl, by decide⟩), fun q => by rw [e] at q; exact absurd q (by decide)⟩
theorem VR_start {f : Nat → Int32} (fr : ∀ i, i < 12 → f (140 + i) = fam i) (zr : ∀ i, i < 140 ∨ 152 ≤ i → f i = 0) : VR f := by
  have z : ∀ k, k < 20 ∨ 140 ≤ k ∧ k < 152 ∨ 887 ≤ k ∨ (vg k).1 ≤ 0 ∧ 0 ≤ (vg k).2 := fun k => by
    have w : ∀ (c : Nat) (r : Nat → Int × Int) (n : Nat), (∀ c, c < n → (r c).1 ≤ 0 ∧ 0 ≤ (r c).2) → c < n → (r c).1 ≤ 0 ∧ 0 ≤ (r c).2 := fun c r n h hc => h c hc
    by_cases k1 : k < 20
    · exact .inl k1
    by_cases k2 : k < 140
    · obtain ⟨m, c, rfl, hm, hc⟩ : ∃ m c, k = 20 + 5 * m + c ∧ m < 24 ∧ c < 5 := ⟨(k - 20) / 5, (k - 20) % 5, by omega, by omega, by omega⟩
      rw [vg_P hm hc]; exact .inr (.inr (.inr ((by decide : ∀ c, c < 5 → (vP c).1 ≤ 0 ∧ 0 ≤ (vP c).2) c hc)))
    by_cases k3 : k < 152
    · exact .inr (.inl ⟨by omega, k3⟩)
    by_cases k4 : k < 512
    · obtain ⟨m, c, rfl, hm, hc⟩ : ∃ m c, k = 152 + 6 * m + c ∧ m < 60 ∧ c < 6 := ⟨(k - 152) / 6, (k - 152) % 6, by omega, by omega, by omega⟩
      rw [vg_S hm hc]; exact .inr (.inr (.inr ((by decide : ∀ c, c < 6 → (vS c).1 ≤ 0 ∧ 0 ≤ (vS c).2) c hc)))
    by_cases k5 : k < 672
    · obtain ⟨m, c, rfl, hm, hc⟩ : ∃ m c, k = 512 + 10 * m + c ∧ m < 16 ∧ c < 10 := ⟨(k - 512) / 10, (k - 512) % 10, by omega, by omega, by omega⟩
      rw [vg_C hm hc]; exact .inr (.inr (.inr ((by decide : ∀ c, c < 10 → (vC c).1 ≤ 0 ∧ 0 ≤ (vC c).2) c hc)))
    by_cases k6 : k < 704
    · obtain ⟨m, c, rfl, hm, hc⟩ : ∃ m c, k = 672 + 4 * m + c ∧ m < 8 ∧ c < 4 := ⟨(k - 672) / 4, (k - 672) % 4, by omega, by omega, by omega⟩
      rw [vg_W hm hc]; exact .inr (.inr (.inr ((by decide : ∀ c, c < 4 → (vW c).1 ≤ 0 ∧ 0 ≤ (vW c).2) c hc)))
    by_cases k7 : k < 710
    · obtain ⟨m, rfl, hm⟩ : ∃ m, k = 704 + m ∧ m < 6 := ⟨k - 704, by omega, by omega⟩
      rw [vg_M hm]; exact .inr (.inr (.inr (by decide)))
    by_cases k8 : k < 737
    · obtain ⟨m, c, rfl, hm, hc⟩ : ∃ m c, k = 710 + 3 * m + c ∧ m < 9 ∧ c < 3 := ⟨(k - 710) / 3, (k - 710) % 3, by omega, by omega, by omega⟩
      rw [vg_X hm hc]; exact .inr (.inr (.inr ((by decide : ∀ c, c < 3 → (vX c).1 ≤ 0 ∧ 0 ≤ (vX c).2) c hc)))
    by_cases k9 : k < 817
    · obtain ⟨m, c, rfl, hm, hc⟩ : ∃ m c, k = 737 + 2 * m + c ∧ m < 40 ∧ c < 2 := ⟨(k - 737) / 2, (k - 737) % 2, by omega, by omega, by omega⟩
      rw [vg_T hm hc]; exact .inr (.inr (.inr ((by decide : ∀ c, c < 2 → (vT c).1 ≤ 0 ∧ 0 ≤ (vT c).2) c hc)))
    by_cases k10 : k < 823
    · obtain ⟨m, c, rfl, hm, hc⟩ : ∃ m c, k = 817 + 2 * m + c ∧ m < 3 ∧ c < 2 := ⟨(k - 817) / 2, (k - 817) % 2, by omega, by omega, by omega⟩
      rw [vg_H hm hc]; exact .inr (.inr (.inr ((by decide : ∀ c, c < 2 → (vH c).1 ≤ 0 ∧ 0 ≤ (vH c).2) c hc)))
    by_cases k11 : k < 827
    · obtain ⟨m, rfl, hm⟩ : ∃ m, k = 823 + m ∧ m < 4 := ⟨k - 823, by omega, by omega⟩
      rw [vg_N hm]; exact .inr (.inr (.inr (by decide)))
    by_cases k12 : k < 887
    · obtain ⟨m, rfl, hm⟩ : ∃ m, k = 827 + m ∧ m < 60 := ⟨k - 827, by omega, by omega⟩
      rw [vg_Z hm]; exact .inr (.inr (.inr (by decide)))
    exact .inr (.inr (.inl (by omega)))
  refine ⟨fun k => ?_, fun j hj => ?_⟩
  · rcases z k with c | ⟨c, d⟩ | c | c
    · unfold okV; rw [vg_0 c]; exact bd_all _
    · obtain ⟨i, rfl⟩ : ∃ i, k = 140 + i := ⟨k - 140, by omega⟩
      unfold okV; rw [vg_F c d, fr i (by omega)]
      unfold fam bd
      by_cases q : i % 3 = 2
      · rw [if_pos q]; decide
      · rw [if_neg q]; decide
    · unfold okV; rw [vg_E c]; exact bd_all _
    · by_cases q : 140 ≤ k ∧ k < 152
      · obtain ⟨i, rfl⟩ : ∃ i, k = 140 + i := ⟨k - 140, by omega⟩
        unfold okV; rw [vg_F q.1 q.2, fr i (by omega)]
        unfold fam bd
        by_cases q : i % 3 = 2
        · rw [if_pos q]; decide
        · rw [if_neg q]; decide
      · unfold okV bd
        rw [zr k (by omega)]; exact c
  · rw [fr (3 * j) (by omega), show 140 + 3 * j + 2 = 140 + (3 * j + 2) by omega, fr (3 * j + 2) (by omega), show 140 + 3 * j + 1 = 140 + (3 * j + 1) by omega, fr (3 * j + 1) (by omega)]
    unfold fam
    rw [if_neg (by omega), if_pos (by omega), if_neg (by omega)]
    decide
theorem INV3_start {h1 h2 : HI} (a : (∀ s, isS s → ∀ j, j < 12 → TT h1 (s + (1 + 2 * j)) (m0 j) (wJ j) (MJ j)) ∧ h1 76 = (fun _ => 0) ∧ (∀ i, i < 12 → h1 5 i = fam i) ∧ (∀ i, i < 4 → h1 23 i = 0) ∧ (∀ i, i < 2 → h1 17 i = 0) ∧ h1 77 9 = 1) (b : (∀ o, o < 135 → h2 o = h1 o) ∧ RG (h2 136) ∧ (∀ i, i < 9 → h2 136 i = 0) ∧ h2 138 = (fun _ => 0) ∧ h2 147 0 = 0 ∧ h2 147 1 = 1 ∧ (∀ i, i < 12 → h2 136 (140 + i) = fam i) ∧ ∀ i, i < 140 ∨ 152 ≤ i → h2 136 i = 0) : INV3 h2 :=
  ⟨⟨INV_start a b, RL_start a b⟩, LW_start ((a.1 1 isS1 11 (by omega)).cg (b.1 24 (by omega))) (by rw [b.1 77 (by omega)]; exact a.2.2.2.2.2), VR_start b.2.2.2.2.2.2.1 b.2.2.2.2.2.2.2, fun i hi hn => by rw [b.2.2.2.1] at hn; exact absurd rfl hn⟩
end
section
-- 70.cx
/-! WHAT A QUESTION MAY REST ON: the class's tables against the reference's numbers f -/
def CX (h : HI) (f : Nat → Int32) : Prop := CN h 1 f ∧ RL1 h 1 f ∧ LW h ∧ VR f ∧ RG f
theorem CX.of {h : HI} (v : INV3 h) : CX h (h 136) := ⟨v.1.1.2.2.2.1, v.1.2.1, v.2.1, v.2.2.1, v.1.1.2.1⟩
theorem CX.jj {S : Nat → Prop} {h h' : HI} {f : Nat → Int32} (c : CX h f) (J : JJ S h h') (n : ∀ q, q ≤ 80 → ¬ S q) : CX h' f :=
  ⟨c.1.cg (fun o _ ho => J o (n o (by omega))) (fun _ _ => rfl), c.2.1.cg (fun o _ ho => J o (n o (by omega))) (fun _ _ => rfl), lw_jj c.2.2.1 J n, c.2.2.2⟩
theorem CX.tF {h : HI} {f : Nat → Int32} (c : CX h f) : TT h 4 4 3 4 := by
  obtain ⟨m, T, k⟩ := c.1 1 (by omega)
  have k : m = 4 := k
  subst k; exact T
theorem CX.tC {h : HI} {f : Nat → Int32} (c : CX h f) : ∃ m, TT h 8 m 15 16 ∧ f 2 = nI m := c.1 3 (by omega)
theorem CX.ci {h : HI} {f : Nat → Int32} (c : CX h f) {j : Nat} (hj : j < 12) {m : Nat} (T : TT h (1 + (1 + 2 * j)) m (wJ j) (MJ j)) : CE h 1 f j m := c.2.1.1 j m hj T.2.2.2.1 T.2.2.1
theorem CX.cp {h : HI} {f : Nat → Int32} (c : CX h f) {m p k : Nat} (T : TT h 2 m 5 24) (hp : p < m) (hk : k < 4) : h 3 (p * 5 + k) = f (20 + 5 * p + k) := by
  have := (CE.e0.mp (c.ci (j := 0) (by omega) T)).1 p hp k hk
  rw [show 20 + 5 * p + k = 20 + (p * 5 + k) by omega]; exact this
theorem CX.cf {h : HI} {f : Nat → Int32} (c : CX h f) {p k : Nat} (hp : p < 4) (hk : k < 3) : h 5 (p * 3 + k) = f (140 + 3 * p + k) := by
  have := (CE.es (by decide) (by decide)).mp (c.ci (j := 1) (by omega) c.tF) (p * 3 + k) (by show p * 3 + k < 4 * 3; omega)
  rw [show 140 + 3 * p + k = 140 + (p * 3 + k) by omega]; exact this
theorem CX.cs {h : HI} {f : Nat → Int32} (c : CX h f) {m p k : Nat} (T : TT h 6 m 6 60) (hp : p < m) (hk : k < 6) : h 7 (p * 6 + k) = f (152 + 6 * p + k) := by
  have := (CE.es (by decide) (by decide)).mp (c.ci (j := 2) (by omega) T) (p * 6 + k) (by show p * 6 + k < m * 6; omega)
  rw [show 152 + 6 * p + k = 152 + (p * 6 + k) by omega]; exact this
theorem CX.cz {h : HI} {f : Nat → Int32} (c : CX h f) {m k : Nat} (T : TT h 24 m 1 60) (hk : k < m) : h 25 k = f (827 + k) := by
  exact (CE.es (by decide) (by decide)).mp (c.ci (j := 11) (by omega) T) k (by show k < m * 1; omega)
theorem RG.z8 {f : Nat → Int32} (r : RG f) : ∃ n : Nat, n ≤ 60 ∧ f 8 = nI n := by
  obtain ⟨n, h1, -, e⟩ := bd_nI (r 8)
  have h1 : (n : Int) ≤ 60 := h1
  exact ⟨n, by omega, e⟩
/-- WORN of part a in the year y, by the reference's numbers -/
noncomputable def wvN (f : Nat → Int32) (a y : Nat) : Int32 := Classical.epsilon (fun v => ∃ (n b : Nat) (fl : Int32) (p : List Int32), f 8 = nI n ∧ n ≤ 60 ∧ f (20 + 5 * a + 2) = nI b ∧ b ≤ 99 ∧ RSl (fun k => f (827 + k)) n fl p ∧ v = wvl fl p (nI (y - b)) (f (20 + 5 * a + 0)) (f (20 + 5 * a + 1)))
/-! FAULT and WORN -/
/-- the answer of a question about a part and a year -/
def AWN (f : Nat → Int32) (m : Nat) (x1 x2 r : Int32) : Prop := (¬ (isRow (nI m) x1 ∧ bd 0 99 x2) ∧ r = -2) ∨ ∃ a y : Nat, a < m ∧ y ≤ 99 ∧ x1 = nI a ∧ x2 = nI y ∧ r = wvN f a y
theorem AWN.un {f : Nat → Int32} {m : Nat} (hm : m ≤ 24) {x1 x2 r s : Int32} (a : AWN f m x1 x2 r) (b : AWN f m x1 x2 s) : r = s := by
  rcases a with ⟨a1, rfl⟩ | ⟨p, y, hp, hy, rfl, rfl, rfl⟩
  · rcases b with ⟨-, rfl⟩ | ⟨p, y, hp, hy, rfl, rfl, -⟩
    · rfl
    · exact absurd ⟨row_of hp (by omega), bd_of (by omega) (by omega) (by omega)⟩ a1
  · rcases b with ⟨b1, -⟩ | ⟨p', y', hp', hy', e1, e2, rfl⟩
    · exact absurd ⟨row_of hp (by omega), bd_of (by omega) (by omega) (by omega)⟩ b1
    · have q1 : p = p' := (nI_eq (by omega) (by omega)).mp e1
      have q2 : y = y' := (nI_eq (by omega) (by omega)).mp e2
      rw [q1, q2]
end
section
-- 71.first
/-! NUMBERS WITH A SIGN -/
theorem i_sub {a b : Int32} {x y : Int} (ha : a.toInt = x) (hb : b.toInt = y) (h : -2147483648 ≤ x - y ∧ x - y < 2147483648) : (a - b).toInt = x - y := by
  rw [Int32.toInt_sub, ha, hb]; exact bm h.1 h.2
theorem i0 : (0 : Int32).toInt = 0 := by decide
theorem i1 : (1 : Int32).toInt = 1 := by decide
theorem im1 : (-1 : Int32).toInt = -1 := by decide
theorem nI_nm {j : Nat} (h : j < 2 ^ 31) : ¬ nI j = -1 := fun e => by
  have := nI_toInt h
  rw [e, im1] at this
  omega
/-! PLACES IN A FAMILY: the first not below a bound, the last not above it -/
/-! THE FAMILY of part p -/
def fB (f : Nat → Int32) (p : Nat) : Int := if f (20 + 5 * p + 3) = -1 then 1 else (f (140 + 3 * (f (20 + 5 * p + 3)).toNatClampNeg)).toInt
def fD (f : Nat → Int32) (p : Nat) : Int := if f (20 + 5 * p + 3) = -1 then 1 else (f (140 + 3 * (f (20 + 5 * p + 3)).toNatClampNeg + 1)).toInt
def fM (f : Nat → Int32) (p : Nat) : Int := if f (20 + 5 * p + 3) = -1 then 100000 else (f (140 + 3 * (f (20 + 5 * p + 3)).toNatClampNeg + 2)).toInt
theorem VR.fam {f : Nat → Int32} (v : VR f) {p : Nat} (hp : p < 24) : f (20 + 5 * p + 3) = -1 ∨ ∃ j : Nat, j < 4 ∧ f (20 + 5 * p + 3) = nI j := by
  have b : bd (-1) 3 (f (20 + 5 * p + 3)) := v.at (vg_P (c := 3) hp (by omega))
  by_cases q : f (20 + 5 * p + 3) = -1
  · exact .inl q
  · have : ¬ (f (20 + 5 * p + 3)).toInt = -1 := fun e => q (Int32.toInt_inj.mp (e.trans im1.symm))
    obtain ⟨j, h1, -, e⟩ := bd_nI (x := f (20 + 5 * p + 3)) (b := 3) ⟨by have := b.1; omega, b.2⟩
    exact .inr ⟨j, by omega, e⟩
def FOK (f : Nat → Int32) (p : Nat) : Prop := 1 ≤ fB f p ∧ 1 ≤ fD f p ∧ fD f p ≤ 100000 ∧ 1 ≤ fM f p ∧ fM f p ≤ 100000 ∧ fB f p + (fM f p - 1) * fD f p ≤ 100000
/-- a size of the family, by its place -/
theorem FOK.sz {f : Nat → Int32} {p : Nat} (k : FOK f p) {i : Int} (h0 : 0 ≤ i) (h1 : i ≤ fM f p - 1) : 1 ≤ fB f p + fD f p * i ∧ fB f p + fD f p * i ≤ 100000 ∧ 0 ≤ fD f p * i := by
  obtain ⟨a, b, -, c, -, e⟩ := k
  have m0 : 0 ≤ fD f p * i := Int.mul_nonneg (by omega) h0
  have m1 : fD f p * i ≤ fD f p * (fM f p - 1) := Int.mul_le_mul_of_nonneg_left h1 (by omega)
  rw [Int.mul_comm (fD f p) (fM f p - 1)] at m1
  omega
/-! SAYINGS -/
noncomputable def sW (f : Nat → Int32) (s : Nat) : Int := if f (152 + 6 * s + 1) = 0 then (wvN f (f (152 + 6 * s + 0)).toNatClampNeg (f (152 + 6 * s + 4)).toNatClampNeg).toInt else 0
noncomputable def sL (f : Nat → Int32) (s : Nat) : Int := (f (152 + 6 * s + 2)).toInt - (f (152 + 6 * s + 3)).toInt + sW f s
noncomputable def sH (f : Nat → Int32) (s : Nat) : Int := (f (152 + 6 * s + 2)).toInt + (f (152 + 6 * s + 3)).toInt + sW f s
/-- a saying allows a size -/
def alw (f : Nat → Int32) (s : Nat) (z : Int) : Prop := (¬ f (152 + 6 * s + 1) = 2 → sL f s ≤ z) ∧ (¬ f (152 + 6 * s + 1) = 3 → z ≤ sH f s)
abbrev isO (f : Nat → Int32) (p s : Nat) : Prop := f (152 + 6 * s + 0) = nI p ∧ f (152 + 6 * s + 5) = 0
theorem VR.sp {f : Nat → Int32} (v : VR f) {s : Nat} (hs : s < 60) : ∃ a y : Nat, a < 24 ∧ y ≤ 99 ∧ f (152 + 6 * s + 0) = nI a ∧ f (152 + 6 * s + 4) = nI y := by
  obtain ⟨a, h1, -, e1⟩ := bd_nI (v.at (vg_S (c := 0) hs (by omega)))
  obtain ⟨y, h2, -, e2⟩ := bd_nI (v.at (vg_S (c := 4) hs (by omega)))
  have h1 : (a : Int) ≤ 23 := h1
  have h2 : (y : Int) ≤ 99 := h2
  exact ⟨a, y, by omega, by omega, e1, e2⟩
/-- the sizes of p's family that all its sayings among the first n allow -/
def okZs (f : Nat → Int32) (p n : Nat) (z : Int) : Prop := ∀ s, s < n → isO f p s → alw f s z
def FSp (f : Nat → Int32) (p n : Nat) (a b : Int) : Prop := 0 ≤ a ∧ b ≤ fM f p - 1 ∧ ∀ i, 0 ≤ i → i ≤ fM f p - 1 → ((a ≤ i ∧ i ≤ b) ↔ okZs f p n (fB f p + fD f p * i))
def FA (f : Nat → Int32) (p n : Nat) (lo hi m : Int) : Prop := ∃ a b, FSp f p n a b ∧ m = (if b < a then 0 else b - a + 1) ∧ lo = (if b < a then -1 else fB f p + fD f p * a) ∧ hi = (if b < a then -1 else fB f p + fD f p * b)
theorem FA.un {f : Nat → Int32} {p n : Nat} {lo hi m lo' hi' m' : Int} (x : FA f p n lo hi m) (y : FA f p n lo' hi' m') : lo = lo' ∧ hi = hi' ∧ m = m' := by
  obtain ⟨a, b, ⟨a0, b0, k⟩, rfl, rfl, rfl⟩ := x
  obtain ⟨a', b', ⟨a0', b0', k'⟩, rfl, rfl, rfl⟩ := y
  by_cases c : b < a
  · by_cases c' : b' < a'
    · rw [if_pos c, if_pos c, if_pos c, if_pos c', if_pos c', if_pos c']; exact ⟨rfl, rfl, rfl⟩
    · have h1 := (k a' a0' (by omega)).mpr ((k' a' a0' (by omega)).mp (by omega))
      omega
  · by_cases c' : b' < a'
    · have h1 := (k' a a0 (by omega)).mpr ((k a a0 (by omega)).mp (by omega))
      omega
    · have h1 := (k a' a0' (by omega)).mpr ((k' a' a0' (by omega)).mp (by omega))
      have h2 := (k' a a0 (by omega)).mpr ((k a a0 (by omega)).mp (by omega))
      have h3 := (k b' (by omega) b0').mpr ((k' b' (by omega) b0').mp (by omega))
      have h4 := (k' b (by omega) b0).mpr ((k b (by omega) b0).mp (by omega))
      have e1 : a = a' := by omega
      have e2 : b = b' := by omega
      subst e1; subst e2
      exact ⟨rfl, rfl, rfl⟩
end
section
-- 79.t.a.sets
/-! TAKING: sets of spares, what is given -/
theorem or_two {i j : Nat} (h : i < 2 ^ j) : i ||| 2 ^ j = 2 ^ j + i := by
  have := Nat.two_pow_add_eq_or_of_lt h 1
  rw [Nat.mul_one] at this
  rw [this, Nat.or_comm]
theorem tb_or {i s u : Nat} : (i ||| 2 ^ s).testBit u = (i.testBit u || decide (s = u)) := by
  rw [Nat.testBit_or, Nat.testBit_two_pow]
theorem tb_hi {i j u : Nat} (h : i < 2 ^ j) (hu : j ≤ u) : i.testBit u = false := Nat.testBit_lt_two_pow (Nat.lt_of_lt_of_le h (Nat.pow_le_pow_right (by decide) hu))
theorem or_lt {i s S : Nat} (h : i < 2 ^ S) (hs : s < S) : i ||| 2 ^ s < 2 ^ S := Nat.or_lt_two_pow h (Nat.pow_lt_pow_right (by decide) hs)
/-- the years of a set, its first k spares; how many they are -/
def ysS (f : Nat → Int32) (z : Nat) : Nat → Nat
  | 0 => 0
  | k + 1 => ysS f z k + (if z.testBit k = true then (f (710 + 3 * k + 1)).toNatClampNeg else 0)
def pcN (z : Nat) : Nat → Nat
  | 0 => 0
  | k + 1 => pcN z k + (if z.testBit k = true then 1 else 0)
theorem ysS_cg {f : Nat → Int32} {z y : Nat} : ∀ {k : Nat}, (∀ s, s < k → z.testBit s = y.testBit s) → ysS f z k = ysS f y k
  | 0, _ => rfl
  | k + 1, e => by
    show ysS f z k + _ = ysS f y k + _
    rw [ysS_cg (fun s hs => e s (by omega)), e k (by omega)]
theorem ysS_lo {f : Nat → Int32} {z j : Nat} (h : z < 2 ^ j) : ysS f z (j + 1) = ysS f z j := by
  show ysS f z j + (if z.testBit j = true then _ else 0) = _
  rw [tb_hi h (Nat.le_refl j)]; rfl
theorem ysS_hi {f : Nat → Int32} {z j : Nat} (h : z < 2 ^ j) : ysS f (z ||| 2 ^ j) (j + 1) = ysS f z j + (f (710 + 3 * j + 1)).toNatClampNeg := by
  show ysS f (z ||| 2 ^ j) j + (if (z ||| 2 ^ j).testBit j = true then _ else 0) = _
  rw [ysS_cg (y := z) (fun s hs => by rw [tb_or, decide_eq_false (by omega), Bool.or_false]), tb_or, decide_eq_true rfl, Bool.or_true, if_pos rfl]
theorem pcN_or {z s : Nat} : ∀ {k : Nat}, pcN (z ||| 2 ^ s) k ≤ pcN z k + (if s < k then 1 else 0)
  | 0 => by show 0 ≤ 0 + _; omega
  | k + 1 => by
    have ih := pcN_or (z := z) (s := s) (k := k)
    show pcN (z ||| 2 ^ s) k + (if (z ||| 2 ^ s).testBit k = true then 1 else 0) ≤ pcN z k + (if z.testBit k = true then 1 else 0) + _
    rw [tb_or]
    by_cases c : s = k
    · subst c
      rw [if_neg (Nat.lt_irrefl s)] at ih
      rw [if_pos (Nat.lt_succ_self s)]
      have : (if (z.testBit s || decide (s = s)) = true then 1 else 0) ≤ 1 := by split <;> omega
      omega
    · rw [decide_eq_false c, Bool.or_false]
      by_cases d : s < k
      · rw [if_pos d] at ih
        rw [if_pos (show s < k + 1 by omega)]; omega
      · rw [if_neg d] at ih
        rw [if_neg (show ¬ s < k + 1 by omega)]; omega
theorem pcN_cg {z : Nat} : ∀ {k S : Nat}, z < 2 ^ S → S ≤ k → pcN z k = pcN z S
  | 0, S, _, h => by rw [show S = 0 by omega]
  | k + 1, S, hz, h => by
    by_cases e : S = k + 1
    · rw [e]
    · show pcN z k + (if z.testBit k = true then 1 else 0) = _
      rw [tb_hi hz (by omega), pcN_cg hz (by omega)]; rfl
/-- a pair is given in part -/
def brk (f : Nat → Int32) (S z : Nat) : Prop := ∃ s u, s < S ∧ u < S ∧ z.testBit s = true ∧ z.testBit u = false ∧ f (710 + 3 * s + 2) = f (710 + 3 * u + 2) ∧ ¬ f (710 + 3 * s + 2) = -1
noncomputable def yrV (f : Nat → Int32) (S z : Nat) : Int32 := @ite _ (brk f S z) (Classical.propDecidable _) (-1) (nI (ysS f z S))
theorem yrV_b {f : Nat → Int32} {S z : Nat} (h : brk f S z) : yrV f S z = -1 := if_pos h
theorem yrV_n {f : Nat → Int32} {S z : Nat} (h : ¬ brk f S z) : yrV f S z = nI (ysS f z S) := if_neg h
/-- what machine m may get where z is given: 0 none, s + 1 the spare s -/
def okG (f : Nat → Int32) (S m z g : Nat) : Prop := g = 0 ∨ ∃ s, g = s + 1 ∧ s < S ∧ f (710 + 3 * s) = f (704 + m) ∧ z.testBit s = false
def stG (z : Nat) : Nat → Nat
  | 0 => z
  | s + 1 => z ||| 2 ^ s
def VlG (f : Nat → Int32) (S : Nat) : Nat → Nat → List Nat → Prop
  | _, _, [] => True
  | m, z, g :: l => okG f S m z g ∧ VlG f S (m + 1) (stG z g) l
def FnG : Nat → List Nat → Nat
  | z, [] => z
  | z, g :: l => FnG (stG z g) l
theorem stG_lt {f : Nat → Int32} {S m z g : Nat} (h : okG f S m z g) (hz : z < 2 ^ S) : stG z g < 2 ^ S := by
  rcases h with rfl | ⟨s, rfl, hs, -⟩
  · exact hz
  · exact or_lt hz hs
theorem okG_le {f : Nat → Int32} {S m z g : Nat} (h : okG f S m z g) : g ≤ S := by
  rcases h with rfl | ⟨s, rfl, hs, -⟩
  · omega
  · omega
theorem VlG.app {f : Nat → Int32} {S : Nat} : ∀ {p d : List Nat} {m z : Nat}, VlG f S m z (p ++ d) ↔ VlG f S m z p ∧ VlG f S (m + p.length) (FnG z p) d
  | [], d, m, z => ⟨fun x => ⟨trivial, x⟩, fun x => x.2⟩
  | g :: p, d, m, z => by
    show okG f S m z g ∧ VlG f S (m + 1) (stG z g) (p ++ d) ↔ (okG f S m z g ∧ VlG f S (m + 1) (stG z g) p) ∧ VlG f S (m + (p.length + 1)) (FnG (stG z g) p) d
    rw [VlG.app (p := p), show m + 1 + p.length = m + (p.length + 1) by omega]
    exact ⟨fun ⟨a, b, c⟩ => ⟨⟨a, b⟩, c⟩, fun ⟨⟨a, b⟩, c⟩ => ⟨a, b, c⟩⟩
theorem FnG.app : ∀ {p d : List Nat} {z : Nat}, FnG z (p ++ d) = FnG (FnG z p) d
  | [], _, _ => rfl
  | g :: p, d, z => FnG.app (p := p)
theorem FnG.lt {f : Nat → Int32} {S : Nat} : ∀ {l : List Nat} {m z : Nat}, VlG f S m z l → z < 2 ^ S → FnG z l < 2 ^ S
  | [], _, _, _, hz => hz
  | g :: l, m, z, ⟨a, b⟩, hz => (show FnG (stG z g) l < 2 ^ S from FnG.lt b (stG_lt a hz))
/-- the most that can come of machine m where z is given -/
def IsMx (f : Nat → Int32) (S M m z : Nat) (v : Int32) : Prop := (∃ l : List Nat, m + l.length = M ∧ VlG f S m z l ∧ yrV f S (FnG z l) = v) ∧ ∀ l : List Nat, m + l.length = M → VlG f S m z l → yrV f S (FnG z l) ≤ v
theorem IsMx.un {f : Nat → Int32} {S M m z : Nat} {v u : Int32} (a : IsMx f S M m z v) (b : IsMx f S M m z u) : v = u := by
  obtain ⟨⟨l, l1, l2, l3⟩, a2⟩ := a
  obtain ⟨⟨k, k1, k2, k3⟩, b2⟩ := b
  have h1 := b2 l l1 l2
  have h2 := a2 k k1 k2
  rw [l3] at h1; rw [k3] at h2
  exact Int32.le_antisymm h1 h2
theorem IsMx.nil {f : Nat → Int32} {S M z : Nat} : IsMx f S M M z (yrV f S z) := by
  refine ⟨⟨[], rfl, trivial, rfl⟩, fun l hl _ => ?_⟩
  match l, hl with
  | [], _ => exact Int32.le_refl _
  | _ :: l, hl =>
    have hl : M + (l.length + 1) = M := hl
    omega
/-- the most, where machine m gets one below k -/
def MxK (f : Nat → Int32) (S M m z k : Nat) (v : Int32) : Prop := (∃ (g : Nat) (l : List Nat), g < k ∧ m + 1 + l.length = M ∧ VlG f S m z (g :: l) ∧ yrV f S (FnG z (g :: l)) = v) ∧ ∀ (g : Nat) (l : List Nat), g < k → m + 1 + l.length = M → VlG f S m z (g :: l) → yrV f S (FnG z (g :: l)) ≤ v
theorem MxK.one {f : Nat → Int32} {S M m z : Nat} {v : Int32} (a : IsMx f S M (m + 1) z v) : MxK f S M m z 1 v := by
  obtain ⟨⟨l, l1, l2, l3⟩, a2⟩ := a
  refine ⟨⟨0, l, by omega, l1, ⟨.inl rfl, l2⟩, l3⟩, fun g l hg hl x => ?_⟩
  have : g = 0 := by omega
  subst this
  exact a2 l hl x.2
theorem MxK.no {f : Nat → Int32} {S M m z k : Nat} {v : Int32} (a : MxK f S M m z k v) (n : ¬ okG f S m z k) : MxK f S M m z (k + 1) v := by
  obtain ⟨⟨g, l, g1, l1, l2, l3⟩, a2⟩ := a
  refine ⟨⟨g, l, by omega, l1, l2, l3⟩, fun g l hg hl x => ?_⟩
  by_cases e : g = k
  · subst e; exact absurd x.1 n
  · exact a2 g l (by omega) hl x
theorem MxK.up {f : Nat → Int32} {S M m z k : Nat} {v u : Int32} (a : MxK f S M m z k v) (o : okG f S m z k) (b : IsMx f S M (m + 1) (stG z k) u) : MxK f S M m z (k + 1) (if v < u then u else v) := by
  obtain ⟨⟨g, l, g1, l1, l2, l3⟩, a2⟩ := a
  obtain ⟨⟨d, d1, d2, d3⟩, b2⟩ := b
  by_cases c : v < u
  · rw [if_pos c]
    refine ⟨⟨k, d, by omega, d1, ⟨o, d2⟩, d3⟩, fun g l hg hl x => ?_⟩
    by_cases e : g = k
    · subst e; exact b2 l hl x.2
    · exact Int32.le_trans (a2 g l (by omega) hl x) (Int32.le_of_lt c)
  · rw [if_neg c]
    refine ⟨⟨g, l, by omega, l1, l2, l3⟩, fun g l hg hl x => ?_⟩
    by_cases e : g = k
    · subst e; exact Int32.le_trans (b2 l hl x.2) (Int32.not_lt.mp c)
    · exact a2 g l (by omega) hl x
theorem MxK.fin {f : Nat → Int32} {S M m z : Nat} {v : Int32} (hm : m < M) (a : MxK f S M m z (S + 1) v) : IsMx f S M m z v := by
  obtain ⟨⟨g, l, g1, l1, l2, l3⟩, a2⟩ := a
  refine ⟨⟨g :: l, by show m + (l.length + 1) = M; omega, l2, l3⟩, fun l hl x => ?_⟩
  match l, hl, x with
  | [], hl, _ => exact absurd hl (by show ¬ m + 0 = M; omega)
  | g :: l, hl, x =>
    have hl : m + (l.length + 1) = M := hl
    have := okG_le x.1
    exact a2 g l (by omega) (by omega) x
/-- before, in the order of the search -/
def LXq : List Nat → List Nat → Prop
  | [], _ => False
  | b :: q, l => match l with
    | [] => False
    | a :: l => a < b ∨ (a = b ∧ LXq q l)
abbrev LX (l q : List Nat) : Prop := LXq q l
theorem LX.as : ∀ {l q : List Nat}, LX l q → ¬ LX q l
  | _, [], h, _ => h
  | [], _ :: _, h, _ => h
  | a :: l, b :: q, h, k => by
    rcases h with h | ⟨h, h'⟩
    · rcases k with k | ⟨k, k'⟩
      · omega
      · omega
    · rcases k with k | ⟨k, k'⟩
      · omega
      · exact LX.as h' k'
theorem LX.app : ∀ {p a b : List Nat}, LX (p ++ a) (p ++ b) ↔ LX a b
  | [], _, _ => Iff.rfl
  | x :: p, a, b => by
    show (x < x ∨ (x = x ∧ LX (p ++ a) (p ++ b))) ↔ _
    rw [LX.app (p := p)]
    exact ⟨fun h => h.elim (fun q => absurd q (Nat.lt_irrefl x)) (fun q => q.2), fun h => .inr ⟨rfl, h⟩⟩
/-- THE best from machine m on where z is given: the most years, the first in the order of the search -/
def TKp (f : Nat → Int32) (S M m z : Nat) (l : List Nat) : Prop := m + l.length = M ∧ VlG f S m z l ∧ ∀ k : List Nat, m + k.length = M → VlG f S m z k → yrV f S (FnG z k) < yrV f S (FnG z l) ∨ (yrV f S (FnG z k) = yrV f S (FnG z l) ∧ (k = l ∨ LX l k))
def TKG (f : Nat → Int32) (S M : Nat) (l : List Nat) : Prop := TKp f S M 0 0 l
theorem TKp.ex {f : Nat → Int32} {S M : Nat} : ∀ (n m z : Nat), m + n = M → ∃ l, TKp f S M m z l
  | 0, m, z, e => ⟨[], e, trivial, fun k ek _ => by
    have : k = [] := List.eq_nil_of_length_eq_zero (by omega)
    subst this
    exact .inr ⟨rfl, .inl rfl⟩⟩
  | n + 1, m, z, e => by
    have step : ∀ k, ∃ (g : Nat) (l : List Nat), g < k + 1 ∧ m + 1 + l.length = M ∧ VlG f S m z (g :: l) ∧ ∀ (a : Nat) (q : List Nat), a < k + 1 → m + 1 + q.length = M → VlG f S m z (a :: q) → yrV f S (FnG z (a :: q)) < yrV f S (FnG z (g :: l)) ∨ (yrV f S (FnG z (a :: q)) = yrV f S (FnG z (g :: l)) ∧ (a :: q = g :: l ∨ LX (g :: l) (a :: q))) := by
      have one : ∀ g, okG f S m z g → ∃ l : List Nat, m + 1 + l.length = M ∧ VlG f S m z (g :: l) ∧ ∀ q : List Nat, m + 1 + q.length = M → VlG f S m z (g :: q) → yrV f S (FnG z (g :: q)) < yrV f S (FnG z (g :: l)) ∨ (yrV f S (FnG z (g :: q)) = yrV f S (FnG z (g :: l)) ∧ (g :: q = g :: l ∨ LX (g :: l) (g :: q))) := fun g o => by
        obtain ⟨l, l1, l2, l3⟩ := TKp.ex (f := f) (S := S) (M := M) n (m + 1) (stG z g) (by omega)
        refine ⟨l, l1, ⟨o, l2⟩, fun q eq vq => (l3 q eq vq.2).imp id (fun x => ⟨x.1, x.2.imp (fun y => by rw [y]) (fun y => .inr ⟨rfl, y⟩)⟩)⟩
      intro k
      induction k with
      | zero =>
        obtain ⟨l, l1, l2, l3⟩ := one 0 (.inl rfl)
        refine ⟨0, l, by omega, l1, l2, fun a q ha eq vq => ?_⟩
        have : a = 0 := by omega
        subst this
        exact l3 q eq vq
      | succ k ih =>
        obtain ⟨g, l, g1, l1, l2, l3⟩ := ih
        by_cases o : okG f S m z (k + 1)
        · obtain ⟨d, d1, d2, d3⟩ := one (k + 1) o
          by_cases c : yrV f S (FnG z (g :: l)) < yrV f S (FnG z ((k + 1) :: d))
          · refine ⟨k + 1, d, by omega, d1, d2, fun a q ha eq vq => ?_⟩
            by_cases ea : a = k + 1
            · subst ea; exact d3 q eq vq
            · rcases l3 a q (by omega) eq vq with h | h
              · exact .inl (Int32.lt_trans h c)
              · rw [h.1]; exact .inl c
          · refine ⟨g, l, by omega, l1, l2, fun a q ha eq vq => ?_⟩
            by_cases ea : a = k + 1
            · subst ea
              have h := d3 q eq vq
              rw [Int32.lt_iff_toInt_lt] at c
              rw [Int32.lt_iff_toInt_lt, ← Int32.toInt_inj] at h ⊢
              by_cases r : (yrV f S (FnG z ((k + 1) :: q))).toInt < (yrV f S (FnG z (g :: l))).toInt
              · exact .inl r
              · exact .inr ⟨by omega, .inr (.inl (by omega))⟩
            · exact l3 a q (by omega) eq vq
        · refine ⟨g, l, by omega, l1, l2, fun a q ha eq vq => ?_⟩
          by_cases ea : a = k + 1
          · subst ea; exact absurd vq.1 o
          · exact l3 a q (by omega) eq vq
    obtain ⟨g, l, g1, l1, l2, l3⟩ := step S
    refine ⟨g :: l, by show m + (l.length + 1) = M; omega, l2, fun k ek vk => ?_⟩
    match k, ek, vk with
    | [], ek, _ => exact absurd ek (by show ¬ m + 0 = M; omega)
    | a :: q, ek, vk =>
      have ek : m + (q.length + 1) = M := ek
      have := okG_le vk.1
      exact l3 a q (by omega) (by omega) vk
theorem TKG.un {f : Nat → Int32} {S M : Nat} {l k : List Nat} (a : TKG f S M l) (b : TKG f S M k) : l = k := by
  unfold TKG at a b
  rcases a.2.2 k b.1 b.2.1 with h | ⟨h, h'⟩
  · rcases b.2.2 l a.1 a.2.1 with q | ⟨q, q'⟩
    · exact absurd (Int32.lt_trans h q) (Int32.lt_irrefl)
    · rw [q] at h; exact absurd h Int32.lt_irrefl
  · rcases h' with h' | h'
    · exact h'.symm
    · rcases b.2.2 l a.1 a.2.1 with q | ⟨q, q'⟩
      · rw [h] at q; exact absurd q Int32.lt_irrefl
      · rcases q' with q' | q'
        · exact q'
        · exact absurd h' (LX.as q')
def ATK (f : Nat → Int32) (S M : Nat) (x r : Int32) : Prop := (¬ x = -1 ∧ ¬ isRow (nI M) x ∧ r = -10) ∨ (x = -1 ∧ ∀ l, TKG f S M l → r = yrV f S (FnG 0 l)) ∨ ∃ i, i < M ∧ x = nI i ∧ ∀ l, TKG f S M l → r = nI (l.getD i 0) - 1
theorem ATK.un {f : Nat → Int32} {S M : Nat} (hM : M ≤ 6) (e : ∃ l, TKG f S M l) {x r s : Int32} (a : ATK f S M x r) (b : ATK f S M x s) : r = s := by
  obtain ⟨l, tl⟩ := e
  have nr : ∀ i, i < M → x = nI i → isRow (nI M) x := fun i hi ex => by
    rw [ex]; unfold isRow; rw [nI_toInt (by omega), nI_toInt (by omega)]; omega
  rcases a with ⟨a1, a2, a3⟩ | ⟨a1, a2⟩ | ⟨i, i1, i2, i3⟩
  · rcases b with ⟨b1, b2, b3⟩ | ⟨b1, b2⟩ | ⟨j, j1, j2, j3⟩
    · rw [a3, b3]
    · exact absurd b1 a1
    · exact absurd (nr j j1 j2) a2
  · rcases b with ⟨b1, b2, b3⟩ | ⟨b1, b2⟩ | ⟨j, j1, j2, j3⟩
    · exact absurd a1 b1
    · rw [a2 l tl, b2 l tl]
    · exact absurd (j2.symm.trans a1) (nI_nm (by omega))
  · rcases b with ⟨b1, b2, b3⟩ | ⟨b1, b2⟩ | ⟨j, j1, j2, j3⟩
    · exact absurd (nr i i1 i2) b2
    · exact absurd (i2.symm.trans b1) (nI_nm (by omega))
    · have : i = j := (nI_eq (by omega) (by omega)).mp (i2.symm.trans j2)
      subst this
      rw [i3 l tl, j3 l tl]
end
section
-- 79.t.b.gather
/-! TAKING: what the class gathers -/
def STb (h : HI) (f : Nat → Int32) (M S : Nat) : Prop := TT h 12 M 1 6 ∧ (∀ m, m < M → h 13 m = f (704 + m)) ∧ TT h 14 S 3 9 ∧ ∀ s k, s < S → k < 3 → h 15 (s * 3 + k) = f (710 + 3 * s + k)
theorem STb.jj {R : Nat → Prop} {h h' : HI} {f : Nat → Int32} {M S : Nat} (T : STb h f M S) (J : JJ R h h') (n : ∀ q, q ≤ 80 → ¬ R q) : STb h' f M S := by
  refine ⟨T.1.cg (J 12 (n 12 (by omega))), fun m hm => ?_, T.2.2.1.cg (J 14 (n 14 (by omega))), fun s k hs hk => ?_⟩
  · rw [J 13 (n 13 (by omega))]; exact T.2.1 m hm
  · rw [J 15 (n 15 (by omega))]; exact T.2.2.2 s k hs hk
theorem CX.st {h : HI} {f : Nat → Int32} (c : CX h f) : ∃ M S, STb h f M S ∧ M ≤ 6 ∧ S ≤ 9 ∧ f 4 = nI M ∧ f 5 = nI S := by
  obtain ⟨M, T, k⟩ : ∃ m, TT h 12 m 1 6 ∧ f 4 = nI m := c.1 5 (by omega)
  obtain ⟨S, U, l⟩ : ∃ m, TT h 14 m 3 9 ∧ f 5 = nI m := c.1 6 (by omega)
  refine ⟨M, S, ⟨T, fun m hm => ?_, U, fun s k hs hk => ?_⟩, T.2.2.2.1, U.2.2.2.1, k, l⟩
  · exact (CE.es (by decide) (by decide)).mp (c.ci (j := 5) (by omega) T) m (by show m < M * 1; omega)
  · have := (CE.es (by decide) (by decide)).mp (c.ci (j := 6) (by omega) U) (s * 3 + k) (by show s * 3 + k < S * 3; omega)
    rw [show 710 + 3 * s + k = 710 + (s * 3 + k) by omega]; exact this
theorem c_mc {h : HI} {g : HL} {f : Nat → Int32} {M S m : Nat} (T : STb h f M S) (hm : m < M) {body : Int32 → HI → HL → Prop} (b : body (f (704 + m)) h g) : ∃ P : Int32 → HI → HL → Prop, w_X8_at 12 (nI m) (0 : Int32) h g P ∧ ∀ (r : Int32) (h : HI) (g : HL), P r h g → body r h g := by
  refine c_i (p_atT T.1) ?_
  rintro _ _ _ ⟨rfl, rfl, rfl⟩
  rw [show tat h 12 (nI m) (0 : Int32) = h 13 (m * 1 + 0) from tat_nI T.1 (b := 0) hm (by omega), Nat.mul_one, Nat.add_zero, T.2.1 m hm]; exact b
theorem c_sp {h : HI} {g : HL} {f : Nat → Int32} {M S s k : Nat} (T : STb h f M S) (hs : s < S) (hk : k < 3) {body : Int32 → HI → HL → Prop} (b : body (f (710 + 3 * s + k)) h g) : ∃ P : Int32 → HI → HL → Prop, w_X8_at 14 (nI s) (nI k) h g P ∧ ∀ (r : Int32) (h : HI) (g : HL), P r h g → body r h g := by
  refine c_i (p_atT T.2.2.1) ?_
  rintro _ _ _ ⟨rfl, rfl, rfl⟩
  rw [tat_nI T.2.2.1 hs hk, T.2.2.2 s k hs hk]; exact b
theorem VR.mc {f : Nat → Int32} (v : VR f) {m : Nat} (hm : m < 6) : ∃ k : Nat, k < 4 ∧ f (704 + m) = nI k := by
  have := v.1 (704 + m)
  unfold okV at this
  rw [vg_M hm] at this
  obtain ⟨k, k1, k2, e⟩ := bd_nI this
  exact ⟨k, by omega, e⟩
theorem VR.sp3 {f : Nat → Int32} (v : VR f) {s : Nat} (hs : s < 9) : (∃ k : Nat, k < 4 ∧ f (710 + 3 * s) = nI k) ∧ (∃ y : Nat, y ≤ 50 ∧ f (710 + 3 * s + 1) = nI y) ∧ (f (710 + 3 * s + 2) = -1 ∨ ∃ k : Nat, k < 4 ∧ f (710 + 3 * s + 2) = nI k) := by
  have e : ∀ c, c < 3 → bd (vX c).1 (vX c).2 (f (710 + 3 * s + c)) := fun c hc => by
    have := v.1 (710 + 3 * s + c)
    unfold okV at this
    rw [vg_X hs hc] at this; exact this
  refine ⟨?_, ?_, ?_⟩
  · obtain ⟨k, k1, k2, e⟩ := bd_nI ((e 0 (by omega)).mo (c := 0) (d := 3) (by decide) (by decide))
    exact ⟨k, by omega, e⟩
  · obtain ⟨k, k1, k2, e⟩ := bd_nI ((e 1 (by omega)).mo (c := 0) (d := 50) (by decide) (by decide))
    exact ⟨k, by omega, e⟩
  · have h := (e 2 (by omega)).mo (c := -1) (d := 3) (by decide) (by decide)
    by_cases q : f (710 + 3 * s + 2) = -1
    · exact .inl q
    · right
      have n1 : ¬ (f (710 + 3 * s + 2)).toInt = -1 := fun e => q (Int32.toInt_inj.mp (e.trans im1.symm))
      unfold bd at h
      obtain ⟨k, k1, k2, e⟩ := bd_nI (b := 3) (x := f (710 + 3 * s + 2)) ⟨by omega, h.2⟩
      exact ⟨k, by omega, e⟩
/-- the mask of the spares below S whose number c is k -/
def MSK (f : Nat → Int32) (S c k : Nat) (x : Int32) : Prop := ∃ K, K < 2 ^ S ∧ x = nI K ∧ ∀ s, K.testBit s = true ↔ s < S ∧ f (710 + 3 * s + c) = nI k
theorem MSK.zero {f : Nat → Int32} {c k : Nat} : MSK f 0 c k 0 := ⟨0, by decide, nI_0.symm, fun s => ⟨fun h => by rw [Nat.zero_testBit] at h; exact absurd h (by decide), fun h => absurd h.1 (Nat.not_lt_zero s)⟩⟩
theorem MSK.yes {f : Nat → Int32} {S c k : Nat} {x : Int32} (m : MSK f S c k x) (e : f (710 + 3 * S + c) = nI k) : MSK f (S + 1) c k (x ||| nI (2 ^ S)) := by
  obtain ⟨K, k1, rfl, k2⟩ := m
  refine ⟨K ||| 2 ^ S, or_lt (Nat.lt_of_lt_of_le k1 (Nat.pow_le_pow_right (by decide) (by omega))) (by omega), nI_or _ _, fun s => ?_⟩
  rw [tb_or]
  by_cases q : S = s
  · subst q
    rw [decide_eq_true rfl, Bool.or_true]
    exact ⟨fun _ => ⟨by omega, e⟩, fun _ => rfl⟩
  · rw [decide_eq_false q, Bool.or_false, k2 s]
    exact ⟨fun h => ⟨by omega, h.2⟩, fun h => ⟨by omega, h.2⟩⟩
theorem MSK.no {f : Nat → Int32} {S c k : Nat} {x : Int32} (m : MSK f S c k x) (e : ¬ f (710 + 3 * S + c) = nI k) : MSK f (S + 1) c k x := by
  obtain ⟨K, k1, rfl, k2⟩ := m
  refine ⟨K, Nat.lt_of_lt_of_le k1 (Nat.pow_le_pow_right (by decide) (by omega)), rfl, fun s => ?_⟩
  rw [k2 s]
  exact ⟨fun h => ⟨by omega, h.2⟩, fun h => ⟨by
    have : s ≠ S := fun q => e (by rw [← q]; exact h.2)
    omega, h.2⟩⟩
def SGa (q : Nat) : Prop := q = 97 ∨ 106 ≤ q ∧ q ≤ 108
def GA (h : HI) (f : Nat → Int32) (S : Nat) : Prop := h 97 5 = nI S ∧ (∀ k, k < 4 → MSK f S 0 k (h 107 k)) ∧ (∀ k, k < 4 → MSK f S 2 k (h 108 k)) ∧ ∀ z, z < 2 ^ S → h 106 z = nI (ysS f z S)
theorem GA.cg {h h' : HI} {f : Nat → Int32} {S : Nat} (a : GA h f S) (e7 : h' 97 = h 97) (e6 : h' 106 = h 106) (ek : h' 107 = h 107) (ep : h' 108 = h 108) : GA h' f S := by
  unfold GA
  rw [e7, e6, ek, ep]; exact a
theorem nI_in3 {k : Nat} (h : k < 4) : bd (0 : Int32).toInt ((4 : Int32) - (1 : Int32)).toInt (nI k) := (bd_of (n := k) (a := 0) (b := 3) (by omega) (by omega) (by omega)).mo (by decide) (by decide)
theorem q_X3_gatherSpares {h : HI} {g : HL} {f : Nat → Int32} {M S : Nat} (hC : CI h) (v : VR f) (T : STb h f M S) (hS : S ≤ 9) : w_X3_gatherSpares h g (fun h' _ => JJ SGa h h' ∧ GA h' f S) := by
  have nn : ∀ q, q ≤ 80 → ¬ SGa q := fun q hq => by unfold SGa; omega
  have p9 : ∀ j, j ≤ 9 → 2 ^ j ≤ 512 := fun j hj => (Nat.pow_le_pow_right (by decide) hj : 2 ^ j ≤ 2 ^ 9)
  unfold w_X3_gatherSpares
  refine c_i p_rows ?_
  rintro _ _ _ ⟨rfl, rfl, rfl⟩
  rw [T.2.2.1.2.2.1, show (if nI S < (9 : Int32) then nI S else (9 : Int32)) = nI S by
    by_cases c : S = 9
    · subst c; decide
    · exact if_pos ((nI_ltI (a := S) (b := 9) (by omega) (by omega)).mpr (by omega))]
  intro h1 e1
  have J1 : JJ SGa h h1 := JJ.rf.hu e1 (.inl rfl)
  refine c_v (p_J7_fill_53178 (hC.jj J1 (fun q hq => nn q (by omega))) (o0 := 107) (by decide +kernel)) ?_
  rintro h2 g2 ⟨J2, z2⟩
  have J2' : JJ SGa h h2 := J1.tr (J2.mo (fun q hq => by unfold SO at hq; unfold SGa; omega))
  refine c_v (p_J7_fill_53178 (hC.jj J2' (fun q hq => nn q (by omega))) (o0 := 108) (by decide +kernel)) ?_
  rintro h3 g3 ⟨J3, z3⟩
  have J3' : JJ SGa h h3 := J2'.tr (J3.mo (fun q hq => by unfold SO at hq; unfold SGa; omega))
  refine and_have (vp_in_iff.mpr (by decide)) (fun _ => ?_)
  intro h4 e4
  have J4 : JJ SGa h h4 := J3'.hu e4 (.inr (by omega))
  have f97 : h4 97 5 = nI S := by rw [e4, hu_ne (by decide), J3 97 (by unfold SO; omega), J2 97 (by unfold SO; omega), e1, hu_eq, pk_us]
  refine lpE_intro (fun ⟨a_q, h_q, _⟩ => ∃ j : Nat, j ≤ S ∧ nI j = a_q ∧ JJ SGa h h_q ∧ h_q 97 5 = nI S ∧ (∀ k, k < 4 → MSK f j 0 k (h_q 107 k)) ∧ (∀ k, k < 4 → MSK f j 2 k (h_q 108 k)) ∧ ∀ z, z < 2 ^ j → h_q 106 z = nI (ysS f z j)) (fun ⟨a_q, _, _⟩ => dif (nI S) a_q) ?_ _ ⟨0, by omega, nI_0, J4, f97, fun k hk => ?_, fun k hk => ?_, fun z hz => ?_⟩
  · rintro ⟨y1, h5, g5⟩ K ⟨j, hj, rfl, J5, e97, kk, pp, yy⟩ hK
    unfold F_X3_gatherSpares_44; dsimp only; unfold b_X3_gatherSpares_44
    rw [e97]
    refine ⟨fun c => ?_, fun c => ?_⟩
    · rw [nI_leI (by omega) (by omega)] at c
      have : j = S := by omega
      subst this
      exact ⟨J5, e97, kk, pp, yy⟩
    have hd := dif_lt c
    rw [nI_leI (by omega) (by omega)] at c
    have T5 := T.jj J5 nn
    have hp := p9 j (by omega)
    rw [shl_t j (by omega)]
    rintro _ rfl
    refine c_sp (k := 0) T5 (by omega) (by omega) ?_
    refine c_sp (k := 2) T5 (by omega) (by omega) ?_
    obtain ⟨⟨kd, kd4, ek⟩, ⟨y, y50, ey⟩, ep⟩ := v.sp3 (s := j) (by omega)
    rw [Nat.add_zero, ek]
    -- years
    have fin : ∀ (h6 : HI) (g6 : HL), JJ SGa h h6 → h6 97 5 = nI S → (∀ k, k < 4 → MSK f (j + 1) 0 k (h6 107 k)) → (∀ k, k < 4 → MSK f (j + 1) 2 k (h6 108 k)) → (∀ z, z < 2 ^ j → h6 106 z = nI (ysS f z j)) → j_X3_gatherSpares_135 (fun h' _ => JJ SGa h h' ∧ GA h' f S) (fun x1 h g => K (x1, h, g)) (nI j) (nI (2 ^ j)) h6 g6 := by
      intro h6 g6 J6 e97' kk6 pp6 yy6
      unfold j_X3_gatherSpares_135
      refine c_sp (k := 1) (T.jj J6 nn) (by omega) (by omega) ?_
      rw [ey]
      refine lpE_intro (fun ⟨a_q, b_q, c_q, d_q, h_q, _⟩ => ∃ i : Nat, i ≤ 2 ^ j ∧ nI j = a_q ∧ nI (2 ^ j) = b_q ∧ nI y = c_q ∧ nI i = d_q ∧ JJ (SO 106) h6 h_q ∧ (∀ z, z < 2 ^ j → h_q 106 z = nI (ysS f z j)) ∧ ∀ z, z < i → h_q 106 (z ||| 2 ^ j) = nI (ysS f z j + y)) (fun ⟨_, _, _, d_q, _, _⟩ => dif (nI (2 ^ j)) d_q) ?_ _ ⟨0, Nat.zero_le _, rfl, rfl, rfl, nI_0, JJ.rf, yy6, fun z hz => absurd hz (Nat.not_lt_zero z)⟩
      rintro ⟨z1, z2, z3, z4, h7, g7⟩ K2 ⟨i, hi, rfl, rfl, rfl, rfl, J7, lo, up⟩ hK2
      unfold F_X3_gatherSpares_152; dsimp only; unfold b_X3_gatherSpares_152
      refine ⟨fun ci => ?_, fun ci => ?_⟩
      · rw [nI_leI (by omega) (by omega)] at ci
        have : i = 2 ^ j := by omega
        subst this
        rintro _ rfl
        refine hK _ ⟨j + 1, by omega, (nI_1 j).symm, J6.tr (J7.mo (fun q hq => by unfold SO at hq; unfold SGa; omega)), by rw [J7 97 (by unfold SO; omega)]; exact e97', by rw [J7 107 (by unfold SO; omega)]; exact kk6, by rw [J7 108 (by unfold SO; omega)]; exact pp6, fun z hz => ?_⟩ hd
        by_cases q : z < 2 ^ j
        · rw [ysS_lo q]; exact lo z q
        · have hz' : z - 2 ^ j < 2 ^ j := by rw [Nat.pow_succ] at hz; omega
          have ez : (z - 2 ^ j) ||| 2 ^ j = z := by rw [or_two hz']; omega
          have := up (z - 2 ^ j) hz'
          have h2 := ysS_hi (f := f) hz'
          rw [ez] at this h2
          rw [this, h2, ey, nI_clamp (by omega)]
      · have hdi := dif_lt ci
        rw [nI_leI (by omega) (by omega)] at ci
        have hi' : i < 2 ^ j := by omega
        have ho : i ||| 2 ^ j < 512 := by rw [or_two hi']; have := p9 (j + 1) (by omega); rw [Nat.pow_succ] at this; omega
        rw [nI_or, nI_clamp (n := i) (by omega), nI_clamp (n := i ||| 2 ^ j) (by omega), lo i hi', nI_add]
        refine and_have (vp_in_nI (by omega) (by omega)) (fun _ => and_have (vp_in_nI ho (by omega)) (fun _ => ?_))
        intro h8 e8
        have e106 : h8 106 = upd (h7 106) (i ||| 2 ^ j) (nI (ysS f i j + y)) := by rw [e8, hu_eq]
        rintro _ rfl
        refine hK2 _ ⟨i + 1, by omega, rfl, rfl, rfl, (nI_1 i).symm, J7.hu e8 rfl, fun z hz => ?_, fun z hz => ?_⟩ hdi
        · rw [e106, pk_un (by rw [or_two hi']; omega)]; exact lo z hz
        · rw [e106]
          by_cases q : z = i
          · subst q; rw [pk_us]
          · rw [pk_un (by rw [or_two hi', or_two (show z < 2 ^ j by omega)]; omega)]
            exact up z (by omega)
    have fin8 : ∀ (h6 : HI) (g6 : HL), JJ SGa h h6 → h6 97 5 = nI S → (∀ k, k < 4 → MSK f (j + 1) 0 k (h6 107 k)) → (∀ k, k < 4 → MSK f j 2 k (h6 108 k)) → (∀ z, z < 2 ^ j → h6 106 z = nI (ysS f z j)) → j_X3_gatherSpares_108 (fun h' _ => JJ SGa h h' ∧ GA h' f S) (fun x1 h g => K (x1, h, g)) (nI j) (nI (2 ^ j)) (f (710 + 3 * j + 2)) h6 g6 := by
      intro h6 g6 J6 e97' kk6 pp6 yy6
      unfold j_X3_gatherSpares_108
      rcases ep with ep | ⟨p, p4, ep⟩
      · rw [ep]
        refine c_wb (fun q => absurd q.1 (by decide)) (fun q => ⟨fun _ => ?_, fun c => absurd rfl c⟩)
        exact fin h6 g6 J6 e97' kk6 (fun k hk => (pp6 k hk).no (by rw [ep]; exact fun e => nI_nm (by omega) e.symm)) yy6
      · rw [ep]
        refine c_wb (fun q => ⟨fun c => absI c, fun _ => ?_⟩) (fun q => absurd (nI_in3 p4) q)
        rw [nI_clamp (n := p) (by omega)]
        refine and_have (vp_in_nI p4 (by omega)) (fun _ => and_have (vp_in_nI p4 (by omega)) (fun _ => ?_))
        intro h7 e7
        have e108 : h7 108 = upd (h6 108) p (h6 108 p ||| nI (2 ^ j)) := by rw [e7, hu_eq]
        refine fin h7 g6 (J6.hu e7 (.inr (by omega))) (by rw [e7, hu_ne (by decide)]; exact e97') (by rw [e7, hu_ne (by decide)]; exact kk6) (fun k hk => ?_) (by rw [e7, hu_ne (by decide)]; exact yy6)
        rw [e108]
        by_cases q : k = p
        · subst q; rw [pk_us]; exact (pp6 k hk).yes ep
        · rw [pk_un q]; exact (pp6 k hk).no (by rw [ep, nI_eq (by omega) (by omega)]; omega)
    refine c_wb (fun q => ⟨fun c => absI c, fun _ => ?_⟩) (fun q => absurd (nI_in3 kd4) q)
    rw [nI_clamp (n := kd) (by omega)]
    refine and_have (vp_in_nI kd4 (by omega)) (fun _ => and_have (vp_in_nI kd4 (by omega)) (fun _ => ?_))
    intro h7 e7
    have e107 : h7 107 = upd (h5 107) kd (h5 107 kd ||| nI (2 ^ j)) := by rw [e7, hu_eq]
    refine fin8 h7 g5 (J5.hu e7 (.inr (by omega))) (by rw [e7, hu_ne (by decide)]; exact e97) (fun k hk => ?_) (by rw [e7, hu_ne (by decide)]; exact pp) (by rw [e7, hu_ne (by decide)]; exact yy)
    rw [e107]
    by_cases q : k = kd
    · subst q; rw [pk_us]; exact (kk k hk).yes ek
    · rw [pk_un q]; exact (kk k hk).no (by rw [Nat.add_zero, ek, nI_eq (by omega) (by omega)]; omega)
  · rw [e4, hu_ne (by decide), J3 107 (by unfold SO; omega), z2 k (Nat.lt_of_lt_of_le hk (by decide +kernel))]; exact MSK.zero
  · rw [e4, hu_ne (by decide), z3 k (Nat.lt_of_lt_of_le hk (by decide +kernel))]; exact MSK.zero
  · have : z = 0 := by omega
    subst this
    rw [e4, hu_eq, cl0, pk_us]; exact nI_0.symm
end
section
-- 79.t.c.class
/-! TAKING: the class's table and its answer -/
theorem t_shr {a j : Nat} (ha : a < 2 ^ 31) (hj : j < 32) : nI a >>> (nI j &&& 31) = nI (a / 2 ^ j) := by
  have e : nI j &&& 31 = nI j := by
    rw [show (31 : Int32) = nI 31 from rfl, nI_and, show (31 : Nat) = 2 ^ 5 - 1 by decide, Nat.and_two_pow_sub_one_eq_mod, Nat.mod_eq_of_lt (by omega)]
  rw [e]
  refine Int32.toBitVec_inj.mp ?_
  rw [Int32.toBitVec_shiftRight]
  have ej : ((nI j).toBitVec.smod 32).toNat = j := by
    have : ∀ j, j < 32 → ((nI j).toBitVec.smod 32).toNat = j := by decide +kernel
    exact this j hj
  show (nI a).toBitVec.sshiftRight ((nI j).toBitVec.smod 32).toNat = _
  rw [ej]
  have ea : (nI a).toBitVec = BitVec.ofNat 32 a := rfl
  rw [ea, BitVec.sshiftRight_eq_of_msb_false (by
    rw [BitVec.msb_eq_decide, BitVec.toNat_ofNat, Nat.mod_eq_of_lt (by omega)]
    exact decide_eq_false (by omega))]
  show _ = BitVec.ofNat 32 (a / 2 ^ j)
  refine BitVec.eq_of_toNat_eq ?_
  rw [BitVec.toNat_ushiftRight, BitVec.toNat_ofNat, BitVec.toNat_ofNat, Nat.mod_eq_of_lt (by omega), Nat.shiftRight_eq_div_pow, Nat.mod_eq_of_lt (Nat.lt_of_le_of_lt (Nat.div_le_self a _) (by omega))]
theorem t_bv {a j : Nat} (ha : a < 2 ^ 31) (hj : j < 32) : (nI a >>> (nI j &&& 31)) &&& (1 : Int32) = nI (if a.testBit j = true then 1 else 0) := by
  rw [t_shr ha hj, show (1 : Int32) = nI 1 from rfl, nI_and, Nat.and_one_is_mod, Nat.testBit_eq_decide_div_mod_eq]
  by_cases c : a / 2 ^ j % 2 = 1
  · rw [c, decide_eq_true rfl, if_pos rfl]
  · rw [show a / 2 ^ j % 2 = 0 by omega]; rfl
theorem t_1 {a j : Nat} (ha : a < 2 ^ 31) (hj : j < 32) : (nI a >>> (nI j &&& 31)) &&& (1 : Int32) = 1 ↔ a.testBit j = true := by
  rw [t_bv ha hj]
  by_cases c : a.testBit j = true
  · rw [if_pos c]; exact ⟨fun _ => c, fun _ => rfl⟩
  · rw [if_neg c]; exact ⟨fun e => absurd e (by decide), fun e => absurd e c⟩
theorem t_0 {a j : Nat} (ha : a < 2 ^ 31) (hj : j < 32) : (nI a >>> (nI j &&& 31)) &&& (1 : Int32) = 0 ↔ a.testBit j = false := by
  rw [t_bv ha hj]
  by_cases c : a.testBit j = true
  · rw [if_pos c, c]; exact ⟨fun e => absurd e (by decide), fun e => absurd e (by decide)⟩
  · rw [if_neg c]; exact ⟨fun _ => Bool.eq_false_iff.mpr c, fun _ => rfl⟩
def PBr (f : Nat → Int32) (S z k : Nat) : Prop := ∃ s u, s < S ∧ u < S ∧ z.testBit s = true ∧ z.testBit u = false ∧ f (710 + 3 * s + 2) = nI k ∧ f (710 + 3 * u + 2) = nI k
theorem brk_iff {f : Nat → Int32} {S z : Nat} (v : VR f) (hS : S ≤ 9) : brk f S z ↔ ∃ k, k < 4 ∧ PBr f S z k := by
  constructor
  · rintro ⟨s, u, s1, u1, s2, u2, e, n⟩
    rcases (v.sp3 (s := s) (by omega)).2.2 with q | ⟨k, k4, q⟩
    · exact absurd q n
    · exact ⟨k, k4, s, u, s1, u1, s2, u2, q, e.symm.trans q⟩
  · rintro ⟨k, k4, s, u, s1, u1, s2, u2, e1, e2⟩
    exact ⟨s, u, s1, u1, s2, u2, e1.trans e2.symm, by rw [e1]; exact nI_nm (by omega)⟩
theorem q_X3_parts {h : HI} {g : HL} {f : Nat → Int32} {S z : Nat} (v : VR f) (hS : S ≤ 9) (G : GA h f S) (hz : z < 2 ^ S) : w_X3_parts (nI z) h g (fun r h' _ => h = h' ∧ ((r = 1 ∧ brk f S z) ∨ (r = 0 ∧ ¬ brk f S z))) := by
  have z5 : z < 512 := Nat.lt_of_lt_of_le hz (Nat.pow_le_pow_right (by decide) hS : 2 ^ S ≤ 2 ^ 9)
  unfold w_X3_parts
  refine lpE_intro (fun ⟨a_q, b_q, c_q, h_q, _⟩ => ∃ k : Nat, k ≤ 4 ∧ nI z = a_q ∧ (4 : Int32) = b_q ∧ nI k = c_q ∧ h = h_q ∧ ∀ j, j < k → ¬ PBr f S z j) (fun ⟨_, _, c_q, _, _⟩ => dif (nI 4) c_q) ?_ _ ⟨0, by omega, rfl, rfl, nI_0, rfl, fun j hj => absurd hj (Nat.not_lt_zero j)⟩
  rintro ⟨y1, y2, y3, h1, g1⟩ K ⟨k, hk, rfl, rfl, rfl, rfl, no⟩ hK
  unfold F_X3_parts_11; dsimp only; unfold b_X3_parts_11
  rw [show (4 : Int32) = nI 4 from rfl]
  refine ⟨fun c => ?_, fun c => ?_⟩
  · rw [nI_leI (by omega) (by omega)] at c
    refine ⟨rfl, .inr ⟨rfl, fun b => ?_⟩⟩
    obtain ⟨j, j4, p⟩ := (brk_iff v hS).mp b
    exact no j (by omega) p
  have hd := dif_lt c
  rw [nI_leI (by omega) (by omega)] at c
  obtain ⟨Kn, K1, K2, K3⟩ := G.2.2.1 k (by omega)
  rw [nI_clamp (n := k) (by omega)]
  refine and_have (vp_in_nI (by omega) (by omega)) (fun _ => ?_)
  rintro _ rfl
  have k5 : Kn < 512 := Nat.lt_of_lt_of_le K1 (Nat.pow_le_pow_right (by decide) hS : 2 ^ S ≤ 2 ^ 9)
  have a5 : z &&& Kn < 512 := Nat.lt_of_le_of_lt Nat.and_le_left z5
  rw [K2, nI_and, nI_z (by omega), nI_eq (by omega) (by omega)]
  have nx : ∀ g2 : HL, ¬ PBr f S z k → j_X3_parts_41 (fun r h' _ => h = h' ∧ ((r = 1 ∧ brk f S z) ∨ (r = 0 ∧ ¬ brk f S z))) (fun x1 x3 x4 h g => K (x1, x3, x4, h, g)) (nI z) (nI 4) (nI k) h g2 := by
    intro g2 n
    unfold j_X3_parts_41
    rintro _ rfl
    refine hK _ ⟨k + 1, by omega, rfl, rfl, (nI_1 k).symm, rfl, fun j hj => ?_⟩ hd
    by_cases e : j = k
    · subst e; exact n
    · exact no j (by omega)
  refine ⟨fun e => nx _ ?_, fun e => ⟨fun e2 => nx _ ?_, fun e2 => ?_⟩⟩
  · rintro ⟨s, u, s1, u1, s2, u2, e1, e3⟩
    have h1 : (z &&& Kn).testBit s = true := by rw [Nat.testBit_and, s2, (K3 s).mpr ⟨s1, e1⟩]; rfl
    rw [e, Nat.zero_testBit] at h1
    exact absurd h1 (by decide)
  · rintro ⟨s, u, s1, u1, s2, u2, e1, e3⟩
    have h1 : (z &&& Kn).testBit u = false := by rw [Nat.testBit_and, u2]; rfl
    rw [e2, (K3 u).mpr ⟨u1, e3⟩] at h1
    exact absurd h1 (by decide)
  · refine ⟨rfl, .inl ⟨rfl, (brk_iff v hS).mpr ⟨k, by omega, ?_⟩⟩⟩
    have h1 : ∃ s, z.testBit s = true ∧ Kn.testBit s = true := by
      by_cases q : ∃ s, z.testBit s = true ∧ Kn.testBit s = true
      · exact q
      · refine absurd (Nat.eq_of_testBit_eq (fun i => ?_)) e
        rw [Nat.testBit_and, Nat.zero_testBit]
        cases ez : z.testBit i <;> cases eK : Kn.testBit i <;> first | rfl | exact absurd ⟨i, ez, eK⟩ q
    have h2 : ∃ u, z.testBit u = false ∧ Kn.testBit u = true := by
      by_cases q : ∃ s, z.testBit s = false ∧ Kn.testBit s = true
      · exact q
      · refine absurd (Nat.eq_of_testBit_eq (fun i => ?_)) e2
        rw [Nat.testBit_and]
        cases ez : z.testBit i <;> cases eK : Kn.testBit i <;> first | rfl | exact absurd ⟨i, ez, eK⟩ q
    obtain ⟨s, s1, s2⟩ := h1
    obtain ⟨u, u1, u2⟩ := h2
    have k1 := (K3 s).mp s2
    have k2 := (K3 u).mp u2
    exact ⟨s, u, k1.1, k2.1, s1, u1, k1.2, k2.2⟩
theorem q_X3_open {h : HI} {g : HL} {f : Nat → Int32} {M S m z : Nat} (v : VR f) (T : STb h f M S) (hM : M ≤ 6) (hS : S ≤ 9) (G : GA h f S) (hm : m < M) : w_X3_open (nI m) (nI z) h g (fun r h' _ => h = h' ∧ ∃ O, O < 512 ∧ r = nI O ∧ ∀ s, O.testBit s = true ↔ okG f S m z (s + 1)) := by
  unfold w_X3_open
  refine c_mc T hm ?_
  obtain ⟨k, k4, ek⟩ := v.mc (m := m) (by omega)
  rw [ek]
  refine c_wb (fun q => ⟨fun c => absI c, fun _ => ?_⟩) (fun q => absurd (nI_in3 k4) q)
  obtain ⟨Kn, K1, K2, K3⟩ := G.2.1 k k4
  rw [nI_clamp (n := k) (by omega), K2, show (-1 : Int32) = nI 4294967295 by decide, nI_xor, nI_and]
  have k5 : Kn < 512 := Nat.lt_of_lt_of_le K1 (Nat.pow_le_pow_right (by decide) hS : 2 ^ S ≤ 2 ^ 9)
  refine and_have (vp_in_nI k4 (by omega)) (fun _ => ⟨rfl, _, Nat.lt_of_le_of_lt Nat.and_le_left k5, rfl, fun s => ?_⟩)
  rw [Nat.testBit_and, Nat.testBit_xor, show (4294967295 : Nat) = 2 ^ 32 - 1 by decide, Nat.testBit_two_pow_sub_one]
  constructor
  · intro e
    cases eK : Kn.testBit s with
    | false => rw [eK, Bool.false_and] at e; exact absurd e (by decide)
    | true =>
      have hs := (K3 s).mp eK
      rw [eK, decide_eq_true (by omega)] at e
      refine .inr ⟨s, rfl, hs.1, by rw [ek]; exact hs.2, ?_⟩
      cases ez : z.testBit s with
      | false => rfl
      | true => rw [ez] at e; exact absurd e (by decide)
  · rintro (e | ⟨s', e, h1, h2, h3⟩)
    · exact absurd e (by omega)
    · have : s = s' := by omega
      subst this
      rw [h3, (K3 s).mpr ⟨h1, by rw [← ek]; exact h2⟩, decide_eq_true (by omega)]; rfl
theorem c_af {h : HI} {g : HL} {m z : Nat} (hm : m ≤ 5) (hz : z < 512) {body : Int32 → HI → HL → Prop} (b : body (h (99 + (m + 1)) z) h g) : ∃ P : Int32 → HI → HL → Prop, w_X3_after (nI m) (nI z) h g P ∧ ∀ (r : Int32) (h : HI) (g : HL), P r h g → body r h g := by
  refine ⟨fun r h' g' => r = h (99 + (m + 1)) z ∧ h' = h ∧ g' = g, ?_, ?_⟩
  · unfold w_X3_after
    refine c_wb (fun q => ⟨fun c => absI c, fun _ => ?_⟩) (fun q => absurd ((bd_of (n := m) (a := 0) (b := 5) (by omega) (by omega) (by omega)).mo (by decide) (by decide)) q)
    refine c_wb (fun q => ⟨fun _ => ?_, fun c => absI c⟩) (fun q => absurd ((bd_of (n := z) (a := 0) (b := 511) (by omega) (by omega) (by omega)).mo (by decide) (by decide)) q)
    rw [nI_1, nI_clamp (n := m + 1) (by omega), nI_clamp (n := z) (by omega)]
    exact and_have (vp_in_nI (by omega) (by omega)) (fun _ => and_have (vp_in_nI (by omega) (by omega)) (fun _ => ⟨rfl, rfl, rfl⟩))
  · rintro _ _ _ ⟨rfl, rfl, rfl⟩; exact b
def TBv (h : HI) (f : Nat → Int32) (S M m : Nat) : Prop := ∀ z, z < 2 ^ S → pcN z S ≤ m → IsMx f S M m z (h (99 + m) z)
theorem q_X3_mostOf {h : HI} {g : HL} {f : Nat → Int32} {M S m z : Nat} (v : VR f) (T : STb h f M S) (hM : M ≤ 6) (hS : S ≤ 9) (G : GA h f S) (hm : m < M) (B : TBv h f S M (m + 1)) (hz : z < 2 ^ S) (hp : pcN z S ≤ m) : w_X3_mostOf (nI m) (nI z) h g (fun r h' _ => h = h' ∧ IsMx f S M m z r) := by
  have p5 : 2 ^ S ≤ 512 := (Nat.pow_le_pow_right (by decide) hS : 2 ^ S ≤ 2 ^ 9)
  unfold w_X3_mostOf
  refine c_af (by omega) (by omega) ?_
  refine c_i (q_X3_open v T hM hS G hm) ?_
  rintro _ _ g1 ⟨rfl, O, O5, rfl, eO⟩
  refine lpE_intro (fun ⟨a_q, b_q, c_q, d_q, e_q, h_q, _⟩ => ∃ k : Nat, k ≤ S ∧ nI m = a_q ∧ nI z = b_q ∧ nI O = d_q ∧ nI k = e_q ∧ h = h_q ∧ MxK f S M m z (k + 1) c_q) (fun ⟨_, _, _, _, e_q, _, _⟩ => dif (nI S) e_q) ?_ _ ⟨0, by omega, rfl, rfl, rfl, nI_0, rfl, MxK.one (B z hz (by omega))⟩
  rintro ⟨y1, y2, y3, y4, y5, h1, g2⟩ K ⟨k, hk, rfl, rfl, rfl, rfl, rfl, X⟩ hK
  unfold F_X3_mostOf_18; dsimp only; unfold b_X3_mostOf_18
  rw [G.1]
  refine ⟨fun c => ?_, fun c => ?_⟩
  · rw [nI_leI (by omega) (by omega)] at c
    have : k = S := by omega
    subst this
    exact ⟨rfl, X.fin hm⟩
  have hd := dif_lt c
  rw [nI_leI (by omega) (by omega)] at c
  rw [t_1 (by omega) (by omega), eO k, shl_t k (by omega), nI_or]
  have hz2 : z ||| 2 ^ k < 2 ^ S := or_lt hz (by omega)
  refine ⟨fun n => ?_, fun o => ?_⟩
  · unfold j_X3_mostOf_54
    rintro _ rfl
    exact hK _ ⟨k + 1, by omega, rfl, rfl, rfl, (nI_1 k).symm, rfl, X.no n⟩ hd
  · refine c_af (by omega) (by omega) ?_
    rintro _ rfl
    unfold j_X3_mostOf_54
    rintro _ rfl
    have hp2 : pcN (z ||| 2 ^ k) S ≤ m + 1 := by
      have := pcN_or (z := z) (s := k) (k := S)
      rw [if_pos (by omega)] at this; omega
    exact hK _ ⟨k + 1, by omega, rfl, rfl, rfl, (nI_1 k).symm, rfl, X.up o (B _ hz2 hp2)⟩ hd
def bcE (x0 : Int32) : Int32 :=
  let a := x0 - (((x0.toUInt32 >>> ((1 : Int32).toUInt32 &&& Int32.toUInt32 31)).toInt32) &&& (1431655765 : Int32))
  let b := (a &&& (858993459 : Int32)) + (((a.toUInt32 >>> ((2 : Int32).toUInt32 &&& Int32.toUInt32 31)).toInt32) &&& (858993459 : Int32))
  let c := (b + ((b.toUInt32 >>> ((4 : Int32).toUInt32 &&& Int32.toUInt32 31)).toInt32)) &&& (252645135 : Int32)
  let d := c + ((c.toUInt32 >>> ((8 : Int32).toUInt32 &&& Int32.toUInt32 31)).toInt32)
  let e := d + ((d.toUInt32 >>> ((16 : Int32).toUInt32 &&& Int32.toUInt32 31)).toInt32)
  e &&& (63 : Int32)
theorem bcE_eq : ∀ n, n < 512 → bcE (nI n) = nI (pcN n 9) := by decide +kernel
theorem q_bc {h : HI} {g : HL} {n : Nat} (hn : n < 512) : w_J6_bitCount_0f7a4 (nI n) h g (fun r h' _ => h = h' ∧ r = nI (pcN n 9)) := by
  unfold w_J6_bitCount_0f7a4
  rintro _ rfl _ rfl _ rfl _ rfl _ rfl
  exact ⟨rfl, bcE_eq n hn⟩
theorem pcN_le {z : Nat} : ∀ {k : Nat}, pcN z k ≤ k
  | 0 => Nat.le_refl 0
  | k + 1 => by
    have := pcN_le (z := z) (k := k)
    show pcN z k + (if z.testBit k = true then 1 else 0) ≤ k + 1
    split <;> omega
def SGv (q : Nat) : Prop := q = 97 ∨ 99 ≤ q ∧ q ≤ 108
theorem q_X3_find {h : HI} {g : HL} {f : Nat → Int32} {M S : Nat} (hC : CI h) (v : VR f) (T : STb h f M S) (hM : M ≤ 6) (hS : S ≤ 9) : w_X3_find h g (fun h' _ => JJ SGv h h' ∧ GA h' f S ∧ ∀ m, m ≤ M → TBv h' f S M m) := by
  have p5 : 2 ^ S ≤ 512 := (Nat.pow_le_pow_right (by decide) hS : 2 ^ S ≤ 2 ^ 9)
  have nn : ∀ q, q ≤ 80 → ¬ SGv q := fun q hq => by unfold SGv; omega
  have mv : ∀ m, m ≤ 6 → ∀ q, SO (99 + m) q → SGv q := fun m hm q hq => by unfold SO at hq; unfold SGv; omega
  unfold w_X3_find
  refine c_v (q_X3_gatherSpares hC v T hS) ?_
  rintro h1 g1 ⟨J1, G1⟩
  have J1 : JJ SGv h h1 := J1.mo (fun q hq => by unfold SGa at hq; unfold SGv; omega)
  refine c_i p_rows ?_
  rintro _ _ _ ⟨rfl, rfl, rfl⟩
  rw [(T.jj J1 nn).1.2.2.1, show (if nI M < (6 : Int32) then nI M else (6 : Int32)) = nI M by
    by_cases c : M = 6
    · subst c; decide
    · exact if_pos ((nI_ltI (a := M) (b := 6) (by omega) (by omega)).mpr (by omega)), G1.1, shl_t S (by omega)]
  rintro _ rfl _ rfl
  refine lpE_intro (fun ⟨a_q, b_q, c_q, h_q, _⟩ => ∃ z : Nat, z ≤ 2 ^ S ∧ nI M = a_q ∧ nI (2 ^ S) = b_q ∧ nI z = c_q ∧ JJ (SO (99 + M)) h1 h_q ∧ ∀ y, y < z → pcN y S ≤ M → h_q (99 + M) y = yrV f S y) (fun ⟨_, _, c_q, _, _⟩ => dif (nI (2 ^ S)) c_q) ?_ _ ⟨0, Nat.zero_le _, rfl, rfl, nI_0, JJ.rf, fun y hy => absurd hy (Nat.not_lt_zero y)⟩
  rintro ⟨y1, y2, y3, h2, g2⟩ K ⟨z, hz, rfl, rfl, rfl, J2, t2⟩ hK
  have G2 : GA h2 f S := G1.cg (J2 97 (by unfold SO; omega)) (J2 106 (by unfold SO; omega)) (J2 107 (by unfold SO; omega)) (J2 108 (by unfold SO; omega))
  unfold F_X3_find_29; dsimp only; unfold b_X3_find_29
  refine ⟨fun c => ?_, fun c => ?_⟩
  · rw [nI_leI (by omega) (by omega)] at c
    have : z = 2 ^ S := by omega
    subst this
    have B2 : TBv h2 f S M M := fun y hy hp => by rw [t2 y hy hp]; exact IsMx.nil
    rintro _ rfl
    refine lpE_intro (fun ⟨a_q, b_q, h_q, _⟩ => ∃ mm : Nat, mm ≤ M ∧ nI (2 ^ S) = a_q ∧ nI mm - 1 = b_q ∧ JJ SGv h h_q ∧ GA h_q f S ∧ ∀ m, mm ≤ m → m ≤ M → TBv h_q f S M m) (fun ⟨_, b_q, _, _⟩ => prd b_q) ?_ _ ⟨M, Nat.le_refl M, rfl, rfl, J1.tr (J2.mo (mv M hM)), G2, fun m m1 m2 => by rw [show m = M by omega]; exact B2⟩
    rintro ⟨z1, z2, h3, g3⟩ K2 ⟨mm, hmm, rfl, rfl, J3, G3, B3⟩ hK2
    unfold F_X3_find_78; dsimp only; unfold b_X3_find_78
    refine ⟨fun c0 => ?_, fun c0 => ?_⟩
    · have : mm = 0 := by
        rcases Nat.eq_zero_or_pos mm with e | e
        · exact e
        · obtain ⟨m, rfl⟩ : ∃ m, mm = m + 1 := ⟨mm - 1, by omega⟩
          rw [nI_pred] at c0
          exact absurd c0 (nI_pos (by omega))
      subst this
      exact ⟨J3, G3, fun m hm => B3 m (Nat.zero_le m) hm⟩
    obtain ⟨m, rfl⟩ : ∃ m, mm = m + 1 := ⟨mm - 1, by
      have : mm ≠ 0 := fun q => c0 (by rw [q]; decide)
      omega⟩
    rw [nI_pred] at hK2 ⊢
    refine lpE_intro (fun ⟨a_q, b_q, c_q, h_q, _⟩ => ∃ y : Nat, y ≤ 2 ^ S ∧ nI (2 ^ S) = a_q ∧ nI m = b_q ∧ nI y = c_q ∧ JJ (SO (99 + m)) h3 h_q ∧ ∀ x, x < y → pcN x S ≤ m → IsMx f S M m x (h_q (99 + m) x)) (fun ⟨_, _, c_q, _, _⟩ => dif (nI (2 ^ S)) c_q) ?_ _ ⟨0, Nat.zero_le _, rfl, rfl, nI_0, JJ.rf, fun y hy => absurd hy (Nat.not_lt_zero y)⟩
    rintro ⟨u1, u2, u3, h4, g4⟩ K3 ⟨y, hy, rfl, rfl, rfl, J4, t4⟩ hK3
    have G4 : GA h4 f S := G3.cg (J4 97 (by unfold SO; omega)) (J4 106 (by unfold SO; omega)) (J4 107 (by unfold SO; omega)) (J4 108 (by unfold SO; omega))
    have J4' : JJ SGv h h4 := J3.tr (J4.mo (mv m (by omega)))
    unfold F_X3_find_85; dsimp only; unfold b_X3_find_85
    refine ⟨fun cy => ?_, fun cy => ?_⟩
    · rw [nI_leI (by omega) (by omega)] at cy
      have : y = 2 ^ S := by omega
      subst this
      rintro _ rfl
      have em : nI m + (-1) = nI m - 1 := by
        cases m with
        | zero => decide
        | succ i => rw [nI_pred, pk_m1]
      refine hK2 _ ⟨m, by omega, rfl, em.symm, J4', G4, fun k k1 k2 => ?_⟩ ?_
      · by_cases e : k = m
        · subst e; exact t4
        · have := B3 k (by omega) k2
          intro x hx hp
          rw [J4 (99 + k) (by unfold SO; omega)]; exact this x hx hp
      · show prd (nI m + (-1)) < prd (nI m)
        exact prd_lt (nI_pos (by omega))
    · have hdy := dif_lt cy
      rw [nI_leI (by omega) (by omega)] at cy
      refine c_i (q_bc (by omega)) ?_
      rintro _ _ _ ⟨rfl, rfl⟩
      have ec : pcN y 9 = pcN y S := pcN_cg (by omega) hS
      have hc : pcN y S ≤ 9 := Nat.le_trans pcN_le hS
      rw [ec, nI_ltI (by omega) (by omega)]
      refine ⟨fun big => ?_, fun small => ?_⟩
      · unfold j_X3_find_116
        rintro _ rfl
        refine hK3 _ ⟨y + 1, by omega, rfl, rfl, (nI_1 y).symm, J4, fun x hx hp => ?_⟩ hdy
        by_cases e : x = y
        · subst e; omega
        · exact t4 x (by omega) hp
      · refine and_have (vp_in_nI (by omega) (by omega)) (fun _ => ?_)
        have B4 : TBv h4 f S M (m + 1) := fun x hx hp => by
          rw [J4 (99 + (m + 1)) (by unfold SO; omega)]; exact B3 (m + 1) (Nat.le_refl _) hmm x hx hp
        refine c_i (q_X3_mostOf v (T.jj J4' nn) hM hS G4 (by omega) B4 (by omega) (by omega)) ?_
        rintro r _ g5 ⟨rfl, X⟩
        rw [nI_clamp (n := m) (by omega), nI_clamp (n := y) (by omega)]
        refine and_have (vp_in_nI (by omega) (by omega)) (fun _ => ?_)
        intro h5 e5
        have e99 : h5 (99 + m) = upd (h4 (99 + m)) y r := by rw [e5, hu_eq]
        unfold j_X3_find_116
        rintro _ rfl
        refine hK3 _ ⟨y + 1, by omega, rfl, rfl, (nI_1 y).symm, J4.hu e5 rfl, fun x hx hp => ?_⟩ hdy
        rw [e99]
        by_cases e : x = y
        · subst e; rw [pk_us]; exact X
        · rw [pk_un e]; exact t4 x (by omega) hp
  · have hdz := dif_lt c
    rw [nI_leI (by omega) (by omega)] at c
    refine c_i (q_bc (by omega)) ?_
    rintro _ _ _ ⟨rfl, rfl⟩
    have ec : pcN z 9 = pcN z S := pcN_cg (by omega) hS
    have hc : pcN z S ≤ 9 := Nat.le_trans pcN_le hS
    rw [ec, nI_ltI (by omega) (by omega)]
    refine ⟨fun big => ?_, fun small => ?_⟩
    · unfold j_X3_find_68
      rintro _ rfl
      refine hK _ ⟨z + 1, by omega, rfl, rfl, (nI_1 z).symm, J2, fun x hx hp => ?_⟩ hdz
      by_cases e : x = z
      · subst e; omega
      · exact t2 x (by omega) hp
    · refine and_have (vp_in_nI (by omega) (by omega)) (fun _ => ?_)
      refine c_z (q_X3_parts v hS G2 (by omega)) ?_
      rintro r _ g5 ⟨rfl, X⟩
      rw [nI_clamp (n := M) (by omega), nI_clamp (n := z) (by omega)]
      have fin : ∀ x, x = yrV f S z → j_X3_find_67 (fun h' _ => JJ SGv h h' ∧ GA h' f S ∧ ∀ m, m ≤ M → TBv h' f S M m) (fun x1 x2 x3 h g => K (x1, x2, x3, h, g)) (nI M) (nI (2 ^ S)) (nI z) (99 + M) (nI z) x h2 g5 := by
        intro x ex
        unfold j_X3_find_67
        rw [nI_clamp (n := z) (by omega)]
        refine and_have (vp_in_nI (by omega) (by omega)) (fun _ => ?_)
        intro h5 e5
        have e99 : h5 (99 + M) = upd (h2 (99 + M)) z x := by rw [e5, hu_eq]
        unfold j_X3_find_68
        rintro _ rfl
        refine hK _ ⟨z + 1, by omega, rfl, rfl, (nI_1 z).symm, J2.hu e5 rfl, fun y hy hp => ?_⟩ hdz
        rw [e99]
        by_cases e : y = z
        · subst e; rw [pk_us]; exact ex
        · rw [pk_un e]; exact t2 y (by omega) hp
      refine ⟨fun e0 => and_have (vp_in_nI (by omega) (by omega)) (fun _ => fin _ ?_), fun e0 => fin _ ?_⟩
      · rcases X with ⟨e, -⟩ | ⟨-, n⟩
        · rw [e] at e0; exact absurd e0 (by decide)
        · rw [yrV_n n]; exact G2.2.2.2 z (by omega)
      · rcases X with ⟨-, b⟩ | ⟨e, -⟩
        · rw [yrV_b b]
        · exact absurd e e0
end
section
-- 79.t.d.ans
/-! TAKING: the class's answer -/
theorem pc_Fn {f : Nat → Int32} {S : Nat} : ∀ {l : List Nat} {m z : Nat}, VlG f S m z l → pcN (FnG z l) S ≤ pcN z S + l.length
  | [], _, _, _ => Nat.le_refl _
  | g :: l, m, z, ⟨o, x⟩ => by
    have h := pc_Fn x
    have h2 : pcN (stG z g) S ≤ pcN z S + 1 := by
      rcases o with rfl | ⟨s, rfl, hs, -⟩
      · exact Nat.le_succ _
      · have := pcN_or (z := z) (s := s) (k := S)
        rw [if_pos hs] at this; exact this
    show pcN (FnG (stG z g) l) S ≤ pcN z S + (l.length + 1)
    omega
theorem pc_0 : ∀ {S : Nat}, pcN 0 S = 0
  | 0 => rfl
  | S + 1 => by
    show pcN 0 S + (if (0 : Nat).testBit S = true then 1 else 0) = 0
    rw [pc_0, Nat.zero_testBit]; rfl
theorem t_mid {w : Nat} {d : List Nat} : ∀ p : List Nat, (p ++ w :: d).getD p.length 0 = w
  | [] => rfl
  | _ :: p => t_mid p
/-- the first gift that keeps the most -/
theorem tk_min {f : Nat → Int32} {S M g g' : Nat} {p d : List Nat} {a : Int32} (t : TKG f S M (p ++ g :: d)) (o : okG f S p.length (FnG 0 p) g') (x : IsMx f S M (p.length + 1) (stG (FnG 0 p) g') a) : (a = yrV f S (FnG 0 (p ++ g :: d)) → g ≤ g') ∧ (g' = g → a = yrV f S (FnG 0 (p ++ g :: d))) := by
  obtain ⟨t1, t2, t3⟩ := t
  obtain ⟨v1, v2⟩ := VlG.app.mp t2
  rw [Nat.zero_add] at v2
  have el : p.length + 1 + d.length = M := by
    rw [List.length_append] at t1
    have : (g :: d).length = d.length + 1 := rfl
    omega
  obtain ⟨⟨e, e1, e2, e3⟩, x2⟩ := x
  have vk : VlG f S 0 0 (p ++ g' :: e) := VlG.app.mpr ⟨v1, by rw [Nat.zero_add]; exact ⟨o, e2⟩⟩
  have ek : yrV f S (FnG 0 (p ++ g' :: e)) = a := by rw [FnG.app]; exact e3
  have lk : 0 + (p ++ g' :: e).length = M := by
    rw [List.length_append]
    have : (g' :: e).length = e.length + 1 := rfl
    omega
  have h := t3 (p ++ g' :: e) lk vk
  rw [ek] at h
  constructor
  · intro ea
    rw [ea] at h
    rcases h with h | ⟨-, h | h⟩
    · exact absurd h Int32.lt_irrefl
    · have := List.append_cancel_left h
      have : g' = g := (List.cons.inj this).1
      omega
    · rw [LX.app] at h
      rcases h with h | ⟨h, -⟩ <;> omega
  · intro eg
    subst eg
    have h2 := x2 d el v2.2
    have e4 : FnG 0 (p ++ g' :: d) = FnG (stG (FnG 0 p) g') d := by rw [FnG.app]; rfl
    rw [← e4] at h2
    rcases h with h | h
    · exact absurd (Int32.lt_of_le_of_lt h2 h) Int32.lt_irrefl
    · exact h.1
theorem tk_top {f : Nat → Int32} {S M : Nat} {l : List Nat} {a : Int32} (t : TKG f S M l) (x : IsMx f S M 0 0 a) : a = yrV f S (FnG 0 l) := by
  obtain ⟨⟨e, e1, e2, e3⟩, x2⟩ := x
  have h1 := x2 l t.1 t.2.1
  rcases t.2.2 e e1 e2 with h | h
  · rw [e3] at h; exact absurd (Int32.lt_of_le_of_lt h1 h) Int32.lt_irrefl
  · rw [e3] at h; exact h.1
theorem c_my {h : HI} {g : HL} {body : Int32 → HI → HL → Prop} (b : body (h 99 0) h g) : ∃ P : Int32 → HI → HL → Prop, w_X3_mostYears h g P ∧ ∀ (r : Int32) (h : HI) (g : HL), P r h g → body r h g := by
  refine ⟨fun r h' g' => r = h 99 0 ∧ h' = h ∧ g' = g, ?_, ?_⟩
  · unfold w_X3_mostYears
    rw [cl0]
    exact ⟨vp_in_iff.mpr (by decide), vp_in_iff.mpr (by decide), rfl, rfl, rfl⟩
  · rintro _ _ _ ⟨rfl, rfl, rfl⟩; exact b
theorem q_X3_givenTo {h : HI} {g : HL} {f : Nat → Int32} {M S a : Nat} {p d : List Nat} (v : VR f) (T : STb h f M S) (hM : M ≤ 6) (hS : S ≤ 9) (G : GA h f S) (B : ∀ m, m ≤ M → TBv h f S M m) (t : TKG f S M (p ++ a :: d)) : w_X3_givenTo (nI p.length) (nI (FnG 0 p)) h g (fun r h' _ => h = h' ∧ r = nI a - 1) := by
  have p5 : 2 ^ S ≤ 512 := (Nat.pow_le_pow_right (by decide) hS : 2 ^ S ≤ 2 ^ 9)
  have t0 := t
  obtain ⟨t1, t2, -⟩ := t
  obtain ⟨v1, v2⟩ := VlG.app.mp t2
  rw [Nat.zero_add] at v2
  have oa := v2.1
  have el : p.length + 1 + d.length = M := by
    rw [List.length_append] at t1
    have : (a :: d).length = d.length + 1 := rfl
    omega
  have hz : FnG 0 p < 2 ^ S := FnG.lt v1 (Nat.pow_pos (by decide))
  have hp : pcN (FnG 0 p) S ≤ p.length := by have := pc_Fn v1; rw [pc_0] at this; omega
  have V0 : h 99 0 = yrV f S (FnG 0 (p ++ a :: d)) := tk_top t0 (B 0 (Nat.zero_le M) 0 (Nat.pow_pos (by decide)) (by rw [pc_0]; exact Nat.le_refl 0))
  have af : ∀ g', okG f S p.length (FnG 0 p) g' → (h (99 + (p.length + 1)) (stG (FnG 0 p) g') = h 99 0 → a ≤ g') ∧ (g' = a → h (99 + (p.length + 1)) (stG (FnG 0 p) g') = h 99 0) := fun g' o => by
    rw [V0]
    refine tk_min t0 o (B (p.length + 1) (by omega) _ (stG_lt o hz) ?_)
    rcases o with rfl | ⟨s, rfl, hs, -⟩
    · exact Nat.le_succ_of_le hp
    · have := pcN_or (z := FnG 0 p) (s := s) (k := S)
      rw [if_pos hs] at this
      show pcN (FnG 0 p ||| 2 ^ s) S ≤ p.length + 1
      omega
  unfold w_X3_givenTo
  refine c_af (by omega) (by omega) ?_
  refine c_my ?_
  have a0 := af 0 (.inl rfl)
  refine ⟨fun n0 => ?_, fun e0 => ⟨rfl, ?_⟩⟩
  · have hg : 1 ≤ a := by
      rcases Nat.eq_zero_or_pos a with q | q
      · exact absurd (a0.2 q.symm) n0
      · exact q
    refine c_i (q_X3_open v T hM hS G (by omega)) ?_
    rintro _ _ g1 ⟨rfl, O, O5, rfl, eO⟩
    have hgS := okG_le oa
    refine lpE_intro (fun ⟨a_q, b_q, c_q, d_q, h_q, _⟩ => ∃ k : Nat, k + 1 ≤ a ∧ nI p.length = a_q ∧ nI (FnG 0 p) = b_q ∧ nI O = c_q ∧ nI k = d_q ∧ h = h_q) (fun ⟨_, _, _, d_q, _, _⟩ => dif (nI S) d_q) ?_ _ ⟨0, hg, rfl, rfl, rfl, nI_0, rfl⟩
    rintro ⟨y1, y2, y3, y4, h1, g2⟩ K ⟨k, hk, rfl, rfl, rfl, rfl, rfl⟩ hK
    unfold F_X3_givenTo_25; dsimp only; unfold b_X3_givenTo_25
    rw [G.1]
    refine ⟨fun c => ?_, fun c => ?_⟩
    · rw [nI_leI (by omega) (by omega)] at c; omega
    have hd := dif_lt c
    rw [t_1 (by omega) (by omega), eO k, shl_t k (by omega), nI_or]
    have nx : ∀ g3 : HL, ¬ k + 1 = a → j_X3_givenTo_65 (fun r h' _ => h = h' ∧ r = nI a - 1) (fun x1 x2 x3 x4 h g => K (x1, x2, x3, x4, h, g)) (nI p.length) (nI (FnG 0 p)) (nI O) (nI k) h g3 := by
      intro g3 n
      unfold j_X3_givenTo_65
      rintro _ rfl
      exact hK _ ⟨k + 1, by omega, rfl, rfl, rfl, (nI_1 k).symm, rfl⟩ hd
    refine ⟨fun n => nx _ (fun e => n (by rw [e]; exact oa)), fun o => ?_⟩
    have hz2 : FnG 0 p ||| 2 ^ k < 2 ^ S := or_lt hz (by omega)
    refine c_af (by omega) (by omega) ?_
    refine c_my ?_
    have ak := af (k + 1) o
    refine ⟨fun n => nx _ (fun e => n (ak.2 e)), fun e => ⟨rfl, ?_⟩⟩
    have : a = k + 1 := by have := ak.1 e; omega
    rw [this, nI_pred]
  · have : a = 0 := by have := a0.1 e0; omega
    rw [this]; decide
theorem q_X3_spareOf {h : HI} {g : HL} {f : Nat → Int32} {M S i : Nat} {l : List Nat} (v : VR f) (T : STb h f M S) (hM : M ≤ 6) (hS : S ≤ 9) (G : GA h f S) (B : ∀ m, m ≤ M → TBv h f S M m) (t : TKG f S M l) (hi : i < M) : w_X3_spareOf (nI i) h g (fun r h' _ => h = h' ∧ r = nI (l.getD i 0) - 1) := by
  unfold w_X3_spareOf
  refine lpE_intro (fun ⟨a_q, b_q, c_q, h_q, _⟩ => ∃ p d : List Nat, l = p ++ d ∧ p.length ≤ i ∧ nI i = a_q ∧ nI (FnG 0 p) = b_q ∧ nI p.length = c_q ∧ h = h_q) (fun ⟨_, _, c_q, _, _⟩ => dif (nI M) c_q) ?_ _ ⟨[], l, rfl, Nat.zero_le i, rfl, nI_0, nI_0, rfl⟩
  rintro ⟨y1, y2, y3, h1, g1⟩ K ⟨p, d, el, hp, rfl, rfl, rfl, rfl⟩ hK
  unfold F_X3_spareOf_4; dsimp only; unfold b_X3_spareOf_4
  refine c_i p_rows ?_
  rintro _ _ _ ⟨rfl, rfl, rfl⟩
  rw [T.1.2.2.1]
  refine ⟨fun c => ?_, fun c => ?_⟩
  · rw [nI_leI (by omega) (by omega)] at c; omega
  have hd := dif_lt c
  have l1 := t.1
  match d, el with
  | [], el => exact absurd l1 (by rw [el, List.append_nil]; omega)
  | a :: d, el =>
    have t' : TKG f S M (p ++ a :: d) := el ▸ t
    have oa : okG f S p.length (FnG 0 p) a := by
      have := (VlG.app.mp t'.2.1).2.1
      rw [Nat.zero_add] at this; exact this
    have haS := okG_le oa
    refine c_i (q_X3_givenTo v T hM hS G B t') ?_
    rintro _ _ g2 ⟨rfl, rfl⟩
    have nx : ∀ (z : Nat) (g3 : HL), ¬ p.length = i → z = FnG 0 (p ++ [a]) → j_X3_spareOf_47 (fun r h' _ => h = h' ∧ r = nI (l.getD i 0) - 1) (fun x1 x2 x3 h g => K (x1, x2, x3, h, g)) (nI i) (nI z) (nI p.length) h g3 := by
      intro z g3 n ez
      unfold j_X3_spareOf_47
      rintro _ rfl
      exact hK _ ⟨p ++ [a], d, by rw [el, List.append_assoc]; rfl, by rw [List.length_append]; show p.length + 1 ≤ i; omega, rfl, by rw [ez], by rw [List.length_append]; exact (nI_1 p.length).symm, rfl⟩ hd
    rw [nI_eq (by omega) (by omega)]
    refine ⟨fun n => ⟨fun e => nx _ _ n ?_, fun e => ?_⟩, fun e => ⟨rfl, by rw [el, ← e, t_mid]⟩⟩
    · rcases Nat.eq_zero_or_pos a with q | q
      · rw [q, FnG.app]; rfl
      · obtain ⟨s, rfl⟩ : ∃ s, a = s + 1 := ⟨a - 1, by omega⟩
        rw [nI_pred] at e; exact absurd e (nI_nm (by omega))
    · obtain ⟨s, rfl⟩ : ∃ s, a = s + 1 := ⟨a - 1, by
        have : a ≠ 0 := fun q => e (by rw [q]; decide)
        omega⟩
      rw [nI_pred, shl_t s (by omega), nI_or]
      rintro _ rfl
      exact nx _ _ n (by rw [FnG.app]; rfl)
theorem q_X10_taking {h : HI} {g : HL} {f : Nat → Int32} {M S : Nat} (hC : CI h) (v : VR f) (T : STb h f M S) (hM : M ≤ 6) (hS : S ≤ 9) {x1 : Int32} : w_X10_taking x1 h g (fun r h' _ => JJ SGv h h' ∧ ATK f S M x1 r) := by
  obtain ⟨l, t⟩ : ∃ l, TKG f S M l := TKp.ex M 0 0 (Nat.zero_add M)
  have nn : ∀ q, q ≤ 80 → ¬ SGv q := fun q hq => by unfold SGv; omega
  have j22 : ∀ g1 : HL, (x1 = -1 ∨ ∃ i, i < M ∧ x1 = nI i) → j_X10_taking_22 (fun r h' _ => JJ SGv h h' ∧ ATK f S M x1 r) x1 h g1 := by
    intro g1 hx
    unfold j_X10_taking_22
    refine c_v (q_X3_find hC v T hM hS) ?_
    rintro h2 g2 ⟨J2, G2, B2⟩
    rcases hx with e | ⟨i, hi, e⟩
    · refine ⟨fun n => absurd e n, fun _ => ?_⟩
      refine c_my ?_
      refine ⟨J2, .inr (.inl ⟨e, fun k tk => ?_⟩)⟩
      exact tk_top tk (B2 0 (Nat.zero_le M) 0 (Nat.pow_pos (by decide)) (by rw [pc_0]; exact Nat.le_refl 0))
    · refine ⟨fun _ => ?_, fun q => absurd (e.symm.trans q) (nI_nm (by omega))⟩
      rw [e]
      refine c_i (q_X3_spareOf v (T.jj J2 nn) hM hS G2 B2 t hi) ?_
      rintro r _ g3 ⟨rfl, er⟩
      exact ⟨J2, .inr (.inr ⟨i, hi, rfl, fun k tk => by rw [tk.un t]; exact er⟩)⟩
  unfold w_X10_taking
  refine ⟨fun e => j22 _ (.inl e), fun n => ?_⟩
  refine c_hb (fun q => ⟨fun _ => ?_, fun c => absI c⟩) (fun q => ⟨fun c => absurd rfl c, fun _ => ⟨JJ.rf, .inl ⟨n, by rw [T.1.2.2.1] at q; exact q, rfl⟩⟩⟩)
  rw [T.1.2.2.1] at q
  unfold isRow at q
  rw [nI_toInt (by omega)] at q
  obtain ⟨i, i1, i2, e⟩ := bd_nI (b := 5) (x := x1) ⟨q.1, by omega⟩
  refine j22 _ (.inr ⟨i, ?_, e⟩)
  rw [e, nI_toInt i2] at q; omega
end
section
-- 79.t.e.ref
/-! TAKING of the reference -/
theorem LX_mono : ∀ {q l r : List Nat}, LX l q → LX l (q ++ r)
  | [], _, _, h => h.elim
  | b :: q, [], _, h => h.elim
  | b :: q, a :: l, r, h => h.imp id (fun x => ⟨x.1, LX_mono x.2⟩)
theorem LX_push : ∀ {q l : List Nat}, LX l (q ++ [0]) ↔ LX l q
  | [], [] => Iff.rfl
  | [], a :: l => ⟨fun h => by
    have h : a < 0 ∨ (a = 0 ∧ False) := h
    exact h.elim (fun q => absurd q (Nat.not_lt_zero a)) (fun q => q.2.elim), fun h => h.elim⟩
  | b :: q, [] => Iff.rfl
  | b :: q, a :: l => by
    show (a < b ∨ (a = b ∧ LXq (q ++ [0]) l)) ↔ (a < b ∨ (a = b ∧ LXq q l))
    rw [show LXq (q ++ [0]) l ↔ LXq q l from LX_push]
theorem LX_next {c : Nat} : ∀ {p l : List Nat}, LX l (p ++ [c + 1]) ↔ LX l (p ++ [c]) ∨ ∃ r, l = p ++ c :: r
  | [], [] => ⟨fun h => h.elim, fun h => h.elim id (fun ⟨_, e⟩ => by simp at e)⟩
  | [], a :: l => by
    show (a < c + 1 ∨ (a = c + 1 ∧ False)) ↔ (a < c ∨ (a = c ∧ False)) ∨ ∃ r, a :: l = c :: r
    constructor
    · rintro (h | h)
      · by_cases e : a = c
        · subst e; exact .inr ⟨l, rfl⟩
        · exact .inl (.inl (by omega))
      · exact h.2.elim
    · rintro ((h | h) | ⟨r, e⟩)
      · exact .inl (by omega)
      · exact h.2.elim
      · have : a = c := (List.cons.inj e).1
        exact .inl (by omega)
  | b :: p, [] => ⟨fun h => h.elim, fun h => h.elim id (fun ⟨_, e⟩ => by simp at e)⟩
  | b :: p, a :: l => by
    show (a < b ∨ (a = b ∧ LXq (p ++ [c + 1]) l)) ↔ (a < b ∨ (a = b ∧ LXq (p ++ [c]) l)) ∨ ∃ r, a :: l = b :: (p ++ c :: r)
    rw [show LXq (p ++ [c + 1]) l ↔ LXq (p ++ [c]) l ∨ ∃ r, l = p ++ c :: r from LX_next]
    constructor
    · rintro (h | ⟨h, h' | ⟨r, h'⟩⟩)
      · exact .inl (.inl h)
      · exact .inl (.inr ⟨h, h'⟩)
      · exact .inr ⟨r, by rw [h, h']⟩
    · rintro ((h | h) | ⟨r, e⟩)
      · exact .inl h
      · exact .inr ⟨h.1, .inl h.2⟩
      · obtain ⟨e1, e2⟩ := List.cons.inj e
        exact .inr ⟨e1, .inr ⟨r, e2⟩⟩
theorem LX_pop {f : Nat → Int32} {S a : Nat} {p l : List Nat} (v : VlG f S 0 0 l) (hl : p.length + 1 < l.length) (h : LX l (p ++ [a + 1])) : LX l ((p ++ [a]) ++ [S + 1]) := by
  rcases LX_next.mp h with h | ⟨r, e⟩
  · exact LX_mono h
  · match r, e with
    | [], e => rw [e, List.length_append] at hl; exact absurd hl (by show ¬ p.length + 1 < p.length + 1; omega)
    | y :: r, e =>
      rw [e] at v
      have o := (VlG.app.mp v).2.2.1
      have hy := okG_le o
      rw [e, List.append_assoc, LX.app]
      exact .inr ⟨rfl, .inl (by omega)⟩
/-- what was found among the D -/
def Bst (f : Nat → Int32) (S n : Nat) (D : List Nat → Prop) (best : Int32) (gt : Nat → Int32) : Prop := (best = -1 ∧ ∀ l : List Nat, 0 + l.length = n → VlG f S 0 0 l → D l → yrV f S (FnG 0 l) = -1) ∨ ∃ b : List Nat, 0 + b.length = n ∧ VlG f S 0 0 b ∧ D b ∧ best = yrV f S (FnG 0 b) ∧ (∀ k, k < n → gt k = nI (b.getD k 0) - 1) ∧ ∀ l : List Nat, 0 + l.length = n → VlG f S 0 0 l → D l → yrV f S (FnG 0 l) < yrV f S (FnG 0 b) ∨ (yrV f S (FnG 0 l) = yrV f S (FnG 0 b) ∧ (l = b ∨ LX b l))
theorem Bst.cg {f : Nat → Int32} {S n : Nat} {D E : List Nat → Prop} {best : Int32} {gt : Nat → Int32} (a : Bst f S n D best gt) (e : ∀ l : List Nat, 0 + l.length = n → VlG f S 0 0 l → (D l ↔ E l)) : Bst f S n E best gt := by
  rcases a with ⟨a1, a2⟩ | ⟨b, b1, b2, b3, b4, b5, b6⟩
  · exact .inl ⟨a1, fun l hl vl dl => a2 l hl vl ((e l hl vl).mpr dl)⟩
  · exact .inr ⟨b, b1, b2, (e b b1 b2).mp b3, b4, b5, fun l hl vl dl => b6 l hl vl ((e l hl vl).mpr dl)⟩
theorem yr_ge {f : Nat → Int32} {S z : Nat} (v : VR f) (hS : S ≤ 9) : -1 ≤ (yrV f S z).toInt := by
  have b : ∀ k, k ≤ 9 → ysS f z k ≤ 50 * k := fun k => by
    induction k with
    | zero => intro _; exact Nat.le_refl 0
    | succ k ih =>
      intro hk
      have := ih (by omega)
      obtain ⟨-, ⟨y, y50, ey⟩, -⟩ := v.sp3 (s := k) (by omega)
      show ysS f z k + (if z.testBit k = true then (f (710 + 3 * k + 1)).toNatClampNeg else 0) ≤ 50 * (k + 1)
      rw [ey, nI_clamp (by omega)]
      split <;> omega
  by_cases c : brk f S z
  · rw [yrV_b c, im1]; omega
  · rw [yrV_n c, nI_toInt (by have := b S hS; omega)]; omega
/-- one more: it is behind all that were found -/
theorem Bst.add {f : Nat → Int32} {S n : Nat} {D : List Nat → Prop} {best : Int32} {gt gt' : Nat → Int32} {q : List Nat} (v : VR f) (hS : S ≤ 9) (a : Bst f S n D best gt) (hq : 0 + q.length = n) (vq : VlG f S 0 0 q) (bh : ∀ l : List Nat, 0 + l.length = n → VlG f S 0 0 l → D l → LX l q) : (yrV f S (FnG 0 q) ≤ best → Bst f S n (fun l => D l ∨ l = q) best gt) ∧ (¬ yrV f S (FnG 0 q) ≤ best → (∀ k, k < n → gt' k = nI (q.getD k 0) - 1) → Bst f S n (fun l => D l ∨ l = q) (yrV f S (FnG 0 q)) gt') := by
  rw [Int32.le_iff_toInt_le]
  have g := yr_ge (z := FnG 0 q) v hS
  rcases a with ⟨a1, a2⟩ | ⟨b, b1, b2, b3, b4, b5, b6⟩
  · rw [a1, im1]
    refine ⟨fun c => .inl ⟨rfl, fun l hl vl dl => dl.elim (a2 l hl vl) (fun e => ?_)⟩, fun c g' => .inr ⟨q, hq, vq, .inr rfl, rfl, g', fun l hl vl dl => dl.elim (fun d => ?_) (fun e => .inr ⟨by rw [e], .inl e⟩)⟩⟩
    · rw [e]; exact Int32.toInt_inj.mp (by rw [im1]; omega)
    · rw [a2 l hl vl d]; exact .inl (by rw [Int32.lt_iff_toInt_lt, im1]; omega)
  · rw [b4]
    refine ⟨fun c => .inr ⟨b, b1, b2, .inl b3, rfl, b5, fun l hl vl dl => dl.elim (b6 l hl vl) (fun e => ?_)⟩, fun c g' => .inr ⟨q, hq, vq, .inr rfl, rfl, g', fun l hl vl dl => dl.elim (fun d => ?_) (fun e => .inr ⟨by rw [e], .inl e⟩)⟩⟩
    · rw [e]
      by_cases r : (yrV f S (FnG 0 q)).toInt = (yrV f S (FnG 0 b)).toInt
      · exact .inr ⟨Int32.toInt_inj.mp r, .inr (bh b b1 b2 b3)⟩
      · exact .inl (by rw [Int32.lt_iff_toInt_lt]; omega)
    · refine .inl ?_
      rw [Int32.lt_iff_toInt_lt]
      rcases b6 l hl vl d with h | ⟨h, -⟩
      · rw [Int32.lt_iff_toInt_lt] at h; omega
      · rw [h]; omega
theorem q_X11_givenTo {h : HI} {g : HL} {p : List Nat} (hp : p.length ≤ 6) (h9 : ∀ a ∈ p, a ≤ 9) (eg : ∀ k, k < p.length → h 144 k = nI (p.getD k 0) - 1) : w_X11_givenTo (nI p.length) h g (fun r h' g' => h = h' ∧ g = g' ∧ r = nI (FnG 0 p)) := by
  unfold w_X11_givenTo
  refine lpE_intro (fun ⟨a_q, b_q, c_q, h_q, g_q⟩ => ∃ p1 p2 : List Nat, p = p1 ++ p2 ∧ nI p.length = a_q ∧ nI (FnG 0 p1) = b_q ∧ nI p1.length = c_q ∧ h = h_q ∧ g = g_q) (fun ⟨_, _, c_q, _, _⟩ => dif (nI p.length) c_q) ?_ _ ⟨[], p, rfl, rfl, nI_0, nI_0, rfl, rfl⟩
  rintro ⟨y1, y2, y3, h1, g1⟩ K ⟨p1, p2, ep, rfl, rfl, rfl, rfl, rfl⟩ hK
  have el : p.length = p1.length + p2.length := by rw [ep, List.length_append]
  unfold F_X11_givenTo_4; dsimp only; unfold b_X11_givenTo_4
  match p2, ep, el with
  | [], ep, el =>
    have ep : p = p1 := by rw [ep, List.append_nil]
    subst ep
    exact ⟨fun _ => ⟨rfl, rfl, rfl⟩, fun c => absurd (Int32.le_refl _) c⟩
  | a :: p2, ep, el =>
    have el : p.length = p1.length + (p2.length + 1) := el
    refine ⟨fun c => ?_, fun c => ?_⟩
    · rw [nI_leI (by omega) (by omega)] at c; omega
    have hd := dif_lt c
    have v : vp_in (nI p1.length) 6 := vp_in_nI (by omega) (by omega)
    have ha : a ≤ 9 := h9 a (by rw [ep]; simp)
    rw [nI_clamp (n := p1.length) (by omega), eg p1.length (by omega), ep, t_mid p1]
    have nx : ∀ (w : Int32), nI (FnG 0 p1) ||| w = nI (FnG 0 (p1 ++ [a])) → j_X11_givenTo_32 (fun r h' g' => h = h' ∧ g = g' ∧ r = nI (FnG 0 (p1 ++ a :: p2))) (fun x1 x2 x3 h g => K (x1, x2, x3, h, g)) (nI (p1 ++ a :: p2).length) (nI p1.length) (nI (FnG 0 p1)) w h g := by
      intro w ew
      unfold j_X11_givenTo_32
      rintro _ rfl
      rintro _ rfl
      rw [ew, ← ep]
      exact hK _ ⟨p1 ++ [a], p2, by rw [ep, List.append_assoc]; rfl, rfl, rfl, by rw [List.length_append]; exact (nI_1 p1.length).symm, rfl, rfl⟩ hd
    refine and_have v (fun _ => ⟨fun n => ⟨v, nx _ ?_⟩, fun e => nx _ ?_⟩)
    · obtain ⟨s, rfl⟩ : ∃ s, a = s + 1 := ⟨a - 1, by
        have : a ≠ 0 := fun q => n (by rw [q]; decide)
        omega⟩
      rw [nI_pred, shl_t s (by omega), nI_or, FnG.app]; rfl
    · rcases Nat.eq_zero_or_pos a with q | q
      · rw [q, show (0 : Int32) = nI 0 from rfl, nI_or, Nat.or_zero, FnG.app]; rfl
      · obtain ⟨s, rfl⟩ : ∃ s, a = s + 1 := ⟨a - 1, by omega⟩
        rw [nI_pred] at e; exact absurd e (nI_nm (by omega))
theorem q_X11_mayGet {h : HI} {g : HL} {f : Nat → Int32} {S m z a : Nat} (ef : h 136 = f) (hS : S ≤ 9) (hm : m < 6) (hz : z < 512) (ha : a ≤ S) (eg : h 144 m = nI a - 1) : w_X11_mayGet (nI m) (nI z) h g (fun r h' g' => h = h' ∧ g = g' ∧ ((r = 1 ∧ okG f S m z a) ∨ (r = 0 ∧ ¬ okG f S m z a))) := by
  subst ef
  unfold w_X11_mayGet
  rw [nI_clamp (n := m) (by omega), eg]
  refine and_have (vp_in_nI (by omega) (by omega)) (fun _ => ?_)
  rintro _ rfl
  refine ⟨fun e => ?_, fun n => ?_⟩
  · have : a = 0 := by
      rcases Nat.eq_zero_or_pos a with q | q
      · exact q
      · obtain ⟨s, rfl⟩ : ∃ s, a = s + 1 := ⟨a - 1, by omega⟩
        rw [nI_pred] at e; exact absurd e (nI_nm (by omega))
    unfold j_X11_mayGet_45
    exact ⟨rfl, rfl, .inl ⟨rfl, .inl this⟩⟩
  · obtain ⟨s, rfl⟩ : ∃ s, a = s + 1 := ⟨a - 1, by
      have : a ≠ 0 := fun q => n (by rw [q]; decide)
      omega⟩
    rw [nI_pred, show (710 : Int32) + ((3 : Int32) * nI s) = nI (710 + 3 * s) from ix2 710 3 s, show (704 : Int32) + nI m = nI (704 + m) from nI_add 704 m, nI_clamp (n := 710 + 3 * s) (by omega), nI_clamp (n := 704 + m) (by omega), t_0 (a := z) (by omega) (by omega)]
    refine and_have (vp_in_nI (by omega) (by omega)) (fun _ => and_have (vp_in_nI (by omega) (by omega)) (fun _ => ⟨fun c => ⟨rfl, rfl, .inr ⟨rfl, ?_⟩⟩, fun c => ⟨fun d => ⟨rfl, rfl, .inr ⟨rfl, ?_⟩⟩, fun d => ?_⟩⟩))
    · rintro (e | ⟨s', e, h1, h2, h3⟩)
      · exact absurd e (by omega)
      · have : s = s' := by omega
        subst this
        exact c h2
    · rintro (e | ⟨s', e, h1, h2, h3⟩)
      · exact absurd e (by omega)
      · have : s = s' := by omega
        subst this
        exact d h3
    · unfold j_X11_mayGet_45
      exact ⟨rfl, rfl, .inl ⟨rfl, .inr ⟨s, rfl, by omega, c, d⟩⟩⟩
def SmN (f : Nat → Int32) (z k : Nat) (b : Bool) (x : Int32) : Prop := ∃ A, A < 16 ∧ x = nI A ∧ ∀ p, A.testBit p = true ↔ p < 4 ∧ ∃ s, s < k ∧ z.testBit s = b ∧ f (710 + 3 * s + 2) = nI p
theorem SmN.zero {f : Nat → Int32} {z : Nat} {b : Bool} : SmN f z 0 b 0 := ⟨0, by decide, nI_0.symm, fun p => by
  rw [Nat.zero_testBit]
  exact ⟨fun h => absurd h (by decide), fun ⟨_, s, hs, _⟩ => absurd hs (Nat.not_lt_zero s)⟩⟩
theorem SmN.no {f : Nat → Int32} {z k : Nat} {b : Bool} {x : Int32} (a : SmN f z k b x) (n : ∀ p, p < 4 → z.testBit k = b → ¬ f (710 + 3 * k + 2) = nI p) : SmN f z (k + 1) b (x ||| 0) := by
  obtain ⟨A, A1, rfl, A2⟩ := a
  refine ⟨A, A1, by rw [show (0 : Int32) = nI 0 from rfl, nI_or, Nat.or_zero], fun p => ?_⟩
  rw [A2 p]
  constructor
  · rintro ⟨p4, s, hs, x⟩
    exact ⟨p4, s, by omega, x⟩
  · rintro ⟨p4, s, hs, x1, x2⟩
    refine ⟨p4, s, ?_, x1, x2⟩
    have : s ≠ k := fun e => n p p4 (by rw [← e]; exact x1) (by rw [← e]; exact x2)
    omega
theorem SmN.yes {f : Nat → Int32} {z k p : Nat} {b : Bool} {x : Int32} (a : SmN f z k b x) (p4 : p < 4) (e1 : z.testBit k = b) (e2 : f (710 + 3 * k + 2) = nI p) : SmN f z (k + 1) b (x ||| nI (2 ^ p)) := by
  obtain ⟨A, A1, rfl, A2⟩ := a
  refine ⟨A ||| 2 ^ p, Nat.or_lt_two_pow (n := 4) A1 (Nat.pow_lt_pow_right (by decide) p4), nI_or _ _, fun q => ?_⟩
  rw [tb_or]
  by_cases c : p = q
  · subst c
    rw [decide_eq_true rfl, Bool.or_true]
    exact ⟨fun _ => ⟨p4, k, by omega, e1, e2⟩, fun _ => rfl⟩
  · rw [decide_eq_false c, Bool.or_false, A2 q]
    constructor
    · rintro ⟨q4, s, hs, x⟩
      exact ⟨q4, s, by omega, x⟩
    · rintro ⟨q4, s, hs, x1, x2⟩
      refine ⟨q4, s, ?_, x1, x2⟩
      have : s ≠ k := fun e => c (by
        subst e
        exact (nI_eq (by omega) (by omega)).mp (e2.symm.trans x2))
      omega
theorem q_X11_yearsOf {h : HI} {g : HL} {f : Nat → Int32} {S z : Nat} (ef : h 136 = f) (v : VR f) (eS : f 5 = nI S) (hS : S ≤ 9) (hz : z < 512) : w_X11_yearsOf (nI z) h g (fun r h' g' => h = h' ∧ g = g' ∧ r = yrV f S z) := by
  subst ef
  unfold w_X11_yearsOf
  refine lpE_intro (fun ⟨a_q, b_q, c_q, d_q, e_q, h_q, g_q⟩ => ∃ k : Nat, k ≤ S ∧ nI z = a_q ∧ nI (ysS (h 136) z k) = b_q ∧ nI k = e_q ∧ h = h_q ∧ g = g_q ∧ SmN (h 136) z k true c_q ∧ SmN (h 136) z k false d_q) (fun ⟨_, _, _, _, e_q, _, _⟩ => dif (nI S) e_q) ?_ _ ⟨0, Nat.zero_le _, rfl, nI_0, nI_0, rfl, rfl, SmN.zero, SmN.zero⟩
  rintro ⟨y1, y2, so, no, y5, h1, g1⟩ K ⟨k, hk, rfl, rfl, rfl, rfl, rfl, A, N⟩ hK
  unfold F_X11_yearsOf_10; dsimp only; unfold b_X11_yearsOf_10
  rw [show (5 : Int32).toNatClampNeg = 5 by decide, eS]
  refine and_have (vp_in_iff.mpr (by decide)) (fun _ => ⟨fun c => ?_, fun c => ?_⟩)
  · rw [nI_leI (by omega) (by omega)] at c
    have : k = S := by omega
    subst this
    obtain ⟨An, A1, rfl, A2⟩ := A
    obtain ⟨Nn, N1, rfl, N2⟩ := N
    have h16 : An &&& Nn < 16 := Nat.lt_of_le_of_lt Nat.and_le_left A1
    rw [nI_and, nI_z (by omega)]
    have bi : brk (h 136) k z ↔ ¬ An &&& Nn = 0 := by
      rw [brk_iff v hS]
      constructor
      · rintro ⟨p, p4, s, u, s1, u1, s2, u2, e1, e2⟩ c0
        have : (An &&& Nn).testBit p = true := by rw [Nat.testBit_and, (A2 p).mpr ⟨p4, s, s1, s2, e1⟩, (N2 p).mpr ⟨p4, u, u1, u2, e2⟩]; rfl
        rw [c0, Nat.zero_testBit] at this
        exact absurd this (by decide)
      · intro c0
        by_cases q : ∃ p, An.testBit p = true ∧ Nn.testBit p = true
        · obtain ⟨p, q1, q2⟩ := q
          obtain ⟨p4, s, s1, s2, s3⟩ := (A2 p).mp q1
          obtain ⟨-, u, u1, u2, u3⟩ := (N2 p).mp q2
          exact ⟨p, p4, s, u, s1, u1, s2, u2, s3, u3⟩
        · refine absurd (Nat.eq_of_testBit_eq (fun i => ?_)) c0
          rw [Nat.testBit_and, Nat.zero_testBit]
          cases ea : An.testBit i <;> cases en : Nn.testBit i <;> first | rfl | exact absurd ⟨i, ea, en⟩ q
    exact ⟨fun e => ⟨rfl, rfl, (yrV_n (fun b => bi.mp b e)).symm⟩, fun e => ⟨rfl, rfl, (yrV_b (bi.mpr e)).symm⟩⟩
  have hd := dif_lt c
  rw [nI_leI (by omega) (by omega)] at c
  obtain ⟨-, ⟨y, y50, ey⟩, ep⟩ := v.sp3 (s := k) (by omega)
  rw [show ((710 : Int32) + ((3 : Int32) * nI k)) + (2 : Int32) = nI (710 + 3 * k + 2) from ix3 710 3 k 2, nI_clamp (n := 710 + 3 * k + 2) (by omega), t_1 (a := z) (by omega) (by omega)]
  refine and_have (vp_in_nI (by omega) (by omega)) (fun _ => ?_)
  rintro x6 e6
  have j125 : ∀ (a b s0 s1 : Int32), a = nI (ysS (h 136) z (k + 1)) → SmN (h 136) z (k + 1) true b → SmN (h 136) z (k + 1) false (s0 ||| s1) → j_X11_yearsOf_125 (fun r h' g' => h = h' ∧ g = g' ∧ r = yrV (h 136) S z) (fun x1 x2 x3 x4 x5 h g => K (x1, x2, x3, x4, x5, h, g)) (nI z) a b (nI k) s0 s1 h g := by
    intro a b s0 s1 ea hb hs
    unfold j_X11_yearsOf_125
    rintro _ rfl
    rintro _ rfl
    exact hK _ ⟨k + 1, by omega, rfl, ea.symm, (nI_1 k).symm, rfl, rfl, hb, hs⟩ hd
  have j102 : ∀ (a d s0 s1 : Int32), (d = 0 ∨ d = 1) → (d = 1 ↔ z.testBit k = true) → a = nI (ysS (h 136) z (k + 1)) → SmN (h 136) z (k + 1) true (s0 ||| s1) → j_X11_yearsOf_102 (fun r h' g' => h = h' ∧ g = g' ∧ r = yrV (h 136) S z) (fun x1 x2 x3 x4 x5 h g => K (x1, x2, x3, x4, x5, h, g)) (nI z) a no (nI k) x6 d s0 s1 h g := by
    intro a d s0 s1 d01 dz ea hs
    unfold j_X11_yearsOf_102 j_X11_yearsOf_124
    rintro _ rfl
    refine ⟨fun n => j125 _ _ _ _ ea hs (N.no (fun p p4 e => ?_)), fun e => ⟨fun e1 => j125 _ _ _ _ ea hs (N.no (fun p p4 _ e2 => ?_)), fun n1 => ?_⟩⟩
    · have : d = 1 := d01.elim (fun q => absurd q n) id
      rw [dz.mp this] at e; exact absurd e (by decide)
    · rw [← e6, e1] at e2; exact absurd e2.symm (nI_nm (by omega))
    · rcases ep with q | ⟨p, p4, q⟩
      · exact absurd (e6.trans q) n1
      · rw [e6, q, shl_t p (by omega)]
        refine j125 _ _ _ _ ea hs (N.yes p4 ?_ q)
        cases ez : z.testBit k with
        | false => rfl
        | true => rw [dz.mpr ez] at e; exact absurd e (by decide)
  have j80 : ∀ (d s0 s1 : Int32), (d = 0 ∨ d = 1) → (d = 1 ↔ z.testBit k = true) → s0 + s1 = nI (ysS (h 136) z (k + 1)) → j_X11_yearsOf_80 (fun r h' g' => h = h' ∧ g = g' ∧ r = yrV (h 136) S z) (fun x1 x2 x3 x4 x5 h g => K (x1, x2, x3, x4, x5, h, g)) (nI z) so no (nI k) x6 d s0 s1 h g := by
    intro d s0 s1 d01 dz ea
    unfold j_X11_yearsOf_80 j_X11_yearsOf_101
    rintro _ rfl
    refine ⟨fun e => j102 _ _ _ _ d01 dz ea (A.no (fun p p4 e1 => ?_)), fun n => ⟨fun e1 => j102 _ _ _ _ d01 dz ea (A.no (fun p p4 _ e2 => ?_)), fun n1 => ?_⟩⟩
    · rw [dz.mpr e1] at e; exact absurd e (by decide)
    · rw [← e6, e1] at e2; exact absurd e2.symm (nI_nm (by omega))
    · rcases ep with q | ⟨p, p4, q⟩
      · exact absurd (e6.trans q) n1
      · rw [show (1 : Int32) <<< (x6 &&& 31) = nI (2 ^ p) by rw [e6, q, shl_t p (by omega)]]
        exact j102 _ _ _ _ d01 dz ea (A.yes p4 (dz.mp (d01.elim (fun q => absurd q n) id)) q)
  have ys : ysS (h 136) z (k + 1) = ysS (h 136) z k + (if z.testBit k = true then y else 0) := by
    show ysS (h 136) z k + (if z.testBit k = true then (h 136 (710 + 3 * k + 1)).toNatClampNeg else 0) = _
    rw [ey, nI_clamp (by omega)]
  refine ⟨fun n => ?_, fun e => ?_⟩
  · unfold j_X11_yearsOf_53
    refine ⟨fun _ => j80 _ _ _ (.inl rfl) ⟨fun q => absurd q (by decide), fun q => absurd q n⟩ (by rw [ys, if_neg n, show (0 : Int32) = nI 0 from rfl, nI_add]), fun q => absurd rfl q⟩
  · unfold j_X11_yearsOf_53
    rw [show ((710 : Int32) + ((3 : Int32) * nI k)) + (1 : Int32) = nI (710 + 3 * k + 1) from ix3 710 3 k 1, nI_clamp (n := 710 + 3 * k + 1) (by omega), ey]
    exact ⟨fun q => absurd q (by decide), fun _ => ⟨vp_in_nI (by omega) (by omega), j80 _ _ _ (.inr rfl) ⟨fun _ => e, fun _ => rfl⟩ (by rw [ys, if_pos e, nI_add])⟩⟩
end
section
-- 79.t.f.search
/-! TAKING: the search of the reference -/
theorem LX_cut {x : Nat} : ∀ {q l : List Nat}, LX l (q ++ [x]) → LX l q ∨ ∃ r, l = q ++ r
  | [], l, _ => .inr ⟨l, rfl⟩
  | _ :: _, [], h => h.elim
  | b :: q, a :: l, h => by
    have h : a < b ∨ (a = b ∧ LXq (q ++ [x]) l) := h
    rcases h with h | ⟨h, h'⟩
    · exact .inl (.inl h)
    · rcases LX_cut h' with k | ⟨r, k⟩
      · exact .inl (.inr ⟨h, k⟩)
      · exact .inr ⟨r, by rw [h, k]; rfl⟩
theorem full_of {f : Nat → Int32} {S n c : Nat} {p l : List Nat} (hl : 0 + l.length = n) (vl : VlG f S 0 0 l) (hp : p.length + 1 = n) : (LX l (p ++ [c + 1]) ↔ LX l (p ++ [c]) ∨ l = p ++ [c]) := by
  rw [LX_next]
  constructor
  · rintro (h | ⟨r, e⟩)
    · exact .inl h
    · rw [e, List.length_append] at hl
      have : (c :: r).length = r.length + 1 := rfl
      have : r = [] := List.eq_nil_of_length_eq_zero (by omega)
      rw [this] at e
      exact .inr e
  · rintro (h | e)
    · exact .inl h
    · exact .inr ⟨[], e⟩
set_option maxHeartbeats 2000000 in
theorem q_X11_findTaking {h : HI} {g : HL} {f : Nat → Int32} {M S : Nat} (ef : h 136 = f) (v : VR f) (eM : f 4 = nI M) (eS : f 5 = nI S) (hM : M ≤ 6) (hS : S ≤ 9) : w_X11_findTaking h g (fun r h' _ => KJ STk h h' ∧ ∃ l, TKG f S M l ∧ r = yrV f S (FnG 0 l) ∧ ∀ k, k < M → h' 145 k = nI (l.getD k 0) - 1) := by
  subst ef
  have p5 : 2 ^ S ≤ 512 := (Nat.pow_le_pow_right (by decide) hS : 2 ^ S ≤ 2 ^ 9)
  have yr0 : yrV (h 136) S 0 = 0 := by
    have nb : ¬ brk (h 136) S 0 := fun ⟨s, u, s1, u1, s2, _⟩ => by rw [Nat.zero_testBit] at s2; exact absurd s2 (by decide)
    have z : ∀ k, ysS (h 136) 0 k = 0 := fun k => by
      induction k with
      | zero => rfl
      | succ k ih =>
        show ysS (h 136) 0 k + (if (0 : Nat).testBit k = true then _ else 0) = 0
        rw [ih, Nat.zero_testBit]; rfl
    rw [yrV_n nb, z]; exact nI_0
  unfold w_X11_findTaking
  refine and_have (vp_in_iff.mpr (by decide)) (fun _ => ?_)
  rintro _ rfl
  rw [show (4 : Int32).toNatClampNeg = 4 by decide, eM]
  -- the end
  have fin : ∀ (best : Int32) (h2 : HI) (g2 : HL), KJ STk h h2 → (M = 0 ∧ best = 0 ∨ 1 ≤ M ∧ Bst (h 136) S M (fun _ => True) best (h2 145)) → (fun (r : Int32) (h' : HI) (_ : HL) => KJ STk h h' ∧ ∃ l, TKG (h 136) S M l ∧ r = yrV (h 136) S (FnG 0 l) ∧ ∀ k, k < M → h' 145 k = nI (l.getD k 0) - 1) best h2 g2 := by
    intro best h2 g2 J x
    refine ⟨J, ?_⟩
    rcases x with ⟨e, eb⟩ | ⟨h1, x⟩
    · refine ⟨[], ⟨by rw [e]; rfl, trivial, fun k ek vk => ?_⟩, by rw [eb]; exact yr0.symm, fun k hk => by omega⟩
      have : k = [] := List.eq_nil_of_length_eq_zero (by omega)
      subst this
      exact .inr ⟨rfl, .inl rfl⟩
    · rcases x with ⟨-, x⟩ | ⟨b, b1, b2, -, b4, b5, b6⟩
      · exfalso
        have zl : ∀ n m z, VlG (h 136) S m z (List.replicate n 0) ∧ FnG z (List.replicate n 0) = z := fun n => by
          induction n with
          | zero => intro m z; exact ⟨trivial, rfl⟩
          | succ n ih =>
            intro m z
            have := ih (m + 1) z
            exact ⟨⟨.inl rfl, this.1⟩, this.2⟩
        have := x (List.replicate M 0) (by rw [List.length_replicate]; omega) (zl M 0 0).1 trivial
        rw [(zl M 0 0).2, yr0] at this
        exact absurd this (by decide)
      · exact ⟨b, ⟨b1, b2, fun l hl vl => b6 l hl vl trivial⟩, b4, b5⟩
  have j26 : ∀ (best : Int32) (mm : Nat), (M = 0 ∧ mm = 0 ∧ best = 0 ∨ 1 ≤ M ∧ mm = 1 ∧ best = -1) → j_X11_findTaking_26 (fun r h' _ => KJ STk h h' ∧ ∃ l, TKG (h 136) S M l ∧ r = yrV (h 136) S (FnG 0 l) ∧ ∀ k, k < M → h' 145 k = nI (l.getD k 0) - 1) (nI M) best (nI mm - 1) h g := by
    intro best mm hmm
    unfold j_X11_findTaking_26
    rw [cl0]
    refine and_have (vp_in_iff.mpr (by decide)) (fun _ => ?_)
    intro h1 e1
    refine lpE_intro (fun q => ∃ mm : Nat, mm ≤ M ∧ nI M = q.1 ∧ nI mm - 1 = q.2.2.1 ∧ KJ STk h q.2.2.2.1 ∧ ((mm = 0 ∧ (M = 0 ∧ q.2.1 = 0 ∨ 1 ≤ M ∧ Bst (h 136) S M (fun _ => True) q.2.1 (q.2.2.2.1 145))) ∨ ∃ (p : List Nat) (c : Nat), mm = p.length + 1 ∧ VlG (h 136) S 0 0 p ∧ (∀ k, k < p.length → q.2.2.2.1 144 k = nI (p.getD k 0) - 1) ∧ c ≤ S + 1 ∧ (q.2.2.2.1 144 p.length).toInt = (c : Int) - 2 ∧ Bst (h 136) S M (fun l => LX l (p ++ [c])) q.2.1 (q.2.2.2.1 145))) (fun q => ms (q.2.2.2.1 144) S (prd q.2.2.1)) ?_ _ ⟨mm, by omega, rfl, rfl, KJ.rf.hu e1 (by unfold STk; omega), ?_⟩
    · clear e1
      rintro ⟨y1, best, y3, h2, g2⟩ K ⟨mm, hm, rfl, rfl, J, I⟩ hK
      dsimp only at J I
      unfold F_X11_findTaking_35; dsimp only; unfold b_X11_findTaking_35
      refine ⟨fun c0 => ?_, fun c0 => ?_⟩
      · rcases I with ⟨e, x⟩ | ⟨p, c, e, -⟩
        · exact fin _ _ g2 J x
        · rw [e, nI_pred] at c0; exact absurd c0 (nI_pos (by omega))
      rcases I with ⟨e, -⟩ | ⟨p, c, rfl, vp, eg, hc, ec, B⟩
      · rw [e] at c0; exact absurd (by decide) c0
      have hp6 : p.length ≤ 5 := by omega
      have ep : ∀ k : Nat, k ≤ 7 → prd (nI k) = k + 1 := by
        intro k hk
        unfold prd
        rw [nI_toInt (by omega)]; omega
      rw [nI_pred] at hK ⊢
      rw [nI_clamp (n := p.length) (by omega)]
      have v6 : vp_in (nI p.length) 6 := vp_in_nI (by omega) (by omega)
      refine and_have v6 (fun _ => and_have v6 (fun _ => ?_))
      intro h3 e3
      have j1 : (h2 144 p.length + 1).toInt = (c : Int) - 1 := by
        rw [Int32.toInt_add, show (1 : Int32).toInt = 1 by decide, ec]
        rw [show (c : Int) - 2 + 1 = c - 1 by omega]
        exact bm (by omega) (by omega)
      have J3 : KJ STk h h3 := J.hu e3 (by unfold STk; omega)
      have e3m : h3 144 p.length = nI c - 1 := by
        rw [e3, hu_eq, pk_us]
        refine Int32.toInt_inj.mp ?_
        rw [j1, i_sub (nI_toInt (by omega)) i1 (by omega)]
      have e3o : ∀ k, k ≠ p.length → h3 144 k = h2 144 k := fun k hk => by rw [e3, hu_eq, pk_un hk]
      have e145 : h3 145 = h2 145 := by rw [e3, hu_ne (by decide)]
      have e136 : h3 136 = h 136 := funext fun k => J3 136 k (by unfold STk; omega)
      have eg3 : ∀ k, k < p.length → h3 144 k = nI (p.getD k 0) - 1 := fun k hk => by rw [e3o k (by omega)]; exact eg k hk
      have m0 : ms (h3 144) S p.length = ms (h2 144) S p.length := ms_cg (fun k hk => e3o k (by omega))
      have μ0 : ms (h2 144) S (p.length + 1) = ms (h2 144) S p.length + ((S : Int) - (h2 144 p.length).toInt).toNat * 13 ^ (5 - p.length) := rfl
      have P13 : 0 < 13 ^ (5 - p.length) := Nat.pow_pos (by omega)
      have tC : (nI c - (1 : Int32)).toInt = (c : Int) - 1 := i_sub (nI_toInt (by omega)) i1 (by omega)
      rw [e136, show (5 : Int32).toNatClampNeg = 5 by decide, eS, e3m]
      rw [ep p.length (by omega), μ0] at hK
      have hz : FnG 0 p < 2 ^ S := FnG.lt vp (Nat.pow_pos (by decide))
      have ge9 : ∀ {q : List Nat} {m z : Nat}, VlG (h 136) S m z q → ∀ a ∈ q, a ≤ 9 := by
        intro q
        induction q with
        | nil => intro m z _ a ha; exact absurd ha (by simp)
        | cons b q ih =>
          intro m z vq a ha
          rcases List.mem_cons.mp ha with e | e
          · have := okG_le vq.1; omega
          · exact ih vq.2 a e
      refine and_have v6 (fun _ => and_have (vp_in_iff.mpr (by decide)) (fun _ => ⟨fun cl => ?_, fun cl => ?_⟩))
      · have hlt : c ≤ S := by
          rw [Int32.lt_iff_toInt_lt, tC, nI_toInt (by omega)] at cl; omega
        have dec1 : ((S : Int) - (h3 144 p.length).toInt).toNat + 1 = ((S : Int) - (h2 144 p.length).toInt).toNat := by
          rw [e3m, tC, ec]; omega
        have stay : ∀ (b : Int32) (h4 : HI) (g4 : HL), KJ STk h h4 → (∀ j, h4 144 j = h3 144 j) → Bst (h 136) S M (fun l => LX l (p ++ [c + 1])) b (h4 145) → K (nI M, b, nI p.length, h4, g4) := by
          intro b h4 g4 J4 e4 B4
          refine hK _ ⟨p.length + 1, hm, rfl, (nI_pred p.length), J4, .inr ⟨p, c + 1, rfl, vp, fun k hk => by dsimp only; rw [e4]; exact eg3 k hk, by omega, by dsimp only; rw [e4, e3m, tC]; omega, B4⟩⟩ ?_
          dsimp only
          rw [ep p.length (by omega), ms_s, e4, ms_cg (f := h3 144) (fun k hk => e4 k), m0, ← dec1, Nat.add_mul, Nat.one_mul]
          omega
        refine c_i (q_X11_givenTo (by omega) (ge9 vp) eg3) ?_
        rintro r1 _ g3 ⟨rfl, rfl, rfl⟩
        refine c_z (q_X11_mayGet e136 hS (by omega) (by omega) hlt e3m) ?_
        rintro r2 _ g4 ⟨rfl, rfl, may⟩
        refine ⟨fun e0 => stay _ _ _ J3 (fun _ => rfl) ?_, fun n0 => ?_⟩
        · have no : ¬ okG (h 136) S p.length (FnG 0 p) c := by
            rcases may with ⟨e, -⟩ | ⟨-, n⟩
            · rw [e] at e0; exact absurd e0 (by decide)
            · exact n
          rw [e145]
          refine B.cg (fun l hl vl => ?_)
          rw [LX_next]
          refine ⟨.inl, fun x => x.elim id (fun ⟨r, er⟩ => ?_)⟩
          rw [er] at vl
          have := (VlG.app.mp vl).2.1
          rw [Nat.zero_add] at this
          exact absurd this no
        have ok : okG (h 136) S p.length (FnG 0 p) c := by
          rcases may with ⟨-, o⟩ | ⟨e, -⟩
          · exact o
          · exact absurd e n0
        have vq : VlG (h 136) S 0 0 (p ++ [c]) := VlG.app.mpr ⟨vp, by rw [Nat.zero_add]; exact ⟨ok, trivial⟩⟩
        have lq : (p ++ [c]).length = p.length + 1 := by rw [List.length_append]; rfl
        have egq : ∀ k, k < (p ++ [c]).length → h3 144 k = nI ((p ++ [c]).getD k 0) - 1 := fun k hk => by
          rw [lq] at hk
          by_cases q : k = p.length
          · subst q; rw [e3m, t_mid p]
          · rw [eg3 k (by omega)]
            have : (p ++ [c]).getD k 0 = p.getD k 0 := by
              rw [List.getD_eq_getElem?_getD, List.getD_eq_getElem?_getD, List.getElem?_append_left (by omega)]
            rw [this]
        rw [nI_1]
        refine ⟨fun cp => ?_, fun cp => ?_⟩
        · rw [nI_leI (by omega) (by omega)] at cp
          have hn : p.length + 1 = M := by omega
          rw [← hn, ← lq]
          refine c_i (q_X11_givenTo (by rw [lq]; omega) (ge9 vq) egq) ?_
          rintro r3 _ g5 ⟨rfl, rfl, rfl⟩
          have hzq : FnG 0 (p ++ [c]) < 2 ^ S := FnG.lt vq (Nat.pow_pos (by decide))
          refine c_i (q_X11_yearsOf e136 v eS hS (by omega)) ?_
          rintro r4 _ g6 ⟨rfl, rfl, rfl⟩
          rw [lq, hn]
          have full : 0 + (p ++ [c]).length = M := by rw [lq]; omega
          have before : ∀ l : List Nat, 0 + l.length = M → VlG (h 136) S 0 0 l → LX l (p ++ [c]) → LX l (p ++ [c]) := fun _ _ _ x => x
          have conv : ∀ {b : Int32} {gt : Nat → Int32}, Bst (h 136) S M (fun l => LX l (p ++ [c]) ∨ l = p ++ [c]) b gt → Bst (h 136) S M (fun l => LX l (p ++ [c + 1])) b gt := fun x => x.cg (fun l hl vl => (full_of hl vl hn).symm)
          have j153 : ∀ (b : Int32) (h4 : HI) (g4 : HL), KJ STk h h4 → h4 144 = h3 144 → Bst (h 136) S M (fun l => LX l (p ++ [c + 1])) b (h4 145) → j_X11_findTaking_153 (fun r h' _ => KJ STk h h' ∧ ∃ l, TKG (h 136) S M l ∧ r = yrV (h 136) S (FnG 0 l) ∧ ∀ k, k < M → h' 145 k = nI (l.getD k 0) - 1) (fun x1 x2 x3 h g => K (x1, x2, x3, h, g)) (nI M) b (nI p.length) h4 g4 := by
            intro b h4 g4 J4 e4 B4
            unfold j_X11_findTaking_153
            exact stay _ _ _ J4 (fun j => by rw [e4]) B4
          refine ⟨fun le => j153 _ _ _ J3 rfl ?_, fun gt => ?_⟩
          · rw [e145]; exact conv ((B.add (gt' := fun _ => 0) v hS full vq before).1 le)
          refine lpE_intro (fun q => ∃ k : Nat, k ≤ M ∧ nI M = q.1 ∧ yrV (h 136) S (FnG 0 (p ++ [c])) = q.2.1 ∧ nI p.length = q.2.2.1 ∧ nI k = q.2.2.2.1 ∧ KJ STk h q.2.2.2.2.1 ∧ q.2.2.2.2.1 144 = h3 144 ∧ ∀ i, i < k → q.2.2.2.2.1 145 i = h3 144 i) (fun q => dif (nI M) q.2.2.2.1) ?_ _ ⟨0, Nat.zero_le _, rfl, rfl, rfl, nI_0, J3, rfl, fun i hi => absurd hi (Nat.not_lt_zero i)⟩
          rintro ⟨z1, z2, z3, z5, h4, g4⟩ K2 ⟨k, hk, rfl, rfl, rfl, rfl, J4, e4, b4⟩ hK2
          dsimp only at J4 e4 b4
          unfold F_X11_findTaking_127; dsimp only; unfold b_X11_findTaking_127
          refine ⟨fun ck => j153 _ _ _ J4 e4 ?_, fun ck => ?_⟩
          · rw [nI_leI (by omega) (by omega)] at ck
            exact conv ((B.add v hS full vq before).2 gt (fun i hi => by rw [b4 i (by omega)]; exact egq i (by omega)))
          have hd := dif_lt ck
          rw [nI_leI (by omega) (by omega)] at ck
          have vk : vp_in (nI k) 6 := vp_in_nI (by omega) (by omega)
          rw [nI_clamp (n := k) (by omega)]
          refine and_have vk (fun _ => and_have vk (fun _ => ?_))
          intro h5 e5
          rintro _ rfl
          refine hK2 _ ⟨k + 1, by omega, rfl, rfl, rfl, (nI_1 k).symm, J4.hu e5 (by unfold STk; omega), by dsimp only; rw [e5, hu_ne (by decide)]; exact e4, fun i hi => ?_⟩ hd
          dsimp only
          rw [e5, hu_eq]
          by_cases q : i = k
          · subst q; rw [pk_us, e4]
          · rw [pk_un q]; exact b4 i (by omega)
        · rw [nI_leI (by omega) (by omega)] at cp
          rintro _ rfl
          rw [nI_clamp (n := p.length + 1) (by omega)]
          refine and_have (vp_in_nI (by omega) (by omega)) (fun _ => ?_)
          intro h4 e4
          have e4p : h4 144 (p.length + 1) = -2 := by rw [e4, hu_eq, pk_us]
          have e4o : ∀ k, k < p.length + 1 → h4 144 k = h3 144 k := fun k hk => by rw [e4, hu_eq, pk_un (by omega)]
          refine hK _ ⟨p.length + 2, by omega, rfl, nI_pred (p.length + 1), J3.hu e4 (by unfold STk; omega), .inr ⟨p ++ [c], 0, by rw [lq], vq, fun k hk => ?_, by omega, ?_, ?_⟩⟩ ?_
          · dsimp only
            rw [lq] at hk
            rw [e4o k hk]; exact egq k (by omega)
          · dsimp only
            rw [lq, e4p]; decide
          · dsimp only
            rw [e4, hu_ne (by decide), e145]
            exact B.cg (fun l hl vl => LX_push.symm)
          · dsimp only
            rw [ep (p.length + 1) (by omega), ms_s, ms_s, e4p, e4o p.length (by omega), ms_cg (f := h3 144) (fun k hk => e4o k (by omega)), m0, ← dec1, Nat.add_mul, Nat.one_mul, show (-2 : Int32).toInt = -2 by decide, p13 (m := p.length) (by omega), show 5 - (p.length + 1) = 4 - p.length by omega]
            have q1 : ((S : Int) - -2).toNat * 13 ^ (4 - p.length) ≤ 12 * 13 ^ (4 - p.length) := Nat.mul_le_mul_right _ (by omega)
            have q2 : 0 < 13 ^ (4 - p.length) := Nat.pow_pos (by omega)
            omega
      · -- one back
        have hcS : c = S + 1 := by
          rw [Int32.lt_iff_toInt_lt, tC, nI_toInt (by omega)] at cl; omega
        subst hcS
        rintro _ rfl
        have tm : 1 ≤ ((S : Int) - (h2 144 p.length).toInt).toNat := by rw [ec]; omega
        have q1 : 1 * 13 ^ (5 - p.length) ≤ ((S : Int) - (h2 144 p.length).toInt).toNat * 13 ^ (5 - p.length) := Nat.mul_le_mul_right _ tm
        have em : nI p.length + (-1) = nI p.length - 1 := by
          cases p.length with
          | zero => decide
          | succ i => rw [nI_pred, pk_m1]
        have pm : prd (nI p.length + (-1)) = p.length := by
          rw [em]
          have h7 : p.length ≤ 7 := by omega
          revert h7
          generalize p.length = k
          intro h7
          cases k with
          | zero => decide
          | succ i => rw [nI_pred, ep i (by omega)]
        refine hK _ ⟨p.length, by omega, rfl, em.symm, J3, ?_⟩ ?_
        · dsimp only
          rw [e145]
          rcases List.eq_nil_or_concat p with e | ⟨p0, a, e⟩
          · subst e
            refine .inl ⟨rfl, .inr ⟨by show 1 ≤ M; have : 0 + 1 ≤ M := hm; omega, B.cg (fun l hl vl => ⟨fun _ => trivial, fun _ => ?_⟩)⟩⟩
            match l, hl, vl with
            | [], hl, _ =>
              have hl : 0 + 0 = M := hl
              have hm : 0 + 1 ≤ M := hm
              omega
            | x :: l, hl, vl =>
              have := okG_le vl.1
              exact .inl (by omega)
          · have e : p = p0 ++ [a] := by rw [e, List.concat_eq_append]
            subst e
            have l0 : (p0 ++ [a]).length = p0.length + 1 := by rw [List.length_append]; rfl
            obtain ⟨v0, va⟩ := VlG.app.mp vp
            have ha := okG_le va.1
            refine .inr ⟨p0, a + 1, l0, v0, fun k hk => ?_, by omega, ?_, B.cg (fun l hl vl => ⟨fun h => ?_, fun h => LX_pop vl (by omega) h⟩)⟩
            · rw [eg3 k (by omega)]
              have : (p0 ++ [a]).getD k 0 = p0.getD k 0 := by
                rw [List.getD_eq_getElem?_getD, List.getD_eq_getElem?_getD, List.getElem?_append_left (by omega)]
              rw [this]
            · rw [eg3 p0.length (by omega), t_mid p0, i_sub (nI_toInt (by omega)) i1 (by omega)]; omega
            · rw [LX_next]
              rcases LX_cut h with h | ⟨r, er⟩
              · exact .inl h
              · exact .inr ⟨r, by rw [er, List.append_assoc]; rfl⟩
        · dsimp only
          rw [pm, m0]
          omega
    · rcases hmm with ⟨a1, a2, a3⟩ | ⟨a1, a2, a3⟩
      · exact .inl ⟨a2, .inl ⟨a1, a3⟩⟩
      · refine .inr ⟨[], 0, a2, trivial, fun k hk => absurd hk (Nat.not_lt_zero k), by omega, ?_, .inl ⟨a3, fun l hl vl d => ?_⟩⟩
        · dsimp only
          rw [e1, hu_eq]
          show (upd (h 144) 0 (-2) 0).toInt = _
          rw [pk_us]; decide
        · match l, d with
          | [], d => exact d.elim
          | x :: l, d =>
            have d : x < 0 ∨ (x = 0 ∧ False) := d
            exact d.elim (fun q => absurd q (Nat.not_lt_zero x)) (fun q => q.2.elim)
  refine ⟨fun n0 => ?_, fun e0 => ?_⟩
  · have : M ≠ 0 := fun q => n0 (by rw [q]; exact nI_0)
    unfold j_X11_findTaking_16
    exact ⟨fun _ => j26 (-1) 1 (.inr ⟨by omega, rfl, rfl⟩), fun e => absurd e n0⟩
  · have : M = 0 := (nI_eq (by omega) (by omega)).mp (e0.trans nI_0.symm)
    unfold j_X11_findTaking_16
    exact ⟨fun n => absurd e0 n, fun _ => j26 0 0 (.inl ⟨this, rfl, rfl⟩)⟩
theorem q_X11_taking {h : HI} {g : HL} {f : Nat → Int32} {M S : Nat} (ef : h 136 = f) (v : VR f) (eM : f 4 = nI M) (eS : f 5 = nI S) (hM : M ≤ 6) (hS : S ≤ 9) {x1 : Int32} : w_X11_taking x1 h g (fun r h' _ => KJ STk h h' ∧ ATK f S M x1 r) := by
  have j17 : ∀ g1 : HL, (x1 = -1 ∨ ∃ i, i < M ∧ x1 = nI i) → j_X11_taking_17 (fun r h' _ => KJ STk h h' ∧ ATK f S M x1 r) x1 h g1 := by
    intro g1 hx
    unfold j_X11_taking_17
    refine c_i (q_X11_findTaking ef v eM eS hM hS) ?_
    rintro rr h2 g2 ⟨J2, l, t, er, eb⟩
    rcases hx with e | ⟨i, hi, e⟩
    · exact ⟨fun n => absurd e n, fun _ => ⟨J2, .inr (.inl ⟨e, fun k tk => by rw [tk.un t]; exact er⟩)⟩⟩
    · refine ⟨fun _ => ?_, fun q => absurd (e.symm.trans q) (nI_nm (by omega))⟩
      rw [e, nI_clamp (n := i) (by omega)]
      refine and_have (vp_in_nI (by omega) (by omega)) (fun _ => ⟨J2, .inr (.inr ⟨i, hi, rfl, fun k tk => by rw [tk.un t]; exact eb i hi⟩)⟩)
  unfold w_X11_taking
  refine ⟨fun e => j17 _ (.inl e), fun n => ?_⟩
  have e4 : h 136 (4 : Int32).toNatClampNeg = nI M := by rw [show (4 : Int32).toNatClampNeg = 4 by decide, ef, eM]
  refine c_isb (k := 4) (N := 6) (vp_in_iff.mpr (by decide)) (by rw [e4]; exact bd_of (by omega) (by omega) (by omega)) (by decide) (fun q b => ⟨fun _ => ?_, fun c => absI c⟩) (fun q => ⟨fun c => absurd rfl c, fun _ => ⟨KJ.rf, .inl ⟨n, by rw [e4] at q; exact q, rfl⟩⟩⟩)
  rw [e4] at q
  unfold isRow at q
  rw [nI_toInt (by omega)] at q
  obtain ⟨i, i1, i2, e⟩ := bd_nI (b := 5) (x := x1) ⟨q.1, by omega⟩
  refine j17 _ (.inr ⟨i, ?_, e⟩)
  rw [e, nI_toInt i2] at q; omega
end
