section
-- 69.inv3
/-! WHAT HOLDS BETWEEN CALLS, with the law of wear read and every number in its range -/
def LW (h : HI) : Prop := ∀ m, TT h 24 m 1 60 → LWC h (h 25) m
theorem LW.cg {h h' : HI} (L : LW h) (e4 : h' 24 = h 24) (e5 : h' 25 = h 25) (e7 : h' 77 = h 77) (e8 : h' 78 = h 78) : LW h' := fun m T => by
  have := L m (T.cg e4.symm)
  exact this.cg e7 e8 (fun k _ => by rw [e5])
theorem LW.un {h : HI} {m : Nat} (T : TT h 24 m 1 60) (x : LWC h (h 25) m) : LW h := fun n U => by
  have : n = m := U.un T rfl
  subst this; exact x
def VRI (h : HI) : Prop := VR (h 136) ∧ ∀ i, i < 2 → ¬ h 138 i = 0 → VR (IMG h i)
theorem VRI.cg {h h' : HI} (v : VRI h) (e6 : VR (h' 136)) (e7 : h' 137 = h 137) (e8 : h' 138 = h 138) : VRI h' := by
  refine ⟨e6, fun i hi hn => ?_⟩
  rw [e8] at hn
  have eI : IMG h' i = IMG h i := by unfold IMG; rw [e7]
  rw [eI]; exact v.2 i hi hn
def INV3 (h : HI) : Prop := INV2 h ∧ LW h ∧ VRI h
/-- the class's calls, but for write, erase and from -/
theorem lw_add {C : Prop} {h h' : HI} {r : Int32} {o m w M k : Nat} {row : Nat → Int32} (L : LW h) (a : ADc C h r h' o m w M k row) (ho : o ≤ 22) : LW h' := by
  rcases a with ⟨-, -, rfl⟩ | ⟨-, -, -, rfl⟩ | ⟨-, -, -, J, -⟩
  · exact L
  · exact L
  · exact L.cg (J 24 (by unfold SM; omega)) (J 25 (by unfold SM; omega)) (J 77 (by unfold SM; omega)) (J 78 (by unfold SM; omega))
theorem lw_put {A : Prop} {h h' : HI} {o m w M : Nat} (L : LW h) (a : PTc A h h' o m w M) (ho : o ≤ 22) : LW h' :=
  L.cg (a.2.1 24 (by unfold SM; omega)) (a.2.1 25 (by unfold SM; omega)) (a.2.1 77 (by unfold SM; omega)) (a.2.1 78 (by unfold SM; omega))
theorem lw_jj {S : Nat → Prop} {h h' : HI} (L : LW h) (J : JJ S h h') (n : ∀ q, q ≤ 80 → ¬ S q) : LW h' :=
  L.cg (J 24 (n _ (by omega))) (J 25 (n _ (by omega))) (J 77 (n _ (by omega))) (J 78 (n _ (by omega)))
/-- the reference's -/
theorem lw_ref {h h' : HI} (L : LW h) (e : ∀ o, o ≤ 80 → h' o = h o) : LW h' := L.cg (e _ (by omega)) (e _ (by omega)) (e _ (by omega)) (e _ (by omega))
theorem adr_lo {C : Prop} {h h' : HI} {s : Int32} {c m M k : Nat} {F : (Nat → Int32) → Prop} (b : ADr C h s h' c m M k F) (o : Nat) (ho : o ≠ 136) : h' o = h o := by
  rcases b with ⟨-, -, rfl⟩ | ⟨-, -, -, rfl⟩ | ⟨-, -, -, e, -⟩
  · rfl
  · rfl
  · exact e o ho
theorem vr_add {C : Prop} {h h' : HI} {s : Int32} {c m M k : Nat} {F : (Nat → Int32) → Prop} (v : VRI h) (b : ADr C h s h' c m M k F) (n : C → m < M → ∀ f', F f' → VR f') : VRI h' := by
  refine v.cg ?_ (adr_lo b 137 (by decide)) (adr_lo b 138 (by decide))
  rcases b with ⟨-, -, rfl⟩ | ⟨-, -, -, rfl⟩ | ⟨b1, b3, -, -, -, -, -, hF⟩
  · exact v.1
  · exact v.1
  · exact n b1 b3 _ hF
theorem ptr_lo {A : Prop} {h h' : HI} (b : PTr A h h') (o : Nat) (ho : o ≠ 136) : h' o = h o := b.get.2.1 o ho
theorem vri_h1 {h h1 : HI} (v : VRI h) (e : ∀ q, 135 ≤ q → h1 q = h q) : VRI h1 := v.cg (by rw [e 136 (by omega)]; exact v.1) (e 137 (by omega)) (e 138 (by omega))
theorem vr_family {h h' : HI} {s x1 x2 x3 x4 : Int32} (v : VRI h) (b : PTr (EFr x1 x2 x3 x4 h s h') h h') : VRI h' := by
  refine v.cg ?_ (ptr_lo b 137 (by decide)) (ptr_lo b 138 (by decide))
  rcases b.1 with ⟨-, -, rfl⟩ | ⟨c, -, n, hn, -, e⟩
  · exact v.1
  · exact vr_fam v.1 hn c e
theorem vr_odds {h h' : HI} {s x1 x2 : Int32} (v : VRI h) (b : PTr (EOr x1 x2 h s h') h h') : VRI h' := by
  refine v.cg ?_ (ptr_lo b 137 (by decide)) (ptr_lo b 138 (by decide))
  rcases b.1 with ⟨-, -, rfl⟩ | ⟨c, -, e⟩
  · exact v.1
  · rw [e]; exact (v.1.up (vg_0 (by omega)) (bd_all _) (by omega)).up (vg_0 (by omega)) (bd_all _) (by omega)
theorem vr_need {h h' : HI} {s x1 x2 : Int32} (v : VRI h) (b : PTr (ENr x1 x2 h s h') h h') : VRI h' := by
  refine v.cg ?_ (ptr_lo b 137 (by decide)) (ptr_lo b 138 (by decide))
  rcases b.1 with ⟨-, -, rfl⟩ | ⟨c, n, hn, -, -, e⟩
  · exact v.1
  · rw [e]; exact v.1.up (vg_N hn) c.2 (by omega)
theorem vr_deny {h h' : HI} {s x1 x2 : Int32} (v : VRI h) (b : PTr (EDr x1 x2 h s h') h h') : VRI h' := by
  refine v.cg ?_ (ptr_lo b 137 (by decide)) (ptr_lo b 138 (by decide))
  rcases b.1 with ⟨-, -, rfl⟩ | ⟨c, n, hn, -, ⟨-, -, rfl⟩ | ⟨-, -, e⟩⟩
  · exact v.1
  · exact v.1
  · rw [e]; exact v.1.up (vg_S (c := 5) hn (by omega)) (by unfold zf; exact bd_01) (by omega)
theorem vr_bear {h h' : HI} {s x1 x2 x3 : Int32} (v : VRI h) (b : PTr (EBr x1 x2 x3 h s h') h h') : VRI h' := by
  refine v.cg ?_ (ptr_lo b 137 (by decide)) (ptr_lo b 138 (by decide))
  rcases b.1 with ⟨-, -, rfl⟩ | ⟨c, p, q, hp, hq, -, -, ⟨-, -, rfl⟩ | ⟨-, -, e⟩⟩
  · exact v.1
  · exact v.1
  · rw [e]; exact v.1.up (vg_P (c := 4) hp (by omega)) (bd_all _) (by omega)
theorem vr_link {h h' : HI} {s x1 x2 x3 : Int32} (v : VRI h) (h0 : (h 136 0).toInt ≤ 24) (b : PTr (ELr x1 x2 x3 h s h') h h') : VRI h' := by
  refine v.cg ?_ (ptr_lo b 137 (by decide)) (ptr_lo b 138 (by decide))
  rcases b.1 with ⟨-, -, rfl⟩ | ⟨c, p, n, hp, hn, -, -, ⟨-, -, rfl⟩ | ⟨-, ⟨-, -, rfl⟩ | ⟨n6, -, e⟩⟩⟩
  · exact v.1
  · exact v.1
  · exact v.1
  · have b1 : bd 0 23 x2 := ⟨c.2.1, by have := c.2.2; omega⟩
    have e3 : vg (512 + 10 * p + 3 + n) = (0, 23) := by
      rw [show 512 + 10 * p + 3 + n = 512 + 10 * p + (3 + n) by omega, vg_C hp (by omega)]
      exact (by decide : ∀ n, n < 6 → vC (3 + n) = (0, 23)) n n6
    rw [e]
    exact ((v.1.up e3 b1 (by omega)).up (vg_C (c := 9) hp (by omega)) (bd_all _) (by omega)).up (vg_C (c := 2) hp (by omega)) (bd_of (n := n + 1) (a := 0) (b := 6) (by omega) (by omega) (by omega)) (by omega)
theorem cls_from_hi {h h' : HI} {r x1 : Int32} (a : (¬ bd 0 1 x1 ∧ r = -2 ∧ h' = h) ∨ ∃ i, i < 2 ∧ x1 = nI i ∧ ((h 76 i = 0 ∧ r = -3 ∧ h' = h) ∨ (¬ h 76 i = 0 ∧ r = 1 ∧ ∃ h1, CPK h h1 1 (26 + 25 * i) 12 ∧ JJ SLaw h1 h'))) (o : Nat) (ho : 80 ≤ o) : h' o = h o := by
  rcases a with ⟨-, -, rfl⟩ | ⟨i, hi, -, ⟨-, -, rfl⟩ | ⟨-, -, h1, I, J⟩⟩
  · rfl
  · rfl
  · exact (J o (by unfold SLaw; omega)).trans (I.1 o (by omega))
theorem VRI.rf {h h' : HI} (v : VRI h) (F : ∀ o, o ≠ 136 → h' o = h o) (r : VR (h' 136)) : VRI h' := v.cg r (F 137 (by decide)) (F 138 (by decide))
theorem vr_erase {h h' : HI} (v : VRI h) (b : ST h h' (upd (h 136) 8 0)) : VRI h' := v.rf b.1 (by rw [b.2.1]; exact v.1.up (vg_0 (by omega)) (bd_all _) (by omega))
theorem vr_scrap {h h' : HI} (v : VRI h) (b : ST h h' (upd (upd (h 136) 4 0) 5 0)) : VRI h' := v.rf b.1 (by rw [b.2.1]; exact (v.1.up (vg_0 (by omega)) (bd_all _) (by omega)).up (vg_0 (by omega)) (bd_all _) (by omega))
theorem vr_ask {h h' : HI} (v : VRI h) (b : KJ SRef h h') : VRI h' :=
  have e : ∀ o, (∀ k, ¬ SRef o k) → h' o = h o := fun o m => funext fun k => b o k (m k)
  v.cg (by rw [e 136 (fun k => by unfold SRef; omega)]; exact v.1) (e 137 (fun k => by unfold SRef; omega)) (e 138 (fun k => by unfold SRef; omega))
theorem lw_ask {h h' : HI} (L : LW h) (b : KJ SRef h h') : LW h' := lw_ref L (fun o ho => funext fun k => b o k (by unfold SRef; omega))
theorem vr_image {h h' : HI} {s x1 : Int32} (v : VRI h) (b : (¬ bd 0 1 x1 ∧ s = -2 ∧ h' = h) ∨ ∃ i, i < 2 ∧ x1 = nI i ∧ s = 1 ∧ (∀ o, o ≠ 137 → o ≠ 138 → h' o = h o) ∧ h' 138 = upd (h 138) i 1 ∧ (∀ k, k < 887 → h' 137 (887 * i + k) = h 136 k) ∧ ∀ k, k < 887 * i ∨ 887 * i + 887 ≤ k → h' 137 k = h 137 k) : VRI h' := by
  rcases b with ⟨-, -, rfl⟩ | ⟨i, hi, -, -, F, F8, F7, F7'⟩
  · exact v
  · refine ⟨by rw [F 136 (by decide) (by decide)]; exact v.1, fun i' hi' hn => ?_⟩
    by_cases q : i' = i
    · subst q; exact v.1.cg (fun k hk => F7 k hk)
    · rw [F8, pk_un q] at hn
      exact (v.2 i' hi' hn).cg (fun k hk => F7' _ (by omega))
theorem vr_from {h h' : HI} {s x1 : Int32} (v : VRI h) (b : (¬ bd 0 1 x1 ∧ s = -2 ∧ h' = h) ∨ ∃ i, i < 2 ∧ x1 = nI i ∧ ((h 138 i = 0 ∧ s = -3 ∧ h' = h) ∨ (¬ h 138 i = 0 ∧ s = 1 ∧ (∀ o, o ≠ 136 → h' o = h o) ∧ (∀ k, k < 887 → h' 136 k = h 137 (887 * i + k)) ∧ ∀ k, 887 ≤ k → h' 136 k = h 136 k))) : VRI h' := by
  rcases b with ⟨-, -, rfl⟩ | ⟨i, hi, -, ⟨-, -, rfl⟩ | ⟨hn, -, F, F6, -⟩⟩
  · exact v
  · exact v
  · exact v.rf F ((v.2 i hi hn).cg (fun k hk => F6 k hk))
theorem ref_from_lo {h h' : HI} {s x1 : Int32} (b : (¬ bd 0 1 x1 ∧ s = -2 ∧ h' = h) ∨ ∃ i, i < 2 ∧ x1 = nI i ∧ ((h 138 i = 0 ∧ s = -3 ∧ h' = h) ∨ (¬ h 138 i = 0 ∧ s = 1 ∧ (∀ o, o ≠ 136 → h' o = h o) ∧ (∀ k, k < 887 → h' 136 k = h 137 (887 * i + k)) ∧ ∀ k, 887 ≤ k → h' 136 k = h 136 k))) (o : Nat) (ho : o ≠ 136) : h' o = h o := by
  rcases b with ⟨-, -, rfl⟩ | ⟨i, hi, -, ⟨-, -, rfl⟩ | ⟨hn, -, F, F6, -⟩⟩
  · rfl
  · rfl
  · exact F o ho
theorem ref_image_lo {h h' : HI} {s x1 : Int32} (b : (¬ bd 0 1 x1 ∧ s = -2 ∧ h' = h) ∨ ∃ i, i < 2 ∧ x1 = nI i ∧ s = 1 ∧ (∀ o, o ≠ 137 → o ≠ 138 → h' o = h o) ∧ h' 138 = upd (h 138) i 1 ∧ (∀ k, k < 887 → h' 137 (887 * i + k) = h 136 k) ∧ ∀ k, k < 887 * i ∨ 887 * i + 887 ≤ k → h' 137 k = h 137 k) (o : Nat) (ho : o ≤ 136) : h' o = h o := by
  rcases b with ⟨-, -, rfl⟩ | ⟨i, hi, -, -, F, -⟩
  · rfl
  · exact F o (by omega) (by omega)
theorem cls_image_lo {h h' : HI} {r x1 : Int32} (a : (¬ bd 0 1 x1 ∧ r = -2 ∧ h' = h) ∨ ∃ i, i < 2 ∧ x1 = nI i ∧ r = 1 ∧ ∃ h0, CPK h h0 (26 + 25 * i) 1 12 ∧ h' = hu h0 76 i 1) (o : Nat) (ho : o ≤ 26 ∨ 77 ≤ o) : h' o = h o := by
  rcases a with ⟨-, -, rfl⟩ | ⟨i, hi, -, -, h0, I0, rfl⟩
  · rfl
  · rw [hu_ne (by omega)]; exact I0.1 o (by omega)
/-- write, erase and from read the law anew -/
theorem q_X10_write {h : HI} {g : HL} (L : LW h) {m : Nat} (T : TT h 24 m 1 60) {x1 : Int32} : w_X10_write x1 h g (fun r h' _ => ADc (K_write x1) h r h' 24 m 1 60 1 (rowc x1 0 0 0) ∧ LW h') := by
  unfold w_X10_write
  refine c_wb (fun q0 => ⟨fun _ => ?_, fun c => absI c⟩) (fun q0 => ⟨fun c => absurd rfl c, fun _ => ⟨.inl ⟨fun hc => q0 (bd.mo hc (by decide) (by decide)), rfl, rfl⟩, L⟩⟩)
  have hC : K_write x1 := bd.mo q0 (by decide) (by decide)
  by_cases hm : m = 60
  · refine c_i (p_addF T hm) ?_
    rintro _ _ _ ⟨rfl, rfl, rfl⟩
    exact ⟨fun c => absurd rfl c, fun _ => ⟨.inr (.inl ⟨hC, hm, rfl, rfl⟩), L⟩⟩
  · have hlt : m < 60 := by have := T.2.2.2.1; omega
    refine c_i (p_add T hlt) ?_
    rintro _ h1 g1 ⟨rfl, -, J, T1, ho, hr⟩
    refine ⟨fun _ => ?_, fun c => absurd c (nI_m4 (by omega))⟩
    refine c_v (q_X4_read T1) ?_
    rintro h2 g2 ⟨J2, L2⟩
    refine c_i p_rows ?_
    rintro _ _ _ ⟨rfl, rfl, rfl⟩
    have e24 : h2 24 = h1 24 := J2 24 (by unfold SLaw; omega)
    have e25 : h2 25 = h1 25 := J2 25 (by unfold SLaw; omega)
    have T2 := T1.cg e24
    refine ⟨.inr (.inr ⟨hC, hlt, ?_, (J.mo SB.sm).tr (J2.mo SLaw.sm), T2, fun i hi => by rw [e25]; exact ho i (.inl hi), fun c hc => by rw [e25]; exact hr c hc⟩), LW.un T2 (by rw [e25]; exact L2)⟩
    rw [e24]; exact T1.2.2.1
theorem q_X10_erase {h : HI} {g : HL} {m : Nat} (T : TT h 24 m 1 60) : w_X10_erase h g (fun r h' _ => PTc (r = nI m) h h' 24 0 1 60 ∧ LW h') := by
  unfold w_X10_erase
  refine c_i p_rows ?_
  rintro _ _ _ ⟨rfl, rfl, rfl⟩
  refine c_v (p_empty T) ?_
  rintro h1 g1 ⟨-, J, T1⟩
  refine c_v (q_X4_read T1) ?_
  rintro h2 g2 ⟨J2, L2⟩
  have T2 := T1.cg (J2 24 (by unfold SLaw; omega))
  exact ⟨⟨T.2.2.1, (J.mo (fun q hq => by unfold SO at hq; unfold SM; omega)).tr (J2.mo SLaw.sm), T2⟩, LW.un T2 (by rw [J2 25 (by unfold SLaw; omega)]; exact L2)⟩
theorem q_X10_from {h : HI} {g : HL} (L : LW h) (c : CJ h) {x1 : Int32} : w_X10_from x1 h g (fun r h' _ => ((¬ bd 0 1 x1 ∧ r = -2 ∧ h' = h) ∨ ∃ i, i < 2 ∧ x1 = nI i ∧ ((h 76 i = 0 ∧ r = -3 ∧ h' = h) ∨ (¬ h 76 i = 0 ∧ r = 1 ∧ ∃ h1, CPK h h1 1 (26 + 25 * i) 12 ∧ JJ SLaw h1 h'))) ∧ LW h') := by
  unfold w_X10_from
  refine c_wb (fun q0 => ⟨fun _ => ?_, fun c => absI c⟩) (fun q0 => ⟨fun c => absurd rfl c, fun _ => ⟨.inl ⟨fun hc => q0 (bd.mo hc (by decide) (by decide)), rfl, rfl⟩, L⟩⟩)
  obtain ⟨i, i1, i2, rfl⟩ := bd_nI (bd.mo q0 (c := 0) (d := 1) (by decide) (by decide))
  rw [nI_clamp (n := i) (by omega)]
  refine and_have (vp_in_nI (by omega) (by omega)) (fun _ => ⟨fun ck => ?_, fun ck => ⟨.inr ⟨i, by omega, rfl, .inl ⟨ck, rfl, rfl⟩⟩, L⟩⟩)
  refine c_n (p_X10_imageAt (by omega)) ?_
  rintro _ _ _ ⟨rfl, rfl, rfl⟩
  have hs := isS26 (i := i) (by omega)
  refine and_have hs (fun _ => ?_)
  refine c_v (p_X6_copy (by omega) (c _ isS1) (c _ hs)) ?_
  intro h1 g1 I1
  obtain ⟨m1, -, T1, -⟩ := I1.2 11 (by omega)
  refine c_v (q_X4_read T1) ?_
  rintro h2 g2 ⟨J2, L2⟩
  exact ⟨.inr ⟨i, by omega, rfl, .inr ⟨ck, rfl, h1, I1, J2⟩⟩, LW.un (T1.cg (J2 24 (by unfold SLaw; omega))) (by rw [J2 25 (by unfold SLaw; omega)]; exact L2)⟩
theorem LW_start {h : HI} (T : TT h 24 0 1 60) (e : h 77 9 = 1) : LW h := LW.un T ⟨[], by
  rw [e]
  exact .inr (.inl ⟨fun k hk => absurd hk (Nat.not_lt_zero k), fun q => absurd q.1 (by decide), rfl, by decide⟩), fun q => by rw [e] at q; exact absurd q (by decide)⟩
theorem VR_start {f : Nat → Int32} (fr : ∀ i, i < 12 → f (140 + i) = fam i) (zr : ∀ i, i < 140 ∨ 152 ≤ i → f i = 0) : VR f := by
  have z : ∀ k, k < 20 ∨ 140 ≤ k ∧ k < 152 ∨ 887 ≤ k ∨ (vg k).1 ≤ 0 ∧ 0 ≤ (vg k).2 := fun k => by
    have w : ∀ (c : Nat) (r : Nat → Int × Int) (n : Nat), (∀ c, c < n → (r c).1 ≤ 0 ∧ 0 ≤ (r c).2) → c < n → (r c).1 ≤ 0 ∧ 0 ≤ (r c).2 := fun c r n h hc => h c hc
    by_cases k1 : k < 20
    · exact .inl k1
    by_cases k2 : k < 140
    · obtain ⟨m, c, rfl, hm, hc⟩ : ∃ m c, k = 20 + 5 * m + c ∧ m < 24 ∧ c < 5 := ⟨(k - 20) / 5, (k - 20) % 5, by omega, by omega, by omega⟩
      rw [vg_P hm hc]; exact .inr (.inr (.inr ((by decide : ∀ c, c < 5 → (vP c).1 ≤ 0 ∧ 0 ≤ (vP c).2) c hc)))
    by_cases k3 : k < 152
    · exact .inr (.inl ⟨by omega, k3⟩)
    by_cases k4 : k < 512
    · obtain ⟨m, c, rfl, hm, hc⟩ : ∃ m c, k = 152 + 6 * m + c ∧ m < 60 ∧ c < 6 := ⟨(k - 152) / 6, (k - 152) % 6, by omega, by omega, by omega⟩
      rw [vg_S hm hc]; exact .inr (.inr (.inr ((by decide : ∀ c, c < 6 → (vS c).1 ≤ 0 ∧ 0 ≤ (vS c).2) c hc)))
    by_cases k5 : k < 672
    · obtain ⟨m, c, rfl, hm, hc⟩ : ∃ m c, k = 512 + 10 * m + c ∧ m < 16 ∧ c < 10 := ⟨(k - 512) / 10, (k - 512) % 10, by omega, by omega, by omega⟩
      rw [vg_C hm hc]; exact .inr (.inr (.inr ((by decide : ∀ c, c < 10 → (vC c).1 ≤ 0 ∧ 0 ≤ (vC c).2) c hc)))
    by_cases k6 : k < 704
    · obtain ⟨m, c, rfl, hm, hc⟩ : ∃ m c, k = 672 + 4 * m + c ∧ m < 8 ∧ c < 4 := ⟨(k - 672) / 4, (k - 672) % 4, by omega, by omega, by omega⟩
      rw [vg_W hm hc]; exact .inr (.inr (.inr ((by decide : ∀ c, c < 4 → (vW c).1 ≤ 0 ∧ 0 ≤ (vW c).2) c hc)))
    by_cases k7 : k < 710
    · obtain ⟨m, rfl, hm⟩ : ∃ m, k = 704 + m ∧ m < 6 := ⟨k - 704, by omega, by omega⟩
      rw [vg_M hm]; exact .inr (.inr (.inr (by decide)))
    by_cases k8 : k < 737
    · obtain ⟨m, c, rfl, hm, hc⟩ : ∃ m c, k = 710 + 3 * m + c ∧ m < 9 ∧ c < 3 := ⟨(k - 710) / 3, (k - 710) % 3, by omega, by omega, by omega⟩
      rw [vg_X hm hc]; exact .inr (.inr (.inr ((by decide : ∀ c, c < 3 → (vX c).1 ≤ 0 ∧ 0 ≤ (vX c).2) c hc)))
    by_cases k9 : k < 817
    · obtain ⟨m, c, rfl, hm, hc⟩ : ∃ m c, k = 737 + 2 * m + c ∧ m < 40 ∧ c < 2 := ⟨(k - 737) / 2, (k - 737) % 2, by omega, by omega, by omega⟩
      rw [vg_T hm hc]; exact .inr (.inr (.inr ((by decide : ∀ c, c < 2 → (vT c).1 ≤ 0 ∧ 0 ≤ (vT c).2) c hc)))
    by_cases k10 : k < 823
    · obtain ⟨m, c, rfl, hm, hc⟩ : ∃ m c, k = 817 + 2 * m + c ∧ m < 3 ∧ c < 2 := ⟨(k - 817) / 2, (k - 817) % 2, by omega, by omega, by omega⟩
      rw [vg_H hm hc]; exact .inr (.inr (.inr ((by decide : ∀ c, c < 2 → (vH c).1 ≤ 0 ∧ 0 ≤ (vH c).2) c hc)))
    by_cases k11 : k < 827
    · obtain ⟨m, rfl, hm⟩ : ∃ m, k = 823 + m ∧ m < 4 := ⟨k - 823, by omega, by omega⟩
      rw [vg_N hm]; exact .inr (.inr (.inr (by decide)))
    by_cases k12 : k < 887
    · obtain ⟨m, rfl, hm⟩ : ∃ m, k = 827 + m ∧ m < 60 := ⟨k - 827, by omega, by omega⟩
      rw [vg_Z hm]; exact .inr (.inr (.inr (by decide)))
    exact .inr (.inr (.inl (by omega)))
  refine ⟨fun k => ?_, fun j hj => ?_⟩
  · rcases z k with c | ⟨c, d⟩ | c | c
    · unfold okV; rw [vg_0 c]; exact bd_all _
    · obtain ⟨i, rfl⟩ : ∃ i, k = 140 + i := ⟨k - 140, by omega⟩
      unfold okV; rw [vg_F c d, fr i (by omega)]
      unfold fam bd
      by_cases q : i % 3 = 2
      · rw [if_pos q]; decide
      · rw [if_neg q]; decide
    · unfold okV; rw [vg_E c]; exact bd_all _
    · by_cases q : 140 ≤ k ∧ k < 152
      · obtain ⟨i, rfl⟩ : ∃ i, k = 140 + i := ⟨k - 140, by omega⟩
        unfold okV; rw [vg_F q.1 q.2, fr i (by omega)]
        unfold fam bd
        by_cases q : i % 3 = 2
        · rw [if_pos q]; decide
        · rw [if_neg q]; decide
      · unfold okV bd
        rw [zr k (by omega)]; exact c
  · rw [fr (3 * j) (by omega), show 140 + 3 * j + 2 = 140 + (3 * j + 2) by omega, fr (3 * j + 2) (by omega), show 140 + 3 * j + 1 = 140 + (3 * j + 1) by omega, fr (3 * j + 1) (by omega)]
    unfold fam
    rw [if_neg (by omega), if_pos (by omega), if_neg (by omega)]
    decide
theorem INV3_start {h1 h2 : HI} (a : (∀ s, isS s → ∀ j, j < 12 → TT h1 (s + (1 + 2 * j)) (m0 j) (wJ j) (MJ j)) ∧ h1 76 = (fun _ => 0) ∧ (∀ i, i < 12 → h1 5 i = fam i) ∧ (∀ i, i < 4 → h1 23 i = 0) ∧ (∀ i, i < 2 → h1 17 i = 0) ∧ h1 77 9 = 1) (b : (∀ o, o < 135 → h2 o = h1 o) ∧ RG (h2 136) ∧ (∀ i, i < 9 → h2 136 i = 0) ∧ h2 138 = (fun _ => 0) ∧ h2 147 0 = 0 ∧ h2 147 1 = 1 ∧ (∀ i, i < 12 → h2 136 (140 + i) = fam i) ∧ ∀ i, i < 140 ∨ 152 ≤ i → h2 136 i = 0) : INV3 h2 :=
  ⟨⟨INV_start a b, RL_start a b⟩, LW_start ((a.1 1 isS1 11 (by omega)).cg (b.1 24 (by omega))) (by rw [b.1 77 (by omega)]; exact a.2.2.2.2.2), VR_start b.2.2.2.2.2.2.1 b.2.2.2.2.2.2.2, fun i hi hn => by rw [b.2.2.2.1] at hn; exact absurd rfl hn⟩
end
section
-- 70.cx
/-! WHAT A QUESTION MAY REST ON: the class's tables against the reference's numbers f -/
def CX (h : HI) (f : Nat → Int32) : Prop := CN h 1 f ∧ RL1 h 1 f ∧ LW h ∧ VR f ∧ RG f
theorem CX.of {h : HI} (v : INV3 h) : CX h (h 136) := ⟨v.1.1.2.2.2.1, v.1.2.1, v.2.1, v.2.2.1, v.1.1.2.1⟩
theorem CX.jj {S : Nat → Prop} {h h' : HI} {f : Nat → Int32} (c : CX h f) (J : JJ S h h') (n : ∀ q, q ≤ 80 → ¬ S q) : CX h' f :=
  ⟨c.1.cg (fun o _ ho => J o (n o (by omega))) (fun _ _ => rfl), c.2.1.cg (fun o _ ho => J o (n o (by omega))) (fun _ _ => rfl), lw_jj c.2.2.1 J n, c.2.2.2⟩
theorem CX.tF {h : HI} {f : Nat → Int32} (c : CX h f) : TT h 4 4 3 4 := by
  obtain ⟨m, T, k⟩ := c.1 1 (by omega)
  have k : m = 4 := k
  subst k; exact T
theorem CX.ci {h : HI} {f : Nat → Int32} (c : CX h f) {j : Nat} (hj : j < 12) {m : Nat} (T : TT h (1 + (1 + 2 * j)) m (wJ j) (MJ j)) : CE h 1 f j m := c.2.1.1 j m hj T.2.2.2.1 T.2.2.1
theorem CX.cp {h : HI} {f : Nat → Int32} (c : CX h f) {m p k : Nat} (T : TT h 2 m 5 24) (hp : p < m) (hk : k < 4) : h 3 (p * 5 + k) = f (20 + 5 * p + k) := by
  have := (CE.e0.mp (c.ci (j := 0) (by omega) T)).1 p hp k hk
  rw [show 20 + 5 * p + k = 20 + (p * 5 + k) by omega]; exact this
theorem CX.cf {h : HI} {f : Nat → Int32} (c : CX h f) {p k : Nat} (hp : p < 4) (hk : k < 3) : h 5 (p * 3 + k) = f (140 + 3 * p + k) := by
  have := (CE.es (by decide) (by decide)).mp (c.ci (j := 1) (by omega) c.tF) (p * 3 + k) (by show p * 3 + k < 4 * 3; omega)
  rw [show 140 + 3 * p + k = 140 + (p * 3 + k) by omega]; exact this
theorem CX.cs {h : HI} {f : Nat → Int32} (c : CX h f) {m p k : Nat} (T : TT h 6 m 6 60) (hp : p < m) (hk : k < 6) : h 7 (p * 6 + k) = f (152 + 6 * p + k) := by
  have := (CE.es (by decide) (by decide)).mp (c.ci (j := 2) (by omega) T) (p * 6 + k) (by show p * 6 + k < m * 6; omega)
  rw [show 152 + 6 * p + k = 152 + (p * 6 + k) by omega]; exact this
theorem CX.cz {h : HI} {f : Nat → Int32} (c : CX h f) {m k : Nat} (T : TT h 24 m 1 60) (hk : k < m) : h 25 k = f (827 + k) := by
  exact (CE.es (by decide) (by decide)).mp (c.ci (j := 11) (by omega) T) k (by show k < m * 1; omega)
theorem RG.z8 {f : Nat → Int32} (r : RG f) : ∃ n : Nat, n ≤ 60 ∧ f 8 = nI n := by
  obtain ⟨n, h1, -, e⟩ := bd_nI (r 8)
  have h1 : (n : Int) ≤ 60 := h1
  exact ⟨n, by omega, e⟩
/-- WORN of part a in the year y, by the reference's numbers -/
noncomputable def wvN (f : Nat → Int32) (a y : Nat) : Int32 := Classical.epsilon (fun v => ∃ (n b : Nat) (fl : Int32) (p : List Int32), f 8 = nI n ∧ n ≤ 60 ∧ f (20 + 5 * a + 2) = nI b ∧ b ≤ 99 ∧ RSl (fun k => f (827 + k)) n fl p ∧ v = wvl fl p (nI (y - b)) (f (20 + 5 * a + 0)) (f (20 + 5 * a + 1)))
/-! FAULT and WORN -/
/-- the answer of a question about a part and a year -/
def AWN (f : Nat → Int32) (m : Nat) (x1 x2 r : Int32) : Prop := (¬ (isRow (nI m) x1 ∧ bd 0 99 x2) ∧ r = -2) ∨ ∃ a y : Nat, a < m ∧ y ≤ 99 ∧ x1 = nI a ∧ x2 = nI y ∧ r = wvN f a y
theorem AWN.un {f : Nat → Int32} {m : Nat} (hm : m ≤ 24) {x1 x2 r s : Int32} (a : AWN f m x1 x2 r) (b : AWN f m x1 x2 s) : r = s := by
  rcases a with ⟨a1, rfl⟩ | ⟨p, y, hp, hy, rfl, rfl, rfl⟩
  · rcases b with ⟨-, rfl⟩ | ⟨p, y, hp, hy, rfl, rfl, -⟩
    · rfl
    · exact absurd ⟨row_of hp (by omega), bd_of (by omega) (by omega) (by omega)⟩ a1
  · rcases b with ⟨b1, -⟩ | ⟨p', y', hp', hy', e1, e2, rfl⟩
    · exact absurd ⟨row_of hp (by omega), bd_of (by omega) (by omega) (by omega)⟩ b1
    · have q1 : p = p' := (nI_eq (by omega) (by omega)).mp e1
      have q2 : y = y' := (nI_eq (by omega) (by omega)).mp e2
      rw [q1, q2]
end
section
-- 71.first
/-! NUMBERS WITH A SIGN -/
def i32 (z : Int) : Int32 := Int32.ofInt z
theorem i0 : (0 : Int32).toInt = 0 := by decide
theorem i1 : (1 : Int32).toInt = 1 := by decide
theorem im1 : (-1 : Int32).toInt = -1 := by decide
theorem nI_nm {j : Nat} (h : j < 2 ^ 31) : ¬ nI j = -1 := fun e => by
  have := nI_toInt h
  rw [e, im1] at this
  omega
/-! PLACES IN A FAMILY: the first not below a bound, the last not above it -/
def pfN (b d z : Int) : Int := if z ≤ b then 0 else (z - b + d - 1) / d
theorem pfN_le {b d z i : Int} (hd : 1 ≤ d) (hi : 0 ≤ i) : pfN b d z ≤ i ↔ z ≤ b + d * i := by
  unfold pfN
  have m0 : 0 ≤ d * i := Int.mul_nonneg (by omega) hi
  by_cases c : z ≤ b
  · rw [if_pos c]; omega
  · rw [if_neg c]
    have h := Int.ediv_lt_iff_lt_mul (a := z - b + d - 1) (b := i + 1) (c := d) (by omega)
    rw [Int.add_mul, Int.one_mul, Int.mul_comm i d] at h
    generalize (z - b + d - 1) / d = q at h ⊢
    omega
/-! THE FAMILY of part p -/
def fB (f : Nat → Int32) (p : Nat) : Int := if f (20 + 5 * p + 3) = -1 then 1 else (f (140 + 3 * (f (20 + 5 * p + 3)).toNatClampNeg)).toInt
def fD (f : Nat → Int32) (p : Nat) : Int := if f (20 + 5 * p + 3) = -1 then 1 else (f (140 + 3 * (f (20 + 5 * p + 3)).toNatClampNeg + 1)).toInt
def fM (f : Nat → Int32) (p : Nat) : Int := if f (20 + 5 * p + 3) = -1 then 100000 else (f (140 + 3 * (f (20 + 5 * p + 3)).toNatClampNeg + 2)).toInt
theorem VR.fam {f : Nat → Int32} (v : VR f) {p : Nat} (hp : p < 24) : f (20 + 5 * p + 3) = -1 ∨ ∃ j : Nat, j < 4 ∧ f (20 + 5 * p + 3) = nI j := by
  have b : bd (-1) 3 (f (20 + 5 * p + 3)) := v.at (vg_P (c := 3) hp (by omega))
  by_cases q : f (20 + 5 * p + 3) = -1
  · exact .inl q
  · have : ¬ (f (20 + 5 * p + 3)).toInt = -1 := fun e => q (Int32.toInt_inj.mp (e.trans im1.symm))
    obtain ⟨j, h1, -, e⟩ := bd_nI (x := f (20 + 5 * p + 3)) (b := 3) ⟨by have := b.1; omega, b.2⟩
    exact .inr ⟨j, by omega, e⟩
def FOK (f : Nat → Int32) (p : Nat) : Prop := 1 ≤ fB f p ∧ 1 ≤ fD f p ∧ fD f p ≤ 100000 ∧ 1 ≤ fM f p ∧ fM f p ≤ 100000 ∧ fB f p + (fM f p - 1) * fD f p ≤ 100000
/-- a size of the family, by its place -/
theorem FOK.sz {f : Nat → Int32} {p : Nat} (k : FOK f p) {i : Int} (h0 : 0 ≤ i) (h1 : i ≤ fM f p - 1) : 1 ≤ fB f p + fD f p * i ∧ fB f p + fD f p * i ≤ 100000 ∧ 0 ≤ fD f p * i := by
  obtain ⟨a, b, -, c, -, e⟩ := k
  have m0 : 0 ≤ fD f p * i := Int.mul_nonneg (by omega) h0
  have m1 : fD f p * i ≤ fD f p * (fM f p - 1) := Int.mul_le_mul_of_nonneg_left h1 (by omega)
  rw [Int.mul_comm (fD f p) (fM f p - 1)] at m1
  omega
/-! SAYINGS -/
noncomputable def sW (f : Nat → Int32) (s : Nat) : Int := if f (152 + 6 * s + 1) = 0 then (wvN f (f (152 + 6 * s + 0)).toNatClampNeg (f (152 + 6 * s + 4)).toNatClampNeg).toInt else 0
noncomputable def sL (f : Nat → Int32) (s : Nat) : Int := (f (152 + 6 * s + 2)).toInt - (f (152 + 6 * s + 3)).toInt + sW f s
noncomputable def sH (f : Nat → Int32) (s : Nat) : Int := (f (152 + 6 * s + 2)).toInt + (f (152 + 6 * s + 3)).toInt + sW f s
/-- a saying allows a size -/
def alw (f : Nat → Int32) (s : Nat) (z : Int) : Prop := (¬ f (152 + 6 * s + 1) = 2 → sL f s ≤ z) ∧ (¬ f (152 + 6 * s + 1) = 3 → z ≤ sH f s)
abbrev isO (f : Nat → Int32) (p s : Nat) : Prop := f (152 + 6 * s + 0) = nI p ∧ f (152 + 6 * s + 5) = 0
theorem VR.sp {f : Nat → Int32} (v : VR f) {s : Nat} (hs : s < 60) : ∃ a y : Nat, a < 24 ∧ y ≤ 99 ∧ f (152 + 6 * s + 0) = nI a ∧ f (152 + 6 * s + 4) = nI y := by
  obtain ⟨a, h1, -, e1⟩ := bd_nI (v.at (vg_S (c := 0) hs (by omega)))
  obtain ⟨y, h2, -, e2⟩ := bd_nI (v.at (vg_S (c := 4) hs (by omega)))
  have h1 : (a : Int) ≤ 23 := h1
  have h2 : (y : Int) ≤ 99 := h2
  exact ⟨a, y, by omega, by omega, e1, e2⟩
/-- the sizes of p's family that all its sayings among the first n allow -/
def okZs (f : Nat → Int32) (p n : Nat) (z : Int) : Prop := ∀ s, s < n → isO f p s → alw f s z
def FSp (f : Nat → Int32) (p n : Nat) (a b : Int) : Prop := 0 ≤ a ∧ b ≤ fM f p - 1 ∧ ∀ i, 0 ≤ i → i ≤ fM f p - 1 → ((a ≤ i ∧ i ≤ b) ↔ okZs f p n (fB f p + fD f p * i))
def FA (f : Nat → Int32) (p n : Nat) (lo hi m : Int) : Prop := ∃ a b, FSp f p n a b ∧ m = (if b < a then 0 else b - a + 1) ∧ lo = (if b < a then -1 else fB f p + fD f p * a) ∧ hi = (if b < a then -1 else fB f p + fD f p * b)
theorem FA.un {f : Nat → Int32} {p n : Nat} {lo hi m lo' hi' m' : Int} (x : FA f p n lo hi m) (y : FA f p n lo' hi' m') : lo = lo' ∧ hi = hi' ∧ m = m' := by
  obtain ⟨a, b, ⟨a0, b0, k⟩, rfl, rfl, rfl⟩ := x
  obtain ⟨a', b', ⟨a0', b0', k'⟩, rfl, rfl, rfl⟩ := y
  by_cases c : b < a
  · by_cases c' : b' < a'
    · rw [if_pos c, if_pos c, if_pos c, if_pos c', if_pos c', if_pos c']; exact ⟨rfl, rfl, rfl⟩
    · have h1 := (k a' a0' (by omega)).mpr ((k' a' a0' (by omega)).mp (by omega))
      omega
  · by_cases c' : b' < a'
    · have h1 := (k' a a0 (by omega)).mpr ((k a a0 (by omega)).mp (by omega))
      omega
    · have h1 := (k a' a0' (by omega)).mpr ((k' a' a0' (by omega)).mp (by omega))
      have h2 := (k' a a0 (by omega)).mpr ((k a a0 (by omega)).mp (by omega))
      have h3 := (k b' (by omega) b0').mpr ((k' b' (by omega) b0').mp (by omega))
      have h4 := (k' b (by omega) b0).mpr ((k b (by omega) b0).mp (by omega))
      have e1 : a = a' := by omega
      have e2 : b = b' := by omega
      subst e1; subst e2
      exact ⟨rfl, rfl, rfl⟩
noncomputable def f3 (f : Nat → Int32) (p : Nat) : Int × Int × Int := Classical.epsilon (fun t => ∃ n : Nat, f 1 = nI n ∧ n ≤ 60 ∧ FA f p n t.1 t.2.1 t.2.2)
noncomputable def fLo (f : Nat → Int32) (p : Nat) : Int32 := i32 (f3 f p).1
noncomputable def fHi (f : Nat → Int32) (p : Nat) : Int32 := i32 (f3 f p).2.1
noncomputable def fMn (f : Nat → Int32) (p : Nat) : Int32 := i32 (f3 f p).2.2
end
section
-- 72.find
/-! THE CLASS FINDS FIRST -/
def ofL (f : Nat → Int32) (p : Nat) : Nat → List Nat
  | 0 => []
  | k + 1 => if isO f p k then ofL f p k ++ [k] else ofL f p k
theorem ofL_y {f : Nat → Int32} {p k : Nat} (h : isO f p k) : ofL f p (k + 1) = ofL f p k ++ [k] := if_pos h
theorem ofL_n {f : Nat → Int32} {p k : Nat} (h : ¬ isO f p k) : ofL f p (k + 1) = ofL f p k := if_neg h
theorem ofL_mem {f : Nat → Int32} {p s : Nat} : ∀ {k : Nat}, s ∈ ofL f p k ↔ s < k ∧ isO f p s
  | 0 => ⟨fun h => absurd h List.not_mem_nil, fun h => absurd h.1 (Nat.not_lt_zero s)⟩
  | k + 1 => by
    have ih := ofL_mem (f := f) (p := p) (s := s) (k := k)
    by_cases q : isO f p k
    · rw [ofL_y q, List.mem_append, List.mem_singleton, ih]
      refine ⟨fun h => ?_, fun h => ?_⟩
      · rcases h with h | h
        · exact ⟨by omega, h.2⟩
        · exact ⟨by omega, by rw [h]; exact q⟩
      · by_cases e : s = k
        · exact .inr e
        · exact .inl ⟨by omega, h.2⟩
    · rw [ofL_n q, ih]
      refine ⟨fun h => ⟨by omega, h.2⟩, fun h => ⟨?_, h.2⟩⟩
      have : s ≠ k := fun e => q (by rw [← e]; exact h.2)
      omega
theorem ofL_len {f : Nat → Int32} {p : Nat} : ∀ {k : Nat}, (ofL f p k).length ≤ k
  | 0 => Nat.le_refl _
  | k + 1 => by
    have ih := ofL_len (f := f) (p := p) (k := k)
    by_cases q : isO f p k
    · rw [ofL_y q, List.length_append, List.length_singleton]; omega
    · rw [ofL_n q]; omega
noncomputable def cLo (f : Nat → Int32) (s : Nat) : Int := if f (152 + 6 * s + 1) = 2 then -1000000 else sL f s
noncomputable def cHi (f : Nat → Int32) (s : Nat) : Int := if f (152 + 6 * s + 1) = 3 then 1000000 else sH f s
/-- the sayings that count, in the class's rows -/
def ARR (h : HI) (f : Nat → Int32) (p k : Nat) : Prop := ∀ i s, (ofL f p k)[i]? = some s → h 82 i = i32 (cLo f s) ∧ h 83 i = i32 (cHi f s) ∧ h 84 i = nI s
def SZ (h : HI) (f : Nat → Int32) (p n : Nat) : Prop := h 81 9 = fLo f p ∧ h 81 10 = fHi f p ∧ h 81 11 = fMn f p ∧ (h 81 6).toInt = fB f p ∧ (h 81 7).toInt = fD f p ∧ (h 81 8).toInt = fM f p - 1 ∧ h 81 5 = nI (ofL f p n).length ∧ ARR h f p n
end
section
-- 73.firstr
/-! THE REFERENCE FINDS FIRST -/
theorem KJ.f6 {S : Nat → Nat → Prop} {h h' : HI} (J : KJ S h h') (n : ∀ k, ¬ S 136 k) : h' 136 = h 136 := funext fun k => J 136 k (n k)
noncomputable def fsel (f : Nat → Int32) (p : Nat) (x : Int32) : Int32 := if x = 2 then fMn f p else if x = 0 then fLo f p else fHi f p
/-! FIRST, the call -/
def AFR (f : Nat → Int32) (m : Nat) (x1 x2 r : Int32) : Prop := (¬ (isRow (nI m) x1 ∧ bd 0 2 x2) ∧ r = -2) ∨ ∃ p : Nat, p < m ∧ x1 = nI p ∧ bd 0 2 x2 ∧ r = fsel f p x2
theorem AFR.un {f : Nat → Int32} {m : Nat} (hm : m ≤ 24) {x1 x2 r s : Int32} (a : AFR f m x1 x2 r) (b : AFR f m x1 x2 s) : r = s := by
  rcases a with ⟨a1, rfl⟩ | ⟨p, hp, rfl, a1, rfl⟩
  · rcases b with ⟨-, rfl⟩ | ⟨p, hp, rfl, b1, -⟩
    · rfl
    · exact absurd ⟨row_of hp (by omega), b1⟩ a1
  · rcases b with ⟨b1, -⟩ | ⟨p', hp', e1, -, rfl⟩
    · exact absurd ⟨row_of hp (by omega), a1⟩ b1
    · have q1 : p = p' := (nI_eq (by omega) (by omega)).mp e1
      rw [q1]
end
section
-- 74.quarrel
/-! QUARREL: how many sayings do not allow a size, and the size that the fewest do not -/
noncomputable def dn (f : Nat → Int32) (z : Int) (s : Nat) : Bool := !(decide (cLo f s ≤ z) && decide (z ≤ cHi f s))
theorem dn_iff {f : Nat → Int32} {z : Int} {s : Nat} : dn f z s = true ↔ ¬ (cLo f s ≤ z ∧ z ≤ cHi f s) := by
  unfold dn
  by_cases a : cLo f s ≤ z
  · by_cases b : z ≤ cHi f s
    · rw [decide_eq_true a, decide_eq_true b]; exact ⟨fun q => absurd q (by decide), fun q => absurd ⟨a, b⟩ q⟩
    · rw [decide_eq_true a, decide_eq_false b]; exact ⟨fun _ q => b q.2, fun _ => rfl⟩
  · rw [decide_eq_false a]; exact ⟨fun _ q => a q.1, fun _ => rfl⟩
noncomputable def cq (f : Nat → Int32) (p : Nat) (z : Int) (k : Nat) : Nat := (ofL f p k).countP (dn f z)
theorem cq_y {f : Nat → Int32} {p k : Nat} {z : Int} (o : isO f p k) (d : dn f z k = true) : cq f p z (k + 1) = cq f p z k + 1 := by
  unfold cq
  rw [ofL_y o, List.countP_append, List.countP_singleton, if_pos d]
theorem cq_n {f : Nat → Int32} {p k : Nat} {z : Int} (o : ¬ (isO f p k ∧ dn f z k = true)) : cq f p z (k + 1) = cq f p z k := by
  unfold cq
  by_cases q : isO f p k
  · rw [ofL_y q, List.countP_append, List.countP_singleton, if_neg (fun d => o ⟨q, d⟩), Nat.add_zero]
  · rw [ofL_n q]
theorem cq_le {f : Nat → Int32} {p k : Nat} {z : Int} : cq f p z k ≤ k := Nat.le_trans List.countP_le_length ofL_len
theorem cq_mono {f : Nat → Int32} {p n : Nat} {z z' : Int} (h : ∀ s, s < n → isO f p s → dn f z' s = true → dn f z s = true) : cq f p z' n ≤ cq f p z n :=
  List.countP_mono_left (fun s hs d => h s (ofL_mem.mp hs).1 (ofL_mem.mp hs).2 d)
theorem cq_up {f : Nat → Int32} {p : Nat} {z : Int} : ∀ {a b : Nat}, a ≤ b → cq f p z a ≤ cq f p z b
  | a, 0, h => by rw [show a = 0 by omega]; exact Nat.le_refl _
  | a, b + 1, h => by
    by_cases e : a = b + 1
    · rw [e]; exact Nat.le_refl _
    · have ih := cq_up (f := f) (p := p) (z := z) (a := a) (b := b) (by omega)
      by_cases q : isO f p b ∧ dn f z b = true
      · rw [cq_y q.1 q.2]; omega
      · rw [cq_n q]; exact ih
def lex (f : Nat → Int32) (p n : Nat) (z z' : Int) : Prop := cq f p z n < cq f p z' n ∨ (cq f p z n = cq f p z' n ∧ z ≤ z')
theorem lex.rf {f : Nat → Int32} {p n : Nat} {z : Int} : lex f p n z z := .inr ⟨rfl, Int.le_refl _⟩
theorem lex.tr {f : Nat → Int32} {p n : Nat} {a b c : Int} (x : lex f p n a b) (y : lex f p n b c) : lex f p n a c := by
  unfold lex at *; omega
def BST (f : Nat → Int32) (p n : Nat) (z : Int) : Prop := (∃ i, 0 ≤ i ∧ i ≤ fM f p - 1 ∧ z = fB f p + fD f p * i) ∧ ∀ i, 0 ≤ i → i ≤ fM f p - 1 → lex f p n z (fB f p + fD f p * i)
theorem BST.un {f : Nat → Int32} {p n : Nat} {z z' : Int} (x : BST f p n z) (y : BST f p n z') : z = z' := by
  obtain ⟨⟨i, i0, i1, e⟩, k⟩ := x
  obtain ⟨⟨i', i0', i1', e'⟩, k'⟩ := y
  have a := k i' i0' i1'
  have b := k' i i0 i1
  rw [← e'] at a
  rw [← e] at b
  unfold lex at a b; omega
theorem cand {f : Nat → Int32} {p n : Nat} (k : FOK f p) : ∀ i : Nat, (i : Int) ≤ fM f p - 1 → ∃ j : Int, 0 ≤ j ∧ j ≤ i ∧ cq f p (fB f p + fD f p * j) n ≤ cq f p (fB f p + fD f p * i) n ∧ (j = 0 ∨ ∃ s, s < n ∧ isO f p s ∧ pfN (fB f p) (fD f p) (cLo f s) = j)
  | 0, _ => ⟨0, by omega, by omega, Nat.le_refl _, .inl rfl⟩
  | i + 1, hi => by
    by_cases q : ∃ s, s < n ∧ isO f p s ∧ pfN (fB f p) (fD f p) (cLo f s) = ((i + 1 : Nat) : Int)
    · exact ⟨((i + 1 : Nat) : Int), by omega, by omega, Nat.le_refl _, .inr q⟩
    · obtain ⟨j, j0, j1, jc, jo⟩ := cand (n := n) k i (by omega)
      refine ⟨j, j0, by omega, Nat.le_trans jc (cq_mono (fun s hs o d => ?_)), jo⟩
      rw [dn_iff] at d ⊢
      intro a
      refine d ?_
      have d1 : 1 ≤ fD f p := k.2.1
      have b1 := (pfN_le (b := fB f p) (z := cLo f s) (i := ((i + 1 : Nat) : Int)) d1 (by omega)).mpr a.1
      have b2 : ¬ pfN (fB f p) (fD f p) (cLo f s) = ((i + 1 : Nat) : Int) := fun e => q ⟨s, hs, o, e⟩
      have b3 := (pfN_le (b := fB f p) (z := cLo f s) (i := (i : Int)) d1 (by omega)).mp (by omega)
      have e : fD f p * ((i + 1 : Nat) : Int) = fD f p * (i : Int) + fD f p := by
        rw [show ((i + 1 : Nat) : Int) = (i : Int) + 1 by omega, Int.mul_add, Int.mul_one]
      rw [e] at a
      exact ⟨b3, by omega⟩
theorem BST.of {f : Nat → Int32} {p n : Nat} (k : FOK f p) {z : Int} (hz : ∃ i, 0 ≤ i ∧ i ≤ fM f p - 1 ∧ z = fB f p + fD f p * i) (c0 : lex f p n z (fB f p + fD f p * 0)) (cs : ∀ s, s < n → isO f p s → pfN (fB f p) (fD f p) (cLo f s) ≤ fM f p - 1 → lex f p n z (fB f p + fD f p * pfN (fB f p) (fD f p) (cLo f s))) : BST f p n z := by
  refine ⟨hz, fun i i0 i1 => ?_⟩
  obtain ⟨m, rfl⟩ : ∃ m : Nat, i = (m : Int) := ⟨i.toNat, by omega⟩
  obtain ⟨j, j0, j1, jc, jo⟩ := cand (n := n) k m i1
  have h1 : lex f p n z (fB f p + fD f p * j) := by
    rcases jo with e | ⟨s, hs, o, e⟩
    · rw [e]; exact c0
    · rw [← e]; exact cs s hs o (by omega)
  have h2 : fD f p * j ≤ fD f p * (m : Int) := Int.mul_le_mul_of_nonneg_left j1 (by have := k.2.1; omega)
  unfold lex at h1 ⊢; omega
noncomputable def bst (f : Nat → Int32) (p : Nat) : Int := Classical.epsilon (fun z => ∃ n : Nat, f 1 = nI n ∧ n ≤ 60 ∧ BST f p n z)
/-- which saying is the w-th that does not allow z -/
def OBJ (f : Nat → Int32) (p n : Nat) (z : Int) (w r : Int32) : Prop := (∃ s, s < n ∧ isO f p s ∧ dn f z s = true ∧ w = nI (cq f p z s) ∧ r = nI s) ∨ ((∀ s, s < n → isO f p s → dn f z s = true → ¬ w = nI (cq f p z s)) ∧ r = -1)
theorem OBJ.un {f : Nat → Int32} {p n : Nat} (hn : n ≤ 60) {z : Int} {w r t : Int32} (x : OBJ f p n z w r) (y : OBJ f p n z w t) : r = t := by
  rcases x with ⟨s, hs, o, d, ew, rfl⟩ | ⟨no, rfl⟩
  · rcases y with ⟨s', hs', o', d', ew', rfl⟩ | ⟨no, rfl⟩
    · have l1 := cq_le (f := f) (p := p) (z := z) (k := s)
      have l2 := cq_le (f := f) (p := p) (z := z) (k := s')
      have e := (nI_eq (by omega) (by omega)).mp (ew.symm.trans ew')
      rcases Nat.lt_trichotomy s s' with c | c | c
      · have := cq_up (f := f) (p := p) (z := z) (a := s + 1) (b := s') c
        rw [cq_y o d] at this; omega
      · rw [c]
      · have := cq_up (f := f) (p := p) (z := z) (a := s' + 1) (b := s) c
        rw [cq_y o' d'] at this; omega
    · exact absurd ew (no s hs o d)
  · rcases y with ⟨s', hs', o', d', ew', rfl⟩ | ⟨no, rfl⟩
    · exact absurd ew' (no s' hs' o' d')
    · rfl
/-! THE CLASS -/
/-- the answer -/
def AQ (f : Nat → Int32) (m n : Nat) (x1 x2 r : Int32) : Prop := (¬ (isRow (nI m) x1 ∧ (-1 ≤ x2.toInt ∨ x2 = -3)) ∧ r = -10) ∨ ∃ p : Nat, p < m ∧ x1 = nI p ∧ ((x2 = -3 ∧ r.toInt = bst f p) ∨ (x2 = -1 ∧ r = nI (cq f p (bst f p) n)) ∨ (0 ≤ x2.toInt ∧ OBJ f p n (bst f p) x2 r))
theorem AQ.un {f : Nat → Int32} {m n : Nat} (hm : m ≤ 24) (hn : n ≤ 60) {x1 x2 r s : Int32} (a : AQ f m n x1 x2 r) (b : AQ f m n x1 x2 s) : r = s := by
  have ok : ∀ {p : Nat} {t : Int32}, ((x2 = -3 ∧ t.toInt = bst f p) ∨ (x2 = -1 ∧ t = nI (cq f p (bst f p) n)) ∨ (0 ≤ x2.toInt ∧ OBJ f p n (bst f p) x2 t)) → -1 ≤ x2.toInt ∨ x2 = -3 := by
    rintro p t (⟨e, -⟩ | ⟨e, -⟩ | ⟨e, -⟩)
    · exact .inr e
    · exact .inl (by rw [e]; decide)
    · exact .inl (by omega)
  rcases a with ⟨a1, rfl⟩ | ⟨p, hp, rfl, a⟩
  · rcases b with ⟨-, rfl⟩ | ⟨p, hp, rfl, b⟩
    · rfl
    · exact absurd ⟨row_of hp (by omega), ok b⟩ a1
  · rcases b with ⟨b1, -⟩ | ⟨p', hp', e1, b⟩
    · exact absurd ⟨row_of hp (by omega), ok a⟩ b1
    · have q1 : p = p' := (nI_eq (by omega) (by omega)).mp e1
      subst q1
      rcases a with ⟨e, u⟩ | ⟨e, u⟩ | ⟨e, u⟩
      · rcases b with ⟨e', u'⟩ | ⟨e', u'⟩ | ⟨e', u'⟩
        · exact Int32.toInt_inj.mp (u.trans u'.symm)
        · rw [e] at e'; exact absurd e' (by decide)
        · rw [e] at e'; exact absurd e' (by decide)
      · rcases b with ⟨e', u'⟩ | ⟨e', u'⟩ | ⟨e', u'⟩
        · rw [e] at e'; exact absurd e' (by decide)
        · exact u.trans u'.symm
        · rw [e] at e'; exact absurd e' (by decide)
      · rcases b with ⟨e', u'⟩ | ⟨e', u'⟩ | ⟨e', u'⟩
        · rw [e'] at e; exact absurd e (by decide)
        · rw [e'] at e; exact absurd e (by decide)
        · exact u.un hn u'
end
section
-- 75.quarrelr
/-! QUARREL, THE REFERENCE -/
def BV (h : HI) (f : Nat → Int32) (p n : Nat) (z : Int) : Prop := (h 135 16).toInt = z ∧ h 135 17 = nI (cq f p z n)
/-- the family and the best are untouched by what SLt changes -/
theorem SLt.k {k : Nat} (h : 11 ≤ k) : ¬ SLt 135 k := by unfold SLt; omega
theorem STr.f {k : Nat} (h : 11 ≤ k ∧ k ≤ 13) : ¬ STr 135 k := by unfold STr; omega
def FG (h : HI) (f : Nat → Int32) (p : Nat) : Prop := (h 135 11).toInt = fB f p ∧ (h 135 12).toInt = fD f p ∧ (h 135 13).toInt = fM f p
theorem FG.kj {S : Nat → Nat → Prop} {h h' : HI} {f : Nat → Int32} {p : Nat} (x : FG h f p) (J : KJ S h h') (n : ∀ k, 11 ≤ k ∧ k ≤ 13 → ¬ S 135 k) : FG h' f p := by
  unfold FG
  rw [J 135 11 (n 11 (by omega)), J 135 12 (n 12 (by omega)), J 135 13 (n 13 (by omega))]; exact x
/-- the best so far, of all that was tried -/
def BQ (h : HI) (f : Nat → Int32) (p n i : Nat) : Prop := ∃ z, BV h f p n z ∧ (∃ t, 0 ≤ t ∧ t ≤ fM f p - 1 ∧ z = fB f p + fD f p * t) ∧ lex f p n z (fB f p + fD f p * 0) ∧ ∀ s, s < i → isO f p s → pfN (fB f p) (fD f p) (cLo f s) ≤ fM f p - 1 → lex f p n z (fB f p + fD f p * pfN (fB f p) (fD f p) (cLo f s))
theorem BQ.tr {h h' : HI} {f : Nat → Int32} {p n i : Nat} {x : Int32} (b : BQ h f p n i) (a : (¬ (0 ≤ x.toInt ∧ x.toInt ≤ fM f p - 1) ∧ h' 135 16 = h 135 16 ∧ h' 135 17 = h 135 17) ∨ ((0 ≤ x.toInt ∧ x.toInt ≤ fM f p - 1) ∧ ∃ z', BV h' f p n z' ∧ lex f p n z' (fB f p + fD f p * x.toInt) ∧ (z' = fB f p + fD f p * x.toInt ∨ BV h f p n z') ∧ ∀ z, BV h f p n z → lex f p n z' z)) : BQ h' f p n i ∧ (0 ≤ x.toInt → x.toInt ≤ fM f p - 1 → ∀ z', BV h' f p n z' → lex f p n z' (fB f p + fD f p * x.toInt)) := by
  obtain ⟨z, B, fam, l0, ls⟩ := b
  rcases a with ⟨a1, a2, a3⟩ | ⟨a1, z', B', lx, o, al⟩
  · exact ⟨⟨z, ⟨by rw [a2]; exact B.1, by rw [a3]; exact B.2⟩, fam, l0, ls⟩, fun h0 h1 => absurd ⟨h0, h1⟩ a1⟩
  · have lz := al z B
    refine ⟨⟨z', B', ?_, lz.tr l0, fun s hs o hp => lz.tr (ls s hs o hp)⟩, fun _ _ z2 B2 => ?_⟩
    · rcases o with e | e
      · exact ⟨x.toInt, a1.1, a1.2, e⟩
      · rw [show z' = z from e.1.symm.trans B.1]; exact fam
    · rw [show z2 = z' from B2.1.symm.trans B'.1]; exact lx
end
section
-- 76.fits
/-! SUMS OF A CHAIN -/
def lkP (f : Nat → Int32) (c k : Nat) : Nat := (f (512 + 10 * c + (3 + k))).toNatClampNeg
def nCh (f : Nat → Int32) (c : Nat) : Nat := (f (512 + 10 * c + 2)).toNatClampNeg
def oCh (f : Nat → Int32) (c : Nat) : Nat := (f (512 + 10 * c + 9)).toNatClampNeg
/-- what the k-th part adds to the least and to the greatest sum; some part stands for another -/
noncomputable def tLo (f : Nat → Int32) (c : Nat) (qp : Nat → Nat) (y k : Nat) : Int := if (oCh f c).testBit k = true then (wvN f (qp (lkP f c k)) y).toInt - (f3 f (qp (lkP f c k))).2.1 else (f3 f (qp (lkP f c k))).1 - (wvN f (qp (lkP f c k)) y).toInt
noncomputable def tHi (f : Nat → Int32) (c : Nat) (qp : Nat → Nat) (y k : Nat) : Int := if (oCh f c).testBit k = true then (wvN f (qp (lkP f c k)) y).toInt - (f3 f (qp (lkP f c k))).1 else (f3 f (qp (lkP f c k))).2.1 - (wvN f (qp (lkP f c k)) y).toInt
noncomputable def sumL (f : Nat → Int32) (c : Nat) (qp : Nat → Nat) (y : Nat) : Nat → Int
  | 0 => 0
  | k + 1 => sumL f c qp y k + tLo f c qp y k
noncomputable def sumH (f : Nat → Int32) (c : Nat) (qp : Nat → Nat) (y : Nat) : Nat → Int
  | 0 => 0
  | k + 1 => sumH f c qp y k + tHi f c qp y k
def SZD (f : Nat → Int32) (c : Nat) (qp : Nat → Nat) (n : Nat) : Prop := ∀ k, k < n → ¬ fMn f (qp (lkP f c k)) = 0
def HLD (f : Nat → Int32) (c : Nat) (qp : Nat → Nat) (y : Nat) : Prop := SZD f c qp (nCh f c) ∧ (f (512 + 10 * c + 0)).toInt ≤ sumL f c qp y (nCh f c) ∧ sumH f c qp y (nCh f c) ≤ (f (512 + 10 * c + 1)).toInt
/-- the chain c of n parts, by the reference's numbers: all its parts, and those that stand for them, are there -/
def CHf (f : Nat → Int32) (c : Nat) (qp : Nat → Nat) (m : Nat) : Prop := nCh f c ≤ 6 ∧ f (512 + 10 * c + 2) = nI (nCh f c) ∧ f (512 + 10 * c + 9) = nI (oCh f c) ∧ oCh f c < 64 ∧ ∀ k, k < nCh f c → lkP f c k < m ∧ f (512 + 10 * c + (3 + k)) = nI (lkP f c k) ∧ qp (lkP f c k) < m
def CHc (h : HI) (f : Nat → Int32) (c : Nat) : Prop := h 9 (c * 15 + 0) = f (512 + 10 * c + 0) ∧ h 9 (c * 15 + 1) = f (512 + 10 * c + 1) ∧ h 9 (c * 15 + 2) = nI (nCh f c) ∧ ∀ k, k < nCh f c → h 9 (c * 15 + (3 + 2 * k)) = nI (lkP f c k) ∧ h 9 (c * 15 + (4 + 2 * k)) = (if (oCh f c).testBit k = true then 1 else 0)
theorem CX.ch {h : HI} {f : Nat → Int32} (x : CX h f) {m mc c : Nat} (T : TT h 2 m 5 24) (em : f 0 = nI m) (U : TT h 8 mc 15 16) (ec : f 2 = nI mc) (hc : c < mc) : CHf f c id m ∧ CHc h f c := by
  have hm := T.2.2.2.1
  have hmc := U.2.2.2.1
  obtain ⟨a1, a2, a3, n, o, a4, a5, a6, a7, a8⟩ := CE.e3.mp (x.ci (j := 3) (by omega) U) c hc
  have a1 : h 9 (c * 15) = f (512 + c * 10) := a1
  have a2 : h 9 (c * 15 + 1) = f (512 + (c * 10 + 1)) := a2
  have a3 : h 9 (c * 15 + 2) = f (512 + (c * 10 + 2)) := a3
  have a8 : ∀ k, k < n → h 9 (c * 15 + (3 + 2 * k)) = f (512 + (c * 10 + (3 + k))) ∧ h 9 (c * 15 + (4 + 2 * k)) = (if o.testBit k then 1 else 0) := a8
  have n2 : 2 ^ n ≤ 2 ^ 6 := Nat.pow_le_pow_right (by decide) a4
  rw [a5] at a3
  rw [show 512 + (c * 10 + 2) = 512 + 10 * c + 2 by omega] at a5
  rw [show 512 + (c * 10 + 9) = 512 + 10 * c + 9 by omega] at a7
  have en : nCh f c = n := by unfold nCh; rw [a5, nI_clamp (by omega)]
  have eo : oCh f c = o := by unfold oCh; rw [a7, nI_clamp (by omega)]
  have pk : ∀ k, k < n → lkP f c k < m ∧ f (512 + 10 * c + (3 + k)) = nI (lkP f c k) := fun k hk => by
    have r := x.2.1.2.2 c mc k n ec hmc hc (by rw [show 512 + (c * 10 + 2) = 512 + 10 * c + 2 by omega]; exact a5) a4 hk
    rw [show 512 + (c * 10 + (3 + k)) = 512 + 10 * c + (3 + k) by omega] at r
    obtain ⟨t, ht, et⟩ := row_n r em (by omega)
    have : lkP f c k = t := by unfold lkP; rw [et, nI_clamp (by omega)]
    rw [this]; exact ⟨ht, et⟩
  unfold CHf CHc
  rw [en, eo]
  refine ⟨⟨a4, a5, a7, by omega, fun k hk => ⟨(pk k hk).1, (pk k hk).2, (pk k hk).1⟩⟩, ?_, ?_, a3, fun k hk => ⟨?_, (a8 k hk).2⟩⟩
  · rw [show 512 + 10 * c + 0 = 512 + c * 10 by omega, Nat.add_zero]; exact a1
  · rw [show 512 + 10 * c + 1 = 512 + (c * 10 + 1) by omega]; exact a2
  · rw [(a8 k hk).1, show 512 + (c * 10 + (3 + k)) = 512 + 10 * c + (3 + k) by omega]; exact (pk k hk).2
theorem CHc.jj {S : Nat → Prop} {h h' : HI} {f : Nat → Int32} {c : Nat} (x : CHc h f c) (J : JJ S h h') (n : ¬ S 9) : CHc h' f c := by
  unfold CHc; rw [J 9 n]; exact x
/-- the chain that was taken -/
def FTK (h : HI) (f : Nat → Int32) (c : Nat) (qp : Nat → Nat) : Prop := h 85 6 = nI c ∧ ((h 85 7 = 1 ∧ SZD f c qp (nCh f c)) ∨ (h 85 7 = 0 ∧ ¬ SZD f c qp (nCh f c))) ∧ ∀ k, k < nCh f c → h 86 k = nI (qp (lkP f c k)) ∧ h 87 k = fLo f (qp (lkP f c k)) ∧ h 88 k = fHi f (qp (lkP f c k))
end
section
-- 77.fitsc
/-! SUM, LIFE, STANDS: the answers, and the class -/
def ASM (f : Nat → Int32) (mc : Nat) (x1 x2 x3 r : Int32) : Prop := (¬ (isRow (nI mc) x1 ∧ bd 0 99 x2 ∧ bd 0 2 x3) ∧ r = -2100000000) ∨ ∃ c y : Nat, c < mc ∧ y ≤ 99 ∧ x1 = nI c ∧ x2 = nI y ∧ bd 0 2 x3 ∧ ((x3 = 2 ∧ ((HLD f c id y ∧ r = 1) ∨ (¬ HLD f c id y ∧ r = 0))) ∨ (¬ x3 = 2 ∧ ¬ SZD f c id (nCh f c) ∧ r = -2000000000) ∨ (¬ x3 = 2 ∧ SZD f c id (nCh f c) ∧ r.toInt = (if x3 = 0 then sumL f c id y (nCh f c) else sumH f c id y (nCh f c))))
theorem ASM.un {f : Nat → Int32} {mc : Nat} (hm : mc ≤ 16) {x1 x2 x3 r s : Int32} (a : ASM f mc x1 x2 x3 r) (b : ASM f mc x1 x2 x3 s) : r = s := by
  rcases a with ⟨a1, rfl⟩ | ⟨c, y, hc, hy, rfl, rfl, b3, a⟩
  · rcases b with ⟨-, rfl⟩ | ⟨c, y, hc, hy, rfl, rfl, b3, -⟩
    · rfl
    · exact absurd ⟨row_of hc (by omega), bd_of (by omega) (by omega) (by omega), b3⟩ a1
  · rcases b with ⟨b1, -⟩ | ⟨c', y', hc', hy', e1, e2, -, b⟩
    · exact absurd ⟨row_of hc (by omega), bd_of (by omega) (by omega) (by omega), b3⟩ b1
    · have q1 : c = c' := (nI_eq (by omega) (by omega)).mp e1
      have q2 : y = y' := (nI_eq (by omega) (by omega)).mp e2
      subst q1; subst q2
      rcases a with ⟨a0, a⟩ | ⟨a0, a1, rfl⟩ | ⟨a0, a1, a2⟩
      · rcases b with ⟨-, b⟩ | ⟨b0, -⟩ | ⟨b0, -⟩
        · rcases a with ⟨a1, rfl⟩ | ⟨a1, rfl⟩
          · rcases b with ⟨-, rfl⟩ | ⟨b1, -⟩
            · rfl
            · exact absurd a1 b1
          · rcases b with ⟨b1, -⟩ | ⟨-, rfl⟩
            · exact absurd b1 a1
            · rfl
        · exact absurd a0 b0
        · exact absurd a0 b0
      · rcases b with ⟨b0, -⟩ | ⟨-, -, rfl⟩ | ⟨-, b1, -⟩
        · exact absurd b0 a0
        · rfl
        · exact absurd b1 a1
      · rcases b with ⟨b0, -⟩ | ⟨-, b1, -⟩ | ⟨-, -, b2⟩
        · exact absurd b0 a0
        · exact absurd a1 b1
        · exact Int32.toInt_inj.mp (a2.trans b2.symm)
def ALF (f : Nat → Int32) (mc : Nat) (x1 x2 r : Int32) : Prop := (¬ (isRow (nI mc) x1 ∧ bd 0 99 x2) ∧ r = -2) ∨ ∃ c y L : Nat, c < mc ∧ y ≤ 99 ∧ x1 = nI c ∧ x2 = nI y ∧ r = nI L ∧ y + L ≤ 100 ∧ (∀ j, j < L → HLD f c id (y + j)) ∧ (y + L < 100 → ¬ HLD f c id (y + L))
theorem ALF.un {f : Nat → Int32} {mc : Nat} (hm : mc ≤ 16) {x1 x2 r s : Int32} (a : ALF f mc x1 x2 r) (b : ALF f mc x1 x2 s) : r = s := by
  rcases a with ⟨a1, rfl⟩ | ⟨c, y, L, hc, hy, rfl, rfl, rfl, l1, l2, l3⟩
  · rcases b with ⟨-, rfl⟩ | ⟨c, y, L, hc, hy, rfl, rfl, -⟩
    · rfl
    · exact absurd ⟨row_of hc (by omega), bd_of (by omega) (by omega) (by omega)⟩ a1
  · rcases b with ⟨b1, -⟩ | ⟨c', y', M, hc', hy', e1, e2, rfl, m1, m2, m3⟩
    · exact absurd ⟨row_of hc (by omega), bd_of (by omega) (by omega) (by omega)⟩ b1
    · have q1 : c = c' := (nI_eq (by omega) (by omega)).mp e1
      have q2 : y = y' := (nI_eq (by omega) (by omega)).mp e2
      subst q1; subst q2
      rcases Nat.lt_trichotomy L M with k | k | k
      · exact absurd (m2 L k) (l3 (by omega))
      · rw [k]
      · exact absurd (l2 M k) (m3 (by omega))
def hasP (f : Nat → Int32) (c p : Nat) : Prop := ∃ k, k < nCh f c ∧ lkP f c k = p
def subP (q p : Nat) (t : Nat) : Nat := if t = q then p else t
def STC (f : Nat → Int32) (p q y c : Nat) : Prop := hasP f c q → ¬ hasP f c p ∧ HLD f c (subP q p) y
def AST (f : Nat → Int32) (m mc : Nat) (x1 x2 x3 r : Int32) : Prop := (¬ (isRow (nI m) x1 ∧ isRow (nI m) x2 ∧ ¬ x1 = x2 ∧ bd 0 99 x3) ∧ r = -2) ∨ ∃ p q y : Nat, p < m ∧ q < m ∧ y ≤ 99 ∧ x1 = nI p ∧ x2 = nI q ∧ x3 = nI y ∧ ¬ x1 = x2 ∧ ((r = 1 ∧ ∀ c, c < mc → STC f p q y c) ∨ (r = 0 ∧ ∃ c, c < mc ∧ ¬ STC f p q y c))
theorem AST.un {f : Nat → Int32} {m mc : Nat} (hm : m ≤ 24) {x1 x2 x3 r s : Int32} (a : AST f m mc x1 x2 x3 r) (b : AST f m mc x1 x2 x3 s) : r = s := by
  rcases a with ⟨a1, rfl⟩ | ⟨p, q, y, hp, hq, hy, rfl, rfl, rfl, ne, a⟩
  · rcases b with ⟨-, rfl⟩ | ⟨p, q, y, hp, hq, hy, rfl, rfl, rfl, ne, -⟩
    · rfl
    · exact absurd ⟨row_of hp (by omega), row_of hq (by omega), ne, bd_of (by omega) (by omega) (by omega)⟩ a1
  · rcases b with ⟨b1, -⟩ | ⟨p', q', y', hp', hq', hy', e1, e2, e3, -, b⟩
    · exact absurd ⟨row_of hp (by omega), row_of hq (by omega), ne, bd_of (by omega) (by omega) (by omega)⟩ b1
    · have q1 : p = p' := (nI_eq (by omega) (by omega)).mp e1
      have q2 : q = q' := (nI_eq (by omega) (by omega)).mp e2
      have q3 : y = y' := (nI_eq (by omega) (by omega)).mp e3
      subst q1; subst q2; subst q3
      rcases a with ⟨rfl, a⟩ | ⟨rfl, c, hc, a⟩
      · rcases b with ⟨rfl, -⟩ | ⟨rfl, c, hc, b⟩
        · rfl
        · exact absurd (a c hc) b
      · rcases b with ⟨rfl, b⟩ | ⟨rfl, -⟩
        · exact absurd (b c hc) a
        · rfl
theorem CHf.n1 {f : Nat → Int32} {c m : Nat} (C : CHf f c id m) (hm : m ≤ 24) : ∀ k, k < nCh f c → (nI (lkP f c k) = (-1 : Int32) → (-1 : Int32) = nI (id (lkP f c k))) ∧ (¬ nI (lkP f c k) = (-1 : Int32) → id (lkP f c k) = lkP f c k) := fun k hk =>
  ⟨fun e => absurd e (nI_nm (by have := (C.2.2.2.2 k hk).1; omega)), fun _ => rfl⟩
theorem FTK.jj {S : Nat → Prop} {h h' : HI} {f : Nat → Int32} {c : Nat} {qp : Nat → Nat} (x : FTK h f c qp) (J : JJ S h h') (n : ∀ q, 85 ≤ q → ¬ S q) : FTK h' f c qp := by
  unfold FTK
  rw [J 85 (n 85 (by omega)), J 86 (n 86 (by omega)), J 87 (n 87 (by omega)), J 88 (n 88 (by omega))]; exact x
end
section
-- 78.fitsr
/-! SUM, LIFE, STANDS, the reference -/
theorem fsel0 {f : Nat → Int32} {p : Nat} : fsel f p 0 = fLo f p := by
  unfold fsel; rw [if_neg (by decide), if_pos rfl]
theorem fsel1 {f : Nat → Int32} {p : Nat} : fsel f p 1 = fHi f p := by
  unfold fsel; rw [if_neg (by decide), if_neg (by decide)]
theorem nI_n2 {j : Nat} (h : j < 2 ^ 31) : ¬ nI j = -2 := fun e => by
  have := nI_toInt h
  rw [e, show (-2 : Int32).toInt = -2 by decide] at this
  omega
theorem CHf.n2 {f : Nat → Int32} {c m : Nat} (C : CHf f c id m) (hm : m ≤ 24) : ∀ k, k < nCh f c → (nI (lkP f c k) = (-2 : Int32) → (-1 : Int32) = nI (id (lkP f c k))) ∧ (¬ nI (lkP f c k) = (-2 : Int32) → id (lkP f c k) = lkP f c k) := fun k hk =>
  ⟨fun e => absurd e (nI_n2 (by have := (C.2.2.2.2 k hk).1; omega)), fun _ => rfl⟩
end
section
-- 79.a.big
/-! BIG NUMBERS OF THE CLASS: o its fields, behind it its digits -/
theorem lN_and (a b : Nat) : lN a &&& lN b = lN (a &&& b) := by
  unfold lN
  apply Int64.toBitVec_inj.mp
  rw [Int64.toBitVec_and]
  show BitVec.ofNat 64 a &&& BitVec.ofNat 64 b = BitVec.ofNat 64 (a &&& b)
  apply BitVec.eq_of_toNat_eq
  rw [BitVec.toNat_and, BitVec.toNat_ofNat, BitVec.toNat_ofNat, BitVec.toNat_ofNat, Nat.and_mod_two_pow]
theorem lN_mask (a : Nat) : lN a &&& (1073741823 : Int64) = lN (a % 1073741824) := by
  rw [show (1073741823 : Int64) = lN (2 ^ 30 - 1) from rfl, lN_and, Nat.and_two_pow_sub_one_eq_mod]
theorem lN_shr {a : Nat} (h : a < 2 ^ 63) : lN a >>> ((30 : Int32).toInt64 &&& 63) = lN (a / 1073741824) := by
  have h2 : a / 1073741824 ≤ a := Nat.div_le_self _ _
  apply Int64.toInt_inj.mp
  show ((lN a).toBitVec.sshiftRight (((30 : Int32).toInt64 &&& 63).toBitVec.smod 64).toNat).toInt = _
  rw [show (((30 : Int32).toInt64 &&& 63).toBitVec.smod 64).toNat = 30 by decide, BitVec.toInt_sshiftRight]
  show (lN a).toInt >>> 30 = _
  rw [pk_lT h, pk_lT (by omega), Int.shiftRight_eq_div_pow]
  rfl
def GC (h : HI) (o W v : Nat) : Prop := h o 1 = nI W ∧ dgs (h (o + 1)) 0 W ∧ vl (h (o + 1)) 0 W = v ∧ 1 ≤ W ∧ ∀ V, W = V + 1 → ¬ h (o + 1) (0 + V) = 0
theorem GC.fr {h h' : HI} {o q W v : Nat} (x : GC h q W v) (J : JJ (SB o) h h') (n : ¬ SB o q ∧ ¬ SB o (q + 1)) : GC h' q W v := by
  unfold GC
  rw [J q n.1, J (q + 1) n.2]; exact x
theorem GC.jj {S : Nat → Prop} {h h' : HI} {q W v : Nat} (x : GC h q W v) (J : JJ S h h') (n : ¬ S q ∧ ¬ S (q + 1)) : GC h' q W v := by
  unfold GC
  rw [J q n.1, J (q + 1) n.2]; exact x
theorem vl_top {f : Nat → Int32} {b n : Nat} (d : dgs f b (n + 1)) (hv : 2 ^ (30 * n) ≤ vl f b (n + 1)) : ¬ f (b + n) = 0 := fun e => by
  have h := vl_lt (n := n) (f := f) (b := b) (fun k hk => d k (by omega))
  unfold vl at hv
  rw [e, cl0, Nat.zero_mul, Nat.add_zero] at hv
  omega
theorem GC.lo {h : HI} {o W v : Nat} (x : GC h o W v) : ∃ V, W = V + 1 ∧ 2 ^ (30 * V) ≤ v ∧ v < 2 ^ (30 * W) := by
  obtain ⟨-, d, e, h1, z⟩ := x
  obtain ⟨V, rfl⟩ : ∃ V, W = V + 1 := ⟨W - 1, by omega⟩
  refine ⟨V, rfl, ?_, ?_⟩
  · rw [← e]; exact vl_le d (z V rfl)
  · rw [← e]; exact vl_lt d
theorem GC.wle {h : HI} {o W v m : Nat} (x : GC h o W v) (hv : v < 2 ^ (30 * m)) : W ≤ m := by
  obtain ⟨V, rfl, h1, -⟩ := x.lo
  by_cases c : V + 1 ≤ m
  · exact c
  · have h3 : 2 ^ (30 * m) ≤ 2 ^ (30 * V) := Nat.pow_le_pow_right (by omega) (by omega)
    omega
theorem q_X0_set {h : HI} {g : HL} {o v : Nat} (hv : 1 ≤ v ∧ v < 1073741824) : w_X0_set o (nI v) h g (fun h' g' => g = g' ∧ JJ (SB o) h h' ∧ GC h' o 1 v) := by
  unfold w_X0_set
  rw [cl0]
  refine and_have (vp_in_iff.mpr (by decide)) (fun _ => ?_)
  intro h1 e1 h2 e2
  have ea : h2 (o + 1) = upd (h (o + 1)) 0 (nI v) := by rw [e2, hu_ne (by omega), e1, hu_eq]
  refine ⟨rfl, (JJ.rf.hu e1 (by unfold SB; omega)).hu e2 (by unfold SB; omega), by rw [e2, hu_eq, pk_us]; rfl, ?_, ?_, by omega, fun V hV => ?_⟩
  · intro k hk
    have : k = 0 := by omega
    subst this
    exact ⟨v, hv.2, by rw [ea]; exact pk_us⟩
  · unfold vl vl
    rw [ea, pk_us, nI_clamp (by omega), Nat.mul_zero, Nat.pow_zero, Nat.mul_one, Nat.zero_add]
  · have : V = 0 := by omega
    subst this
    rw [ea, pk_us]
    exact nI_ne0 (by omega) (by omega)
set_option maxHeartbeats 1000000 in
theorem q_X0_times {h : HI} {g : HL} {o W v B : Nat} (G : GC h o W v) (hW : W ≤ 69) (hB : 1 ≤ B ∧ B < 1073741824) : w_X0_times o (nI B) h g (fun h' g' => g = g' ∧ JJ (SB o) h h' ∧ ∃ W', W' ≤ W + 1 ∧ GC h' o W' (v * B)) := by
  obtain ⟨V0, hV0, lo, -⟩ := G.lo
  obtain ⟨h7, hd, hv, hw1, hz⟩ := G
  unfold w_X0_times
  refine lpE_intro (fun ⟨a_q, b_q, c_q, h_q, g_q⟩ => ∃ k c : Nat, k ≤ W ∧ c ≤ B ∧ nI B = a_q ∧ lN c = b_q ∧ nI k = c_q ∧ g = g_q ∧ JJ (SB o) h h_q ∧ h_q o = h o ∧ dgs (h_q (o + 1)) 0 k ∧ (∀ j, k ≤ j → h_q (o + 1) (0 + j) = h (o + 1) (0 + j)) ∧ vl (h_q (o + 1)) 0 k + c * 2 ^ (30 * k) = vl (h (o + 1)) 0 k * B) (fun ⟨_, _, c_q, _, _⟩ => dif (nI W) c_q) ?_ _ ⟨0, 0, by omega, by omega, rfl, rfl, nI_0, rfl, JJ.rf, rfl, fun k hk => absurd hk (Nat.not_lt_zero k), fun _ _ => rfl, by unfold vl; omega⟩
  rintro ⟨y1, y2, y3, h2, g2⟩ K ⟨k, c, hk, hc, rfl, rfl, rfl, rfl, J2, eo, hd2, hsame, hval⟩ hK
  unfold F_X0_times_5; dsimp only; unfold b_X0_times_5
  have n70 : ¬ (70 : Int32) ≤ nI k := fun q => by
    rw [show (70 : Int32) = nI 70 from rfl, nI_leI (by omega) (by omega)] at q; omega
  rw [eo, h7]
  refine ⟨fun cw => ?_, fun cw => ⟨fun q => absurd q n70, fun _ => ?_⟩⟩
  · have ek : k = W := by
      rw [nI_leI (by omega) (by omega)] at cw; omega
    subst ek
    rw [hv] at hval
    unfold j_X0_times_59
    refine ⟨fun cc => ?_, fun cc => ?_⟩
    · rw [lg_cmp_le, show (0 : Int64) = lN 0 from rfl, pk_lLE (by omega) (by omega)] at cc
      have c0 : c = 0 := by omega
      subst c0
      have hval : vl (h2 (o + 1)) 0 k = v * B := by omega
      refine ⟨rfl, J2, k, by omega, by rw [eo]; exact h7, hd2, hval, hw1, fun V hV => ?_⟩
      subst hV
      have e0 : V = V0 := by omega
      subst e0
      refine vl_top hd2 ?_
      rw [hval]
      exact Nat.le_trans lo (Nat.le_mul_of_pos_right v (by omega))
    · rw [lg_cmp_le, show (0 : Int64) = lN 0 from rfl, pk_lLE (by omega) (by omega)] at cc
      rw [eo, h7]
      refine c_wb (fun q => ⟨fun a => absI a, fun _ => ?_⟩) (fun q => absurd (bd_of (n := k) (by omega) (by rw [i0]; omega) (by rw [show (69 : Int32).toInt = 69 by decide]; omega)) q)
      rw [eo, h7, nI_clamp (by omega), lN_i]
      refine and_have (vp_in_nI (by omega) (by omega)) (fun _ => ?_)
      intro h3 e3
      intro h4 e4
      have e3o : h3 o 1 = nI k := by rw [e3, hu_ne (by omega), eo]; exact h7
      rw [e3o, show nI k + (1 : Int32) = nI (k + 1) from nI_1 k] at e4
      have ea : h4 (o + 1) = upd (h2 (o + 1)) k (nI c) := by rw [e4, hu_ne (by omega), e3, hu_eq]
      have dg : dgs (h4 (o + 1)) 0 (k + 1) := fun i hi => by
        rw [ea, Nat.zero_add]
        by_cases e : i = k
        · subst e; rw [pk_us]; exact ⟨c, by omega, rfl⟩
        · rw [pk_un e]
          have := hd2 i (by omega)
          rw [Nat.zero_add] at this; exact this
      have val : vl (h4 (o + 1)) 0 (k + 1) = v * B := by
        unfold vl
        rw [ea, Nat.zero_add, pk_us, nI_clamp (by omega), vl_cg (f := h2 (o + 1)) (fun i hi => pk_un (by omega)), hval]
      refine ⟨rfl, (J2.hu e3 (by unfold SB; omega)).hu e4 (by unfold SB; omega), k + 1, by omega, by rw [e4, hu_eq, pk_us], dg, val, by omega, fun V hV => ?_⟩
      have : V = k := by omega
      subst this
      rw [ea, Nat.zero_add, pk_us]
      exact nI_ne0 (by omega) (by omega)
  · have hd3 := dif_lt cw
    have hkW : k < W := by
      rw [nI_leI (by omega) (by omega)] at cw; omega
    obtain ⟨j, hj, ej⟩ := hd k hkW
    rw [nI_clamp (by omega)]
    have hs := hsame k (Nat.le_refl _)
    rw [ej, Nat.zero_add] at hs
    have hjB : j * B ≤ 1073741823 * 1073741823 := Nat.mul_le_mul (by omega) (by omega)
    refine and_have (vp_in_nI (by omega) (by omega)) (fun _ => ?_)
    rw [hs, nI_l (by omega), nI_l (by omega), lN_mul, lN_add]
    rintro _ rfl
    rw [lN_mask, lN_shr (by omega), lN_i]
    refine and_have (vp_in_nI (by omega) (by omega)) (fun _ => ?_)
    intro h3 e3
    rintro _ rfl
    rintro _ rfl
    rw [Nat.add_comm c (j * B)] at e3 ⊢
    have hm := Nat.mod_lt (j * B + c) (y := 1073741824) (by omega)
    have hdm := Nat.div_add_mod (j * B + c) 1073741824
    have ea : h3 (o + 1) = upd (h2 (o + 1)) k (nI ((j * B + c) % 1073741824)) := by rw [e3, hu_eq]
    have hjc : j * B + c ≤ 1073741823 * B + B := by
      have : j * B ≤ 1073741823 * B := Nat.mul_le_mul_right _ (by omega)
      omega
    have hcB : (j * B + c) / 1073741824 ≤ B := Nat.div_le_of_le_mul (by omega)
    refine hK _ ⟨k + 1, (j * B + c) / 1073741824, by omega, hcB, rfl, rfl, (nI_1 k).symm, rfl, J2.hu e3 (by unfold SB; omega), by rw [e3, hu_ne (by omega)]; exact eo, fun i hi => ?_, fun i hi => ?_, ?_⟩ hd3
    · rw [ea, Nat.zero_add]
      by_cases ei : i = k
      · subst ei; rw [pk_us]; exact ⟨_, hm, rfl⟩
      · rw [pk_un ei]
        have := hd2 i (by omega)
        rw [Nat.zero_add] at this; exact this
    · rw [ea, pk_un (by omega)]; exact hsame i (by omega)
    · unfold vl
      rw [ea, Nat.zero_add, pk_us, nI_clamp (by omega), vl_cg (f := h2 (o + 1)) (fun i hi => pk_un (by omega))]
      rw [Nat.zero_add] at ej
      rw [ej, nI_clamp (by omega), p30, Nat.add_mul, ← hval]
      have e5 : (j * B + c) / 1073741824 * (1073741824 * 2 ^ (30 * k)) = (1073741824 * ((j * B + c) / 1073741824)) * 2 ^ (30 * k) := by
        rw [← Nat.mul_assoc, Nat.mul_comm ((j * B + c) / 1073741824) 1073741824]
      have e6 : j * 2 ^ (30 * k) * B = j * B * 2 ^ (30 * k) := by
        rw [Nat.mul_assoc, Nat.mul_comm (2 ^ (30 * k)) B, ← Nat.mul_assoc]
      have e7 : (j * B + c) * 2 ^ (30 * k) = (1073741824 * ((j * B + c) / 1073741824)) * 2 ^ (30 * k) + (j * B + c) % 1073741824 * 2 ^ (30 * k) := by
        rw [← Nat.add_mul, hdm]
      rw [Nat.add_mul] at e7
      rw [e5, e6]
      omega
theorem GC.lt {h : HI} {o q W v U u : Nat} (x : GC h o W v) (y : GC h q U u) (k : W < U) : v < u := by
  obtain ⟨-, -, -, h1⟩ := x.lo
  obtain ⟨V, rfl, h2, -⟩ := y.lo
  have h3 : 2 ^ (30 * W) ≤ 2 ^ (30 * V) := Nat.pow_le_pow_right (by omega) (by omega)
  omega
theorem q_X0_above {h : HI} {g : HL} {o q W U v u : Nat} (x : GC h o W v) (y : GC h q U u) (hW : W ≤ 70) (hU : U ≤ 70) : w_X0_above o q h g (fun r h' g' => h = h' ∧ g = g' ∧ ((r = 1 ∧ u < v) ∨ (r = 0 ∧ v ≤ u))) := by
  unfold w_X0_above
  rw [x.1, y.1]
  refine ⟨fun c => ?_, fun c => ?_⟩
  · have e : W = U := (nI_eq (by omega) (by omega)).mp c
    subst e
    rintro _ rfl
    have fin : ∀ (a b : Nat → Int32) (k A B : Nat), dgs a 0 (k + 1) → vl a 0 (k + 1) + B = vl b 0 (k + 1) + A → ∀ i j : Nat, a (0 + k) = nI i → b (0 + k) = nI j → i < 1073741824 → j < 1073741824 → i < j → A < B := by
      intro a b k A B d hv i j ei ej hi hj hij
      have l1 := vl_lt (n := k) (f := a) (b := 0) (fun q hq => d q (by omega))
      unfold vl at hv
      rw [ei, ej, nI_clamp (by omega), nI_clamp (by omega)] at hv
      have h2 : (i + 1) * 2 ^ (30 * k) ≤ j * 2 ^ (30 * k) := Nat.mul_le_mul_right _ (by omega)
      rw [Nat.add_mul, Nat.one_mul] at h2
      omega
    refine lpE_intro (fun ⟨a_q, h_q, g_q⟩ => ∃ k : Nat, k ≤ W ∧ nI k - 1 = a_q ∧ h = h_q ∧ g = g_q ∧ vl (h (o + 1)) 0 k + u = vl (h (q + 1)) 0 k + v) (fun ⟨a_q, _, _⟩ => prd a_q) ?_ _ ⟨W, Nat.le_refl _, rfl, rfl, rfl, by rw [x.2.2.1, y.2.2.1]; omega⟩
    rintro ⟨y1, h1, g1⟩ K ⟨k, hk, rfl, rfl, rfl, hv⟩ hK
    unfold F_X0_above_35; dsimp only; unfold b_X0_above_35
    refine ⟨fun c0 => ?_, fun c0 => ?_⟩
    · have k0 : k = 0 := by
        by_cases z : k = 0
        · exact z
        · exfalso
          obtain ⟨j, rfl⟩ : ∃ j, k = j + 1 := ⟨k - 1, by omega⟩
          rw [nI_pred] at c0
          exact nI_pos (by omega) c0
      subst k0
      unfold vl at hv
      exact ⟨rfl, rfl, .inr ⟨rfl, by omega⟩⟩
    · obtain ⟨j, rfl⟩ : ∃ j, k = j + 1 := ⟨k - 1, by
        have : k ≠ 0 := fun z => c0 (by rw [z]; decide)
        omega⟩
      have hd := prd_lt c0
      rw [nI_pred] at hd
      rw [nI_pred, nI_clamp (by omega)]
      have vj : vp_in (nI j) 70 := vp_in_nI (by omega) (by omega)
      obtain ⟨a, ha, ea⟩ := x.2.1 j (by omega)
      obtain ⟨b, hb, eb⟩ := y.2.1 j (by omega)
      have ea0 := ea
      have eb0 := eb
      rw [Nat.zero_add] at ea eb
      rw [ea, eb]
      refine ⟨fun z => ?_, fun _ => ⟨vj, vj, fun ce => ?_, fun ce => ⟨vj, vj, fun cl => ?_, fun cl => ?_⟩⟩⟩
      · rw [show (70 : Int32) = nI 70 from rfl, nI_leI (by omega) (by omega)] at z; omega
      · rintro _ rfl
        refine hK _ ⟨j, by omega, by
          cases j with
          | zero => decide
          | succ i => rw [nI_pred, pk_m1], rfl, rfl, ?_⟩ (by dsimp only; rw [nI_pred]; exact hd)
        unfold vl at hv
        rw [ea0, eb0, ce] at hv
        omega
      · rw [nI_leI (by omega) (by omega)] at cl
        have ab : a ≠ b := fun z => ce (by rw [z])
        refine ⟨rfl, rfl, .inr ⟨rfl, ?_⟩⟩
        have := fin (h (o + 1)) (h (q + 1)) j v u (fun i hi => x.2.1 i (by omega)) hv a b ea0 eb0 ha hb (by omega)
        omega
      · rw [nI_leI (by omega) (by omega)] at cl
        refine ⟨rfl, rfl, .inl ⟨rfl, ?_⟩⟩
        exact fin (h (q + 1)) (h (o + 1)) j u v (fun i hi => y.2.1 i (by omega)) hv.symm b a eb0 ea0 hb ha (by omega)
  · refine ⟨fun cl => ?_, fun cl => ?_⟩
    · rw [nI_leI (by omega) (by omega)] at cl
      have : W ≠ U := fun z => c (by rw [z])
      have := x.lt y (by omega)
      exact ⟨rfl, rfl, .inr ⟨rfl, by omega⟩⟩
    · rw [nI_leI (by omega) (by omega)] at cl
      exact ⟨rfl, rfl, .inl ⟨rfl, y.lt x (by omega)⟩⟩
theorem q_X0_copy {h : HI} {g : HL} {o q W v : Nat} (x : GC h q W v) (hW : W ≤ 70) (n : ¬ o = q ∧ ¬ o = q + 1 ∧ ¬ o + 1 = q) : w_X0_copy o q h g (fun h' g' => g = g' ∧ JJ (SB o) h h' ∧ GC h' o W v) := by
  unfold w_X0_copy
  refine and_have (by decide) (fun _ => ?_)
  intro h1 e1
  intro h2 e2
  have e70 : (70 : Int32).toNatClampNeg = 70 := by decide
  rw [cl0, e70] at e1
  have eq1 : h1 q 1 = h q 1 := by rw [e1, hua_ne (by omega)]
  rw [eq1, x.1] at e2
  have ea : ∀ k, k < 70 → h2 (o + 1) (0 + k) = h (q + 1) (0 + k) := fun k hk => by
    rw [e2, hu_ne (by omega), e1, hua_eq, pk_cpy_in (by omega) (by omega), Nat.zero_add, Nat.sub_zero, Nat.zero_add]
  refine ⟨rfl, (JJ.rf.hua e1 (by unfold SB; omega)).hu e2 (by unfold SB; omega), by rw [e2, hu_eq, pk_us], x.2.1.cg (fun k hk => ea k (by omega)), ?_, x.2.2.2.1, fun V hV => ?_⟩
  · rw [vl_cg (f := h (q + 1)) (fun k hk => ea k (by omega))]; exact x.2.2.1
  · rw [ea V (by omega)]; exact x.2.2.2.2 V hV
end
section
-- 79.b.half
/-! HALF, the class -/
/-- the odds of the works, and the loads, in the class's tables -/
theorem CX.od {h : HI} {f : Nat → Int32} (c : CX h f) : TT h 16 1 2 1 ∧ h 17 0 = f 9 ∧ h 17 1 = f 10 := by
  obtain ⟨m, T, k⟩ := c.1 7 (by omega)
  have k : m = 1 := k
  subst k
  have e := (CE.es (by decide) (by decide)).mp (c.ci (j := 7) (by omega) T)
  exact ⟨T, e 0 (by decide), e 1 (by decide)⟩
def whP (f : Nat → Int32) (p : Nat) : Nat := 1000 - ((f 9).toNatClampNeg + (f 10).toNatClampNeg * (f (20 + 5 * p + 0)).toNatClampNeg)
/-- the chance of a year, shortened by d -/
def KO (h : HI) (V : Nat) : Prop := ∃ k o d : Nat, 1 ≤ d ∧ 1 ≤ k ∧ k * d = V ∧ o * d = 1000 ∧ h 109 5 = nI k ∧ h 109 6 = nI o
theorem KO.bd {h : HI} {V : Nat} (x : KO h V) (hV : V ≤ 1000) : ∃ k o d : Nat, 1 ≤ d ∧ 1 ≤ k ∧ k ≤ 1000 ∧ 1 ≤ o ∧ o ≤ 1000 ∧ k * d = V ∧ o * d = 1000 ∧ h 109 5 = nI k ∧ h 109 6 = nI o := by
  obtain ⟨k, o, d, hd, hk, e1, e2, e5, e6⟩ := x
  have k1 : k ≤ k * d := Nat.le_mul_of_pos_right k (by omega)
  have o1 : o ≤ o * d := Nat.le_mul_of_pos_right o (by omega)
  have o0 : o ≠ 0 := fun e => by rw [e, Nat.zero_mul] at e2; omega
  exact ⟨k, o, d, hd, hk, by omega, by omega, by omega, e1, e2, e5, e6⟩
def AHA (f : Nat → Int32) (m : Nat) (x1 r : Int32) : Prop := (¬ isRow (nI m) x1 ∧ r = -2) ∨ ∃ p : Nat, p < m ∧ x1 = nI p ∧ HQ (whP f p) 1000 r
theorem AHA.un {f : Nat → Int32} {m : Nat} (hm : m ≤ 24) {x1 r s : Int32} (a : AHA f m x1 r) (b : AHA f m x1 s) : r = s := by
  rcases a with ⟨a1, rfl⟩ | ⟨p, hp, rfl, a1⟩
  · rcases b with ⟨-, rfl⟩ | ⟨p, hp, rfl, -⟩
    · rfl
    · exact absurd (row_of hp (by omega)) a1
  · rcases b with ⟨b1, -⟩ | ⟨p', hp', e1, b1⟩
    · exact absurd (row_of hp (by omega)) b1
    · have q1 : p = p' := (nI_eq (by omega) (by omega)).mp e1
      subst q1; exact a1.un b1
end
section
-- 79.c.fit
/-! FITTED -/
def ldT (f : Nat → Int32) (i : Nat) : Nat := (f (737 + 2 * i + 0)).toNatClampNeg
def fcT (f : Nat → Int32) (a b i : Nat) : Nat := if f (737 + 2 * i + 1) = 1 then a + b * ldT f i else 1000 - (a + b * ldT f i)
def okT9 (f : Nat → Int32) (a b i : Nat) : Prop := 1 ≤ a + b * ldT f i ∧ a + b * ldT f i ≤ 999
/-- the product of what was told, none where A and B may not be -/
def LK (f : Nat → Int32) (a b : Nat) : Nat → Nat → Prop
  | 0, v => v = 1
  | i + 1, v => ∃ u, LK f a b i u ∧ okT9 f a b i ∧ v = u * fcT f a b i
theorem LK.un {f : Nat → Int32} {a b : Nat} : ∀ {i v u : Nat}, LK f a b i v → LK f a b i u → v = u
  | 0, v, u, x, y => Eq.trans (show v = 1 from x) (Eq.symm (show u = 1 from y))
  | i + 1, v, u, ⟨v', x, _, ev⟩, ⟨u', y, _, eu⟩ => by rw [ev, eu, LK.un x y]
theorem LK.bd {f : Nat → Int32} {a b : Nat} : ∀ {i v : Nat}, LK f a b i v → 1 ≤ v ∧ v ≤ 1000 ^ i
  | 0, v, x => by
    have x : v = 1 := x
    rw [x]; exact ⟨by decide, by decide⟩
  | i + 1, v, ⟨u, x, ok, e⟩ => by
    obtain ⟨h1, h2⟩ := LK.bd x
    have hf : 1 ≤ fcT f a b i ∧ fcT f a b i ≤ 1000 := by
      unfold okT9 at ok
      unfold fcT
      by_cases q : f (737 + 2 * i + 1) = 1
      · rw [if_pos q]; omega
      · rw [if_neg q]; omega
    rw [e]
    refine ⟨Nat.mul_pos (by omega) (by omega), ?_⟩
    rw [Nat.pow_succ]
    exact Nat.mul_le_mul h2 hf.2
theorem LK.dn {f : Nat → Int32} {a b i : Nat} (n : ¬ okT9 f a b i) : ∀ {j : Nat}, i < j → ∀ v, ¬ LK f a b j v
  | 0, h, _, _ => absurd h (Nat.not_lt_zero i)
  | j + 1, h, v, ⟨u, x, ok, _⟩ => by
    by_cases e : i = j
    · subst e; exact n ok
    · exact LK.dn n (j := j) (by omega) u x
theorem LK.sm {f : Nat → Int32} {a b i v : Nat} (x : LK f a b i v) (hi : i ≤ 40) : v < 2 ^ (30 * 14) := by
  have h := x.bd.2
  have h1 : (1000 : Nat) ^ i ≤ 1024 ^ i := Nat.pow_le_pow_left (by decide) i
  have h2 : (1024 : Nat) ^ i ≤ 1024 ^ 40 := Nat.pow_le_pow_right (by decide) hi
  have h3 : (1024 : Nat) ^ 40 < 2 ^ (30 * 14) := by decide
  omega
/-- the first of the likeliest among the first k codes -/
def BF9 (f : Nat → Int32) (n : Nat) : Nat → Nat → Nat → Prop
  | 0, _, _ => False
  | k + 1, c, v => (LK f (k / 10) (k % 10) n v ∧ c = k ∧ ∀ c' u, BF9 f n k c' u → u < v) ∨ (BF9 f n k c v ∧ ∀ u, LK f (k / 10) (k % 10) n u → u ≤ v)
theorem BF9.un {f : Nat → Int32} {n : Nat} : ∀ {k c v c' v' : Nat}, BF9 f n k c v → BF9 f n k c' v' → c = c' ∧ v = v'
  | 0, _, _, _, _, x, _ => absurd x id
  | k + 1, c, v, c', v', x, y => by
    rcases x with ⟨x1, rfl, x3⟩ | ⟨x1, x3⟩
    · rcases y with ⟨y1, rfl, y3⟩ | ⟨y1, y3⟩
      · exact ⟨rfl, x1.un y1⟩
      · have := x3 _ _ y1
        have := y3 _ x1
        omega
    · rcases y with ⟨y1, rfl, y3⟩ | ⟨y1, y3⟩
      · have := y3 _ _ x1
        have := x3 _ y1
        omega
      · exact BF9.un x1 y1
def AFT (f : Nat → Int32) (n : Nat) (r : Int32) : Prop := ((∀ c v, ¬ BF9 f n 100 c v) ∧ r = -1) ∨ ∃ c v : Nat, BF9 f n 100 c v ∧ r = nI c
theorem AFT.un {f : Nat → Int32} {n : Nat} {r s : Int32} (a : AFT f n r) (b : AFT f n s) : r = s := by
  rcases a with ⟨a1, rfl⟩ | ⟨c, v, a1, rfl⟩
  · rcases b with ⟨-, rfl⟩ | ⟨c, v, b1, rfl⟩
    · rfl
    · exact absurd b1 (a1 c v)
  · rcases b with ⟨b1, -⟩ | ⟨c', v', b1, rfl⟩
    · exact absurd a1 (b1 c v)
    · rw [(a1.un b1).1]
theorem VR.ld {f : Nat → Int32} (v : VR f) {i : Nat} (hi : i < 40) : ldT f i ≤ 100 ∧ f (737 + 2 * i + 0) = nI (ldT f i) := by
  obtain ⟨l, h1, h2, e⟩ := bd_nI (v.at (vg_T (c := 0) hi (by omega)))
  have h1 : (l : Int) ≤ 100 := h1
  have : ldT f i = l := by unfold ldT; rw [e, nI_clamp h2]
  rw [this]; exact ⟨by omega, e⟩
theorem CX.tT {h : HI} {f : Nat → Int32} (c : CX h f) : ∃ m, TT h 18 m 2 40 ∧ f 6 = nI m := c.1 8 (by omega)
theorem CX.ct {h : HI} {f : Nat → Int32} (c : CX h f) {m i k : Nat} (T : TT h 18 m 2 40) (hi : i < m) (hk : k < 2) : h 19 (i * 2 + k) = f (737 + 2 * i + k) := by
  have := (CE.es (by decide) (by decide)).mp (c.ci (j := 8) (by omega) T) (i * 2 + k) (by show i * 2 + k < m * 2; omega)
  rw [show 737 + 2 * i + k = 737 + (i * 2 + k) by omega]; exact this
theorem q_X1_weigh {h : HI} {g : HL} {f : Nat → Int32} (c : CX h f) {n a b : Nat} (T : TT h 18 n 2 40) (ha : a ≤ 9) (hb : b ≤ 9) : w_X1_weigh (nI a) (nI b) h g (fun r h' _ => JJ (SB 114) h h' ∧ ((r = 1 ∧ ∃ v W, LK f a b n v ∧ W ≤ 15 ∧ GC h' 114 W v) ∨ (r = 0 ∧ ∀ v, ¬ LK f a b n v))) := by
  have hn := T.2.2.2.1
  have v := c.2.2.2.1
  unfold w_X1_weigh
  refine c_v (q_X0_set (o := 114) (v := 1) (by omega)) ?_
  rintro h1 _ ⟨rfl, J1, A1⟩
  refine lpE_intro (fun ⟨a_q, b_q, c_q, d_q, h_q, _⟩ => ∃ i wt u W : Nat, i ≤ n ∧ nI a = a_q ∧ nI b = b_q ∧ nI wt = c_q ∧ nI i = d_q ∧ JJ (SB 114) h h_q ∧ 1 ≤ wt ∧ wt < 1073741 ∧ GC h_q 114 W u ∧ LK f a b i (u * wt)) (fun ⟨_, _, _, d_q, _, _⟩ => dif (nI n) d_q) ?_ _ ⟨0, 1, 1, 1, by omega, rfl, rfl, rfl, nI_0, J1, by omega, by omega, A1, rfl⟩
  clear A1 J1
  rintro ⟨y1, y2, y3, y4, h2, g2⟩ K ⟨i, wt, u, W, hi, rfl, rfl, rfl, rfl, J2, w1, w2, A2, lk⟩ hK
  have T2 : TT h2 18 n 2 40 := T.cg (J2 18 (by unfold SB; omega))
  have c2 : CX h2 f := c.jj J2 (fun q hq => by unfold SB; omega)
  have uw : u ≤ u * wt := Nat.le_mul_of_pos_right u (by omega)
  have W14 : W ≤ 14 := A2.wle (by have := lk.sm (by omega); omega)
  unfold F_X1_weigh_13; dsimp only; unfold b_X1_weigh_13
  refine c_i p_rows ?_
  rintro _ _ _ ⟨rfl, rfl, rfl⟩
  rw [T2.2.2.1]
  refine ⟨fun q => ?_, fun q => ?_⟩
  · rw [nI_leI (by omega) (by omega)] at q
    have : i = n := by omega
    subst this
    refine c_v (q_X0_times (B := wt) A2 (by omega) (by omega)) ?_
    rintro h3 _ ⟨rfl, J3, W', hW', A3⟩
    exact ⟨J2.tr J3, .inl ⟨rfl, _, W', lk, by omega, A3⟩⟩
  · have hd := dif_lt q
    rw [nI_leI (by omega) (by omega)] at q
    obtain ⟨l1, l2⟩ := v.ld (i := i) (by omega)
    have bl : b * ldT f i ≤ 9 * 100 := Nat.mul_le_mul hb l1
    refine c_i (p_atT T2) ?_
    rintro _ _ _ ⟨rfl, rfl, rfl⟩
    rw [show tat h2 18 (nI i) (0 : Int32) = nI (ldT f i) from (tat_nI T2 (b := 0) (by omega) (by omega)).trans ((c2.ct T2 (by omega) (by omega)).trans l2)]
    refine ⟨fun r h' g' => r = nI (a + b * ldT f i) ∧ h2 = h' ∧ g2 = g', ?_, ?_⟩
    · unfold w_X1_oddsOf
      exact ⟨by rw [pk_mul, nI_add], rfl, rfl⟩
    rintro _ _ _ ⟨rfl, rfl, rfl⟩
    refine c_wb (fun k => ⟨fun _ => ?_, fun z => absI z⟩) (fun k => ⟨fun z => absurd rfl z, fun _ => ⟨J2, .inr ⟨rfl, LK.dn (i := i) (fun ok => k ?_) (by omega)⟩⟩⟩)
    rotate_left
    · exact bd_of (by omega) (by rw [show (1 : Int32).toInt = 1 by decide]; unfold okT9 at ok; omega) (by rw [show (999 : Int32).toInt = 999 by decide]; unfold okT9 at ok; omega)
    have ok : okT9 f a b i := by
      unfold bd at k
      rw [nI_toInt (by omega), show (1 : Int32).toInt = 1 by decide, show (999 : Int32).toInt = 999 by decide] at k
      unfold okT9; omega
    refine c_i (p_atT T2) ?_
    rintro _ _ _ ⟨rfl, rfl, rfl⟩
    rw [show tat h2 18 (nI i) (1 : Int32) = f (737 + 2 * i + 1) from (tat_nI T2 (b := 1) (by omega) (by omega)).trans (c2.ct T2 (by omega) (by omega))]
    have j91 : ∀ (fc : Nat), fc = fcT f a b i → 1 ≤ fc → fc ≤ 999 → j_X1_weigh_91 (fun r h' _ => JJ (SB 114) h h' ∧ ((r = 1 ∧ ∃ v W, LK f a b n v ∧ W ≤ 15 ∧ GC h' 114 W v) ∨ (r = 0 ∧ ∀ v, ¬ LK f a b n v))) (fun x1 x2 x3 x4 h g => K (x1, x2, x3, x4, h, g)) (nI a) (nI b) (nI i) (nI wt) (nI fc) h2 g2 := by
      intro fc efc f1 f2
      have wf : wt * fc ≤ 1073740 * 999 := Nat.mul_le_mul (by omega) f2
      have wf1 : 1 ≤ wt * fc := Nat.mul_pos (by omega) (by omega)
      have lk' : LK f a b (i + 1) (u * (wt * fc)) := ⟨u * wt, lk, ok, by rw [← efc, Nat.mul_assoc]⟩
      unfold j_X1_weigh_91
      rw [pk_mul]
      rintro _ rfl
      refine ⟨fun z => ?_, fun z => ?_⟩
      · rw [show (1073741 : Int32) = nI 1073741 from rfl, nI_ltI (by omega) (by omega)] at z
        unfold j_X1_weigh_109
        rintro _ rfl
        exact hK _ ⟨i + 1, wt * fc, u, W, by omega, rfl, rfl, rfl, (nI_1 i).symm, J2, wf1, z, A2, lk'⟩ hd
      · refine c_v (q_X0_times (B := wt * fc) A2 (by omega) (by omega)) ?_
        rintro h3 _ ⟨rfl, J3, W', hW', A3⟩
        unfold j_X1_weigh_109
        rintro _ rfl
        exact hK _ ⟨i + 1, 1, u * (wt * fc), W', by omega, rfl, rfl, rfl, (nI_1 i).symm, J2.tr J3, by omega, by omega, A3, by rw [Nat.mul_one]; exact lk'⟩ hd
    unfold okT9 at ok
    refine ⟨fun z => ?_, fun z => j91 _ (by unfold fcT; rw [if_pos z]) (by omega) (by omega)⟩
    rw [show (1000 : Int32) = nI 1000 from rfl, pk_sub (by omega)]
    exact j91 _ (by unfold fcT; rw [if_neg z]) (by omega) (by omega)
theorem BF9.lt {f : Nat → Int32} {n : Nat} : ∀ {k c v : Nat}, BF9 f n k c v → c < k
  | 0, _, _, x => absurd x id
  | k + 1, c, v, x => by
    rcases x with ⟨-, e, -⟩ | ⟨x1, -⟩
    · omega
    · have := BF9.lt x1; omega
theorem q_X10_fitted {h : HI} {g : HL} {f : Nat → Int32} (c : CX h f) {n : Nat} (T : TT h 18 n 2 40) : w_X10_fitted h g (fun r h' _ => JJ SBrk h h' ∧ AFT f n r) := by
  have hn := T.2.2.2.1
  have uS : ∀ o, 110 ≤ o ∧ o ≤ 116 → ∀ q, SB o q → SBrk q := fun o ho q hq => by unfold SB at hq; unfold SBrk; omega
  unfold w_X10_fitted
  refine ⟨fun r h' _ => JJ SBrk h h' ∧ AFT f n r, ?_, fun _ _ _ x => x⟩
  unfold w_X1_fit
  refine lpE_intro (fun ⟨a_q, b_q, h_q, _⟩ => ∃ k : Nat, k ≤ 100 ∧ nI k = b_q ∧ JJ SBrk h h_q ∧ (((∀ c v, ¬ BF9 f n k c v) ∧ a_q = -1) ∨ ∃ c v W : Nat, BF9 f n k c v ∧ a_q = nI c ∧ W ≤ 15 ∧ GC h_q 116 W v)) (fun ⟨_, b_q, _, _⟩ => dif (nI 100) b_q) ?_ _ ⟨0, by omega, nI_0, JJ.rf, .inl ⟨fun _ _ x => x, rfl⟩⟩
  rintro ⟨y1, y2, h2, g2⟩ K ⟨k, hk, rfl, J2, st⟩ hK
  have T2 : TT h2 18 n 2 40 := T.cg (J2 18 (by unfold SBrk; omega))
  have c2 : CX h2 f := c.jj J2 (fun q hq => by unfold SBrk; omega)
  unfold F_X1_fit_4; dsimp only; unfold b_X1_fit_4
  refine ⟨fun q => ⟨J2, ?_⟩, fun q => ?_⟩
  · rw [show (100 : Int32) = nI 100 from rfl, nI_leI (by omega) (by omega)] at q
    have : k = 100 := by omega
    subst this
    rcases st with st | ⟨c', v', W, x, e, -⟩
    · exact .inl st
    · exact .inr ⟨c', v', x, e⟩
  · have hd := dif_lt (a := nI 100) q
    rw [show (100 : Int32) = nI 100 from rfl, nI_leI (by omega) (by omega)] at q
    rw [show (10 : Int32) = nI 10 from rfl, pk_rem (by omega) (by omega) (by omega), pk_div (by omega) (by omega) (by omega)]
    refine c_z (q_X1_weigh c2 T2 (a := k / 10) (b := k % 10) (by omega) (by omega)) ?_
    rintro r h3 g3 ⟨J3, o⟩
    have J3' : JJ SBrk h h3 := J2.tr (J3.mo (uS 114 (by omega)))
    have st3 : ((∀ c v, ¬ BF9 f n k c v) ∧ y1 = -1) ∨ ∃ c v W : Nat, BF9 f n k c v ∧ y1 = nI c ∧ W ≤ 15 ∧ GC h3 116 W v := by
      rcases st with st | ⟨c', v', W, x, e, hW, A⟩
      · exact .inl st
      · exact .inr ⟨c', v', W, x, e, hW, A.fr J3 (by unfold SB; omega)⟩
    have nxt : ∀ (a : Int32) (h4 : HI) (g4 : HL), JJ SBrk h h4 → (((∀ c v, ¬ BF9 f n (k + 1) c v) ∧ a = -1) ∨ ∃ c v W : Nat, BF9 f n (k + 1) c v ∧ a = nI c ∧ W ≤ 15 ∧ GC h4 116 W v) → j_X1_fit_60 (fun r h' _ => JJ SBrk h h' ∧ AFT f n r) (fun x1 x2 h g => K (x1, x2, h, g)) a (nI k) h4 g4 := by
      intro a h4 g4 J4 s4
      unfold j_X1_fit_60
      rintro _ rfl
      exact hK _ ⟨k + 1, by omega, (nI_1 k).symm, J4, s4⟩ hd
    rcases o with ⟨rfl, v, W, lk, hW, A⟩ | ⟨rfl, no⟩
    · refine ⟨fun _ => ?_, fun z => absurd z (by decide)⟩
      have take : ∀ g4 : HL, (∀ c' u, BF9 f n k c' u → u < v) → j_X1_fit_47 (fun r h' _ => JJ SBrk h h' ∧ AFT f n r) (fun x1 x2 h g => K (x1, x2, h, g)) (nI k) h3 g4 := by
        intro g4 al
        unfold j_X1_fit_47
        refine c_v (q_X0_copy (o := 116) A (by omega) (by omega)) ?_
        rintro h4 _ ⟨rfl, J4, A4⟩
        exact nxt _ h4 _ (J3'.tr (J4.mo (uS 116 (by omega)))) (.inr ⟨k, v, W, .inl ⟨lk, rfl, al⟩, rfl, hW, A4⟩)
      rcases st3 with ⟨nb, e⟩ | ⟨c', v', W', x, e, hW', A'⟩
      · exact ⟨fun _ => take _ (fun c' u x => absurd x (nb c' u)), fun z => absurd e z⟩
      · have cl := x.lt
        refine ⟨fun z => absurd (e.symm.trans z) (nI_nm (by omega)), fun _ => ?_⟩
        refine c_z (q_X0_above A A' (by omega) (by omega)) ?_
        rintro r _ g5 ⟨rfl, -, ⟨rfl, lt⟩ | ⟨rfl, le⟩⟩
        · exact ⟨fun z => absurd z (by decide), fun _ => take _ (fun c2 u x2 => by rw [(x2.un x).2]; exact lt)⟩
        · exact ⟨fun _ => nxt _ h3 _ J3' (.inr ⟨c', v', W', .inr ⟨x, fun u lu => by rw [lu.un lk]; exact le⟩, e, hW', A'⟩), fun z => absurd rfl z⟩
    · refine ⟨fun z => absurd rfl z, fun _ => nxt _ h3 _ J3' ?_⟩
      rcases st3 with ⟨nb, e⟩ | ⟨c', v', W', x, e, hW', A'⟩
      · exact .inl ⟨fun c' v' x => x.elim (fun q => no _ q.1) (fun q => nb _ _ q.1), e⟩
      · exact .inr ⟨c', v', W', .inr ⟨x, fun u lu => absurd lu (no u)⟩, e, hW', A'⟩
/-! the reference -/
theorem q_X11_likes {h : HI} {g : HL} {f : Nat → Int32} (ef : h 136 = f) (vr : VR f) {n a b : Nat} (en : f 6 = nI n) (hn : n ≤ 40) (ha : a ≤ 9) (hb : b ≤ 9) : w_X11_likes (nI a) (nI b) h g (fun r h' _ => BF 2 h h' ∧ ((r = 1 ∧ ∃ W v, W ≤ 41 ∧ LK f a b n v ∧ BG h' 2 W v) ∨ (r = 0 ∧ ∀ v, ¬ LK f a b n v))) := by
  unfold w_X11_likes
  refine c_v (p_X11_sets (r := 2) (v := 1) (by omega) (.inl rfl)) ?_
  rintro h1 _ ⟨rfl, F1, G1⟩
  refine lpE_intro (fun ⟨a_q, b_q, c_q, h_q, _⟩ => ∃ k W v : Nat, k ≤ n ∧ nI a = a_q ∧ nI b = b_q ∧ nI k = c_q ∧ BF 2 h h_q ∧ W ≤ k + 1 ∧ LK f a b k v ∧ BG h_q 2 W v) (fun ⟨_, _, c_q, _, _⟩ => dif (nI n) c_q) ?_ _ ⟨0, 1, 1, Nat.zero_le _, rfl, rfl, nI_0, F1, by omega, rfl, G1⟩
  rintro ⟨y1, y2, y3, h2, g2⟩ K ⟨k, W, v, hk, rfl, rfl, rfl, F2, hW, lk, G2⟩ hK
  have f2 : h2 136 = f := (F2.1 136 (by decide) (by decide)).trans ef
  unfold F_X11_likes_8; dsimp only; unfold b_X11_likes_8
  rw [F2.1 136 (by decide) (by decide), ef, show (6 : Int32).toNatClampNeg = 6 by decide, en]
  refine and_have (vp_in_iff.mpr (by decide)) (fun _ => ⟨fun c => ⟨F2, .inl ⟨rfl, W, v, by omega, ?_, G2⟩⟩, fun c => ?_⟩)
  · rw [nI_leI (by omega) (by omega)] at c
    rw [show n = k by omega]; exact lk
  have hd := dif_lt c
  rw [nI_leI (by omega) (by omega)] at c
  obtain ⟨l1, l2⟩ := vr.ld (i := k) (by omega)
  have bl : b * ldT f k ≤ 9 * 100 := Nat.mul_le_mul hb l1
  rw [show (737 : Int32) + ((2 : Int32) * nI k) + (1 : Int32) = nI (737 + 2 * k + 1) from ix3 737 2 k 1, show (737 : Int32) + ((2 : Int32) * nI k) = nI (737 + 2 * k) from ix2 737 2 k, nI_clamp (n := 737 + 2 * k) (by omega), nI_clamp (n := 737 + 2 * k + 1) (by omega)]
  refine and_have (vp_in_nI (by omega) (by omega)) (fun _ => ?_)
  rw [show f (737 + 2 * k) = nI (ldT f k) from l2, pk_mul, nI_add]
  rintro _ rfl
  refine c_in3 (fun q => ⟨fun _ => ?_, fun z => absI z⟩) (fun q => ⟨fun z => absurd rfl z, fun _ => ⟨F2, .inr ⟨rfl, LK.dn (i := k) (fun ok => q ?_) (by omega)⟩⟩⟩)
  rotate_left
  · exact bd_of (by omega) (by rw [show (1 : Int64).toInt = 1 by decide]; unfold okT9 at ok; omega) (by rw [show (999 : Int64).toInt = 999 by decide]; unfold okT9 at ok; omega)
  have ok : okT9 f a b k := by
    unfold bd at q
    rw [nI_toInt (by omega), show (1 : Int64).toInt = 1 by decide, show (999 : Int64).toInt = 999 by decide] at q
    unfold okT9; omega
  have j83 : ∀ B : Nat, B = fcT f a b k → B ≤ 1000 → j_X11_likes_83 (fun r h' _ => BF 2 h h' ∧ ((r = 1 ∧ ∃ W v, W ≤ 41 ∧ LK f a b n v ∧ BG h' 2 W v) ∨ (r = 0 ∧ ∀ v, ¬ LK f a b n v))) (fun x1 x2 x3 h g => K (x1, x2, x3, h, g)) (nI a) (nI b) (nI k) (2 : Int32) (nI B) h2 g2 := by
    intro B eB hB
    unfold j_X11_likes_83
    refine c_v (p_X11_times (r := 2) (by omega) hB G2 (by omega)) ?_
    rintro h3 g3 ⟨F3, W', hW', G3⟩
    rintro _ rfl
    exact hK _ ⟨k + 1, W', _, by omega, rfl, rfl, (nI_1 k).symm, F2.tr F3, by omega, ⟨v, lk, ok, by rw [eB]⟩, G3⟩ hd
  unfold okT9 at ok
  refine and_have (vp_in_nI (by omega) (by omega)) (fun _ => ⟨fun z => ?_, fun z => j83 _ (by rw [f2] at z; unfold fcT; rw [if_pos z]) (by omega)⟩)
  rw [show (1000 : Int32) = nI 1000 from rfl, pk_sub (by omega)]
  exact j83 _ (by rw [f2] at z; unfold fcT; rw [if_neg z]) (by omega)
theorem q_X11_fitted {h : HI} {g : HL} {f : Nat → Int32} (ef : h 136 = f) (vr : VR f) {n : Nat} (en : f 6 = nI n) (hn : n ≤ 40) : w_X11_fitted h g (fun r h' _ => AFT f n r ∧ KJ SBg h h' ∧ h' 147 0 = h 147 0 ∧ h' 147 1 = h 147 1) := by
  have fr : ∀ {a b : HI} {r : Nat}, BF r a b → 2 ≤ r → KJ SBg h a ∧ a 147 0 = h 147 0 ∧ a 147 1 = h 147 1 → KJ SBg h b ∧ b 147 0 = h 147 0 ∧ b 147 1 = h 147 1 := fun F hr x =>
    ⟨x.1.tr F.kj, (F.2.1 0 (by omega)).trans x.2.1, (F.2.1 1 (by omega)).trans x.2.2⟩
  unfold w_X11_fitted
  refine lpE_intro (fun ⟨a_q, b_q, h_q, _⟩ => ∃ k : Nat, k ≤ 100 ∧ nI k = b_q ∧ (KJ SBg h h_q ∧ h_q 147 0 = h 147 0 ∧ h_q 147 1 = h 147 1) ∧ (((∀ c v, ¬ BF9 f n k c v) ∧ a_q = -1) ∨ ∃ c v W : Nat, BF9 f n k c v ∧ a_q = nI c ∧ W ≤ 41 ∧ BG h_q 4 W v)) (fun ⟨_, b_q, _, _⟩ => dif (nI 100) b_q) ?_ _ ⟨0, by omega, nI_0, ⟨KJ.rf, rfl, rfl⟩, .inl ⟨fun _ _ x => x, rfl⟩⟩
  rintro ⟨y1, y2, h1, g1⟩ K ⟨k, hk, rfl, J1, hb⟩ hK
  unfold F_X11_fitted_4; dsimp only; unfold b_X11_fitted_4
  refine ⟨fun c => ⟨?_, J1⟩, fun c => ?_⟩
  · rw [show (100 : Int32) = nI 100 from rfl, nI_leI (by omega) (by omega)] at c
    have : k = 100 := by omega
    subst this
    rcases hb with st | ⟨c', v', W, x, e, -⟩
    · exact .inl st
    · exact .inr ⟨c', v', x, e⟩
  have hd := dif_lt (a := nI 100) c
  rw [show (100 : Int32) = nI 100 from rfl, nI_leI (by omega) (by omega)] at c
  have f1 : h1 136 = f := (J1.1.f6 (fun k => by unfold SBg; omega)).trans ef
  rw [show (10 : Int32) = nI 10 from rfl, pk_rem (by omega) (by omega) (by omega), pk_div (by omega) (by omega) (by omega)]
  refine c_z (q_X11_likes f1 vr en hn (a := k / 10) (b := k % 10) (by omega) (by omega)) ?_
  rintro r h2 g2 ⟨F2, o⟩
  have J2 := fr F2 (by omega) J1
  have hb2 : ((∀ c v, ¬ BF9 f n k c v) ∧ y1 = -1) ∨ ∃ c v W : Nat, BF9 f n k c v ∧ y1 = nI c ∧ W ≤ 41 ∧ BG h2 4 W v := by
    rcases hb with st | ⟨c', v', W, x, e, hW, A⟩
    · exact .inl st
    · exact .inr ⟨c', v', W, x, e, hW, A.fr F2 (by omega) (by omega)⟩
  have j91 : ∀ (a : Int32) (h3 : HI) (g3 : HL), (KJ SBg h h3 ∧ h3 147 0 = h 147 0 ∧ h3 147 1 = h 147 1) → (((∀ c v, ¬ BF9 f n (k + 1) c v) ∧ a = -1) ∨ ∃ c v W : Nat, BF9 f n (k + 1) c v ∧ a = nI c ∧ W ≤ 41 ∧ BG h3 4 W v) → j_X11_fitted_91 (fun r h' _ => AFT f n r ∧ KJ SBg h h' ∧ h' 147 0 = h 147 0 ∧ h' 147 1 = h 147 1) (fun x1 x2 h g => K (x1, x2, h, g)) a (nI k) h3 g3 := by
    intro a h3 g3 J3 hb3
    unfold j_X11_fitted_91
    rintro _ rfl
    exact hK _ ⟨k + 1, by omega, (nI_1 k).symm, J3, hb3⟩ hd
  rcases o with ⟨rfl, W, v, hW, lk, G2⟩ | ⟨rfl, no⟩
  rotate_left
  · refine ⟨fun _ => j91 _ h2 _ J2 ?_, fun z => absurd rfl z⟩
    rcases hb2 with ⟨nb, e⟩ | ⟨c', v', W', x, e, hW', A'⟩
    · exact .inl ⟨fun c' v' x => x.elim (fun q => no _ q.1) (fun q => nb _ _ q.1), e⟩
    · exact .inr ⟨c', v', W', .inr ⟨x, fun u lu => absurd lu (no u)⟩, e, hW', A'⟩
  have j39 : ∀ g2 : HL, (∀ c' u, BF9 f n k c' u → u < v) → j_X11_fitted_39 (fun r h' _ => AFT f n r ∧ KJ SBg h h' ∧ h' 147 0 = h 147 0 ∧ h' 147 1 = h 147 1) (fun x1 x2 h g => K (x1, x2, h, g)) (nI k) h2 g2 := by
    intro g2 al
    unfold j_X11_fitted_39
    rw [cl2, cl4, G2.1]
    refine and_have (vp_in_iff.mpr (by decide)) (fun _ => and_have (vp_in_iff.mpr (by decide)) (fun _ => ?_))
    intro h3 e3
    have F3 : BF 4 h2 h3 := ⟨fun o n m => by rw [e3, hu_ne m], fun q n => by rw [e3, hu_eq, pk_un n], fun j _ => by rw [e3, hu_ne (by decide)]⟩
    have e34 : h3 147 4 = nI W := by rw [e3, hu_eq, pk_us]
    have e3b : h3 146 = h2 146 := by rw [e3, hu_ne (by decide)]
    refine lpE_intro (fun ⟨a_q, b_q, c_q, h_q, _⟩ => ∃ j : Nat, j ≤ W ∧ nI k = a_q ∧ nI k = b_q ∧ nI j = c_q ∧ BF 4 h2 h_q ∧ h_q 147 4 = nI W ∧ ∀ i, i < j → h_q 146 (320 + i) = h2 146 (160 + i)) (fun ⟨_, _, c_q, _, _⟩ => dif (nI W) c_q) ?_ _ ⟨0, Nat.zero_le _, rfl, rfl, nI_0, F3, e34, fun i hi => by omega⟩
    rintro ⟨z1, z2, z3, h4, g4⟩ K2 ⟨j, hj, rfl, rfl, rfl, F4, e44, hi⟩ hK2
    unfold F_X11_fitted_55; dsimp only; unfold b_X11_fitted_55
    rw [cl2, (F4.2.1 2 (by omega)).trans G2.1]
    refine and_have (vp_in_iff.mpr (by decide)) (fun _ => ⟨fun cj => ?_, fun cj => ?_⟩)
    · have ej : j = W := by
        rw [nI_leI (by omega) (by omega)] at cj; omega
      subst ej
      refine j91 _ h4 g4 (fr F4 (by omega) J2) (.inr ⟨k, v, j, .inl ⟨lk, rfl, al⟩, rfl, hW, e44, ?_, ?_, ?_⟩)
      · exact fun i h => by
          obtain ⟨d, hd1, hd2⟩ := G2.2.1 i h
          exact ⟨d, hd1, (hi i h).trans hd2⟩
      · rw [← G2.2.2.1]
        have : ∀ m, m ≤ j → vl (h4 146) (80 * 4) m = vl (h2 146) (80 * 2) m := by
          intro m hm
          induction m with
          | zero => rfl
          | succ m ih =>
            unfold vl
            rw [ih (by omega), show 80 * 4 + m = 320 + m by omega, hi m (by omega)]
        exact this j (Nat.le_refl _)
      · intro V hV
        have := G2.2.2.2 V hV
        rw [show 80 * 4 + V = 320 + V by omega, hi V (by omega)]; exact this
    · have hd2 := dif_lt cj
      rw [nI_leI (by omega) (by omega)] at cj
      rw [show (160 : Int32) + nI j = nI (160 + j) from nI_add 160 j, show (320 : Int32) + nI j = nI (320 + j) from nI_add 320 j, nI_clamp (by omega), nI_clamp (by omega)]
      refine and_have (vp_in_nI (by omega) (by omega)) (fun _ => and_have (vp_in_nI (by omega) (by omega)) (fun _ => ?_))
      intro h5 e5
      rintro _ rfl
      refine hK2 _ ⟨j + 1, by omega, rfl, rfl, (nI_1 j).symm, F4.tr ⟨fun o n m => by rw [e5, hu_ne n], fun q n => by rw [e5, hu_ne (by decide)], fun i h => by rw [e5, hu_eq, pk_un (by omega)]⟩, by rw [e5, hu_ne (by decide)]; exact e44, ?_⟩ hd2
      intro i hi2
      rw [e5, hu_eq]
      by_cases ei : i = j
      · subst ei
        rw [pk_us]
        exact F4.2.2 _ (by omega)
      · rw [pk_un (by omega)]; exact hi i (by omega)
  refine ⟨fun z => absurd z (by decide), fun _ => ?_⟩
  rcases hb2 with ⟨nb, e⟩ | ⟨c', v', W', x, e, hW', A'⟩
  · exact ⟨fun _ => j39 _ (fun c' u x => absurd x (nb c' u)), fun z => absurd e z⟩
  · have cl := x.lt
    refine ⟨fun z => absurd (e.symm.trans z) (nI_nm (by omega)), fun _ => ?_⟩
    refine c_i (p_X11_against (r := 2) (s := 4) (by omega) (by omega) G2 A' (by omega) (by omega)) ?_
    rintro _ _ g5 ⟨rfl, -, rfl⟩
    refine ⟨fun z => j91 _ h2 _ J2 (.inr ⟨c', v', W', .inr ⟨x, fun u lu => ?_⟩, e, hW', A'⟩), fun z => j39 _ (fun c2 u x2 => ?_)⟩
    · rw [lu.un lk]
      have : ¬ (0 : Int32) < cmpN v v' := Int32.not_lt.mpr z
      rw [cmpN_pos] at this
      omega
    · rw [(x2.un x).2]
      exact cmpN_pos.mp (Int32.not_le.mp z)
end
section
-- 79.d.dig
/-! DIGEST -/
def mx (e : Nat → Int32) : Nat → Int64 → Int64
  | 0, x => x
  | n + 1, x => (31 : Int64) * mx e n x + (e n).toInt64
theorem SZ.an {h : HI} {f : Nat → Int32} {p n : Nat} (Z : SZ h f p n) {g : HL} {k : Nat} (hk : k < 3) {body : Int32 → HI → HL → Prop} (b : ∀ g', body (fsel f p (nI k)) h g') : ∃ P : Int32 → HI → HL → Prop, w_X7_answer (nI k) h g P ∧ ∀ (r : Int32) (h : HI) (g : HL), P r h g → body r h g := by
  obtain ⟨z9, z10, z11, -⟩ := Z
  refine ⟨fun r h' g' => body r h' g', ?_, fun _ _ _ x => x⟩
  unfold w_X7_answer
  have : k = 0 ∨ k = 1 ∨ k = 2 := by omega
  rcases this with rfl | rfl | rfl
  · refine ⟨fun n0 => absurd nI_0 n0, fun _ => ?_⟩
    have e : fsel f p (nI 0) = fLo f p := fsel0
    rw [z9, ← e]; exact b g
  · refine ⟨fun _ => ⟨fun n1 => absurd rfl n1, fun _ => ?_⟩, fun z => absurd z (by decide)⟩
    have e : fsel f p (nI 1) = fHi f p := fsel1
    rw [z10, ← e]; exact b g
  · refine ⟨fun _ => ⟨fun _ => ?_, fun z => absurd z (by decide)⟩, fun z => absurd z (by decide)⟩
    have e : fsel f p (nI 2) = fMn f p := by unfold fsel; exact if_pos rfl
    rw [z11, ← e]; exact b g
theorem BRc.jj {S : Nat → Prop} {h h' : HI} {m : Nat} {B : Nat → Nat} (x : BRc h m B) (J : JJ S h h') (n : ¬ S 3) : BRc h' m B := by
  refine ⟨fun p hp => ?_, x.2⟩
  rw [J 3 n]; exact x.1 p hp
/-- how many there are of all -/
def NB (f : Nat → Int32) (nw nm ns nt nh nz : Nat) : Prop := f 3 = nI nw ∧ f 4 = nI nm ∧ f 5 = nI ns ∧ f 6 = nI nt ∧ f 7 = nI nh ∧ f 8 = nI nz ∧ nw ≤ 8 ∧ nm ≤ 6 ∧ ns ≤ 9 ∧ nt ≤ 40 ∧ nh ≤ 3 ∧ nz ≤ 60
/-! the reference -/
end
