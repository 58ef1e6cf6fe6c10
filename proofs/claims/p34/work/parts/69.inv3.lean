section
-- 69.inv3
/-! WHAT HOLDS BETWEEN CALLS, with the law of wear read and every number in its range -/
def LW (h : HI) : Prop := ∀ m, TT h 24 m 1 60 → LWC h (h 25) m
theorem LW.cg {h h' : HI} (L : LW h) (e4 : h' 24 = h 24) (e5 : h' 25 = h 25) (e7 : h' 77 = h 77) (e8 : h' 78 = h 78) : LW h' := fun m T => by
  have := L m (T.cg e4.symm)
  exact this.cg e7 e8 (fun k _ => by rw [e5])
theorem LW.un {h : HI} {m : Nat} (T : TT h 24 m 1 60) (x : LWC h (h 25) m) : LW h := fun n U => by
  have : n = m := U.un T rfl
  subst this; exact x
def VRI (h : HI) : Prop := VR (h 136) ∧ ∀ i, i < 2 → ¬ h 138 i = 0 → VR (IMG h i)
theorem VRI.cg {h h' : HI} (v : VRI h) (e6 : VR (h' 136)) (e7 : h' 137 = h 137) (e8 : h' 138 = h 138) : VRI h' := by
  refine ⟨e6, fun i hi hn => ?_⟩
  rw [e8] at hn
  have eI : IMG h' i = IMG h i := by unfold IMG; rw [e7]
  rw [eI]; exact v.2 i hi hn
def INV3 (h : HI) : Prop := INV2 h ∧ LW h ∧ VRI h
/-- the class's calls, but for write, erase and from -/
theorem lw_add {C : Prop} {h h' : HI} {r : Int32} {o m w M k : Nat} {row : Nat → Int32} (L : LW h) (a : ADc C h r h' o m w M k row) (ho : o ≤ 22) : LW h' := by
  rcases a with ⟨-, -, rfl⟩ | ⟨-, -, -, rfl⟩ | ⟨-, -, -, J, -⟩
  · exact L
  · exact L
  · exact L.cg (J 24 (by unfold SM; omega)) (J 25 (by unfold SM; omega)) (J 77 (by unfold SM; omega)) (J 78 (by unfold SM; omega))
theorem lw_put {A : Prop} {h h' : HI} {o m w M : Nat} (L : LW h) (a : PTc A h h' o m w M) (ho : o ≤ 22) : LW h' :=
  L.cg (a.2.1 24 (by unfold SM; omega)) (a.2.1 25 (by unfold SM; omega)) (a.2.1 77 (by unfold SM; omega)) (a.2.1 78 (by unfold SM; omega))
theorem lw_jj {S : Nat → Prop} {h h' : HI} (L : LW h) (J : JJ S h h') (n : ∀ q, q ≤ 80 → ¬ S q) : LW h' :=
  L.cg (J 24 (n _ (by omega))) (J 25 (n _ (by omega))) (J 77 (n _ (by omega))) (J 78 (n _ (by omega)))
/-- the reference's -/
theorem lw_ref {h h' : HI} (L : LW h) (e : ∀ o, o ≤ 80 → h' o = h o) : LW h' := L.cg (e _ (by omega)) (e _ (by omega)) (e _ (by omega)) (e _ (by omega))
theorem adr_lo {C : Prop} {h h' : HI} {s : Int32} {c m M k : Nat} {F : (Nat → Int32) → Prop} (b : ADr C h s h' c m M k F) (o : Nat) (ho : o ≠ 136) : h' o = h o := by
  rcases b with ⟨-, -, rfl⟩ | ⟨-, -, -, rfl⟩ | ⟨-, -, -, e, -⟩
  · rfl
  · rfl
  · exact e o ho
theorem vr_add {C : Prop} {h h' : HI} {s : Int32} {c m M k : Nat} {F : (Nat → Int32) → Prop} (v : VRI h) (b : ADr C h s h' c m M k F) (n : C → m < M → ∀ f', F f' → VR f') : VRI h' := by
  refine v.cg ?_ (adr_lo b 137 (by decide)) (adr_lo b 138 (by decide))
  rcases b with ⟨-, -, rfl⟩ | ⟨-, -, -, rfl⟩ | ⟨b1, b3, -, -, -, -, -, hF⟩
  · exact v.1
  · exact v.1
  · exact n b1 b3 _ hF
theorem ptr_lo {A : Prop} {h h' : HI} (b : PTr A h h') (o : Nat) (ho : o ≠ 136) : h' o = h o := b.get.2.1 o ho
theorem vri_h1 {h h1 : HI} (v : VRI h) (e : ∀ q, 135 ≤ q → h1 q = h q) : VRI h1 := v.cg (by rw [e 136 (by omega)]; exact v.1) (e 137 (by omega)) (e 138 (by omega))
theorem vr_family {h h' : HI} {s x1 x2 x3 x4 : Int32} (v : VRI h) (b : PTr (EFr x1 x2 x3 x4 h s h') h h') : VRI h' := by
  refine v.cg ?_ (ptr_lo b 137 (by decide)) (ptr_lo b 138 (by decide))
  rcases b.1 with ⟨-, -, rfl⟩ | ⟨c, -, n, hn, -, e⟩
  · exact v.1
  · exact vr_fam v.1 hn c e
theorem vr_odds {h h' : HI} {s x1 x2 : Int32} (v : VRI h) (b : PTr (EOr x1 x2 h s h') h h') : VRI h' := by
  refine v.cg ?_ (ptr_lo b 137 (by decide)) (ptr_lo b 138 (by decide))
  rcases b.1 with ⟨-, -, rfl⟩ | ⟨c, -, e⟩
  · exact v.1
  · rw [e]; exact (v.1.up (vg_0 (by omega)) (bd_all _) (by omega)).up (vg_0 (by omega)) (bd_all _) (by omega)
theorem vr_need {h h' : HI} {s x1 x2 : Int32} (v : VRI h) (b : PTr (ENr x1 x2 h s h') h h') : VRI h' := by
  refine v.cg ?_ (ptr_lo b 137 (by decide)) (ptr_lo b 138 (by decide))
  rcases b.1 with ⟨-, -, rfl⟩ | ⟨c, n, hn, -, -, e⟩
  · exact v.1
  · rw [e]; exact v.1.up (vg_N hn) c.2 (by omega)
theorem vr_deny {h h' : HI} {s x1 x2 : Int32} (v : VRI h) (b : PTr (EDr x1 x2 h s h') h h') : VRI h' := by
  refine v.cg ?_ (ptr_lo b 137 (by decide)) (ptr_lo b 138 (by decide))
  rcases b.1 with ⟨-, -, rfl⟩ | ⟨c, n, hn, -, ⟨-, -, rfl⟩ | ⟨-, -, e⟩⟩
  · exact v.1
  · exact v.1
  · rw [e]; exact v.1.up (vg_S (c := 5) hn (by omega)) (by unfold zf; exact bd_01) (by omega)
theorem vr_bear {h h' : HI} {s x1 x2 x3 : Int32} (v : VRI h) (b : PTr (EBr x1 x2 x3 h s h') h h') : VRI h' := by
  refine v.cg ?_ (ptr_lo b 137 (by decide)) (ptr_lo b 138 (by decide))
  rcases b.1 with ⟨-, -, rfl⟩ | ⟨c, p, q, hp, hq, -, -, ⟨-, -, rfl⟩ | ⟨-, -, e⟩⟩
  · exact v.1
  · exact v.1
  · rw [e]; exact v.1.up (vg_P (c := 4) hp (by omega)) (bd_all _) (by omega)
theorem vr_link {h h' : HI} {s x1 x2 x3 : Int32} (v : VRI h) (h0 : (h 136 0).toInt ≤ 24) (b : PTr (ELr x1 x2 x3 h s h') h h') : VRI h' := by
  refine v.cg ?_ (ptr_lo b 137 (by decide)) (ptr_lo b 138 (by decide))
  rcases b.1 with ⟨-, -, rfl⟩ | ⟨c, p, n, hp, hn, -, -, ⟨-, -, rfl⟩ | ⟨-, ⟨-, -, rfl⟩ | ⟨n6, -, e⟩⟩⟩
  · exact v.1
  · exact v.1
  · exact v.1
  · have b1 : bd 0 23 x2 := ⟨c.2.1, by have := c.2.2; omega⟩
    have e3 : vg (512 + 10 * p + 3 + n) = (0, 23) := by
      rw [show 512 + 10 * p + 3 + n = 512 + 10 * p + (3 + n) by omega, vg_C hp (by omega)]
      exact (by decide : ∀ n, n < 6 → vC (3 + n) = (0, 23)) n n6
    rw [e]
    exact ((v.1.up e3 b1 (by omega)).up (vg_C (c := 9) hp (by omega)) (bd_all _) (by omega)).up (vg_C (c := 2) hp (by omega)) (bd_of (n := n + 1) (a := 0) (b := 6) (by omega) (by omega) (by omega)) (by omega)
theorem cls_from_hi {h h' : HI} {r x1 : Int32} (a : (¬ bd 0 1 x1 ∧ r = -2 ∧ h' = h) ∨ ∃ i, i < 2 ∧ x1 = nI i ∧ ((h 76 i = 0 ∧ r = -3 ∧ h' = h) ∨ (¬ h 76 i = 0 ∧ r = 1 ∧ ∃ h1, CPK h h1 1 (26 + 25 * i) 12 ∧ JJ SLaw h1 h'))) (o : Nat) (ho : 80 ≤ o) : h' o = h o := by
  rcases a with ⟨-, -, rfl⟩ | ⟨i, hi, -, ⟨-, -, rfl⟩ | ⟨-, -, h1, I, J⟩⟩
  · rfl
  · rfl
  · exact (J o (by unfold SLaw; omega)).trans (I.1 o (by omega))
theorem VRI.rf {h h' : HI} (v : VRI h) (F : ∀ o, o ≠ 136 → h' o = h o) (r : VR (h' 136)) : VRI h' := v.cg r (F 137 (by decide)) (F 138 (by decide))
theorem vr_erase {h h' : HI} (v : VRI h) (b : ST h h' (upd (h 136) 8 0)) : VRI h' := v.rf b.1 (by rw [b.2.1]; exact v.1.up (vg_0 (by omega)) (bd_all _) (by omega))
theorem vr_scrap {h h' : HI} (v : VRI h) (b : ST h h' (upd (upd (h 136) 4 0) 5 0)) : VRI h' := v.rf b.1 (by rw [b.2.1]; exact (v.1.up (vg_0 (by omega)) (bd_all _) (by omega)).up (vg_0 (by omega)) (bd_all _) (by omega))
theorem vr_ask {h h' : HI} (v : VRI h) (b : KJ SRef h h') : VRI h' :=
  have e : ∀ o, (∀ k, ¬ SRef o k) → h' o = h o := fun o m => funext fun k => b o k (m k)
  v.cg (by rw [e 136 (fun k => by unfold SRef; omega)]; exact v.1) (e 137 (fun k => by unfold SRef; omega)) (e 138 (fun k => by unfold SRef; omega))
theorem lw_ask {h h' : HI} (L : LW h) (b : KJ SRef h h') : LW h' := lw_ref L (fun o ho => funext fun k => b o k (by unfold SRef; omega))
theorem vr_image {h h' : HI} {s x1 : Int32} (v : VRI h) (b : (¬ bd 0 1 x1 ∧ s = -2 ∧ h' = h) ∨ ∃ i, i < 2 ∧ x1 = nI i ∧ s = 1 ∧ (∀ o, o ≠ 137 → o ≠ 138 → h' o = h o) ∧ h' 138 = upd (h 138) i 1 ∧ (∀ k, k < 887 → h' 137 (887 * i + k) = h 136 k) ∧ ∀ k, k < 887 * i ∨ 887 * i + 887 ≤ k → h' 137 k = h 137 k) : VRI h' := by
  rcases b with ⟨-, -, rfl⟩ | ⟨i, hi, -, -, F, F8, F7, F7'⟩
  · exact v
  · refine ⟨by rw [F 136 (by decide) (by decide)]; exact v.1, fun i' hi' hn => ?_⟩
    by_cases q : i' = i
    · subst q; exact v.1.cg (fun k hk => F7 k hk)
    · rw [F8, pk_un q] at hn
      exact (v.2 i' hi' hn).cg (fun k hk => F7' _ (by omega))
theorem vr_from {h h' : HI} {s x1 : Int32} (v : VRI h) (b : (¬ bd 0 1 x1 ∧ s = -2 ∧ h' = h) ∨ ∃ i, i < 2 ∧ x1 = nI i ∧ ((h 138 i = 0 ∧ s = -3 ∧ h' = h) ∨ (¬ h 138 i = 0 ∧ s = 1 ∧ (∀ o, o ≠ 136 → h' o = h o) ∧ (∀ k, k < 887 → h' 136 k = h 137 (887 * i + k)) ∧ ∀ k, 887 ≤ k → h' 136 k = h 136 k))) : VRI h' := by
  rcases b with ⟨-, -, rfl⟩ | ⟨i, hi, -, ⟨-, -, rfl⟩ | ⟨hn, -, F, F6, -⟩⟩
  · exact v
  · exact v
  · exact v.rf F ((v.2 i hi hn).cg (fun k hk => F6 k hk))
theorem ref_from_lo {h h' : HI} {s x1 : Int32} (b : (¬ bd 0 1 x1 ∧ s = -2 ∧ h' = h) ∨ ∃ i, i < 2 ∧ x1 = nI i ∧ ((h 138 i = 0 ∧ s = -3 ∧ h' = h) ∨ (¬ h 138 i = 0 ∧ s = 1 ∧ (∀ o, o ≠ 136 → h' o = h o) ∧ (∀ k, k < 887 → h' 136 k = h 137 (887 * i + k)) ∧ ∀ k, 887 ≤ k → h' 136 k = h 136 k))) (o : Nat) (ho : o ≠ 136) : h' o = h o := by
  rcases b with ⟨-, -, rfl⟩ | ⟨i, hi, -, ⟨-, -, rfl⟩ | ⟨hn, -, F, F6, -⟩⟩
  · rfl
  · rfl
  · exact F o ho
theorem ref_image_lo {h h' : HI} {s x1 : Int32} (b : (¬ bd 0 1 x1 ∧ s = -2 ∧ h' = h) ∨ ∃ i, i < 2 ∧ x1 = nI i ∧ s = 1 ∧ (∀ o, o ≠ 137 → o ≠ 138 → h' o = h o) ∧ h' 138 = upd (h 138) i 1 ∧ (∀ k, k < 887 → h' 137 (887 * i + k) = h 136 k) ∧ ∀ k, k < 887 * i ∨ 887 * i + 887 ≤ k → h' 137 k = h 137 k) (o : Nat) (ho : o ≤ 136) : h' o = h o := by
  rcases b with ⟨-, -, rfl⟩ | ⟨i, hi, -, -, F, -⟩
  · rfl
  · exact F o (by omega) (by omega)
theorem cls_image_lo {h h' : HI} {r x1 : Int32} (a : (¬ bd 0 1 x1 ∧ r = -2 ∧ h' = h) ∨ ∃ i, i < 2 ∧ x1 = nI i ∧ r = 1 ∧ ∃ h0, CPK h h0 (26 + 25 * i) 1 12 ∧ h' = hu h0 76 i 1) (o : Nat) (ho : o ≤ 26 ∨ 77 ≤ o) : h' o = h o := by
  rcases a with ⟨-, -, rfl⟩ | ⟨i, hi, -, -, h0, I0, rfl⟩
  · rfl
  · rw [hu_ne (by omega)]; exact I0.1 o (by omega)
/-- write, erase and from read the law anew -/
theorem q_X10_write {h : HI} {g : HL} (L : LW h) {m : Nat} (T : TT h 24 m 1 60) {x1 : Int32} : w_X10_write x1 h g (fun r h' _ => ADc (K_write x1) h r h' 24 m 1 60 1 (rowc x1 0 0 0) ∧ LW h') := by
  unfold w_X10_write
  refine c_wb (fun q0 => ⟨fun _ => ?_, fun c => absI c⟩) (fun q0 => ⟨fun c => absurd rfl c, fun _ => ⟨.inl ⟨fun hc => q0 (bd.mo hc (by decide) (by decide)), rfl, rfl⟩, L⟩⟩)
  have hC : K_write x1 := bd.mo q0 (by decide) (by decide)
  by_cases hm : m = 60
  · refine c_i (p_addF T hm) ?_
    rintro _ _ _ ⟨rfl, rfl, rfl⟩
    exact ⟨fun c => absurd rfl c, fun _ => ⟨.inr (.inl ⟨hC, hm, rfl, rfl⟩), L⟩⟩
  · have hlt : m < 60 := by have := T.2.2.2.1; omega
    refine c_i (p_add T hlt) ?_
    rintro _ h1 g1 ⟨rfl, -, J, T1, ho, hr⟩
    refine ⟨fun _ => ?_, fun c => absurd c (nI_m4 (by omega))⟩
    refine c_v (q_X4_read T1) ?_
    rintro h2 g2 ⟨J2, L2⟩
    refine c_i p_rows ?_
    rintro _ _ _ ⟨rfl, rfl, rfl⟩
    have e24 : h2 24 = h1 24 := J2 24 (by unfold SLaw; omega)
    have e25 : h2 25 = h1 25 := J2 25 (by unfold SLaw; omega)
    have T2 := T1.cg e24
    refine ⟨.inr (.inr ⟨hC, hlt, ?_, (J.mo SB.sm).tr (J2.mo SLaw.sm), T2, fun i hi => by rw [e25]; exact ho i (.inl hi), fun c hc => by rw [e25]; exact hr c hc⟩), LW.un T2 (by rw [e25]; exact L2)⟩
    rw [e24]; exact T1.2.2.1
theorem q_X10_erase {h : HI} {g : HL} {m : Nat} (T : TT h 24 m 1 60) : w_X10_erase h g (fun r h' _ => PTc (r = nI m) h h' 24 0 1 60 ∧ LW h') := by
  unfold w_X10_erase
  refine c_i p_rows ?_
  rintro _ _ _ ⟨rfl, rfl, rfl⟩
  refine c_v (p_empty T) ?_
  rintro h1 g1 ⟨-, J, T1⟩
  refine c_v (q_X4_read T1) ?_
  rintro h2 g2 ⟨J2, L2⟩
  have T2 := T1.cg (J2 24 (by unfold SLaw; omega))
  exact ⟨⟨T.2.2.1, (J.mo (fun q hq => by unfold SO at hq; unfold SM; omega)).tr (J2.mo SLaw.sm), T2⟩, LW.un T2 (by rw [J2 25 (by unfold SLaw; omega)]; exact L2)⟩
theorem q_X10_from {h : HI} {g : HL} (L : LW h) (c : CJ h) {x1 : Int32} : w_X10_from x1 h g (fun r h' _ => ((¬ bd 0 1 x1 ∧ r = -2 ∧ h' = h) ∨ ∃ i, i < 2 ∧ x1 = nI i ∧ ((h 76 i = 0 ∧ r = -3 ∧ h' = h) ∨ (¬ h 76 i = 0 ∧ r = 1 ∧ ∃ h1, CPK h h1 1 (26 + 25 * i) 12 ∧ JJ SLaw h1 h'))) ∧ LW h') := by
  unfold w_X10_from
  refine c_wb (fun q0 => ⟨fun _ => ?_, fun c => absI c⟩) (fun q0 => ⟨fun c => absurd rfl c, fun _ => ⟨.inl ⟨fun hc => q0 (bd.mo hc (by decide) (by decide)), rfl, rfl⟩, L⟩⟩)
  obtain ⟨i, i1, i2, rfl⟩ := bd_nI (bd.mo q0 (c := 0) (d := 1) (by decide) (by decide))
  rw [nI_clamp (n := i) (by omega)]
  refine and_have (vp_in_nI (by omega) (by omega)) (fun _ => ⟨fun ck => ?_, fun ck => ⟨.inr ⟨i, by omega, rfl, .inl ⟨ck, rfl, rfl⟩⟩, L⟩⟩)
  refine c_n (p_X10_imageAt (by omega)) ?_
  rintro _ _ _ ⟨rfl, rfl, rfl⟩
  have hs := isS26 (i := i) (by omega)
  refine and_have hs (fun _ => ?_)
  refine c_v (p_X6_copy (by omega) (c _ isS1) (c _ hs)) ?_
  intro h1 g1 I1
  obtain ⟨m1, -, T1, -⟩ := I1.2 11 (by omega)
  refine c_v (q_X4_read T1) ?_
  rintro h2 g2 ⟨J2, L2⟩
  exact ⟨.inr ⟨i, by omega, rfl, .inr ⟨ck, rfl, h1, I1, J2⟩⟩, LW.un (T1.cg (J2 24 (by unfold SLaw; omega))) (by rw [J2 25 (by unfold SLaw; omega)]; exact L2)⟩
theorem LW_start {h : HI} (T : TT h 24 0 1 60) (e : h 77 9 = 1) : LW h := LW.un T ⟨[], by
  rw [e]
  exact .inr (.inl ⟨fun k hk => absurd hk (Nat.not_lt_zero k), fun q => absurd q.1 (by decide), rfl, by decide⟩), fun q => by rw [e] at q; exact absurd q (by decide)⟩
theorem VR_start {f : Nat → Int32} (fr : ∀ i, i < 12 → f (140 + i) = fam i) (zr : ∀ i, i < 140 ∨ 152 ≤ i → f i = 0) : VR f := by
  have z : ∀ k, k < 20 ∨ 140 ≤ k ∧ k < 152 ∨ 887 ≤ k ∨ (vg k).1 ≤ 0 ∧ 0 ≤ (vg k).2 := fun k => by
    have w : ∀ (c : Nat) (r : Nat → Int × Int) (n : Nat), (∀ c, c < n → (r c).1 ≤ 0 ∧ 0 ≤ (r c).2) → c < n → (r c).1 ≤ 0 ∧ 0 ≤ (r c).2 := fun c r n h hc => h c hc
    by_cases k1 : k < 20
    · exact .inl k1
    by_cases k2 : k < 140
    · obtain ⟨m, c, rfl, hm, hc⟩ : ∃ m c, k = 20 + 5 * m + c ∧ m < 24 ∧ c < 5 := ⟨(k - 20) / 5, (k - 20) % 5, by omega, by omega, by omega⟩
      rw [vg_P hm hc]; exact .inr (.inr (.inr ((by decide : ∀ c, c < 5 → (vP c).1 ≤ 0 ∧ 0 ≤ (vP c).2) c hc)))
    by_cases k3 : k < 152
    · exact .inr (.inl ⟨by omega, k3⟩)
    by_cases k4 : k < 512
    · obtain ⟨m, c, rfl, hm, hc⟩ : ∃ m c, k = 152 + 6 * m + c ∧ m < 60 ∧ c < 6 := ⟨(k - 152) / 6, (k - 152) % 6, by omega, by omega, by omega⟩
      rw [vg_S hm hc]; exact .inr (.inr (.inr ((by decide : ∀ c, c < 6 → (vS c).1 ≤ 0 ∧ 0 ≤ (vS c).2) c hc)))
    by_cases k5 : k < 672
    · obtain ⟨m, c, rfl, hm, hc⟩ : ∃ m c, k = 512 + 10 * m + c ∧ m < 16 ∧ c < 10 := ⟨(k - 512) / 10, (k - 512) % 10, by omega, by omega, by omega⟩
      rw [vg_C hm hc]; exact .inr (.inr (.inr ((by decide : ∀ c, c < 10 → (vC c).1 ≤ 0 ∧ 0 ≤ (vC c).2) c hc)))
    by_cases k6 : k < 704
    · obtain ⟨m, c, rfl, hm, hc⟩ : ∃ m c, k = 672 + 4 * m + c ∧ m < 8 ∧ c < 4 := ⟨(k - 672) / 4, (k - 672) % 4, by omega, by omega, by omega⟩
      rw [vg_W hm hc]; exact .inr (.inr (.inr ((by decide : ∀ c, c < 4 → (vW c).1 ≤ 0 ∧ 0 ≤ (vW c).2) c hc)))
    by_cases k7 : k < 710
    · obtain ⟨m, rfl, hm⟩ : ∃ m, k = 704 + m ∧ m < 6 := ⟨k - 704, by omega, by omega⟩
      rw [vg_M hm]; exact .inr (.inr (.inr (by decide)))
    by_cases k8 : k < 737
    · obtain ⟨m, c, rfl, hm, hc⟩ : ∃ m c, k = 710 + 3 * m + c ∧ m < 9 ∧ c < 3 := ⟨(k - 710) / 3, (k - 710) % 3, by omega, by omega, by omega⟩
      rw [vg_X hm hc]; exact .inr (.inr (.inr ((by decide : ∀ c, c < 3 → (vX c).1 ≤ 0 ∧ 0 ≤ (vX c).2) c hc)))
    by_cases k9 : k < 817
    · obtain ⟨m, c, rfl, hm, hc⟩ : ∃ m c, k = 737 + 2 * m + c ∧ m < 40 ∧ c < 2 := ⟨(k - 737) / 2, (k - 737) % 2, by omega, by omega, by omega⟩
      rw [vg_T hm hc]; exact .inr (.inr (.inr ((by decide : ∀ c, c < 2 → (vT c).1 ≤ 0 ∧ 0 ≤ (vT c).2) c hc)))
    by_cases k10 : k < 823
    · obtain ⟨m, c, rfl, hm, hc⟩ : ∃ m c, k = 817 + 2 * m + c ∧ m < 3 ∧ c < 2 := ⟨(k - 817) / 2, (k - 817) % 2, by omega, by omega, by omega⟩
      rw [vg_H hm hc]; exact .inr (.inr (.inr ((by decide : ∀ c, c < 2 → (vH c).1 ≤ 0 ∧ 0 ≤ (vH c).2) c hc)))
    by_cases k11 : k < 827
    · obtain ⟨m, rfl, hm⟩ : ∃ m, k = 823 + m ∧ m < 4 := ⟨k - 823, by omega, by omega⟩
      rw [vg_N hm]; exact .inr (.inr (.inr (by decide)))
    by_cases k12 : k < 887
    · obtain ⟨m, rfl, hm⟩ : ∃ m, k = 827 + m ∧ m < 60 := ⟨k - 827, by omega, by omega⟩
      rw [vg_Z hm]; exact .inr (.inr (.inr (by decide)))
    exact .inr (.inr (.inl (by omega)))
  refine ⟨fun k => ?_, fun j hj => ?_⟩
  · rcases z k with c | ⟨c, d⟩ | c | c
    · unfold okV; rw [vg_0 c]; exact bd_all _
    · obtain ⟨i, rfl⟩ : ∃ i, k = 140 + i := ⟨k - 140, by omega⟩
      unfold okV; rw [vg_F c d, fr i (by omega)]
      unfold fam bd
      by_cases q : i % 3 = 2
      · rw [if_pos q]; decide
      · rw [if_neg q]; decide
    · unfold okV; rw [vg_E c]; exact bd_all _
    · by_cases q : 140 ≤ k ∧ k < 152
      · obtain ⟨i, rfl⟩ : ∃ i, k = 140 + i := ⟨k - 140, by omega⟩
        unfold okV; rw [vg_F q.1 q.2, fr i (by omega)]
        unfold fam bd
        by_cases q : i % 3 = 2
        · rw [if_pos q]; decide
        · rw [if_neg q]; decide
      · unfold okV bd
        rw [zr k (by omega)]; exact c
  · rw [fr (3 * j) (by omega), show 140 + 3 * j + 2 = 140 + (3 * j + 2) by omega, fr (3 * j + 2) (by omega), show 140 + 3 * j + 1 = 140 + (3 * j + 1) by omega, fr (3 * j + 1) (by omega)]
    unfold fam
    rw [if_neg (by omega), if_pos (by omega), if_neg (by omega)]
    decide
theorem INV3_start {h1 h2 : HI} (a : (∀ s, isS s → ∀ j, j < 12 → TT h1 (s + (1 + 2 * j)) (m0 j) (wJ j) (MJ j)) ∧ h1 76 = (fun _ => 0) ∧ (∀ i, i < 12 → h1 5 i = fam i) ∧ (∀ i, i < 4 → h1 23 i = 0) ∧ (∀ i, i < 2 → h1 17 i = 0) ∧ h1 77 9 = 1) (b : (∀ o, o < 135 → h2 o = h1 o) ∧ RG (h2 136) ∧ (∀ i, i < 9 → h2 136 i = 0) ∧ h2 138 = (fun _ => 0) ∧ h2 147 0 = 0 ∧ h2 147 1 = 1 ∧ (∀ i, i < 12 → h2 136 (140 + i) = fam i) ∧ ∀ i, i < 140 ∨ 152 ≤ i → h2 136 i = 0) : INV3 h2 :=
  ⟨⟨INV_start a b, RL_start a b⟩, LW_start ((a.1 1 isS1 11 (by omega)).cg (b.1 24 (by omega))) (by rw [b.1 77 (by omega)]; exact a.2.2.2.2.2), VR_start b.2.2.2.2.2.2.1 b.2.2.2.2.2.2.2, fun i hi hn => by rw [b.2.2.2.1] at hn; exact absurd rfl hn⟩
end
section
-- 70.cx
/-! WHAT A QUESTION MAY REST ON: the class's tables against the reference's numbers f -/
def CX (h : HI) (f : Nat → Int32) : Prop := CN h 1 f ∧ RL1 h 1 f ∧ LW h ∧ VR f ∧ RG f
theorem CX.of {h : HI} (v : INV3 h) : CX h (h 136) := ⟨v.1.1.2.2.2.1, v.1.2.1, v.2.1, v.2.2.1, v.1.1.2.1⟩
theorem CX.jj {S : Nat → Prop} {h h' : HI} {f : Nat → Int32} (c : CX h f) (J : JJ S h h') (n : ∀ q, q ≤ 80 → ¬ S q) : CX h' f :=
  ⟨c.1.cg (fun o _ ho => J o (n o (by omega))) (fun _ _ => rfl), c.2.1.cg (fun o _ ho => J o (n o (by omega))) (fun _ _ => rfl), lw_jj c.2.2.1 J n, c.2.2.2⟩
theorem CX.tF {h : HI} {f : Nat → Int32} (c : CX h f) : TT h 4 4 3 4 := by
  obtain ⟨m, T, k⟩ := c.1 1 (by omega)
  have k : m = 4 := k
  subst k; exact T
theorem CX.ci {h : HI} {f : Nat → Int32} (c : CX h f) {j : Nat} (hj : j < 12) {m : Nat} (T : TT h (1 + (1 + 2 * j)) m (wJ j) (MJ j)) : CE h 1 f j m := c.2.1.1 j m hj T.2.2.2.1 T.2.2.1
theorem CX.cp {h : HI} {f : Nat → Int32} (c : CX h f) {m p k : Nat} (T : TT h 2 m 5 24) (hp : p < m) (hk : k < 4) : h 3 (p * 5 + k) = f (20 + 5 * p + k) := by
  have := (CE.e0.mp (c.ci (j := 0) (by omega) T)).1 p hp k hk
  rw [show 20 + 5 * p + k = 20 + (p * 5 + k) by omega]; exact this
theorem CX.cf {h : HI} {f : Nat → Int32} (c : CX h f) {p k : Nat} (hp : p < 4) (hk : k < 3) : h 5 (p * 3 + k) = f (140 + 3 * p + k) := by
  have := (CE.es (by decide) (by decide)).mp (c.ci (j := 1) (by omega) c.tF) (p * 3 + k) (by show p * 3 + k < 4 * 3; omega)
  rw [show 140 + 3 * p + k = 140 + (p * 3 + k) by omega]; exact this
theorem CX.cs {h : HI} {f : Nat → Int32} (c : CX h f) {m p k : Nat} (T : TT h 6 m 6 60) (hp : p < m) (hk : k < 6) : h 7 (p * 6 + k) = f (152 + 6 * p + k) := by
  have := (CE.es (by decide) (by decide)).mp (c.ci (j := 2) (by omega) T) (p * 6 + k) (by show p * 6 + k < m * 6; omega)
  rw [show 152 + 6 * p + k = 152 + (p * 6 + k) by omega]; exact this
theorem CX.cz {h : HI} {f : Nat → Int32} (c : CX h f) {m k : Nat} (T : TT h 24 m 1 60) (hk : k < m) : h 25 k = f (827 + k) := by
  exact (CE.es (by decide) (by decide)).mp (c.ci (j := 11) (by omega) T) k (by show k < m * 1; omega)
theorem RG.z8 {f : Nat → Int32} (r : RG f) : ∃ n : Nat, n ≤ 60 ∧ f 8 = nI n := by
  obtain ⟨n, h1, -, e⟩ := bd_nI (r 8)
  have h1 : (n : Int) ≤ 60 := h1
  exact ⟨n, by omega, e⟩
/-- WORN of part a in the year y, by the reference's numbers -/
noncomputable def wvN (f : Nat → Int32) (a y : Nat) : Int32 := Classical.epsilon (fun v => ∃ (n b : Nat) (fl : Int32) (p : List Int32), f 8 = nI n ∧ n ≤ 60 ∧ f (20 + 5 * a + 2) = nI b ∧ b ≤ 99 ∧ RSl (fun k => f (827 + k)) n fl p ∧ v = wvl fl p (nI (y - b)) (f (20 + 5 * a + 0)) (f (20 + 5 * a + 1)))
/-! FAULT and WORN -/
/-- the answer of a question about a part and a year -/
def AWN (f : Nat → Int32) (m : Nat) (x1 x2 r : Int32) : Prop := (¬ (isRow (nI m) x1 ∧ bd 0 99 x2) ∧ r = -2) ∨ ∃ a y : Nat, a < m ∧ y ≤ 99 ∧ x1 = nI a ∧ x2 = nI y ∧ r = wvN f a y
theorem AWN.un {f : Nat → Int32} {m : Nat} (hm : m ≤ 24) {x1 x2 r s : Int32} (a : AWN f m x1 x2 r) (b : AWN f m x1 x2 s) : r = s := by
  rcases a with ⟨a1, rfl⟩ | ⟨p, y, hp, hy, rfl, rfl, rfl⟩
  · rcases b with ⟨-, rfl⟩ | ⟨p, y, hp, hy, rfl, rfl, -⟩
    · rfl
    · exact absurd ⟨row_of hp (by omega), bd_of (by omega) (by omega) (by omega)⟩ a1
  · rcases b with ⟨b1, -⟩ | ⟨p', y', hp', hy', e1, e2, rfl⟩
    · exact absurd ⟨row_of hp (by omega), bd_of (by omega) (by omega) (by omega)⟩ b1
    · have q1 : p = p' := (nI_eq (by omega) (by omega)).mp e1
      have q2 : y = y' := (nI_eq (by omega) (by omega)).mp e2
      rw [q1, q2]
end
section
-- 71.first
/-! NUMBERS WITH A SIGN -/
theorem i_sub {a b : Int32} {x y : Int} (ha : a.toInt = x) (hb : b.toInt = y) (h : -2147483648 ≤ x - y ∧ x - y < 2147483648) : (a - b).toInt = x - y := by
  rw [Int32.toInt_sub, ha, hb]; exact bm h.1 h.2
theorem i0 : (0 : Int32).toInt = 0 := by decide
theorem i1 : (1 : Int32).toInt = 1 := by decide
theorem im1 : (-1 : Int32).toInt = -1 := by decide
theorem nI_nm {j : Nat} (h : j < 2 ^ 31) : ¬ nI j = -1 := fun e => by
  have := nI_toInt h
  rw [e, im1] at this
  omega
/-! PLACES IN A FAMILY: the first not below a bound, the last not above it -/
/-! THE FAMILY of part p -/
def fB (f : Nat → Int32) (p : Nat) : Int := if f (20 + 5 * p + 3) = -1 then 1 else (f (140 + 3 * (f (20 + 5 * p + 3)).toNatClampNeg)).toInt
def fD (f : Nat → Int32) (p : Nat) : Int := if f (20 + 5 * p + 3) = -1 then 1 else (f (140 + 3 * (f (20 + 5 * p + 3)).toNatClampNeg + 1)).toInt
def fM (f : Nat → Int32) (p : Nat) : Int := if f (20 + 5 * p + 3) = -1 then 100000 else (f (140 + 3 * (f (20 + 5 * p + 3)).toNatClampNeg + 2)).toInt
theorem VR.fam {f : Nat → Int32} (v : VR f) {p : Nat} (hp : p < 24) : f (20 + 5 * p + 3) = -1 ∨ ∃ j : Nat, j < 4 ∧ f (20 + 5 * p + 3) = nI j := by
  have b : bd (-1) 3 (f (20 + 5 * p + 3)) := v.at (vg_P (c := 3) hp (by omega))
  by_cases q : f (20 + 5 * p + 3) = -1
  · exact .inl q
  · have : ¬ (f (20 + 5 * p + 3)).toInt = -1 := fun e => q (Int32.toInt_inj.mp (e.trans im1.symm))
    obtain ⟨j, h1, -, e⟩ := bd_nI (x := f (20 + 5 * p + 3)) (b := 3) ⟨by have := b.1; omega, b.2⟩
    exact .inr ⟨j, by omega, e⟩
def FOK (f : Nat → Int32) (p : Nat) : Prop := 1 ≤ fB f p ∧ 1 ≤ fD f p ∧ fD f p ≤ 100000 ∧ 1 ≤ fM f p ∧ fM f p ≤ 100000 ∧ fB f p + (fM f p - 1) * fD f p ≤ 100000
/-- a size of the family, by its place -/
theorem FOK.sz {f : Nat → Int32} {p : Nat} (k : FOK f p) {i : Int} (h0 : 0 ≤ i) (h1 : i ≤ fM f p - 1) : 1 ≤ fB f p + fD f p * i ∧ fB f p + fD f p * i ≤ 100000 ∧ 0 ≤ fD f p * i := by
  obtain ⟨a, b, -, c, -, e⟩ := k
  have m0 : 0 ≤ fD f p * i := Int.mul_nonneg (by omega) h0
  have m1 : fD f p * i ≤ fD f p * (fM f p - 1) := Int.mul_le_mul_of_nonneg_left h1 (by omega)
  rw [Int.mul_comm (fD f p) (fM f p - 1)] at m1
  omega
/-! SAYINGS -/
noncomputable def sW (f : Nat → Int32) (s : Nat) : Int := if f (152 + 6 * s + 1) = 0 then (wvN f (f (152 + 6 * s + 0)).toNatClampNeg (f (152 + 6 * s + 4)).toNatClampNeg).toInt else 0
noncomputable def sL (f : Nat → Int32) (s : Nat) : Int := (f (152 + 6 * s + 2)).toInt - (f (152 + 6 * s + 3)).toInt + sW f s
noncomputable def sH (f : Nat → Int32) (s : Nat) : Int := (f (152 + 6 * s + 2)).toInt + (f (152 + 6 * s + 3)).toInt + sW f s
/-- a saying allows a size -/
def alw (f : Nat → Int32) (s : Nat) (z : Int) : Prop := (¬ f (152 + 6 * s + 1) = 2 → sL f s ≤ z) ∧ (¬ f (152 + 6 * s + 1) = 3 → z ≤ sH f s)
abbrev isO (f : Nat → Int32) (p s : Nat) : Prop := f (152 + 6 * s + 0) = nI p ∧ f (152 + 6 * s + 5) = 0
theorem VR.sp {f : Nat → Int32} (v : VR f) {s : Nat} (hs : s < 60) : ∃ a y : Nat, a < 24 ∧ y ≤ 99 ∧ f (152 + 6 * s + 0) = nI a ∧ f (152 + 6 * s + 4) = nI y := by
  obtain ⟨a, h1, -, e1⟩ := bd_nI (v.at (vg_S (c := 0) hs (by omega)))
  obtain ⟨y, h2, -, e2⟩ := bd_nI (v.at (vg_S (c := 4) hs (by omega)))
  have h1 : (a : Int) ≤ 23 := h1
  have h2 : (y : Int) ≤ 99 := h2
  exact ⟨a, y, by omega, by omega, e1, e2⟩
/-- the sizes of p's family that all its sayings among the first n allow -/
def okZs (f : Nat → Int32) (p n : Nat) (z : Int) : Prop := ∀ s, s < n → isO f p s → alw f s z
def FSp (f : Nat → Int32) (p n : Nat) (a b : Int) : Prop := 0 ≤ a ∧ b ≤ fM f p - 1 ∧ ∀ i, 0 ≤ i → i ≤ fM f p - 1 → ((a ≤ i ∧ i ≤ b) ↔ okZs f p n (fB f p + fD f p * i))
def FA (f : Nat → Int32) (p n : Nat) (lo hi m : Int) : Prop := ∃ a b, FSp f p n a b ∧ m = (if b < a then 0 else b - a + 1) ∧ lo = (if b < a then -1 else fB f p + fD f p * a) ∧ hi = (if b < a then -1 else fB f p + fD f p * b)
theorem FA.un {f : Nat → Int32} {p n : Nat} {lo hi m lo' hi' m' : Int} (x : FA f p n lo hi m) (y : FA f p n lo' hi' m') : lo = lo' ∧ hi = hi' ∧ m = m' := by
  obtain ⟨a, b, ⟨a0, b0, k⟩, rfl, rfl, rfl⟩ := x
  obtain ⟨a', b', ⟨a0', b0', k'⟩, rfl, rfl, rfl⟩ := y
  by_cases c : b < a
  · by_cases c' : b' < a'
    · rw [if_pos c, if_pos c, if_pos c, if_pos c', if_pos c', if_pos c']; exact ⟨rfl, rfl, rfl⟩
    · have h1 := (k a' a0' (by omega)).mpr ((k' a' a0' (by omega)).mp (by omega))
      omega
  · by_cases c' : b' < a'
    · have h1 := (k' a a0 (by omega)).mpr ((k a a0 (by omega)).mp (by omega))
      omega
    · have h1 := (k a' a0' (by omega)).mpr ((k' a' a0' (by omega)).mp (by omega))
      have h2 := (k' a a0 (by omega)).mpr ((k a a0 (by omega)).mp (by omega))
      have h3 := (k b' (by omega) b0').mpr ((k' b' (by omega) b0').mp (by omega))
      have h4 := (k' b (by omega) b0).mpr ((k b (by omega) b0).mp (by omega))
      have e1 : a = a' := by omega
      have e2 : b = b' := by omega
      subst e1; subst e2
      exact ⟨rfl, rfl, rfl⟩
end
section
-- 79.t.a.sets
/-! TAKING: sets of spares, what is given -/
theorem or_two {i j : Nat} (h : i < 2 ^ j) : i ||| 2 ^ j = 2 ^ j + i := by
  have := Nat.two_pow_add_eq_or_of_lt h 1
  rw [Nat.mul_one] at this
  rw [this, Nat.or_comm]
theorem tb_or {i s u : Nat} : (i ||| 2 ^ s).testBit u = (i.testBit u || decide (s = u)) := by
  rw [Nat.testBit_or, Nat.testBit_two_pow]
theorem tb_hi {i j u : Nat} (h : i < 2 ^ j) (hu : j ≤ u) : i.testBit u = false := Nat.testBit_lt_two_pow (Nat.lt_of_lt_of_le h (Nat.pow_le_pow_right (by decide) hu))
theorem or_lt {i s S : Nat} (h : i < 2 ^ S) (hs : s < S) : i ||| 2 ^ s < 2 ^ S := Nat.or_lt_two_pow h (Nat.pow_lt_pow_right (by decide) hs)
/-- the years of a set, its first k spares; how many they are -/
def ysS (f : Nat → Int32) (z : Nat) : Nat → Nat
  | 0 => 0
  | k + 1 => ysS f z k + (if z.testBit k = true then (f (710 + 3 * k + 1)).toNatClampNeg else 0)
def pcN (z : Nat) : Nat → Nat
  | 0 => 0
  | k + 1 => pcN z k + (if z.testBit k = true then 1 else 0)
theorem pcN_or {z s : Nat} : ∀ {k : Nat}, pcN (z ||| 2 ^ s) k ≤ pcN z k + (if s < k then 1 else 0)
  | 0 => by show 0 ≤ 0 + _; omega
  | k + 1 => by
    have ih := pcN_or (z := z) (s := s) (k := k)
    show pcN (z ||| 2 ^ s) k + (if (z ||| 2 ^ s).testBit k = true then 1 else 0) ≤ pcN z k + (if z.testBit k = true then 1 else 0) + _
    rw [tb_or]
    by_cases c : s = k
    · subst c
      rw [if_neg (Nat.lt_irrefl s)] at ih
      rw [if_pos (Nat.lt_succ_self s)]
      have : (if (z.testBit s || decide (s = s)) = true then 1 else 0) ≤ 1 := by split <;> omega
      omega
    · rw [decide_eq_false c, Bool.or_false]
      by_cases d : s < k
      · rw [if_pos d] at ih
        rw [if_pos (show s < k + 1 by omega)]; omega
      · rw [if_neg d] at ih
        rw [if_neg (show ¬ s < k + 1 by omega)]; omega
theorem pcN_cg {z : Nat} : ∀ {k S : Nat}, z < 2 ^ S → S ≤ k → pcN z k = pcN z S
  | 0, S, _, h => by rw [show S = 0 by omega]
  | k + 1, S, hz, h => by
    by_cases e : S = k + 1
    · rw [e]
    · show pcN z k + (if z.testBit k = true then 1 else 0) = _
      rw [tb_hi hz (by omega), pcN_cg hz (by omega)]; rfl
/-- a pair is given in part -/
def brk (f : Nat → Int32) (S z : Nat) : Prop := ∃ s u, s < S ∧ u < S ∧ z.testBit s = true ∧ z.testBit u = false ∧ f (710 + 3 * s + 2) = f (710 + 3 * u + 2) ∧ ¬ f (710 + 3 * s + 2) = -1
noncomputable def yrV (f : Nat → Int32) (S z : Nat) : Int32 := @ite _ (brk f S z) (Classical.propDecidable _) (-1) (nI (ysS f z S))
theorem yrV_b {f : Nat → Int32} {S z : Nat} (h : brk f S z) : yrV f S z = -1 := if_pos h
theorem yrV_n {f : Nat → Int32} {S z : Nat} (h : ¬ brk f S z) : yrV f S z = nI (ysS f z S) := if_neg h
/-- what machine m may get where z is given: 0 none, s + 1 the spare s -/
def okG (f : Nat → Int32) (S m z g : Nat) : Prop := g = 0 ∨ ∃ s, g = s + 1 ∧ s < S ∧ f (710 + 3 * s) = f (704 + m) ∧ z.testBit s = false
def stG (z : Nat) : Nat → Nat
  | 0 => z
  | s + 1 => z ||| 2 ^ s
def VlG (f : Nat → Int32) (S : Nat) : Nat → Nat → List Nat → Prop
  | _, _, [] => True
  | m, z, g :: l => okG f S m z g ∧ VlG f S (m + 1) (stG z g) l
def FnG : Nat → List Nat → Nat
  | z, [] => z
  | z, g :: l => FnG (stG z g) l
theorem stG_lt {f : Nat → Int32} {S m z g : Nat} (h : okG f S m z g) (hz : z < 2 ^ S) : stG z g < 2 ^ S := by
  rcases h with rfl | ⟨s, rfl, hs, -⟩
  · exact hz
  · exact or_lt hz hs
theorem okG_le {f : Nat → Int32} {S m z g : Nat} (h : okG f S m z g) : g ≤ S := by
  rcases h with rfl | ⟨s, rfl, hs, -⟩
  · omega
  · omega
theorem VlG.app {f : Nat → Int32} {S : Nat} : ∀ {p d : List Nat} {m z : Nat}, VlG f S m z (p ++ d) ↔ VlG f S m z p ∧ VlG f S (m + p.length) (FnG z p) d
  | [], d, m, z => ⟨fun x => ⟨trivial, x⟩, fun x => x.2⟩
  | g :: p, d, m, z => by
    show okG f S m z g ∧ VlG f S (m + 1) (stG z g) (p ++ d) ↔ (okG f S m z g ∧ VlG f S (m + 1) (stG z g) p) ∧ VlG f S (m + (p.length + 1)) (FnG (stG z g) p) d
    rw [VlG.app (p := p), show m + 1 + p.length = m + (p.length + 1) by omega]
    exact ⟨fun ⟨a, b, c⟩ => ⟨⟨a, b⟩, c⟩, fun ⟨⟨a, b⟩, c⟩ => ⟨a, b, c⟩⟩
theorem FnG.app : ∀ {p d : List Nat} {z : Nat}, FnG z (p ++ d) = FnG (FnG z p) d
  | [], _, _ => rfl
  | g :: p, d, z => FnG.app (p := p)
theorem FnG.lt {f : Nat → Int32} {S : Nat} : ∀ {l : List Nat} {m z : Nat}, VlG f S m z l → z < 2 ^ S → FnG z l < 2 ^ S
  | [], _, _, _, hz => hz
  | g :: l, m, z, ⟨a, b⟩, hz => (show FnG (stG z g) l < 2 ^ S from FnG.lt b (stG_lt a hz))
/-- the most that can come of machine m where z is given -/
def IsMx (f : Nat → Int32) (S M m z : Nat) (v : Int32) : Prop := (∃ l : List Nat, m + l.length = M ∧ VlG f S m z l ∧ yrV f S (FnG z l) = v) ∧ ∀ l : List Nat, m + l.length = M → VlG f S m z l → yrV f S (FnG z l) ≤ v
theorem IsMx.un {f : Nat → Int32} {S M m z : Nat} {v u : Int32} (a : IsMx f S M m z v) (b : IsMx f S M m z u) : v = u := by
  obtain ⟨⟨l, l1, l2, l3⟩, a2⟩ := a
  obtain ⟨⟨k, k1, k2, k3⟩, b2⟩ := b
  have h1 := b2 l l1 l2
  have h2 := a2 k k1 k2
  rw [l3] at h1; rw [k3] at h2
  exact Int32.le_antisymm h1 h2
theorem IsMx.nil {f : Nat → Int32} {S M z : Nat} : IsMx f S M M z (yrV f S z) := by
  refine ⟨⟨[], rfl, trivial, rfl⟩, fun l hl _ => ?_⟩
  match l, hl with
  | [], _ => exact Int32.le_refl _
  | _ :: l, hl =>
    have hl : M + (l.length + 1) = M := hl
    omega
/-- the most, where machine m gets one below k -/
def MxK (f : Nat → Int32) (S M m z k : Nat) (v : Int32) : Prop := (∃ (g : Nat) (l : List Nat), g < k ∧ m + 1 + l.length = M ∧ VlG f S m z (g :: l) ∧ yrV f S (FnG z (g :: l)) = v) ∧ ∀ (g : Nat) (l : List Nat), g < k → m + 1 + l.length = M → VlG f S m z (g :: l) → yrV f S (FnG z (g :: l)) ≤ v
theorem MxK.one {f : Nat → Int32} {S M m z : Nat} {v : Int32} (a : IsMx f S M (m + 1) z v) : MxK f S M m z 1 v := by
  obtain ⟨⟨l, l1, l2, l3⟩, a2⟩ := a
  refine ⟨⟨0, l, by omega, l1, ⟨.inl rfl, l2⟩, l3⟩, fun g l hg hl x => ?_⟩
  have : g = 0 := by omega
  subst this
  exact a2 l hl x.2
theorem MxK.no {f : Nat → Int32} {S M m z k : Nat} {v : Int32} (a : MxK f S M m z k v) (n : ¬ okG f S m z k) : MxK f S M m z (k + 1) v := by
  obtain ⟨⟨g, l, g1, l1, l2, l3⟩, a2⟩ := a
  refine ⟨⟨g, l, by omega, l1, l2, l3⟩, fun g l hg hl x => ?_⟩
  by_cases e : g = k
  · subst e; exact absurd x.1 n
  · exact a2 g l (by omega) hl x
theorem MxK.up {f : Nat → Int32} {S M m z k : Nat} {v u : Int32} (a : MxK f S M m z k v) (o : okG f S m z k) (b : IsMx f S M (m + 1) (stG z k) u) : MxK f S M m z (k + 1) (if v < u then u else v) := by
  obtain ⟨⟨g, l, g1, l1, l2, l3⟩, a2⟩ := a
  obtain ⟨⟨d, d1, d2, d3⟩, b2⟩ := b
  by_cases c : v < u
  · rw [if_pos c]
    refine ⟨⟨k, d, by omega, d1, ⟨o, d2⟩, d3⟩, fun g l hg hl x => ?_⟩
    by_cases e : g = k
    · subst e; exact b2 l hl x.2
    · exact Int32.le_trans (a2 g l (by omega) hl x) (Int32.le_of_lt c)
  · rw [if_neg c]
    refine ⟨⟨g, l, by omega, l1, l2, l3⟩, fun g l hg hl x => ?_⟩
    by_cases e : g = k
    · subst e; exact Int32.le_trans (b2 l hl x.2) (Int32.not_lt.mp c)
    · exact a2 g l (by omega) hl x
theorem MxK.fin {f : Nat → Int32} {S M m z : Nat} {v : Int32} (hm : m < M) (a : MxK f S M m z (S + 1) v) : IsMx f S M m z v := by
  obtain ⟨⟨g, l, g1, l1, l2, l3⟩, a2⟩ := a
  refine ⟨⟨g :: l, by show m + (l.length + 1) = M; omega, l2, l3⟩, fun l hl x => ?_⟩
  match l, hl, x with
  | [], hl, _ => exact absurd hl (by show ¬ m + 0 = M; omega)
  | g :: l, hl, x =>
    have hl : m + (l.length + 1) = M := hl
    have := okG_le x.1
    exact a2 g l (by omega) (by omega) x
/-- before, in the order of the search -/
def LXq : List Nat → List Nat → Prop
  | [], _ => False
  | b :: q, l => match l with
    | [] => False
    | a :: l => a < b ∨ (a = b ∧ LXq q l)
abbrev LX (l q : List Nat) : Prop := LXq q l
theorem LX.as : ∀ {l q : List Nat}, LX l q → ¬ LX q l
  | _, [], h, _ => h
  | [], _ :: _, h, _ => h
  | a :: l, b :: q, h, k => by
    rcases h with h | ⟨h, h'⟩
    · rcases k with k | ⟨k, k'⟩
      · omega
      · omega
    · rcases k with k | ⟨k, k'⟩
      · omega
      · exact LX.as h' k'
theorem LX.app : ∀ {p a b : List Nat}, LX (p ++ a) (p ++ b) ↔ LX a b
  | [], _, _ => Iff.rfl
  | x :: p, a, b => by
    show (x < x ∨ (x = x ∧ LX (p ++ a) (p ++ b))) ↔ _
    rw [LX.app (p := p)]
    exact ⟨fun h => h.elim (fun q => absurd q (Nat.lt_irrefl x)) (fun q => q.2), fun h => .inr ⟨rfl, h⟩⟩
/-- THE best from machine m on where z is given: the most years, the first in the order of the search -/
def TKp (f : Nat → Int32) (S M m z : Nat) (l : List Nat) : Prop := m + l.length = M ∧ VlG f S m z l ∧ ∀ k : List Nat, m + k.length = M → VlG f S m z k → yrV f S (FnG z k) < yrV f S (FnG z l) ∨ (yrV f S (FnG z k) = yrV f S (FnG z l) ∧ (k = l ∨ LX l k))
def TKG (f : Nat → Int32) (S M : Nat) (l : List Nat) : Prop := TKp f S M 0 0 l
theorem TKp.ex {f : Nat → Int32} {S M : Nat} : ∀ (n m z : Nat), m + n = M → ∃ l, TKp f S M m z l
  | 0, m, z, e => ⟨[], e, trivial, fun k ek _ => by
    have : k = [] := List.eq_nil_of_length_eq_zero (by omega)
    subst this
    exact .inr ⟨rfl, .inl rfl⟩⟩
  | n + 1, m, z, e => by
    have step : ∀ k, ∃ (g : Nat) (l : List Nat), g < k + 1 ∧ m + 1 + l.length = M ∧ VlG f S m z (g :: l) ∧ ∀ (a : Nat) (q : List Nat), a < k + 1 → m + 1 + q.length = M → VlG f S m z (a :: q) → yrV f S (FnG z (a :: q)) < yrV f S (FnG z (g :: l)) ∨ (yrV f S (FnG z (a :: q)) = yrV f S (FnG z (g :: l)) ∧ (a :: q = g :: l ∨ LX (g :: l) (a :: q))) := by
      have one : ∀ g, okG f S m z g → ∃ l : List Nat, m + 1 + l.length = M ∧ VlG f S m z (g :: l) ∧ ∀ q : List Nat, m + 1 + q.length = M → VlG f S m z (g :: q) → yrV f S (FnG z (g :: q)) < yrV f S (FnG z (g :: l)) ∨ (yrV f S (FnG z (g :: q)) = yrV f S (FnG z (g :: l)) ∧ (g :: q = g :: l ∨ LX (g :: l) (g :: q))) := fun g o => by
        obtain ⟨l, l1, l2, l3⟩ := TKp.ex (f := f) (S := S) (M := M) n (m + 1) (stG z g) (by omega)
        refine ⟨l, l1, ⟨o, l2⟩, fun q eq vq => (l3 q eq vq.2).imp id (fun x => ⟨x.1, x.2.imp (fun y => by rw [y]) (fun y => .inr ⟨rfl, y⟩)⟩)⟩
      intro k
      induction k with
      | zero =>
        obtain ⟨l, l1, l2, l3⟩ := one 0 (.inl rfl)
        refine ⟨0, l, by omega, l1, l2, fun a q ha eq vq => ?_⟩
        have : a = 0 := by omega
        subst this
        exact l3 q eq vq
      | succ k ih =>
        obtain ⟨g, l, g1, l1, l2, l3⟩ := ih
        by_cases o : okG f S m z (k + 1)
        · obtain ⟨d, d1, d2, d3⟩ := one (k + 1) o
          by_cases c : yrV f S (FnG z (g :: l)) < yrV f S (FnG z ((k + 1) :: d))
          · refine ⟨k + 1, d, by omega, d1, d2, fun a q ha eq vq => ?_⟩
            by_cases ea : a = k + 1
            · subst ea; exact d3 q eq vq
            · rcases l3 a q (by omega) eq vq with h | h
              · exact .inl (Int32.lt_trans h c)
              · rw [h.1]; exact .inl c
          · refine ⟨g, l, by omega, l1, l2, fun a q ha eq vq => ?_⟩
            by_cases ea : a = k + 1
            · subst ea
              have h := d3 q eq vq
              rw [Int32.lt_iff_toInt_lt] at c
              rw [Int32.lt_iff_toInt_lt, ← Int32.toInt_inj] at h ⊢
              by_cases r : (yrV f S (FnG z ((k + 1) :: q))).toInt < (yrV f S (FnG z (g :: l))).toInt
              · exact .inl r
              · exact .inr ⟨by omega, .inr (.inl (by omega))⟩
            · exact l3 a q (by omega) eq vq
        · refine ⟨g, l, by omega, l1, l2, fun a q ha eq vq => ?_⟩
          by_cases ea : a = k + 1
          · subst ea; exact absurd vq.1 o
          · exact l3 a q (by omega) eq vq
    obtain ⟨g, l, g1, l1, l2, l3⟩ := step S
    refine ⟨g :: l, by show m + (l.length + 1) = M; omega, l2, fun k ek vk => ?_⟩
    match k, ek, vk with
    | [], ek, _ => exact absurd ek (by show ¬ m + 0 = M; omega)
    | a :: q, ek, vk =>
      have ek : m + (q.length + 1) = M := ek
      have := okG_le vk.1
      exact l3 a q (by omega) (by omega) vk
theorem TKG.un {f : Nat → Int32} {S M : Nat} {l k : List Nat} (a : TKG f S M l) (b : TKG f S M k) : l = k := by
  unfold TKG at a b
  rcases a.2.2 k b.1 b.2.1 with h | ⟨h, h'⟩
  · rcases b.2.2 l a.1 a.2.1 with q | ⟨q, q'⟩
    · exact absurd (Int32.lt_trans h q) (Int32.lt_irrefl)
    · rw [q] at h; exact absurd h Int32.lt_irrefl
  · rcases h' with h' | h'
    · exact h'.symm
    · rcases b.2.2 l a.1 a.2.1 with q | ⟨q, q'⟩
      · rw [h] at q; exact absurd q Int32.lt_irrefl
      · rcases q' with q' | q'
        · exact q'
        · exact absurd h' (LX.as q')
def ATK (f : Nat → Int32) (S M : Nat) (x r : Int32) : Prop := (¬ x = -1 ∧ ¬ isRow (nI M) x ∧ r = -10) ∨ (x = -1 ∧ ∀ l, TKG f S M l → r = yrV f S (FnG 0 l)) ∨ ∃ i, i < M ∧ x = nI i ∧ ∀ l, TKG f S M l → r = nI (l.getD i 0) - 1
theorem ATK.un {f : Nat → Int32} {S M : Nat} (hM : M ≤ 6) (e : ∃ l, TKG f S M l) {x r s : Int32} (a : ATK f S M x r) (b : ATK f S M x s) : r = s := by
  obtain ⟨l, tl⟩ := e
  have nr : ∀ i, i < M → x = nI i → isRow (nI M) x := fun i hi ex => by
    rw [ex]; unfold isRow; rw [nI_toInt (by omega), nI_toInt (by omega)]; omega
  rcases a with ⟨a1, a2, a3⟩ | ⟨a1, a2⟩ | ⟨i, i1, i2, i3⟩
  · rcases b with ⟨b1, b2, b3⟩ | ⟨b1, b2⟩ | ⟨j, j1, j2, j3⟩
    · rw [a3, b3]
    · exact absurd b1 a1
    · exact absurd (nr j j1 j2) a2
  · rcases b with ⟨b1, b2, b3⟩ | ⟨b1, b2⟩ | ⟨j, j1, j2, j3⟩
    · exact absurd a1 b1
    · rw [a2 l tl, b2 l tl]
    · exact absurd (j2.symm.trans a1) (nI_nm (by omega))
  · rcases b with ⟨b1, b2, b3⟩ | ⟨b1, b2⟩ | ⟨j, j1, j2, j3⟩
    · exact absurd (nr i i1 i2) b2
    · exact absurd (i2.symm.trans b1) (nI_nm (by omega))
    · have : i = j := (nI_eq (by omega) (by omega)).mp (i2.symm.trans j2)
      subst this
      rw [i3 l tl, j3 l tl]
end
section
-- 79.t.b.gather
/-! TAKING: what the class gathers -/
def STb (h : HI) (f : Nat → Int32) (M S : Nat) : Prop := TT h 12 M 1 6 ∧ (∀ m, m < M → h 13 m = f (704 + m)) ∧ TT h 14 S 3 9 ∧ ∀ s k, s < S → k < 3 → h 15 (s * 3 + k) = f (710 + 3 * s + k)
theorem STb.jj {R : Nat → Prop} {h h' : HI} {f : Nat → Int32} {M S : Nat} (T : STb h f M S) (J : JJ R h h') (n : ∀ q, q ≤ 80 → ¬ R q) : STb h' f M S := by
  refine ⟨T.1.cg (J 12 (n 12 (by omega))), fun m hm => ?_, T.2.2.1.cg (J 14 (n 14 (by omega))), fun s k hs hk => ?_⟩
  · rw [J 13 (n 13 (by omega))]; exact T.2.1 m hm
  · rw [J 15 (n 15 (by omega))]; exact T.2.2.2 s k hs hk
theorem CX.st {h : HI} {f : Nat → Int32} (c : CX h f) : ∃ M S, STb h f M S ∧ M ≤ 6 ∧ S ≤ 9 ∧ f 4 = nI M ∧ f 5 = nI S := by
  obtain ⟨M, T, k⟩ : ∃ m, TT h 12 m 1 6 ∧ f 4 = nI m := c.1 5 (by omega)
  obtain ⟨S, U, l⟩ : ∃ m, TT h 14 m 3 9 ∧ f 5 = nI m := c.1 6 (by omega)
  refine ⟨M, S, ⟨T, fun m hm => ?_, U, fun s k hs hk => ?_⟩, T.2.2.2.1, U.2.2.2.1, k, l⟩
  · exact (CE.es (by decide) (by decide)).mp (c.ci (j := 5) (by omega) T) m (by show m < M * 1; omega)
  · have := (CE.es (by decide) (by decide)).mp (c.ci (j := 6) (by omega) U) (s * 3 + k) (by show s * 3 + k < S * 3; omega)
    rw [show 710 + 3 * s + k = 710 + (s * 3 + k) by omega]; exact this
theorem VR.mc {f : Nat → Int32} (v : VR f) {m : Nat} (hm : m < 6) : ∃ k : Nat, k < 4 ∧ f (704 + m) = nI k := by
  have := v.1 (704 + m)
  unfold okV at this
  rw [vg_M hm] at this
  obtain ⟨k, k1, k2, e⟩ := bd_nI this
  exact ⟨k, by omega, e⟩
theorem VR.sp3 {f : Nat → Int32} (v : VR f) {s : Nat} (hs : s < 9) : (∃ k : Nat, k < 4 ∧ f (710 + 3 * s) = nI k) ∧ (∃ y : Nat, y ≤ 50 ∧ f (710 + 3 * s + 1) = nI y) ∧ (f (710 + 3 * s + 2) = -1 ∨ ∃ k : Nat, k < 4 ∧ f (710 + 3 * s + 2) = nI k) := by
  have e : ∀ c, c < 3 → bd (vX c).1 (vX c).2 (f (710 + 3 * s + c)) := fun c hc => by
    have := v.1 (710 + 3 * s + c)
    unfold okV at this
    rw [vg_X hs hc] at this; exact this
  refine ⟨?_, ?_, ?_⟩
  · obtain ⟨k, k1, k2, e⟩ := bd_nI ((e 0 (by omega)).mo (c := 0) (d := 3) (by decide) (by decide))
    exact ⟨k, by omega, e⟩
  · obtain ⟨k, k1, k2, e⟩ := bd_nI ((e 1 (by omega)).mo (c := 0) (d := 50) (by decide) (by decide))
    exact ⟨k, by omega, e⟩
  · have h := (e 2 (by omega)).mo (c := -1) (d := 3) (by decide) (by decide)
    by_cases q : f (710 + 3 * s + 2) = -1
    · exact .inl q
    · right
      have n1 : ¬ (f (710 + 3 * s + 2)).toInt = -1 := fun e => q (Int32.toInt_inj.mp (e.trans im1.symm))
      unfold bd at h
      obtain ⟨k, k1, k2, e⟩ := bd_nI (b := 3) (x := f (710 + 3 * s + 2)) ⟨by omega, h.2⟩
      exact ⟨k, by omega, e⟩
/-- the mask of the spares below S whose number c is k -/
def MSK (f : Nat → Int32) (S c k : Nat) (x : Int32) : Prop := ∃ K, K < 2 ^ S ∧ x = nI K ∧ ∀ s, K.testBit s = true ↔ s < S ∧ f (710 + 3 * s + c) = nI k
theorem MSK.zero {f : Nat → Int32} {c k : Nat} : MSK f 0 c k 0 := ⟨0, by decide, nI_0.symm, fun s => ⟨fun h => by rw [Nat.zero_testBit] at h; exact absurd h (by decide), fun h => absurd h.1 (Nat.not_lt_zero s)⟩⟩
theorem MSK.yes {f : Nat → Int32} {S c k : Nat} {x : Int32} (m : MSK f S c k x) (e : f (710 + 3 * S + c) = nI k) : MSK f (S + 1) c k (x ||| nI (2 ^ S)) := by
  obtain ⟨K, k1, rfl, k2⟩ := m
  refine ⟨K ||| 2 ^ S, or_lt (Nat.lt_of_lt_of_le k1 (Nat.pow_le_pow_right (by decide) (by omega))) (by omega), nI_or _ _, fun s => ?_⟩
  rw [tb_or]
  by_cases q : S = s
  · subst q
    rw [decide_eq_true rfl, Bool.or_true]
    exact ⟨fun _ => ⟨by omega, e⟩, fun _ => rfl⟩
  · rw [decide_eq_false q, Bool.or_false, k2 s]
    exact ⟨fun h => ⟨by omega, h.2⟩, fun h => ⟨by omega, h.2⟩⟩
theorem MSK.no {f : Nat → Int32} {S c k : Nat} {x : Int32} (m : MSK f S c k x) (e : ¬ f (710 + 3 * S + c) = nI k) : MSK f (S + 1) c k x := by
  obtain ⟨K, k1, rfl, k2⟩ := m
  refine ⟨K, Nat.lt_of_lt_of_le k1 (Nat.pow_le_pow_right (by decide) (by omega)), rfl, fun s => ?_⟩
  rw [k2 s]
  exact ⟨fun h => ⟨by omega, h.2⟩, fun h => ⟨by
    have : s ≠ S := fun q => e (by rw [← q]; exact h.2)
    omega, h.2⟩⟩
def GA (h : HI) (f : Nat → Int32) (S : Nat) : Prop := h 97 5 = nI S ∧ (∀ k, k < 4 → MSK f S 0 k (h 107 k)) ∧ (∀ k, k < 4 → MSK f S 2 k (h 108 k)) ∧ ∀ z, z < 2 ^ S → h 106 z = nI (ysS f z S)
theorem GA.cg {h h' : HI} {f : Nat → Int32} {S : Nat} (a : GA h f S) (e7 : h' 97 = h 97) (e6 : h' 106 = h 106) (ek : h' 107 = h 107) (ep : h' 108 = h 108) : GA h' f S := by
  unfold GA
  rw [e7, e6, ek, ep]; exact a
end
section
-- 79.t.c.class
/-! TAKING: the class's table and its answer -/
theorem t_shr {a j : Nat} (ha : a < 2 ^ 31) (hj : j < 32) : nI a >>> (nI j &&& 31) = nI (a / 2 ^ j) := by
  have e : nI j &&& 31 = nI j := by
    rw [show (31 : Int32) = nI 31 from rfl, nI_and, show (31 : Nat) = 2 ^ 5 - 1 by decide, Nat.and_two_pow_sub_one_eq_mod, Nat.mod_eq_of_lt (by omega)]
  rw [e]
  refine Int32.toBitVec_inj.mp ?_
  rw [Int32.toBitVec_shiftRight]
  have ej : ((nI j).toBitVec.smod 32).toNat = j := by
    have : ∀ j, j < 32 → ((nI j).toBitVec.smod 32).toNat = j := by decide +kernel
    exact this j hj
  show (nI a).toBitVec.sshiftRight ((nI j).toBitVec.smod 32).toNat = _
  rw [ej]
  have ea : (nI a).toBitVec = BitVec.ofNat 32 a := rfl
  rw [ea, BitVec.sshiftRight_eq_of_msb_false (by
    rw [BitVec.msb_eq_decide, BitVec.toNat_ofNat, Nat.mod_eq_of_lt (by omega)]
    exact decide_eq_false (by omega))]
  show _ = BitVec.ofNat 32 (a / 2 ^ j)
  refine BitVec.eq_of_toNat_eq ?_
  rw [BitVec.toNat_ushiftRight, BitVec.toNat_ofNat, BitVec.toNat_ofNat, Nat.mod_eq_of_lt (by omega), Nat.shiftRight_eq_div_pow, Nat.mod_eq_of_lt (Nat.lt_of_le_of_lt (Nat.div_le_self a _) (by omega))]
theorem t_bv {a j : Nat} (ha : a < 2 ^ 31) (hj : j < 32) : (nI a >>> (nI j &&& 31)) &&& (1 : Int32) = nI (if a.testBit j = true then 1 else 0) := by
  rw [t_shr ha hj, show (1 : Int32) = nI 1 from rfl, nI_and, Nat.and_one_is_mod, Nat.testBit_eq_decide_div_mod_eq]
  by_cases c : a / 2 ^ j % 2 = 1
  · rw [c, decide_eq_true rfl, if_pos rfl]
  · rw [show a / 2 ^ j % 2 = 0 by omega]; rfl
theorem t_1 {a j : Nat} (ha : a < 2 ^ 31) (hj : j < 32) : (nI a >>> (nI j &&& 31)) &&& (1 : Int32) = 1 ↔ a.testBit j = true := by
  rw [t_bv ha hj]
  by_cases c : a.testBit j = true
  · rw [if_pos c]; exact ⟨fun _ => c, fun _ => rfl⟩
  · rw [if_neg c]; exact ⟨fun e => absurd e (by decide), fun e => absurd e c⟩
theorem t_0 {a j : Nat} (ha : a < 2 ^ 31) (hj : j < 32) : (nI a >>> (nI j &&& 31)) &&& (1 : Int32) = 0 ↔ a.testBit j = false := by
  rw [t_bv ha hj]
  by_cases c : a.testBit j = true
  · rw [if_pos c, c]; exact ⟨fun e => absurd e (by decide), fun e => absurd e (by decide)⟩
  · rw [if_neg c]; exact ⟨fun _ => Bool.eq_false_iff.mpr c, fun _ => rfl⟩
def bcE (x0 : Int32) : Int32 :=
  let a := x0 - (((x0.toUInt32 >>> ((1 : Int32).toUInt32 &&& Int32.toUInt32 31)).toInt32) &&& (1431655765 : Int32))
  let b := (a &&& (858993459 : Int32)) + (((a.toUInt32 >>> ((2 : Int32).toUInt32 &&& Int32.toUInt32 31)).toInt32) &&& (858993459 : Int32))
  let c := (b + ((b.toUInt32 >>> ((4 : Int32).toUInt32 &&& Int32.toUInt32 31)).toInt32)) &&& (252645135 : Int32)
  let d := c + ((c.toUInt32 >>> ((8 : Int32).toUInt32 &&& Int32.toUInt32 31)).toInt32)
  let e := d + ((d.toUInt32 >>> ((16 : Int32).toUInt32 &&& Int32.toUInt32 31)).toInt32)
  e &&& (63 : Int32)
theorem bcE_eq : ∀ n, n < 512 → bcE (nI n) = nI (pcN n 9) := by decide +kernel
theorem q_bc {h : HI} {g : HL} {n : Nat} (hn : n < 512) : w_J6_bitCount_0f7a4 (nI n) h g (fun r h' _ => h = h' ∧ r = nI (pcN n 9)) := by
  unfold w_J6_bitCount_0f7a4
  rintro _ rfl _ rfl _ rfl _ rfl _ rfl
  exact ⟨rfl, bcE_eq n hn⟩
theorem pcN_le {z : Nat} : ∀ {k : Nat}, pcN z k ≤ k
  | 0 => Nat.le_refl 0
  | k + 1 => by
    have := pcN_le (z := z) (k := k)
    show pcN z k + (if z.testBit k = true then 1 else 0) ≤ k + 1
    split <;> omega
end
section
-- 79.t.d.ans
/-! TAKING: the class's answer -/
theorem pc_0 : ∀ {S : Nat}, pcN 0 S = 0
  | 0 => rfl
  | S + 1 => by
    show pcN 0 S + (if (0 : Nat).testBit S = true then 1 else 0) = 0
    rw [pc_0, Nat.zero_testBit]; rfl
end
section
-- 79.t.e.ref
/-! TAKING of the reference -/
/-- what was found among the D -/
def Bst (f : Nat → Int32) (S n : Nat) (D : List Nat → Prop) (best : Int32) (gt : Nat → Int32) : Prop := (best = -1 ∧ ∀ l : List Nat, 0 + l.length = n → VlG f S 0 0 l → D l → yrV f S (FnG 0 l) = -1) ∨ ∃ b : List Nat, 0 + b.length = n ∧ VlG f S 0 0 b ∧ D b ∧ best = yrV f S (FnG 0 b) ∧ (∀ k, k < n → gt k = nI (b.getD k 0) - 1) ∧ ∀ l : List Nat, 0 + l.length = n → VlG f S 0 0 l → D l → yrV f S (FnG 0 l) < yrV f S (FnG 0 b) ∨ (yrV f S (FnG 0 l) = yrV f S (FnG 0 b) ∧ (l = b ∨ LX b l))
theorem Bst.cg {f : Nat → Int32} {S n : Nat} {D E : List Nat → Prop} {best : Int32} {gt : Nat → Int32} (a : Bst f S n D best gt) (e : ∀ l : List Nat, 0 + l.length = n → VlG f S 0 0 l → (D l ↔ E l)) : Bst f S n E best gt := by
  rcases a with ⟨a1, a2⟩ | ⟨b, b1, b2, b3, b4, b5, b6⟩
  · exact .inl ⟨a1, fun l hl vl dl => a2 l hl vl ((e l hl vl).mpr dl)⟩
  · exact .inr ⟨b, b1, b2, (e b b1 b2).mp b3, b4, b5, fun l hl vl dl => b6 l hl vl ((e l hl vl).mpr dl)⟩
theorem yr_ge {f : Nat → Int32} {S z : Nat} (v : VR f) (hS : S ≤ 9) : -1 ≤ (yrV f S z).toInt := by
  have b : ∀ k, k ≤ 9 → ysS f z k ≤ 50 * k := fun k => by
    induction k with
    | zero => intro _; exact Nat.le_refl 0
    | succ k ih =>
      intro hk
      have := ih (by omega)
      obtain ⟨-, ⟨y, y50, ey⟩, -⟩ := v.sp3 (s := k) (by omega)
      show ysS f z k + (if z.testBit k = true then (f (710 + 3 * k + 1)).toNatClampNeg else 0) ≤ 50 * (k + 1)
      rw [ey, nI_clamp (by omega)]
      split <;> omega
  by_cases c : brk f S z
  · rw [yrV_b c, im1]; omega
  · rw [yrV_n c, nI_toInt (by have := b S hS; omega)]; omega
/-- one more: it is behind all that were found -/
theorem Bst.add {f : Nat → Int32} {S n : Nat} {D : List Nat → Prop} {best : Int32} {gt gt' : Nat → Int32} {q : List Nat} (v : VR f) (hS : S ≤ 9) (a : Bst f S n D best gt) (hq : 0 + q.length = n) (vq : VlG f S 0 0 q) (bh : ∀ l : List Nat, 0 + l.length = n → VlG f S 0 0 l → D l → LX l q) : (yrV f S (FnG 0 q) ≤ best → Bst f S n (fun l => D l ∨ l = q) best gt) ∧ (¬ yrV f S (FnG 0 q) ≤ best → (∀ k, k < n → gt' k = nI (q.getD k 0) - 1) → Bst f S n (fun l => D l ∨ l = q) (yrV f S (FnG 0 q)) gt') := by
  rw [Int32.le_iff_toInt_le]
  have g := yr_ge (z := FnG 0 q) v hS
  rcases a with ⟨a1, a2⟩ | ⟨b, b1, b2, b3, b4, b5, b6⟩
  · rw [a1, im1]
    refine ⟨fun c => .inl ⟨rfl, fun l hl vl dl => dl.elim (a2 l hl vl) (fun e => ?_)⟩, fun c g' => .inr ⟨q, hq, vq, .inr rfl, rfl, g', fun l hl vl dl => dl.elim (fun d => ?_) (fun e => .inr ⟨by rw [e], .inl e⟩)⟩⟩
    · rw [e]; exact Int32.toInt_inj.mp (by rw [im1]; omega)
    · rw [a2 l hl vl d]; exact .inl (by rw [Int32.lt_iff_toInt_lt, im1]; omega)
  · rw [b4]
    refine ⟨fun c => .inr ⟨b, b1, b2, .inl b3, rfl, b5, fun l hl vl dl => dl.elim (b6 l hl vl) (fun e => ?_)⟩, fun c g' => .inr ⟨q, hq, vq, .inr rfl, rfl, g', fun l hl vl dl => dl.elim (fun d => ?_) (fun e => .inr ⟨by rw [e], .inl e⟩)⟩⟩
    · rw [e]
      by_cases r : (yrV f S (FnG 0 q)).toInt = (yrV f S (FnG 0 b)).toInt
      · exact .inr ⟨Int32.toInt_inj.mp r, .inr (bh b b1 b2 b3)⟩
      · exact .inl (by rw [Int32.lt_iff_toInt_lt]; omega)
    · refine .inl ?_
      rw [Int32.lt_iff_toInt_lt]
      rcases b6 l hl vl d with h | ⟨h, -⟩
      · rw [Int32.lt_iff_toInt_lt] at h; omega
      · rw [h]; omega
def SmN (f : Nat → Int32) (z k : Nat) (b : Bool) (x : Int32) : Prop := ∃ A, A < 16 ∧ x = nI A ∧ ∀ p, A.testBit p = true ↔ p < 4 ∧ ∃ s, s < k ∧ z.testBit s = b ∧ f (710 + 3 * s + 2) = nI p
theorem SmN.zero {f : Nat → Int32} {z : Nat} {b : Bool} : SmN f z 0 b 0 := ⟨0, by decide, nI_0.symm, fun p => by
  rw [Nat.zero_testBit]
  exact ⟨fun h => absurd h (by decide), fun ⟨_, s, hs, _⟩ => absurd hs (Nat.not_lt_zero s)⟩⟩
theorem SmN.no {f : Nat → Int32} {z k : Nat} {b : Bool} {x : Int32} (a : SmN f z k b x) (n : ∀ p, p < 4 → z.testBit k = b → ¬ f (710 + 3 * k + 2) = nI p) : SmN f z (k + 1) b (x ||| 0) := by
  obtain ⟨A, A1, rfl, A2⟩ := a
  refine ⟨A, A1, by rw [show (0 : Int32) = nI 0 from rfl, nI_or, Nat.or_zero], fun p => ?_⟩
  rw [A2 p]
  constructor
  · rintro ⟨p4, s, hs, x⟩
    exact ⟨p4, s, by omega, x⟩
  · rintro ⟨p4, s, hs, x1, x2⟩
    refine ⟨p4, s, ?_, x1, x2⟩
    have : s ≠ k := fun e => n p p4 (by rw [← e]; exact x1) (by rw [← e]; exact x2)
    omega
theorem SmN.yes {f : Nat → Int32} {z k p : Nat} {b : Bool} {x : Int32} (a : SmN f z k b x) (p4 : p < 4) (e1 : z.testBit k = b) (e2 : f (710 + 3 * k + 2) = nI p) : SmN f z (k + 1) b (x ||| nI (2 ^ p)) := by
  obtain ⟨A, A1, rfl, A2⟩ := a
  refine ⟨A ||| 2 ^ p, Nat.or_lt_two_pow (n := 4) A1 (Nat.pow_lt_pow_right (by decide) p4), nI_or _ _, fun q => ?_⟩
  rw [tb_or]
  by_cases c : p = q
  · subst c
    rw [decide_eq_true rfl, Bool.or_true]
    exact ⟨fun _ => ⟨p4, k, by omega, e1, e2⟩, fun _ => rfl⟩
  · rw [decide_eq_false c, Bool.or_false, A2 q]
    constructor
    · rintro ⟨q4, s, hs, x⟩
      exact ⟨q4, s, by omega, x⟩
    · rintro ⟨q4, s, hs, x1, x2⟩
      refine ⟨q4, s, ?_, x1, x2⟩
      have : s ≠ k := fun e => c (by
        subst e
        exact (nI_eq (by omega) (by omega)).mp (e2.symm.trans x2))
      omega
end
section
-- 79.u.a.plan
/-! THE PLAN: what a lesson is worth, the first best of a year -/
def thP (f : Nat → Int32) (H y h : Nat) : Prop := h < H ∧ ¬ f (817 + 2 * h + 1) ≤ nI y
/-- a lesson is its code and 1, nobody 0 -/
def mayP (f : Nat → Int32) (H can y : Nat) : Nat → Prop
  | 0 => True
  | c + 1 => ¬ c / 16 = c % 4 ∧ thP f H y (c / 16) ∧ thP f H y (c % 4) ∧ can.testBit (4 * (c / 16) + c / 4 % 4) = true ∧ can.testBit (4 * (c % 4) + c / 4 % 4) = false
def bzP : Nat → Nat → Prop
  | 0, _ => False
  | c + 1, h => c / 16 = h ∨ c % 4 = h
def avP (f : Nat → Int32) (H can y g k : Nat) : Prop := ∃ h, h < 3 ∧ thP f H y h ∧ ¬ bzP g h ∧ can.testBit (4 * h + k) = true
def ndP (f : Nat → Int32) (k : Nat) : Nat := (f (823 + k)).toNatClampNeg
noncomputable def rnP (f : Nat → Int32) (H can y g : Nat) : Nat → Nat
  | 0 => 0
  | k + 1 => rnP f H can y g k + @ite _ (avP f H can y g k) (Classical.propDecidable _) (ndP f k) 0
def nxP (can : Nat) : Nat → Nat
  | 0 => can
  | c + 1 => can ||| 2 ^ (4 * (c % 4) + c / 4 % 4)
/-- the best of those below K that may be, the first of like ones -/
def BK (w : Nat → Nat) (ok : Nat → Prop) (K b g : Nat) : Prop := g < K ∧ ok g ∧ w g = b ∧ (∀ j, j < K → ok j → w j ≤ b) ∧ ∀ j, j < g → ok j → w j < b
theorem BK.one {w : Nat → Nat} {ok : Nat → Prop} (o : ok 0) : BK w ok 1 (w 0) 0 := ⟨by omega, o, rfl, fun j hj _ => by rw [show j = 0 by omega]; exact Nat.le_refl _, fun j hj => absurd hj (Nat.not_lt_zero j)⟩
theorem BK.no {w : Nat → Nat} {ok : Nat → Prop} {K b g : Nat} (a : BK w ok K b g) (n : ok K → w K ≤ b) : BK w ok (K + 1) b g := by
  obtain ⟨a1, a2, a3, a4, a5⟩ := a
  refine ⟨by omega, a2, a3, fun j hj oj => ?_, a5⟩
  by_cases e : j = K
  · subst e; exact n oj
  · exact a4 j (by omega) oj
theorem BK.yes {w : Nat → Nat} {ok : Nat → Prop} {K b g : Nat} (a : BK w ok K b g) (o : ok K) (c : b < w K) : BK w ok (K + 1) (w K) K := by
  obtain ⟨a1, a2, a3, a4, a5⟩ := a
  refine ⟨by omega, o, rfl, fun j hj oj => ?_, fun j hj oj => ?_⟩
  · by_cases e : j = K
    · subst e; exact Nat.le_refl _
    · have := a4 j (by omega) oj; omega
  · have := a4 j hj oj; omega
theorem BK.un {w : Nat → Nat} {ok : Nat → Prop} {K b g b' g' : Nat} (x : BK w ok K b g) (y : BK w ok K b' g') : b = b' ∧ g = g' := by
  obtain ⟨a1, a2, a3, a4, a5⟩ := x
  obtain ⟨c1, c2, c3, c4, c5⟩ := y
  have h1 := a4 g' c1 c2
  have h2 := c4 g a1 a2
  have eb : b = b' := by omega
  refine ⟨eb, ?_⟩
  rcases Nat.lt_trichotomy g g' with q | q | q
  · have := c5 g q a2; omega
  · exact q
  · have := a5 g' q c2; omega
theorem BK.ex {w : Nat → Nat} {ok : Nat → Prop} (o : ok 0) : ∀ K, ∃ b g, BK w ok (K + 1) b g
  | 0 => ⟨_, _, BK.one o⟩
  | K + 1 => by
    obtain ⟨b, g, a⟩ := BK.ex o K
    by_cases c : ok (K + 1) ∧ b < w (K + 1)
    · exact ⟨_, _, a.yes c.1 c.2⟩
    · exact ⟨_, _, a.no (fun q => Nat.le_of_not_lt (fun r => c ⟨q, r⟩))⟩
/-- the most that can come of the last r of n years -/
noncomputable def vlP (f : Nat → Int32) (H n : Nat) : Nat → Nat → Nat
  | 0, _ => 0
  | r + 1, can => Classical.epsilon (fun b => ∃ g, BK (fun g => rnP f H can (n - (r + 1)) g 4 + vlP f H n r (nxP can g)) (mayP f H can (n - (r + 1))) 49 b g)
noncomputable def wP (f : Nat → Int32) (H n r can g : Nat) : Nat := rnP f H can (n - (r + 1)) g 4 + vlP f H n r (nxP can g)
theorem vlP_sp {f : Nat → Int32} {H n r can : Nat} : ∃ g, BK (wP f H n r can) (mayP f H can (n - (r + 1))) 49 (vlP f H n (r + 1) can) g :=
  Classical.epsilon_spec (p := fun b => ∃ g, BK (wP f H n r can) (mayP f H can (n - (r + 1))) 49 b g) (BK.ex (w := wP f H n r can) (ok := mayP f H can (n - (r + 1))) trivial 48)
theorem vlP_eq {f : Nat → Int32} {H n r can b g : Nat} (a : BK (wP f H n r can) (mayP f H can (n - (r + 1))) 49 b g) : vlP f H n (r + 1) can = b := by
  obtain ⟨g', x⟩ := vlP_sp (f := f) (H := H) (n := n) (r := r) (can := can)
  exact (x.un a).1
/-- skills that somebody has at first, and that runs need -/
def anP (f : Nat → Int32) (H k : Nat) : Prop := ∃ h, h < H ∧ (f (817 + 2 * h)).toNatClampNeg.testBit k = true
def GdP (f : Nat → Int32) (H can : Nat) : Prop := ∀ h k, h < 3 → k < 4 → can.testBit (4 * h + k) = true → anP f H k
def EqP (f : Nat → Int32) (can can' : Nat) : Prop := ∀ h k, h < 3 → k < 4 → 0 < ndP f k → can.testBit (4 * h + k) = can'.testBit (4 * h + k)
theorem EqP.sy {f : Nat → Int32} {a b : Nat} (e : EqP f a b) : EqP f b a := fun h k hh hk n => (e h k hh hk n).symm
theorem mayP_lt {f : Nat → Int32} {H can y c : Nat} (hH : H ≤ 3) (m : mayP f H can y (c + 1)) : c / 16 < 3 ∧ c % 4 < 3 := ⟨by have := m.2.1.1; omega, by have := m.2.2.1.1; omega⟩
theorem nx_tb {can c i : Nat} : (nxP can (c + 1)).testBit i = (can.testBit i || decide (4 * (c % 4) + c / 4 % 4 = i)) := by
  show (can ||| 2 ^ (4 * (c % 4) + c / 4 % 4)).testBit i = _
  rw [Nat.testBit_or, Nat.testBit_two_pow]
theorem GdP.nx {f : Nat → Int32} {H can y g : Nat} (hH : H ≤ 3) (d : GdP f H can) (m : mayP f H can y g) : GdP f H (nxP can g) := by
  match g, m with
  | 0, _ => exact d
  | c + 1, m =>
    obtain ⟨h1, h2⟩ := mayP_lt hH m
    intro h k hh hk e
    rw [nx_tb, Bool.or_eq_true] at e
    rcases e with e | e
    · exact d h k hh hk e
    · have e := of_decide_eq_true e
      have : k = c / 4 % 4 := by omega
      subst this
      exact d _ _ h1 (by omega) m.2.2.2.1
theorem EqP.nx {f : Nat → Int32} {a b : Nat} (e : EqP f a b) (g : Nat) : EqP f (nxP a g) (nxP b g) := by
  match g with
  | 0 => exact e
  | c + 1 =>
    intro h k hh hk n
    rw [nx_tb, nx_tb, e h k hh hk n]
/-- a lesson that no run needs changes nothing that counts -/
theorem EqP.un {f : Nat → Int32} {a c : Nat} (n : ndP f (c / 4 % 4) = 0) : EqP f (nxP a (c + 1)) a := by
  intro h k hh hk p
  rw [nx_tb, decide_eq_false, Bool.or_false]
  intro e
  have : k = c / 4 % 4 := by omega
  rw [this] at p; omega
theorem rnP_eq {f : Nat → Int32} {H a b y g : Nat} (e : EqP f a b) : ∀ k, k ≤ 4 → rnP f H a y g k = rnP f H b y g k
  | 0, _ => rfl
  | k + 1, hk => by
    show rnP f H a y g k + _ = rnP f H b y g k + _
    rw [rnP_eq e k (by omega)]
    congr 1
    by_cases z : ndP f k = 0
    · rw [z]; split <;> split <;> rfl
    · have : avP f H a y g k ↔ avP f H b y g k :=
        ⟨fun ⟨h, h1, h2, h3, h4⟩ => ⟨h, h1, h2, h3, by rw [← e h k h1 (by omega) (by omega)]; exact h4⟩, fun ⟨h, h1, h2, h3, h4⟩ => ⟨h, h1, h2, h3, by rw [e h k h1 (by omega) (by omega)]; exact h4⟩⟩
      by_cases c : avP f H a y g k
      · rw [if_pos c, if_pos (this.mp c)]
      · rw [if_neg c, if_neg (fun q => c (this.mpr q))]
theorem rnP_le {f : Nat → Int32} {H a y g : Nat} : ∀ k, rnP f H a y g k ≤ rnP f H a y 0 k
  | 0 => Nat.le_refl _
  | k + 1 => by
    have ih := rnP_le (f := f) (H := H) (a := a) (y := y) (g := g) k
    show rnP f H a y g k + _ ≤ rnP f H a y 0 k + _
    refine Nat.add_le_add ih ?_
    by_cases c : avP f H a y g k
    · obtain ⟨h, h1, h2, h3, h4⟩ := c
      rw [if_pos ⟨h, h1, h2, h3, h4⟩, if_pos ⟨h, h1, h2, fun q => q, h4⟩]; exact Nat.le_refl _
    · rw [if_neg c]; exact Nat.zero_le _
theorem vlP_q {f : Nat → Int32} {H n : Nat} (hH : H ≤ 3) : ∀ (r a b : Nat), GdP f H a → GdP f H b → EqP f a b → vlP f H n r a = vlP f H n r b
  | 0, _, _, _, _, _ => rfl
  | r + 1, a, b, ga, gb, e => by
    have low : ∀ x c, GdP f H x → mayP f H x (n - (r + 1)) (c + 1) → ndP f (c / 4 % 4) = 0 → wP f H n r x (c + 1) ≤ wP f H n r x 0 := fun x c gx m z => by
      unfold wP
      refine Nat.add_le_add (rnP_le 4) (Nat.le_of_eq ?_)
      exact vlP_q hH r _ _ (gx.nx hH m) gx (EqP.un z)
    have may : ∀ x x' c, EqP f x x' → ¬ ndP f (c / 4 % 4) = 0 → mayP f H x (n - (r + 1)) (c + 1) → mayP f H x' (n - (r + 1)) (c + 1) := fun x x' c ee z m => by
      obtain ⟨h1, h2⟩ := mayP_lt hH m
      obtain ⟨m1, m2, m3, m4, m5⟩ := m
      exact ⟨m1, m2, m3, by rw [← ee _ _ h1 (by omega) (by omega)]; exact m4, by rw [← ee _ _ h2 (by omega) (by omega)]; exact m5⟩
    have weq : ∀ g, mayP f H a (n - (r + 1)) g → mayP f H b (n - (r + 1)) g → wP f H n r a g = wP f H n r b g := fun g ma mb => by
      unfold wP
      rw [rnP_eq e 4 (Nat.le_refl 4), vlP_q hH r _ _ (ga.nx hH ma) (gb.nx hH mb) (e.nx g)]
    obtain ⟨g, g1, g2, g3, g4, g5⟩ := vlP_sp (f := f) (H := H) (n := n) (r := r) (can := a)
    have w0 := weq 0 trivial trivial
    have gu : mayP f H b (n - (r + 1)) g := by
      match g, g2, g3, g5 with
      | 0, _, _, _ => trivial
      | c + 1, g2, g3, g5 =>
        refine may a b c e (fun z => ?_) g2
        have h1 := low a c ga g2 z
        have h2 := g5 0 (by omega) trivial
        omega
    refine (vlP_eq ⟨g1, gu, by rw [← weq g g2 gu]; exact g3, fun j hj oj => ?_, fun j hj oj => ?_⟩).symm
    · match j, hj, oj with
      | 0, hj, _ => rw [← w0]; exact g4 0 hj trivial
      | c + 1, hj, oj =>
        by_cases z : ndP f (c / 4 % 4) = 0
        · have h1 := low b c gb oj z
          have h2 := g4 0 (by omega) trivial
          omega
        · have oa := may b a c e.sy z oj
          rw [← weq _ oa oj]; exact g4 _ hj oa
    · match j, hj, oj with
      | 0, hj, _ => rw [← w0]; exact g5 0 hj trivial
      | c + 1, hj, oj =>
        by_cases z : ndP f (c / 4 % 4) = 0
        · have h1 := low b c gb oj z
          have h2 := g5 0 (by omega) trivial
          omega
        · have oa := may b a c e.sy z oj
          rw [← weq _ oa oj]; exact g5 _ hj oa
end
section
-- 79.u.b.planr
/-! THE PLAN of the reference -/
theorem VR.hd {f : Nat → Int32} (v : VR f) {h : Nat} (hh : h < 3) : (∃ s : Nat, s < 16 ∧ f (817 + 2 * h) = nI s) ∧ ∃ l : Nat, l ≤ 9 ∧ f (817 + 2 * h + 1) = nI l := by
  have e : ∀ c, c < 2 → bd (vH c).1 (vH c).2 (f (817 + 2 * h + c)) := fun c hc => by
    have := v.1 (817 + 2 * h + c)
    unfold okV at this
    rw [vg_H hh hc] at this; exact this
  obtain ⟨s, s1, s2, es⟩ := bd_nI ((e 0 (by omega)).mo (c := 0) (d := 15) (by decide) (by decide))
  obtain ⟨l, l1, l2, el⟩ := bd_nI ((e 1 (by omega)).mo (c := 0) (d := 9) (by decide) (by decide))
  exact ⟨⟨s, by omega, es⟩, l, by omega, el⟩
theorem VR.nd {f : Nat → Int32} (v : VR f) {k : Nat} (hk : k < 4) : f (823 + k) = nI (ndP f k) ∧ ndP f k ≤ 9 := by
  have := v.1 (823 + k)
  unfold okV at this
  rw [vg_N hk] at this
  obtain ⟨s, s1, s2, es⟩ := bd_nI this
  unfold ndP
  rw [es, nI_clamp s2]; exact ⟨rfl, by omega⟩
theorem rnP_36 {f : Nat → Int32} (v : VR f) {H can y g : Nat} : ∀ k, k ≤ 4 → rnP f H can y g k ≤ 9 * k
  | 0, _ => Nat.le_refl _
  | k + 1, hk => by
    have ih := rnP_36 v (H := H) (can := can) (y := y) (g := g) k (by omega)
    have h := (v.nd (k := k) (by omega)).2
    show rnP f H can y g k + _ ≤ 9 * (k + 1)
    by_cases c : avP f H can y g k
    · rw [if_pos c]; omega
    · rw [if_neg c]; omega
theorem vlP_le {f : Nat → Int32} (v : VR f) {H n : Nat} : ∀ (r can : Nat), vlP f H n r can ≤ 36 * r
  | 0, _ => Nat.le_refl _
  | r + 1, can => by
    obtain ⟨g, -, -, e, -⟩ := vlP_sp (f := f) (H := H) (n := n) (r := r) (can := can)
    have h1 := vlP_le v (H := H) (n := n) r (nxP can g)
    have h2 := rnP_36 v (H := H) (can := can) (y := n - (r + 1)) (g := g) 4 (Nat.le_refl 4)
    have e : rnP f H can (n - (r + 1)) g 4 + vlP f H n r (nxP can g) = vlP f H n (r + 1) can := e
    omega
theorem wP_le {f : Nat → Int32} (v : VR f) {H n r can g : Nat} : wP f H n r can g ≤ 36 * (r + 1) := by
  have h1 := vlP_le v (H := H) (n := n) r (nxP can g)
  have h2 := rnP_36 v (H := H) (can := can) (y := n - (r + 1)) (g := g) 4 (Nat.le_refl 4)
  unfold wP; omega
theorem q_X11_isThere {h : HI} {g : HL} {f : Nat → Int32} {H y d : Nat} (ef : h 136 = f) (eH : f 7 = nI H) (hH : H ≤ 3) (hd : d < 16) : w_X11_isThere (nI d) (nI y) h g (fun r h' g' => h = h' ∧ g = g' ∧ ((r = 1 ∧ thP f H y d) ∨ (r = 0 ∧ ¬ thP f H y d))) := by
  have e7 : h 136 (7 : Int32).toNatClampNeg = nI H := by rw [show (7 : Int32).toNatClampNeg = 7 by decide, ef, eH]
  unfold w_X11_isThere
  refine c_isb (k := 7) (N := 3) (vp_in_iff.mpr (by decide)) (by rw [e7]; exact bd_of (by omega) (by omega) (by omega)) (by decide) (fun q b => ⟨fun c => absI c, fun _ => ?_⟩) (fun q => ⟨fun _ => ⟨rfl, rfl, .inr ⟨rfl, fun t => q ?_⟩⟩, fun c => absN c⟩)
  · rw [e7] at q
    unfold isRow at q
    rw [nI_toInt (by omega), nI_toInt (by omega)] at q
    rw [show ((817 : Int32) + ((2 : Int32) * nI d)) + (1 : Int32) = nI (817 + 2 * d + 1) from ix3 817 2 d 1, nI_clamp (n := 817 + 2 * d + 1) (by omega), ef]
    exact and_have (vp_in_nI (by omega) (by omega)) (fun _ => ⟨fun c => ⟨rfl, rfl, .inr ⟨rfl, fun t => t.2 c⟩⟩, fun c => ⟨rfl, rfl, .inl ⟨rfl, by omega, c⟩⟩⟩)
  · rw [e7]
    unfold isRow
    rw [nI_toInt (by omega), nI_toInt (by omega)]
    have := t.1
    omega
theorem can_tb {can h k : Nat} (hk : k < 4) : (can / 2 ^ (4 * h) % 16).testBit k = can.testBit (4 * h + k) := by
  rw [show (16 : Nat) = 2 ^ 4 by decide, Nat.testBit_mod_two_pow, Nat.testBit_div_two_pow, decide_eq_true hk, Bool.true_and, Nat.add_comm]
theorem q_X11_canOf {h : HI} {g : HL} {can d : Nat} (hc : can < 4096) (hd : d < 3) : w_X11_canOf (nI can) (nI d) h g (fun r h' g' => h = h' ∧ g = g' ∧ r = nI (can / 2 ^ (4 * d) % 16)) := by
  unfold w_X11_canOf
  refine ⟨rfl, rfl, ?_⟩
  rw [show (4 : Int32) = nI 4 from rfl, pk_mul, t_shr (by omega) (by omega), show (15 : Int32) = nI 15 from rfl, nI_and, show (15 : Nat) = 2 ^ 4 - 1 by decide, Nat.and_two_pow_sub_one_eq_mod]
theorem q_X11_mayTeach {h : HI} {g : HL} {f : Nat → Int32} {H y can c : Nat} (ef : h 136 = f) (eH : f 7 = nI H) (hH : H ≤ 3) (hcan : can < 4096) (hc : c < 48) : w_X11_mayTeach (nI can) (nI y) (nI c) h g (fun r h' g' => h = h' ∧ g = g' ∧ ((r = 1 ∧ mayP f H can y (c + 1)) ∨ (r = 0 ∧ ¬ mayP f H can y (c + 1)))) := by
  have no : ¬ mayP f H can y (c + 1) → ∀ g1 : HL, h = h ∧ g1 = g1 ∧ (((0 : Int32) = 1 ∧ mayP f H can y (c + 1)) ∨ ((0 : Int32) = 0 ∧ ¬ mayP f H can y (c + 1))) := fun n g1 => ⟨rfl, rfl, .inr ⟨rfl, n⟩⟩
  unfold w_X11_mayTeach
  rw [show (4 : Int32) = nI 4 from rfl, show (16 : Int32) = nI 16 from rfl, pk_rem (by omega) (by omega) (by omega), pk_div (by omega) (by omega) (by omega), pk_div (by omega) (by omega) (by omega), pk_rem (by omega) (by omega) (by omega)]
  rintro _ rfl
  rintro _ rfl
  rintro _ rfl
  rw [nI_eq (by omega) (by omega)]
  refine ⟨fun e => no (fun m => m.1 e) g, fun n1 => ?_⟩
  refine c_z (q_X11_isThere ef eH hH (by omega)) ?_
  rintro r1 _ _ ⟨rfl, rfl, t1⟩
  refine ⟨fun e => no (fun m => ?_) g, fun e => ?_⟩
  · rcases t1 with ⟨q, -⟩ | ⟨-, q⟩
    · rw [q] at e; exact absurd e (by decide)
    · exact q m.2.1
  have t1 : thP f H y (c / 16) := t1.elim (fun q => q.2) (fun q => absurd q.1 e)
  refine c_z (q_X11_isThere ef eH hH (by omega)) ?_
  rintro r2 _ _ ⟨rfl, rfl, t2⟩
  refine ⟨fun e => no (fun m => ?_) g, fun e => ?_⟩
  · rcases t2 with ⟨q, -⟩ | ⟨-, q⟩
    · rw [q] at e; exact absurd e (by decide)
    · exact q m.2.2.1
  have t2 : thP f H y (c % 4) := t2.elim (fun q => q.2) (fun q => absurd q.1 e)
  have h1 := t1.1
  have h2 := t2.1
  refine c_i (q_X11_canOf hcan (by omega)) ?_
  rintro r3 _ _ ⟨rfl, rfl, rfl⟩
  rw [t_1 (by omega) (by omega), can_tb (by omega)]
  refine ⟨fun n => no (fun m => n m.2.2.2.1) g, fun b1 => ?_⟩
  refine c_i (q_X11_canOf hcan (by omega)) ?_
  rintro r4 _ _ ⟨rfl, rfl, rfl⟩
  rw [t_0 (by omega) (by omega), can_tb (by omega)]
  exact ⟨fun n => no (fun m => n m.2.2.2.2) g, fun b2 => ⟨rfl, rfl, .inl ⟨rfl, n1, t1, t2, b1, b2⟩⟩⟩
theorem nx_e {can c : Nat} (hc : okC c) : nI can ||| ((1 : Int32) <<< (((4 : Int32) * (nI c - nI c / (4 : Int32) * (4 : Int32)) + (nI c / (4 : Int32) - nI c / (4 : Int32) / (4 : Int32) * (4 : Int32))) &&& 31)) = nI (nxP can (c + 1)) := by
  have h1 := hc.1
  have h2 := hc.2
  rw [show (4 : Int32) = nI 4 from rfl, pk_rem (by omega) (by omega) (by omega), pk_div (by omega) (by omega) (by omega), pk_rem (by omega) (by omega) (by omega), pk_mul, nI_add, shl12 _ (by omega), nI_or]; rfl
theorem nx_lt {can c : Nat} (hcan : can < 4096) (hc : okC c) : nxP can (c + 1) < 4096 := by
  have h1 := hc.1
  have h2 := hc.2
  have : 2 ^ (4 * (c % 4) + c / 4 % 4) < 2 ^ 12 := Nat.pow_lt_pow_right (by omega) (by omega)
  exact Nat.or_lt_two_pow (n := 12) hcan this
theorem okC_of {f : Nat → Int32} {H can y c : Nat} (hH : H ≤ 3) (hc : c < 48) (m : mayP f H can y (c + 1)) : okC c := ⟨hc, by have := (mayP_lt hH m).2; omega⟩
theorem nxP_lt {f : Nat → Int32} {H can y g : Nat} (hH : H ≤ 3) (hg : g < 49) (hcan : can < 4096) (m : mayP f H can y g) : nxP can g < 4096 := by
  match g, m, hg with
  | 0, _, _ => exact hcan
  | c + 1, m, hg => exact nx_lt hcan (okC_of hH (by omega) m)
theorem q_X11_worth {h : HI} {g : HL} {f : Nat → Int32} {H n r can a : Nat} (ef : h 136 = f) (v : VR f) (eH : f 7 = nI H) (hH : H ≤ 3) (hn : r + 1 ≤ n) (hn8 : n ≤ 8) (hcan : can < 4096) (ha : a = 0 ∨ ∃ c, okC c ∧ a = c + 1) (tb : ∀ z, z < 4096 → h 148 (4096 * (n - r) + z) = nI (vlP f H n r z)) : w_X11_worth (nI can) (nI (n - (r + 1))) (nI a - 1) h g (fun x h' g' => h = h' ∧ g = g' ∧ x = nI (wP f H n r can a)) := by
  have ey : n - (r + 1) + 1 = n - r := by omega
  have j150 : ∀ (z : Nat), z < 4096 → z = nxP can a → j_X11_worth_150 (fun x h' g' => h = h' ∧ g = g' ∧ x = nI (wP f H n r can a)) (nI (n - (r + 1))) (nI (rnP f H can (n - (r + 1)) a 4)) (nI z) h g := by
    intro z hz ez
    unfold j_X11_worth_150
    rw [nI_1, ey, show (4096 : Int32) * nI (n - r) = nI (4096 * (n - r)) from pk_mul 4096 (n - r), nI_add, nI_clamp (n := 4096 * (n - r) + z) (by omega), tb z hz, nI_add, ez]
    exact and_have (vp_in_nI (by omega) (by omega)) (fun _ => ⟨rfl, rfl, rfl⟩)
  unfold w_X11_worth
  refine lpE_intro (fun ⟨a_q, b_q, c_q, d_q, e_q, h_q, g_q⟩ => ∃ i A : Nat, i ≤ 3 ∧ nI can = a_q ∧ nI (n - (r + 1)) = b_q ∧ nI a - 1 = c_q ∧ nI A = d_q ∧ nI i = e_q ∧ h = h_q ∧ g = g_q ∧ A < 16 ∧ ∀ k, k < 4 → (A.testBit k = true ↔ ∃ d, d < i ∧ thP f H (n - (r + 1)) d ∧ ¬ bzP a d ∧ can.testBit (4 * d + k) = true)) (fun ⟨_, _, _, _, e_q, _, _⟩ => dif (nI 3) e_q) ?_ _ ⟨0, 0, by omega, rfl, rfl, rfl, nI_0, nI_0, rfl, rfl, by decide, fun k hk => ?_⟩
  · rintro ⟨z1, z2, z3, z4, z5, h1, g1⟩ K ⟨i, A, hi, rfl, rfl, rfl, rfl, rfl, rfl, rfl, A16, eA⟩ hK
    unfold F_X11_worth_6; dsimp only; unfold b_X11_worth_6
    refine ⟨fun c3 => ?_, fun c3 => ?_⟩
    · rw [show (3 : Int32) = nI 3 from rfl, nI_leI (by omega) (by omega)] at c3
      have : i = 3 := by omega
      subst this
      have eav : ∀ k, k < 4 → (A.testBit k = true ↔ avP f H can (n - (r + 1)) a k) := eA
      refine lpE_intro (fun ⟨a_q, b_q, c_q, d_q, e_q, f_q, h_q, g_q⟩ => ∃ k : Nat, k ≤ 4 ∧ nI can = a_q ∧ nI (n - (r + 1)) = b_q ∧ nI a - 1 = c_q ∧ nI A = d_q ∧ nI (rnP f H can (n - (r + 1)) a k) = e_q ∧ nI k = f_q ∧ h = h_q ∧ g = g_q) (fun ⟨_, _, _, _, _, f_q, _, _⟩ => dif (nI 4) f_q) ?_ _ ⟨0, by omega, rfl, rfl, rfl, rfl, nI_0, nI_0, rfl, rfl⟩
      rintro ⟨u1, u2, u3, u4, u5, u6, h2, g2⟩ K2 ⟨k, hk, rfl, rfl, rfl, rfl, rfl, rfl, rfl, rfl⟩ hK2
      unfold F_X11_worth_83; dsimp only; unfold b_X11_worth_83
      refine ⟨fun c4 => ?_, fun c4 => ?_⟩
      · rw [show (4 : Int32) = nI 4 from rfl, nI_leI (by omega) (by omega)] at c4
        have : k = 4 := by omega
        subst this
        refine ⟨fun n1 => ?_, fun e1 => ?_⟩
        · rcases ha with e | ⟨c, oc, rfl⟩
          · exact absurd (by rw [e]; decide) n1
          · rw [nI_pred, nx_e oc]
            exact j150 _ (nx_lt hcan oc) rfl
        · rcases ha with e | ⟨c, oc, rfl⟩
          · subst e; exact j150 _ hcan rfl
          · rw [nI_pred] at e1
            have := oc.1
            exact absurd e1 (nI_nm (by omega))
      · have hd := dif_lt (a := nI 4) c4
        rw [show (4 : Int32) = nI 4 from rfl, nI_leI (by omega) (by omega)] at c4
        rw [t_1 (by omega) (by omega), eav k (by omega)]
        have j117 : ∀ s : Int32, nI (rnP f H can (n - (r + 1)) a k) + s = nI (rnP f H can (n - (r + 1)) a (k + 1)) → j_X11_worth_117 (fun x h' g' => h = h' ∧ g = g' ∧ x = nI (wP f H n r can a)) (fun x1 x2 x3 x4 x5 x6 h g => K2 (x1, x2, x3, x4, x5, x6, h, g)) (nI can) (nI (n - (r + 1))) (nI a - 1) (nI A) (nI k) (nI (rnP f H can (n - (r + 1)) a k)) s h g := by
          intro s es
          unfold j_X11_worth_117
          rintro _ rfl
          rintro _ rfl
          exact hK2 _ ⟨k + 1, by omega, rfl, rfl, rfl, rfl, es.symm, (nI_1 k).symm, rfl, rfl⟩ hd
        have es : rnP f H can (n - (r + 1)) a (k + 1) = rnP f H can (n - (r + 1)) a k + @ite _ (avP f H can (n - (r + 1)) a k) (Classical.propDecidable _) (ndP f k) 0 := rfl
        refine ⟨fun no => j117 _ ?_, fun yes => ?_⟩
        · rw [es, if_neg no, show (0 : Int32) = nI 0 from rfl, nI_add]
        · rw [show (823 : Int32) + nI k = nI (823 + k) from nI_add 823 k, nI_clamp (n := 823 + k) (by omega), ef, (v.nd (k := k) (by omega)).1]
          refine and_have (vp_in_nI (by omega) (by omega)) (fun _ => j117 _ ?_)
          rw [es, if_pos yes, nI_add]
    · have hd := dif_lt (a := nI 3) c3
      rw [show (3 : Int32) = nI 3 from rfl, nI_leI (by omega) (by omega)] at c3
      have j68 : ∀ (B : Nat), B < 16 → (∀ k, k < 4 → (B.testBit k = true ↔ thP f H (n - (r + 1)) i ∧ ¬ bzP a i ∧ can.testBit (4 * i + k) = true)) → j_X11_worth_68 (fun x h' g' => h = h' ∧ g = g' ∧ x = nI (wP f H n r can a)) (fun x1 x2 x3 x4 x5 h g => K (x1, x2, x3, x4, x5, h, g)) (nI can) (nI (n - (r + 1))) (nI a - 1) (nI i) (nI A) (nI B) h g := by
        intro B B16 eB
        unfold j_X11_worth_68
        rw [nI_or]
        rintro _ rfl
        rintro _ rfl
        refine hK _ ⟨i + 1, A ||| B, by omega, rfl, rfl, rfl, rfl, (nI_1 i).symm, rfl, rfl, Nat.or_lt_two_pow (n := 4) A16 B16, fun k hk => ?_⟩ hd
        rw [Nat.testBit_or, Bool.or_eq_true, eA k hk, eB k hk]
        constructor
        · rintro (⟨d, d1, d2⟩ | e)
          · exact ⟨d, by omega, d2⟩
          · exact ⟨i, by omega, e⟩
        · rintro ⟨d, d1, d2⟩
          by_cases q : d = i
          · subst q; exact .inr d2
          · exact .inl ⟨d, by omega, d2⟩
      have j67 : ¬ (thP f H (n - (r + 1)) i ∧ ¬ bzP a i) → j_X11_worth_67 (fun x h' g' => h = h' ∧ g = g' ∧ x = nI (wP f H n r can a)) (fun x1 x2 x3 x4 x5 h g => K (x1, x2, x3, x4, x5, h, g)) (nI can) (nI (n - (r + 1))) (nI a - 1) (nI i) (nI A) h g := by
        intro no
        unfold j_X11_worth_67
        refine j68 0 (by decide) (fun k hk => ⟨fun e => ?_, fun e => absurd ⟨e.1, e.2.1⟩ no⟩)
        rw [Nat.zero_testBit] at e; exact absurd e (by decide)
      have j39 : ∀ (b : Int32), (b = 0 ∧ ¬ bzP a i ∨ b = 1 ∧ bzP a i) → j_X11_worth_39 (fun x h' g' => h = h' ∧ g = g' ∧ x = nI (wP f H n r can a)) (fun x1 x2 x3 x4 x5 h g => K (x1, x2, x3, x4, x5, h, g)) (nI can) (nI (n - (r + 1))) (nI a - 1) (nI A) (nI i) b h g := by
        intro b hb
        unfold j_X11_worth_39
        refine c_z (q_X11_isThere ef eH hH (by omega)) ?_
        rintro r1 _ _ ⟨rfl, rfl, t⟩
        refine ⟨fun e => j67 (fun q => ?_), fun e => ⟨fun nb => j67 (fun q => ?_), fun eb => ?_⟩⟩
        · rcases t with ⟨t, -⟩ | ⟨-, t⟩
          · rw [t] at e; exact absurd e (by decide)
          · exact t q.1
        · rcases hb with ⟨hb, -⟩ | ⟨-, hb⟩
          · exact nb hb
          · exact q.2 hb
        · have t : thP f H (n - (r + 1)) i := t.elim (fun q => q.2) (fun q => absurd q.1 e)
          have nb : ¬ bzP a i := by
            rcases hb with ⟨-, hb⟩ | ⟨hb, -⟩
            · exact hb
            · rw [hb] at eb; exact absurd eb (by decide)
          refine c_i (q_X11_canOf hcan (by omega)) ?_
          rintro r3 _ _ ⟨rfl, rfl, rfl⟩
          refine j68 _ (Nat.mod_lt _ (by decide)) (fun k hk => ?_)
          rw [can_tb hk]
          exact ⟨fun e => ⟨t, nb, e⟩, fun e => e.2.2⟩
      unfold j_X11_worth_38 j_X11_worth_34
      rcases ha with e | ⟨c, oc, rfl⟩
      · subst e
        exact ⟨fun _ => j39 0 (.inl ⟨rfl, fun q => q⟩), fun q => absurd (by decide) q⟩
      · have h1 := oc.1
        rw [nI_pred, show (4 : Int32) = nI 4 from rfl, show (16 : Int32) = nI 16 from rfl, pk_rem (by omega) (by omega) (by omega), pk_div (by omega) (by omega) (by omega), nI_eq (by omega) (by omega), nI_eq (by omega) (by omega)]
        rw [nI_pred] at j39
        exact ⟨fun q => absurd q (nI_nm (by omega)), fun _ => ⟨fun q => j39 1 (.inr ⟨rfl, .inl q⟩), fun q => ⟨fun q2 => j39 0 (.inl ⟨rfl, fun b => b.elim q q2⟩), fun q2 => j39 1 (.inr ⟨rfl, .inr q2⟩)⟩⟩⟩
  · rw [Nat.zero_testBit]
    exact ⟨fun e => absurd e (by decide), fun ⟨d, hd, _⟩ => absurd hd (Nat.not_lt_zero d)⟩
theorem q_X11_choice {h : HI} {g : HL} {f : Nat → Int32} {H n r can : Nat} (ef : h 136 = f) (v : VR f) (eH : f 7 = nI H) (hH : H ≤ 3) (hn : r + 1 ≤ n) (hn8 : n ≤ 8) (hcan : can < 4096) (tb : ∀ z, z < 4096 → h 148 (4096 * (n - r) + z) = nI (vlP f H n r z)) : w_X11_choice (nI can) (nI (n - (r + 1))) h g (fun x h' _ => KJ SPm h h' ∧ h' 148 = upd (h 148) (4096 * (n - (r + 1)) + can) (nI (vlP f H n (r + 1) can)) ∧ ∃ b a, BK (wP f H n r can) (mayP f H can (n - (r + 1))) 49 b a ∧ x = nI a - 1) := by
  unfold w_X11_choice
  refine c_i (q_X11_worth (a := 0) ef v eH hH hn hn8 hcan (.inl rfl) tb) ?_
  rintro _ _ g1 ⟨rfl, rfl, rfl⟩
  refine lpE_intro (fun ⟨a_q, b_q, c_q, d_q, e_q, h_q, g_q⟩ => ∃ k b a : Nat, k ≤ 48 ∧ nI can = a_q ∧ nI (n - (r + 1)) = b_q ∧ nI b = c_q ∧ nI a - 1 = d_q ∧ nI k = e_q ∧ h = h_q ∧ g = g_q ∧ BK (wP f H n r can) (mayP f H can (n - (r + 1))) (k + 1) b a) (fun ⟨_, _, _, _, e_q, _, _⟩ => dif (nI 48) e_q) ?_ _ ⟨0, _, 0, by omega, rfl, rfl, rfl, by decide, nI_0, rfl, rfl, BK.one trivial⟩
  rintro ⟨z1, z2, z3, z4, z5, h1, g2⟩ K ⟨k, b, a, hk, rfl, rfl, rfl, rfl, rfl, rfl, rfl, B⟩ hK
  unfold F_X11_choice_14; dsimp only; unfold b_X11_choice_14
  refine ⟨fun c => ?_, fun c => ?_⟩
  · rw [show (48 : Int32) = nI 48 from rfl, nI_leI (by omega) (by omega)] at c
    have : k = 48 := by omega
    subst this
    rw [show (4096 : Int32) * nI (n - (r + 1)) = nI (4096 * (n - (r + 1))) from pk_mul 4096 _, nI_add, nI_clamp (n := 4096 * (n - (r + 1)) + can) (by omega)]
    refine and_have (vp_in_nI (by omega) (by omega)) (fun _ => ?_)
    intro h2 e2
    refine ⟨KJ.rf.hu e2 (by unfold SPm; rfl), ?_, b, a, B, rfl⟩
    rw [e2, hu_eq, vlP_eq B]
  · have hd := dif_lt (a := nI 48) c
    rw [show (48 : Int32) = nI 48 from rfl, nI_leI (by omega) (by omega)] at c
    have bb : b ≤ 36 * (r + 1) := by have := B.2.2.1; rw [← this]; exact wP_le v
    have ww := wP_le v (H := H) (n := n) (r := r) (can := can) (g := k + 1)
    have j57 : ∀ b' a' : Nat, BK (wP f H n r can) (mayP f H can (n - (r + 1))) (k + 1 + 1) b' a' → j_X11_choice_57 (fun x h' _ => KJ SPm h h' ∧ h' 148 = upd (h 148) (4096 * (n - (r + 1)) + can) (nI (vlP f H n (r + 1) can)) ∧ ∃ b a, BK (wP f H n r can) (mayP f H can (n - (r + 1))) 49 b a ∧ x = nI a - 1) (fun x1 x2 x3 x4 x5 h g => K (x1, x2, x3, x4, x5, h, g)) (nI can) (nI (n - (r + 1))) (nI b') (nI a' - 1) (nI k) h g := by
      intro b' a' B'
      unfold j_X11_choice_57
      rintro _ rfl
      exact hK _ ⟨k + 1, b', a', by omega, rfl, rfl, rfl, rfl, (nI_1 k).symm, rfl, rfl, B'⟩ hd
    refine c_z (q_X11_mayTeach ef eH hH hcan (by omega)) ?_
    rintro r2 _ _ ⟨rfl, rfl, t⟩
    refine ⟨fun e => j57 _ _ (B.no (fun m => ?_)), fun e => ?_⟩
    · rcases t with ⟨t, -⟩ | ⟨-, t⟩
      · rw [t] at e; exact absurd e (by decide)
      · exact absurd m t
    have m : mayP f H can (n - (r + 1)) (k + 1) := t.elim (fun q => q.2) (fun q => absurd q.1 e)
    have oc := okC_of hH (by omega) m
    have hw := q_X11_worth (h := h) (g := g) (a := k + 1) ef v eH hH hn hn8 hcan (.inr ⟨k, oc, rfl⟩) tb
    rw [nI_pred] at hw
    refine c_i hw ?_
    rintro _ _ _ ⟨rfl, rfl, rfl⟩
    rw [nI_leI (by omega) (by omega)]
    refine ⟨fun le => j57 _ _ (B.no (fun _ => le)), fun gt => ?_⟩
    refine c_i hw ?_
    rintro _ _ _ ⟨rfl, rfl, rfl⟩
    have := j57 _ (k + 1) (B.yes m (by omega))
    rw [nI_pred] at this
    exact this
end
section
-- 79.u.c.planr2
/-! THE PLAN: the reference's answer -/
def stN (f : Nat → Int32) : Nat → Nat
  | 0 => 0
  | i + 1 => stN f i ||| ((f (817 + 2 * i)).toNatClampNeg * 2 ^ (4 * i))
theorem sh16 : ∀ s : Nat, s < 16 → ∀ i : Nat, i < 3 → nI s <<< (((4 : Int32) * nI i) &&& 31) = nI (s * 2 ^ (4 * i)) := by decide +kernel
theorem st_lt {f : Nat → Int32} (v : VR f) : ∀ i, i ≤ 3 → stN f i < 4096
  | 0, _ => by show 0 < 4096; omega
  | i + 1, hi => by
    obtain ⟨⟨s, s16, es⟩, -⟩ := v.hd (h := i) (by omega)
    have : s * 2 ^ (4 * i) ≤ 15 * 2 ^ 8 := Nat.mul_le_mul (by omega) (Nat.pow_le_pow_right (by omega) (by omega))
    show stN f i ||| ((f (817 + 2 * i)).toNatClampNeg * 2 ^ (4 * i)) < 4096
    rw [es, nI_clamp (by omega)]
    exact Nat.or_lt_two_pow (n := 12) (st_lt v i (by omega)) (by omega)
/-- the state of year y, when the first best lessons were given -/
def SQ (f : Nat → Int32) (H n : Nat) : Nat → Nat → Prop
  | 0, can => can = stN f H
  | y + 1, can => ∃ z b g, SQ f H n y z ∧ BK (wP f H n (n - 1 - y) z) (mayP f H z y) 49 b g ∧ can = nxP z g
theorem SQ.un {f : Nat → Int32} {H n : Nat} : ∀ {y a b : Nat}, SQ f H n y a → SQ f H n y b → a = b
  | 0, a, b, x, y => by
    have x : a = stN f H := x
    have y : b = stN f H := y
    rw [x, y]
  | y + 1, _, _, ⟨z, b, g, s, k, e⟩, ⟨z', b', g', s', k', e'⟩ => by
    have := SQ.un s s'
    subst this
    rw [e, e', (k.un k').2]
def APl (f : Nat → Int32) (H : Nat) (x1 x2 r : Int32) : Prop := (¬ (bd 1 8 x1 ∧ bd (-1) (x1.toInt - 1) x2) ∧ r = -10) ∨ ∃ n, 1 ≤ n ∧ n ≤ 8 ∧ x1 = nI n ∧ ((x2 = -1 ∧ r = nI (vlP f H n n (stN f H))) ∨ ∃ i, i < n ∧ x2 = nI i ∧ ∃ can b g, SQ f H n i can ∧ BK (wP f H n (n - 1 - i) can) (mayP f H can i) 49 b g ∧ r = if g = 0 then -5 else nI (g - 1))
theorem APl.un {f : Nat → Int32} {H : Nat} {x1 x2 r s : Int32} (a : APl f H x1 x2 r) (b : APl f H x1 x2 s) : r = s := by
  have ok : ∀ n i, 1 ≤ n → n ≤ 8 → x1 = nI n → (x2 = -1 ∨ i < n ∧ x2 = nI i) → bd 1 8 x1 ∧ bd (-1) (x1.toInt - 1) x2 := fun n i n1 n8 e x => by
    rw [e]
    unfold bd
    rw [nI_toInt (by omega)]
    rcases x with q | ⟨q, q'⟩
    · rw [q, im1]; omega
    · rw [q', nI_toInt (by omega)]; omega
  rcases a with ⟨a1, a2⟩ | ⟨n, n1, n8, en, a⟩
  · rcases b with ⟨b1, b2⟩ | ⟨n, n1, n8, en, b⟩
    · rw [a2, b2]
    · rcases b with ⟨b, -⟩ | ⟨i, i1, i2, -⟩
      · exact absurd (ok n 0 n1 n8 en (.inl b)) a1
      · exact absurd (ok n i n1 n8 en (.inr ⟨i1, i2⟩)) a1
  · rcases b with ⟨b1, b2⟩ | ⟨n', n1', n8', en', b⟩
    · rcases a with ⟨a, -⟩ | ⟨i, i1, i2, -⟩
      · exact absurd (ok n 0 n1 n8 en (.inl a)) b1
      · exact absurd (ok n i n1 n8 en (.inr ⟨i1, i2⟩)) b1
    · have : n = n' := (nI_eq (by omega) (by omega)).mp (en.symm.trans en')
      subst this
      rcases a with ⟨a1, a2⟩ | ⟨i, i1, i2, can, bb, g, s1, k1, r1⟩
      · rcases b with ⟨b1, b2⟩ | ⟨j, j1, j2, -⟩
        · rw [a2, b2]
        · exact absurd (j2.symm.trans a1) (nI_nm (by omega))
      · rcases b with ⟨b1, b2⟩ | ⟨j, j1, j2, can', bb', g', s2, k2, r2⟩
        · exact absurd (i2.symm.trans b1) (nI_nm (by omega))
        · have : i = j := (nI_eq (by omega) (by omega)).mp (i2.symm.trans j2)
          subst this
          have := SQ.un s1 s2
          subst this
          rw [r1, r2, (k1.un k2).2]
def TPl (h : HI) (f : Nat → Int32) (H n y : Nat) : Prop := ∀ z, z < 4096 → h 148 (4096 * y + z) = nI (vlP f H n (n - y) z)
theorem q_X11_plan {h : HI} {g : HL} {f : Nat → Int32} {H : Nat} (ef : h 136 = f) (v : VR f) (eH : f 7 = nI H) (hH : H ≤ 3) {x1 x2 : Int32} : w_X11_plan x1 x2 h g (fun r h' _ => KJ SPm h h' ∧ APl f H x1 x2 r) := by
  have eF : ∀ {a : HI}, KJ SPm h a → a 136 = f := fun J => (funext fun k => J 136 k (by unfold SPm; omega)).trans ef
  unfold w_X11_plan
  refine c_in3 (fun q => ⟨fun c => absI c, fun _ => ?_⟩) (fun q => ⟨fun _ => ⟨KJ.rf, .inl ⟨fun o => q (o.1.mo (by decide) (by decide)), rfl⟩⟩, fun c => absN c⟩)
  obtain ⟨n, n2, n1, n3, rfl⟩ := bd_nIp (q.mo (c := 1) (d := 8) (by decide) (by decide)) (by omega)
  have en1 : ((nI n - (1 : Int32)).toInt64).toInt = (n : Int) - 1 := by
    rw [Int32.toInt_toInt64, show nI n - (1 : Int32) = nI (n - 1) from pk_sub (a := n) (b := 1) (by omega), nI_toInt (by omega)]; omega
  refine c_in3 (fun q2 => ⟨fun _ => ?_, fun c => absI c⟩) (fun q2 => ⟨fun c => absurd rfl c, fun _ => ⟨KJ.rf, .inl ⟨fun o => q2 (o.2.mo (by decide) (by rw [en1, nI_toInt n3]; exact Int.le_refl _)), rfl⟩⟩⟩)
  have b2 : bd (-1) ((n : Int) - 1) x2 := q2.mo (by decide) (by rw [en1]; exact Int.le_refl _)
  refine lpE_intro (fun ⟨a_q, b_q, c_q, h_q, _⟩ => ∃ k : Nat, k ≤ 4096 ∧ nI n = a_q ∧ x2 = b_q ∧ nI k = c_q ∧ KJ SPm h h_q ∧ ∀ z, z < k → h_q 148 (4096 * n + z) = 0) (fun ⟨_, _, c_q, _, _⟩ => dif (nI 4096) c_q) ?_ _ ⟨0, by omega, rfl, rfl, nI_0, KJ.rf, fun z hz => absurd hz (Nat.not_lt_zero z)⟩
  rintro ⟨z1, z2, z3, h1, g1⟩ K ⟨k, hk, rfl, rfl, rfl, J1, t1⟩ hK
  unfold F_X11_plan_32; dsimp only; unfold b_X11_plan_32
  refine ⟨fun c => ?_, fun c => ?_⟩
  · rw [show (4096 : Int32) = nI 4096 from rfl, nI_leI (by omega) (by omega)] at c
    have : k = 4096 := by omega
    subst this
    rintro _ rfl
    refine lpE_intro (fun ⟨b_q, c_q, h_q, _⟩ => ∃ m : Nat, m ≤ n ∧ x2 = b_q ∧ nI m - 1 = c_q ∧ KJ SPm h h_q ∧ ∀ y, m ≤ y → y ≤ n → TPl h_q f H n y) (fun ⟨_, c_q, _, _⟩ => prd c_q) ?_ _ ⟨n, Nat.le_refl _, rfl, rfl, J1, fun y y1 y2 z hz => by
      rw [show y = n by omega, t1 z hz, Nat.sub_self]; exact nI_0.symm⟩
    rintro ⟨u2, u3, h2, g2⟩ K2 ⟨m, hm, rfl, rfl, J2, t2⟩ hK2
    unfold F_X11_plan_62; dsimp only; unfold b_X11_plan_62
    refine ⟨fun c0 => ?_, fun c0 => ?_⟩
    · have m0 : m = 0 := by
        rcases Nat.eq_zero_or_pos m with e | e
        · exact e
        · obtain ⟨j, rfl⟩ : ∃ j, m = j + 1 := ⟨m - 1, by omega⟩
          rw [nI_pred] at c0
          exact absurd c0 (nI_pos (by omega))
      subst m0
      refine lpE_intro (fun ⟨b_q, c_q, d_q, h_q, _⟩ => ∃ i : Nat, i ≤ H ∧ x2 = b_q ∧ nI (stN f i) = c_q ∧ nI i = d_q ∧ h2 = h_q) (fun ⟨_, _, d_q, _, _⟩ => dif (nI H) d_q) ?_ _ ⟨0, by omega, rfl, nI_0, nI_0, rfl⟩
      rintro ⟨v2, v3, v4, h3, g3⟩ K3 ⟨i, hi, rfl, rfl, rfl, rfl⟩ hK3
      have hcan := st_lt v i (by omega)
      unfold F_X11_plan_102; dsimp only; unfold b_X11_plan_102
      rw [eF J2, show (7 : Int32).toNatClampNeg = 7 by decide, eH]
      refine and_have (vp_in_iff.mpr (by decide)) (fun _ => ⟨fun cH => ⟨fun cx => ?_, fun cx => ?_⟩, fun ci => ?_⟩)
      · rw [nI_leI (by omega) (by omega)] at cH
        have : i = H := by omega
        subst this
        have hx : x2.toInt ≠ -1 := fun e => cx (Int32.toInt_inj.mp (by rw [e]; decide))
        obtain ⟨a, a1, a2, rfl⟩ := bd_nI (b := (n : Int) - 1) (x := x2) (by unfold bd at b2 ⊢; omega)
        have han : a < n := by omega
        refine lpE_intro (fun ⟨b_q, c_q, d_q, e_q, h_q, _⟩ => ∃ y can : Nat, y ≤ a + 1 ∧ can < 4096 ∧ nI a = b_q ∧ nI can = c_q ∧ nI y = e_q ∧ KJ SPm h h_q ∧ SQ f i n y can ∧ (∀ y, y ≤ n → TPl h_q f i n y) ∧ (y = a + 1 → ∃ z b g, SQ f i n a z ∧ BK (wP f i n (n - 1 - a) z) (mayP f i z a) 49 b g ∧ d_q = nI g - 1)) (fun ⟨_, _, _, e_q, _, _⟩ => dil (nI a) e_q) ?_ _ ⟨0, stN f i, by omega, hcan, rfl, rfl, nI_0, J2, rfl, fun y hy => t2 y (Nat.zero_le y) hy, fun e => by omega⟩
        rintro ⟨w2, w3, w4, w5, h4, g4⟩ K4 ⟨y, can, hy, hcan', rfl, rfl, rfl, J4, sq, t4, ed⟩ hK4
        unfold F_X11_plan_159; dsimp only; unfold b_X11_plan_159
        refine ⟨fun cy => ?_, fun cy => ?_⟩
        · rw [nI_ltI (by omega) (by omega)] at cy
          obtain ⟨z, b, gg, s1, k1, rfl⟩ := ed (by omega)
          have g49 := k1.1
          refine ⟨fun n1 => ⟨J4, .inr ⟨n, by omega, by omega, rfl, .inr ⟨a, han, rfl, z, b, gg, s1, k1, ?_⟩⟩⟩, fun e1 => ⟨J4, .inr ⟨n, by omega, by omega, rfl, .inr ⟨a, han, rfl, z, b, gg, s1, k1, ?_⟩⟩⟩⟩
          · have : gg ≠ 0 := fun q => n1 (by rw [q]; decide)
            rw [if_neg this]
            obtain ⟨c, rfl⟩ : ∃ c, gg = c + 1 := ⟨gg - 1, by omega⟩
            rw [nI_pred, Nat.add_sub_cancel]
          · rcases Nat.eq_zero_or_pos gg with q | q
            · rw [if_pos q]
            · obtain ⟨c, rfl⟩ : ∃ c, gg = c + 1 := ⟨gg - 1, by omega⟩
              rw [nI_pred] at e1; exact absurd e1 (nI_nm (by omega))
        have hdy := dil_lt cy (by rw [nI_toInt (by omega)]; omega)
        rw [nI_ltI (by omega) (by omega)] at cy
        have ey : n - (n - 1 - y + 1) = y := by omega
        have er : n - (n - 1 - y) = y + 1 := by omega
        have er1 : n - (y + 1) = n - 1 - y := by omega
        have ch := q_X11_choice (h := h4) (g := g4) (r := n - 1 - y) (n := n) (can := can) (eF J4) v eH hH (by omega) (by omega) hcan' (fun z hz => by rw [er, t4 (y + 1) (by omega) z hz, er1])
        rw [ey] at ch
        refine c_i ch ?_
        rintro _ h5 g5 ⟨J5, e5, b, gg, k1, rfl⟩
        have J5' := J4.tr J5
        have g49 := k1.1
        have t5 : ∀ y, y ≤ n → TPl h5 f i n y := fun u hu z hz => by
          rw [e5]
          by_cases q : 4096 * u + z = 4096 * y + can
          · have q1 : u = y := by omega
            have q2 : z = can := by omega
            subst q1; subst q2
            rw [pk_us, show n - 1 - u + 1 = n - u by omega]
          · rw [pk_un q]; exact t4 u hu z hz
        have nl := nxP_lt hH g49 hcan' k1.2.1
        have j200 : ∀ s : Int32, nI can ||| s = nI (nxP can gg) → j_X11_plan_200 (fun r h' _ => KJ SPm h h' ∧ APl f i (nI n) (nI a) r) (fun x2 x3 x4 x5 h g => K4 (x2, x3, x4, x5, h, g)) (nI a) (nI gg - 1) (nI y) (nI can) s h5 g5 := by
          intro s es
          unfold j_X11_plan_200
          rw [es]
          rintro _ rfl
          rintro _ rfl
          refine hK4 _ ⟨y + 1, nxP can gg, by omega, nl, rfl, rfl, (nI_1 y).symm, J5', ⟨can, b, gg, sq, k1, rfl⟩, t5, fun e => ?_⟩ hdy
          have : y = a := by omega
          subst this
          exact ⟨can, b, gg, sq, k1, rfl⟩
        refine ⟨fun cr => ?_, fun er => ?_⟩
        · obtain ⟨c, rfl⟩ : ∃ c, gg = c + 1 := ⟨gg - 1, by
            have : gg ≠ 0 := fun q => cr (by rw [q]; decide)
            omega⟩
          have oc := okC_of hH (by omega) k1.2.1
          rw [nI_pred] at j200 ⊢
          exact j200 _ (nx_e oc)
        · rcases Nat.eq_zero_or_pos gg with q | q
          · refine j200 0 ?_
            rw [q, show (0 : Int32) = nI 0 from rfl, nI_or, Nat.or_zero]; rfl
          · obtain ⟨c, rfl⟩ : ∃ c, gg = c + 1 := ⟨gg - 1, by omega⟩
            rw [nI_pred] at er; exact absurd er (nI_nm (by omega))
      · rw [nI_leI (by omega) (by omega)] at cH
        have : i = H := by omega
        subst this
        rw [nI_clamp (n := stN f i) (by omega)]
        refine and_have (vp_in_nI (by omega) (by omega)) (fun _ => ⟨J2, .inr ⟨n, by omega, by omega, rfl, .inl ⟨cx, ?_⟩⟩⟩)
        have := t2 0 (Nat.le_refl 0) (Nat.zero_le n) (stN f i) hcan
        rw [Nat.mul_zero, Nat.zero_add, Nat.sub_zero] at this
        exact this
      · have hd := dif_lt ci
        rw [nI_leI (by omega) (by omega)] at ci
        obtain ⟨⟨s, s16, es⟩, -⟩ := v.hd (h := i) (by omega)
        rw [show (817 : Int32) + ((2 : Int32) * nI i) = nI (817 + 2 * i) from ix2 817 2 i, nI_clamp (n := 817 + 2 * i) (by omega), es, sh16 s s16 i (by omega), nI_or]
        refine and_have (vp_in_nI (by omega) (by omega)) (fun _ => ?_)
        rintro _ rfl
        rintro _ rfl
        refine hK3 _ ⟨i + 1, by omega, rfl, ?_, (nI_1 i).symm, rfl⟩ hd
        show nI (stN f i ||| ((f (817 + 2 * i)).toNatClampNeg * 2 ^ (4 * i))) = _
        rw [es, nI_clamp (by omega)]
    · obtain ⟨y, rfl⟩ : ∃ y, m = y + 1 := ⟨m - 1, by
        have : m ≠ 0 := fun q => c0 (by rw [q]; decide)
        omega⟩
      rw [nI_pred] at hK2 ⊢
      have ey : n - (n - 1 - y + 1) = y := by omega
      have er : n - (n - 1 - y) = y + 1 := by omega
      have er1 : n - (y + 1) = n - 1 - y := by omega
      refine lpE_intro (fun ⟨b_q, c_q, d_q, h_q, _⟩ => ∃ z : Nat, z ≤ 4096 ∧ x2 = b_q ∧ nI y = c_q ∧ nI z = d_q ∧ KJ SPm h h_q ∧ (∀ u, y + 1 ≤ u → u ≤ n → TPl h_q f H n u) ∧ ∀ u, u < z → h_q 148 (4096 * y + u) = nI (vlP f H n (n - y) u)) (fun ⟨_, _, d_q, _, _⟩ => dif (nI 4096) d_q) ?_ _ ⟨0, by omega, rfl, rfl, nI_0, J2, t2, fun u hu => absurd hu (Nat.not_lt_zero u)⟩
      rintro ⟨w2, w3, w4, h4, g4⟩ K4 ⟨z, hz, rfl, rfl, rfl, J4, t4, s4⟩ hK4
      unfold F_X11_plan_69; dsimp only; unfold b_X11_plan_69
      refine ⟨fun cz => ?_, fun cz => ?_⟩
      · rw [show (4096 : Int32) = nI 4096 from rfl, nI_leI (by omega) (by omega)] at cz
        have : z = 4096 := by omega
        subst this
        rintro _ rfl
        have em : nI y + (-1) = nI y - 1 := by
          cases y with
          | zero => decide
          | succ i => rw [nI_pred, pk_m1]
        refine hK2 _ ⟨y, by omega, rfl, em.symm, J4, fun u u1 u2 => ?_⟩ ?_
        · by_cases q : u = y
          · subst q; exact s4
          · exact t4 u (by omega) u2
        · show prd (nI y + (-1)) < prd (nI y)
          exact prd_lt (nI_pos (by omega))
      · have hdz := dif_lt (a := nI 4096) cz
        rw [show (4096 : Int32) = nI 4096 from rfl, nI_leI (by omega) (by omega)] at cz
        have ch := q_X11_choice (h := h4) (g := g4) (r := n - 1 - y) (n := n) (can := z) (eF J4) v eH hH (by omega) (by omega) (by omega) (fun u hu => by rw [er, t4 (y + 1) (by omega) (by omega) u hu, er1])
        rw [ey] at ch
        refine c_i ch ?_
        rintro r h5 g5 ⟨J5, e5, -⟩
        rintro _ rfl
        refine hK4 _ ⟨z + 1, by omega, rfl, rfl, (nI_1 z).symm, J4.tr J5, fun u u1 u2 x hx => ?_, fun u hu => ?_⟩ hdz
        · rw [e5, pk_un (by omega)]; exact t4 u u1 u2 x hx
        · rw [e5]
          by_cases q : u = z
          · subst q; rw [pk_us, show n - 1 - y + 1 = n - y by omega]
          · rw [pk_un (by omega)]; exact s4 u (by omega)
  · have hd := dif_lt (a := nI 4096) c
    rw [show (4096 : Int32) = nI 4096 from rfl, nI_leI (by omega) (by omega)] at c
    rw [show (4096 : Int32) * nI n = nI (4096 * n) from pk_mul 4096 n, nI_add, nI_clamp (n := 4096 * n + k) (by omega)]
    refine and_have (vp_in_nI (by omega) (by omega)) (fun _ => ?_)
    intro h5 e5
    rintro _ rfl
    refine hK _ ⟨k + 1, by omega, rfl, rfl, (nI_1 k).symm, J1.hu e5 (by unfold SPm; rfl), fun z hz => ?_⟩ hd
    rw [e5, hu_eq]
    by_cases q : z = k
    · subst q; rw [pk_us]
    · rw [pk_un (by omega)]; exact t1 z (by omega)
end
section
-- 79.u.d.bits
/-! THE PLAN of the class: what may be learned -/
theorem st_tb {f : Nat → Int32} (v : VR f) {h k : Nat} (hk : k < 4) : ∀ i, i ≤ 3 → ((stN f i).testBit (4 * h + k) = true ↔ h < i ∧ (f (817 + 2 * h)).toNatClampNeg.testBit k = true)
  | 0, _ => by
    show (0 : Nat).testBit _ = true ↔ _
    rw [Nat.zero_testBit]
    exact ⟨fun e => absurd e (by decide), fun e => absurd e.1 (Nat.not_lt_zero h)⟩
  | i + 1, hi => by
    obtain ⟨⟨s, s16, es⟩, -⟩ := v.hd (h := i) (by omega)
    show (stN f i ||| ((f (817 + 2 * i)).toNatClampNeg * 2 ^ (4 * i))).testBit (4 * h + k) = true ↔ _
    rw [Nat.testBit_or, Bool.or_eq_true, st_tb v hk i (by omega), es, nI_clamp (by omega), ← Nat.shiftLeft_eq, Nat.testBit_shiftLeft]
    by_cases q : h = i
    · subst q
      rw [decide_eq_true (show 4 * h ≤ 4 * h + k by omega), Bool.true_and, Nat.add_sub_cancel_left, es, nI_clamp (by omega)]
      exact ⟨fun e => e.elim (fun x => ⟨by omega, x.2⟩) (fun x => ⟨by omega, x⟩), fun e => .inr e.2⟩
    · constructor
      · rintro (e | e)
        · exact ⟨by omega, e.2⟩
        · rw [Bool.and_eq_true] at e
          have h1 := of_decide_eq_true e.1
          have h2 : 4 * h + k - 4 * i ≥ 4 := by omega
          rw [Nat.testBit_lt_two_pow (Nat.lt_of_lt_of_le s16 (Nat.pow_le_pow_right (show 2 > 0 by decide) h2 : 2 ^ 4 ≤ _))] at e
          exact absurd e.2 (by decide)
      · rintro ⟨e1, e2⟩
        exact .inl ⟨by omega, e2⟩
def uP (f : Nat → Int32) (H i : Nat) : Prop := i < 12 ∧ i / 4 < H ∧ (stN f H).testBit i = false ∧ anP f H (i % 4) ∧ 0 < ndP f (i % 4)
noncomputable def eP (f : Nat → Int32) (H i : Nat) : Nat := @ite _ (uP f H i) (Classical.propDecidable _) 1 0
noncomputable def ixP (f : Nat → Int32) (H : Nat) : Nat → Nat
  | 0 => 0
  | i + 1 => ixP f H i + eP f H i
theorem eP_y {f : Nat → Int32} {H i : Nat} (u : uP f H i) : eP f H i = 1 := if_pos u
theorem eP_n {f : Nat → Int32} {H i : Nat} (u : ¬ uP f H i) : eP f H i = 0 := if_neg u
theorem eP_1 {f : Nat → Int32} {H i : Nat} : eP f H i ≤ 1 := by
  by_cases u : uP f H i
  · rw [eP_y u]; omega
  · rw [eP_n u]; omega
theorem ixP_mono {f : Nat → Int32} {H : Nat} : ∀ {i j : Nat}, i ≤ j → ixP f H i ≤ ixP f H j
  | i, 0, h => by rw [show i = 0 by omega]; exact Nat.le_refl _
  | i, j + 1, h => by
    by_cases e : i = j + 1
    · rw [e]; exact Nat.le_refl _
    · have := ixP_mono (f := f) (H := H) (show i ≤ j by omega)
      show ixP f H i ≤ ixP f H j + eP f H j
      omega
theorem ixP_lt {f : Nat → Int32} {H i j : Nat} (u : uP f H i) (h : i < j) : ixP f H i < ixP f H j := by
  have h1 : ixP f H (i + 1) ≤ ixP f H j := ixP_mono h
  have h2 : ixP f H (i + 1) = ixP f H i + eP f H i := rfl
  rw [eP_y u] at h2; omega
theorem ixP_inj {f : Nat → Int32} {H i j : Nat} (u : uP f H i) (w : uP f H j) (e : ixP f H i = ixP f H j) : i = j := by
  rcases Nat.lt_trichotomy i j with q | q | q
  · have := ixP_lt u q; omega
  · exact q
  · have := ixP_lt w q; omega
theorem eP_3 {f : Nat → Int32} {H k : Nat} (v : VR f) (hH : H ≤ 3) (hk : k < 4) : eP f H k + eP f H (4 + k) + eP f H (8 + k) ≤ 2 := by
  have e0 := eP_1 (f := f) (H := H) (i := k)
  have e1 := eP_1 (f := f) (H := H) (i := 4 + k)
  have e2 := eP_1 (f := f) (H := H) (i := 8 + k)
  by_cases a : anP f H k
  · obtain ⟨h, h1, h2⟩ := a
    have h3 : (stN f H).testBit (4 * h + k) = true := (st_tb v hk H hH).mpr ⟨h1, h2⟩
    have no : eP f H (4 * h + k) = 0 := eP_n (fun u => by rw [u.2.2.1] at h3; exact absurd h3 (by decide))
    have hh : h = 0 ∨ h = 1 ∨ h = 2 := by omega
    rcases hh with rfl | rfl | rfl
    · rw [show 4 * 0 + k = k by omega] at no; omega
    · rw [show 4 * 1 + k = 4 + k by omega] at no; omega
    · rw [show 4 * 2 + k = 8 + k by omega] at no; omega
  · have no : eP f H k = 0 := eP_n (fun u => a (by have := u.2.2.2.1; rw [show k % 4 = k by omega] at this; exact this))
    omega
theorem ixP_8 {f : Nat → Int32} {H : Nat} (v : VR f) (hH : H ≤ 3) : ixP f H 12 ≤ 8 := by
  have a0 := eP_3 v hH (k := 0) (by omega)
  have a1 := eP_3 v hH (k := 1) (by omega)
  have a2 := eP_3 v hH (k := 2) (by omega)
  have a3 := eP_3 v hH (k := 3) (by omega)
  show 0 + eP f H 0 + eP f H 1 + eP f H 2 + eP f H 3 + eP f H 4 + eP f H 5 + eP f H 6 + eP f H 7 + eP f H 8 + eP f H 9 + eP f H 10 + eP f H 11 ≤ 8
  simp only [Nat.zero_add, Nat.add_zero, Nat.reduceAdd] at a0 a1 a2 a3 ⊢
  omega
/-- who can what, where the lessons of z were learned, of the first i places -/
noncomputable def skN (f : Nat → Int32) (H z : Nat) : Nat → Nat
  | 0 => stN f H
  | i + 1 => skN f H z i ||| @ite _ (uP f H i ∧ z.testBit (ixP f H i) = true) (Classical.propDecidable _) (2 ^ i) 0
theorem sk_tb {f : Nat → Int32} {H z j : Nat} : ∀ i, (skN f H z i).testBit j = true ↔ (stN f H).testBit j = true ∨ (j < i ∧ uP f H j ∧ z.testBit (ixP f H j) = true)
  | 0 => ⟨.inl, fun e => e.elim id (fun x => absurd x.1 (Nat.not_lt_zero j))⟩
  | i + 1 => by
    show (skN f H z i ||| _).testBit j = true ↔ _
    rw [Nat.testBit_or, Bool.or_eq_true, sk_tb i]
    by_cases c : uP f H i ∧ z.testBit (ixP f H i) = true
    · rw [if_pos c, Nat.testBit_two_pow, decide_eq_true_eq]
      constructor
      · rintro ((e | ⟨e, e'⟩) | e)
        · exact .inl e
        · exact .inr ⟨by omega, e'⟩
        · subst e; exact .inr ⟨by omega, c⟩
      · rintro (e | ⟨e, e'⟩)
        · exact .inl (.inl e)
        · by_cases q : i = j
          · exact .inr q
          · exact .inl (.inr ⟨by omega, e'⟩)
    · rw [if_neg c, Nat.zero_testBit]
      constructor
      · rintro ((e | ⟨e, e'⟩) | e)
        · exact .inl e
        · exact .inr ⟨by omega, e'⟩
        · exact absurd e (by decide)
      · rintro (e | ⟨e, e'⟩)
        · exact .inl (.inl e)
        · exact .inl (.inr ⟨by
            have : j ≠ i := fun q => c (by rw [← q]; exact e')
            omega, e'⟩)
theorem tb_ext {a b : Nat} (h : ∀ i, a.testBit i = true ↔ b.testBit i = true) : a = b := Nat.eq_of_testBit_eq (fun i => by
  have := h i
  cases ea : a.testBit i <;> cases eb : b.testBit i <;> first | rfl | (rw [ea, eb] at this; exact absurd this (by decide)))
theorem sk_0 {f : Nat → Int32} {H i : Nat} : skN f H 0 i = stN f H := tb_ext (fun j => by
  rw [sk_tb i, Nat.zero_testBit]
  exact ⟨fun e => e.elim id (fun x => absurd x.2.2 (by decide)), .inl⟩)
theorem sk_lt {f : Nat → Int32} {H z : Nat} (v : VR f) (hH : H ≤ 3) : ∀ i, i ≤ 12 → skN f H z i < 4096
  | 0, _ => st_lt v H hH
  | i + 1, hi => by
    refine Nat.or_lt_two_pow (n := 12) (sk_lt v hH i (by omega)) ?_
    by_cases c : uP f H i ∧ z.testBit (ixP f H i) = true
    · rw [if_pos c]; exact Nat.pow_lt_pow_right (by decide) (by omega)
    · rw [if_neg c]; decide
/-- a lesson more -/
theorem sk_or {f : Nat → Int32} {H z i : Nat} (u : uP f H i) : skN f H (z ||| 2 ^ ixP f H i) 12 = skN f H z 12 ||| 2 ^ i := tb_ext (fun j => by
  rw [sk_tb 12, show (skN f H z 12 ||| 2 ^ i).testBit j = ((skN f H z 12).testBit j || decide (i = j)) from tb_or, Bool.or_eq_true, decide_eq_true_eq, sk_tb 12]
  constructor
  · rintro (e | ⟨e1, e2, e3⟩)
    · exact .inl (.inl e)
    · rw [tb_or, Bool.or_eq_true, decide_eq_true_eq] at e3
      rcases e3 with e3 | e3
      · exact .inl (.inr ⟨e1, e2, e3⟩)
      · exact .inr (ixP_inj u e2 e3)
  · rintro ((e | ⟨e1, e2, e3⟩) | e)
    · exact .inl e
    · exact .inr ⟨e1, e2, by rw [tb_or, e3]; rfl⟩
    · subst e
      exact .inr ⟨u.1, u, by rw [tb_or, decide_eq_true rfl, Bool.or_true]⟩)
theorem sk_cg {f : Nat → Int32} {H z y i : Nat} (h : ∀ j, j < i → uP f H j → z.testBit (ixP f H j) = y.testBit (ixP f H j)) : skN f H z i = skN f H y i := tb_ext (fun j => by
  rw [sk_tb i, sk_tb i]
  constructor
  · rintro (e | ⟨e1, e2, e3⟩)
    · exact .inl e
    · exact .inr ⟨e1, e2, by rw [← h j e1 e2]; exact e3⟩
  · rintro (e | ⟨e1, e2, e3⟩)
    · exact .inl e
    · exact .inr ⟨e1, e2, by rw [h j e1 e2]; exact e3⟩)
theorem sk_no {f : Nat → Int32} {H z i : Nat} (n : ¬ (uP f H i ∧ z.testBit (ixP f H i) = true)) : skN f H z (i + 1) = skN f H z i := by
  show skN f H z i ||| _ = _
  rw [if_neg n, Nat.or_zero]
theorem sk_yes {f : Nat → Int32} {H z i : Nat} (u : uP f H i) (hz : z < 2 ^ ixP f H i) : skN f H (z ||| 2 ^ ixP f H i) (i + 1) = skN f H z i ||| 2 ^ i := by
  show skN f H (z ||| 2 ^ ixP f H i) i ||| _ = _
  rw [if_pos ⟨u, by rw [tb_or, decide_eq_true rfl, Bool.or_true]⟩, sk_cg (y := z) (fun j hj uj => by
    have := ixP_lt uj hj
    rw [tb_or, decide_eq_false (by omega), Bool.or_false])]
theorem sk_gd {f : Nat → Int32} {H z : Nat} (v : VR f) (hH : H ≤ 3) : GdP f H (skN f H z 12) := by
  intro h k hh hk e
  rcases (sk_tb 12).mp e with e | ⟨-, e, -⟩
  · obtain ⟨e1, e2⟩ := (st_tb v hk H hH).mp e
    exact ⟨h, e1, e2⟩
  · have := e.2.2.2.1
    rw [show (4 * h + k) % 4 = k by omega] at this; exact this
end
section
-- 79.u.e.choose
/-! THE PLAN of the class: chooseBits, chooseLessons -/
def HRt (h : HI) (f : Nat → Int32) (H : Nat) : Prop := TT h 20 H 2 3 ∧ (∀ a k, a < H → k < 2 → h 21 (a * 2 + k) = f (817 + 2 * a + k)) ∧ TT h 22 4 1 4 ∧ ∀ k, k < 4 → h 23 k = f (823 + k)
theorem HRt.jj {R : Nat → Prop} {h h' : HI} {f : Nat → Int32} {H : Nat} (T : HRt h f H) (J : JJ R h h') (n : ∀ q, q ≤ 80 → ¬ R q) : HRt h' f H := by
  refine ⟨T.1.cg (J 20 (n 20 (by omega))), fun a k ha hk => ?_, T.2.2.1.cg (J 22 (n 22 (by omega))), fun k hk => ?_⟩
  · rw [J 21 (n 21 (by omega))]; exact T.2.1 a k ha hk
  · rw [J 23 (n 23 (by omega))]; exact T.2.2.2 k hk
theorem CX.hr {h : HI} {f : Nat → Int32} (c : CX h f) : ∃ H, HRt h f H ∧ H ≤ 3 ∧ f 7 = nI H := by
  obtain ⟨H, T, k⟩ : ∃ m, TT h 20 m 2 3 ∧ f 7 = nI m := c.1 9 (by omega)
  obtain ⟨q, U, l⟩ := c.1 10 (by omega)
  have l : q = 4 := l
  subst l
  have U : TT h 22 4 1 4 := U
  refine ⟨H, ⟨T, fun a k ha hk => ?_, U, fun k hk => ?_⟩, T.2.2.2.1, k⟩
  · have := (CE.es (by decide) (by decide)).mp (c.ci (j := 9) (by omega) T) (a * 2 + k) (by show a * 2 + k < H * 2; omega)
    rw [show 817 + 2 * a + k = 817 + (a * 2 + k) by omega]; exact this
  · exact (CE.es (by decide) (by decide)).mp (c.ci (j := 10) (by omega) U) k (by show k < 4 * 1; omega)
theorem c_ha {h : HI} {g : HL} {f : Nat → Int32} {H a k : Nat} (T : HRt h f H) (ha : a < H) (hk : k < 2) {body : Int32 → HI → HL → Prop} (b : body (f (817 + 2 * a + k)) h g) : ∃ P : Int32 → HI → HL → Prop, w_X8_at 20 (nI a) (nI k) h g P ∧ ∀ (r : Int32) (h : HI) (g : HL), P r h g → body r h g := by
  refine c_i (p_atT T.1) ?_
  rintro _ _ _ ⟨rfl, rfl, rfl⟩
  rw [tat_nI T.1 ha hk, T.2.1 a k ha hk]; exact b
theorem c_rn {h : HI} {g : HL} {f : Nat → Int32} {H k : Nat} (T : HRt h f H) (hk : k < 4) {body : Int32 → HI → HL → Prop} (b : body (f (823 + k)) h g) : ∃ P : Int32 → HI → HL → Prop, w_X8_at 22 (nI k) (0 : Int32) h g P ∧ ∀ (r : Int32) (h : HI) (g : HL), P r h g → body r h g := by
  refine c_i (p_atT T.2.2.1) ?_
  rintro _ _ _ ⟨rfl, rfl, rfl⟩
  rw [show tat h 22 (nI k) (0 : Int32) = h 23 (k * 1 + 0) from tat_nI T.2.2.1 (b := 0) hk (by omega), Nat.mul_one, Nat.add_zero, T.2.2.2 k hk]; exact b
theorem c_kn {h : HI} {g : HL} {x a b : Nat} (hx : x < 2 ^ 31) (hab : 4 * a + b < 32) {body : Int32 → HI → HL → Prop} (h1 : x.testBit (4 * a + b) = true → body 1 h g) (h0 : ¬ x.testBit (4 * a + b) = true → body 0 h g) : ∃ P : Int32 → HI → HL → Prop, w_X5_knows (nI x) (nI a) (nI b) h g P ∧ ∀ (r : Int32) (h : HI) (g : HL), zb r → P r h g → body r h g := by
  refine ⟨fun r h' g' => h' = h ∧ g' = g ∧ ((r = 1 ∧ x.testBit (4 * a + b) = true) ∨ (r = 0 ∧ ¬ x.testBit (4 * a + b) = true)), ?_, ?_⟩
  · unfold w_X5_knows
    rw [show (4 : Int32) = nI 4 from rfl, pk_mul, nI_add, t_1 hx hab]
    exact ⟨fun n => ⟨rfl, rfl, .inr ⟨rfl, n⟩⟩, fun e => ⟨rfl, rfl, .inl ⟨rfl, e⟩⟩⟩
  · rintro r _ _ - ⟨rfl, rfl, ⟨rfl, e⟩ | ⟨rfl, e⟩⟩
    · exact h1 e
    · exact h0 e
def anN (f : Nat → Int32) : Nat → Nat
  | 0 => 0
  | i + 1 => anN f i ||| (f (817 + 2 * i)).toNatClampNeg
theorem an_lt {f : Nat → Int32} (v : VR f) : ∀ i, i ≤ 3 → anN f i < 16
  | 0, _ => (show 0 < 16 by decide)
  | i + 1, hi => by
    obtain ⟨⟨s, s16, es⟩, -⟩ := v.hd (h := i) (by omega)
    show anN f i ||| (f (817 + 2 * i)).toNatClampNeg < 16
    rw [es, nI_clamp (by omega)]
    exact Nat.or_lt_two_pow (n := 4) (an_lt v i (by omega)) s16
theorem an_tb {f : Nat → Int32} {k : Nat} : ∀ i, (anN f i).testBit k = true ↔ ∃ h, h < i ∧ (f (817 + 2 * h)).toNatClampNeg.testBit k = true
  | 0 => by
    show (0 : Nat).testBit k = true ↔ _
    rw [Nat.zero_testBit]
    exact ⟨fun e => absurd e (by decide), fun ⟨h, hh, _⟩ => absurd hh (Nat.not_lt_zero h)⟩
  | i + 1 => by
    show (anN f i ||| (f (817 + 2 * i)).toNatClampNeg).testBit k = true ↔ _
    rw [Nat.testBit_or, Bool.or_eq_true, an_tb i]
    constructor
    · rintro (⟨h, h1, h2⟩ | e)
      · exact ⟨h, by omega, h2⟩
      · exact ⟨i, by omega, e⟩
    · rintro ⟨h, h1, h2⟩
      by_cases q : h = i
      · subst q; exact .inr h2
      · exact .inl ⟨h, by omega, h2⟩
noncomputable def bNP (f : Nat → Int32) (H j : Nat) : Nat := @ite _ (uP f H j) (Classical.propDecidable _) (2 ^ ixP f H j) 0
def PB1 (h : HI) (f : Nat → Int32) (H i : Nat) : Prop := h 118 9 = nI (ixP f H i) ∧ (∀ j, j < i → h 121 j = nI (bNP f H j)) ∧ ∀ z, z < 2 ^ ixP f H i → h 122 z = nI (skN f H z i)
theorem q_X5_chooseBits {h : HI} {g : HL} {f : Nat → Int32} {H : Nat} (v : VR f) (T : HRt h f H) (hH : H ≤ 3) : w_X5_chooseBits h g (fun h' _ => JJ SPln h h' ∧ h' 118 10 = h 118 10 ∧ PB1 h' f H 12) := by
  have nn : ∀ q, q ≤ 80 → ¬ SPln q := fun q hq => by unfold SPln; omega
  have i8 : ∀ i, i ≤ 12 → ixP f H i ≤ 8 := fun i hi => Nat.le_trans (ixP_mono hi) (ixP_8 v hH)
  have p8 : ∀ i, i ≤ 12 → 2 ^ ixP f H i ≤ 256 := fun i hi => (Nat.pow_le_pow_right (by decide) (i8 i hi) : 2 ^ ixP f H i ≤ 2 ^ 8)
  unfold w_X5_chooseBits
  refine lpE_intro (fun ⟨a_q, b_q, c_q, h_q, _⟩ => ∃ i : Nat, i ≤ H ∧ nI (stN f i) = a_q ∧ nI (anN f i) = b_q ∧ nI i = c_q ∧ h = h_q) (fun ⟨_, _, c_q, _, _⟩ => dif (nI H) c_q) ?_ _ ⟨0, by omega, nI_0, nI_0, nI_0, rfl⟩
  rintro ⟨y1, y2, y3, h1, g1⟩ K ⟨i, hi, rfl, rfl, rfl, rfl⟩ hK
  unfold F_X5_chooseBits_6; dsimp only; unfold b_X5_chooseBits_6
  refine c_i p_rows ?_
  rintro _ _ _ ⟨rfl, rfl, rfl⟩
  rw [T.1.2.2.1]
  refine ⟨fun c => ?_, fun c => ?_⟩
  · rw [nI_leI (by omega) (by omega)] at c
    have : i = H := by omega
    subst this
    clear hK K
    intro h2 e2
    rw [cl0]
    refine and_have (vp_in_iff.mpr (by decide)) (fun _ => ?_)
    intro h3 e3
    have J3 : JJ SPln h h3 := (JJ.rf.hu e2 (by unfold SPln; omega)).hu e3 (by unfold SPln; omega)
    have hs := st_lt v i hH
    refine lpE_intro (fun ⟨a_q, b_q, c_q, h_q, _⟩ => ∃ j : Nat, j ≤ 12 ∧ nI (stN f i) = a_q ∧ nI (anN f i) = b_q ∧ nI j = c_q ∧ JJ SPln h h_q ∧ h_q 118 10 = h 118 10 ∧ PB1 h_q f i j) (fun ⟨_, _, c_q, _, _⟩ => dif (nI 12) c_q) ?_ _ ⟨0, by omega, rfl, rfl, nI_0, J3, by rw [e3, hu_ne (by decide), e2, hu_eq, pk_un (by decide)], by rw [e3, hu_ne (by decide), e2, hu_eq, pk_us]; exact nI_0.symm, fun j hj => absurd hj (Nat.not_lt_zero j), fun z hz => by
      have : z = 0 := by
        have hz : z < 2 ^ 0 := hz
        omega
      subst this
      rw [e3, hu_eq, pk_us]; rfl⟩
    rintro ⟨z1, z2, z3, h4, g4⟩ K ⟨j, hj, rfl, rfl, rfl, J4, t4, P4⟩ hK
    unfold F_X5_chooseBits_74; dsimp only; unfold b_X5_chooseBits_74
    refine ⟨fun c => ?_, fun c => ?_⟩
    · rw [show (12 : Int32) = nI 12 from rfl, nI_leI (by omega) (by omega)] at c
      have : j = 12 := by omega
      subst this
      exact ⟨J4, t4, P4⟩
    have hd := dif_lt (a := nI 12) c
    rw [show (12 : Int32) = nI 12 from rfl, nI_leI (by omega) (by omega)] at c
    rw [show (4 : Int32) = nI 4 from rfl, pk_rem (by omega) (by omega) (by omega), pk_div (by omega) (by omega) (by omega)]
    rintro _ rfl
    rintro _ rfl
    have T4 := T.jj J4 nn
    refine c_i p_rows ?_
    rintro _ _ _ ⟨rfl, rfl, rfl⟩
    rw [T4.1.2.2.1]
    -- the three ways out
    have nxt259 : ∀ (h5 : HI) (g5 : HL), JJ SPln h h5 → h5 118 10 = h 118 10 → PB1 h5 f i (j + 1) → j_X5_chooseBits_259 (fun h' _ => JJ SPln h h' ∧ h' 118 10 = h 118 10 ∧ PB1 h' f i 12) (fun x1 x2 x3 h g => K (x1, x2, x3, h, g)) (nI (stN f i)) (nI (anN f i)) (nI j) h5 g5 := by
      intro h5 g5 J5 t5 P5
      unfold j_X5_chooseBits_259
      rintro _ rfl
      exact hK _ ⟨j + 1, by omega, rfl, rfl, (nI_1 j).symm, J5, t5, P5⟩ hd
    have j157 : ∀ (l s : Int32) (g5 : HL), (l = 0 ∨ l = 1) → (s = 0 ∨ s = 1) → ((l = 1 ∧ s = 1) ↔ uP f i j) → j_X5_chooseBits_157 (fun h' _ => JJ SPln h h' ∧ h' 118 10 = h 118 10 ∧ PB1 h' f i 12) (fun x1 x2 x3 h g => K (x1, x2, x3, h, g)) (nI (stN f i)) (nI (anN f i)) (nI j) l s h4 g5 := by
      intro l s g5 hl hs' hu'
      unfold j_X5_chooseBits_157
      rw [nI_clamp (n := j) (by omega)]
      have vj : vp_in (nI j) 12 := vp_in_nI (by omega) (by omega)
      refine and_have vj (fun _ => ?_)
      intro h5 e5
      have J5 := J4.hu e5 (by unfold SPln; omega)
      have no : ¬ uP f i j → j_X5_chooseBits_259 (fun h' _ => JJ SPln h h' ∧ h' 118 10 = h 118 10 ∧ PB1 h' f i 12) (fun x1 x2 x3 h g => K (x1, x2, x3, h, g)) (nI (stN f i)) (nI (anN f i)) (nI j) h5 g5 := by
        intro nu
        have ei : ixP f i (j + 1) = ixP f i j := by
          show ixP f i j + eP f i j = _
          rw [eP_n nu, Nat.add_zero]
        refine nxt259 h5 g5 J5 (by rw [e5, hu_ne (by decide)]; exact t4) ⟨by rw [e5, hu_ne (by decide), ei]; exact P4.1, fun k hk => ?_, fun z hz => ?_⟩
        · rw [e5, hu_eq]
          by_cases q : k = j
          · subst q; rw [pk_us]; unfold bNP; rw [if_neg nu]; exact nI_0.symm
          · rw [pk_un q]; exact P4.2.1 k (by omega)
        · rw [ei] at hz
          rw [e5, hu_ne (by decide), sk_no (fun q => nu q.1)]
          exact P4.2.2 z hz
      refine ⟨fun e => no (fun u => ?_), fun n1 => ⟨fun e => no (fun u => ?_), fun n2 => ?_⟩⟩
      · have := (hu'.mpr u).1
        rw [this] at e; exact absurd e (by decide)
      · have := (hu'.mpr u).2
        rw [this] at e; exact absurd e (by decide)
      have u : uP f i j := hu'.mp ⟨hl.elim (fun q => absurd q n1) id, hs'.elim (fun q => absurd q n2) id⟩
      have hl8 : ixP f i j < 8 := by have := ixP_lt u u.1; have := i8 12 (by omega); omega
      have hp := p8 j (by omega)
      have ei : ixP f i (j + 1) = ixP f i j + 1 := by
        show ixP f i j + eP f i j = _
        rw [eP_y u]
      have e9 : h5 118 9 = nI (ixP f i j) := by rw [e5, hu_ne (by decide)]; exact P4.1
      rw [e9]
      refine c_wb (fun q => ⟨fun _ => ?_, fun c => absI c⟩) (fun q => absurd ((bd_of (n := ixP f i j) (a := 0) (b := 7) (by omega) (by omega) (by omega)).mo (by decide) (by decide)) q)
      rw [e9, shl_t _ (by omega)]
      refine and_have vj (fun _ => ?_)
      intro h6 e6
      have J6 := J5.hu e6 (by unfold SPln; omega)
      have e121 : ∀ k, k < j + 1 → h6 121 k = nI (bNP f i k) := fun k hk => by
        rw [e6, hu_eq]
        by_cases q : k = j
        · subst q; rw [pk_us]; unfold bNP; rw [if_pos u]
        · rw [pk_un q, e5, hu_eq, pk_un q]; exact P4.2.1 k (by omega)
      have ebj : h6 121 j = nI (2 ^ ixP f i j) := by rw [e6, hu_eq, pk_us]
      have lo6 : ∀ z, z < 2 ^ ixP f i j → h6 122 z = nI (skN f i z j) := fun z hz => by
        rw [e6, hu_ne (by decide), e5, hu_ne (by decide)]; exact P4.2.2 z hz
      refine lpE_intro (fun ⟨a_q, b_q, c_q, d_q, h_q, _⟩ => ∃ w : Nat, w ≤ 2 ^ ixP f i j ∧ nI (stN f i) = a_q ∧ nI (anN f i) = b_q ∧ nI j = c_q ∧ nI w = d_q ∧ JJ (SO 122) h6 h_q ∧ (∀ z, z < 2 ^ ixP f i j → h_q 122 z = nI (skN f i z j)) ∧ ∀ z, z < w → h_q 122 (z ||| 2 ^ ixP f i j) = nI (skN f i z j ||| 2 ^ j)) (fun ⟨_, _, _, d_q, _, _⟩ => dif (nI (2 ^ ixP f i j)) d_q) ?_ _ ⟨0, Nat.zero_le _, rfl, rfl, rfl, nI_0, JJ.rf, lo6, fun z hz => absurd hz (Nat.not_lt_zero z)⟩
      rintro ⟨u1, u2, u3, u4, h7, g7⟩ K2 ⟨w, hw, rfl, rfl, rfl, rfl, J7, lo, up⟩ hK2
      unfold F_X5_chooseBits_207; dsimp only; unfold b_X5_chooseBits_207
      have e7b : h7 121 j = nI (2 ^ ixP f i j) := by rw [J7 121 (by unfold SO; omega)]; exact ebj
      rw [nI_clamp (n := j) (by omega), e7b]
      refine and_have vj (fun _ => ⟨fun cw => ?_, fun cw => ?_⟩)
      · rw [nI_leI (by omega) (by omega)] at cw
        have : w = 2 ^ ixP f i j := by omega
        subst this
        intro h8 e8
        have e7_9 : h7 118 9 = nI (ixP f i j) := by rw [J7 118 (by unfold SO; omega), e6, hu_ne (by decide)]; exact e9
        refine nxt259 h8 g7 ((J6.tr (J7.mo (fun q hq => by unfold SO at hq; unfold SPln; omega))).hu e8 (by unfold SPln; omega)) ?_ ⟨?_, fun k hk => ?_, fun z hz => ?_⟩
        · rw [e8, hu_eq, pk_un (by decide), J7 118 (by unfold SO; omega), e6, hu_ne (by decide), e5, hu_ne (by decide)]; exact t4
        · rw [e8, hu_eq, pk_us, e7_9, nI_1, ei]
        · rw [e8, hu_ne (by decide), J7 121 (by unfold SO; omega)]; exact e121 k hk
        · rw [e8, hu_ne (by decide)]
          by_cases q : z < 2 ^ ixP f i j
          · rw [sk_no (fun x => by rw [tb_hi q (Nat.le_refl _)] at x; exact absurd x.2 (by decide))]
            exact lo z q
          · have hz' : z - 2 ^ ixP f i j < 2 ^ ixP f i j := by rw [ei, Nat.pow_succ] at hz; omega
            have ez : (z - 2 ^ ixP f i j) ||| 2 ^ ixP f i j = z := by rw [or_two hz']; omega
            have h1 := up _ hz'
            have h2 := sk_yes (f := f) (H := i) u hz'
            rw [ez] at h1 h2
            rw [h1, h2]
      · have hdw := dif_lt cw
        rw [nI_leI (by omega) (by omega)] at cw
        have hw' : w < 2 ^ ixP f i j := by omega
        have ho : w ||| 2 ^ ixP f i j < 256 := Nat.or_lt_two_pow (n := 8) (by omega) (Nat.pow_lt_pow_right (by decide) hl8)
        rw [nI_or, nI_clamp (n := w) (by omega), nI_clamp (n := w ||| 2 ^ ixP f i j) (by omega), lo w hw', shl12 j (by omega), nI_or]
        refine and_have vj (fun _ => and_have (vp_in_nI (by omega) (by omega)) (fun _ => and_have (vp_in_nI ho (by omega)) (fun _ => ?_)))
        intro h8 e8
        rintro _ rfl
        have e122 : h8 122 = upd (h7 122) (w ||| 2 ^ ixP f i j) (nI (skN f i w j ||| 2 ^ j)) := by rw [e8, hu_eq]
        refine hK2 _ ⟨w + 1, by omega, rfl, rfl, rfl, (nI_1 w).symm, J7.hu e8 rfl, fun z hz => ?_, fun z hz => ?_⟩ hdw
        · rw [e122, pk_un (by rw [or_two hw']; omega)]; exact lo z hz
        · rw [e122]
          by_cases q : z = w
          · subst q; rw [pk_us]
          · rw [pk_un (by rw [or_two hw', or_two (show z < 2 ^ ixP f i j by omega)]; omega)]
            exact up z (by omega)
    -- is it useful
    have nd := v.nd (k := j % 4) (by omega)
    have anb : (anN f i).testBit (j % 4) = true ↔ anP f i (j % 4) := an_tb i
    have a16 := an_lt v i hH
    have j124 : ∀ (l : Int32) (g5 : HL), (l = 0 ∨ l = 1) → (l = 1 ↔ j / 4 < i ∧ (stN f i).testBit j = false) → j_X5_chooseBits_124 (fun h' _ => JJ SPln h h' ∧ h' 118 10 = h 118 10 ∧ PB1 h' f i 12) (fun x1 x2 x3 h g => K (x1, x2, x3, h, g)) (nI (stN f i)) (nI (anN f i)) (nI j) (nI (j % 4)) l h4 g5 := by
      intro l g5 hl el
      unfold j_X5_chooseBits_124 j_X5_chooseBits_156
      rw [t_1 (a := anN f i) (by omega) (by omega), anb]
      refine ⟨fun n => j157 _ _ _ hl (.inl rfl) ⟨fun q => absurd q.2 (by decide), fun u => absurd u.2.2.2.1 n⟩, fun a => ?_⟩
      refine c_rn T4 (by omega) ?_
      rw [nd.1, show (0 : Int32) = nI 0 from rfl, nI_leI (by omega) (by omega)]
      refine ⟨fun z => j157 _ _ _ hl (.inl nI_0) ⟨fun q => absurd q.2 (by decide), fun u => ?_⟩, fun z => j157 _ _ _ hl (.inr rfl) ⟨fun q => ?_, fun u => ⟨el.mpr ⟨u.2.1, u.2.2.1⟩, rfl⟩⟩⟩
      · have := u.2.2.2.2; omega
      · obtain ⟨e1, e2⟩ := el.mp q.1
        exact ⟨by omega, e1, e2, a, by omega⟩
    have ej : 4 * (j / 4) + j % 4 = j := by omega
    unfold j_X5_chooseBits_123
    refine ⟨fun c => j124 0 _ (.inl rfl) ⟨fun q => absurd q (by decide), fun q => ?_⟩, fun c => ?_⟩
    · rw [nI_leI (by omega) (by omega)] at c; omega
    · rw [nI_leI (by omega) (by omega)] at c
      refine c_kn (by omega) (by omega) (fun e => ⟨fun _ => j124 0 _ (.inl rfl) ⟨fun q => absurd q (by decide), fun q => ?_⟩, fun q => absurd q (by decide)⟩) (fun e => ⟨fun q => absurd rfl q, fun _ => j124 1 _ (.inr rfl) ⟨fun _ => ⟨by omega, ?_⟩, fun _ => rfl⟩⟩)
      · rw [ej, q.2] at e; exact absurd e (by decide)
      · rw [ej] at e; exact Bool.eq_false_iff.mpr e
  · have hd := dif_lt c
    rw [nI_leI (by omega) (by omega)] at c
    obtain ⟨⟨s, s16, es⟩, -⟩ := v.hd (h := i) (by omega)
    refine c_ha (k := 0) T (by omega) (by omega) ?_
    rw [Nat.add_zero, es, sh16 s s16 i (by omega), nI_or]
    rintro _ rfl
    refine c_ha (k := 0) T (by omega) (by omega) ?_
    rw [Nat.add_zero, es, nI_or]
    rintro _ rfl
    rintro _ rfl
    refine hK _ ⟨i + 1, by omega, ?_, ?_, (nI_1 i).symm, rfl⟩ hd
    · show nI (stN f i ||| ((f (817 + 2 * i)).toNatClampNeg * 2 ^ (4 * i))) = _
      rw [es, nI_clamp (by omega)]
    · show nI (anN f i ||| (f (817 + 2 * i)).toNatClampNeg) = _
      rw [es, nI_clamp (by omega)]
end
section
-- 79.u.f.lessons
/-! THE PLAN of the class: its lessons, runs, years -/
def plc (c : Nat) : Nat := 4 * (c % 4) + c / 4 % 4
def lcP (f : Nat → Int32) (H c : Nat) : Prop := c < 48 ∧ ¬ c / 16 = c % 4 ∧ c / 16 < H ∧ uP f H (plc c)
noncomputable def cL (f : Nat → Int32) (H c : Nat) : Nat := @ite _ (lcP f H c) (Classical.propDecidable _) 1 0
noncomputable def cntL (f : Nat → Int32) (H : Nat) : Nat → Nat
  | 0 => 0
  | c + 1 => cntL f H c + cL f H c
noncomputable def gL (f : Nat → Int32) (H c : Nat) : Nat := if c / 16 = c % 4 then 0 else eP f H (plc c)
noncomputable def sumG (f : Nat → Int32) (H : Nat) : Nat → Nat
  | 0 => 0
  | c + 1 => sumG f H c + gL f H c
theorem cntL_le {f : Nat → Int32} {H : Nat} : ∀ c, cntL f H c ≤ sumG f H c
  | 0 => Nat.le_refl _
  | c + 1 => by
    refine Nat.add_le_add (cntL_le c) ?_
    unfold cL
    by_cases l : lcP f H c
    · rw [if_pos l]
      unfold gL
      rw [if_neg l.2.1, eP_y l.2.2.2]; exact Nat.le_refl _
    · rw [if_neg l]; exact Nat.zero_le _
theorem cntL_16 {f : Nat → Int32} {H : Nat} (v : VR f) (hH : H ≤ 3) : cntL f H 48 ≤ 16 := by
  refine Nat.le_trans (cntL_le 48) ?_
  have z : ∀ i, 12 ≤ i → eP f H i = 0 := fun i hi => eP_n (fun u => by have := u.1; omega)
  have z12 := z 12 (by omega)
  have z13 := z 13 (by omega)
  have z14 := z 14 (by omega)
  have z15 := z 15 (by omega)
  have h8 : 0 + eP f H 0 + eP f H 1 + eP f H 2 + eP f H 3 + eP f H 4 + eP f H 5 + eP f H 6 + eP f H 7 + eP f H 8 + eP f H 9 + eP f H 10 + eP f H 11 ≤ 8 := ixP_8 v hH
  simp [sumG, gL, plc, z12, z13, z14, z15]
  omega
theorem cntL_mono {f : Nat → Int32} {H : Nat} : ∀ {i j : Nat}, i ≤ j → cntL f H i ≤ cntL f H j
  | i, 0, h => by rw [show i = 0 by omega]; exact Nat.le_refl _
  | i, j + 1, h => by
    by_cases e : i = j + 1
    · rw [e]; exact Nat.le_refl _
    · have := cntL_mono (f := f) (H := H) (show i ≤ j by omega)
      show cntL f H i ≤ cntL f H j + cL f H j
      omega
theorem cntL_y {f : Nat → Int32} {H c : Nat} (l : lcP f H c) : cntL f H (c + 1) = cntL f H c + 1 := by
  show cntL f H c + cL f H c = _
  unfold cL
  rw [if_pos l]
theorem cntL_n {f : Nat → Int32} {H c : Nat} (l : ¬ lcP f H c) : cntL f H (c + 1) = cntL f H c := by
  show cntL f H c + cL f H c = _
  unfold cL
  rw [if_neg l, Nat.add_zero]
theorem cntL_lt {f : Nat → Int32} {H i j : Nat} (l : lcP f H i) (h : i < j) : cntL f H i < cntL f H j := by
  have h1 : cntL f H (i + 1) ≤ cntL f H j := cntL_mono h
  rw [cntL_y l] at h1; omega
theorem cntL_ex {f : Nat → Int32} {H i : Nat} : ∀ c, i < cntL f H c → ∃ d, d < c ∧ lcP f H d ∧ cntL f H d = i
  | 0, h => absurd h (Nat.not_lt_zero i)
  | c + 1, h => by
    by_cases l : lcP f H c
    · rw [cntL_y l] at h
      by_cases e : cntL f H c = i
      · exact ⟨c, by omega, l, e⟩
      · obtain ⟨d, d1, d2⟩ := cntL_ex c (show i < cntL f H c by omega)
        exact ⟨d, by omega, d2⟩
    · rw [cntL_n l] at h
      obtain ⟨d, d1, d2⟩ := cntL_ex c h
      exact ⟨d, by omega, d2⟩
theorem ls1 : ∀ c, c < 48 → nI c >>> ((4 : Int32) &&& 31) = nI (c / 16) := by decide +kernel
theorem ls2 : ∀ c, c < 48 → nI c &&& (3 : Int32) = nI (c % 4) := by decide +kernel
theorem ls3 : ∀ c, c < 48 → (nI c >>> ((2 : Int32) &&& 31)) &&& (3 : Int32) = nI (c / 4 % 4) := by decide +kernel
def PL2 (h : HI) (f : Nat → Int32) (H c : Nat) : Prop := h 118 8 = nI (cntL f H c) ∧ ∀ d, d < c → lcP f H d → h 119 (cntL f H d) = nI d ∧ h 120 (cntL f H d) = nI (2 ^ ixP f H (plc d))
def SLs (q : Nat) : Prop := q = 118 ∨ q = 119 ∨ q = 120
theorem q_X5_chooseLessons {h : HI} {g : HL} {f : Nat → Int32} {H : Nat} (v : VR f) (T : HRt h f H) (hH : H ≤ 3) (B : PB1 h f H 12) : w_X5_chooseLessons h g (fun h' _ => JJ SLs h h' ∧ h' 118 10 = h 118 10 ∧ h' 118 9 = h 118 9 ∧ PL2 h' f H 48) := by
  have nn : ∀ q, q ≤ 80 → ¬ SLs q := fun q hq => by unfold SLs; omega
  unfold w_X5_chooseLessons
  intro h1 e1
  refine lpE_intro (fun ⟨a_q, h_q, _⟩ => ∃ c : Nat, c ≤ 48 ∧ nI c = a_q ∧ JJ SLs h h_q ∧ h_q 118 10 = h 118 10 ∧ h_q 118 9 = h 118 9 ∧ PL2 h_q f H c) (fun ⟨a_q, _, _⟩ => dil (47 : Int32) a_q) ?_ _ ⟨0, by omega, nI_0, JJ.rf.hu e1 (.inl rfl), by rw [e1, hu_eq, pk_un (by decide)], by rw [e1, hu_eq, pk_un (by decide)], by rw [e1, hu_eq, pk_us]; exact nI_0.symm, fun d hd => absurd hd (Nat.not_lt_zero d)⟩
  rintro ⟨y1, h2, g2⟩ K ⟨c, hc, rfl, J2, t2, s2, P2⟩ hK
  unfold F_X5_chooseLessons_7; dsimp only; unfold b_X5_chooseLessons_7
  refine ⟨fun c4 => ?_, fun c4 => ?_⟩
  · rw [show (47 : Int32) = nI 47 from rfl, nI_ltI (by omega) (by omega)] at c4
    have : c = 48 := by omega
    subst this
    exact ⟨J2, t2, s2, P2⟩
  have hd := dil_lt c4 (by decide)
  rw [show (47 : Int32) = nI 47 from rfl, nI_ltI (by omega) (by omega)] at c4
  have T2 := T.jj J2 nn
  rw [ls1 c (by omega), ls2 c (by omega), ls3 c (by omega)]
  rintro _ rfl
  rintro _ rfl
  rw [show (4 : Int32) * nI (c % 4) + nI (c / 4 % 4) = nI (plc c) by rw [show (4 : Int32) = nI 4 from rfl, pk_mul, nI_add]; rfl]
  rintro _ rfl
  have p16 : plc c < 16 := by unfold plc; omega
  have nx : ∀ (h3 : HI) (g3 : HL), JJ SLs h h3 → h3 118 10 = h 118 10 → h3 118 9 = h 118 9 → PL2 h3 f H (c + 1) → j_X5_chooseLessons_129 (fun h' _ => JJ SLs h h' ∧ h' 118 10 = h 118 10 ∧ h' 118 9 = h 118 9 ∧ PL2 h' f H 48) (fun x1 h g => K (x1, h, g)) (nI c) h3 g3 := by
    intro h3 g3 J3 t3 s3 P3
    unfold j_X5_chooseLessons_129
    rintro _ rfl
    exact hK _ ⟨c + 1, by omega, (nI_1 c).symm, J3, t3, s3, P3⟩ hd
  have no : ∀ g3 : HL, ¬ lcP f H c → j_X5_chooseLessons_129 (fun h' _ => JJ SLs h h' ∧ h' 118 10 = h 118 10 ∧ h' 118 9 = h 118 9 ∧ PL2 h' f H 48) (fun x1 h g => K (x1, h, g)) (nI c) h2 g3 := fun g3 n => by
    refine nx h2 g3 J2 t2 s2 ⟨by rw [cntL_n n]; exact P2.1, fun d hd' ld => ?_⟩
    by_cases q : d = c
    · subst q; exact absurd ld n
    · exact P2.2 d (by omega) ld
  rw [nI_eq (by omega) (by omega)]
  refine ⟨fun e => no _ (fun l => l.2.1 e), fun e1' => ?_⟩
  refine c_hb (fun q => ⟨fun c => absI c, fun _ => ?_⟩) (fun q => ⟨fun _ => no _ (fun l => q ?_), fun c => absurd rfl c⟩)
  · rw [T2.1.2.2.1] at q
    unfold isRow at q
    rw [nI_toInt (by omega), nI_toInt (by omega)] at q
    refine c_wb (fun q2 => ⟨fun _ => ?_, fun c => absI c⟩) (fun q2 => ⟨fun c => absurd rfl c, fun _ => no _ (fun l => q2 ((bd_of (n := plc c) (a := 0) (b := 11) (by omega) (by omega) (by have := l.2.2.2.1; omega)).mo (by decide) (by decide)))⟩)
    have p12 : plc c < 12 := by
      have := q2.mo (c := 0) (d := 11) (by decide) (by decide)
      unfold bd at this
      rw [nI_toInt (by omega)] at this; omega
    have eb : h2 121 (plc c) = nI (bNP f H (plc c)) := by rw [J2 121 (by unfold SLs; omega)]; exact B.2.1 _ p12
    have vp : vp_in (nI (plc c)) 12 := vp_in_nI p12 (by omega)
    rw [nI_clamp (n := plc c) (by omega), eb]
    refine and_have vp (fun _ => ⟨fun ez => no _ (fun l => ?_), fun ez => ?_⟩)
    · unfold bNP at ez
      have i8 := ixP_lt l.2.2.2 p12
      have := ixP_8 v hH
      rw [if_pos l.2.2.2, nI_z (Nat.pow_lt_pow_right (by decide) (by omega) : 2 ^ ixP f H (plc c) < 2 ^ 31)] at ez
      exact absurd ez (Nat.ne_of_gt (Nat.pow_pos (by decide)))
    · have u : uP f H (plc c) := by
        by_cases u : uP f H (plc c)
        · exact u
        · unfold bNP at ez
          rw [if_neg u] at ez; exact absurd nI_0 ez
      have l : lcP f H c := ⟨by omega, e1', by omega, u⟩
      have h16 := cntL_16 v hH
      have hlt := cntL_lt l (show c < 48 by omega)
      rw [P2.1]
      refine c_wb (fun _ => ⟨fun c => absI c, fun _ => ?_⟩) (fun q => absurd ((bd_of (n := cntL f H c) (a := 0) (b := 15) (by omega) (by omega) (by omega)).mo (by decide) (by decide)) q)
      rw [P2.1, nI_clamp (n := cntL f H c) (by omega)]
      refine and_have (vp_in_nI (by omega) (by omega)) (fun _ => ?_)
      intro h3 e3
      have e38 : h3 118 8 = nI (cntL f H c) := by rw [e3, hu_ne (by decide)]; exact P2.1
      have e3b : h3 121 (plc c) = nI (2 ^ ixP f H (plc c)) := by
        rw [e3, hu_ne (by decide), eb]
        unfold bNP
        rw [if_pos u]
      rw [e38, nI_clamp (n := cntL f H c) (by omega), e3b]
      refine and_have vp (fun _ => and_have (vp_in_nI (by omega) (by omega)) (fun _ => ?_))
      intro h4 e4
      have e48 : h4 118 8 = nI (cntL f H c) := by rw [e4, hu_ne (by decide)]; exact e38
      rw [e48]
      intro h5 e5
      have J5 : JJ SLs h h5 := ((J2.hu e3 (.inr (.inl rfl))).hu e4 (.inr (.inr rfl))).hu e5 (.inl rfl)
      have e119 : h5 119 = upd (h2 119) (cntL f H c) (nI c) := by rw [e5, hu_ne (by decide), e4, hu_ne (by decide), e3, hu_eq]
      have e120 : h5 120 = upd (h2 120) (cntL f H c) (nI (2 ^ ixP f H (plc c))) := by rw [e5, hu_ne (by decide), e4, hu_eq, e3, hu_ne (by decide)]
      have e118 : h5 118 = upd (h2 118) 8 (nI (cntL f H c) + 1) := by rw [e5, hu_eq, e4, hu_ne (by decide), e3, hu_ne (by decide)]
      refine nx h5 _ J5 (by rw [e118, pk_un (by decide)]; exact t2) (by rw [e118, pk_un (by decide)]; exact s2) ⟨by rw [e118, pk_us, nI_1, cntL_y l], fun d hd' ld => ?_⟩
      rw [e119, e120]
      by_cases q : d = c
      · subst q; rw [pk_us, pk_us]; exact ⟨rfl, rfl⟩
      · have := cntL_lt ld (show d < c by omega)
        rw [pk_un (by omega), pk_un (by omega)]; exact P2.2 d (by omega) ld
  · rw [T2.1.2.2.1]
    unfold isRow
    rw [nI_toInt (by omega), nI_toInt (by omega)]
    have := l.2.2.1
    omega
/-- runs of a set of skills -/
def rsN (f : Nat → Int32) (s : Nat) : Nat → Nat
  | 0 => 0
  | k + 1 => rsN f s k + (if s.testBit k = true then ndP f k else 0)
theorem q_X5_chooseRuns {h : HI} {g : HL} {f : Nat → Int32} {H : Nat} (v : VR f) (T : HRt h f H) : w_X5_chooseRuns h g (fun h' _ => JJ (SO 123) h h' ∧ ∀ s, s < 16 → h' 123 s = nI (rsN f s 4)) := by
  have nn : ∀ q, q ≤ 80 → ¬ SO 123 q := fun q hq => by unfold SO; omega
  unfold w_X5_chooseRuns
  refine lpE_intro (fun ⟨a_q, h_q, _⟩ => ∃ s : Nat, s ≤ 16 ∧ nI s = a_q ∧ JJ (SO 123) h h_q ∧ ∀ u, u < s → h_q 123 u = nI (rsN f u 4)) (fun ⟨a_q, _, _⟩ => dil (15 : Int32) a_q) ?_ _ ⟨0, by omega, nI_0, JJ.rf, fun u hu => absurd hu (Nat.not_lt_zero u)⟩
  rintro ⟨y1, h1, g1⟩ K ⟨s, hs, rfl, J1, t1⟩ hK
  unfold F_X5_chooseRuns_2; dsimp only; unfold b_X5_chooseRuns_2
  refine ⟨fun c => ?_, fun c => ?_⟩
  · rw [show (15 : Int32) = nI 15 from rfl, nI_ltI (by omega) (by omega)] at c
    exact ⟨J1, fun u hu => t1 u (by omega)⟩
  have hd := dil_lt c (by decide)
  rw [show (15 : Int32) = nI 15 from rfl, nI_ltI (by omega) (by omega)] at c
  rw [nI_clamp (n := s) (by omega)]
  have vs : vp_in (nI s) 16 := vp_in_nI (by omega) (by omega)
  refine and_have vs (fun _ => ?_)
  intro h2 e2
  refine lpE_intro (fun ⟨a_q, b_q, h_q, _⟩ => ∃ k : Nat, k ≤ 4 ∧ nI s = a_q ∧ nI k = b_q ∧ JJ (SO 123) h h_q ∧ (∀ u, u < s → h_q 123 u = nI (rsN f u 4)) ∧ h_q 123 s = nI (rsN f s k)) (fun ⟨_, b_q, _, _⟩ => dif (nI 4) b_q) ?_ _ ⟨0, by omega, rfl, nI_0, J1.hu e2 rfl, fun u hu => by rw [e2, hu_eq, pk_un (by omega)]; exact t1 u hu, by rw [e2, hu_eq, pk_us]; exact nI_0.symm⟩
  rintro ⟨z1, z2, h3, g3⟩ K2 ⟨k, hk, rfl, rfl, J3, t3, s3⟩ hK2
  unfold F_X5_chooseRuns_17; dsimp only; unfold b_X5_chooseRuns_17
  refine ⟨fun ck => ?_, fun ck => ?_⟩
  · rw [show (4 : Int32) = nI 4 from rfl, nI_leI (by omega) (by omega)] at ck
    have : k = 4 := by omega
    subst this
    rintro _ rfl
    refine hK _ ⟨s + 1, by omega, (nI_1 s).symm, J3, fun u hu => ?_⟩ hd
    by_cases q : u = s
    · subst q; exact s3
    · exact t3 u (by omega)
  · have hdk := dif_lt (a := nI 4) ck
    rw [show (4 : Int32) = nI 4 from rfl, nI_leI (by omega) (by omega)] at ck
    rw [t_1 (by omega) (by omega), nI_clamp (n := s) (by omega)]
    have er : rsN f s (k + 1) = rsN f s k + (if s.testBit k = true then ndP f k else 0) := rfl
    unfold j_X5_chooseRuns_52
    refine ⟨fun n => ?_, fun y => ?_⟩
    · rintro _ rfl
      exact hK2 _ ⟨k + 1, by omega, rfl, (nI_1 k).symm, J3, t3, by rw [er, if_neg n, Nat.add_zero]; exact s3⟩ hdk
    · refine and_have vs (fun _ => ?_)
      refine c_rn (T.jj J3 nn) (by omega) ?_
      refine and_have vs (fun _ => ?_)
      rw [(v.nd (k := k) (by omega)).1, s3, nI_add]
      intro h4 e4
      rintro _ rfl
      exact hK2 _ ⟨k + 1, by omega, rfl, (nI_1 k).symm, J3.hu e4 rfl, fun u hu => by rw [e4, hu_eq, pk_un (by omega)]; exact t3 u hu, by rw [e4, hu_eq, pk_us, er, if_pos y]⟩ hdk
/-- who is there -/
def THk (f : Nat → Int32) (y i : Nat) (x : Int32) : Prop := ∃ A, A < 8 ∧ x = nI A ∧ ∀ a, A.testBit a = true ↔ a < i ∧ ¬ f (817 + 2 * a + 1) ≤ nI y
theorem q_X5_chooseYears {h : HI} {g : HL} {f : Nat → Int32} {H : Nat} (v : VR f) (T : HRt h f H) (hH : H ≤ 3) : w_X5_chooseYears h g (fun h' _ => JJ (SO 124) h h' ∧ ∀ y, y < 8 → THk f y H (h' 124 y)) := by
  have nn : ∀ q, q ≤ 80 → ¬ SO 124 q := fun q hq => by unfold SO; omega
  unfold w_X5_chooseYears
  refine lpE_intro (fun ⟨a_q, h_q, _⟩ => ∃ s : Nat, s ≤ 8 ∧ nI s = a_q ∧ JJ (SO 124) h h_q ∧ ∀ u, u < s → THk f u H (h_q 124 u)) (fun ⟨a_q, _, _⟩ => dif (nI 8) a_q) ?_ _ ⟨0, by omega, nI_0, JJ.rf, fun u hu => absurd hu (Nat.not_lt_zero u)⟩
  rintro ⟨y1, h1, g1⟩ K ⟨s, hs, rfl, J1, t1⟩ hK
  unfold F_X5_chooseYears_2; dsimp only; unfold b_X5_chooseYears_2
  refine ⟨fun c => ?_, fun c => ?_⟩
  · rw [show (8 : Int32) = nI 8 from rfl, nI_leI (by omega) (by omega)] at c
    exact ⟨J1, fun u hu => t1 u (by omega)⟩
  have hd := dif_lt (a := nI 8) c
  rw [show (8 : Int32) = nI 8 from rfl, nI_leI (by omega) (by omega)] at c
  rw [nI_clamp (n := s) (by omega)]
  have vs : vp_in (nI s) 8 := vp_in_nI (by omega) (by omega)
  refine and_have vs (fun _ => ?_)
  intro h2 e2
  refine lpE_intro (fun ⟨a_q, b_q, h_q, _⟩ => ∃ k : Nat, k ≤ H ∧ nI s = a_q ∧ nI k = b_q ∧ JJ (SO 124) h h_q ∧ (∀ u, u < s → THk f u H (h_q 124 u)) ∧ THk f s k (h_q 124 s)) (fun ⟨_, b_q, _, _⟩ => dif (nI H) b_q) ?_ _ ⟨0, by omega, rfl, nI_0, J1.hu e2 rfl, fun u hu => by rw [e2, hu_eq, pk_un (by omega)]; exact t1 u hu, by
    rw [e2, hu_eq, pk_us]
    exact ⟨0, by decide, nI_0.symm, fun a => by rw [Nat.zero_testBit]; exact ⟨fun e => absurd e (by decide), fun e => absurd e.1 (Nat.not_lt_zero a)⟩⟩⟩
  rintro ⟨z1, z2, h3, g3⟩ K2 ⟨k, hk, rfl, rfl, J3, t3, s3⟩ hK2
  unfold F_X5_chooseYears_17; dsimp only; unfold b_X5_chooseYears_17
  have T3 := T.jj J3 nn
  refine c_i p_rows ?_
  rintro _ _ _ ⟨rfl, rfl, rfl⟩
  rw [T3.1.2.2.1]
  refine ⟨fun ck => ?_, fun ck => ?_⟩
  · rw [nI_leI (by omega) (by omega)] at ck
    have : k = H := by omega
    subst this
    rintro _ rfl
    refine hK _ ⟨s + 1, by omega, (nI_1 s).symm, J3, fun u hu => ?_⟩ hd
    by_cases q : u = s
    · subst q; exact s3
    · exact t3 u (by omega)
  · have hdk := dif_lt ck
    rw [nI_leI (by omega) (by omega)] at ck
    refine c_ha (k := 1) T3 (by omega) (by omega) ?_
    obtain ⟨A, A8, eA, A2⟩ := s3
    unfold j_X5_chooseYears_59
    refine ⟨fun le => ?_, fun gt => ?_⟩
    · rintro _ rfl
      refine hK2 _ ⟨k + 1, by omega, rfl, (nI_1 k).symm, J3, t3, A, A8, eA, fun a => ?_⟩ hdk
      rw [A2 a]
      exact ⟨fun e => ⟨by omega, e.2⟩, fun e => ⟨by
        have : a ≠ k := fun q => e.2 (by rw [q]; exact le)
        omega, e.2⟩⟩
    · rw [nI_clamp (n := s) (by omega), eA, shl_t k (by omega), nI_or]
      refine and_have vs (fun _ => and_have vs (fun _ => ?_))
      intro h4 e4
      rintro _ rfl
      refine hK2 _ ⟨k + 1, by omega, rfl, (nI_1 k).symm, J3.hu e4 rfl, fun u hu => by rw [e4, hu_eq, pk_un (by omega)]; exact t3 u hu, A ||| 2 ^ k, Nat.or_lt_two_pow (n := 3) A8 (Nat.pow_lt_pow_right (by decide) (by omega)), by rw [e4, hu_eq, pk_us], fun a => ?_⟩ hdk
      rw [tb_or, Bool.or_eq_true, decide_eq_true_eq, A2 a]
      constructor
      · rintro (e | e)
        · exact ⟨by omega, e.2⟩
        · subst e; exact ⟨by omega, gt⟩
      · rintro ⟨e1, e2⟩
        by_cases q : k = a
        · exact .inr q
        · exact .inl ⟨by omega, e2⟩
end
section
-- 79.u.g.most
/-! THE PLAN of the class: its table -/
def PG (h : HI) (f : Nat → Int32) (H n : Nat) : Prop := h 118 10 = nI n ∧ PB1 h f H 12 ∧ PL2 h f H 48 ∧ (∀ s, s < 16 → h 123 s = nI (rsN f s 4)) ∧ ∀ y, y < 8 → THk f y H (h 124 y)
theorem PG.cg {h h' : HI} {f : Nat → Int32} {H n : Nat} (a : PG h f H n) (e : ∀ q, 118 ≤ q → q ≤ 124 → h' q = h q) : PG h' f H n := by
  unfold PG PB1 PL2
  rw [e 118 (by omega) (by omega), e 119 (by omega) (by omega), e 120 (by omega) (by omega), e 121 (by omega) (by omega), e 122 (by omega) (by omega), e 123 (by omega) (by omega), e 124 (by omega) (by omega)]
  exact a
theorem rs_eq {f : Nat → Int32} {H can y g s : Nat} (e : ∀ k, k < 4 → (s.testBit k = true ↔ avP f H can y g k)) : ∀ k, k ≤ 4 → rsN f s k = rnP f H can y g k
  | 0, _ => rfl
  | k + 1, hk => by
    show rsN f s k + _ = rnP f H can y g k + _
    rw [rs_eq e k (by omega)]
    congr 1
    by_cases c : avP f H can y g k
    · rw [if_pos c, if_pos ((e k (by omega)).mpr c)]
    · rw [if_neg c, if_neg (fun q => c ((e k (by omega)).mp q))]
theorem q_X5_runsBy {h : HI} {g : HL} {f : Nat → Int32} {H n z F a y : Nat} (v : VR f) (hH : H ≤ 3) (G : PG h f H n) (hz : z < 2 ^ ixP f H 12) (hF : F < 8) (eF : ∀ i, i < 3 → (F.testBit i = true ↔ thP f H y i ∧ ¬ bzP a i)) : w_X5_runsBy (nI F) (nI z) h g (fun r h' _ => h = h' ∧ r = nI (rnP f H (skN f H z 12) y a 4)) := by
  have p8 : 2 ^ ixP f H 12 ≤ 256 := (Nat.pow_le_pow_right (by decide) (ixP_8 v hH) : 2 ^ ixP f H 12 ≤ 2 ^ 8)
  have sl := sk_lt (z := z) v hH 12 (Nat.le_refl 12)
  unfold w_X5_runsBy
  refine c_wb (fun _ => ⟨fun _ => ?_, fun c => absI c⟩) (fun q => absurd ((bd_of (n := z) (a := 0) (b := 255) (by omega) (by omega) (by omega)).mo (by decide) (by decide)) q)
  refine lpE_intro (fun ⟨a_q, b_q, c_q, d_q, h_q, _⟩ => ∃ i A : Nat, i ≤ 3 ∧ nI F = a_q ∧ nI z = b_q ∧ nI A = c_q ∧ nI i = d_q ∧ h = h_q ∧ A < 4096 ∧ ∀ k, k < 4 → (A.testBit k = true ↔ ∃ d, d < i ∧ F.testBit d = true ∧ (skN f H z 12).testBit (4 * d + k) = true)) (fun ⟨_, _, _, d_q, _, _⟩ => dif (nI 3) d_q) ?_ _ ⟨0, 0, by omega, rfl, rfl, nI_0, nI_0, rfl, by decide, fun k hk => ?_⟩
  · rintro ⟨y1, y2, y3, y4, h1, g1⟩ K ⟨i, A, hi, rfl, rfl, rfl, rfl, rfl, hA, eA⟩ hK
    unfold F_X5_runsBy_18; dsimp only; unfold b_X5_runsBy_18
    refine ⟨fun c => ?_, fun c => ?_⟩
    · rw [show (3 : Int32) = nI 3 from rfl, nI_leI (by omega) (by omega)] at c
      have : i = 3 := by omega
      subst this
      have e15 : nI A &&& (15 : Int32) = nI (A % 16) := by rw [show (15 : Int32) = nI 15 from rfl, nI_and, show (15 : Nat) = 2 ^ 4 - 1 by decide, Nat.and_two_pow_sub_one_eq_mod]
      have h16 := Nat.mod_lt A (y := 16) (by decide)
      rw [e15, nI_clamp (n := A % 16) (by omega), G.2.2.2.1 _ h16]
      refine and_have (vp_in_nI h16 (by omega)) (fun _ => ⟨rfl, ?_⟩)
      rw [rs_eq (f := f) (H := H) (can := skN f H z 12) (y := y) (g := a) (fun k hk => ?_) 4 (Nat.le_refl 4)]
      rw [show (16 : Nat) = 2 ^ 4 by decide, Nat.testBit_mod_two_pow, decide_eq_true hk, Bool.true_and, eA k hk]
      constructor
      · rintro ⟨d, d1, d2, d3⟩
        obtain ⟨t1, t2⟩ := (eF d d1).mp d2
        exact ⟨d, d1, t1, t2, d3⟩
      · rintro ⟨d, d1, t1, t2, d3⟩
        exact ⟨d, d1, (eF d d1).mpr ⟨t1, t2⟩, d3⟩
    have hd := dif_lt (a := nI 3) c
    rw [show (3 : Int32) = nI 3 from rfl, nI_leI (by omega) (by omega)] at c
    rw [t_1 (by omega) (by omega)]
    unfold j_X5_runsBy_48
    refine ⟨fun n0 => ?_, fun y0 => ?_⟩
    · rintro _ rfl
      refine hK _ ⟨i + 1, A, by omega, rfl, rfl, rfl, (nI_1 i).symm, rfl, hA, fun k hk => ?_⟩ hd
      rw [eA k hk]
      exact ⟨fun ⟨d, d1, d2⟩ => ⟨d, by omega, d2⟩, fun ⟨d, d1, d2, d3⟩ => ⟨d, by
        have : d ≠ i := fun q => n0 (by rw [← q]; exact d2)
        omega, d2, d3⟩⟩
    · rw [nI_clamp (n := z) (by omega), G.2.1.2.2 z hz, show (4 : Int32) = nI 4 from rfl, pk_mul, t_shr (by omega) (by omega), nI_or]
      refine and_have (vp_in_nI (by omega) (by omega)) (fun _ => ?_)
      rintro _ rfl
      rintro _ rfl
      have hB : skN f H z 12 / 2 ^ (4 * i) < 2 ^ 12 := Nat.lt_of_le_of_lt (Nat.div_le_self _ _) sl
      refine hK _ ⟨i + 1, A ||| (skN f H z 12 / 2 ^ (4 * i)), by omega, rfl, rfl, rfl, (nI_1 i).symm, rfl, Nat.or_lt_two_pow (n := 12) hA hB, fun k hk => ?_⟩ hd
      rw [Nat.testBit_or, Bool.or_eq_true, eA k hk, Nat.testBit_div_two_pow, Nat.add_comm k]
      constructor
      · rintro (⟨d, d1, d2⟩ | e)
        · exact ⟨d, by omega, d2⟩
        · exact ⟨i, by omega, y0, e⟩
      · rintro ⟨d, d1, d2, d3⟩
        by_cases q : d = i
        · subst q; exact .inr d3
        · exact .inl ⟨d, by omega, d2, d3⟩
  · rw [Nat.zero_testBit]
    exact ⟨fun e => absurd e (by decide), fun ⟨d, hd, _⟩ => absurd hd (Nat.not_lt_zero d)⟩
/-- the table of year y holds what can come of it -/
def TBl (h : HI) (f : Nat → Int32) (H n y : Nat) : Prop := ∀ z, z < 2 ^ ixP f H 12 → pcN z (ixP f H 12) ≤ y → h (126 + y) z = nI (vlP f H n (n - y) (skN f H z 12))
theorem q_X5_idle {h : HI} {g : HL} {f : Nat → Int32} {H n z y : Nat} (v : VR f) (hH : H ≤ 3) (hn : n ≤ 8) (G : PG h f H n) (hy : y < n) (hz : z < 2 ^ ixP f H 12) (hp : pcN z (ixP f H 12) ≤ y) (B : TBl h f H n (y + 1)) : w_X5_idle (nI y) (nI z) h g (fun r h' _ => h = h' ∧ r = nI (wP f H n (n - 1 - y) (skN f H z 12) 0)) := by
  have p8 : 2 ^ ixP f H 12 ≤ 256 := (Nat.pow_le_pow_right (by decide) (ixP_8 v hH) : 2 ^ ixP f H 12 ≤ 2 ^ 8)
  unfold w_X5_idle
  refine c_wb (fun _ => ⟨fun c => absI c, fun _ => ?_⟩) (fun q => absurd ((bd_of (n := y) (a := 0) (b := 7) (by omega) (by omega) (by omega)).mo (by decide) (by decide)) q)
  refine c_wb (fun _ => ⟨fun _ => ?_, fun c => absI c⟩) (fun q => absurd ((bd_of (n := z) (a := 0) (b := 255) (by omega) (by omega) (by omega)).mo (by decide) (by decide)) q)
  rw [nI_clamp (n := y) (by omega)]
  obtain ⟨A, A8, eA, A2⟩ := G.2.2.2.2 y (by omega)
  rw [eA]
  refine and_have (vp_in_nI (by omega) (by omega)) (fun _ => ?_)
  refine c_i (q_X5_runsBy (a := 0) (y := y) v hH G hz A8 (fun i hi => by
    rw [A2 i]
    exact ⟨fun e => ⟨e, fun q => q⟩, fun e => e.1⟩)) ?_
  rintro _ _ g1 ⟨rfl, rfl⟩
  rw [nI_1, nI_clamp (n := y + 1) (by omega), nI_clamp (n := z) (by omega), B z hz (by omega), nI_add]
  refine and_have (vp_in_nI (by omega) (by omega)) (fun _ => and_have (vp_in_nI (by omega) (by omega)) (fun _ => ⟨rfl, ?_⟩))
  unfold wP
  rw [show n - (n - 1 - y + 1) = y by omega, show n - (y + 1) = n - 1 - y by omega]; rfl
end
section
-- 79.u.h.taught
/-! THE PLAN of the class: a lesson, the best of a year -/
theorem both_of {A w m : Nat} : A &&& (2 ^ w ||| 2 ^ m) = 2 ^ w ||| 2 ^ m ↔ A.testBit w = true ∧ A.testBit m = true := by
  have tb : ∀ i, (2 ^ w ||| 2 ^ m).testBit i = true ↔ (w = i ∨ m = i) := fun i => by
    rw [Nat.testBit_or, Nat.testBit_two_pow, Nat.testBit_two_pow, Bool.or_eq_true, decide_eq_true_eq, decide_eq_true_eq]
  constructor
  · intro e
    have h : ∀ i, (w = i ∨ m = i) → A.testBit i = true := fun i hi => by
      have h1 := (tb i).mpr hi
      rw [← e, Nat.testBit_and, Bool.and_eq_true] at h1
      exact h1.1
    exact ⟨h w (.inl rfl), h m (.inr rfl)⟩
  · rintro ⟨h1, h2⟩
    refine tb_ext (fun i => ?_)
    rw [Nat.testBit_and, Bool.and_eq_true, tb i]
    exact ⟨fun e => e.2, fun e => ⟨e.elim (fun q => q ▸ h1) (fun q => q ▸ h2), e⟩⟩
theorem same_of {z k : Nat} : z ||| 2 ^ k = z ↔ z.testBit k = true := by
  constructor
  · intro e
    rw [← e, tb_or, decide_eq_true rfl, Bool.or_true]
  · intro e
    refine tb_ext (fun i => ?_)
    rw [tb_or, Bool.or_eq_true, decide_eq_true_eq]
    exact ⟨fun q => q.elim id (fun q => q ▸ e), .inl⟩
theorem sk_plc {f : Nat → Int32} {H z d : Nat} (l : lcP f H d) : (skN f H z 12).testBit (plc d) = true ↔ z.testBit (ixP f H (plc d)) = true := by
  rw [sk_tb 12]
  constructor
  · rintro (e | e)
    · rw [l.2.2.2.2.2.1] at e; exact absurd e (by decide)
    · exact e.2.2
  · exact fun e => .inr ⟨l.2.2.2.1, l.2.2.2, e⟩
theorem q_X5_taught {h : HI} {g : HL} {f : Nat → Int32} {H n z y d : Nat} (v : VR f) (hH : H ≤ 3) (hn : n ≤ 8) (G : PG h f H n) (hy : y < n) (hz : z < 2 ^ ixP f H 12) (hp : pcN z (ixP f H 12) ≤ y) (B : TBl h f H n (y + 1)) (l : lcP f H d) : w_X5_taught (nI y) (nI z) (nI (cntL f H d)) h g (fun r h' _ => h = h' ∧ ((mayP f H (skN f H z 12) y (d + 1) ∧ r = nI (wP f H n (n - 1 - y) (skN f H z 12) (d + 1))) ∨ (¬ mayP f H (skN f H z 12) y (d + 1) ∧ r = -1))) := by
  have i8 := ixP_8 v hH
  have p8 : 2 ^ ixP f H 12 ≤ 256 := (Nat.pow_le_pow_right (by decide) i8 : 2 ^ ixP f H 12 ≤ 2 ^ 8)
  have h16 := cntL_16 v hH
  have d48 := l.1
  have hi := cntL_lt l d48
  have hx := ixP_lt l.2.2.2 l.2.2.2.1
  have sl := sk_lt (z := z) v hH 12 (Nat.le_refl 12)
  obtain ⟨e19, e20⟩ := G.2.2.1.2 d d48 l
  obtain ⟨A, A8, eA, A2⟩ := G.2.2.2.2 y (by omega)
  have m3 : d % 4 < 3 := by
    have h := l.2.2.2.1
    unfold plc at h; omega
  have no : ¬ mayP f H (skN f H z 12) y (d + 1) → h = h ∧ ((mayP f H (skN f H z 12) y (d + 1) ∧ (-1 : Int32) = nI (wP f H n (n - 1 - y) (skN f H z 12) (d + 1))) ∨ (¬ mayP f H (skN f H z 12) y (d + 1) ∧ (-1 : Int32) = -1)) := fun n => ⟨rfl, .inr ⟨n, rfl⟩⟩
  unfold w_X5_taught
  refine c_wb (fun _ => ⟨fun _ => ?_, fun c => absI c⟩) (fun q => absurd ((bd_of (n := cntL f H d) (a := 0) (b := 15) (by omega) (by omega) (by omega)).mo (by decide) (by decide)) q)
  refine c_wb (fun _ => ⟨fun c => absI c, fun _ => ?_⟩) (fun q => absurd ((bd_of (n := y) (a := 0) (b := 7) (by omega) (by omega) (by omega)).mo (by decide) (by decide)) q)
  refine c_wb (fun _ => ⟨fun _ => ?_, fun c => absI c⟩) (fun q => absurd ((bd_of (n := z) (a := 0) (b := 255) (by omega) (by omega) (by omega)).mo (by decide) (by decide)) q)
  rw [nI_clamp (n := cntL f H d) (by omega), nI_clamp (n := y) (by omega), nI_clamp (n := z) (by omega), e19, e20, eA, ls1 d d48, ls2 d d48, ls3 d d48, shl_t (d % 4) (by omega)]
  have vi : vp_in (nI (cntL f H d)) 16 := vp_in_nI (by omega) (by omega)
  have vy : vp_in (nI y) 8 := vp_in_nI (by omega) (by omega)
  refine and_have vi (fun _ => ?_)
  rintro _ rfl
  rw [shl_t (d / 16) (by omega), nI_or]
  refine and_have vi (fun _ => ?_)
  rintro _ rfl
  rw [nI_or]
  refine and_have vi (fun _ => ?_)
  rintro _ rfl
  have bz8 : 2 ^ (d / 16) ||| 2 ^ (d % 4) < 8 := Nat.or_lt_two_pow (n := 3) (Nat.pow_lt_pow_right (by decide) (by omega)) (Nat.pow_lt_pow_right (by decide) (by omega))
  have nx8 : z ||| 2 ^ ixP f H (plc d) < 2 ^ ixP f H 12 := or_lt hz hx
  rw [nI_and, nI_eq (Nat.lt_of_le_of_lt Nat.and_le_left (by omega)) (by omega), both_of, nI_eq (by omega) (by omega), same_of]
  refine and_have vy (fun _ => ⟨fun nb => no (fun m => nb ⟨(A2 _).mpr m.2.1, (A2 _).mpr m.2.2.1⟩), fun bo => ?_⟩)
  have t1 : thP f H y (d / 16) := (A2 _).mp bo.1
  have t2 : thP f H y (d % 4) := (A2 _).mp bo.2
  refine ⟨fun e => no (fun m => ?_), fun e => ?_⟩
  · have h1 := m.2.2.2.2
    rw [show 4 * (d % 4) + d / 4 % 4 = plc d from rfl, (sk_plc l).mpr e] at h1
    exact absurd h1 (by decide)
  have lack : (skN f H z 12).testBit (4 * (d % 4) + d / 4 % 4) = false := Bool.eq_false_iff.mpr (fun q => e ((sk_plc l).mp q))
  refine ⟨fun _ => ?_, fun big => absurd ((nI_ltI (a := z ||| 2 ^ ixP f H (plc d)) (b := 256) (by omega) (by omega)).mpr (by omega)) big⟩
  refine and_have (vp_in_nI (by omega) (by omega)) (fun _ => and_have vi (fun _ => ?_))
  rw [G.2.1.2.2 z hz]
  refine c_kn (by omega) (by omega) (fun kn => ⟨fun _ => ?_, fun c => absI c⟩) (fun kn => ⟨fun c => absurd rfl c, fun _ => no (fun m => kn m.2.2.2.1)⟩)
  have may : mayP f H (skN f H z 12) y (d + 1) := ⟨l.2.1, t1, t2, kn, lack⟩
  refine and_have vy (fun _ => ?_)
  rw [eA, show (-1 : Int32) = nI 4294967295 by decide, nI_xor, nI_and]
  have F8 : A &&& ((2 ^ (d / 16) ||| 2 ^ (d % 4)) ^^^ 4294967295) < 8 := Nat.lt_of_le_of_lt Nat.and_le_left A8
  refine c_i (q_X5_runsBy (a := d + 1) (y := y) v hH G hz F8 (fun i hi' => ?_)) ?_
  · rw [Nat.testBit_and, Nat.testBit_xor, show (4294967295 : Nat) = 2 ^ 32 - 1 by decide, Nat.testBit_two_pow_sub_one, decide_eq_true (show i < 32 by omega), Bool.and_eq_true, A2 i, Bool.xor_true, Bool.not_eq_true', Nat.testBit_or, Nat.testBit_two_pow, Nat.testBit_two_pow]
    constructor
    · rintro ⟨e1, e2⟩
      refine ⟨e1, fun b => ?_⟩
      rcases b with b | b
      · rw [decide_eq_true b, Bool.true_or] at e2; exact absurd e2 (by decide)
      · rw [decide_eq_true b, Bool.or_true] at e2; exact absurd e2 (by decide)
    · rintro ⟨e1, e2⟩
      exact ⟨e1, by rw [decide_eq_false (fun q => e2 (.inl q)), decide_eq_false (fun q => e2 (.inr q))]; rfl⟩
  rintro _ _ g1 ⟨rfl, rfl⟩
  have hp2 : pcN (z ||| 2 ^ ixP f H (plc d)) (ixP f H 12) ≤ y + 1 := by
    have := pcN_or (z := z) (s := ixP f H (plc d)) (k := ixP f H 12)
    rw [if_pos hx] at this; omega
  rw [nI_1, nI_clamp (n := y + 1) (by omega), nI_clamp (n := z ||| 2 ^ ixP f H (plc d)) (by omega), B _ nx8 hp2, nI_add, sk_or l.2.2.2]
  refine and_have (vp_in_nI (by omega) (by omega)) (fun _ => and_have (vp_in_nI (by omega) (by omega)) (fun _ => ⟨rfl, .inl ⟨may, ?_⟩⟩))
  unfold wP
  rw [show n - (n - 1 - y + 1) = y by omega, show n - (y + 1) = n - 1 - y by omega]; rfl
/-- the best lesson is one of the class's -/
theorem lc_of {f : Nat → Int32} {H z y d : Nat} (v : VR f) (hH : H ≤ 3) (hd : d < 48) (m : mayP f H (skN f H z 12) y (d + 1)) (nd : 0 < ndP f (d / 4 % 4)) : lcP f H d := by
  obtain ⟨h1, h2⟩ := mayP_lt hH m
  obtain ⟨m1, m2, m3, m4, m5⟩ := m
  refine ⟨hd, m1, m2.1, by unfold plc; omega, by have := m3.1; unfold plc; omega, ?_, ?_, ?_⟩
  · exact Bool.eq_false_iff.mpr (fun q => by
      have := (sk_tb (f := f) (H := H) (z := z) 12).mpr (.inl q)
      rw [show (skN f H z 12).testBit (plc d) = false from m5] at this
      exact absurd this (by decide))
  · have := sk_gd (z := z) v hH _ _ h1 (show d / 4 % 4 < 4 by omega) m4
    rw [show plc d % 4 = d / 4 % 4 by unfold plc; omega]; exact this
  · rw [show plc d % 4 = d / 4 % 4 by unfold plc; omega]; exact nd
theorem bk_us {f : Nat → Int32} {H n z y b a : Nat} (v : VR f) (hH : H ≤ 3) (hy : y < n) (k : BK (wP f H n (n - 1 - y) (skN f H z 12)) (mayP f H (skN f H z 12) y) 49 b a) : a = 0 ∨ ∃ d, a = d + 1 ∧ lcP f H d ∧ wP f H n (n - 1 - y) (skN f H z 12) 0 < b := by
  match a, k with
  | 0, _ => exact .inl rfl
  | d + 1, k =>
    have h0 := k.2.2.2.2 0 (by omega) trivial
    have hd := k.1
    refine .inr ⟨d, rfl, lc_of v hH (by omega) k.2.1 (Nat.pos_of_ne_zero (fun q => ?_)), h0⟩
    have gd := sk_gd (z := z) v hH
    have low : wP f H n (n - 1 - y) (skN f H z 12) (d + 1) ≤ wP f H n (n - 1 - y) (skN f H z 12) 0 := by
      unfold wP
      refine Nat.add_le_add (rnP_le 4) (Nat.le_of_eq ?_)
      exact vlP_q hH _ _ _ (gd.nx hH k.2.1) gd (EqP.un q)
    have := k.2.2.1
    omega
end
