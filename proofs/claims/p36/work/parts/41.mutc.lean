section
-- 41.mutc
theorem p_putF {h : HI} {g : HL} {o m w M : Nat} (T : TT h o m w M) {a b v : Int32} (ha : a < 0 ∨ h o 3 ≤ a) : w_X8_put o a b v h g (fun h' g' => h = h' ∧ g = g') := by
  unfold w_X8_put
  rcases ha with c | c
  · exact ⟨fun _ => ⟨rfl, rfl⟩, fun d => absurd c d⟩
  · exact ⟨fun _ => ⟨rfl, rfl⟩, fun _ => ⟨fun _ => ⟨rfl, rfl⟩, fun d => absurd c d⟩⟩
theorem p_putJ {h : HI} {g : HL} {o m w M : Nat} (T : TT h o m w M) {a b v : Int32} : w_X8_put o a b v h g (fun h' g' => g = g' ∧ JJ (SB o) h h' ∧ TT h' o m w M) := by
  have triv : g = g ∧ JJ (SB o) h h ∧ TT h o m w M := ⟨rfl, JJ.rf, T⟩
  have hT := T
  obtain ⟨h1, h2, h3, hm, hN, hw0, hw, hM0, hM⟩ := T
  have hMw : M * w ≤ 100 * 20 := Nat.mul_le_mul hM hw
  unfold w_X8_put
  refine ⟨fun _ => triv, fun c1 => ⟨fun _ => triv, fun c2 => ⟨fun _ => triv, fun c3 => ⟨fun c4 => ?_, fun _ => triv⟩⟩⟩⟩
  obtain ⟨ja, hja, rfl⟩ := nI_of c1
  obtain ⟨jb, hjb, rfl⟩ := nI_of c3
  have ha : ja < m := by
    rw [h3, nI_leI (by omega) (by omega)] at c2
    omega
  have hb : jb < w := by
    rw [h1, nI_ltI (by omega) (by omega)] at c4
    exact c4
  have hlt : ja * w + jb < M * w := by
    have : (ja + 1) * w ≤ M * w := Nat.mul_le_mul_right w (by omega)
    rw [Nat.add_mul, Nat.one_mul] at this
    omega
  intro x ex
  rw [h1, pk_mul, nI_add] at ex
  subst ex
  refine ⟨fun _ => triv, fun _ => ⟨by rw [hN]; exact vp_in_nI hlt (by omega), ?_⟩⟩
  intro h' e'
  exact ⟨rfl, JJ.rf.hu e' (by unfold SB; omega), hT.cg (by rw [e', hu_ne (by omega)])⟩
theorem SB.sm {o : Nat} (q : Nat) (h : SB o q) : SM o q := by unfold SB at h; unfold SM; omega
theorem SC.sm {o : Nat} (q : Nat) (h : SC q) : SM o q := by unfold SC at h; unfold SM; omega
theorem SLaw.sm {o : Nat} (q : Nat) (h : SLaw q) : SM o q := by unfold SLaw at h; unfold SM; omega
theorem SBrk.sc (q : Nat) (h : SBrk q) : SC q := by unfold SBrk at h; unfold SC; omega
def K_chain (x1 x2 : Int32) : Prop := bd (-100000) 100000 x1 ∧ bd x1.toInt 100000 x2
theorem p_X10_chain {h : HI} {g : HL} {m : Nat} (T : TT h 8 m 15 16) {x1 x2 : Int32} : w_X10_chain x1 x2 h g (fun r h' _ => ADc (K_chain x1 x2) h r h' 8 m 15 16 0) := by
  unfold w_X10_chain
  refine c_wb (fun q0 => ⟨fun c => absI c, fun _ => ?_⟩) (fun q0 => ⟨fun _ => .inl ⟨fun hc => q0 (bd.mo hc.1 (by decide) (by decide)), rfl, rfl⟩, fun c => absN c⟩)
  refine c_wb (fun q1 => ⟨fun _ => ?_, fun c => absI c⟩) (fun q1 => ⟨fun c => absurd rfl c, fun _ => .inl ⟨fun hc => q1 (bd.mo hc.2 (Int.le_refl _) (by decide)), rfl, rfl⟩⟩)
  have hC : K_chain x1 x2 := ⟨bd.mo q0 (by decide) (by decide), bd.mo q1 (Int.le_refl _) (by decide)⟩
  by_cases hm : m = 16
  · refine c_i (p_addF T hm) ?_
    rintro _ _ _ ⟨rfl, rfl, rfl⟩
    exact .inr (.inl ⟨hC, hm, rfl, rfl⟩)
  · have hlt : m < 16 := by have := T.2.2.2.1; omega
    refine c_i (p_add T hlt) ?_
    rintro _ h1 g1 ⟨rfl, -, J, T1, -, -⟩
    exact .inr (.inr ⟨hC, hlt, rfl, J.mo SB.sm, T1⟩)
def K_work (x1 x2 x3 x4 : Int32) : Prop := ¬ x1 = 0 ∧ bd (-500) 500 x1 ∧ bd 1 1000 x2 ∧ bd 1 3000 x3 ∧ bd x3.toInt 3000 x4
theorem p_X10_work {h : HI} {g : HL} {m : Nat} (T : TT h 10 m 4 8) {x1 x2 x3 x4 : Int32} : w_X10_work x1 x2 x3 x4 h g (fun r h' _ => ADc (K_work x1 x2 x3 x4) h r h' 10 m 4 8 0) := by
  unfold w_X10_work
  refine ⟨fun c => .inl ⟨fun hc => hc.1 c, rfl, rfl⟩, fun cz => ?_⟩
  refine c_wb (fun q0 => ⟨fun c => absI c, fun _ => ?_⟩) (fun q0 => ⟨fun _ => .inl ⟨fun hc => q0 (bd.mo hc.2.1 (by decide) (by decide)), rfl, rfl⟩, fun c => absN c⟩)
  refine c_wb (fun q1 => ⟨fun _ => ?_, fun c => absI c⟩) (fun q1 => ⟨fun c => absurd rfl c, fun _ => .inl ⟨fun hc => q1 (bd.mo hc.2.2.1 (by decide) (by decide)), rfl, rfl⟩⟩)
  refine c_wb (fun q2 => ⟨fun c => absI c, fun _ => ?_⟩) (fun q2 => ⟨fun _ => .inl ⟨fun hc => q2 (bd.mo hc.2.2.2.1 (by decide) (by decide)), rfl, rfl⟩, fun c => absN c⟩)
  refine c_wb (fun q3 => ⟨fun _ => ?_, fun c => absI c⟩) (fun q3 => ⟨fun c => absurd rfl c, fun _ => .inl ⟨fun hc => q3 (bd.mo hc.2.2.2.2 (Int.le_refl _) (by decide)), rfl, rfl⟩⟩)
  have hC : K_work x1 x2 x3 x4 := ⟨cz, bd.mo q0 (by decide) (by decide), bd.mo q1 (by decide) (by decide), bd.mo q2 (by decide) (by decide), bd.mo q3 (Int.le_refl _) (by decide)⟩
  by_cases hm : m = 8
  · refine c_i (p_addF T hm) ?_
    rintro _ _ _ ⟨rfl, rfl, rfl⟩
    exact .inr (.inl ⟨hC, hm, rfl, rfl⟩)
  · have hlt : m < 8 := by have := T.2.2.2.1; omega
    refine c_i (p_add T hlt) ?_
    rintro _ h1 g1 ⟨rfl, -, J, T1, -, -⟩
    exact .inr (.inr ⟨hC, hlt, rfl, J.mo SB.sm, T1⟩)
theorem nI_m4 {m : Nat} (h : m < 2 ^ 31) : ¬ nI m = -4 := fun e => by
  have := nI_toInt h
  rw [e, show (-4 : Int32).toInt = -4 by decide] at this
  omega
def K_told (x1 : Int32) : Prop := bd 0 100 x1
theorem p_X10_told {h : HI} {g : HL} {m : Nat} (T : TT h 18 m 2 40) {x1 x2 : Int32} : w_X10_told x1 x2 h g (fun r h' _ => ADc (K_told x1) h r h' 18 m 2 40 1) := by
  have fin : ∀ s2 : Int32, K_told x1 → j_X10_told_30 (fun r h' _ => ADc (K_told x1) h r h' 18 m 2 40 1) x1 s2 h g := by
    intro s2 hC
    unfold j_X10_told_30
    by_cases hm : m = 40
    · refine c_i (p_addF T hm) ?_
      rintro _ _ _ ⟨rfl, rfl, rfl⟩
      exact ⟨fun c => absurd rfl c, fun _ => .inr (.inl ⟨hC, hm, rfl, rfl⟩)⟩
    · have hlt : m < 40 := by have := T.2.2.2.1; omega
      refine c_i (p_add T hlt) ?_
      rintro _ h1 g1 ⟨rfl, -, J, T1, -, -⟩
      refine ⟨fun _ => ?_, fun c => absurd c (nI_m4 (by omega))⟩
      refine c_i p_rows ?_
      rintro _ _ _ ⟨rfl, rfl, rfl⟩
      exact .inr (.inr ⟨hC, hlt, T1.2.2.1, J.mo SB.sm, T1⟩)
  unfold w_X10_told
  refine c_wb (fun q0 => ⟨fun _ => ?_, fun c => absI c⟩) (fun q0 => ⟨fun c => absurd rfl c, fun _ => .inl ⟨fun hc => q0 (bd.mo hc (by decide) (by decide)), rfl, rfl⟩⟩)
  have hC : K_told x1 := bd.mo q0 (by decide) (by decide)
  exact ⟨fun _ => fin _ hC, fun _ => fin _ hC⟩
def K_write (x1 : Int32) : Prop := bd 0 127 x1
theorem p_X10_write {h : HI} {g : HL} (hC0 : CI h) {m : Nat} (T : TT h 24 m 1 60) {x1 : Int32} : w_X10_write x1 h g (fun r h' _ => ADc (K_write x1) h r h' 24 m 1 60 1) := by
  unfold w_X10_write
  refine c_wb (fun q0 => ⟨fun _ => ?_, fun c => absI c⟩) (fun q0 => ⟨fun c => absurd rfl c, fun _ => .inl ⟨fun hc => q0 (bd.mo hc (by decide) (by decide)), rfl, rfl⟩⟩)
  have hC : K_write x1 := bd.mo q0 (by decide) (by decide)
  by_cases hm : m = 60
  · refine c_i (p_addF T hm) ?_
    rintro _ _ _ ⟨rfl, rfl, rfl⟩
    exact ⟨fun c => absurd rfl c, fun _ => .inr (.inl ⟨hC, hm, rfl, rfl⟩)⟩
  · have hlt : m < 60 := by have := T.2.2.2.1; omega
    refine c_i (p_add T hlt) ?_
    rintro _ h1 g1 ⟨rfl, -, J, T1, -, -⟩
    refine ⟨fun _ => ?_, fun c => absurd c (nI_m4 (by omega))⟩
    have C1 : CI h1 := fun o ho => by
      by_cases e : o = 24
      · subst e; exact ⟨_, _, _, T1⟩
      · obtain ⟨m', w', M', T'⟩ := hC0 o ho
        refine ⟨m', w', M', T'.cg (J o ?_)⟩
        have : o ≠ 25 := fun e2 => (by decide : ∀ o ∈ isTL, o ≠ 25) o ho e2
        unfold SB; omega
    refine c_v (p_X4_read C1) ?_
    rintro h2 g2 J2
    refine c_i p_rows ?_
    rintro _ _ _ ⟨rfl, rfl, rfl⟩
    have e24 : h2 24 = h1 24 := J2 24 (by unfold SLaw; omega)
    refine .inr (.inr ⟨hC, hlt, ?_, (J.mo SB.sm).tr (J2.mo SLaw.sm), T1.cg e24⟩)
    rw [e24]; exact T1.2.2.1
def K_say (c x1 x2 x3 x4 x5 : Int32) : Prop := isRow c x1 ∧ bd 0 3 x2 ∧ bd (-10000) 100000 x3 ∧ (x2 = 0 ∨ x2 = 1 → bd 0 10000 x4) ∧ (x2 = 0 → bd 0 99 x5)
theorem p_X10_say {h : HI} {g : HL} {m : Nat} (T : TT h 6 m 6 60) {x1 x2 x3 x4 x5 : Int32} : w_X10_say x1 x2 x3 x4 x5 h g (fun r h' _ => ADc (K_say (h 2 3) x1 x2 x3 x4 x5) h r h' 6 m 6 60 0) := by
  have fin : ∀ e y : Int32, isRow (h 2 3) x1 → bd 0 3 x2 → bd (-10000) 100000 x3 → (bd 0 10000 e ∧ bd 0 99 y ↔ (x2 = 0 ∨ x2 = 1 → bd 0 10000 x4) ∧ (x2 = 0 → bd 0 99 x5)) → j_X10_say_65 (fun r h' _ => ADc (K_say (h 2 3) x1 x2 x3 x4 x5) h r h' 6 m 6 60 0) x1 x2 x3 e y h g := by
    intro e y k1 k2 k3 k4
    unfold j_X10_say_65
    refine c_wb (fun q0 => ⟨fun c => absI c, fun _ => ?_⟩) (fun q0 => ⟨fun _ => .inl ⟨fun hc => q0 (bd.mo (k4.mpr hc.2.2.2).1 (by decide) (by decide)), rfl, rfl⟩, fun c => absN c⟩)
    refine c_wb (fun q1 => ⟨fun _ => ?_, fun c => absI c⟩) (fun q1 => ⟨fun c => absurd rfl c, fun _ => .inl ⟨fun hc => q1 (bd.mo (k4.mpr hc.2.2.2).2 (by decide) (by decide)), rfl, rfl⟩⟩)
    have hC : K_say (h 2 3) x1 x2 x3 x4 x5 := ⟨k1, k2, k3, k4.mp ⟨bd.mo q0 (by decide) (by decide), bd.mo q1 (by decide) (by decide)⟩⟩
    by_cases hm : m = 60
    · refine c_i (p_addF T hm) ?_
      rintro _ _ _ ⟨rfl, rfl, rfl⟩
      refine c_v (p_putF T (a := -4) (.inl (by decide))) ?_
      rintro _ _ ⟨rfl, rfl⟩
      exact .inr (.inl ⟨hC, hm, rfl, rfl⟩)
    · have hlt : m < 60 := by have := T.2.2.2.1; omega
      refine c_i (p_add T hlt) ?_
      rintro _ h1 g1 ⟨rfl, -, J, T1, -, -⟩
      refine c_v (p_putJ T1) ?_
      rintro h2 g2 ⟨-, J2, T2⟩
      exact .inr (.inr ⟨hC, hlt, rfl, (J.mo SB.sm).tr (J2.mo SB.sm), T2⟩)
  have z4 : bd 0 10000 (0 : Int32) := by unfold bd; decide
  have z5 : bd 0 99 (0 : Int32) := by unfold bd; decide
  have n01 : ¬ (0 : Int32) = 1 := by decide
  unfold w_X10_say
  refine c_hb (fun q0 => ⟨fun c => absI c, fun _ => ?_⟩) (fun q0 => ⟨fun _ => .inl ⟨fun hc => q0 hc.1, rfl, rfl⟩, fun c => absN c⟩)
  refine c_wb (fun q1 => ⟨fun c => absI c, fun _ => ?_⟩) (fun q1 => ⟨fun _ => .inl ⟨fun hc => q1 (bd.mo hc.2.1 (by decide) (by decide)), rfl, rfl⟩, fun c => absN c⟩)
  refine c_wb (fun q2 => ⟨fun _ => ?_, fun c => absI c⟩) (fun q2 => ⟨fun c => absurd rfl c, fun _ => .inl ⟨fun hc => q2 (bd.mo hc.2.2.1 (by decide) (by decide)), rfl, rfl⟩⟩)
  have k2 : bd 0 3 x2 := bd.mo q1 (by decide) (by decide)
  have k3 : bd (-10000) 100000 x3 := bd.mo q2 (by decide) (by decide)
  refine ⟨fun e0 => ?_, fun e0 => ⟨fun e1 => ?_, fun e1 => ?_⟩⟩
  · unfold j_X10_say_47 j_X10_say_53
    exact ⟨fun c => absurd e0 c, fun _ => fin x4 x5 q0 k2 k3 ⟨fun k => ⟨fun _ => k.1, fun _ => k.2⟩, fun k => ⟨k.1 (.inl e0), k.2 e0⟩⟩⟩
  · unfold j_X10_say_53
    exact ⟨fun _ => fin 0 0 q0 k2 k3 ⟨fun k => ⟨fun c => absurd c (fun c => c.elim e0 e1), fun c => absurd c e0⟩, fun k => ⟨z4, z5⟩⟩, fun c => absurd c e0⟩
  · unfold j_X10_say_47 j_X10_say_53
    exact ⟨fun _ => fin x4 0 q0 k2 k3 ⟨fun k => ⟨fun _ => k.1, fun c => absurd c e0⟩, fun k => ⟨k.1 (.inr e1), z5⟩⟩, fun c => absurd c e0⟩
def K_fam (x1 x2 x3 x4 : Int32) : Prop := bd 0 3 x1 ∧ bd 1 100000 x2 ∧ bd 1 100000 x3 ∧ bd 1 100000 x4 ∧ lg_cmp (x2.toInt64 + (x4.toInt64 - 1) * x3.toInt64) 100000 ≤ 0
/-- a call that changes cells of one table -/
def PTc (A : Prop) (h h' : HI) (o m w M : Nat) : Prop := A ∧ JJ (SM o) h h' ∧ TT h' o m w M
def ANS (C : Prop) (r a : Int32) : Prop := C ∧ r = a ∨ ¬ C ∧ r = -2
theorem row4 {c x : Int32} {n : Nat} (e : c = nI n) (hn : n < 1000) : isRow c x ↔ bd 0 ((n : Int) - 1) x := by
  unfold isRow bd
  rw [e, nI_toInt (by omega)]; omega
theorem p_X10_family {h : HI} {g : HL} (T : TT h 4 4 3 4) {x1 x2 x3 x4 : Int32} : w_X10_family x1 x2 x3 x4 h g (fun r h' _ => PTc (ANS (K_fam x1 x2 x3 x4) r 1) h h' 4 4 3 4) := by
  have bad : ¬ K_fam x1 x2 x3 x4 → PTc (ANS (K_fam x1 x2 x3 x4) (-2) 1) h h 4 4 3 4 := fun k => ⟨.inr ⟨k, rfl⟩, JJ.rf, T⟩
  have e4 : isRow (h 4 3) x1 ↔ bd 0 3 x1 := row4 T.2.2.1 (by omega)
  unfold w_X10_family
  refine c_hb (fun q0 => ⟨fun c => absI c, fun _ => ?_⟩) (fun q0 => ⟨fun _ => bad (fun hc => q0 (e4.mpr hc.1)), fun c => absN c⟩)
  refine c_wb (fun q1 => ⟨fun _ => ?_, fun c => absI c⟩) (fun q1 => ⟨fun c => absurd rfl c, fun _ => bad (fun hc => q1 (bd.mo hc.2.1 (by decide) (by decide)))⟩)
  refine c_wb (fun q2 => ⟨fun c => absI c, fun _ => ?_⟩) (fun q2 => ⟨fun _ => bad (fun hc => q2 (bd.mo hc.2.2.1 (by decide) (by decide))), fun c => absN c⟩)
  refine c_wb (fun q3 => ⟨fun _ => ?_, fun c => absI c⟩) (fun q3 => ⟨fun c => absurd rfl c, fun _ => bad (fun hc => q3 (bd.mo hc.2.2.2.1 (by decide) (by decide)))⟩)
  refine ⟨fun q4 => ?_, fun q4 => bad (fun hc => q4 hc.2.2.2.2)⟩
  have hC : K_fam x1 x2 x3 x4 := ⟨e4.mp q0, bd.mo q1 (by decide) (by decide), bd.mo q2 (by decide) (by decide), bd.mo q3 (by decide) (by decide), q4⟩
  refine c_v (p_putJ T) ?_
  rintro h1 g1 ⟨-, J1, T1⟩
  refine c_v (p_putJ T1) ?_
  rintro h2 g2 ⟨-, J2, T2⟩
  refine c_v (p_putJ T2) ?_
  rintro h3 g3 ⟨-, J3, T3⟩
  exact ⟨.inl ⟨hC, rfl⟩, ((J1.tr J2).tr J3).mo SB.sm, T3⟩
theorem p_X10_erase {h : HI} {g : HL} (hC0 : CI h) {m : Nat} (T : TT h 24 m 1 60) : w_X10_erase h g (fun r h' _ => PTc (r = nI m) h h' 24 0 1 60) := by
  unfold w_X10_erase
  refine c_i p_rows ?_
  rintro _ _ _ ⟨rfl, rfl, rfl⟩
  refine c_v (p_empty T) ?_
  rintro h1 g1 ⟨-, J, T1⟩
  have C1 : CI h1 := fun o ho => by
    by_cases e : o = 24
    · subst e; exact ⟨_, _, _, T1⟩
    · obtain ⟨m', w', M', T'⟩ := hC0 o ho
      exact ⟨m', w', M', T'.cg (J o e)⟩
  refine c_v (p_X4_read C1) ?_
  rintro h2 g2 J2
  exact ⟨T.2.2.1, (J.mo (fun q hq => by unfold SO at hq; unfold SM; omega)).tr (J2.mo SLaw.sm), T1.cg (J2 24 (by unfold SLaw; omega))⟩
theorem p_X10_deny {h : HI} {g : HL} (hC0 : CI h) {m : Nat} (T : TT h 6 m 6 60) {x1 x2 : Int32} : w_X10_deny x1 x2 h g (fun _ h' _ => PTc True h h' 6 m 6 60) := by
  have triv : PTc True h h 6 m 6 60 := ⟨trivial, JJ.rf, T⟩
  have j26 : ∀ s : Int32, j_X10_deny_26 (fun _ h' _ => PTc True h h' 6 m 6 60) x1 s h g := by
    intro s
    unfold j_X10_deny_26
    refine c_i (p_at hC0 gs_6) ?_
    rintro _ _ _ ⟨rfl, rfl, rfl⟩
    refine ⟨fun _ => ?_, fun _ => triv⟩
    refine c_v (p_putJ T) ?_
    rintro h1 g1 ⟨-, J1, T1⟩
    exact ⟨trivial, J1.mo SB.sm, T1⟩
  unfold w_X10_deny
  exact c_hb (fun q0 => ⟨fun _ => ⟨fun _ => j26 _, fun _ => j26 _⟩, fun c => absI c⟩) (fun q0 => ⟨fun c => absurd rfl c, fun _ => triv⟩)
theorem p_X10_link {h : HI} {g : HL} (hC0 : CI h) {m : Nat} (T : TT h 8 m 15 16) {x1 x2 x3 : Int32} : w_X10_link x1 x2 x3 h g (fun _ h' _ => PTc True h h' 8 m 15 16) := by
  have triv : PTc True h h 8 m 15 16 := ⟨trivial, JJ.rf, T⟩
  unfold w_X10_link
  refine c_hb (fun q0 => ⟨fun c => absI c, fun _ => ?_⟩) (fun q0 => ⟨fun _ => triv, fun c => absN c⟩)
  refine c_hb (fun q0 => ⟨fun c => absI c, fun _ => ?_⟩) (fun q0 => ⟨fun _ => triv, fun c => absN c⟩)
  refine c_z (p_X6_isIn hC0) ?_
  rintro r _ _ ⟨rfl, rfl⟩
  refine ⟨fun _ => ?_, fun _ => triv⟩
  refine c_i (p_at hC0 gs_8) ?_
  rintro _ _ _ ⟨rfl, rfl, rfl⟩
  refine ⟨fun _ => ?_, fun _ => triv⟩
  refine c_v (p_putJ T) ?_
  rintro h1 g1 ⟨-, J1, T1⟩
  have j : ∀ a b c d : Int32, j_X10_link_110 (fun _ h' _ => PTc True h h' 8 m 15 16) x1 a b c d h1 g1 := by
    intro a b c d
    unfold j_X10_link_110
    refine c_v (p_putJ T1) ?_
    rintro h2 g2 ⟨-, J2, T2⟩
    refine c_v (p_putJ T2) ?_
    rintro h3 g3 ⟨-, J3, T3⟩
    exact ⟨trivial, ((J1.tr J2).tr J3).mo SB.sm, T3⟩
  exact ⟨fun _ => j _ _ _ _, fun _ => j _ _ _ _⟩
theorem p_X10_scrap {h : HI} {g : HL} {m n : Nat} (T : TT h 12 m 1 6) (U : TT h 14 n 3 9) : w_X10_scrap h g (fun r h' _ => r = nI m + nI n ∧ JJ (fun q => q = 12 ∨ q = 14) h h' ∧ TT h' 12 0 1 6 ∧ TT h' 14 0 3 9) := by
  unfold w_X10_scrap
  refine c_i p_rows ?_
  rintro _ _ _ ⟨rfl, rfl, rfl⟩
  refine c_i p_rows ?_
  rintro _ _ _ ⟨rfl, rfl, rfl⟩
  rintro _ rfl
  refine c_v (p_empty T) ?_
  rintro h1 g1 ⟨-, J1, T1⟩
  refine c_v (p_empty (U.cg (J1 14 (by unfold SO; omega)))) ?_
  rintro h2 g2 ⟨-, J2, U2⟩
  exact ⟨by rw [T.2.2.1, U.2.2.1], (J1.mo (fun q hq => by unfold SO at hq; omega)).tr (J2.mo (fun q hq => by unfold SO at hq; omega)), T1.cg (J2 12 (by unfold SO; omega)), U2⟩
def K_odds (x1 x2 : Int32) : Prop := bd 0 9 x1 ∧ bd 0 9 x2
theorem p_X10_odds {h : HI} {g : HL} (T : TT h 16 1 2 1) {x1 x2 : Int32} : w_X10_odds x1 x2 h g (fun r h' _ => PTc (ANS (K_odds x1 x2) r 1) h h' 16 1 2 1) := by
  have bad : ¬ K_odds x1 x2 → PTc (ANS (K_odds x1 x2) (-2) 1) h h 16 1 2 1 := fun k => ⟨.inr ⟨k, rfl⟩, JJ.rf, T⟩
  unfold w_X10_odds
  refine c_wb (fun q1 => ⟨fun c => absI c, fun _ => ?_⟩) (fun q1 => ⟨fun _ => bad (fun hc => q1 (bd.mo hc.1 (by decide) (by decide))), fun c => absN c⟩)
  refine c_wb (fun q2 => ⟨fun _ => ?_, fun c => absI c⟩) (fun q2 => ⟨fun c => absurd rfl c, fun _ => bad (fun hc => q2 (bd.mo hc.2 (by decide) (by decide)))⟩)
  refine c_v (p_putJ T) ?_
  rintro h1 g1 ⟨-, J1, T1⟩
  refine c_v (p_putJ T1) ?_
  rintro h2 g2 ⟨-, J2, T2⟩
  exact ⟨.inl ⟨⟨bd.mo q1 (by decide) (by decide), bd.mo q2 (by decide) (by decide)⟩, rfl⟩, (J1.tr J2).mo SB.sm, T2⟩
theorem p_X10_bear {h : HI} {g : HL} (hC0 : CI h) {m : Nat} (T : TT h 2 m 5 24) {x1 x2 x3 : Int32} : w_X10_bear x1 x2 x3 h g (fun _ h' _ => PTc True h h' 2 m 5 24) := by
  have triv : PTc True h h 2 m 5 24 := ⟨trivial, JJ.rf, T⟩
  have j65 : ∀ a b : Int32, j_X10_bear_65 (fun _ h' _ => PTc True h h' 2 m 5 24) x1 x2 x3 a b h g := by
    intro a b
    unfold j_X10_bear_65
    refine ⟨fun _ => ?_, fun _ => triv⟩
    refine c_v (p_putJ T) ?_
    rintro h1 g1 ⟨-, J1, T1⟩
    exact ⟨trivial, J1.mo SB.sm, T1⟩
  unfold w_X10_bear
  refine c_hb (fun q0 => ⟨fun c => absI c, fun _ => ?_⟩) (fun q0 => ⟨fun _ => triv, fun c => absN c⟩)
  refine c_hb (fun q0 => ⟨fun c => absI c, fun _ => ?_⟩) (fun q0 => ⟨fun _ => triv, fun c => absN c⟩)
  refine ⟨fun _ => ?_, fun _ => triv⟩
  refine c_i (p_at hC0 gs_2) ?_
  rintro _ _ _ ⟨rfl, rfl, rfl⟩
  exact ⟨fun _ => j65 _ _, fun _ => j65 _ _⟩
theorem p_X10_need {h : HI} {g : HL} (hC0 : CI h) (T : TT h 22 4 1 4) {x1 x2 : Int32} : w_X10_need x1 x2 h g (fun _ h' _ => PTc True h h' 22 4 1 4) := by
  have triv : PTc True h h 22 4 1 4 := ⟨trivial, JJ.rf, T⟩
  unfold w_X10_need
  refine c_hb (fun q0 => ⟨fun c => absI c, fun _ => ?_⟩) (fun q0 => ⟨fun _ => triv, fun c => absN c⟩)
  refine c_wb (fun q1 => ⟨fun _ => ?_, fun c => absI c⟩) (fun q1 => ⟨fun c => absurd rfl c, fun _ => triv⟩)
  refine c_i (p_at hC0 gs_22) ?_
  rintro _ _ _ ⟨rfl, rfl, rfl⟩
  refine c_v (p_putJ T) ?_
  rintro h1 g1 ⟨-, J1, T1⟩
  exact ⟨trivial, J1.mo SB.sm, T1⟩
def K_lasts (c x1 x2 : Int32) : Prop := isRow c x1 ∧ bd 0 60 x2
theorem p_X10_lasts {h : HI} {g : HL} (hC0 : CI h) {x1 x2 : Int32} : w_X10_lasts x1 x2 h g (fun r h' _ => ANS (K_lasts (h 2 3) x1 x2) r 1 ∧ JJ SC h h') := by
  unfold w_X10_lasts
  refine c_hb (fun q0 => ⟨fun c => absI c, fun _ => ?_⟩) (fun q0 => ⟨fun _ => ⟨.inr ⟨fun hc => q0 hc.1, rfl⟩, JJ.rf⟩, fun c => absN c⟩)
  refine c_wb (fun q1 => ⟨fun _ => ?_, fun c => absI c⟩) (fun q1 => ⟨fun c => absurd rfl c, fun _ => ⟨.inr ⟨fun hc => q1 (bd.mo hc.2 (by decide) (by decide)), rfl⟩, JJ.rf⟩⟩)
  refine c_v (p_X1_last hC0) ?_
  rintro h1 g1 J1
  exact ⟨.inl ⟨⟨q0, bd.mo q1 (by decide) (by decide)⟩, rfl⟩, J1.mo SBrk.sc⟩
def K_part (x1 x2 x3 x4 : Int32) : Prop := bd 0 100 x1 ∧ bd 1 100 x2 ∧ bd 0 99 x3 ∧ bd (-1) 3 x4
theorem p_X10_part {h : HI} {g : HL} {m : Nat} (T : TT h 2 m 5 24) {x1 x2 x3 x4 : Int32} : w_X10_part x1 x2 x3 x4 h g (fun r h' _ => ADc (K_part x1 x2 x3 x4) h r h' 2 m 5 24 0) := by
  unfold w_X10_part
  refine c_wb (fun q0 => ?_) (fun q0 => ?_)
  rotate_left
  · refine ⟨fun _ => ?_, fun c => absN c⟩
    exact .inl ⟨fun hc => q0 (bd.mo (hc.1) (by decide) (by decide)), rfl, rfl⟩
  refine ⟨fun c => absI c, fun _ => ?_⟩
  refine c_wb (fun q1 => ?_) (fun q1 => ?_)
  rotate_left
  · refine ⟨fun c => absurd rfl c, fun _ => ?_⟩
    exact .inl ⟨fun hc => q1 (bd.mo (hc.2.1) (by decide) (by decide)), rfl, rfl⟩
  refine ⟨fun _ => ?_, fun c => absI c⟩
  refine c_wb (fun q2 => ?_) (fun q2 => ?_)
  rotate_left
  · refine ⟨fun _ => ?_, fun c => absN c⟩
    exact .inl ⟨fun hc => q2 (bd.mo (hc.2.2.1) (by decide) (by decide)), rfl, rfl⟩
  refine ⟨fun c => absI c, fun _ => ?_⟩
  refine c_wb (fun q3 => ?_) (fun q3 => ?_)
  rotate_left
  · refine ⟨fun c => absurd rfl c, fun _ => ?_⟩
    exact .inl ⟨fun hc => q3 (bd.mo (hc.2.2.2) (by decide) (by decide)), rfl, rfl⟩
  refine ⟨fun _ => ?_, fun c => absI c⟩
  have hC : K_part x1 x2 x3 x4 := ⟨bd.mo q0 (by decide) (by decide), bd.mo q1 (by decide) (by decide), bd.mo q2 (by decide) (by decide), bd.mo q3 (by decide) (by decide)⟩
  by_cases hm : m = 24
  · refine c_i (p_addF T hm) ?_
    rintro _ _ _ ⟨rfl, rfl, rfl⟩
    exact .inr (.inl ⟨hC, hm, rfl, rfl⟩)
  · have hlt : m < 24 := by have := T.2.2.2.1; omega
    refine c_i (p_add T hlt) ?_
    rintro _ h1 g1 ⟨rfl, -, J, T1, -, -⟩
    exact .inr (.inr ⟨hC, hlt, rfl, J.mo (fun q hq => by unfold SB at hq; unfold SM; omega), T1⟩)
def K_machine (x1 : Int32) : Prop := bd 0 3 x1
theorem p_X10_machine {h : HI} {g : HL} {m : Nat} (T : TT h 12 m 1 6) {x1 : Int32} : w_X10_machine x1 h g (fun r h' _ => ADc (K_machine x1) h r h' 12 m 1 6 0) := by
  unfold w_X10_machine
  refine c_wb (fun q0 => ?_) (fun q0 => ?_)
  rotate_left
  · refine ⟨fun c => absurd rfl c, fun _ => ?_⟩
    exact .inl ⟨fun hc => q0 (bd.mo (hc) (by decide) (by decide)), rfl, rfl⟩
  refine ⟨fun _ => ?_, fun c => absI c⟩
  have hC : K_machine x1 := (bd.mo q0 (by decide) (by decide))
  by_cases hm : m = 6
  · refine c_i (p_addF T hm) ?_
    rintro _ _ _ ⟨rfl, rfl, rfl⟩
    exact .inr (.inl ⟨hC, hm, rfl, rfl⟩)
  · have hlt : m < 6 := by have := T.2.2.2.1; omega
    refine c_i (p_add T hlt) ?_
    rintro _ h1 g1 ⟨rfl, -, J, T1, -, -⟩
    exact .inr (.inr ⟨hC, hlt, rfl, J.mo (fun q hq => by unfold SB at hq; unfold SM; omega), T1⟩)
def K_spare (x1 x2 x3 : Int32) : Prop := bd 0 3 x1 ∧ bd 1 50 x2 ∧ bd (-1) 3 x3
theorem p_X10_spare {h : HI} {g : HL} {m : Nat} (T : TT h 14 m 3 9) {x1 x2 x3 : Int32} : w_X10_spare x1 x2 x3 h g (fun r h' _ => ADc (K_spare x1 x2 x3) h r h' 14 m 3 9 0) := by
  unfold w_X10_spare
  refine c_wb (fun q0 => ?_) (fun q0 => ?_)
  rotate_left
  · refine ⟨fun _ => ?_, fun c => absN c⟩
    exact .inl ⟨fun hc => q0 (bd.mo (hc.1) (by decide) (by decide)), rfl, rfl⟩
  refine ⟨fun c => absI c, fun _ => ?_⟩
  refine c_wb (fun q1 => ?_) (fun q1 => ?_)
  rotate_left
  · refine ⟨fun _ => ?_, fun c => absN c⟩
    exact .inl ⟨fun hc => q1 (bd.mo (hc.2.1) (by decide) (by decide)), rfl, rfl⟩
  refine ⟨fun c => absI c, fun _ => ?_⟩
  refine c_wb (fun q2 => ?_) (fun q2 => ?_)
  rotate_left
  · refine ⟨fun c => absurd rfl c, fun _ => ?_⟩
    exact .inl ⟨fun hc => q2 (bd.mo (hc.2.2) (by decide) (by decide)), rfl, rfl⟩
  refine ⟨fun _ => ?_, fun c => absI c⟩
  have hC : K_spare x1 x2 x3 := ⟨bd.mo q0 (by decide) (by decide), bd.mo q1 (by decide) (by decide), bd.mo q2 (by decide) (by decide)⟩
  by_cases hm : m = 9
  · refine c_i (p_addF T hm) ?_
    rintro _ _ _ ⟨rfl, rfl, rfl⟩
    exact .inr (.inl ⟨hC, hm, rfl, rfl⟩)
  · have hlt : m < 9 := by have := T.2.2.2.1; omega
    refine c_i (p_add T hlt) ?_
    rintro _ h1 g1 ⟨rfl, -, J, T1, -, -⟩
    exact .inr (.inr ⟨hC, hlt, rfl, J.mo (fun q hq => by unfold SB at hq; unfold SM; omega), T1⟩)
def K_hand (x1 x2 : Int32) : Prop := bd 0 15 x1 ∧ bd 0 9 x2
theorem p_X10_hand {h : HI} {g : HL} {m : Nat} (T : TT h 20 m 2 3) {x1 x2 : Int32} : w_X10_hand x1 x2 h g (fun r h' _ => ADc (K_hand x1 x2) h r h' 20 m 2 3 0) := by
  unfold w_X10_hand
  refine c_wb (fun q0 => ?_) (fun q0 => ?_)
  rotate_left
  · refine ⟨fun _ => ?_, fun c => absN c⟩
    exact .inl ⟨fun hc => q0 (bd.mo (hc.1) (by decide) (by decide)), rfl, rfl⟩
  refine ⟨fun c => absI c, fun _ => ?_⟩
  refine c_wb (fun q1 => ?_) (fun q1 => ?_)
  rotate_left
  · refine ⟨fun c => absurd rfl c, fun _ => ?_⟩
    exact .inl ⟨fun hc => q1 (bd.mo (hc.2) (by decide) (by decide)), rfl, rfl⟩
  refine ⟨fun _ => ?_, fun c => absI c⟩
  have hC : K_hand x1 x2 := ⟨bd.mo q0 (by decide) (by decide), bd.mo q1 (by decide) (by decide)⟩
  by_cases hm : m = 3
  · refine c_i (p_addF T hm) ?_
    rintro _ _ _ ⟨rfl, rfl, rfl⟩
    exact .inr (.inl ⟨hC, hm, rfl, rfl⟩)
  · have hlt : m < 3 := by have := T.2.2.2.1; omega
    refine c_i (p_add T hlt) ?_
    rintro _ h1 g1 ⟨rfl, -, J, T1, -, -⟩
    exact .inr (.inr ⟨hC, hlt, rfl, J.mo (fun q hq => by unfold SB at hq; unfold SM; omega), T1⟩)
end
section
-- 42.mutr
/-! THE REFERENCE'S CALLS THAT CHANGE IT -/
theorem c_isb {k x : Int32} {N : Int} {h : HI} {g : HL} {body : Int32 → HI → HL → Prop} (hk : vp_in k 887) (hb : bd 0 N (h 136 k.toNatClampNeg)) (hN : N ≤ 1000) (h1 : isRow (h 136 k.toNatClampNeg) x → bd 0 (N - 1) x → body 1 h g) (h0 : ¬ isRow (h 136 k.toNatClampNeg) x → body 0 h g) : ∃ P : Int32 → HI → HL → Prop, w_X11_is k x h g P ∧ ∀ (r : Int32) (h : HI) (g : HL), zb r → P r h g → body r h g :=
  c_is hk hb hN (fun q q1 => h1 (isRow_r q q1) q) (fun q => h0 (isRow_n q))
abbrev dfl : Int × Int := (-2147483648, 2147483647)
theorem rg_A {k : Nat} (h : 20 ≤ k ∧ k < 140) : rg k = (if (k - 20) % 5 = 0 then (0, 100) else if (k - 20) % 5 = 3 then (-1, 3) else dfl) := by
  unfold rg
  rw [if_neg (by omega), if_neg (by omega), if_neg (by omega), if_neg (by omega), if_neg (by omega), if_neg (by omega), if_neg (by omega), if_neg (by omega), if_neg (by omega), if_neg (by omega), if_neg (by omega), if_pos h]
theorem rg_B {k : Nat} (h : 140 ≤ k ∧ k < 152) : rg k = (if (k - 140) % 3 = 1 then (1, 100000) else dfl) := by
  unfold rg
  rw [if_neg (by omega), if_neg (by omega), if_neg (by omega), if_neg (by omega), if_neg (by omega), if_neg (by omega), if_neg (by omega), if_neg (by omega), if_neg (by omega), if_neg (by omega), if_neg (by omega), if_neg (by omega), if_pos h]
theorem rg_C {k : Nat} (h : 152 ≤ k ∧ k < 512) : rg k = (if (k - 152) % 6 = 0 then (0, 23) else dfl) := by
  unfold rg
  rw [if_neg (by omega), if_neg (by omega), if_neg (by omega), if_neg (by omega), if_neg (by omega), if_neg (by omega), if_neg (by omega), if_neg (by omega), if_neg (by omega), if_neg (by omega), if_neg (by omega), if_neg (by omega), if_neg (by omega), if_pos h]
theorem rg_D {k : Nat} (h : 512 ≤ k ∧ k < 672) : rg k = (if (k - 512) % 10 = 2 then (0, 6) else if 3 ≤ (k - 512) % 10 ∧ (k - 512) % 10 ≤ 8 then (0, 23) else dfl) := by
  unfold rg
  rw [if_neg (by omega), if_neg (by omega), if_neg (by omega), if_neg (by omega), if_neg (by omega), if_neg (by omega), if_neg (by omega), if_neg (by omega), if_neg (by omega), if_neg (by omega), if_neg (by omega), if_neg (by omega), if_neg (by omega), if_neg (by omega), if_pos h]
theorem rg_E {k : Nat} (h : 672 ≤ k ∧ k < 704) : rg k = (if (k - 672) % 4 = 0 then (-500, 500) else if (k - 672) % 4 = 1 then (0, 1000) else dfl) := by
  unfold rg
  rw [if_neg (by omega), if_neg (by omega), if_neg (by omega), if_neg (by omega), if_neg (by omega), if_neg (by omega), if_neg (by omega), if_neg (by omega), if_neg (by omega), if_neg (by omega), if_neg (by omega), if_neg (by omega), if_neg (by omega), if_neg (by omega), if_neg (by omega), if_pos h]
theorem rg_F {k : Nat} (h : 817 ≤ k ∧ k < 823) : rg k = (if (k - 817) % 2 = 0 then (0, 15) else dfl) := by
  unfold rg
  rw [if_neg (by omega), if_neg (by omega), if_neg (by omega), if_neg (by omega), if_neg (by omega), if_neg (by omega), if_neg (by omega), if_neg (by omega), if_neg (by omega), if_neg (by omega), if_neg (by omega), if_neg (by omega), if_neg (by omega), if_neg (by omega), if_neg (by omega), if_neg (by omega), if_pos h]
theorem rg_Z {k : Nat} (h : 704 ≤ k ∧ k < 817 ∨ 823 ≤ k) : rg k = dfl := by
  unfold rg
  rw [if_neg (by omega), if_neg (by omega), if_neg (by omega), if_neg (by omega), if_neg (by omega), if_neg (by omega), if_neg (by omega), if_neg (by omega), if_neg (by omega), if_neg (by omega), if_neg (by omega), if_neg (by omega), if_neg (by omega), if_neg (by omega), if_neg (by omega), if_neg (by omega), if_neg (by omega)]
theorem okZ {k : Nat} {x : Int32} (h : 704 ≤ k ∧ k < 817 ∨ 823 ≤ k) : okR k x := by
  unfold okR; rw [rg_Z h]; exact bd_all x
theorem okA {k : Nat} {x : Int32} (h : 20 ≤ k ∧ k < 140) (h0 : (k - 20) % 5 = 0 → bd 0 100 x) (h3 : (k - 20) % 5 = 3 → bd (-1) 3 x) : okR k x := by
  unfold okR; rw [rg_A h]
  by_cases c : (k - 20) % 5 = 0
  · rw [if_pos c]; exact h0 c
  · rw [if_neg c]
    by_cases d : (k - 20) % 5 = 3
    · rw [if_pos d]; exact h3 d
    · rw [if_neg d]; exact bd_all x
theorem okB {k : Nat} {x : Int32} (h : 140 ≤ k ∧ k < 152) (h0 : (k - 140) % 3 = 1 → bd 1 100000 x) : okR k x := by
  unfold okR; rw [rg_B h]
  by_cases c : (k - 140) % 3 = 1
  · rw [if_pos c]; exact h0 c
  · rw [if_neg c]; exact bd_all x
theorem okC' {k : Nat} {x : Int32} (h : 152 ≤ k ∧ k < 512) (h0 : (k - 152) % 6 = 0 → bd 0 23 x) : okR k x := by
  unfold okR; rw [rg_C h]
  by_cases c : (k - 152) % 6 = 0
  · rw [if_pos c]; exact h0 c
  · rw [if_neg c]; exact bd_all x
theorem okD {k : Nat} {x : Int32} (h : 512 ≤ k ∧ k < 672) (h0 : (k - 512) % 10 = 2 → bd 0 6 x) (h3 : 3 ≤ (k - 512) % 10 ∧ (k - 512) % 10 ≤ 8 → bd 0 23 x) : okR k x := by
  unfold okR; rw [rg_D h]
  by_cases c : (k - 512) % 10 = 2
  · rw [if_pos c]; exact h0 c
  · rw [if_neg c]
    by_cases d : 3 ≤ (k - 512) % 10 ∧ (k - 512) % 10 ≤ 8
    · rw [if_pos d]; exact h3 d
    · rw [if_neg d]; exact bd_all x
theorem okE {k : Nat} {x : Int32} (h : 672 ≤ k ∧ k < 704) (h0 : (k - 672) % 4 = 0 → bd (-500) 500 x) (h3 : (k - 672) % 4 = 1 → bd 0 1000 x) : okR k x := by
  unfold okR; rw [rg_E h]
  by_cases c : (k - 672) % 4 = 0
  · rw [if_pos c]; exact h0 c
  · rw [if_neg c]
    by_cases d : (k - 672) % 4 = 1
    · rw [if_pos d]; exact h3 d
    · rw [if_neg d]; exact bd_all x
theorem okF {k : Nat} {x : Int32} (h : 817 ≤ k ∧ k < 823) (h0 : (k - 817) % 2 = 0 → bd 0 15 x) : okR k x := by
  unfold okR; rw [rg_F h]
  by_cases c : (k - 817) % 2 = 0
  · rw [if_pos c]; exact h0 c
  · rw [if_neg c]; exact bd_all x
/-- only the reference's numbers changed, and they are f now, the counts as in b -/
def ST (h0 h : HI) (f : Nat → Int32) : Prop := (∀ o, o ≠ 136 → h o = h0 o) ∧ h 136 = f ∧ RG f
theorem ST.rf {h : HI} (r : RG (h 136)) : ST h h (h 136) := ⟨fun _ _ => rfl, rfl, r⟩
theorem ST.hu {h0 h h' : HI} {f : Nat → Int32} {k : Nat} {x : Int32} (s : ST h0 h f) (e : h' = hu h 136 k x) (ok : okR k x) : ST h0 h' (upd f k x) := by
  obtain ⟨a, b, r⟩ := s
  subst b
  exact ⟨fun o n => by rw [e, hu_ne n]; exact a o n, by rw [e, hu_eq], r.set ok⟩
theorem p_one {h0 h : HI} {g : HL} {f : Nat → Int32} {k : Int32} {c m : Nat} (s : ST h0 h f) (hk : vp_in k 887) (ec : k.toNatClampNeg = c) (em : f c = nI m) (hm : m < 2 ^ 31) (ok : okR c (nI (m + 1))) : w_X11_one k h g (fun r h' g' => nI m = r ∧ g = g' ∧ ST h0 h' (upd f c (nI (m + 1)))) := by
  unfold w_X11_one
  rw [ec]
  refine and_have hk (fun _ => and_have hk (fun _ => ?_))
  intro h1 e1
  have e2 : h 136 c = nI m := by rw [s.2.1]; exact em
  rw [e2, nI_1] at e1
  refine ⟨hk, ?_, rfl, s.hu e1 ok⟩
  rw [e1, hu_eq, pk_us, nI_pred]
/-- counts untouched by what is written behind them -/
theorem cnt_u {f : Nat → Int32} {k i : Nat} {x : Int32} (h : i < 9) (hk : 9 ≤ k) : upd f k x i = f i := pk_un (by omega)
theorem okn0 {m : Nat} (h : m ≤ 24) : okR 0 (nI m) := by
  show bd 0 24 (nI m)
  exact bd_of (by omega) (by omega) (by omega)
theorem okn1 {m : Nat} (h : m ≤ 60) : okR 1 (nI m) := by
  show bd 0 60 (nI m)
  exact bd_of (by omega) (by omega) (by omega)
theorem okn2 {m : Nat} (h : m ≤ 16) : okR 2 (nI m) := by
  show bd 0 16 (nI m)
  exact bd_of (by omega) (by omega) (by omega)
theorem okn3 {m : Nat} (h : m ≤ 8) : okR 3 (nI m) := by
  show bd 0 8 (nI m)
  exact bd_of (by omega) (by omega) (by omega)
theorem okn4 {m : Nat} (h : m ≤ 6) : okR 4 (nI m) := by
  show bd 0 6 (nI m)
  exact bd_of (by omega) (by omega) (by omega)
theorem okn5 {m : Nat} (h : m ≤ 9) : okR 5 (nI m) := by
  show bd 0 9 (nI m)
  exact bd_of (by omega) (by omega) (by omega)
theorem okn6 {m : Nat} (h : m ≤ 40) : okR 6 (nI m) := by
  show bd 0 40 (nI m)
  exact bd_of (by omega) (by omega) (by omega)
theorem okn7 {m : Nat} (h : m ≤ 3) : okR 7 (nI m) := by
  show bd 0 3 (nI m)
  exact bd_of (by omega) (by omega) (by omega)
theorem okn8 {m : Nat} (h : m ≤ 60) : okR 8 (nI m) := by
  show bd 0 60 (nI m)
  exact bd_of (by omega) (by omega) (by omega)
set_option maxHeartbeats 1000000 in
theorem p_X11_part {h : HI} {g : HL} (r : RG (h 136)) {m : Nat} (em : h 136 0 = nI m) (hm : m ≤ 24) {x1 x2 x3 x4 : Int32} : w_X11_part x1 x2 x3 x4 h g (fun s h' _ => ADr (K_part x1 x2 x3 x4) h s h' 0 m 24 0) := by
  unfold w_X11_part
  refine c_in3 (fun q0 => ⟨fun c => absI c, fun _ => ?_⟩) (fun q0 => ⟨fun _ => .inl ⟨fun hc => q0 (bd.mo hc.1 (by decide) (by decide)), rfl, rfl⟩, fun c => absN c⟩)
  refine c_in3 (fun q1 => ⟨fun c => absI c, fun _ => ?_⟩) (fun q1 => ⟨fun _ => .inl ⟨fun hc => q1 (bd.mo hc.2.1 (by decide) (by decide)), rfl, rfl⟩, fun c => absN c⟩)
  refine c_yr (fun q2 => ⟨fun c => absI c, fun _ => ?_⟩) (fun q2 => ⟨fun _ => .inl ⟨fun hc => q2 hc.2.2.1, rfl, rfl⟩, fun c => absN c⟩)
  refine c_in3 (fun q3 => ⟨fun _ => ?_, fun c => absI c⟩) (fun q3 => ⟨fun c => absurd rfl c, fun _ => .inl ⟨fun hc => q3 (bd.mo hc.2.2.2 (by decide) (by decide)), rfl, rfl⟩⟩)
  have b0 : bd 0 100 x1 := bd.mo q0 (by decide) (by decide)
  have b3 : bd (-1) 3 x4 := bd.mo q3 (by decide) (by decide)
  have hC : K_part x1 x2 x3 x4 := ⟨b0, bd.mo q1 (by decide) (by decide), q2, b3⟩
  rw [cl0, em]
  refine and_have (vp_in_iff.mpr (by decide)) (fun v0 => ⟨fun c => ?_, fun c => .inr (.inl ⟨hC, (nI_eq (by omega) (by omega)).mp c, rfl, rfl⟩)⟩)
  have hlt : m < 24 := by
    have : m ≠ 24 := fun e => c (by rw [e]; rfl)
    omega
  refine and_have v0 (fun _ => ?_)
  rintro _ rfl
  rw [show (20 : Int32) + ((5 : Int32) * nI m) = nI (20 + 5 * m) from ix2 20 5 m, show nI (20 + 5 * m) + (1 : Int32) = nI (20 + 5 * m + 1) from nI_add _ 1, show nI (20 + 5 * m) + (2 : Int32) = nI (20 + 5 * m + 2) from nI_add _ 2, show nI (20 + 5 * m) + (3 : Int32) = nI (20 + 5 * m + 3) from nI_add _ 3, show nI (20 + 5 * m) + (4 : Int32) = nI (20 + 5 * m + 4) from nI_add _ 4]
  rw [nI_clamp (n := 20 + 5 * m) (by omega), nI_clamp (n := 20 + 5 * m + 1) (by omega), nI_clamp (n := 20 + 5 * m + 2) (by omega), nI_clamp (n := 20 + 5 * m + 3) (by omega), nI_clamp (n := 20 + 5 * m + 4) (by omega)]
  refine and_have (vp_in_nI (by omega) (by omega)) (fun _ => ?_)
  intro h1 e1
  have S1 := (ST.rf r).hu e1 (okA (by omega) (fun _ => b0) (fun _ => by omega))
  refine and_have (vp_in_nI (by omega) (by omega)) (fun _ => ?_)
  intro h2 e2
  have S2 := S1.hu e2 (okA (by omega) (fun _ => by omega) (fun _ => by omega))
  refine and_have (vp_in_nI (by omega) (by omega)) (fun _ => ?_)
  intro h3 e3
  have S3 := S2.hu e3 (okA (by omega) (fun _ => by omega) (fun _ => by omega))
  refine and_have (vp_in_nI (by omega) (by omega)) (fun _ => ?_)
  intro h4 e4
  have S4 := S3.hu e4 (okA (by omega) (fun _ => by omega) (fun _ => b3))
  refine and_have (vp_in_nI (by omega) (by omega)) (fun _ => ?_)
  intro h5 e5
  have S5 := S4.hu e5 (okA (by omega) (fun _ => by omega) (fun _ => by omega))
  refine c_i (p_one (c := 0) (m := m) S5 v0 cl0 (by rw [cnt_u (by omega) (by omega), cnt_u (by omega) (by omega), cnt_u (by omega) (by omega), cnt_u (by omega) (by omega), cnt_u (by omega) (by omega)]; exact em) (by omega) (okn0 (by omega))) ?_
  rintro _ h6 _ ⟨rfl, -, S6⟩
  refine .inr (.inr ⟨hC, hlt, rfl, S6.1, by rw [S6.2.1, pk_us], ?_, by rw [S6.2.1]; exact S6.2.2⟩)
  intro i hi hn
  rw [S6.2.1, pk_un hn, cnt_u hi (by omega), cnt_u hi (by omega), cnt_u hi (by omega), cnt_u hi (by omega), cnt_u hi (by omega)]

theorem p_X11_machine {h : HI} {g : HL} (r : RG (h 136)) {m : Nat} (em : h 136 4 = nI m) (hm : m ≤ 6) {x1 : Int32} : w_X11_machine x1 h g (fun s h' _ => ADr (K_machine x1) h s h' 4 m 6 0) := by
  unfold w_X11_machine
  refine c_in3 (fun q0 => ⟨fun _ => ?_, fun c => absI c⟩) (fun q0 => ⟨fun c => absurd rfl c, fun _ => .inl ⟨fun hc => q0 (bd.mo hc (by decide) (by decide)), rfl, rfl⟩⟩)
  have hC : K_machine x1 := bd.mo q0 (by decide) (by decide)
  rw [cl4, em]
  refine and_have (vp_in_iff.mpr (by decide)) (fun v0 => ⟨fun c => ?_, fun c => .inr (.inl ⟨hC, (nI_eq (by omega) (by omega)).mp c, rfl, rfl⟩)⟩)
  have hlt : m < 6 := by
    have : m ≠ 6 := fun e => c (by rw [e]; rfl)
    omega
  rw [show (704 : Int32) + nI m = nI (704 + m) from nI_add 704 m, nI_clamp (n := 704 + m) (by omega)]
  refine and_have v0 (fun _ => and_have (vp_in_nI (by omega) (by omega)) (fun _ => ?_))
  intro h1 e1
  have S1 := (ST.rf r).hu e1 (okZ (by omega))
  refine c_i (p_one (c := 4) (m := m) S1 v0 cl4 (by rw [cnt_u (by omega) (by omega)]; exact em) (by omega) (okn4 (by omega))) ?_
  rintro _ h6 _ ⟨rfl, -, S6⟩
  refine .inr (.inr ⟨hC, hlt, rfl, S6.1, by rw [S6.2.1, pk_us], ?_, by rw [S6.2.1]; exact S6.2.2⟩)
  intro i hi hn
  rw [S6.2.1, pk_un hn, cnt_u hi (by omega)]
theorem p_X11_spare {h : HI} {g : HL} (r : RG (h 136)) {m : Nat} (em : h 136 5 = nI m) (hm : m ≤ 9) {x1 x2 x3 : Int32} : w_X11_spare x1 x2 x3 h g (fun s h' _ => ADr (K_spare x1 x2 x3) h s h' 5 m 9 0) := by
  unfold w_X11_spare
  refine c_in3 (fun q0 => ⟨fun c => absI c, fun _ => ?_⟩) (fun q0 => ⟨fun _ => .inl ⟨fun hc => q0 (bd.mo hc.1 (by decide) (by decide)), rfl, rfl⟩, fun c => absN c⟩)
  refine c_in3 (fun q1 => ⟨fun c => absI c, fun _ => ?_⟩) (fun q1 => ⟨fun _ => .inl ⟨fun hc => q1 (bd.mo hc.2.1 (by decide) (by decide)), rfl, rfl⟩, fun c => absN c⟩)
  refine c_in3 (fun q2 => ⟨fun _ => ?_, fun c => absI c⟩) (fun q2 => ⟨fun c => absurd rfl c, fun _ => .inl ⟨fun hc => q2 (bd.mo hc.2.2 (by decide) (by decide)), rfl, rfl⟩⟩)
  have hC : K_spare x1 x2 x3 := ⟨bd.mo q0 (by decide) (by decide), bd.mo q1 (by decide) (by decide), bd.mo q2 (by decide) (by decide)⟩
  rw [cl5, em]
  refine and_have (vp_in_iff.mpr (by decide)) (fun v0 => ⟨fun c => ?_, fun c => .inr (.inl ⟨hC, (nI_eq (by omega) (by omega)).mp c, rfl, rfl⟩)⟩)
  have hlt : m < 9 := by
    have : m ≠ 9 := fun e => c (by rw [e]; rfl)
    omega
  refine and_have v0 (fun _ => ?_)
  rintro _ rfl
  rw [show (710 : Int32) + ((3 : Int32) * nI m) = nI (710 + 3 * m) from ix2 710 3 m, show nI (710 + 3 * m) + (1 : Int32) = nI (710 + 3 * m + 1) from nI_add _ 1, show nI (710 + 3 * m) + (2 : Int32) = nI (710 + 3 * m + 2) from nI_add _ 2, nI_clamp (n := 710 + 3 * m) (by omega), nI_clamp (n := 710 + 3 * m + 1) (by omega), nI_clamp (n := 710 + 3 * m + 2) (by omega)]
  refine and_have (vp_in_nI (by omega) (by omega)) (fun _ => ?_)
  intro h1 e1
  have S1 := (ST.rf r).hu e1 (okZ (by omega))
  refine and_have (vp_in_nI (by omega) (by omega)) (fun _ => ?_)
  intro h2 e2
  have S2 := S1.hu e2 (okZ (by omega))
  refine and_have (vp_in_nI (by omega) (by omega)) (fun _ => ?_)
  intro h3 e3
  have S3 := S2.hu e3 (okZ (by omega))
  refine c_i (p_one (c := 5) (m := m) S3 v0 cl5 (by rw [cnt_u (by omega) (by omega), cnt_u (by omega) (by omega), cnt_u (by omega) (by omega)]; exact em) (by omega) (okn5 (by omega))) ?_
  rintro _ h6 _ ⟨rfl, -, S6⟩
  refine .inr (.inr ⟨hC, hlt, rfl, S6.1, by rw [S6.2.1, pk_us], ?_, by rw [S6.2.1]; exact S6.2.2⟩)
  intro i hi hn
  rw [S6.2.1, pk_un hn, cnt_u hi (by omega), cnt_u hi (by omega), cnt_u hi (by omega)]
theorem p_X11_hand {h : HI} {g : HL} (r : RG (h 136)) {m : Nat} (em : h 136 7 = nI m) (hm : m ≤ 3) {x1 x2 : Int32} : w_X11_hand x1 x2 h g (fun s h' _ => ADr (K_hand x1 x2) h s h' 7 m 3 0) := by
  unfold w_X11_hand
  refine c_in3 (fun q0 => ⟨fun c => absI c, fun _ => ?_⟩) (fun q0 => ⟨fun _ => .inl ⟨fun hc => q0 (bd.mo hc.1 (by decide) (by decide)), rfl, rfl⟩, fun c => absN c⟩)
  refine c_in3 (fun q1 => ⟨fun _ => ?_, fun c => absI c⟩) (fun q1 => ⟨fun c => absurd rfl c, fun _ => .inl ⟨fun hc => q1 (bd.mo hc.2 (by decide) (by decide)), rfl, rfl⟩⟩)
  have b0 : bd 0 15 x1 := bd.mo q0 (by decide) (by decide)
  have hC : K_hand x1 x2 := ⟨b0, bd.mo q1 (by decide) (by decide)⟩
  rw [cl7, em]
  refine and_have (vp_in_iff.mpr (by decide)) (fun v0 => ⟨fun c => ?_, fun c => .inr (.inl ⟨hC, (nI_eq (by omega) (by omega)).mp c, rfl, rfl⟩)⟩)
  have hlt : m < 3 := by
    have : m ≠ 3 := fun e => c (by rw [e]; rfl)
    omega
  refine and_have v0 (fun _ => ?_)
  rw [show (817 : Int32) + ((2 : Int32) * nI m) = nI (817 + 2 * m) from ix2 817 2 m, nI_clamp (n := 817 + 2 * m) (by omega)]
  refine and_have (vp_in_nI (by omega) (by omega)) (fun _ => ?_)
  intro h1 e1
  have S1 := (ST.rf r).hu e1 (okF (by omega) (fun _ => b0))
  have e17 : h1 136 7 = nI m := by rw [S1.2.1, cnt_u (by omega) (by omega)]; exact em
  rw [e17, show ((817 : Int32) + ((2 : Int32) * nI m)) + (1 : Int32) = nI (817 + 2 * m + 1) from ix3 817 2 m 1, nI_clamp (n := 817 + 2 * m + 1) (by omega)]
  refine and_have v0 (fun _ => and_have (vp_in_nI (by omega) (by omega)) (fun _ => ?_))
  intro h2 e2
  have S2 := S1.hu e2 (okF (by omega) (fun _ => by omega))
  refine c_i (p_one (c := 7) (m := m) S2 v0 cl7 (by rw [cnt_u (by omega) (by omega), cnt_u (by omega) (by omega)]; exact em) (by omega) (okn7 (by omega))) ?_
  rintro _ h6 _ ⟨rfl, -, S6⟩
  refine .inr (.inr ⟨hC, hlt, rfl, S6.1, by rw [S6.2.1, pk_us], ?_, by rw [S6.2.1]; exact S6.2.2⟩)
  intro i hi hn
  rw [S6.2.1, pk_un hn, cnt_u hi (by omega), cnt_u hi (by omega)]
theorem p_X11_told {h : HI} {g : HL} (r : RG (h 136)) {m : Nat} (em : h 136 6 = nI m) (hm : m ≤ 40) {x1 x2 : Int32} : w_X11_told x1 x2 h g (fun s h' _ => ADr (K_told x1) h s h' 6 m 40 1) := by
  unfold w_X11_told
  refine c_in3 (fun q0 => ⟨fun _ => ?_, fun c => absI c⟩) (fun q0 => ⟨fun c => absurd rfl c, fun _ => .inl ⟨fun hc => q0 (bd.mo hc (by decide) (by decide)), rfl, rfl⟩⟩)
  have hC : K_told x1 := bd.mo q0 (by decide) (by decide)
  rw [cl6, em]
  refine and_have (vp_in_iff.mpr (by decide)) (fun v0 => ⟨fun c => ?_, fun c => .inr (.inl ⟨hC, (nI_eq (by omega) (by omega)).mp c, rfl, rfl⟩)⟩)
  have hlt : m < 40 := by
    have : m ≠ 40 := fun e => c (by rw [e]; rfl)
    omega
  refine and_have v0 (fun _ => ?_)
  rw [show (737 : Int32) + ((2 : Int32) * nI m) = nI (737 + 2 * m) from ix2 737 2 m, nI_clamp (n := 737 + 2 * m) (by omega)]
  refine and_have (vp_in_nI (by omega) (by omega)) (fun _ => ?_)
  intro h1 e1
  have S1 := (ST.rf r).hu e1 (okZ (by omega))
  have e17 : h1 136 6 = nI m := by rw [S1.2.1, cnt_u (by omega) (by omega)]; exact em
  rw [e17, show ((737 : Int32) + ((2 : Int32) * nI m)) + (1 : Int32) = nI (737 + 2 * m + 1) from ix3 737 2 m 1]
  have j77 : ∀ s2 : Int32, j_X11_told_77 (fun s h' _ => ADr (K_told x1) h s h' 6 m 40 1) (nI (737 + 2 * m + 1)) s2 h1 g := by
    intro s2
    unfold j_X11_told_77
    rw [nI_clamp (n := 737 + 2 * m + 1) (by omega)]
    refine and_have (vp_in_nI (by omega) (by omega)) (fun _ => ?_)
    intro h2 e2
    have S2 := S1.hu e2 (okZ (by omega))
    refine c_i (p_one (c := 6) (m := m) S2 v0 cl6 (by rw [cnt_u (by omega) (by omega), cnt_u (by omega) (by omega)]; exact em) (by omega) (okn6 (by omega))) ?_
    rintro _ h6 _ ⟨rfl, -, S6⟩
    refine .inr (.inr ⟨hC, hlt, nI_1 m, S6.1, by rw [S6.2.1, pk_us], ?_, by rw [S6.2.1]; exact S6.2.2⟩)
    intro i hi hn
    rw [S6.2.1, pk_un hn, cnt_u hi (by omega), cnt_u hi (by omega)]
  exact ⟨v0, fun _ => j77 _, fun _ => j77 _⟩
theorem p_X11_write {h : HI} {g : HL} (r : RG (h 136)) {m : Nat} (em : h 136 8 = nI m) (hm : m ≤ 60) {x1 : Int32} : w_X11_write x1 h g (fun s h' _ => ADr (K_write x1) h s h' 8 m 60 1) := by
  unfold w_X11_write
  refine c_in3 (fun q0 => ⟨fun _ => ?_, fun c => absI c⟩) (fun q0 => ⟨fun c => absurd rfl c, fun _ => .inl ⟨fun hc => q0 (bd.mo hc (by decide) (by decide)), rfl, rfl⟩⟩)
  have hC : K_write x1 := bd.mo q0 (by decide) (by decide)
  rw [cl8, em]
  refine and_have (vp_in_iff.mpr (by decide)) (fun v0 => ⟨fun c => ?_, fun c => .inr (.inl ⟨hC, (nI_eq (by omega) (by omega)).mp c, rfl, rfl⟩)⟩)
  have hlt : m < 60 := by
    have : m ≠ 60 := fun e => c (by rw [e]; rfl)
    omega
  rw [show (827 : Int32) + nI m = nI (827 + m) from nI_add 827 m, nI_clamp (n := 827 + m) (by omega)]
  refine and_have v0 (fun _ => and_have (vp_in_nI (by omega) (by omega)) (fun _ => ?_))
  intro h1 e1
  have S1 := (ST.rf r).hu e1 (okZ (by omega))
  refine c_i (p_one (c := 8) (m := m) S1 v0 cl8 (by rw [cnt_u (by omega) (by omega)]; exact em) (by omega) (okn8 (by omega))) ?_
  rintro _ h6 _ ⟨rfl, -, S6⟩
  refine .inr (.inr ⟨hC, hlt, nI_1 m, S6.1, by rw [S6.2.1, pk_us], ?_, by rw [S6.2.1]; exact S6.2.2⟩)
  intro i hi hn
  rw [S6.2.1, pk_un hn, cnt_u hi (by omega)]
theorem i01 {x : Int32} (h : bd 0 3 x) (c : (2 : Int32) ≤ x) : ¬ x = 0 ∧ ¬ x = 1 := by
  rw [Int32.le_iff_toInt_le, show (2 : Int32).toInt = 2 by decide] at c
  constructor
  · intro e; rw [e] at c; exact absurd c (by decide)
  · intro e; rw [e] at c; exact absurd c (by decide)
theorem i02 {x : Int32} (h : bd 0 3 x) (c : ¬ (2 : Int32) ≤ x) : x = 0 ∨ x = 1 := by
  rw [Int32.le_iff_toInt_le, show (2 : Int32).toInt = 2 by decide] at c
  obtain ⟨j, j1, j2, rfl⟩ := bd_nI h
  rw [nI_toInt j2] at c
  have : j = 0 ∨ j = 1 := by omega
  rcases this with rfl | rfl
  · exact .inl nI_0
  · exact .inr rfl
set_option maxHeartbeats 1000000 in
theorem p_X11_say {h : HI} {g : HL} (r : RG (h 136)) {m : Nat} (em : h 136 1 = nI m) (hm : m ≤ 60) {x1 x2 x3 x4 x5 : Int32} : w_X11_say x1 x2 x3 x4 x5 h g (fun s h' _ => ADr (K_say (h 136 0) x1 x2 x3 x4 x5) h s h' 1 m 60 0) := by
  have hR := r.ri
  have v0 : vp_in (1 : Int32) 887 := vp_in_iff.mpr (by decide)
  have j68 : bd 0 23 x1 → K_say (h 136 0) x1 x2 x3 x4 x5 → j_X11_say_68 (fun s h' _ => ADr (K_say (h 136 0) x1 x2 x3 x4 x5) h s h' 1 m 60 0) x1 x2 x3 x4 x5 h g := by
    intro b1 hC
    unfold j_X11_say_68
    rw [cl1, em]
    refine and_have v0 (fun _ => ⟨fun c => ?_, fun c => .inr (.inl ⟨hC, (nI_eq (by omega) (by omega)).mp c, rfl, rfl⟩)⟩)
    have hlt : m < 60 := by
      have : m ≠ 60 := fun e => c (by rw [e]; rfl)
      omega
    refine and_have v0 (fun _ => ?_)
    rintro _ rfl
    rw [show (152 : Int32) + ((6 : Int32) * nI m) = nI (152 + 6 * m) from ix2 152 6 m, show nI (152 + 6 * m) + (1 : Int32) = nI (152 + 6 * m + 1) from nI_add _ 1, show nI (152 + 6 * m) + (2 : Int32) = nI (152 + 6 * m + 2) from nI_add _ 2, show nI (152 + 6 * m) + (3 : Int32) = nI (152 + 6 * m + 3) from nI_add _ 3, nI_clamp (n := 152 + 6 * m) (by omega), nI_clamp (n := 152 + 6 * m + 1) (by omega), nI_clamp (n := 152 + 6 * m + 2) (by omega)]
    refine and_have (vp_in_nI (by omega) (by omega)) (fun _ => ?_)
    intro h1 e1
    have S1 := (ST.rf r).hu e1 (okC' (by omega) (fun _ => b1))
    refine and_have (vp_in_nI (by omega) (by omega)) (fun _ => ?_)
    intro h2 e2
    have S2 := S1.hu e2 (okC' (by omega) (fun _ => by omega))
    refine and_have (vp_in_nI (by omega) (by omega)) (fun _ => ?_)
    intro h3 e3
    have S3 := S2.hu e3 (okC' (by omega) (fun _ => by omega))
    have j144 : ∀ e : Int32, j_X11_say_144 (fun s h' _ => ADr (K_say (h 136 0) x1 x2 x3 x4 x5) h s h' 1 m 60 0) x2 x5 (nI (152 + 6 * m)) (nI (152 + 6 * m + 3)) e h3 g := by
      intro e
      unfold j_X11_say_144
      rw [nI_clamp (n := 152 + 6 * m + 3) (by omega), show nI (152 + 6 * m) + (4 : Int32) = nI (152 + 6 * m + 4) from nI_add _ 4]
      refine and_have (vp_in_nI (by omega) (by omega)) (fun _ => ?_)
      intro h4 e4
      have S4 := S3.hu e4 (okC' (by omega) (fun _ => by omega))
      have j163 : ∀ y : Int32, j_X11_say_163 (fun s h' _ => ADr (K_say (h 136 0) x1 x2 x3 x4 x5) h s h' 1 m 60 0) (nI (152 + 6 * m)) (nI (152 + 6 * m + 4)) y h4 g := by
        intro y
        unfold j_X11_say_163
        rw [nI_clamp (n := 152 + 6 * m + 4) (by omega), show nI (152 + 6 * m) + (5 : Int32) = nI (152 + 6 * m + 5) from nI_add _ 5, nI_clamp (n := 152 + 6 * m + 5) (by omega)]
        refine and_have (vp_in_nI (by omega) (by omega)) (fun _ => ?_)
        intro h5 e5
        have S5 := S4.hu e5 (okC' (by omega) (fun _ => by omega))
        refine and_have (vp_in_nI (by omega) (by omega)) (fun _ => ?_)
        intro h6 e6
        have S6 := S5.hu e6 (okC' (by omega) (fun _ => by omega))
        refine c_i (p_one (c := 1) (m := m) S6 v0 cl1 (by rw [cnt_u (by omega) (by omega), cnt_u (by omega) (by omega), cnt_u (by omega) (by omega), cnt_u (by omega) (by omega), cnt_u (by omega) (by omega), cnt_u (by omega) (by omega)]; exact em) (by omega) (okn1 (by omega))) ?_
        rintro _ h7 _ ⟨rfl, -, S7⟩
        refine .inr (.inr ⟨hC, hlt, rfl, S7.1, by rw [S7.2.1, pk_us], ?_, by rw [S7.2.1]; exact S7.2.2⟩)
        intro i hi hn
        rw [S7.2.1, pk_un hn, cnt_u hi (by omega), cnt_u hi (by omega), cnt_u hi (by omega), cnt_u hi (by omega), cnt_u hi (by omega), cnt_u hi (by omega)]
      exact ⟨fun _ => j163 _, fun _ => j163 _⟩
    exact ⟨fun _ => j144 _, fun _ => j144 _⟩
  have bad : ¬ K_say (h 136 0) x1 x2 x3 x4 x5 → ADr (K_say (h 136 0) x1 x2 x3 x4 x5) h (-2) h 1 m 60 0 := fun k => .inl ⟨k, rfl, rfl⟩
  unfold w_X11_say
  refine c_isb (vp_in_iff.mpr (by decide)) hR.c0 (by decide) (fun q0 p0 => ⟨fun c => absI c, fun _ => ?_⟩) (fun q0 => ⟨fun _ => bad (fun hc => q0 (by rw [cl0]; exact hc.1)), fun c => absN c⟩)
  rw [cl0] at q0
  refine c_in3 (fun q1 => ⟨fun c => absI c, fun _ => ?_⟩) (fun q1 => ⟨fun _ => bad (fun hc => q1 (bd.mo hc.2.1 (by decide) (by decide))), fun c => absN c⟩)
  refine c_in3 (fun q2 => ⟨fun c => absI c, fun _ => ?_⟩) (fun q2 => ⟨fun _ => bad (fun hc => q2 (bd.mo hc.2.2.1 (by decide) (by decide))), fun c => absN c⟩)
  have k2 : bd 0 3 x2 := bd.mo q1 (by decide) (by decide)
  have k3 : bd (-10000) 100000 x3 := bd.mo q2 (by decide) (by decide)
  have k1 : bd 0 23 x1 := p0.mo (by decide) (by decide)
  have j53 : (x2 = 0 ∨ x2 = 1 → bd 0 10000 x4) → j_X11_say_53 (fun s h' _ => ADr (K_say (h 136 0) x1 x2 x3 x4 x5) h s h' 1 m 60 0) x1 x2 x3 x4 x5 h g := by
    intro k4
    unfold j_X11_say_53
    refine ⟨fun c => j68 k1 ⟨q0, k2, k3, k4, fun e => absurd e c⟩, fun c => ?_⟩
    exact c_yr (fun q3 => ⟨fun _ => j68 k1 ⟨q0, k2, k3, k4, fun _ => q3⟩, fun c => absI c⟩) (fun q3 => ⟨fun c => absurd rfl c, fun _ => bad (fun hc => q3 (hc.2.2.2.2 c))⟩)
  refine ⟨fun c => j53 (fun e => absurd e (fun e => e.elim (i01 k2 c).1 (i01 k2 c).2)), fun c => ?_⟩
  exact c_in3 (fun q3 => ⟨fun c => absI c, fun _ => j53 (fun _ => bd.mo q3 (by decide) (by decide))⟩) (fun q3 => ⟨fun _ => bad (fun hc => q3 (bd.mo (hc.2.2.2.1 (i02 k2 c)) (by decide) (by decide))), fun c => absN c⟩)
end
section
-- 43.mutr2
theorem p_X11_chain {h : HI} {g : HL} (r : RG (h 136)) {m : Nat} (em : h 136 2 = nI m) (hm : m ≤ 16) {x1 x2 : Int32} : w_X11_chain x1 x2 h g (fun s h' _ => ADr (K_chain x1 x2) h s h' 2 m 16 0) := by
  unfold w_X11_chain
  have e1 : (-100000 : Int64).toInt = -100000 := by decide
  have e2 : (100000 : Int64).toInt = 100000 := by decide
  refine c_in3 (fun q0 => ⟨fun c => absI c, fun _ => ?_⟩) (fun q0 => ⟨fun _ => .inl ⟨fun hc => q0 ?_, rfl, rfl⟩, fun c => absN c⟩)
  rotate_left
  · unfold K_chain bd at hc
    unfold bd
    rw [Int32.toInt_toInt64, e1]; omega
  refine c_in3 (fun q1 => ⟨fun _ => ?_, fun c => absI c⟩) (fun q1 => ⟨fun c => absurd rfl c, fun _ => .inl ⟨fun hc => q1 ?_, rfl, rfl⟩⟩)
  rotate_left
  · unfold K_chain bd at hc
    unfold bd
    rw [Int32.toInt_toInt64, e2]; omega
  have hC : K_chain x1 x2 := by
    unfold bd at q0 q1
    rw [Int32.toInt_toInt64, e1] at q0
    rw [Int32.toInt_toInt64, e2] at q1
    unfold K_chain bd
    omega
  have v0 : vp_in (2 : Int32) 887 := vp_in_iff.mpr (by decide)
  rw [cl2, em]
  refine and_have v0 (fun _ => ⟨fun c => ?_, fun c => .inr (.inl ⟨hC, (nI_eq (by omega) (by omega)).mp c, rfl, rfl⟩)⟩)
  have hlt : m < 16 := by
    have : m ≠ 16 := fun e => c (by rw [e]; rfl)
    omega
  refine and_have v0 (fun _ => ?_)
  rintro _ rfl
  rw [show (512 : Int32) + ((10 : Int32) * nI m) = nI (512 + 10 * m) from ix2 512 10 m]
  refine lpE_intro (fun ⟨a_q, b_q, c_q, d_q, h_q, _⟩ => ∃ (k : Nat) (f : Nat → Int32), k ≤ 10 ∧ x1 = a_q ∧ x2 = b_q ∧ nI (512 + 10 * m) = c_q ∧ nI k = d_q ∧ ST h h_q f ∧ ∀ i, i < 9 → f i = h 136 i) (fun ⟨_, _, _, d_q, _, _⟩ => dif (nI 10) d_q) ?_ _ ⟨0, h 136, by omega, rfl, rfl, rfl, nI_0, ST.rf r, fun _ _ => rfl⟩
  rintro ⟨y1, y2, y3, y4, h1, g1⟩ K ⟨k, f, hk, rfl, rfl, rfl, rfl, S1, hf⟩ hK
  unfold F_X11_chain_60; dsimp only; unfold b_X11_chain_60
  refine ⟨fun _ => ?_, fun c => ?_⟩
  · refine c_i (p_one (c := 2) (m := m) S1 v0 cl2 (by rw [hf 2 (by omega)]; exact em) (by omega) (okn2 (by omega))) ?_
    rintro _ h6 _ ⟨rfl, -, S6⟩
    refine .inr (.inr ⟨hC, hlt, rfl, S6.1, by rw [S6.2.1, pk_us], ?_, by rw [S6.2.1]; exact S6.2.2⟩)
    intro i hi hn
    rw [S6.2.1, pk_un hn, hf i hi]
  · have hd := dif_lt (a := nI 10) c
    rw [show (10 : Int32) = nI 10 from rfl, nI_leI (by omega) (by omega)] at c
    rw [nI_add]
    have j95 : ∀ v : Int32, (2 ≤ k → v = 0) → j_X11_chain_95 (fun s h' _ => ADr (K_chain x1 x2) h s h' 2 m 16 0) (fun x1 x2 x3 x4 h g => K (x1, x2, x3, x4, h, g)) x1 x2 (nI (512 + 10 * m)) (nI k) (nI (512 + 10 * m + k)) v h1 g1 := by
      intro v hv
      unfold j_X11_chain_95
      rw [nI_clamp (n := 512 + 10 * m + k) (by omega)]
      refine and_have (vp_in_nI (by omega) (by omega)) (fun _ => ?_)
      intro h2 e2'
      rintro _ rfl
      have z6 : 2 ≤ k → bd 0 6 v := fun h => by rw [hv h]; unfold bd; decide
      have z23 : 2 ≤ k → bd 0 23 v := fun h => by rw [hv h]; unfold bd; decide
      have S2 := S1.hu e2' (okD (by omega) (fun _ => z6 (by omega)) (fun _ => z23 (by omega)))
      exact hK _ ⟨k + 1, _, by omega, rfl, rfl, rfl, (nI_1 k).symm, S2, fun i hi => by rw [cnt_u hi (by omega)]; exact hf i hi⟩ hd
    refine ⟨fun c0 => ⟨fun c1 => j95 _ (fun _ => rfl), fun c1 => j95 _ (fun h => ?_)⟩, fun c0 => j95 _ (fun h => ?_)⟩
    · have : k = 1 := (nI_eq (by omega) (by omega)).mp c1
      omega
    · have : k = 0 := (nI_eq (by omega) (by omega)).mp (c0.trans nI_0.symm)
      omega
theorem p_X11_work {h : HI} {g : HL} (r : RG (h 136)) {m : Nat} (em : h 136 3 = nI m) (hm : m ≤ 8) {x1 x2 x3 x4 : Int32} : w_X11_work x1 x2 x3 x4 h g (fun s h' _ => ADr (K_work x1 x2 x3 x4) h s h' 3 m 8 0) := by
  have e1 : (1 : Int64).toInt = 1 := by decide
  have e3 : (3000 : Int64).toInt = 3000 := by decide
  unfold w_X11_work
  refine c_in3 (fun q0 => ⟨fun c => absI c, fun _ => ?_⟩) (fun q0 => ⟨fun _ => .inl ⟨fun hc => q0 (bd.mo hc.2.1 (by decide) (by decide)), rfl, rfl⟩, fun c => absN c⟩)
  refine ⟨fun c => .inl ⟨fun hc => hc.1 c, rfl, rfl⟩, fun cz => ?_⟩
  refine c_in3 (fun q1 => ⟨fun c => absI c, fun _ => ?_⟩) (fun q1 => ⟨fun _ => .inl ⟨fun hc => q1 (bd.mo hc.2.2.1 (by decide) (by decide)), rfl, rfl⟩, fun c => absN c⟩)
  refine c_in3 (fun q2 => ⟨fun c => absI c, fun _ => ?_⟩) (fun q2 => ⟨fun _ => .inl ⟨fun hc => q2 ?_, rfl, rfl⟩, fun c => absN c⟩)
  rotate_left
  · unfold K_work bd at hc
    unfold bd
    rw [Int32.toInt_toInt64, e1]; omega
  refine c_in3 (fun q3 => ⟨fun _ => ?_, fun c => absI c⟩) (fun q3 => ⟨fun c => absurd rfl c, fun _ => .inl ⟨fun hc => q3 ?_, rfl, rfl⟩⟩)
  rotate_left
  · unfold K_work bd at hc
    unfold bd
    rw [Int32.toInt_toInt64, e3]; omega
  have b0 : bd (-500) 500 x1 := bd.mo q0 (by decide) (by decide)
  have b1 : bd 1 1000 x2 := bd.mo q1 (by decide) (by decide)
  have hC : K_work x1 x2 x3 x4 := by
    unfold bd at q2 q3
    rw [Int32.toInt_toInt64, e1] at q2
    rw [Int32.toInt_toInt64, e3] at q3
    refine ⟨cz, b0, b1, ?_, ?_⟩
    · unfold bd; omega
    · unfold bd; omega
  have v0 : vp_in (3 : Int32) 887 := vp_in_iff.mpr (by decide)
  rw [cl3, em]
  refine and_have v0 (fun _ => ⟨fun c => ?_, fun c => .inr (.inl ⟨hC, (nI_eq (by omega) (by omega)).mp c, rfl, rfl⟩)⟩)
  have hlt : m < 8 := by
    have : m ≠ 8 := fun e => c (by rw [e]; rfl)
    omega
  refine and_have v0 (fun _ => ?_)
  rintro _ rfl
  rw [show (672 : Int32) + ((4 : Int32) * nI m) = nI (672 + 4 * m) from ix2 672 4 m, show nI (672 + 4 * m) + (1 : Int32) = nI (672 + 4 * m + 1) from nI_add _ 1, show nI (672 + 4 * m) + (2 : Int32) = nI (672 + 4 * m + 2) from nI_add _ 2, show nI (672 + 4 * m) + (3 : Int32) = nI (672 + 4 * m + 3) from nI_add _ 3, nI_clamp (n := 672 + 4 * m) (by omega), nI_clamp (n := 672 + 4 * m + 1) (by omega), nI_clamp (n := 672 + 4 * m + 2) (by omega), nI_clamp (n := 672 + 4 * m + 3) (by omega)]
  refine and_have (vp_in_nI (by omega) (by omega)) (fun _ => ?_)
  intro h1 e1
  have S1 := (ST.rf r).hu e1 (okE (by omega) (fun _ => b0) (fun _ => by omega))
  refine and_have (vp_in_nI (by omega) (by omega)) (fun _ => ?_)
  intro h2 e2
  have S2 := S1.hu e2 (okE (by omega) (fun _ => by omega) (fun _ => b1.mo (by omega) (by omega)))
  refine and_have (vp_in_nI (by omega) (by omega)) (fun _ => ?_)
  intro h3 e3
  have S3 := S2.hu e3 (okE (by omega) (fun _ => by omega) (fun _ => by omega))
  refine and_have (vp_in_nI (by omega) (by omega)) (fun _ => ?_)
  intro h4 e4
  have S4 := S3.hu e4 (okE (by omega) (fun _ => by omega) (fun _ => by omega))
  refine c_i (p_one (c := 3) (m := m) S4 v0 cl3 (by rw [cnt_u (by omega) (by omega), cnt_u (by omega) (by omega), cnt_u (by omega) (by omega), cnt_u (by omega) (by omega)]; exact em) (by omega) (okn3 (by omega))) ?_
  rintro _ h6 _ ⟨rfl, -, S6⟩
  refine .inr (.inr ⟨hC, hlt, rfl, S6.1, by rw [S6.2.1, pk_us], ?_, by rw [S6.2.1]; exact S6.2.2⟩)
  intro i hi hn
  rw [S6.2.1, pk_un hn, cnt_u hi (by omega), cnt_u hi (by omega), cnt_u hi (by omega), cnt_u hi (by omega)]
/-- a call of the reference that leaves its counts -/
def PTr (A : Prop) (h h' : HI) : Prop := A ∧ ∃ f, ST h h' f ∧ ∀ i, i < 9 → f i = h 136 i
theorem PTr.rf {A : Prop} {h : HI} (r : RG (h 136)) (a : A) : PTr A h h := ⟨a, h 136, ST.rf r, fun _ _ => rfl⟩
theorem p_X11_family {h : HI} {g : HL} (r : RG (h 136)) {x1 x2 x3 x4 : Int32} : w_X11_family x1 x2 x3 x4 h g (fun s h' _ => PTr (ANS (K_fam x1 x2 x3 x4) s 1) h h') := by
  have bad : ¬ K_fam x1 x2 x3 x4 → PTr (ANS (K_fam x1 x2 x3 x4) (-2) 1) h h := fun k => PTr.rf r (.inr ⟨k, rfl⟩)
  unfold w_X11_family
  refine c_in3 (fun q0 => ⟨fun c => absI c, fun _ => ?_⟩) (fun q0 => ⟨fun _ => bad (fun hc => q0 (bd.mo hc.1 (by decide) (by decide))), fun c => absN c⟩)
  refine c_sz (fun q1 => ⟨fun c => absI c, fun _ => ?_⟩) (fun q1 => ⟨fun _ => bad (fun hc => q1 hc.2.1), fun c => absN c⟩)
  refine c_sz (fun q2 => ⟨fun c => absI c, fun _ => ?_⟩) (fun q2 => ⟨fun _ => bad (fun hc => q2 hc.2.2.1), fun c => absN c⟩)
  refine c_sz (fun q3 => ⟨fun c => absI c, fun _ => ?_⟩) (fun q3 => ⟨fun _ => bad (fun hc => q3 hc.2.2.2.1), fun c => absN c⟩)
  refine ⟨fun q4 => ?_, fun q4 => bad (fun hc => q4 hc.2.2.2.2)⟩
  have b0 : bd 0 3 x1 := bd.mo q0 (by decide) (by decide)
  have hC : K_fam x1 x2 x3 x4 := ⟨b0, q1, q2, q3, q4⟩
  obtain ⟨j, j1, j2, rfl⟩ := bd_nI b0
  rw [show ((140 : Int32) + ((3 : Int32) * nI j)) + (1 : Int32) = nI (140 + 3 * j + 1) from ix3 140 3 j 1, show ((140 : Int32) + ((3 : Int32) * nI j)) + (2 : Int32) = nI (140 + 3 * j + 2) from ix3 140 3 j 2, show (140 : Int32) + ((3 : Int32) * nI j) = nI (140 + 3 * j) from ix2 140 3 j, nI_clamp (n := 140 + 3 * j) (by omega), nI_clamp (n := 140 + 3 * j + 1) (by omega), nI_clamp (n := 140 + 3 * j + 2) (by omega)]
  refine and_have (vp_in_nI (by omega) (by omega)) (fun _ => ?_)
  intro h1 e1
  have S1 := (ST.rf r).hu e1 (okB (by omega) (fun _ => by omega))
  refine and_have (vp_in_nI (by omega) (by omega)) (fun _ => ?_)
  intro h2 e2
  have S2 := S1.hu e2 (okB (by omega) (fun _ => q2))
  refine and_have (vp_in_nI (by omega) (by omega)) (fun _ => ?_)
  intro h3 e3
  have S3 := S2.hu e3 (okB (by omega) (fun _ => by omega))
  exact ⟨.inl ⟨hC, rfl⟩, _, S3, fun i hi => by rw [cnt_u hi (by omega), cnt_u hi (by omega), cnt_u hi (by omega)]⟩
theorem p_X11_erase {h : HI} {g : HL} (r : RG (h 136)) {m : Nat} (em : h 136 8 = nI m) : w_X11_erase h g (fun s h' _ => s = nI m ∧ ST h h' (upd (h 136) 8 0)) := by
  unfold w_X11_erase
  refine c_i (S := fun s h' g' => s = nI m ∧ ST h h' (upd (h 136) 8 0)) ?_ (fun _ _ _ k => k)
  unfold w_X11_puts
  rw [cl8, em]
  refine and_have (vp_in_iff.mpr (by decide)) (fun v => ?_)
  rintro _ rfl
  refine and_have v (fun _ => ?_)
  intro h1 e1
  exact ⟨rfl, (ST.rf r).hu e1 (okn8 (m := 0) (by omega))⟩
theorem p_X11_need {h : HI} {g : HL} (r : RG (h 136)) {x1 x2 : Int32} : w_X11_need x1 x2 h g (fun _ h' _ => PTr True h h') := by
  unfold w_X11_need
  refine c_in3 (fun q0 => ⟨fun c => absI c, fun _ => ?_⟩) (fun q0 => ⟨fun _ => PTr.rf r trivial, fun c => absN c⟩)
  refine c_in3 (fun q1 => ⟨fun c => absI c, fun _ => ?_⟩) (fun q1 => ⟨fun _ => PTr.rf r trivial, fun c => absN c⟩)
  obtain ⟨j, j1, j2, rfl⟩ := bd_nI (bd.mo q0 (c := 0) (d := 3) (by decide) (by decide))
  refine c_i (S := fun s h' g' => PTr True h h') ?_ (fun _ _ _ k => k)
  unfold w_X11_puts
  rw [show (823 : Int32) + nI j = nI (823 + j) from nI_add 823 j, nI_clamp (n := 823 + j) (by omega)]
  refine and_have (vp_in_nI (by omega) (by omega)) (fun v => ?_)
  rintro _ rfl
  refine and_have v (fun _ => ?_)
  intro h1 e1
  exact ⟨trivial, _, (ST.rf r).hu e1 (okZ (by omega)), fun i hi => cnt_u hi (by omega)⟩
theorem p_X11_odds {h : HI} {g : HL} (r : RG (h 136)) {x1 x2 : Int32} : w_X11_odds x1 x2 h g (fun s h' _ => PTr (ANS (K_odds x1 x2) s 1) h h') := by
  have bad : ¬ K_odds x1 x2 → PTr (ANS (K_odds x1 x2) (-2) 1) h h := fun k => PTr.rf r (.inr ⟨k, rfl⟩)
  unfold w_X11_odds
  refine c_dg (fun q0 => ⟨fun c => absI c, fun _ => ?_⟩) (fun q0 => ⟨fun _ => bad (fun hc => q0 hc.1), fun c => absN c⟩)
  refine c_dg (fun q1 => ⟨fun _ => ?_, fun c => absI c⟩) (fun q1 => ⟨fun c => absurd rfl c, fun _ => bad (fun hc => q1 hc.2)⟩)
  rw [cl9, cl10]
  refine and_have (vp_in_iff.mpr (by decide)) (fun v => ?_)
  intro h1 e1
  have S1 := (ST.rf r).hu e1 (show okR 9 x1 from q0)
  refine and_have (vp_in_iff.mpr (by decide)) (fun v => ?_)
  intro h2 e2
  have S2 := S1.hu e2 (show okR 10 x2 from q1)
  exact ⟨.inl ⟨⟨q0, q1⟩, rfl⟩, _, S2, fun i hi => by rw [cnt_u hi (by omega), cnt_u hi (by omega)]⟩
theorem p_X11_scrap {h : HI} {g : HL} (r : RG (h 136)) {m n : Nat} (em : h 136 4 = nI m) (en : h 136 5 = nI n) : w_X11_scrap h g (fun s h' _ => s = nI m + nI n ∧ ST h h' (upd (upd (h 136) 4 0) 5 0)) := by
  unfold w_X11_scrap
  rw [cl4, cl5, em, en]
  have v4 : vp_in (4 : Int32) 887 := vp_in_iff.mpr (by decide)
  have v5 : vp_in (5 : Int32) 887 := vp_in_iff.mpr (by decide)
  refine and_have v4 (fun _ => and_have v5 (fun _ => ?_))
  rintro _ rfl
  refine and_have v4 (fun _ => ?_)
  intro h1 e1
  refine and_have v5 (fun _ => ?_)
  intro h2 e2
  exact ⟨rfl, ((ST.rf r).hu e1 (okn4 (m := 0) (by omega))).hu e2 (okn5 (m := 0) (by omega))⟩
theorem p_X11_deny {h : HI} {g : HL} (r : RG (h 136)) {x1 x2 : Int32} : w_X11_deny x1 x2 h g (fun _ h' _ => PTr True h h') := by
  have hR := r.ri
  unfold w_X11_deny
  refine c_is (vp_in_iff.mpr (by decide)) hR.c1 (by decide) (fun q q1 => ⟨fun _ => ?_, fun c => absI c⟩) (fun q => ⟨fun c => absurd rfl c, fun _ => PTr.rf r trivial⟩)
  have b1 : bd 0 59 x1 := q.mo (by decide) (by decide)
  refine c_i (p_X11_sayOf hR b1 ((bd_lit (n := 5) (by decide)).mo (by decide) (by decide))) ?_
  rintro _ _ _ ⟨rfl, rfl, rfl⟩
  obtain ⟨j, j1, j2, rfl⟩ := bd_nI b1
  have j57 : ∀ v : Int32, j_X11_deny_57 (fun _ h' _ => PTr True h h') (((152 : Int32) + ((6 : Int32) * nI j)) + (5 : Int32)) v h g := by
    intro v
    unfold j_X11_deny_57
    rw [show ((152 : Int32) + ((6 : Int32) * nI j)) + (5 : Int32) = nI (152 + 6 * j + 5) from ix3 152 6 j 5, nI_clamp (by omega)]
    refine and_have (vp_in_nI (by omega) (by omega)) (fun _ => ?_)
    intro h1 e1
    exact ⟨trivial, _, (ST.rf r).hu e1 (okC' (by omega) (fun _ => by omega)), fun i hi => cnt_u hi (by omega)⟩
  have j27 : ∀ v : Int32, j_X11_deny_27 (fun _ h' _ => PTr True h h') (nI j) x2 v h g := by
    intro v
    unfold j_X11_deny_27
    exact ⟨fun _ => ⟨fun _ => j57 _, fun _ => j57 _⟩, fun _ => PTr.rf r trivial⟩
  exact ⟨fun _ => j27 _, fun _ => j27 _⟩
theorem p_X11_bear {h : HI} {g : HL} (r : RG (h 136)) {x1 x2 x3 : Int32} : w_X11_bear x1 x2 x3 h g (fun _ h' _ => PTr True h h') := by
  have hR := r.ri
  unfold w_X11_bear
  refine c_is (vp_in_iff.mpr (by decide)) hR.c0 (by decide) (fun q q1 => ⟨fun c => absI c, fun _ => ?_⟩) (fun q => ⟨fun _ => PTr.rf r trivial, fun c => absN c⟩)
  refine c_is (vp_in_iff.mpr (by decide)) hR.c0 (by decide) (fun p p1 => ⟨fun c => absI c, fun _ => ?_⟩) (fun q => ⟨fun _ => PTr.rf r trivial, fun c => absN c⟩)
  refine ⟨fun _ => ?_, fun _ => PTr.rf r trivial⟩
  have b1 : bd 0 23 x1 := q.mo (by decide) (by decide)
  refine c_i (p_X11_partOf hR b1 ((bd_lit (n := 4) (by decide)).mo (by decide) (by decide))) ?_
  rintro _ _ _ ⟨rfl, rfl, rfl⟩
  obtain ⟨j, j1, j2, rfl⟩ := bd_nI b1
  have j45 : ∀ v : Int32, j_X11_bear_45 (fun _ h' _ => PTr True h h') (nI j) x2 x3 v h g := by
    intro v
    unfold j_X11_bear_45
    rw [show ((20 : Int32) + ((5 : Int32) * nI j)) + (4 : Int32) = nI (20 + 5 * j + 4) from ix3 20 5 j 4, nI_clamp (by omega)]
    have v1 : vp_in (nI (20 + 5 * j + 4)) 887 := vp_in_nI (by omega) (by omega)
    refine ⟨fun _ => and_have v1 (fun _ => and_have v1 (fun _ => ?_)), fun _ => PTr.rf r trivial⟩
    intro h1 e1
    exact ⟨trivial, _, (ST.rf r).hu e1 (okA (by omega) (fun _ => by omega) (fun _ => by omega)), fun i hi => cnt_u hi (by omega)⟩
  exact ⟨fun _ => j45 _, fun _ => j45 _⟩
theorem p_X11_link {h : HI} {g : HL} (r : RG (h 136)) {x1 x2 x3 : Int32} : w_X11_link x1 x2 x3 h g (fun _ h' _ => PTr True h h') := by
  have hR := r.ri
  unfold w_X11_link
  refine c_is (vp_in_iff.mpr (by decide)) hR.c2 (by decide) (fun q q1 => ⟨fun c => absI c, fun _ => ?_⟩) (fun q => ⟨fun _ => PTr.rf r trivial, fun c => absN c⟩)
  refine c_is (vp_in_iff.mpr (by decide)) hR.c0 (by decide) (fun p p1 => ⟨fun c => absI c, fun _ => ?_⟩) (fun q => ⟨fun _ => PTr.rf r trivial, fun c => absN c⟩)
  have b1 : bd 0 15 x1 := q.mo (by decide) (by decide)
  have b2 : bd 0 23 x2 := p.mo (by decide) (by decide)
  refine c_z (p_X11_has hR b1) ?_
  rintro s _ _ ⟨rfl, rfl⟩
  refine ⟨fun _ => ?_, fun _ => PTr.rf r trivial⟩
  obtain ⟨j, j1, j2, rfl⟩ := bd_nI b1
  obtain ⟨n, n1, n2, en⟩ := bd_nI (r.ri.2.2.2.2.1 j (by omega)).1
  rintro _ rfl
  rw [show (512 : Int32) + ((10 : Int32) * nI j) = nI (512 + 10 * j) from ix2 512 10 j, show nI (512 + 10 * j) + (2 : Int32) = nI (512 + 10 * j + 2) from nI_add _ 2, show nI (512 + 10 * j) + (3 : Int32) = nI (512 + 10 * j + 3) from nI_add _ 3, show nI (512 + 10 * j) + (9 : Int32) = nI (512 + 10 * j + 9) from nI_add _ 9, nI_clamp (n := 512 + 10 * j + 2) (by omega), nI_clamp (n := 512 + 10 * j + 9) (by omega), en, nI_add, nI_clamp (n := 512 + 10 * j + 3 + n) (by omega)]
  have v2 : vp_in (nI (512 + 10 * j + 2)) 887 := vp_in_nI (by omega) (by omega)
  refine and_have v2 (fun _ => ⟨fun c => ?_, fun _ => PTr.rf r trivial⟩)
  have hlt : n < 6 := by
    have : n ≠ 6 := fun e => c (by rw [e]; rfl)
    omega
  refine and_have v2 (fun _ => and_have (vp_in_nI (by omega) (by omega)) (fun _ => ?_))
  intro h1 e1
  have S1 := (ST.rf r).hu e1 (okD (by omega) (fun _ => by omega) (fun _ => b2))
  refine and_have (vp_in_nI (by omega) (by omega)) (fun v9 => ?_)
  have j107 : ∀ a b : Int32, j_X11_link_107 (fun _ h' _ => PTr True h h') (nI (512 + 10 * j)) (nI (512 + 10 * j + 9)) a b h1 g := by
    intro a b
    unfold j_X11_link_107
    rw [nI_clamp (n := 512 + 10 * j + 9) (by omega), show nI (512 + 10 * j) + (2 : Int32) = nI (512 + 10 * j + 2) from nI_add _ 2, nI_clamp (n := 512 + 10 * j + 2) (by omega)]
    refine and_have v9 (fun _ => ?_)
    intro h2 e2
    have S2 := S1.hu e2 (okD (by omega) (fun _ => by omega) (fun _ => by omega))
    have e22 : h2 136 (512 + 10 * j + 2) = nI n := by
      rw [S2.2.1, pk_un (by omega), pk_un (by omega)]; exact en
    rw [e22, nI_1]
    refine and_have v2 (fun _ => and_have v2 (fun _ => ?_))
    intro h3 e3
    have S3 := S2.hu e3 (okD (by omega) (fun _ => bd_of (by omega) (by omega) (by omega)) (fun _ => by omega))
    exact ⟨v2, trivial, _, S3, fun i hi => by rw [cnt_u hi (by omega), cnt_u hi (by omega), cnt_u hi (by omega)]⟩
  exact ⟨fun _ => j107 _ _, fun _ => ⟨v2, j107 _ _⟩⟩
end
section
-- 44.img
/-! IMAGES -/
/-- the first k tables of shop o are as those of shop o1 were -/
def CPK (h h' : HI) (o o1 k : Nat) : Prop := (∀ q, q < o + 1 ∨ o + 2 * k < q → h' q = h q) ∧ ∀ j, j < k → ∃ m1, TT h (o1 + (1 + 2 * j)) m1 (wJ j) (MJ j) ∧ TT h' (o + (1 + 2 * j)) m1 (wJ j) (MJ j)
theorem cp_step {h hk : HI} {g : HL} {o o1 k : Nat} (hk12 : k < 12) (ds : o + 24 < o1 + 1 ∨ o1 + 24 < o + 1) (A : ∀ j, j < 12 → ∃ m, TT h (o + (1 + 2 * j)) m (wJ j) (MJ j)) (B : ∀ j, j < 12 → ∃ m, TT h (o1 + (1 + 2 * j)) m (wJ j) (MJ j)) (I : CPK h hk o o1 k) : w_X8_copy (o + (1 + 2 * k)) (o1 + (1 + 2 * k)) hk g (fun h' _ => CPK h h' o o1 (k + 1)) := by
  obtain ⟨m, T⟩ := A k hk12
  obtain ⟨m1, T1⟩ := B k hk12
  have T' : TT hk (o + (1 + 2 * k)) m (wJ k) (MJ k) := T.cg (I.1 _ (by omega))
  have T1' : TT hk (o1 + (1 + 2 * k)) m1 (wJ k) (MJ k) := T1.cg (I.1 _ (by omega))
  have e := p_copy (g := g) T' T1' (by omega) (by omega) (by omega)
  revert e
  unfold w_X8_copy
  intro e x ex
  obtain ⟨e1, e2⟩ := e x ex
  have key : ∀ h' g', (g = g' ∧ JJ (SB (o + (1 + 2 * k))) hk h' ∧ TT h' (o + (1 + 2 * k)) m1 (wJ k) (MJ k) ∧ ∀ i, i < m1 * wJ k → h' (o + (1 + 2 * k) + 1) i = hk (o1 + (1 + 2 * k) + 1) i) → CPK h h' o o1 (k + 1) := by
    rintro h' g' ⟨-, J, T2, -⟩
    refine ⟨fun q hq => ?_, fun j hj => ?_⟩
    · rw [J q (by unfold SB; omega)]; exact I.1 q (by omega)
    · by_cases ej : j = k
      · subst ej; exact ⟨m1, T1, T2⟩
      · obtain ⟨a, b, c⟩ := I.2 j (by omega)
        exact ⟨a, b, c.cg (J _ (by unfold SB; omega))⟩
  refine ⟨fun c => key _ _ (e1 c), fun c => ?_⟩
  obtain ⟨e3, e4⟩ := e2 c
  refine ⟨fun c => key _ _ (e3 c), fun c => ?_⟩
  obtain ⟨e5, e6⟩ := e4 c
  refine ⟨fun c => key _ _ (e5 c), fun c => ?_⟩
  obtain ⟨e7, e8⟩ := e6 c
  refine ⟨fun c => ?_, fun c => key _ _ (e8 c)⟩
  obtain ⟨e9, e10⟩ := e7 c
  exact ⟨e9, fun a ea b eb => key _ _ (e10 a ea b eb)⟩
theorem p_X6_copy {h : HI} {g : HL} {o o1 : Nat} (ds : o + 24 < o1 + 1 ∨ o1 + 24 < o + 1) (A : ∀ j, j < 12 → ∃ m, TT h (o + (1 + 2 * j)) m (wJ j) (MJ j)) (B : ∀ j, j < 12 → ∃ m, TT h (o1 + (1 + 2 * j)) m (wJ j) (MJ j)) : w_X6_copy o o1 h g (fun h' _ => CPK h h' o o1 12) := by
  unfold w_X6_copy
  refine c_v (cp_step (k := 0) (by omega) ds A B ⟨fun _ _ => rfl, fun j hj => by omega⟩) ?_
  intro h1 g1 I1
  refine c_v (cp_step (k := 1) (by omega) ds A B I1) ?_
  intro h2 g2 I2
  refine c_v (cp_step (k := 2) (by omega) ds A B I2) ?_
  intro h3 g3 I3
  refine c_v (cp_step (k := 3) (by omega) ds A B I3) ?_
  intro h4 g4 I4
  refine c_v (cp_step (k := 4) (by omega) ds A B I4) ?_
  intro h5 g5 I5
  refine c_v (cp_step (k := 5) (by omega) ds A B I5) ?_
  intro h6 g6 I6
  refine c_v (cp_step (k := 6) (by omega) ds A B I6) ?_
  intro h7 g7 I7
  refine c_v (cp_step (k := 7) (by omega) ds A B I7) ?_
  intro h8 g8 I8
  refine c_v (cp_step (k := 8) (by omega) ds A B I8) ?_
  intro h9 g9 I9
  refine c_v (cp_step (k := 9) (by omega) ds A B I9) ?_
  intro h10 g10 I10
  refine c_v (cp_step (k := 10) (by omega) ds A B I10) ?_
  intro h11 g11 I11
  refine c_v (cp_step (k := 11) (by omega) ds A B I11) ?_
  intro h12 g12 I12
  exact I12
theorem p_X10_imageAt {h : HI} {g : HL} {i : Nat} (hi : i < 2) : w_X10_imageAt (nI i) h g (fun r h' g' => h = h' ∧ g = g' ∧ 26 + 25 * i = r) := by
  unfold w_X10_imageAt j_X10_imageAt_15
  have : i = 0 ∨ i = 1 := by omega
  rcases this with rfl | rfl
  · exact ⟨fun c => absurd nI_0 c, fun _ => ⟨rfl, rfl, rfl⟩⟩
  · exact ⟨fun _ => ⟨rfl, rfl, rfl⟩, fun c => absurd c (by decide)⟩
theorem nar1 : vp_nar .boolean (1 : Int32) = 1 := zb_v (.inr rfl)
theorem p_X10_image {h : HI} {g : HL} (c : CJ h) {x1 : Int32} : w_X10_image x1 h g (fun r h' _ => (¬ bd 0 1 x1 ∧ r = -2 ∧ h' = h) ∨ ∃ i, i < 2 ∧ x1 = nI i ∧ r = 1 ∧ ∃ h1, CPK h h1 (26 + 25 * i) 1 12 ∧ h' = hu h1 76 i 1) := by
  unfold w_X10_image
  refine c_wb (fun q0 => ⟨fun _ => ?_, fun c => absI c⟩) (fun q0 => ⟨fun c => absurd rfl c, fun _ => .inl ⟨fun hc => q0 (bd.mo hc (by decide) (by decide)), rfl, rfl⟩⟩)
  obtain ⟨i, i1, i2, rfl⟩ := bd_nI (bd.mo q0 (c := 0) (d := 1) (by decide) (by decide))
  refine c_n (p_X10_imageAt (by omega)) ?_
  rintro _ _ _ ⟨rfl, rfl, rfl⟩
  refine and_have (isS26 (by omega)) (fun hs => ?_)
  refine c_v (p_X6_copy (by omega) (c _ hs) (c _ isS1)) ?_
  intro h1 g1 I1
  refine and_have (vp_in_nI (by omega) (by omega)) (fun _ => ?_)
  intro h2 e2
  rw [nar1, nI_clamp (by omega)] at e2
  exact .inr ⟨i, by omega, rfl, rfl, h1, I1, e2⟩
theorem p_X10_from {h : HI} {g : HL} (c : CJ h) {x1 : Int32} : w_X10_from x1 h g (fun r h' _ => (¬ bd 0 1 x1 ∧ r = -2 ∧ h' = h) ∨ ∃ i, i < 2 ∧ x1 = nI i ∧ ((h 76 i = 0 ∧ r = -3 ∧ h' = h) ∨ (¬ h 76 i = 0 ∧ r = 1 ∧ ∃ h1, CPK h h1 1 (26 + 25 * i) 12 ∧ JJ SLaw h1 h'))) := by
  unfold w_X10_from
  refine c_wb (fun q0 => ⟨fun _ => ?_, fun c => absI c⟩) (fun q0 => ⟨fun c => absurd rfl c, fun _ => .inl ⟨fun hc => q0 (bd.mo hc (by decide) (by decide)), rfl, rfl⟩⟩)
  obtain ⟨i, i1, i2, rfl⟩ := bd_nI (bd.mo q0 (c := 0) (d := 1) (by decide) (by decide))
  rw [nI_clamp (n := i) (by omega)]
  refine and_have (vp_in_nI (by omega) (by omega)) (fun _ => ⟨fun ck => ?_, fun ck => .inr ⟨i, by omega, rfl, .inl ⟨ck, rfl, rfl⟩⟩⟩)
  refine c_n (p_X10_imageAt (by omega)) ?_
  rintro _ _ _ ⟨rfl, rfl, rfl⟩
  have hs := isS26 (i := i) (by omega)
  refine and_have hs (fun _ => ?_)
  refine c_v (p_X6_copy (by omega) (c _ isS1) (c _ hs)) ?_
  intro h1 g1 I1
  have C1 : CI h1 := by
    have : CJ h1 := fun s hs' j hj => by
      have hs3 : s = 1 ∨ s = 26 ∨ s = 51 := (by decide : ∀ s ∈ isSL, s = 1 ∨ s = 26 ∨ s = 51) s hs'
      by_cases q : s = 1
      · subst q
        obtain ⟨m1, -, T⟩ := I1.2 j hj
        exact ⟨m1, T⟩
      · obtain ⟨m, T⟩ := c s hs' j hj
        exact ⟨m, T.cg (I1.1 _ (by omega))⟩
    exact this.ci
  refine c_v (p_X4_read C1) ?_
  intro h2 g2 J2
  exact .inr ⟨i, by omega, rfl, .inr ⟨ck, rfl, h1, I1, J2⟩⟩
theorem p_X11_image {h : HI} {g : HL} {x1 : Int32} : w_X11_image x1 h g (fun r h' _ => (¬ bd 0 1 x1 ∧ r = -2 ∧ h' = h) ∨ ∃ i, i < 2 ∧ x1 = nI i ∧ r = 1 ∧ (∀ o, o ≠ 137 → o ≠ 138 → h' o = h o) ∧ h' 138 = upd (h 138) i 1 ∧ (∀ k, k < 887 → h' 137 (887 * i + k) = h 136 k) ∧ ∀ k, k < 887 * i ∨ 887 * i + 887 ≤ k → h' 137 k = h 137 k) := by
  unfold w_X11_image
  refine c_in3 (fun q0 => ⟨fun _ => ?_, fun c => absI c⟩) (fun q0 => ⟨fun c => absurd rfl c, fun _ => .inl ⟨fun hc => q0 (bd.mo hc (by decide) (by decide)), rfl, rfl⟩⟩)
  obtain ⟨i, i1, i2, rfl⟩ := bd_nI (bd.mo q0 (c := 0) (d := 1) (by decide) (by decide))
  refine and_have (vp_in_nI (by omega) (by omega)) (fun _ => ?_)
  intro h1 e1
  rw [nar1, nI_clamp (by omega)] at e1
  refine lpE_intro (fun ⟨a_q, b_q, h_q, _⟩ => ∃ k : Nat, k ≤ 887 ∧ nI i = a_q ∧ nI k = b_q ∧ (∀ o, o ≠ 137 → o ≠ 138 → h_q o = h o) ∧ h_q 138 = upd (h 138) i 1 ∧ (∀ j, j < k → h_q 137 (887 * i + j) = h 136 j) ∧ ∀ j, j < 887 * i ∨ 887 * i + 887 ≤ j → h_q 137 j = h 137 j) (fun ⟨_, b_q, _, _⟩ => dif (nI 887) b_q) ?_ _ ⟨0, by omega, rfl, nI_0, fun o _ n => by rw [e1, hu_ne n], by rw [e1, hu_eq], fun j hj => by omega, fun j _ => by rw [e1, hu_ne (by decide)]⟩
  rintro ⟨y1, y2, h2, g2⟩ K ⟨k, hk, rfl, rfl, F, F8, F7, F7'⟩ hK
  unfold F_X11_image_22; dsimp only; unfold b_X11_image_22
  refine ⟨fun c => ?_, fun c => ?_⟩
  · rw [show (887 : Int32) = nI 887 from rfl, nI_leI (by omega) (by omega)] at c
    exact .inr ⟨i, by omega, rfl, rfl, F, F8, fun j hj => F7 j (by omega), F7'⟩
  · have hd := dif_lt (a := nI 887) c
    rw [show (887 : Int32) = nI 887 from rfl, nI_leI (by omega) (by omega)] at c
    rw [show (887 : Int32) * nI i = nI (887 * i) from pk_mul 887 i, nI_add, nI_clamp (n := 887 * i + k) (by omega), nI_clamp (n := k) (by omega)]
    refine and_have (vp_in_nI (by omega) (by omega)) (fun _ => and_have (vp_in_nI (by omega) (by omega)) (fun _ => ?_))
    intro h3 e3
    rintro _ rfl
    refine hK _ ⟨k + 1, by omega, rfl, (nI_1 k).symm, fun o n m => by rw [e3, hu_ne n]; exact F o n m, by rw [e3, hu_ne (by decide)]; exact F8, fun j hj => ?_, fun j hj => by rw [e3, hu_eq, pk_un (by omega)]; exact F7' j hj⟩ hd
    rw [e3, hu_eq]
    by_cases ej : j = k
    · subst ej
      rw [pk_us, F 136 (by decide) (by decide)]
    · rw [pk_un (by omega)]; exact F7 j (by omega)
theorem p_X11_from {h : HI} {g : HL} {x1 : Int32} : w_X11_from x1 h g (fun r h' _ => (¬ bd 0 1 x1 ∧ r = -2 ∧ h' = h) ∨ ∃ i, i < 2 ∧ x1 = nI i ∧ ((h 138 i = 0 ∧ r = -3 ∧ h' = h) ∨ (¬ h 138 i = 0 ∧ r = 1 ∧ (∀ o, o ≠ 136 → h' o = h o) ∧ (∀ k, k < 887 → h' 136 k = h 137 (887 * i + k)) ∧ ∀ k, 887 ≤ k → h' 136 k = h 136 k))) := by
  unfold w_X11_from
  refine c_in3 (fun q0 => ⟨fun _ => ?_, fun c => absI c⟩) (fun q0 => ⟨fun c => absurd rfl c, fun _ => .inl ⟨fun hc => q0 (bd.mo hc (by decide) (by decide)), rfl, rfl⟩⟩)
  obtain ⟨i, i1, i2, rfl⟩ := bd_nI (bd.mo q0 (c := 0) (d := 1) (by decide) (by decide))
  rw [nI_clamp (n := i) (by omega)]
  refine and_have (vp_in_nI (by omega) (by omega)) (fun _ => ⟨fun ck => ?_, fun ck => .inr ⟨i, by omega, rfl, .inl ⟨ck, rfl, rfl⟩⟩⟩)
  refine lpE_intro (fun ⟨a_q, b_q, h_q, _⟩ => ∃ k : Nat, k ≤ 887 ∧ nI i = a_q ∧ nI k = b_q ∧ (∀ o, o ≠ 136 → h_q o = h o) ∧ (∀ j, j < k → h_q 136 j = h 137 (887 * i + j)) ∧ ∀ j, 887 ≤ j → h_q 136 j = h 136 j) (fun ⟨_, b_q, _, _⟩ => dif (nI 887) b_q) ?_ _ ⟨0, by omega, rfl, nI_0, fun _ _ => rfl, fun j hj => by omega, fun _ _ => rfl⟩
  rintro ⟨y1, y2, h2, g2⟩ K ⟨k, hk, rfl, rfl, F, F6, F6'⟩ hK
  unfold F_X11_from_27; dsimp only; unfold b_X11_from_27
  refine ⟨fun c => ?_, fun c => ?_⟩
  · rw [show (887 : Int32) = nI 887 from rfl, nI_leI (by omega) (by omega)] at c
    exact .inr ⟨i, by omega, rfl, .inr ⟨ck, rfl, F, fun j hj => F6 j (by omega), F6'⟩⟩
  · have hd := dif_lt (a := nI 887) c
    rw [show (887 : Int32) = nI 887 from rfl, nI_leI (by omega) (by omega)] at c
    rw [show (887 : Int32) * nI i = nI (887 * i) from pk_mul 887 i, nI_add, nI_clamp (n := 887 * i + k) (by omega), nI_clamp (n := k) (by omega)]
    refine and_have (vp_in_nI (by omega) (by omega)) (fun _ => and_have (vp_in_nI (by omega) (by omega)) (fun _ => ?_))
    intro h3 e3
    rintro _ rfl
    refine hK _ ⟨k + 1, by omega, rfl, (nI_1 k).symm, fun o n => by rw [e3, hu_ne n]; exact F o n, fun j hj => ?_, fun j hj => by rw [e3, hu_eq, pk_un (by omega)]; exact F6' j hj⟩ hd
    rw [e3, hu_eq]
    by_cases ej : j = k
    · subst ej
      rw [pk_us, F 137 (by decide)]
    · rw [pk_un ej]; exact F6 j (by omega)
theorem TT.un {h h' : HI} {o o' m n w M w' M' : Nat} (x : TT h o m w M) (y : TT h' o' n w' M') (e : h o 3 = h' o' 3) : m = n := by
  have a := x.2.2.1
  have b := y.2.2.1
  rw [e, b] at a
  have c1 := x.2.2.2.1
  have c2 := y.2.2.2.1
  have d1 := x.2.2.2.2.2.2.2.2
  have d2 := y.2.2.2.2.2.2.2.2
  exact ((nI_eq (by omega) (by omega)).mp a).symm
/-- a shop that was copied counts as the other did -/
theorem CN.cp {h h' : HI} {o o1 : Nat} {f f' : Nat → Int32} (c : CN h o1 f) (I : CPK h h' o o1 12) (ef : ∀ i, i < 9 → f' i = f i) : CN h' o f' := by
  have c' : CN h o1 f' := c.cg (fun _ _ _ => rfl) ef
  intro j hj
  obtain ⟨m, T, k⟩ := c' j hj
  obtain ⟨m1, T1, T2⟩ := I.2 j hj
  have : m = m1 := T.un T1 rfl
  subst this
  exact ⟨m, T2, k⟩
theorem RG.img {f f' : Nat → Int32} (r : RG f) (e : ∀ k, k < 887 → f' k = f k) : RG f' := fun k => by
  by_cases h : k < 887
  · rw [e k h]; exact r k
  · exact okZ (.inr (by omega))
end
section
-- 45.step
/-! THE STEPS: one call of both -/
theorem step_image {h h1 h2 : HI} {r s x1 : Int32} (v : INV h) (a : (¬ bd 0 1 x1 ∧ r = -2 ∧ h1 = h) ∨ ∃ i, i < 2 ∧ x1 = nI i ∧ r = 1 ∧ ∃ h0, CPK h h0 (26 + 25 * i) 1 12 ∧ h1 = hu h0 76 i 1) (b : (¬ bd 0 1 x1 ∧ s = -2 ∧ h2 = h1) ∨ ∃ i, i < 2 ∧ x1 = nI i ∧ s = 1 ∧ (∀ o, o ≠ 137 → o ≠ 138 → h2 o = h1 o) ∧ h2 138 = upd (h1 138) i 1 ∧ (∀ k, k < 887 → h2 137 (887 * i + k) = h1 136 k) ∧ ∀ k, k < 887 * i ∨ 887 * i + 887 ≤ k → h2 137 k = h1 137 k) : r = s ∧ INV h2 := by
  rcases a with ⟨a1, a2, rfl⟩ | ⟨i, hi, rfl, a2, h0, I0, e1⟩
  · rcases b with ⟨b1, b2, rfl⟩ | ⟨i, hi, rfl, b2, -⟩
    · exact ⟨a2.trans b2.symm, v⟩
    · exact absurd (bd_of (by omega) (by omega) (by omega)) a1
  · rcases b with ⟨b1, b2, rfl⟩ | ⟨i', hi', e', b2, F, F8, F7, F7'⟩
    · exact absurd (bd_of (by omega) (by omega) (by omega)) b1
    · have : i = i' := (nI_eq (by omega) (by omega)).mp e'
      subst this
      refine ⟨a2.trans b2.symm, ?_⟩
      obtain ⟨cj, rg0, wi, cn, kf, im⟩ := v
      have g1 : ∀ q, q ≠ 76 → h1 q = h0 q := fun q n => by rw [e1, hu_ne n]
      have g0 : ∀ q, q ≠ 76 → (q < 26 + 25 * i + 1 ∨ 26 + 25 * i + 24 < q) → h1 q = h q := fun q n76 n1 => by
        rw [g1 q n76]; exact I0.1 q (by omega)
      have e6 : h2 136 = h 136 := (F 136 (by decide) (by decide)).trans (g0 136 (by decide) (by omega))
      have e7 : h1 137 = h 137 := g0 137 (by decide) (by omega)
      have e8 : h1 138 = h 138 := g0 138 (by decide) (by omega)
      have e76 : h2 76 = upd (h 76) i 1 := by
        rw [F 76 (by decide) (by decide), e1, hu_eq, I0.1 76 (by omega)]
      rw [e8] at F8
      rw [e7] at F7'
      rw [g0 136 (by decide) (by omega)] at F7
      have tb : ∀ q, q ≤ 75 → h2 q = h0 q := fun q hq => (F q (by omega) (by omega)).trans (g1 q (by omega))
      refine ⟨?_, by rw [e6]; exact rg0, ?_, ?_, ?_, ?_⟩
      · intro s hs j hj
        have hs3 : s = 1 ∨ s = 26 ∨ s = 51 := (by decide : ∀ s ∈ isSL, s = 1 ∨ s = 26 ∨ s = 51) s hs
        by_cases q : s = 26 + 25 * i
        · subst q
          obtain ⟨m1, -, T⟩ := I0.2 j hj
          exact ⟨m1, T.cg (tb _ (by omega))⟩
        · obtain ⟨m, T⟩ := cj s hs j hj
          exact ⟨m, T.cg ((tb _ (by omega)).trans (I0.1 _ (by omega)))⟩
      · have : h2 147 = h 147 := (F 147 (by decide) (by decide)).trans (g0 147 (by decide) (by omega))
        exact wi.cg (by rw [this]) (by rw [this])
      · exact cn.cg (fun o h1' h2' => (tb o (by omega)).trans (I0.1 o (by omega))) (fun k hk => by rw [e6])
      · unfold KF
        rw [e76, F8]
        have : i = 0 ∨ i = 1 := by omega
        rcases this with rfl | rfl
        · exact ⟨rfl, by rw [pk_un (by decide), pk_un (by decide)]; exact kf.2⟩
        · exact ⟨by rw [pk_un (by decide), pk_un (by decide)]; exact kf.1, rfl⟩
      · intro i' hi' hn
        by_cases q : i' = i
        · subst q
          have c1 : CN h0 (26 + 25 * i') (IMG h2 i') := cn.cp I0 (fun k hk => F7 k (by omega))
          exact ⟨c1.cg (fun o h1' h2' => tb o (by omega)) (fun _ _ => rfl), rg0.img (fun k hk => F7 k hk)⟩
        · rw [F8, pk_un q] at hn
          obtain ⟨c1, c2⟩ := im i' hi' hn
          have eI : ∀ k, k < 887 → IMG h2 i' k = IMG h i' k := fun k hk => F7' _ (by omega)
          exact ⟨c1.cg (fun o h1' h2' => (tb o (by omega)).trans (I0.1 o (by omega))) (fun k hk => eI k (by omega)), c2.img eI⟩
theorem step_from {h h1 h2 : HI} {r s x1 : Int32} (v : INV h) (a : (¬ bd 0 1 x1 ∧ r = -2 ∧ h1 = h) ∨ ∃ i, i < 2 ∧ x1 = nI i ∧ ((h 76 i = 0 ∧ r = -3 ∧ h1 = h) ∨ (¬ h 76 i = 0 ∧ r = 1 ∧ ∃ h0, CPK h h0 1 (26 + 25 * i) 12 ∧ JJ SLaw h0 h1))) (b : (¬ bd 0 1 x1 ∧ s = -2 ∧ h2 = h1) ∨ ∃ i, i < 2 ∧ x1 = nI i ∧ ((h1 138 i = 0 ∧ s = -3 ∧ h2 = h1) ∨ (¬ h1 138 i = 0 ∧ s = 1 ∧ (∀ o, o ≠ 136 → h2 o = h1 o) ∧ (∀ k, k < 887 → h2 136 k = h1 137 (887 * i + k)) ∧ ∀ k, 887 ≤ k → h2 136 k = h1 136 k))) : r = s ∧ INV h2 := by
  have kk : ∀ i, i < 2 → h 76 i = h 138 i := fun i hi => by
    have : i = 0 ∨ i = 1 := by omega
    rcases this with rfl | rfl
    · exact v.2.2.2.2.1.1
    · exact v.2.2.2.2.1.2
  rcases a with ⟨a1, a2, rfl⟩ | ⟨i, hi, rfl, a⟩
  · rcases b with ⟨b1, b2, rfl⟩ | ⟨i, hi, rfl, -⟩
    · exact ⟨a2.trans b2.symm, v⟩
    · exact absurd (bd_of (by omega) (by omega) (by omega)) a1
  · rcases b with ⟨b1, b2, rfl⟩ | ⟨i', hi', e', b⟩
    · exact absurd (bd_of (by omega) (by omega) (by omega)) b1
    · have : i = i' := (nI_eq (by omega) (by omega)).mp e'
      subst this
      rcases a with ⟨a0, a2, rfl⟩ | ⟨a0, a2, h0, I0, J0⟩
      · rcases b with ⟨b0, b2, rfl⟩ | ⟨b0, b2, -⟩
        · exact ⟨a2.trans b2.symm, v⟩
        · exact absurd ((kk i hi).symm.trans a0) b0
      · have up : ∀ q, 76 ≤ q → ¬ SLaw q → h1 q = h q := fun q hq n => (J0 q n).trans (I0.1 q (by omega))
        rcases b with ⟨b0, b2, rfl⟩ | ⟨b0, b2, F, F6, F6'⟩
        · rw [up 138 (by omega) (by unfold SLaw; omega), ← kk i hi] at b0
          exact absurd b0 a0
        · refine ⟨a2.trans b2.symm, ?_⟩
          obtain ⟨cj, rg0, wi, cn, kf, im⟩ := v
          obtain ⟨c1, c2⟩ := im i hi (by rw [← kk i hi]; exact a0)
          have tb : ∀ q, q ≤ 75 → h2 q = h0 q := fun q hq => (F q (by omega)).trans (J0 q (by unfold SLaw; omega))
          have e7 : h2 137 = h 137 := (F 137 (by decide)).trans (up 137 (by omega) (by unfold SLaw; omega))
          have e8 : h2 138 = h 138 := (F 138 (by decide)).trans (up 138 (by omega) (by unfold SLaw; omega))
          have e76 : h2 76 = h 76 := (F 76 (by decide)).trans (up 76 (by omega) (by unfold SLaw; omega))
          rw [up 137 (by omega) (by unfold SLaw; omega)] at F6
          refine ⟨?_, ?_, ?_, ?_, ?_, ?_⟩
          · intro s hs j hj
            have hs3 : s = 1 ∨ s = 26 ∨ s = 51 := (by decide : ∀ s ∈ isSL, s = 1 ∨ s = 26 ∨ s = 51) s hs
            by_cases q : s = 1
            · subst q
              obtain ⟨m1, -, T⟩ := I0.2 j hj
              exact ⟨m1, T.cg (tb _ (by omega))⟩
            · obtain ⟨m, T⟩ := cj s hs j hj
              exact ⟨m, T.cg ((tb _ (by omega)).trans (I0.1 _ (by omega)))⟩
          · exact c2.img (fun k hk => F6 k hk)
          · have : h2 147 = h 147 := (F 147 (by decide)).trans (up 147 (by omega) (by unfold SLaw; omega))
            exact wi.cg (by rw [this]) (by rw [this])
          · have c3 : CN h0 1 (h2 136) := c1.cp I0 (fun k hk => F6 k (by omega))
            exact c3.cg (fun o h1' h2' => tb o (by omega)) (fun _ _ => rfl)
          · unfold KF; rw [e76, e8]; exact kf
          · intro i' hi' hn
            rw [e8] at hn
            have eI : IMG h2 i' = IMG h i' := by unfold IMG; rw [e7]
            rw [eI]
            obtain ⟨d1, d2⟩ := im i' hi' hn
            exact ⟨d1.cg (fun o h1' h2' => (tb o (by omega)).trans (I0.1 o (by omega))) (fun _ _ => rfl), d2⟩
theorem PTc.up {A : Prop} {h h' : HI} {o m w M : Nat} (a : PTc A h h' o m w M) (ho : o ≤ 74) (q : Nat) (hq : 135 ≤ q) : h' q = h q := a.2.1 q (by unfold SM; omega)
theorem ADc.up {C : Prop} {h h' : HI} {r : Int32} {o m w M k : Nat} (a : ADc C h r h' o m w M k) (ho : o ≤ 74) (q : Nat) (hq : 135 ≤ q) : h' q = h q := by
  rcases a with ⟨-, -, rfl⟩ | ⟨-, -, -, rfl⟩ | ⟨-, -, -, J, -⟩
  · rfl
  · rfl
  · exact J q (by unfold SM; omega)
theorem step_put {A B : Prop} {h h1 h2 : HI} {j m : Nat} (v : INV h) (hj : j < 12) (k : cOK j m (h 136)) (a : PTc A h h1 (1 + (1 + 2 * j)) m (wJ j) (MJ j)) (b : PTr B h1 h2) : INV h2 := by
  obtain ⟨-, f, ⟨F, Ff, R⟩, ef⟩ := b
  have up := fun q hq => a.up (by omega) q hq
  have e6 : ∀ i, i < 9 → h2 136 i = h 136 i := fun i hi => by rw [Ff, ef i hi, up 136 (by omega)]
  refine v.mut hj (m := m) (fun o h1' h2' h3' => ?_) (a.2.2.cg (F _ (by omega))) ?_ (by rw [Ff]; exact R) (fun i hi _ => e6 i hi) ?_ ?_ ?_
  · rw [F o (by omega)]; exact a.2.1 o (by unfold SM; omega)
  · unfold cOK at k ⊢
    by_cases c1 : j = 1 ∨ j = 10
    · rw [if_pos c1] at k ⊢; exact k
    · rw [if_neg c1] at k ⊢
      by_cases c2 : j = 7
      · rw [if_pos c2] at k ⊢; exact k
      · rw [if_neg c2] at k ⊢
        have : cpJ j < 9 := (by decide : ∀ j, j < 12 → ¬ (j = 1 ∨ j = 10) → ¬ j = 7 → cpJ j < 9) j hj c1 c2
        rw [e6 _ this]; exact k
  · rw [F 137 (by decide), up 137 (by omega)]
  · rw [F 138 (by decide), up 138 (by omega)]
  · have : h2 147 = h 147 := by rw [F 147 (by decide), up 147 (by omega)]
    exact v.2.2.1.cg (by rw [this]) (by rw [this])
theorem step_erase {A : Prop} {h h1 h2 : HI} (v : INV h) (a : PTc A h h1 24 0 1 60) (b : ST h1 h2 (upd (h1 136) 8 0)) : INV h2 := by
  obtain ⟨F, Ff, R⟩ := b
  have up := fun q hq => a.up (by omega) q hq
  refine v.mut (j := 11) (m := 0) (by omega) (fun o h1' h2' h3' => ?_) (a.2.2.cg (F _ (by omega))) ?_ (by rw [Ff]; exact R) ?_ ?_ ?_ ?_
  · rw [F o (by omega)]; exact a.2.1 o (by unfold SM; omega)
  · show h2 136 8 = nI 0
    rw [Ff, pk_us, nI_0]
  · intro i hi hn
    have : i ≠ 8 := hn
    rw [Ff, pk_un this, up 136 (by omega)]
  · rw [F 137 (by decide), up 137 (by omega)]
  · rw [F 138 (by decide), up 138 (by omega)]
  · have : h2 147 = h 147 := by rw [F 147 (by decide), up 147 (by omega)]
    exact v.2.2.1.cg (by rw [this]) (by rw [this])
theorem step_scrap {h h1 h2 : HI} (v : INV h) (J : JJ (fun q => q = 12 ∨ q = 14) h h1) (T : TT h1 12 0 1 6) (U : TT h1 14 0 3 9) (b : ST h1 h2 (upd (upd (h1 136) 4 0) 5 0)) : INV h2 := by
  obtain ⟨F, Ff, R⟩ := b
  have e6 : h1 136 = h 136 := J 136 (by decide)
  rw [e6] at Ff R
  have v1 : INV (fun q => if q = 14 then h 14 else if q = 136 then upd (h 136) 4 0 else h2 q) := by
    refine v.mut (j := 5) (m := 0) (by omega) (fun o h1' h2' h3' => ?_) ?_ ?_ ?_ ?_ ?_ ?_ ?_
    · by_cases q : o = 14
      · subst q; rw [if_pos rfl]
      · rw [if_neg q, if_neg (by omega), F o (by omega)]
        exact J o (by omega)
    · refine (T.cg (F 12 (by decide))).cg ?_
      rw [if_neg (by decide), if_neg (by decide)]
    · show (if 136 = 14 then h 14 else if 136 = 136 then upd (h 136) 4 0 else h2 136) 4 = nI 0
      rw [if_neg (by decide), if_pos rfl, pk_us, nI_0]
    · try dsimp only
      rw [if_neg (by decide), if_pos rfl]
      exact v.2.1.set (okn4 (m := 0) (by omega))
    · intro i hi hn
      have : i ≠ 4 := hn
      try dsimp only
      rw [if_neg (by decide), if_pos rfl, pk_un this]
    · try dsimp only
      rw [if_neg (by decide), if_neg (by decide), F 137 (by decide), J 137 (by decide)]
    · try dsimp only
      rw [if_neg (by decide), if_neg (by decide), F 138 (by decide), J 138 (by decide)]
    · refine v.2.2.1.cg ?_ ?_
      · try dsimp only
        rw [if_neg (by decide), if_neg (by decide), F 147 (by decide), J 147 (by decide)]
      · try dsimp only
        rw [if_neg (by decide), if_neg (by decide), F 147 (by decide), J 147 (by decide)]
  refine v1.mut (j := 6) (m := 0) (by omega) (fun o h1' h2' h3' => ?_) (U.cg (F 14 (by decide))) ?_ (by rw [Ff]; exact R) ?_ ?_ ?_ ?_
  · have : o ≠ 14 := h2'
    rw [if_neg this, if_neg (by omega)]
  · show h2 136 5 = nI 0
    rw [Ff, pk_us, nI_0]
  · intro i hi hn
    have : i ≠ 5 := hn
    rw [Ff, pk_un this, if_neg (by decide), if_pos rfl]
  · rw [if_neg (by decide), if_neg (by decide)]
  · rw [if_neg (by decide), if_neg (by decide)]
  · have : h2 147 = h 147 := by rw [F 147 (by decide), J 147 (by decide)]
    exact v.2.2.1.cg (by rw [this]) (by rw [this])
/-- questions -/
theorem step_ask {h h1 h2 : HI} (v : INV h) (a : JJ SC h h1) (b : KJ SRef h1 h2) (w : WI h2) : INV h2 := by
  have e : ∀ o, ¬ SC o → (∀ k, ¬ SRef o k) → h2 o = h o := fun o n m => (funext fun k => b o k (m k)).trans (a o n)
  exact v.cg (fun o ho => e o (by unfold SC; omega) (fun k => by unfold SRef; omega)) (e 136 (by unfold SC; omega) (fun k => by unfold SRef; omega)) (e 137 (by unfold SC; omega) (fun k => by unfold SRef; omega)) (e 138 (by unfold SC; omega) (fun k => by unfold SRef; omega)) w
theorem WI.kj {S : Nat → Nat → Prop} {a b : HI} (w : WI a) (x : KJ S a b) (n : ∀ k, ¬ S 147 k) : WI b := w.cg (x 147 0 (n 0)) (x 147 1 (n 1))
theorem WI.jj {S : Nat → Prop} {a b : HI} (w : WI a) (x : JJ S a b) (n : ¬ S 147) : WI b := w.cg (by rw [x 147 n]) (by rw [x 147 n])
end
section
-- 46.init
/-! THE START -/
theorem p_X8_init {h : HI} {g : HL} {o w M : Nat} (hN : gN (o + 1) = M * w) (hw : 0 < w ∧ w ≤ 20) (hM : 0 < M ∧ M ≤ 100) : w_X8_init o (nI M) (nI w) h g (fun h' _ => JJ (SB o) h h' ∧ TT h' o 0 w M) := by
  have hMw : M * w ≤ 100 * 20 := Nat.mul_le_mul hM.2 hw.2
  unfold w_X8_init
  refine ⟨fun c => absurd c (nI_nle (by omega) (by omega)), fun _ => ⟨fun c => absurd c (nI_nlt (a := 100) (b := M) (by omega) (by omega)), fun _ => ⟨fun c => absurd c (nI_nle (by omega) (by omega)), fun _ => ⟨fun c => absurd c (nI_nlt (a := 20) (b := w) (by omega) (by omega)), fun _ => ?_⟩⟩⟩⟩
  unfold j_X8_init_29
  refine ⟨fun c => absurd c (by decide), fun _ => ?_⟩
  unfold j_X8_init_40
  refine ⟨fun c => absurd c (by decide), fun _ => ?_⟩
  unfold j_X8_init_53
  refine ⟨fun c => absurd c (by decide), fun _ => ?_⟩
  unfold j_X8_init_68
  rw [pk_mul]
  refine ⟨⟨nI_pos (by omega), by rw [nI_clamp (by omega), hN]⟩, ?_⟩
  intro h1 e1
  intro h2 e2
  refine ⟨(JJ.rf.hua e1 (by unfold SB; omega)).hua e2 (by unfold SB; omega), ?_, ?_, ?_, by omega, hN, hw.1, hw.2, hM.1, hM.2⟩
  · rw [e2, hua_eq]; rfl
  · rw [e2, hua_eq]; rfl
  · rw [e2, hua_eq]; exact nI_0.symm
def SHP (o q : Nat) : Prop := o ≤ q ∧ q ≤ o + 24
/-- the first k tables stand, empty -/
def MK (h h' : HI) (o k : Nat) : Prop := JJ (SHP o) h h' ∧ ∀ j, j < k → TT h' (o + (1 + 2 * j)) 0 (wJ j) (MJ j)
theorem mk_step {h hk h' : HI} {o k : Nat} (hk12 : k < 12) (I : MK h hk o k) (a : JJ (SB (o + (1 + 2 * k))) hk h') (T : TT h' (o + (1 + 2 * k)) 0 (wJ k) (MJ k)) : MK h h' o (k + 1) := by
  refine ⟨I.1.tr (a.mo (fun q hq => by unfold SB at hq; unfold SHP; omega)), fun j hj => ?_⟩
  by_cases e : j = k
  · subst e; exact T
  · exact (I.2 j (by omega)).cg (a _ (by unfold SB; omega))
theorem p_X6_init {h : HI} {g : HL} {o : Nat} (ho : isS o) : w_X6_init o h g (fun h' _ => JJ (SHP o) h h' ∧ ∀ j, j < 12 → TT h' (o + (1 + 2 * j)) (if j = 1 ∨ j = 10 then 4 else if j = 7 then 1 else 0) (wJ j) (MJ j)) := by
  have gn : ∀ j, j < 12 → gN (o + (1 + 2 * j) + 1) = MJ j * wJ j := (by decide +kernel : ∀ o ∈ isSL, ∀ j, j < 12 → gN (o + (1 + 2 * j) + 1) = MJ j * wJ j) o ho
  unfold w_X6_init
  refine c_v (p_X8_init (o := o + (1 + 2 * 0)) (w := 5) (M := 24) (gn 0 (by omega)) (by omega) (by omega)) ?_
  rintro h1 g1 ⟨J1, T1⟩
  have I1 : MK h h1 o 1 := mk_step (by omega) ⟨JJ.rf, fun j hj => by omega⟩ J1 T1
  refine c_v (p_X8_init (o := o + (1 + 2 * 1)) (w := 3) (M := 4) (gn 1 (by omega)) (by omega) (by omega)) ?_
  rintro h2 g2 ⟨J1, T1⟩
  have I2 : MK h h2 o 2 := mk_step (by omega) I1 J1 T1
  refine c_v (p_X8_init (o := o + (1 + 2 * 2)) (w := 6) (M := 60) (gn 2 (by omega)) (by omega) (by omega)) ?_
  rintro h3 g3 ⟨J1, T1⟩
  have I3 : MK h h3 o 3 := mk_step (by omega) I2 J1 T1
  refine c_v (p_X8_init (o := o + (1 + 2 * 3)) (w := 15) (M := 16) (gn 3 (by omega)) (by omega) (by omega)) ?_
  rintro h4 g4 ⟨J1, T1⟩
  have I4 : MK h h4 o 4 := mk_step (by omega) I3 J1 T1
  refine c_v (p_X8_init (o := o + (1 + 2 * 4)) (w := 4) (M := 8) (gn 4 (by omega)) (by omega) (by omega)) ?_
  rintro h5 g5 ⟨J1, T1⟩
  have I5 : MK h h5 o 5 := mk_step (by omega) I4 J1 T1
  refine c_v (p_X8_init (o := o + (1 + 2 * 5)) (w := 1) (M := 6) (gn 5 (by omega)) (by omega) (by omega)) ?_
  rintro h6 g6 ⟨J1, T1⟩
  have I6 : MK h h6 o 6 := mk_step (by omega) I5 J1 T1
  refine c_v (p_X8_init (o := o + (1 + 2 * 6)) (w := 3) (M := 9) (gn 6 (by omega)) (by omega) (by omega)) ?_
  rintro h7 g7 ⟨J1, T1⟩
  have I7 : MK h h7 o 7 := mk_step (by omega) I6 J1 T1
  refine c_v (p_X8_init (o := o + (1 + 2 * 7)) (w := 2) (M := 1) (gn 7 (by omega)) (by omega) (by omega)) ?_
  rintro h8 g8 ⟨J1, T1⟩
  have I8 : MK h h8 o 8 := mk_step (by omega) I7 J1 T1
  refine c_v (p_X8_init (o := o + (1 + 2 * 8)) (w := 2) (M := 40) (gn 8 (by omega)) (by omega) (by omega)) ?_
  rintro h9 g9 ⟨J1, T1⟩
  have I9 : MK h h9 o 9 := mk_step (by omega) I8 J1 T1
  refine c_v (p_X8_init (o := o + (1 + 2 * 9)) (w := 2) (M := 3) (gn 9 (by omega)) (by omega) (by omega)) ?_
  rintro h10 g10 ⟨J1, T1⟩
  have I10 : MK h h10 o 10 := mk_step (by omega) I9 J1 T1
  refine c_v (p_X8_init (o := o + (1 + 2 * 10)) (w := 1) (M := 4) (gn 10 (by omega)) (by omega) (by omega)) ?_
  rintro h11 g11 ⟨J1, T1⟩
  have I11 : MK h h11 o 11 := mk_step (by omega) I10 J1 T1
  refine c_v (p_X8_init (o := o + (1 + 2 * 11)) (w := 1) (M := 60) (gn 11 (by omega)) (by omega) (by omega)) ?_
  rintro h12 g12 ⟨J1, T1⟩
  have I12 : MK h h12 o 12 := mk_step (by omega) I11 J1 T1
  refine lpE_intro (fun ⟨a_q, h_q, _⟩ => ∃ k : Nat, k ≤ 4 ∧ nI k = a_q ∧ JJ (SHP o) h h_q ∧ ∀ j, j < 12 → TT h_q (o + (1 + 2 * j)) (if j = 1 then k else 0) (wJ j) (MJ j)) (fun ⟨a_q, _, _⟩ => dif (nI 4) a_q) ?_ _ ⟨0, by omega, nI_0, I12.1, fun j hj => by
    by_cases e : j = 1
    · rw [if_pos e]; exact I12.2 j hj
    · rw [if_neg e]; exact I12.2 j hj⟩
  rintro ⟨y1, hx, gx⟩ K ⟨k, hk, rfl, J, T⟩ hK
  unfold F_X6_init_172; dsimp only; unfold b_X6_init_172
  refine ⟨fun c => ?_, fun c => ?_⟩
  · rw [show (4 : Int32) = nI 4 from rfl, nI_leI (by omega) (by omega)] at c
    have k4 : k = 4 := by omega
    subst k4
    refine lpE_intro (fun ⟨a_q, h_q, _⟩ => ∃ k : Nat, k ≤ 4 ∧ nI k = a_q ∧ JJ (SHP o) h h_q ∧ ∀ j, j < 12 → TT h_q (o + (1 + 2 * j)) (if j = 1 then 4 else if j = 10 then k else 0) (wJ j) (MJ j)) (fun ⟨a_q, _, _⟩ => dif (nI 4) a_q) ?_ _ ⟨0, by omega, nI_0, J, fun j hj => by
      have := T j hj
      by_cases e : j = 1
      · rw [if_pos e] at this ⊢; exact this
      · rw [if_neg e] at this ⊢
        by_cases e2 : j = 10
        · rw [if_pos e2]; exact this
        · rw [if_neg e2]; exact this⟩
    rintro ⟨y1, hy, gy⟩ K2 ⟨n, hn, rfl, J2, T2⟩ hK2
    unfold F_X6_init_198; dsimp only; unfold b_X6_init_198
    refine ⟨fun c => ?_, fun c => ?_⟩
    · rw [show (4 : Int32) = nI 4 from rfl, nI_leI (by omega) (by omega)] at c
      have n4 : n = 4 := by omega
      subst n4
      have T7 : TT hy (o + (1 + 2 * 7)) 0 2 1 := T2 7 (by omega)
      refine c_i (p_add T7 (by omega)) ?_
      rintro _ hz gz ⟨rfl, -, Jz, Tz, -, -⟩
      intro hf ef
      refine ⟨(J2.tr (Jz.mo (fun q hq => by unfold SB at hq; unfold SHP; omega))).hua ef (by unfold SHP; omega), fun j hj => ?_⟩
      have e0 : ∀ q, q ≠ o → hf q = hz q := fun q n => by rw [ef, hua_ne n]
      by_cases e7 : j = 7
      · subst e7; exact Tz.cg (e0 _ (by omega))
      · have := T2 j hj
        rw [if_neg e7]
        have e1 : (if j = 1 ∨ j = 10 then 4 else 0) = (if j = 1 then 4 else if j = 10 then 4 else 0) := by
          by_cases a : j = 1
          · rw [if_pos (.inl a), if_pos a]
          · by_cases b : j = 10
            · rw [if_pos (.inr b), if_neg a, if_pos b]
            · rw [if_neg (fun q => q.elim a b), if_neg a, if_neg b]
        rw [e1]
        exact this.cg ((e0 _ (by omega)).trans (Jz _ (by unfold SB; omega)))
    · have hd := dif_lt (a := nI 4) c
      rw [show (4 : Int32) = nI 4 from rfl, nI_leI (by omega) (by omega)] at c
      have T10 : TT hy (o + (1 + 2 * 10)) n 1 4 := T2 10 (by omega)
      refine c_i (p_add T10 (by omega)) ?_
      rintro _ hz gz ⟨rfl, -, Jz, Tz, -, -⟩
      rintro _ rfl
      refine hK2 _ ⟨n + 1, by omega, (nI_1 n).symm, J2.tr (Jz.mo (fun q hq => by unfold SB at hq; unfold SHP; omega)), fun j hj => ?_⟩ hd
      by_cases e10 : j = 10
      · subst e10; exact Tz
      · have := T2 j hj
        rw [if_neg e10] at this ⊢
        exact this.cg (Jz _ (by unfold SB; omega))
  · have hd := dif_lt (a := nI 4) c
    rw [show (4 : Int32) = nI 4 from rfl, nI_leI (by omega) (by omega)] at c
    have T1' : TT hx (o + (1 + 2 * 1)) k 3 4 := T 1 (by omega)
    refine c_i (p_add T1' (by omega)) ?_
    rintro _ hz gz ⟨rfl, -, Jz, Tz, -, -⟩
    rintro _ rfl
    refine hK _ ⟨k + 1, by omega, (nI_1 k).symm, J.tr (Jz.mo (fun q hq => by unfold SB at hq; unfold SHP; omega)), fun j hj => ?_⟩ hd
    by_cases e1 : j = 1
    · subst e1; exact Tz
    · have := T j hj
      rw [if_neg e1] at this ⊢
      exact this.cg (Jz _ (by unfold SB; omega))
theorem JJ.hz {S : Nat → Prop} {a b c : HI} {n N : Nat} (x : JJ S a b) (e : c = hz b n N) (hs : ∀ q, n < q → q ≤ n + N → S q) : JJ S a c := fun q hq => by
  have : ¬ (n < q ∧ q ≤ n + N) := fun k => hq (hs q k.1 k.2)
  have e2 : c q = b q := by
    rw [e]; exact if_neg this
  rw [e2]; exact x q hq

theorem p_X4_init {h : HI} {g : HL} : w_X4_init h g (fun h' _ => JJ SC h h') := by
  unfold w_X4_init
  intro h1 e1 h2 e2 g3 e3 h4 e4
  exact ((JJ.rf.hua e1 (by unfold SC; omega)).hua e2 (by unfold SC; omega)).hua e4 (by unfold SC; omega)
theorem p_X7_init {h : HI} {g : HL} : w_X7_init h g (fun h' _ => JJ SC h h') := by
  unfold w_X7_init
  intro h1 e1 h2 e2 h3 e3 h4 e4
  exact (((JJ.rf.hua e1 (by unfold SC; omega)).hua e2 (by unfold SC; omega)).hua e3 (by unfold SC; omega)).hua e4 (by unfold SC; omega)
theorem p_X2_init {h : HI} {g : HL} : w_X2_init h g (fun h' _ => JJ SC h h') := by
  unfold w_X2_init
  intro h1 e1 h2 e2 h3 e3 h4 e4
  exact (((JJ.rf.hua e1 (by unfold SC; omega)).hua e2 (by unfold SC; omega)).hua e3 (by unfold SC; omega)).hua e4 (by unfold SC; omega)
theorem p_X9_init {h : HI} {g : HL} (c : CI h) : w_X9_init h g (fun h' _ => JJ SC h h') := by
  unfold w_X9_init
  intro h1 e1 h2 e2 h3 e3
  have J3 : JJ SC h h3 := ((JJ.rf.hz e1 (fun q a b => by unfold SC; omega)).hz e2 (fun q a b => by unfold SC; omega)).hua e3 (by unfold SC; omega)
  refine c_v (p_J7_fill_53178 (c.jj J3 nSC) (o0 := 91) (by decide +kernel)) ?_
  rintro h4 g4 ⟨J4, -⟩
  have J4' := J3.tr (J4.mo (fun q hq => by unfold SO at hq; unfold SC; omega))
  refine c_v (p_J7_fill_53178 (c.jj J4' nSC) (o0 := 92) (by decide +kernel)) ?_
  rintro h5 g5 ⟨J5, -⟩
  have J5' := J4'.tr (J5.mo (fun q hq => by unfold SO at hq; unfold SC; omega))
  intro h6 e6
  exact J5'.hua e6 (by unfold SC; omega)
theorem p_X3_init {h : HI} {g : HL} : w_X3_init h g (fun h' _ => JJ SC h h') := by
  unfold w_X3_init
  intro h1 e1 h2 e2 h3 e3 h4 e4 h5 e5
  exact ((((JJ.rf.hz e1 (fun q a b => by unfold SC; omega)).hua e2 (by unfold SC; omega)).hua e3 (by unfold SC; omega)).hua e4 (by unfold SC; omega)).hua e5 (by unfold SC; omega)
theorem p_X0_init {h : HI} {g : HL} {o : Nat} : w_X0_init o h g (fun h' _ => JJ (SB o) h h') := by
  unfold w_X0_init
  intro h1 e1 h2 e2
  exact (JJ.rf.hua e1 (by unfold SB; omega)).hua e2 (by unfold SB; omega)
theorem p_X1_init {h : HI} {g : HL} (c : CI h) : w_X1_init h g (fun h' _ => JJ SC h h') := by
  unfold w_X1_init
  refine c_v (p_X0_init (o := 110)) ?_
  intro h1 g1 J1
  have K1 : JJ SC h h1 := J1.mo (fun q hq => by unfold SB at hq; unfold SC; omega)
  refine c_v (p_X0_init (o := 112)) ?_
  intro h2 g2 J2
  have K2 := K1.tr (J2.mo (fun q hq => by unfold SB at hq; unfold SC; omega))
  refine c_v (p_X0_init (o := 114)) ?_
  intro h3 g3 J3
  have K3 := K2.tr (J3.mo (fun q hq => by unfold SB at hq; unfold SC; omega))
  refine c_v (p_X0_init (o := 116)) ?_
  intro h4 g4 J4
  have K4 := K3.tr (J4.mo (fun q hq => by unfold SB at hq; unfold SC; omega))
  refine c_v (p_X0_set (c.jj K4 nSC) (by decide)) ?_
  intro h5 g5 J5
  have K5 := K4.tr (J5.mo (fun q hq => by unfold SB at hq; unfold SC; omega))
  intro h6 e6
  exact K5.hua e6 (by unfold SC; omega)
theorem p_X5_init {h : HI} {g : HL} : w_X5_init h g (fun h' _ => JJ SC h h') := by
  unfold w_X5_init
  intro h1 e1 h2 e2 h3 e3 h4 e4 h5 e5 h6 e6 h7 e7 h8 e8
  exact (((((((JJ.rf.hua e1 (by unfold SC; omega)).hua e2 (by unfold SC; omega)).hua e3 (by unfold SC; omega)).hua e4 (by unfold SC; omega)).hua e5 (by unfold SC; omega)).hua e6 (by unfold SC; omega)).hz e7 (fun q a b => by unfold SC; omega)).hua e8 (by unfold SC; omega)
def m0 (j : Nat) : Nat := if j = 1 ∨ j = 10 then 4 else if j = 7 then 1 else 0
theorem p_X10_init {h : HI} {g : HL} {Q : HI → HL → Prop} (hQ : ∀ (h' : HI) (g' : HL), ((∀ s, isS s → ∀ j, j < 12 → TT h' (s + (1 + 2 * j)) (m0 j) (wJ j) (MJ j)) ∧ h' 76 = fun _ => 0) → Q h' g') : w_X10_init h g Q := by
  unfold w_X10_init
  refine c_v (p_X6_init isS1) ?_
  rintro h1 g1 ⟨J1, T1⟩
  refine c_v (p_X6_init (isS26 (i := 0) (by omega))) ?_
  rintro h2 g2 ⟨J2, T2⟩
  refine c_v (p_X6_init (isS26 (i := 1) (by omega))) ?_
  rintro h3 g3 ⟨J3, T3⟩
  have T : ∀ s, isS s → ∀ j, j < 12 → TT h3 (s + (1 + 2 * j)) (m0 j) (wJ j) (MJ j) := by
    intro s hs j hj
    have hs3 : s = 1 ∨ s = 26 ∨ s = 51 := (by decide : ∀ s ∈ isSL, s = 1 ∨ s = 26 ∨ s = 51) s hs
    rcases hs3 with rfl | rfl | rfl
    · exact (T1 j hj).cg ((J3 _ (by unfold SHP; omega)).trans (J2 _ (by unfold SHP; omega)))
    · exact (T2 j hj).cg (J3 _ (by unfold SHP; omega))
    · exact T3 j hj
  intro h4 e4
  have T4 : ∀ s, isS s → ∀ j, j < 12 → TT h4 (s + (1 + 2 * j)) (m0 j) (wJ j) (MJ j) := by
    intro s hs j hj
    have hs3 : s ≤ 51 := (by decide : ∀ s ∈ isSL, s ≤ 51) s hs
    exact (T s hs j hj).cg (by rw [e4, hua_ne (by omega)])
  have c4 : CI h4 := CJ.ci (fun s hs j hj => ⟨_, T4 s hs j hj⟩)
  have z4 : h4 76 = fun _ => 0 := by rw [e4, hua_eq]
  refine c_v p_X4_init ?_
  intro h5 g5 J5
  refine c_v p_X7_init ?_
  intro h6 g6 J6
  have J6 := J5.tr J6
  refine c_v p_X2_init ?_
  intro h7 g7 J7
  have J7 := J6.tr J7
  refine c_v (p_X9_init (c4.jj J7 nSC)) ?_
  intro h8 g8 J8
  have J8 := J7.tr J8
  refine c_v p_X3_init ?_
  intro h9 g9 J9
  have J9 := J8.tr J9
  refine c_v (p_X1_init (c4.jj J9 nSC)) ?_
  intro h10 g10 J10
  have J10 := J9.tr J10
  refine c_v p_X5_init ?_
  intro h11 g11 J11
  have J11 := J10.tr J11
  intro h12 e12
  refine hQ _ _ ⟨fun s hs j hj => ?_, ?_⟩
  · have hs3 : s ≤ 51 := (by decide : ∀ s ∈ isSL, s ≤ 51) s hs
    exact (T4 s hs j hj).cg (by rw [e12, hua_ne (by omega)]; exact J11 _ (by unfold SC; omega))
  · rw [e12, hua_ne (by decide), J11 76 (by unfold SC; omega)]; exact z4
theorem rg_Y {k : Nat} (h : 11 ≤ k ∧ k < 20) : rg k = dfl := by
  unfold rg
  rw [if_neg (by omega), if_neg (by omega), if_neg (by omega), if_neg (by omega), if_neg (by omega), if_neg (by omega), if_neg (by omega), if_neg (by omega), if_neg (by omega), if_neg (by omega), if_neg (by omega), if_neg (by omega), if_neg (by omega), if_neg (by omega), if_neg (by omega), if_neg (by omega), if_neg (by omega)]
theorem z_bd {a b : Int} (h : a ≤ 0) (h2 : 0 ≤ b) : bd a b (0 : Int32) := by
  unfold bd; rw [show (0 : Int32).toInt = 0 by decide]; exact ⟨h, h2⟩
theorem okR0 {k : Nat} (h : k < 140 ∨ 152 ≤ k) : okR k 0 := by
  by_cases c : k < 11
  · have : ∀ k : Nat, k < 11 → (rg k).1 ≤ 0 ∧ 0 ≤ (rg k).2 := by decide
    exact z_bd (this k c).1 (this k c).2
  by_cases c1 : k < 20
  · unfold okR; rw [rg_Y (by omega)]; exact bd_all 0
  by_cases c2 : k < 140
  · exact okA (by omega) (fun _ => z_bd (by omega) (by omega)) (fun _ => z_bd (by omega) (by omega))
  by_cases c3 : k < 512
  · exact okC' (by omega) (fun _ => z_bd (by omega) (by omega))
  by_cases c4 : k < 672
  · exact okD (by omega) (fun _ => z_bd (by omega) (by omega)) (fun _ => z_bd (by omega) (by omega))
  by_cases c5 : k < 704
  · exact okE (by omega) (fun _ => z_bd (by omega) (by omega)) (fun _ => z_bd (by omega) (by omega))
  by_cases c6 : 817 ≤ k ∧ k < 823
  · exact okF c6 (fun _ => z_bd (by omega) (by omega))
  · exact okZ (by omega)
theorem p_X11_init {h : HI} {g : HL} {Q : HI → HL → Prop} (hQ : ∀ (h' : HI) (g' : HL), ((∀ o, o < 135 → h' o = h o) ∧ RG (h' 136) ∧ (∀ i, i < 9 → h' 136 i = 0) ∧ h' 138 = (fun _ => 0) ∧ h' 147 0 = 0 ∧ h' 147 1 = 1) → Q h' g') : w_X11_init h g Q := by
  unfold w_X11_init
  intro h1 e1 h2 e2 h3 e3 h4 e4 h5 e5 h6 e6 g7 e7 h8 e8 h9 e9 h10 e10 h11 e11 h12 e12 h13 e13
  have F : ∀ o, o < 135 → h13 o = h o := fun o ho => by
    rw [e13, hua_ne (by omega), e12, hua_ne (by omega), e11, hua_ne (by omega), e10, hua_ne (by omega), e9, hua_ne (by omega), e8, hua_ne (by omega), e6, hua_ne (by omega), e5, hua_ne (by omega), e4, hua_ne (by omega), e3, hua_ne (by omega), e2, hua_ne (by omega), e1, hua_ne (by omega)]
  have z6 : h13 136 = fun _ => 0 := by
    rw [e13, hua_ne (by decide), e12, hua_ne (by decide), e11, hua_ne (by decide), e10, hua_ne (by decide), e9, hua_ne (by decide), e8, hua_ne (by decide), e6, hua_ne (by decide), e5, hua_ne (by decide), e4, hua_ne (by decide), e3, hua_ne (by decide), e2, hua_ne (by decide), e1, hua_eq]
  have z8 : h13 138 = fun _ => 0 := by
    rw [e13, hua_ne (by decide), e12, hua_ne (by decide), e11, hua_ne (by decide), e10, hua_ne (by decide), e9, hua_ne (by decide), e8, hua_ne (by decide), e6, hua_ne (by decide), e5, hua_ne (by decide), e4, hua_ne (by decide), e3, hua_eq]
  have z7 : h13 147 = fun _ => 0 := by
    rw [e13, hua_ne (by decide), e12, hua_eq]
  clear e1 e2 e3 e4 e5 e6 e7 e8 e9 e10 e11 e12 e13
  refine lpE_intro (fun ⟨a_q, h_q, _⟩ => ∃ k : Nat, k ≤ 4 ∧ nI k = a_q ∧ (∀ o, o ≠ 136 → h_q o = h13 o) ∧ (∀ i, i < 140 + 3 * k ∨ 152 ≤ i → okR i (h_q 136 i)) ∧ ∀ i, i < 9 → h_q 136 i = 0) (fun ⟨a_q, _, _⟩ => dif (nI 4) a_q) ?_ _ ⟨0, by omega, nI_0, fun _ _ => rfl, fun i hi => by rw [z6]; exact okR0 (by omega), fun i _ => by rw [z6]⟩
  rintro ⟨y1, hx, gx⟩ K ⟨k, hk, rfl, Fx, Rx, Zx⟩ hK
  unfold F_X11_init_112; dsimp only; unfold b_X11_init_112
  refine ⟨fun c => ?_, fun c => ?_⟩
  · rw [show (4 : Int32) = nI 4 from rfl, nI_leI (by omega) (by omega)] at c
    refine and_have (vp_in_iff.mpr (by decide)) (fun _ => ?_)
    intro ha ea
    refine and_have (vp_in_iff.mpr (by decide)) (fun _ => ?_)
    rw [cl1]
    intro hb eb hc ec
    have g0 : ∀ o, o ≠ 135 → o ≠ 146 → o ≠ 147 → hc o = hx o := fun o n1 n2 n3 => by
      rw [ec, hua_ne n1, eb, hu_ne n3, ea, hu_ne n2]
    refine hQ _ _ ⟨fun o ho => (g0 o (by omega) (by omega) (by omega)).trans ((Fx o (by omega)).trans (F o ho)), ?_, ?_, ?_, ?_, ?_⟩
    · rw [g0 136 (by decide) (by decide) (by decide)]
      exact fun i => Rx i (by omega)
    · intro i hi
      rw [g0 136 (by decide) (by decide) (by decide)]; exact Zx i hi
    · rw [g0 138 (by decide) (by decide) (by decide), Fx 138 (by decide)]; exact z8
    · rw [ec, hua_ne (by decide), eb, hu_eq, pk_un (by decide), ea, hu_ne (by decide), Fx 147 (by decide), z7]
    · rw [ec, hua_ne (by decide), eb, hu_eq, pk_us]
  · have hd := dif_lt (a := nI 4) c
    rw [show (4 : Int32) = nI 4 from rfl, nI_leI (by omega) (by omega)] at c
    rw [show ((140 : Int32) + ((3 : Int32) * nI k)) + (1 : Int32) = nI (140 + 3 * k + 1) from ix3 140 3 k 1, show ((140 : Int32) + ((3 : Int32) * nI k)) + (2 : Int32) = nI (140 + 3 * k + 2) from ix3 140 3 k 2, show (140 : Int32) + ((3 : Int32) * nI k) = nI (140 + 3 * k) from ix2 140 3 k, nI_clamp (n := 140 + 3 * k) (by omega), nI_clamp (n := 140 + 3 * k + 1) (by omega), nI_clamp (n := 140 + 3 * k + 2) (by omega)]
    refine and_have (vp_in_nI (by omega) (by omega)) (fun _ => ?_)
    intro ha ea
    refine and_have (vp_in_nI (by omega) (by omega)) (fun _ => ?_)
    intro hb eb
    refine and_have (vp_in_nI (by omega) (by omega)) (fun _ => ?_)
    intro hc ec
    rintro _ rfl
    have ef : hc 136 = upd (upd (upd (hx 136) (140 + 3 * k) 1) (140 + 3 * k + 1) 1) (140 + 3 * k + 2) 100000 := by
      rw [ec, hu_eq, eb, hu_eq, ea, hu_eq]
    refine hK _ ⟨k + 1, by omega, (nI_1 k).symm, fun o n => by rw [ec, hu_ne n, eb, hu_ne n, ea, hu_ne n]; exact Fx o n, fun i hi => ?_, fun i hi => by rw [ef, cnt_u hi (by omega), cnt_u hi (by omega), cnt_u hi (by omega)]; exact Zx i hi⟩ hd
    rw [ef]
    by_cases c2 : i = 140 + 3 * k + 2
    · subst c2
      rw [pk_us]
      exact okB (by omega) (fun _ => by omega)
    rw [pk_un c2]
    by_cases c1 : i = 140 + 3 * k + 1
    · subst c1
      rw [pk_us]
      exact okB (by omega) (fun _ => by unfold bd; decide)
    rw [pk_un c1]
    by_cases c0 : i = 140 + 3 * k
    · subst c0
      rw [pk_us]
      exact okB (by omega) (fun _ => by omega)
    rw [pk_un c0]
    exact Rx i (by omega)
theorem INV_start {h1 h2 : HI} (a : (∀ s, isS s → ∀ j, j < 12 → TT h1 (s + (1 + 2 * j)) (m0 j) (wJ j) (MJ j)) ∧ h1 76 = fun _ => 0) (b : (∀ o, o < 135 → h2 o = h1 o) ∧ RG (h2 136) ∧ (∀ i, i < 9 → h2 136 i = 0) ∧ h2 138 = (fun _ => 0) ∧ h2 147 0 = 0 ∧ h2 147 1 = 1) : INV h2 := by
  obtain ⟨T, z⟩ := a
  obtain ⟨F, R, Z, K, w0, w1⟩ := b
  have T2 : ∀ s, isS s → ∀ j, j < 12 → TT h2 (s + (1 + 2 * j)) (m0 j) (wJ j) (MJ j) := fun s hs j hj => by
    have hs3 : s ≤ 51 := (by decide : ∀ s ∈ isSL, s ≤ 51) s hs
    exact (T s hs j hj).cg (F _ (by omega))
  refine ⟨fun s hs j hj => ⟨_, T2 s hs j hj⟩, R, ⟨0, 1, by omega, by omega, by rw [w0]; exact nI_0.symm, by rw [w1]; rfl⟩, ?_, ?_, ?_⟩
  · intro j hj
    refine ⟨m0 j, T2 1 isS1 j hj, ?_⟩
    unfold cOK m0
    by_cases c1 : j = 1 ∨ j = 10
    · rw [if_pos c1, if_pos c1]
    · rw [if_neg c1, if_neg c1]
      by_cases c2 : j = 7
      · rw [if_pos c2, if_pos c2]
      · rw [if_neg c2, if_neg c2]
        have : cpJ j < 9 := (by decide : ∀ j, j < 12 → ¬ (j = 1 ∨ j = 10) → ¬ j = 7 → cpJ j < 9) j hj c1 c2
        rw [Z _ this, nI_0]
  · unfold KF; rw [F 76 (by omega), z, K]; exact ⟨rfl, rfl⟩
  · intro i hi hn
    rw [K] at hn
    exact absurd rfl hn
end
section
-- 47.digest
/-! THE REFERENCE'S DIGEST: it goes through -/
theorem SLt.ff : ∀ o k, SRd o k → SFf o k := fun o k h => by unfold SRd at h; unfold SFf; omega
set_option maxHeartbeats 1000000 in
theorem p_X11_digest {h : HI} {g : HL} (hR : RI (h 136)) : w_X11_digest h g (fun _ h' _ => KJ SFf h h') := by
  have nR : ∀ {a : HI}, KJ SFf h a → RI (a 136) := fun J => hR.kj J (fun k => by unfold SFf; omega)
  have v0 : vp_in (0 : Int32) 887 := vp_in_iff.mpr (by decide)
  have v1 : vp_in (1 : Int32) 887 := vp_in_iff.mpr (by decide)
  have v2 : vp_in (2 : Int32) 887 := vp_in_iff.mpr (by decide)
  have v3 : vp_in (3 : Int32) 887 := vp_in_iff.mpr (by decide)
  have v4 : vp_in (4 : Int32) 887 := vp_in_iff.mpr (by decide)
  have v5 : vp_in (5 : Int32) 887 := vp_in_iff.mpr (by decide)
  have v6 : vp_in (6 : Int32) 887 := vp_in_iff.mpr (by decide)
  have v7 : vp_in (7 : Int32) 887 := vp_in_iff.mpr (by decide)
  have v8 : vp_in (8 : Int32) 887 := vp_in_iff.mpr (by decide)
  unfold w_X11_digest
  refine lpE_intro (fun ⟨_, b_q, h_q, _⟩ => ∃ k : Nat, k ≤ 10 ∧ nI k = b_q ∧ h = h_q) (fun ⟨_, b_q, _, _⟩ => dif (nI 10) b_q) ?_ _ ⟨0, by omega, nI_0, rfl⟩
  rintro ⟨y1, y3, h1, g1⟩ K ⟨k, hk, rfl, rfl⟩ hK
  unfold F_X11_digest_6; dsimp only; unfold b_X11_digest_6
  refine ⟨fun _ => ?_, fun c => ?_⟩
  · refine lpE_intro (fun ⟨_, b_q, h_q, _⟩ => ∃ p : Nat, p ≤ 24 ∧ nI p = b_q ∧ KJ SFf h h_q) (fun ⟨_, b_q, _, _⟩ => dif (nI 24) b_q) ?_ _ ⟨0, by omega, nI_0, KJ.rf⟩
    rintro ⟨z1, z3, h2, g2⟩ K2 ⟨p, hp, rfl, J2⟩ hK2
    unfold F_X11_digest_33; dsimp only; unfold b_X11_digest_33
    have R2 := nR J2
    obtain ⟨n, n1, n2, en⟩ := bd_nI R2.c0
    rw [en]
    refine and_have v0 (fun _ => ⟨fun _ => ?_, fun c => ?_⟩)
    · refine c_l (p_X11_mixed (a := 140) (n := 12) (by omega)) ?_
      rintro r1 _ _ ⟨rfl, rfl⟩
      obtain ⟨s, s1, s2, es⟩ := bd_nI R2.c1
      refine and_have v1 (fun _ => ?_)
      rw [es, show (6 : Int32) * nI s = nI (6 * s) from pk_mul 6 s]
      refine c_l (p_X11_mixed (a := 152) (n := 6 * s) (by omega)) ?_
      rintro r2 _ _ ⟨rfl, rfl⟩
      refine lpE_intro (fun ⟨_, b_q, h_q, _⟩ => ∃ q : Nat, q ≤ 16 ∧ nI q = b_q ∧ h2 = h_q) (fun ⟨_, b_q, _, _⟩ => dif (nI 16) b_q) ?_ _ ⟨0, by omega, nI_0, rfl⟩
      rintro ⟨w1, w3, h3, g3⟩ K3 ⟨q, hq, rfl, rfl⟩ hK3
      unfold F_X11_digest_134; dsimp only; unfold b_X11_digest_134
      obtain ⟨m, m1, m2, emm⟩ := bd_nI R2.c2
      rw [emm]
      refine and_have v2 (fun _ => ⟨fun _ => ?_, fun c => ?_⟩)
      · obtain ⟨a3, b3, d3, e3⟩ := bd_nI R2.c3
        refine and_have v3 (fun _ => ?_)
        rw [e3, show (4 : Int32) * nI a3 = nI (4 * a3) from pk_mul 4 a3]
        refine c_l (p_X11_mixed (a := 672) (n := 4 * a3) (by omega)) ?_
        rintro r3 _ _ ⟨rfl, rfl⟩
        obtain ⟨a4, b4, d4, e4⟩ := bd_nI R2.c4
        refine and_have v4 (fun _ => ?_)
        rw [e4]
        refine c_l (p_X11_mixed (a := 704) (n := a4) (by omega)) ?_
        rintro r4 _ _ ⟨rfl, rfl⟩
        obtain ⟨a5, b5, d5, e5⟩ := bd_nI R2.c5
        refine and_have v5 (fun _ => ?_)
        rw [e5, show (3 : Int32) * nI a5 = nI (3 * a5) from pk_mul 3 a5]
        refine c_l (p_X11_mixed (a := 710) (n := 3 * a5) (by omega)) ?_
        rintro r5 _ _ ⟨rfl, rfl⟩
        refine c_l (p_X11_mixed (a := 9) (n := 2) (by omega)) ?_
        rintro r6 _ _ ⟨rfl, rfl⟩
        obtain ⟨a6, b6, d6, e6⟩ := bd_nI R2.c6
        refine and_have v6 (fun _ => ?_)
        rw [e6, show (2 : Int32) * nI a6 = nI (2 * a6) from pk_mul 2 a6]
        refine c_l (p_X11_mixed (a := 737) (n := 2 * a6) (by omega)) ?_
        rintro r7 _ _ ⟨rfl, rfl⟩
        obtain ⟨a7, b7, d7, e7⟩ := bd_nI R2.c7
        refine and_have v7 (fun _ => ?_)
        rw [e7, show (2 : Int32) * nI a7 = nI (2 * a7) from pk_mul 2 a7]
        refine c_l (p_X11_mixed (a := 817) (n := 2 * a7) (by omega)) ?_
        rintro r8 _ _ ⟨rfl, rfl⟩
        refine c_l (p_X11_mixed (a := 823) (n := 4) (by omega)) ?_
        rintro r9 _ _ ⟨rfl, rfl⟩
        obtain ⟨a8, b8, d8, e8⟩ := bd_nI R2.c8
        refine and_have v8 (fun _ => ?_)
        rw [e8]
        refine c_l (p_X11_mixed (a := 827) (n := a8) (by omega)) ?_
        rintro r10 _ _ ⟨rfl, rfl⟩
        exact J2
      · have hd := dif_lt (a := nI 16) (x := nI q) (by
          rw [nI_leI (by omega) (by omega)] at c ⊢; omega)
        rw [nI_leI (by omega) (by omega)] at c
        rw [show (512 : Int32) + ((10 : Int32) * nI q) = nI (512 + 10 * q) from ix2 512 10 q]
        refine c_l (p_X11_mixed (a := 512 + 10 * q) (n := 3) (by omega)) ?_
        rintro r3 _ _ ⟨rfl, rfl⟩
        have bq : bd 0 15 (nI q) := bd_of (by omega) (by omega) (by omega)
        refine lpE_intro (fun ⟨_, b_q, c_q, h_q, _⟩ => ∃ i : Nat, i ≤ 6 ∧ nI q = b_q ∧ nI i = c_q ∧ h2 = h_q) (fun ⟨_, _, c_q, _, _⟩ => dif (nI 6) c_q) ?_ _ ⟨0, by omega, rfl, nI_0, rfl⟩
        rintro ⟨u1, u3, u4, h4, g4⟩ K4 ⟨i, hi, rfl, rfl, rfl⟩ hK4
        unfold F_X11_digest_162; dsimp only; unfold b_X11_digest_162
        refine c_i (p_X11_chainOf R2 bq ((bd_lit (n := 2) (by decide)).mo (by decide) (by decide))) ?_
        rintro _ _ _ ⟨rfl, rfl, rfl⟩
        obtain ⟨cm, cm1, cm2, ecm⟩ := bd_nI (R2.cm bq)
        rw [ecm]
        refine ⟨fun _ => ?_, fun ci => ?_⟩
        · rintro _ rfl
          exact hK3 _ ⟨q + 1, by omega, (nI_1 q).symm, rfl⟩ hd
        · have hdi := dif_lt (a := nI 6) (x := nI i) (by
            rw [nI_leI (by omega) (by omega)] at ci ⊢; omega)
          rw [nI_leI (by omega) (by omega)] at ci
          have bi : bd 0 9 ((3 : Int32) + nI i) := by
            rw [show (3 : Int32) + nI i = nI (3 + i) from nI_add 3 i]; exact bd_of (by omega) (by omega) (by omega)
          refine c_i (p_X11_chainOf R2 bq bi) ?_
          rintro _ _ _ ⟨rfl, rfl, rfl⟩
          refine c_i (p_X11_chainOf R2 bq ((bd_lit (n := 9) (by decide)).mo (by decide) (by decide))) ?_
          rintro _ _ _ ⟨rfl, rfl, rfl⟩
          rintro x1 e1
          rintro _ rfl
          exact hK4 _ ⟨i + 1, by omega, rfl, (nI_1 i).symm, rfl⟩ hdi
    · have hd := dif_lt (a := nI 24) (x := nI p) (by
        rw [nI_leI (by omega) (by omega)] at c ⊢; omega)
      rw [nI_leI (by omega) (by omega)] at c
      rw [show (20 : Int32) + ((5 : Int32) * nI p) = nI (20 + 5 * p) from ix2 20 5 p]
      refine c_l (p_X11_mixed (a := 20 + 5 * p) (n := 4) (by omega)) ?_
      rintro r1 _ _ ⟨rfl, rfl⟩
      have bp : bd 0 23 (nI p) := bd_of (by omega) (by omega) (by omega)
      refine lpE_intro (fun ⟨_, b_q, c_q, h_q, _⟩ => ∃ i : Nat, i ≤ 3 ∧ nI p = b_q ∧ nI i = c_q ∧ KJ SFf h h_q) (fun ⟨_, _, c_q, _, _⟩ => dif (nI 3) c_q) ?_ _ ⟨0, by omega, rfl, nI_0, J2⟩
      rintro ⟨u1, u3, u4, h4, g4⟩ K4 ⟨i, hi, rfl, rfl, J4⟩ hK4
      unfold F_X11_digest_59; dsimp only; unfold b_X11_digest_59
      refine ⟨fun _ => ?_, fun ci => ?_⟩
      · refine c_i (p_X11_alongOf (nR J4)) ?_
        rintro r2 _ _ ⟨rfl, rfl⟩
        rintro x1 e1
        rintro _ rfl
        exact hK2 _ ⟨p + 1, by omega, (nI_1 p).symm, J4⟩ hd
      · have hdi := dif_lt (a := nI 3) ci
        rw [show (3 : Int32) = nI 3 from rfl, nI_leI (by omega) (by omega)] at ci
        refine c_i (p_X11_firstOf (nR J4) bp) ?_
        rintro r2 h5 g5 J5
        rintro x1 e1
        rintro _ rfl
        exact hK4 _ ⟨i + 1, by omega, rfl, (nI_1 i).symm, J4.tr J5⟩ hdi
  · have hd := dif_lt (a := nI 10) c
    rw [show (10 : Int32) = nI 10 from rfl, nI_leI (by omega) (by omega)] at c
    refine c_i (p_X11_countOf hR (bd_of (n := k) (by omega) (by omega) (by omega))) ?_
    rintro r1 _ _ ⟨rfl, rfl⟩
    rintro x1 e1
    rintro _ rfl
    exact hK _ ⟨k + 1, by omega, (nI_1 k).symm, rfl⟩ hd
end
