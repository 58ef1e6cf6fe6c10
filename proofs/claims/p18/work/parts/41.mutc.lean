theorem p_putF {h : HI} {g : HL} {o m w M : Nat} (T : TT h o m w M) {a b v : Int32} (ha : a < 0 ∨ h o 3 ≤ a) : w_X8_put o a b v h g (fun h' g' => h = h' ∧ g = g') := by
  unfold w_X8_put
  rcases ha with c | c
  · exact ⟨fun _ => ⟨rfl, rfl⟩, fun d => absurd c d⟩
  · exact ⟨fun _ => ⟨rfl, rfl⟩, fun _ => ⟨fun _ => ⟨rfl, rfl⟩, fun d => absurd c d⟩⟩
theorem SB.sm {o : Nat} (q : Nat) (h : SB o q) : SM o q := by unfold SB at h; unfold SM; omega
theorem SLaw.sm (q : Nat) (h : SLaw q) : SM 24 q := by unfold SLaw at h; unfold SM; omega
def K_chain (x1 x2 : Int32) : Prop := bd (-100000) 100000 x1 ∧ bd x1.toInt 100000 x2
theorem p_X10_chain {h : HI} {g : HL} {m : Nat} (T : TT h 8 m 15 16) {x1 x2 : Int32} : w_X10_chain x1 x2 h g (fun r h' _ => ADc (K_chain x1 x2) h r h' 8 m 15 16 0 (rowc x1 x2 0 0)) := by
  unfold w_X10_chain
  refine c_wb (fun q0 => ⟨fun c => absI c, fun _ => ?_⟩) (fun q0 => ⟨fun _ => .inl ⟨fun hc => q0 (bd.mo hc.1 (by decide) (by decide)), rfl, rfl⟩, fun c => absN c⟩)
  refine c_wb (fun q1 => ⟨fun _ => ?_, fun c => absI c⟩) (fun q1 => ⟨fun c => absurd rfl c, fun _ => .inl ⟨fun hc => q1 (bd.mo hc.2 (Int.le_refl _) (by decide)), rfl, rfl⟩⟩)
  have hC : K_chain x1 x2 := ⟨bd.mo q0 (by decide) (by decide), bd.mo q1 (Int.le_refl _) (by decide)⟩
  by_cases hm : m = 16
  · refine c_i (p_addF T hm) ?_
    rintro _ _ _ ⟨rfl, rfl, rfl⟩
    exact .inr (.inl ⟨hC, hm, rfl, rfl⟩)
  · have hlt : m < 16 := by have := T.2.2.2.1; omega
    refine c_i (p_add T hlt) ?_
    rintro _ h1 g1 ⟨rfl, -, J, T1, ho, hr⟩
    exact .inr (.inr ⟨hC, hlt, rfl, J.mo SB.sm, T1, fun i hi => ho i (.inl hi), hr⟩)
def K_work (x1 x2 x3 x4 : Int32) : Prop := ¬ x1 = 0 ∧ bd (-500) 500 x1 ∧ bd 1 1000 x2 ∧ bd 1 3000 x3 ∧ bd x3.toInt 3000 x4
theorem p_X10_work {h : HI} {g : HL} {m : Nat} (T : TT h 10 m 4 8) {x1 x2 x3 x4 : Int32} : w_X10_work x1 x2 x3 x4 h g (fun r h' _ => ADc (K_work x1 x2 x3 x4) h r h' 10 m 4 8 0 (rowc x1 x2 x3 x4)) := by
  unfold w_X10_work
  refine ⟨fun c => .inl ⟨fun hc => hc.1 c, rfl, rfl⟩, fun cz => ?_⟩
  refine c_wb (fun q0 => ⟨fun c => absI c, fun _ => ?_⟩) (fun q0 => ⟨fun _ => .inl ⟨fun hc => q0 (bd.mo hc.2.1 (by decide) (by decide)), rfl, rfl⟩, fun c => absN c⟩)
  refine c_wb (fun q1 => ⟨fun _ => ?_, fun c => absI c⟩) (fun q1 => ⟨fun c => absurd rfl c, fun _ => .inl ⟨fun hc => q1 (bd.mo hc.2.2.1 (by decide) (by decide)), rfl, rfl⟩⟩)
  refine c_wb (fun q2 => ⟨fun c => absI c, fun _ => ?_⟩) (fun q2 => ⟨fun _ => .inl ⟨fun hc => q2 (bd.mo hc.2.2.2.1 (by decide) (by decide)), rfl, rfl⟩, fun c => absN c⟩)
  refine c_wb (fun q3 => ⟨fun _ => ?_, fun c => absI c⟩) (fun q3 => ⟨fun c => absurd rfl c, fun _ => .inl ⟨fun hc => q3 (bd.mo hc.2.2.2.2 (Int.le_refl _) (by decide)), rfl, rfl⟩⟩)
  have hC : K_work x1 x2 x3 x4 := ⟨cz, bd.mo q0 (by decide) (by decide), bd.mo q1 (by decide) (by decide), bd.mo q2 (by decide) (by decide), bd.mo q3 (Int.le_refl _) (by decide)⟩
  by_cases hm : m = 8
  · refine c_i (p_addF T hm) ?_
    rintro _ _ _ ⟨rfl, rfl, rfl⟩
    exact .inr (.inl ⟨hC, hm, rfl, rfl⟩)
  · have hlt : m < 8 := by have := T.2.2.2.1; omega
    refine c_i (p_add T hlt) ?_
    rintro _ h1 g1 ⟨rfl, -, J, T1, ho, hr⟩
    exact .inr (.inr ⟨hC, hlt, rfl, J.mo SB.sm, T1, fun i hi => ho i (.inl hi), hr⟩)
theorem nI_m4 {m : Nat} (h : m < 2 ^ 31) : ¬ nI m = -4 := fun e => by
  have := nI_toInt h
  rw [e, show (-4 : Int32).toInt = -4 by decide] at this
  omega
def K_told (x1 : Int32) : Prop := bd 0 100 x1
theorem p_X10_told {h : HI} {g : HL} {m : Nat} (T : TT h 18 m 2 40) {x1 x2 : Int32} : w_X10_told x1 x2 h g (fun r h' _ => ADc (K_told x1) h r h' 18 m 2 40 1 (rowc x1 (if x2 = 0 then 0 else 1) 0 0)) := by
  have fin : ∀ s2 : Int32, s2 = (if x2 = 0 then 0 else 1) → K_told x1 → j_X10_told_30 (fun r h' _ => ADc (K_told x1) h r h' 18 m 2 40 1 (rowc x1 (if x2 = 0 then 0 else 1) 0 0)) x1 s2 h g := by
    intro s2 es2 hC
    unfold j_X10_told_30
    by_cases hm : m = 40
    · refine c_i (p_addF T hm) ?_
      rintro _ _ _ ⟨rfl, rfl, rfl⟩
      exact ⟨fun c => absurd rfl c, fun _ => .inr (.inl ⟨hC, hm, rfl, rfl⟩)⟩
    · have hlt : m < 40 := by have := T.2.2.2.1; omega
      refine c_i (p_add T hlt) ?_
      rintro _ h1 g1 ⟨rfl, -, J, T1, ho, hr⟩
      refine ⟨fun _ => ?_, fun c => absurd c (nI_m4 (by omega))⟩
      refine c_i p_rows ?_
      rintro _ _ _ ⟨rfl, rfl, rfl⟩
      exact .inr (.inr ⟨hC, hlt, T1.2.2.1, J.mo SB.sm, T1, fun i hi => ho i (.inl hi), by rw [← es2]; exact hr⟩)
  unfold w_X10_told
  refine c_wb (fun q0 => ⟨fun _ => ?_, fun c => absI c⟩) (fun q0 => ⟨fun c => absurd rfl c, fun _ => .inl ⟨fun hc => q0 (bd.mo hc (by decide) (by decide)), rfl, rfl⟩⟩)
  have hC : K_told x1 := bd.mo q0 (by decide) (by decide)
  exact ⟨fun c => fin _ (if_pos c).symm hC, fun c => fin _ (if_neg c).symm hC⟩
def K_write (x1 : Int32) : Prop := bd 0 127 x1
def rows (x1 x2 x3 x4 x5 : Int32) (c : Nat) : Int32 := if c = 4 then (if x2 = 0 then x5 else 0) else rowc x1 x2 x3 (if x2 = 0 ∨ x2 = 1 then x4 else 0) c
def K_say (c x1 x2 x3 x4 x5 : Int32) : Prop := isRow c x1 ∧ bd 0 3 x2 ∧ bd (-10000) 100000 x3 ∧ (x2 = 0 ∨ x2 = 1 → bd 0 10000 x4) ∧ (x2 = 0 → bd 0 99 x5)
theorem p_X10_say {h : HI} {g : HL} {m : Nat} (T : TT h 6 m 6 60) {x1 x2 x3 x4 x5 : Int32} : w_X10_say x1 x2 x3 x4 x5 h g (fun r h' _ => ADc (K_say (h 2 3) x1 x2 x3 x4 x5) h r h' 6 m 6 60 0 (rows x1 x2 x3 x4 x5)) := by
  have fin : ∀ e y : Int32, e = (if x2 = 0 ∨ x2 = 1 then x4 else 0) → y = (if x2 = 0 then x5 else 0) → isRow (h 2 3) x1 → bd 0 3 x2 → bd (-10000) 100000 x3 → (bd 0 10000 e ∧ bd 0 99 y ↔ (x2 = 0 ∨ x2 = 1 → bd 0 10000 x4) ∧ (x2 = 0 → bd 0 99 x5)) → j_X10_say_65 (fun r h' _ => ADc (K_say (h 2 3) x1 x2 x3 x4 x5) h r h' 6 m 6 60 0 (rows x1 x2 x3 x4 x5)) x1 x2 x3 e y h g := by
    intro e y ee ey k1 k2 k3 k4
    unfold j_X10_say_65
    refine c_wb (fun q0 => ⟨fun c => absI c, fun _ => ?_⟩) (fun q0 => ⟨fun _ => .inl ⟨fun hc => q0 (bd.mo (k4.mpr hc.2.2.2).1 (by decide) (by decide)), rfl, rfl⟩, fun c => absN c⟩)
    refine c_wb (fun q1 => ⟨fun _ => ?_, fun c => absI c⟩) (fun q1 => ⟨fun c => absurd rfl c, fun _ => .inl ⟨fun hc => q1 (bd.mo (k4.mpr hc.2.2.2).2 (by decide) (by decide)), rfl, rfl⟩⟩)
    have hC : K_say (h 2 3) x1 x2 x3 x4 x5 := ⟨k1, k2, k3, k4.mp ⟨bd.mo q0 (by decide) (by decide), bd.mo q1 (by decide) (by decide)⟩⟩
    by_cases hm : m = 60
    · refine c_i (p_addF T hm) ?_
      rintro _ _ _ ⟨rfl, rfl, rfl⟩
      refine c_v (p_putF T (a := -4) (.inl (by decide))) ?_
      rintro _ _ ⟨rfl, rfl⟩
      exact .inr (.inl ⟨hC, hm, rfl, rfl⟩)
    · have hlt : m < 60 := by have := T.2.2.2.1; omega
      refine c_i (p_add T hlt) ?_
      rintro _ h1 g1 ⟨rfl, -, J, T1, ho, hr⟩
      refine c_v (p_putG T1 (a := m) (by omega) 4 (by omega)) ?_
      rintro h2 g2 ⟨e2, -⟩
      have J2 : JJ (SB 6) h1 h2 := fun q hq => by rw [e2, pw_ne (fun e => hq (.inr e))]
      refine .inr (.inr ⟨hC, hlt, rfl, (J.mo SB.sm).tr (J2.mo SB.sm), T1.cg (by rw [e2, pw_ne (by omega)]), fun i hi => ?_, fun c hc => ?_⟩)
      · rw [e2, pw_out (.inl hi)]; exact ho i (.inl hi)
      · rw [e2, pw_in hc]
        unfold rows
        by_cases c4 : c = 4
        · rw [if_pos c4, if_pos c4, ey]
        · rw [if_neg c4, if_neg c4, ← ee]; exact hr c hc
  have z4 : bd 0 10000 (0 : Int32) := by unfold bd; decide
  have z5 : bd 0 99 (0 : Int32) := by unfold bd; decide
  have n01 : ¬ (0 : Int32) = 1 := by decide
  unfold w_X10_say
  refine c_hb (fun q0 => ⟨fun c => absI c, fun _ => ?_⟩) (fun q0 => ⟨fun _ => .inl ⟨fun hc => q0 hc.1, rfl, rfl⟩, fun c => absN c⟩)
  refine c_wb (fun q1 => ⟨fun c => absI c, fun _ => ?_⟩) (fun q1 => ⟨fun _ => .inl ⟨fun hc => q1 (bd.mo hc.2.1 (by decide) (by decide)), rfl, rfl⟩, fun c => absN c⟩)
  refine c_wb (fun q2 => ⟨fun _ => ?_, fun c => absI c⟩) (fun q2 => ⟨fun c => absurd rfl c, fun _ => .inl ⟨fun hc => q2 (bd.mo hc.2.2.1 (by decide) (by decide)), rfl, rfl⟩⟩)
  have k2 : bd 0 3 x2 := bd.mo q1 (by decide) (by decide)
  have k3 : bd (-10000) 100000 x3 := bd.mo q2 (by decide) (by decide)
  refine ⟨fun e0 => ?_, fun e0 => ⟨fun e1 => ?_, fun e1 => ?_⟩⟩
  · unfold j_X10_say_47 j_X10_say_53
    exact ⟨fun c => absurd e0 c, fun _ => fin x4 x5 (if_pos (.inl e0)).symm (if_pos e0).symm q0 k2 k3 ⟨fun k => ⟨fun _ => k.1, fun _ => k.2⟩, fun k => ⟨k.1 (.inl e0), k.2 e0⟩⟩⟩
  · unfold j_X10_say_53
    exact ⟨fun _ => fin 0 0 (if_neg (fun q => q.elim e0 e1)).symm (if_neg e0).symm q0 k2 k3 ⟨fun k => ⟨fun c => absurd c (fun c => c.elim e0 e1), fun c => absurd c e0⟩, fun k => ⟨z4, z5⟩⟩, fun c => absurd c e0⟩
  · unfold j_X10_say_47 j_X10_say_53
    exact ⟨fun _ => fin x4 0 (if_pos (.inr e1)).symm (if_neg e0).symm q0 k2 k3 ⟨fun k => ⟨fun _ => k.1, fun c => absurd c e0⟩, fun k => ⟨k.1 (.inr e1), z5⟩⟩, fun c => absurd c e0⟩
def K_fam (x1 x2 x3 x4 : Int32) : Prop := bd 0 3 x1 ∧ bd 1 100000 x2 ∧ bd 1 100000 x3 ∧ bd 1 100000 x4 ∧ lg_cmp (x2.toInt64 + (x4.toInt64 - 1) * x3.toInt64) 100000 ≤ 0
/-- a call that changes cells of one table -/
def PTc (A : Prop) (h h' : HI) (o m w M : Nat) : Prop := A ∧ JJ (SM o) h h' ∧ TT h' o m w M
def ANS (C : Prop) (r a : Int32) : Prop := C ∧ r = a ∨ ¬ C ∧ r = -2
theorem row4 {c x : Int32} {n : Nat} (e : c = nI n) (hn : n < 1000) : isRow c x ↔ bd 0 ((n : Int) - 1) x := by
  unfold isRow bd
  rw [e, nI_toInt (by omega)]; omega
theorem p_X10_scrap {h : HI} {g : HL} {m n : Nat} (T : TT h 12 m 1 6) (U : TT h 14 n 3 9) : w_X10_scrap h g (fun r h' _ => r = nI m + nI n ∧ JJ (fun q => q = 12 ∨ q = 14) h h' ∧ TT h' 12 0 1 6 ∧ TT h' 14 0 3 9) := by
  unfold w_X10_scrap
  refine c_i p_rows ?_
  rintro _ _ _ ⟨rfl, rfl, rfl⟩
  refine c_i p_rows ?_
  rintro _ _ _ ⟨rfl, rfl, rfl⟩
  rintro _ rfl
  refine c_v (p_empty T) ?_
  rintro h1 g1 ⟨-, J1, T1⟩
  refine c_v (p_empty (U.cg (J1 14 (by unfold SO; omega)))) ?_
  rintro h2 g2 ⟨-, J2, U2⟩
  exact ⟨by rw [T.2.2.1, U.2.2.1], (J1.mo (fun q hq => by unfold SO at hq; omega)).tr (J2.mo (fun q hq => by unfold SO at hq; omega)), T1.cg (J2 12 (by unfold SO; omega)), U2⟩
def K_odds (x1 x2 : Int32) : Prop := bd 0 9 x1 ∧ bd 0 9 x2
def K_lasts (c x1 x2 : Int32) : Prop := isRow c x1 ∧ bd 0 60 x2
theorem p_X10_lasts {h : HI} {g : HL} (hC0 : CI h) {x1 x2 : Int32} : w_X10_lasts x1 x2 h g (fun r h' _ => ANS (K_lasts (h 2 3) x1 x2) r 1 ∧ JJ SBrk h h') := by
  unfold w_X10_lasts
  refine c_hb (fun q0 => ⟨fun c => absI c, fun _ => ?_⟩) (fun q0 => ⟨fun _ => ⟨.inr ⟨fun hc => q0 hc.1, rfl⟩, JJ.rf⟩, fun c => absN c⟩)
  refine c_wb (fun q1 => ⟨fun _ => ?_, fun c => absI c⟩) (fun q1 => ⟨fun c => absurd rfl c, fun _ => ⟨.inr ⟨fun hc => q1 (bd.mo hc.2 (by decide) (by decide)), rfl⟩, JJ.rf⟩⟩)
  refine c_v (p_X1_last hC0) ?_
  rintro h1 g1 J1
  exact ⟨.inl ⟨⟨q0, bd.mo q1 (by decide) (by decide)⟩, rfl⟩, J1⟩
def K_part (x1 x2 x3 x4 : Int32) : Prop := bd 0 100 x1 ∧ bd 1 100 x2 ∧ bd 0 99 x3 ∧ bd (-1) 3 x4
theorem p_X10_part {h : HI} {g : HL} {m : Nat} (T : TT h 2 m 5 24) {x1 x2 x3 x4 : Int32} : w_X10_part x1 x2 x3 x4 h g (fun r h' _ => ADc (K_part x1 x2 x3 x4) h r h' 2 m 5 24 0 (rowc x1 x2 x3 x4)) := by
  unfold w_X10_part
  refine c_wb (fun q0 => ?_) (fun q0 => ?_)
  rotate_left
  · refine ⟨fun _ => ?_, fun c => absN c⟩
    exact .inl ⟨fun hc => q0 (bd.mo (hc.1) (by decide) (by decide)), rfl, rfl⟩
  refine ⟨fun c => absI c, fun _ => ?_⟩
  refine c_wb (fun q1 => ?_) (fun q1 => ?_)
  rotate_left
  · refine ⟨fun c => absurd rfl c, fun _ => ?_⟩
    exact .inl ⟨fun hc => q1 (bd.mo (hc.2.1) (by decide) (by decide)), rfl, rfl⟩
  refine ⟨fun _ => ?_, fun c => absI c⟩
  refine c_wb (fun q2 => ?_) (fun q2 => ?_)
  rotate_left
  · refine ⟨fun _ => ?_, fun c => absN c⟩
    exact .inl ⟨fun hc => q2 (bd.mo (hc.2.2.1) (by decide) (by decide)), rfl, rfl⟩
  refine ⟨fun c => absI c, fun _ => ?_⟩
  refine c_wb (fun q3 => ?_) (fun q3 => ?_)
  rotate_left
  · refine ⟨fun c => absurd rfl c, fun _ => ?_⟩
    exact .inl ⟨fun hc => q3 (bd.mo (hc.2.2.2) (by decide) (by decide)), rfl, rfl⟩
  refine ⟨fun _ => ?_, fun c => absI c⟩
  have hC : K_part x1 x2 x3 x4 := ⟨bd.mo q0 (by decide) (by decide), bd.mo q1 (by decide) (by decide), bd.mo q2 (by decide) (by decide), bd.mo q3 (by decide) (by decide)⟩
  by_cases hm : m = 24
  · refine c_i (p_addF T hm) ?_
    rintro _ _ _ ⟨rfl, rfl, rfl⟩
    exact .inr (.inl ⟨hC, hm, rfl, rfl⟩)
  · have hlt : m < 24 := by have := T.2.2.2.1; omega
    refine c_i (p_add T hlt) ?_
    rintro _ h1 g1 ⟨rfl, -, J, T1, ho, hr⟩
    exact .inr (.inr ⟨hC, hlt, rfl, J.mo (fun q hq => by unfold SB at hq; unfold SM; omega), T1, fun i hi => ho i (.inl hi), hr⟩)
def K_machine (x1 : Int32) : Prop := bd 0 3 x1
theorem p_X10_machine {h : HI} {g : HL} {m : Nat} (T : TT h 12 m 1 6) {x1 : Int32} : w_X10_machine x1 h g (fun r h' _ => ADc (K_machine x1) h r h' 12 m 1 6 0 (rowc x1 0 0 0)) := by
  unfold w_X10_machine
  refine c_wb (fun q0 => ?_) (fun q0 => ?_)
  rotate_left
  · refine ⟨fun c => absurd rfl c, fun _ => ?_⟩
    exact .inl ⟨fun hc => q0 (bd.mo (hc) (by decide) (by decide)), rfl, rfl⟩
  refine ⟨fun _ => ?_, fun c => absI c⟩
  have hC : K_machine x1 := (bd.mo q0 (by decide) (by decide))
  by_cases hm : m = 6
  · refine c_i (p_addF T hm) ?_
    rintro _ _ _ ⟨rfl, rfl, rfl⟩
    exact .inr (.inl ⟨hC, hm, rfl, rfl⟩)
  · have hlt : m < 6 := by have := T.2.2.2.1; omega
    refine c_i (p_add T hlt) ?_
    rintro _ h1 g1 ⟨rfl, -, J, T1, ho, hr⟩
    exact .inr (.inr ⟨hC, hlt, rfl, J.mo (fun q hq => by unfold SB at hq; unfold SM; omega), T1, fun i hi => ho i (.inl hi), hr⟩)
def K_spare (x1 x2 x3 : Int32) : Prop := bd 0 3 x1 ∧ bd 1 50 x2 ∧ bd (-1) 3 x3
theorem p_X10_spare {h : HI} {g : HL} {m : Nat} (T : TT h 14 m 3 9) {x1 x2 x3 : Int32} : w_X10_spare x1 x2 x3 h g (fun r h' _ => ADc (K_spare x1 x2 x3) h r h' 14 m 3 9 0 (rowc x1 x2 x3 0)) := by
  unfold w_X10_spare
  refine c_wb (fun q0 => ?_) (fun q0 => ?_)
  rotate_left
  · refine ⟨fun _ => ?_, fun c => absN c⟩
    exact .inl ⟨fun hc => q0 (bd.mo (hc.1) (by decide) (by decide)), rfl, rfl⟩
  refine ⟨fun c => absI c, fun _ => ?_⟩
  refine c_wb (fun q1 => ?_) (fun q1 => ?_)
  rotate_left
  · refine ⟨fun _ => ?_, fun c => absN c⟩
    exact .inl ⟨fun hc => q1 (bd.mo (hc.2.1) (by decide) (by decide)), rfl, rfl⟩
  refine ⟨fun c => absI c, fun _ => ?_⟩
  refine c_wb (fun q2 => ?_) (fun q2 => ?_)
  rotate_left
  · refine ⟨fun c => absurd rfl c, fun _ => ?_⟩
    exact .inl ⟨fun hc => q2 (bd.mo (hc.2.2) (by decide) (by decide)), rfl, rfl⟩
  refine ⟨fun _ => ?_, fun c => absI c⟩
  have hC : K_spare x1 x2 x3 := ⟨bd.mo q0 (by decide) (by decide), bd.mo q1 (by decide) (by decide), bd.mo q2 (by decide) (by decide)⟩
  by_cases hm : m = 9
  · refine c_i (p_addF T hm) ?_
    rintro _ _ _ ⟨rfl, rfl, rfl⟩
    exact .inr (.inl ⟨hC, hm, rfl, rfl⟩)
  · have hlt : m < 9 := by have := T.2.2.2.1; omega
    refine c_i (p_add T hlt) ?_
    rintro _ h1 g1 ⟨rfl, -, J, T1, ho, hr⟩
    exact .inr (.inr ⟨hC, hlt, rfl, J.mo (fun q hq => by unfold SB at hq; unfold SM; omega), T1, fun i hi => ho i (.inl hi), hr⟩)
def K_hand (x1 x2 : Int32) : Prop := bd 0 15 x1 ∧ bd 0 9 x2
theorem p_X10_hand {h : HI} {g : HL} {m : Nat} (T : TT h 20 m 2 3) {x1 x2 : Int32} : w_X10_hand x1 x2 h g (fun r h' _ => ADc (K_hand x1 x2) h r h' 20 m 2 3 0 (rowc x1 x2 0 0)) := by
  unfold w_X10_hand
  refine c_wb (fun q0 => ?_) (fun q0 => ?_)
  rotate_left
  · refine ⟨fun _ => ?_, fun c => absN c⟩
    exact .inl ⟨fun hc => q0 (bd.mo (hc.1) (by decide) (by decide)), rfl, rfl⟩
  refine ⟨fun c => absI c, fun _ => ?_⟩
  refine c_wb (fun q1 => ?_) (fun q1 => ?_)
  rotate_left
  · refine ⟨fun c => absurd rfl c, fun _ => ?_⟩
    exact .inl ⟨fun hc => q1 (bd.mo (hc.2) (by decide) (by decide)), rfl, rfl⟩
  refine ⟨fun _ => ?_, fun c => absI c⟩
  have hC : K_hand x1 x2 := ⟨bd.mo q0 (by decide) (by decide), bd.mo q1 (by decide) (by decide)⟩
  by_cases hm : m = 3
  · refine c_i (p_addF T hm) ?_
    rintro _ _ _ ⟨rfl, rfl, rfl⟩
    exact .inr (.inl ⟨hC, hm, rfl, rfl⟩)
  · have hlt : m < 3 := by have := T.2.2.2.1; omega
    refine c_i (p_add T hlt) ?_
    rintro _ h1 g1 ⟨rfl, -, J, T1, ho, hr⟩
    exact .inr (.inr ⟨hC, hlt, rfl, J.mo (fun q hq => by unfold SB at hq; unfold SM; omega), T1, fun i hi => ho i (.inl hi), hr⟩)
