/-! SUM, LIFE, STANDS: the answers, and the class -/
def ASM (f : Nat → Int32) (mc : Nat) (x1 x2 x3 r : Int32) : Prop := (¬ (isRow (nI mc) x1 ∧ bd 0 99 x2 ∧ bd 0 2 x3) ∧ r = -2100000000) ∨ ∃ c y : Nat, c < mc ∧ y ≤ 99 ∧ x1 = nI c ∧ x2 = nI y ∧ bd 0 2 x3 ∧ ((x3 = 2 ∧ ((HLD f c id y ∧ r = 1) ∨ (¬ HLD f c id y ∧ r = 0))) ∨ (¬ x3 = 2 ∧ ¬ SZD f c id (nCh f c) ∧ r = -2000000000) ∨ (¬ x3 = 2 ∧ SZD f c id (nCh f c) ∧ r.toInt = (if x3 = 0 then sumL f c id y (nCh f c) else sumH f c id y (nCh f c))))
theorem ASM.un {f : Nat → Int32} {mc : Nat} (hm : mc ≤ 16) {x1 x2 x3 r s : Int32} (a : ASM f mc x1 x2 x3 r) (b : ASM f mc x1 x2 x3 s) : r = s := by
  rcases a with ⟨a1, rfl⟩ | ⟨c, y, hc, hy, rfl, rfl, b3, a⟩
  · rcases b with ⟨-, rfl⟩ | ⟨c, y, hc, hy, rfl, rfl, b3, -⟩
    · rfl
    · exact absurd ⟨row_of hc (by omega), bd_of (by omega) (by omega) (by omega), b3⟩ a1
  · rcases b with ⟨b1, -⟩ | ⟨c', y', hc', hy', e1, e2, -, b⟩
    · exact absurd ⟨row_of hc (by omega), bd_of (by omega) (by omega) (by omega), b3⟩ b1
    · have q1 : c = c' := (nI_eq (by omega) (by omega)).mp e1
      have q2 : y = y' := (nI_eq (by omega) (by omega)).mp e2
      subst q1; subst q2
      rcases a with ⟨a0, a⟩ | ⟨a0, a1, rfl⟩ | ⟨a0, a1, a2⟩
      · rcases b with ⟨-, b⟩ | ⟨b0, -⟩ | ⟨b0, -⟩
        · rcases a with ⟨a1, rfl⟩ | ⟨a1, rfl⟩
          · rcases b with ⟨-, rfl⟩ | ⟨b1, -⟩
            · rfl
            · exact absurd a1 b1
          · rcases b with ⟨b1, -⟩ | ⟨-, rfl⟩
            · exact absurd b1 a1
            · rfl
        · exact absurd a0 b0
        · exact absurd a0 b0
      · rcases b with ⟨b0, -⟩ | ⟨-, -, rfl⟩ | ⟨-, b1, -⟩
        · exact absurd b0 a0
        · rfl
        · exact absurd b1 a1
      · rcases b with ⟨b0, -⟩ | ⟨-, b1, -⟩ | ⟨-, -, b2⟩
        · exact absurd b0 a0
        · exact absurd a1 b1
        · exact Int32.toInt_inj.mp (a2.trans b2.symm)
def ALF (f : Nat → Int32) (mc : Nat) (x1 x2 r : Int32) : Prop := (¬ (isRow (nI mc) x1 ∧ bd 0 99 x2) ∧ r = -2) ∨ ∃ c y L : Nat, c < mc ∧ y ≤ 99 ∧ x1 = nI c ∧ x2 = nI y ∧ r = nI L ∧ y + L ≤ 100 ∧ (∀ j, j < L → HLD f c id (y + j)) ∧ (y + L < 100 → ¬ HLD f c id (y + L))
theorem ALF.un {f : Nat → Int32} {mc : Nat} (hm : mc ≤ 16) {x1 x2 r s : Int32} (a : ALF f mc x1 x2 r) (b : ALF f mc x1 x2 s) : r = s := by
  rcases a with ⟨a1, rfl⟩ | ⟨c, y, L, hc, hy, rfl, rfl, rfl, l1, l2, l3⟩
  · rcases b with ⟨-, rfl⟩ | ⟨c, y, L, hc, hy, rfl, rfl, -⟩
    · rfl
    · exact absurd ⟨row_of hc (by omega), bd_of (by omega) (by omega) (by omega)⟩ a1
  · rcases b with ⟨b1, -⟩ | ⟨c', y', M, hc', hy', e1, e2, rfl, m1, m2, m3⟩
    · exact absurd ⟨row_of hc (by omega), bd_of (by omega) (by omega) (by omega)⟩ b1
    · have q1 : c = c' := (nI_eq (by omega) (by omega)).mp e1
      have q2 : y = y' := (nI_eq (by omega) (by omega)).mp e2
      subst q1; subst q2
      rcases Nat.lt_trichotomy L M with k | k | k
      · exact absurd (m2 L k) (l3 (by omega))
      · rw [k]
      · exact absurd (l2 M k) (m3 (by omega))
def hasP (f : Nat → Int32) (c p : Nat) : Prop := ∃ k, k < nCh f c ∧ lkP f c k = p
def subP (q p : Nat) (t : Nat) : Nat := if t = q then p else t
def STC (f : Nat → Int32) (p q y c : Nat) : Prop := hasP f c q → ¬ hasP f c p ∧ HLD f c (subP q p) y
def AST (f : Nat → Int32) (m mc : Nat) (x1 x2 x3 r : Int32) : Prop := (¬ (isRow (nI m) x1 ∧ isRow (nI m) x2 ∧ ¬ x1 = x2 ∧ bd 0 99 x3) ∧ r = -2) ∨ ∃ p q y : Nat, p < m ∧ q < m ∧ y ≤ 99 ∧ x1 = nI p ∧ x2 = nI q ∧ x3 = nI y ∧ ¬ x1 = x2 ∧ ((r = 1 ∧ ∀ c, c < mc → STC f p q y c) ∨ (r = 0 ∧ ∃ c, c < mc ∧ ¬ STC f p q y c))
theorem AST.un {f : Nat → Int32} {m mc : Nat} (hm : m ≤ 24) {x1 x2 x3 r s : Int32} (a : AST f m mc x1 x2 x3 r) (b : AST f m mc x1 x2 x3 s) : r = s := by
  rcases a with ⟨a1, rfl⟩ | ⟨p, q, y, hp, hq, hy, rfl, rfl, rfl, ne, a⟩
  · rcases b with ⟨-, rfl⟩ | ⟨p, q, y, hp, hq, hy, rfl, rfl, rfl, ne, -⟩
    · rfl
    · exact absurd ⟨row_of hp (by omega), row_of hq (by omega), ne, bd_of (by omega) (by omega) (by omega)⟩ a1
  · rcases b with ⟨b1, -⟩ | ⟨p', q', y', hp', hq', hy', e1, e2, e3, -, b⟩
    · exact absurd ⟨row_of hp (by omega), row_of hq (by omega), ne, bd_of (by omega) (by omega) (by omega)⟩ b1
    · have q1 : p = p' := (nI_eq (by omega) (by omega)).mp e1
      have q2 : q = q' := (nI_eq (by omega) (by omega)).mp e2
      have q3 : y = y' := (nI_eq (by omega) (by omega)).mp e3
      subst q1; subst q2; subst q3
      rcases a with ⟨rfl, a⟩ | ⟨rfl, c, hc, a⟩
      · rcases b with ⟨rfl, -⟩ | ⟨rfl, c, hc, b⟩
        · rfl
        · exact absurd (a c hc) b
      · rcases b with ⟨rfl, b⟩ | ⟨rfl, -⟩
        · exact absurd (b c hc) a
        · rfl
theorem CHf.n1 {f : Nat → Int32} {c m : Nat} (C : CHf f c id m) (hm : m ≤ 24) : ∀ k, k < nCh f c → (nI (lkP f c k) = (-1 : Int32) → (-1 : Int32) = nI (id (lkP f c k))) ∧ (¬ nI (lkP f c k) = (-1 : Int32) → id (lkP f c k) = lkP f c k) := fun k hk =>
  ⟨fun e => absurd e (nI_nm (by have := (C.2.2.2.2 k hk).1; omega)), fun _ => rfl⟩
theorem FTK.jj {S : Nat → Prop} {h h' : HI} {f : Nat → Int32} {c : Nat} {qp : Nat → Nat} (x : FTK h f c qp) (J : JJ S h h') (n : ∀ q, 85 ≤ q → ¬ S q) : FTK h' f c qp := by
  unfold FTK
  rw [J 85 (n 85 (by omega)), J 86 (n 86 (by omega)), J 87 (n 87 (by omega)), J 88 (n 88 (by omega))]; exact x
theorem c_isIn {h : HI} {g : HL} {f : Nat → Int32} {m mc c p : Nat} (hm : m ≤ 24) (U : TT h 8 mc 15 16) (hc : c < mc) (C : CHf f c id m) (D : CHc h f c) (hp : p < m) {body : Int32 → HI → HL → Prop} (h1 : hasP f c p → ∀ g', body 1 h g') (h0 : ¬ hasP f c p → ∀ g', body 0 h g') : ∃ P : Int32 → HI → HL → Prop, w_X6_isIn 1 (nI c) (nI p) h g P ∧ ∀ (r : Int32) (h : HI) (g : HL), zb r → P r h g → body r h g := by
  refine c_z (q_X6_isIn U hc C.1 D.2.2.1) ?_
  rintro r _ g' ⟨rfl, -, ⟨rfl, no⟩ | ⟨rfl, k, hk, e⟩⟩
  · refine h0 ?_ g'
    rintro ⟨k, hk, e⟩
    exact no k hk (by rw [(D.2.2.2 k hk).1, e])
  · refine h1 ⟨k, hk, ?_⟩ g'
    rw [(D.2.2.2 k hk).1] at e
    have := (C.2.2.2.2 k hk).1
    exact (nI_eq (by omega) (by omega)).mp e
theorem CHf.sub {f : Nat → Int32} {c m p q : Nat} (C : CHf f c id m) (hp : p < m) : CHf f c (subP q p) m := by
  obtain ⟨a, b, d, e, k⟩ := C
  refine ⟨a, b, d, e, fun i hi => ⟨(k i hi).1, (k i hi).2.1, ?_⟩⟩
  unfold subP
  by_cases z : lkP f c i = q
  · rw [if_pos z]; exact hp
  · rw [if_neg z]; exact (k i hi).1
theorem q_X10_stands {h : HI} {g : HL} {f : Nat → Int32} (x : CX h f) {m n mc : Nat} (T : TT h 2 m 5 24) (em : f 0 = nI m) (S : TT h 6 n 6 60) (en : f 1 = nI n) (U : TT h 8 mc 15 16) (ec : f 2 = nI mc) {x1 x2 x3 : Int32} : w_X10_stands x1 x2 x3 h g (fun r h' _ => JJ SFit h h' ∧ AST f m mc x1 x2 x3 r) := by
  have hm := T.2.2.2.1
  have hn := S.2.2.2.1
  have hmc := U.2.2.2.1
  unfold w_X10_stands
  refine c_hb (fun q0 => ⟨fun c => absI c, fun _ => ?_⟩) (fun q0 => ⟨fun _ => ⟨JJ.rf, .inl ⟨fun k => q0 (by rw [T.2.2.1]; exact k.1), rfl⟩⟩, fun c => absN c⟩)
  refine c_hb (fun q1 => ⟨fun c => absI c, fun _ => ?_⟩) (fun q1 => ⟨fun _ => ⟨JJ.rf, .inl ⟨fun k => q1 (by rw [T.2.2.1]; exact k.2.1), rfl⟩⟩, fun c => absN c⟩)
  refine ⟨fun ee => ⟨JJ.rf, .inl ⟨fun k => k.2.2.1 ee, rfl⟩⟩, fun ne => ?_⟩
  refine c_wb (fun q2 => ⟨fun _ => ?_, fun c => absI c⟩) (fun q2 => ⟨fun c => absurd rfl c, fun _ => ⟨JJ.rf, .inl ⟨fun k => q2 (bd.mo k.2.2.2 (by decide) (by decide)), rfl⟩⟩⟩)
  obtain ⟨p, hp, rfl⟩ := row_n q0 T.2.2.1 (by omega)
  obtain ⟨q, hq, rfl⟩ := row_n q1 T.2.2.1 (by omega)
  obtain ⟨y, hy, rfl⟩ := bd_99 (bd.mo q2 (by decide) (by decide))
  refine lpE_intro (fun ⟨a_q, b_q, c_q, d_q, h_q, _⟩ => ∃ i : Nat, i ≤ mc ∧ nI p = a_q ∧ nI q = b_q ∧ nI y = c_q ∧ nI i = d_q ∧ JJ SFit h h_q ∧ ∀ c, c < i → STC f p q y c) (fun ⟨_, _, _, d_q, _, _⟩ => dif (nI mc) d_q) ?_ _ ⟨0, by omega, rfl, rfl, rfl, nI_0, JJ.rf, fun c hc => absurd hc (Nat.not_lt_zero c)⟩
  rintro ⟨y1, y2, y3, y4, h2, g2⟩ K ⟨i, hi, rfl, rfl, rfl, rfl, J2, al⟩ hK
  have U2 : TT h2 8 mc 15 16 := U.cg (J2 8 (by unfold SFit; omega))
  unfold F_X10_stands_49; dsimp only; unfold b_X10_stands_49
  refine c_i p_rows ?_
  rintro _ _ _ ⟨rfl, rfl, rfl⟩
  rw [U2.2.2.1]
  refine ⟨fun z => ⟨J2, .inr ⟨p, q, y, hp, hq, hy, rfl, rfl, rfl, ne, .inl ⟨rfl, fun c hc => al c ?_⟩⟩⟩, fun z => ?_⟩
  · rw [nI_leI (by omega) (by omega)] at z; omega
  · have hd := dif_lt z
    rw [nI_leI (by omega) (by omega)] at z
    have hc : i < mc := by omega
    obtain ⟨C, D⟩ := x.ch T em U ec hc
    have D2 := D.jj J2 (by unfold SFit; omega)
    have nxt : ∀ (h3 : HI) (g3 : HL), JJ SFit h h3 → STC f p q y i → j_X10_stands_119 (fun r h' _ => JJ SFit h h' ∧ AST f m mc (nI p) (nI q) (nI y) r) (fun x1 x2 x3 x4 h g => K (x1, x2, x3, x4, h, g)) (nI p) (nI q) (nI y) (nI i) h3 g3 := by
      intro h3 g3 J3 s
      unfold j_X10_stands_119
      rintro _ rfl
      refine hK _ ⟨i + 1, by omega, rfl, rfl, rfl, (nI_1 i).symm, J3, fun c hc => ?_⟩ hd
      by_cases e : c = i
      · subst e; exact s
      · exact al c (by omega)
    have stop : ∀ h3 : HI, JJ SFit h h3 → ¬ STC f p q y i → JJ SFit h h3 ∧ AST f m mc (nI p) (nI q) (nI y) 0 := fun h3 J3 s => ⟨J3, .inr ⟨p, q, y, hp, hq, hy, rfl, rfl, rfl, ne, .inr ⟨rfl, i, hc, s⟩⟩⟩
    refine c_isIn hm U2 hc C D2 hq (fun hq1 g3 => ⟨fun _ => ?_, fun a => absurd a (by decide)⟩) (fun hq1 g3 => ⟨fun a => absurd rfl a, fun _ => nxt h2 g3 J2 (fun k => absurd k hq1)⟩)
    refine c_isIn hm U2 hc C D2 hp (fun hp1 g4 => ⟨fun a => absurd a (by decide), fun _ => stop h2 J2 (fun s => (s hq1).1 hp1)⟩) (fun hp1 g4 => ⟨fun _ => ?_, fun a => absurd rfl a⟩)
    have x2' := x.jj J2 (fun q hq => by unfold SFit; omega)
    have T2 := T.cg (J2 2 (by unfold SFit; omega))
    refine c_v (q_X2_take (qp := subP q p) x2' T2 (S.cg (J2 6 (by unfold SFit; omega))) en U2 hc (C.sub hp) D2 (fun k hk => ⟨fun e => ?_, fun e => ?_⟩)) ?_
    · have := (C.2.2.2.2 k hk).1
      have e := (nI_eq (by omega) (by omega)).mp e
      unfold subP; rw [if_pos e]
    · unfold subP; rw [if_neg (fun a => e (by rw [a]))]
    rintro h3 g5 ⟨J3, F⟩
    have J3' := J2.tr J3
    refine c_z (q_X2_holdIn (x2'.jj J3 (fun q hq => by unfold SFit; omega)) (T2.cg (J3 2 (by unfold SFit; omega))) en hn (U2.cg (J3 8 (by unfold SFit; omega))) hc (C.sub hp) (D2.jj J3 (by unfold SFit; omega)) F hy) ?_
    rintro r h4 g6 ⟨J4, -, o⟩
    have J4' : JJ SFit h h4 := J3'.tr (J4.mo (fun q hq => by unfold S85 at hq; unfold SFit; omega))
    rcases o with ⟨rfl, o⟩ | ⟨rfl, o⟩
    · exact ⟨fun _ => nxt h4 g6 J4' (fun _ => ⟨hp1, o⟩), fun a => absurd a (by decide)⟩
    · exact ⟨fun a => absurd rfl a, fun _ => stop h4 J4' (fun s => o (s hq1).2)⟩
