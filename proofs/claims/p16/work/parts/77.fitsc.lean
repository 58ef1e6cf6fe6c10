/-! SUM, LIFE, STANDS: the answers, and the class -/
def ASM (f : Nat → Int32) (mc : Nat) (x1 x2 x3 r : Int32) : Prop := (¬ (isRow (nI mc) x1 ∧ bd 0 99 x2 ∧ bd 0 2 x3) ∧ r = -2100000000) ∨ ∃ c y : Nat, c < mc ∧ y ≤ 99 ∧ x1 = nI c ∧ x2 = nI y ∧ bd 0 2 x3 ∧ ((x3 = 2 ∧ ((HLD f c id y ∧ r = 1) ∨ (¬ HLD f c id y ∧ r = 0))) ∨ (¬ x3 = 2 ∧ ¬ SZD f c id (nCh f c) ∧ r = -2000000000) ∨ (¬ x3 = 2 ∧ SZD f c id (nCh f c) ∧ r.toInt = (if x3 = 0 then sumL f c id y (nCh f c) else sumH f c id y (nCh f c))))
theorem ASM.un {f : Nat → Int32} {mc : Nat} (hm : mc ≤ 16) {x1 x2 x3 r s : Int32} (a : ASM f mc x1 x2 x3 r) (b : ASM f mc x1 x2 x3 s) : r = s := by
  rcases a with ⟨a1, rfl⟩ | ⟨c, y, hc, hy, rfl, rfl, b3, a⟩
  · rcases b with ⟨-, rfl⟩ | ⟨c, y, hc, hy, rfl, rfl, b3, -⟩
    · rfl
    · exact absurd ⟨row_of hc (by omega), bd_of (by omega) (by omega) (by omega), b3⟩ a1
  · rcases b with ⟨b1, -⟩ | ⟨c', y', hc', hy', e1, e2, -, b⟩
    · exact absurd ⟨row_of hc (by omega), bd_of (by omega) (by omega) (by omega), b3⟩ b1
    · have q1 : c = c' := (nI_eq (by omega) (by omega)).mp e1
      have q2 : y = y' := (nI_eq (by omega) (by omega)).mp e2
      subst q1; subst q2
      rcases a with ⟨a0, a⟩ | ⟨a0, a1, rfl⟩ | ⟨a0, a1, a2⟩
      · rcases b with ⟨-, b⟩ | ⟨b0, -⟩ | ⟨b0, -⟩
        · rcases a with ⟨a1, rfl⟩ | ⟨a1, rfl⟩
          · rcases b with ⟨-, rfl⟩ | ⟨b1, -⟩
            · rfl
            · exact absurd a1 b1
          · rcases b with ⟨b1, -⟩ | ⟨-, rfl⟩
            · exact absurd b1 a1
            · rfl
        · exact absurd a0 b0
        · exact absurd a0 b0
      · rcases b with ⟨b0, -⟩ | ⟨-, -, rfl⟩ | ⟨-, b1, -⟩
        · exact absurd b0 a0
        · rfl
        · exact absurd b1 a1
      · rcases b with ⟨b0, -⟩ | ⟨-, b1, -⟩ | ⟨-, -, b2⟩
        · exact absurd b0 a0
        · exact absurd a1 b1
        · exact Int32.toInt_inj.mp (a2.trans b2.symm)
def ALF (f : Nat → Int32) (mc : Nat) (x1 x2 r : Int32) : Prop := (¬ (isRow (nI mc) x1 ∧ bd 0 99 x2) ∧ r = -2) ∨ ∃ c y L : Nat, c < mc ∧ y ≤ 99 ∧ x1 = nI c ∧ x2 = nI y ∧ r = nI L ∧ y + L ≤ 100 ∧ (∀ j, j < L → HLD f c id (y + j)) ∧ (y + L < 100 → ¬ HLD f c id (y + L))
theorem ALF.un {f : Nat → Int32} {mc : Nat} (hm : mc ≤ 16) {x1 x2 r s : Int32} (a : ALF f mc x1 x2 r) (b : ALF f mc x1 x2 s) : r = s := by
  rcases a with ⟨a1, rfl⟩ | ⟨c, y, L, hc, hy, rfl, rfl, rfl, l1, l2, l3⟩
  · rcases b with ⟨-, rfl⟩ | ⟨c, y, L, hc, hy, rfl, rfl, -⟩
    · rfl
    · exact absurd ⟨row_of hc (by omega), bd_of (by omega) (by omega) (by omega)⟩ a1
  · rcases b with ⟨b1, -⟩ | ⟨c', y', M, hc', hy', e1, e2, rfl, m1, m2, m3⟩
    · exact absurd ⟨row_of hc (by omega), bd_of (by omega) (by omega) (by omega)⟩ b1
    · have q1 : c = c' := (nI_eq (by omega) (by omega)).mp e1
      have q2 : y = y' := (nI_eq (by omega) (by omega)).mp e2
      subst q1; subst q2
      rcases Nat.lt_trichotomy L M with k | k | k
      · exact absurd (m2 L k) (l3 (by omega))
      · rw [k]
      · exact absurd (l2 M k) (m3 (by omega))
def hasP (f : Nat → Int32) (c p : Nat) : Prop := ∃ k, k < nCh f c ∧ lkP f c k = p
def subP (q p : Nat) (t : Nat) : Nat := if t = q then p else t
def STC (f : Nat → Int32) (p q y c : Nat) : Prop := hasP f c q → ¬ hasP f c p ∧ HLD f c (subP q p) y
def AST (f : Nat → Int32) (m mc : Nat) (x1 x2 x3 r : Int32) : Prop := (¬ (isRow (nI m) x1 ∧ isRow (nI m) x2 ∧ ¬ x1 = x2 ∧ bd 0 99 x3) ∧ r = -2) ∨ ∃ p q y : Nat, p < m ∧ q < m ∧ y ≤ 99 ∧ x1 = nI p ∧ x2 = nI q ∧ x3 = nI y ∧ ¬ x1 = x2 ∧ ((r = 1 ∧ ∀ c, c < mc → STC f p q y c) ∨ (r = 0 ∧ ∃ c, c < mc ∧ ¬ STC f p q y c))
theorem AST.un {f : Nat → Int32} {m mc : Nat} (hm : m ≤ 24) {x1 x2 x3 r s : Int32} (a : AST f m mc x1 x2 x3 r) (b : AST f m mc x1 x2 x3 s) : r = s := by
  rcases a with ⟨a1, rfl⟩ | ⟨p, q, y, hp, hq, hy, rfl, rfl, rfl, ne, a⟩
  · rcases b with ⟨-, rfl⟩ | ⟨p, q, y, hp, hq, hy, rfl, rfl, rfl, ne, -⟩
    · rfl
    · exact absurd ⟨row_of hp (by omega), row_of hq (by omega), ne, bd_of (by omega) (by omega) (by omega)⟩ a1
  · rcases b with ⟨b1, -⟩ | ⟨p', q', y', hp', hq', hy', e1, e2, e3, -, b⟩
    · exact absurd ⟨row_of hp (by omega), row_of hq (by omega), ne, bd_of (by omega) (by omega) (by omega)⟩ b1
    · have q1 : p = p' := (nI_eq (by omega) (by omega)).mp e1
      have q2 : q = q' := (nI_eq (by omega) (by omega)).mp e2
      have q3 : y = y' := (nI_eq (by omega) (by omega)).mp e3
      subst q1; subst q2; subst q3
      rcases a with ⟨rfl, a⟩ | ⟨rfl, c, hc, a⟩
      · rcases b with ⟨rfl, -⟩ | ⟨rfl, c, hc, b⟩
        · rfl
        · exact absurd (a c hc) b
      · rcases b with ⟨rfl, b⟩ | ⟨rfl, -⟩
        · exact absurd (b c hc) a
        · rfl
theorem CHf.n1 {f : Nat → Int32} {c m : Nat} (C : CHf f c id m) (hm : m ≤ 24) : ∀ k, k < nCh f c → (nI (lkP f c k) = (-1 : Int32) → (-1 : Int32) = nI (id (lkP f c k))) ∧ (¬ nI (lkP f c k) = (-1 : Int32) → id (lkP f c k) = lkP f c k) := fun k hk =>
  ⟨fun e => absurd e (nI_nm (by have := (C.2.2.2.2 k hk).1; omega)), fun _ => rfl⟩
theorem FTK.jj {S : Nat → Prop} {h h' : HI} {f : Nat → Int32} {c : Nat} {qp : Nat → Nat} (x : FTK h f c qp) (J : JJ S h h') (n : ∀ q, 85 ≤ q → ¬ S q) : FTK h' f c qp := by
  unfold FTK
  rw [J 85 (n 85 (by omega)), J 86 (n 86 (by omega)), J 87 (n 87 (by omega)), J 88 (n 88 (by omega))]; exact x
theorem q_X10_life {h : HI} {g : HL} {f : Nat → Int32} (x : CX h f) {m n mc : Nat} (T : TT h 2 m 5 24) (em : f 0 = nI m) (S : TT h 6 n 6 60) (en : f 1 = nI n) (U : TT h 8 mc 15 16) (ec : f 2 = nI mc) {x1 x2 : Int32} : w_X10_life x1 x2 h g (fun r h' _ => JJ SFit h h' ∧ ALF f mc x1 x2 r) := by
  have hm := T.2.2.2.1
  have hn := S.2.2.2.1
  have hmc := U.2.2.2.1
  unfold w_X10_life
  refine c_hb (fun q0 => ⟨fun c => absI c, fun _ => ?_⟩) (fun q0 => ⟨fun _ => ⟨JJ.rf, .inl ⟨fun k => q0 (by rw [U.2.2.1]; exact k.1), rfl⟩⟩, fun c => absN c⟩)
  refine c_wb (fun q1 => ⟨fun _ => ?_, fun c => absI c⟩) (fun q1 => ⟨fun c => absurd rfl c, fun _ => ⟨JJ.rf, .inl ⟨fun k => q1 (bd.mo k.2 (by decide) (by decide)), rfl⟩⟩⟩)
  obtain ⟨c, hc, rfl⟩ := row_n q0 U.2.2.1 (by omega)
  obtain ⟨y, hy, rfl⟩ := bd_99 (bd.mo q1 (by decide) (by decide))
  obtain ⟨C, D⟩ := x.ch T em U ec hc
  refine c_v (q_X2_take x T S en U hc C D (C.n1 hm)) ?_
  rintro h1 g1 ⟨J1, F⟩
  refine lpE_intro (fun ⟨a_q, b_q, h_q, _⟩ => ∃ L : Nat, y + L ≤ 100 ∧ nI L = a_q ∧ nI (y + L) = b_q ∧ JJ SFit h h_q ∧ FTK h_q f c id ∧ ∀ j, j < L → HLD f c id (y + j)) (fun ⟨_, b_q, _, _⟩ => dil (99 : Int32) b_q) ?_ _ ⟨0, by omega, nI_0, rfl, J1, F, fun j hj => absurd hj (Nat.not_lt_zero j)⟩
  clear F J1
  rintro ⟨y1, y2, h2, g2⟩ K ⟨L, hL, rfl, rfl, J2, F2, al⟩ hK
  unfold F_X10_life_42; dsimp only; unfold b_X10_life_42
  refine ⟨fun q => ⟨J2, .inr ⟨c, y, L, hc, hy, rfl, rfl, rfl, hL, al, fun z => ?_⟩⟩, fun q => ?_⟩
  · rw [show (99 : Int32) = nI 99 from rfl, nI_ltI (by omega) (by omega)] at q; omega
  · have hd := dil_lt q (by decide)
    rw [show (99 : Int32) = nI 99 from rfl, nI_ltI (by omega) (by omega)] at q
    refine c_z (q_X2_holdIn (x.jj J2 (fun q hq => by unfold SFit; omega)) (T.cg (J2 2 (by unfold SFit; omega))) en hn (U.cg (J2 8 (by unfold SFit; omega))) hc C (D.jj J2 (by unfold SFit; omega)) F2 (y := y + L) (by omega)) ?_
    rintro r h3 g3 ⟨J3, F3, o⟩
    have J3' : JJ SFit h h3 := J2.tr (J3.mo (fun q hq => by unfold S85 at hq; unfold SFit; omega))
    rcases o with ⟨rfl, o⟩ | ⟨rfl, o⟩
    · refine ⟨fun a => absurd a (by decide), fun _ => ?_⟩
      rintro _ rfl
      rintro _ rfl
      refine hK _ ⟨L + 1, by omega, (nI_1 L).symm, by rw [show y + (L + 1) = y + L + 1 by omega]; exact (nI_1 _).symm, J3', F3, fun j hj => ?_⟩ hd
      by_cases e : j = L
      · subst e; exact o
      · exact al j (by omega)
    · exact ⟨fun _ => ⟨J3', .inr ⟨c, y, L, hc, hy, rfl, rfl, rfl, hL, al, fun _ => o⟩⟩, fun a => absurd rfl a⟩
