/-! SUMS OF A CHAIN -/
def lkP (f : Nat → Int32) (c k : Nat) : Nat := (f (512 + 10 * c + (3 + k))).toNatClampNeg
def nCh (f : Nat → Int32) (c : Nat) : Nat := (f (512 + 10 * c + 2)).toNatClampNeg
def oCh (f : Nat → Int32) (c : Nat) : Nat := (f (512 + 10 * c + 9)).toNatClampNeg
/-- what the k-th part adds to the least and to the greatest sum; some part stands for another -/
noncomputable def tLo (f : Nat → Int32) (c : Nat) (qp : Nat → Nat) (y k : Nat) : Int := if (oCh f c).testBit k = true then (wvN f (qp (lkP f c k)) y).toInt - (f3 f (qp (lkP f c k))).2.1 else (f3 f (qp (lkP f c k))).1 - (wvN f (qp (lkP f c k)) y).toInt
noncomputable def tHi (f : Nat → Int32) (c : Nat) (qp : Nat → Nat) (y k : Nat) : Int := if (oCh f c).testBit k = true then (wvN f (qp (lkP f c k)) y).toInt - (f3 f (qp (lkP f c k))).1 else (f3 f (qp (lkP f c k))).2.1 - (wvN f (qp (lkP f c k)) y).toInt
noncomputable def sumL (f : Nat → Int32) (c : Nat) (qp : Nat → Nat) (y : Nat) : Nat → Int
  | 0 => 0
  | k + 1 => sumL f c qp y k + tLo f c qp y k
noncomputable def sumH (f : Nat → Int32) (c : Nat) (qp : Nat → Nat) (y : Nat) : Nat → Int
  | 0 => 0
  | k + 1 => sumH f c qp y k + tHi f c qp y k
def SZD (f : Nat → Int32) (c : Nat) (qp : Nat → Nat) (n : Nat) : Prop := ∀ k, k < n → ¬ fMn f (qp (lkP f c k)) = 0
def HLD (f : Nat → Int32) (c : Nat) (qp : Nat → Nat) (y : Nat) : Prop := SZD f c qp (nCh f c) ∧ (f (512 + 10 * c + 0)).toInt ≤ sumL f c qp y (nCh f c) ∧ sumH f c qp y (nCh f c) ≤ (f (512 + 10 * c + 1)).toInt
/-- the chain c of n parts, by the reference's numbers: all its parts, and those that stand for them, are there -/
def CHf (f : Nat → Int32) (c : Nat) (qp : Nat → Nat) (m : Nat) : Prop := nCh f c ≤ 6 ∧ f (512 + 10 * c + 2) = nI (nCh f c) ∧ f (512 + 10 * c + 9) = nI (oCh f c) ∧ oCh f c < 64 ∧ ∀ k, k < nCh f c → lkP f c k < m ∧ f (512 + 10 * c + (3 + k)) = nI (lkP f c k) ∧ qp (lkP f c k) < m
def CHc (h : HI) (f : Nat → Int32) (c : Nat) : Prop := h 9 (c * 15 + 0) = f (512 + 10 * c + 0) ∧ h 9 (c * 15 + 1) = f (512 + 10 * c + 1) ∧ h 9 (c * 15 + 2) = nI (nCh f c) ∧ ∀ k, k < nCh f c → h 9 (c * 15 + (3 + 2 * k)) = nI (lkP f c k) ∧ h 9 (c * 15 + (4 + 2 * k)) = (if (oCh f c).testBit k = true then 1 else 0)
theorem CX.ch {h : HI} {f : Nat → Int32} (x : CX h f) {m mc c : Nat} (T : TT h 2 m 5 24) (em : f 0 = nI m) (U : TT h 8 mc 15 16) (ec : f 2 = nI mc) (hc : c < mc) : CHf f c id m ∧ CHc h f c := by
  have hm := T.2.2.2.1
  have hmc := U.2.2.2.1
  obtain ⟨a1, a2, a3, n, o, a4, a5, a6, a7, a8⟩ := CE.e3.mp (x.ci (j := 3) (by omega) U) c hc
  have a1 : h 9 (c * 15) = f (512 + c * 10) := a1
  have a2 : h 9 (c * 15 + 1) = f (512 + (c * 10 + 1)) := a2
  have a3 : h 9 (c * 15 + 2) = f (512 + (c * 10 + 2)) := a3
  have a8 : ∀ k, k < n → h 9 (c * 15 + (3 + 2 * k)) = f (512 + (c * 10 + (3 + k))) ∧ h 9 (c * 15 + (4 + 2 * k)) = (if o.testBit k then 1 else 0) := a8
  have n2 : 2 ^ n ≤ 2 ^ 6 := Nat.pow_le_pow_right (by decide) a4
  rw [a5] at a3
  rw [show 512 + (c * 10 + 2) = 512 + 10 * c + 2 by omega] at a5
  rw [show 512 + (c * 10 + 9) = 512 + 10 * c + 9 by omega] at a7
  have en : nCh f c = n := by unfold nCh; rw [a5, nI_clamp (by omega)]
  have eo : oCh f c = o := by unfold oCh; rw [a7, nI_clamp (by omega)]
  have pk : ∀ k, k < n → lkP f c k < m ∧ f (512 + 10 * c + (3 + k)) = nI (lkP f c k) := fun k hk => by
    have r := x.2.1.2.2 c mc k n ec hmc hc (by rw [show 512 + (c * 10 + 2) = 512 + 10 * c + 2 by omega]; exact a5) a4 hk
    rw [show 512 + (c * 10 + (3 + k)) = 512 + 10 * c + (3 + k) by omega] at r
    obtain ⟨t, ht, et⟩ := row_n r em (by omega)
    have : lkP f c k = t := by unfold lkP; rw [et, nI_clamp (by omega)]
    rw [this]; exact ⟨ht, et⟩
  unfold CHf CHc
  rw [en, eo]
  refine ⟨⟨a4, a5, a7, by omega, fun k hk => ⟨(pk k hk).1, (pk k hk).2, (pk k hk).1⟩⟩, ?_, ?_, a3, fun k hk => ⟨?_, (a8 k hk).2⟩⟩
  · rw [show 512 + 10 * c + 0 = 512 + c * 10 by omega, Nat.add_zero]; exact a1
  · rw [show 512 + 10 * c + 1 = 512 + (c * 10 + 1) by omega]; exact a2
  · rw [(a8 k hk).1, show 512 + (c * 10 + (3 + k)) = 512 + 10 * c + (3 + k) by omega]; exact (pk k hk).2
theorem CHc.jj {S : Nat → Prop} {h h' : HI} {f : Nat → Int32} {c : Nat} (x : CHc h f c) (J : JJ S h h') (n : ¬ S 9) : CHc h' f c := by
  unfold CHc; rw [J 9 n]; exact x
/-- the chain that was taken -/
def FTK (h : HI) (f : Nat → Int32) (c : Nat) (qp : Nat → Nat) : Prop := h 85 6 = nI c ∧ ((h 85 7 = 1 ∧ SZD f c qp (nCh f c)) ∨ (h 85 7 = 0 ∧ ¬ SZD f c qp (nCh f c))) ∧ ∀ k, k < nCh f c → h 86 k = nI (qp (lkP f c k)) ∧ h 87 k = fLo f (qp (lkP f c k)) ∧ h 88 k = fHi f (qp (lkP f c k))
