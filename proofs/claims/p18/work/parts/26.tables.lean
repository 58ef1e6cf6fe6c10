/-! THE TABLES, written -/
def pw (o w b c : Nat) (v : Int32) (h : HI) : HI := if c < w then hu h (o + 1) (b + c) v else h
theorem pw_ne {o w b c : Nat} {v : Int32} {h : HI} {q : Nat} (n : q ≠ o + 1) : pw o w b c v h q = h q := by
  unfold pw
  by_cases e : c < w
  · rw [if_pos e, hu_ne n]
  · rw [if_neg e]
theorem pw_in {o w b c d : Nat} {v : Int32} {h : HI} (hd : d < w) : pw o w b c v h (o + 1) (b + d) = if d = c then v else h (o + 1) (b + d) := by
  unfold pw
  by_cases e : c < w
  · rw [if_pos e, hu_eq]
    by_cases ed : d = c
    · subst ed; rw [pk_us, if_pos rfl]
    · rw [pk_un (by omega), if_neg ed]
  · rw [if_neg e, if_neg (by omega)]
theorem pw_out {o w b c k : Nat} {v : Int32} {h : HI} (hk : k < b ∨ b + w ≤ k) : pw o w b c v h (o + 1) k = h (o + 1) k := by
  unfold pw
  by_cases e : c < w
  · rw [if_pos e, hu_eq, pk_un (by omega)]
  · rw [if_neg e]
theorem p_putG {h : HI} {g : HL} {o m w M : Nat} (T : TT h o m w M) {a : Nat} (ha : a < m) (b : Nat) (hb : b < 100) {v : Int32} : w_X8_put o (nI a) (nI b) v h g (fun h' g' => h' = pw o w (a * w) b v h ∧ g = g') := by
  have hT := T
  obtain ⟨h1, h2, h3, hm, hN, hw0, hw, hM0, hM⟩ := T
  have hMw : M * w ≤ 100 * 20 := Nat.mul_le_mul hM hw
  unfold w_X8_put
  rw [h1, h3, hN]
  refine ⟨fun c => absurd c (nI_pos (by omega)), fun _ => ⟨fun c => absurd c (nI_ge ha (by omega)), fun _ => ⟨fun c => absurd c (nI_pos (by omega)), fun _ => ⟨fun c => ?_, fun c => ?_⟩⟩⟩⟩
  · have hb' : b < w := (nI_ltI (by omega) (by omega)).mp c
    have hlt : a * w + b < M * w := by
      have : (a + 1) * w ≤ M * w := Nat.mul_le_mul_right w (by omega)
      rw [Nat.add_mul, Nat.one_mul] at this
      omega
    intro x ex
    rw [pk_mul, nI_add] at ex
    subst ex
    refine ⟨fun c => absurd c (nI_ge hlt (by omega)), fun _ => ⟨vp_in_nI hlt (by omega), ?_⟩⟩
    intro h' e'
    rw [nI_clamp (by omega)] at e'
    unfold pw
    rw [if_pos hb']; exact ⟨e', rfl⟩
  · unfold pw
    rw [if_neg (fun q => c ((nI_ltI (by omega) (by omega)).mpr q))]; exact ⟨rfl, rfl⟩
def rowc (x1 x2 x3 x4 : Int32) (c : Nat) : Int32 := if c = 0 then x1 else if c = 1 then x2 else if c = 2 then x3 else if c = 3 then x4 else 0
theorem p_add {h : HI} {g : HL} {o m w M : Nat} (T : TT h o m w M) (hm : m < M) {x1 x2 x3 x4 : Int32} : w_X8_add o x1 x2 x3 x4 h g (fun r h' g' => nI m = r ∧ g = g' ∧ JJ (SB o) h h' ∧ TT h' o (m + 1) w M ∧ (∀ k, k < m * w ∨ m * w + w ≤ k → h' (o + 1) k = h (o + 1) k) ∧ ∀ c, c < w → h' (o + 1) (m * w + c) = rowc x1 x2 x3 x4 c) := by
  have hT := T
  obtain ⟨h1, h2, h3, hm', hN, hw0, hw, hM0, hM⟩ := T
  unfold w_X8_add
  rw [h2, h3]
  refine ⟨fun _ => ?_, fun c => absurd (nI_lt hm (by omega)) c⟩
  rintro _ rfl
  intro ha ea
  have T1 : TT ha o (m + 1) w M := by
    refine ⟨?_, ?_, ?_, by omega, hN, hw0, hw, hM0, hM⟩
    · rw [ea, hu_eq, pk_un (by decide)]; exact h1
    · rw [ea, hu_eq, pk_un (by decide)]; exact h2
    · rw [ea, hu_eq, pk_us]; exact nI_1 m
  have J1 : JJ (SB o) h ha := JJ.rf.hu ea (by unfold SB; omega)
  have K1 : ha (o + 1) = h (o + 1) := by rw [ea, hu_ne (by omega)]
  clear ea
  refine lpE_intro (fun q => ∃ j : Nat, 4 ≤ j ∧ (j ≤ 4 ∨ j ≤ w) ∧ x1 = q.1 ∧ x2 = q.2.1 ∧ x3 = q.2.2.1 ∧ x4 = q.2.2.2.1 ∧ nI m = q.2.2.2.2.1 ∧ nI j = q.2.2.2.2.2.1 ∧ g = q.2.2.2.2.2.2.2 ∧ JJ (SB o) h q.2.2.2.2.2.2.1 ∧ TT q.2.2.2.2.2.2.1 o (m + 1) w M ∧ (∀ k, k < m * w ∨ m * w + w ≤ k → q.2.2.2.2.2.2.1 (o + 1) k = h (o + 1) k) ∧ ∀ c, 4 ≤ c → c < j → q.2.2.2.2.2.2.1 (o + 1) (m * w + c) = 0) (fun q => dif (nI w) q.2.2.2.2.2.1) ?_ _ ⟨4, by omega, by omega, rfl, rfl, rfl, rfl, rfl, rfl, rfl, J1, T1, fun k _ => congrFun K1 k, fun c h4 h5 => absurd h4 (by omega)⟩
  clear T1 J1 K1
  rintro ⟨y1, y2, y3, y4, y5, y6, hb, gb⟩ K ⟨j, hj4, hjw, rfl, rfl, rfl, rfl, rfl, rfl, rfl, hJ, T1, ho, hz⟩ hK
  dsimp only at hJ T1 ho hz
  unfold F_X8_add_33; dsimp only; unfold b_X8_add_33
  rw [T1.1]
  refine ⟨fun c => ?_, fun c => ?_⟩
  · rw [nI_leI (by omega) (by omega)] at c
    refine c_v (p_putG T1 (a := m) (by omega) 0 (by omega)) ?_
    rintro hc _ ⟨ec, rfl⟩
    have Tc : TT hc o (m + 1) w M := T1.cg (by rw [ec, pw_ne (by omega)])
    refine c_v (p_putG Tc (a := m) (by omega) 1 (by omega)) ?_
    rintro hd _ ⟨ed, rfl⟩
    have Td : TT hd o (m + 1) w M := Tc.cg (by rw [ed, pw_ne (by omega)])
    refine c_v (p_putG Td (a := m) (by omega) 2 (by omega)) ?_
    rintro he _ ⟨ee, rfl⟩
    have Te : TT he o (m + 1) w M := Td.cg (by rw [ee, pw_ne (by omega)])
    refine c_v (p_putG Te (a := m) (by omega) 3 (by omega)) ?_
    rintro hf _ ⟨ef, rfl⟩
    have Tf : TT hf o (m + 1) w M := Te.cg (by rw [ef, pw_ne (by omega)])
    refine ⟨rfl, rfl, ?_, Tf, ?_, ?_⟩
    · intro q hq
      have n1 : q ≠ o + 1 := fun e => hq (by unfold SB; omega)
      rw [ef, pw_ne n1, ee, pw_ne n1, ed, pw_ne n1, ec, pw_ne n1]
      exact hJ q hq
    · intro k hk
      rw [ef, pw_out hk, ee, pw_out hk, ed, pw_out hk, ec, pw_out hk]
      exact ho k hk
    · intro c' hc'
      rw [ef, pw_in hc', ee, pw_in hc', ed, pw_in hc', ec, pw_in hc']
      unfold rowc
      by_cases e0 : c' = 0
      · subst e0; rfl
      by_cases e1 : c' = 1
      · subst e1; rfl
      by_cases e2 : c' = 2
      · subst e2; rfl
      by_cases e3 : c' = 3
      · subst e3; rfl
      rw [if_neg e3, if_neg e2, if_neg e1, if_neg e0, if_neg e0, if_neg e1, if_neg e2, if_neg e3]
      exact hz c' (by omega) (by omega)
  · have hd := dif_lt c
    rw [nI_leI (by omega) (by omega)] at c
    refine c_v (p_putG T1 (a := m) (by omega) j (by omega)) ?_
    rintro hc _ ⟨ec, rfl⟩
    have Tc : TT hc o (m + 1) w M := T1.cg (by rw [ec, pw_ne (by omega)])
    rintro _ rfl
    refine hK _ ⟨j + 1, by omega, by omega, rfl, rfl, rfl, rfl, rfl, (nI_1 j).symm, rfl, ?_, Tc, ?_, ?_⟩ hd
    · intro q hq
      dsimp only
      rw [ec, pw_ne (fun e => hq (by unfold SB; omega))]
      exact hJ q hq
    · intro k hk
      dsimp only
      rw [ec, pw_out hk]
      exact ho k hk
    · intro c' h4 h5
      dsimp only
      rw [ec, pw_in (by omega)]
      by_cases e : c' = j
      · rw [if_pos e]
      · rw [if_neg e]; exact hz c' h4 (by omega)
theorem p_addF {h : HI} {g : HL} {o m w M : Nat} (T : TT h o m w M) (hm : m = M) {x1 x2 x3 x4 : Int32} : w_X8_add o x1 x2 x3 x4 h g (fun r h' g' => -4 = r ∧ h = h' ∧ g = g') := by
  obtain ⟨h1, h2, h3, hm', hN, hw0, hw, hM0, hM⟩ := T
  unfold w_X8_add
  rw [h2, h3, hm]
  exact ⟨fun c => absurd c (nI_nlt (Nat.le_refl _) (by omega)), fun _ => ⟨rfl, rfl, rfl⟩⟩
/-- one table's rows taken over into another of the same make -/
theorem p_copy {h : HI} {g : HL} {o o1 m m1 w M : Nat} (T : TT h o m w M) (T1 : TT h o1 m1 w M) (hn : o ≠ o1 + 1) (hn1 : o1 ≠ o + 1) (hno : o ≠ o1) : w_X8_copy o o1 h g (fun h' g' => g = g' ∧ JJ (SB o) h h' ∧ TT h' o m1 w M ∧ ∀ k, k < m1 * w → h' (o + 1) k = h (o1 + 1) k) := by
  have hT := T
  obtain ⟨h1, h2, h3, hm, hN, hw0, hw, hM0, hM⟩ := T
  obtain ⟨k1, k2, k3, km, kN, -, -, -, -⟩ := T1
  have hMw : M * w ≤ 100 * 20 := Nat.mul_le_mul hM hw
  have hlt : m1 * w ≤ M * w := Nat.mul_le_mul_right w km
  unfold w_X8_copy
  rw [k3, k1, h1, hN, kN, pk_mul]
  rintro _ rfl
  refine ⟨fun c => absurd rfl c, fun _ => ⟨fun c => absurd c (nI_pos (by omega)), fun _ => ⟨fun c => absurd c (nI_nlt hlt (by omega)), fun _ => ⟨fun _ => ?_, fun c => absurd (nI_le hlt (by omega)) c⟩⟩⟩⟩
  have e0 : (0 : Int32).toNatClampNeg = 0 := by decide
  refine ⟨⟨by decide, by decide, nI_pos (by omega), by rw [nI_clamp (by omega), e0]; omega, by rw [nI_clamp (by omega), e0]; omega⟩, ?_⟩
  rw [nI_clamp (by omega), e0]
  intro ha ea
  intro hb eb
  have eo : ha o1 = h o1 := by rw [ea, hua_ne hn1.symm.symm]
  refine ⟨rfl, (JJ.rf.hua ea (by unfold SB; omega)).hu eb (by unfold SB; omega), ⟨?_, ?_, ?_, by omega, hN, hw0, hw, hM0, hM⟩, ?_⟩
  · rw [eb, hu_eq, pk_un (by decide), ea, hua_ne (by omega)]; exact h1
  · rw [eb, hu_eq, pk_un (by decide), ea, hua_ne (by omega)]; exact h2
  · rw [eb, hu_eq, pk_us, eo]; exact k3
  · intro k hk
    rw [eb, hu_ne (by omega), ea, hua_eq, pk_cpy_in (by omega) (by omega)]
    congr 1; omega
theorem p_empty {h : HI} {g : HL} {o m w M : Nat} (T : TT h o m w M) : w_X8_empty o h g (fun h' g' => g = g' ∧ JJ (SO o) h h' ∧ TT h' o 0 w M) := by
  obtain ⟨h1, h2, h3, hm, hN, hw0, hw, hM0, hM⟩ := T
  unfold w_X8_empty
  intro ha ea
  refine ⟨rfl, JJ.rf.hu ea (by unfold SO; rfl), ?_, ?_, ?_, by omega, hN, hw0, hw, hM0, hM⟩
  · rw [ea, hu_eq, pk_un (by decide)]; exact h1
  · rw [ea, hu_eq, pk_un (by decide)]; exact h2
  · rw [ea, hu_eq, pk_us, nI_0]
