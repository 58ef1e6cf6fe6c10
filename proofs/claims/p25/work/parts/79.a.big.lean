/-! BIG NUMBERS OF THE CLASS: o its fields, behind it its digits -/
theorem lN_and (a b : Nat) : lN a &&& lN b = lN (a &&& b) := by
  unfold lN
  apply Int64.toBitVec_inj.mp
  rw [Int64.toBitVec_and]
  show BitVec.ofNat 64 a &&& BitVec.ofNat 64 b = BitVec.ofNat 64 (a &&& b)
  apply BitVec.eq_of_toNat_eq
  rw [BitVec.toNat_and, BitVec.toNat_ofNat, BitVec.toNat_ofNat, BitVec.toNat_ofNat, Nat.and_mod_two_pow]
theorem lN_mask (a : Nat) : lN a &&& (1073741823 : Int64) = lN (a % 1073741824) := by
  rw [show (1073741823 : Int64) = lN (2 ^ 30 - 1) from rfl, lN_and, Nat.and_two_pow_sub_one_eq_mod]
theorem lN_shr {a : Nat} (h : a < 2 ^ 63) : lN a >>> ((30 : Int32).toInt64 &&& 63) = lN (a / 1073741824) := by
  have h2 : a / 1073741824 ≤ a := Nat.div_le_self _ _
  apply Int64.toInt_inj.mp
  show ((lN a).toBitVec.sshiftRight (((30 : Int32).toInt64 &&& 63).toBitVec.smod 64).toNat).toInt = _
  rw [show (((30 : Int32).toInt64 &&& 63).toBitVec.smod 64).toNat = 30 by decide, BitVec.toInt_sshiftRight]
  show (lN a).toInt >>> 30 = _
  rw [pk_lT h, pk_lT (by omega), Int.shiftRight_eq_div_pow]
  rfl
def GC (h : HI) (o W v : Nat) : Prop := h o 1 = nI W ∧ dgs (h (o + 1)) 0 W ∧ vl (h (o + 1)) 0 W = v ∧ 1 ≤ W ∧ ∀ V, W = V + 1 → ¬ h (o + 1) (0 + V) = 0
theorem GC.fr {h h' : HI} {o q W v : Nat} (x : GC h q W v) (J : JJ (SB o) h h') (n : ¬ SB o q ∧ ¬ SB o (q + 1)) : GC h' q W v := by
  unfold GC
  rw [J q n.1, J (q + 1) n.2]; exact x
theorem GC.jj {S : Nat → Prop} {h h' : HI} {q W v : Nat} (x : GC h q W v) (J : JJ S h h') (n : ¬ S q ∧ ¬ S (q + 1)) : GC h' q W v := by
  unfold GC
  rw [J q n.1, J (q + 1) n.2]; exact x
theorem vl_top {f : Nat → Int32} {b n : Nat} (d : dgs f b (n + 1)) (hv : 2 ^ (30 * n) ≤ vl f b (n + 1)) : ¬ f (b + n) = 0 := fun e => by
  have h := vl_lt (n := n) (f := f) (b := b) (fun k hk => d k (by omega))
  unfold vl at hv
  rw [e, cl0, Nat.zero_mul, Nat.add_zero] at hv
  omega
theorem GC.lo {h : HI} {o W v : Nat} (x : GC h o W v) : ∃ V, W = V + 1 ∧ 2 ^ (30 * V) ≤ v ∧ v < 2 ^ (30 * W) := by
  obtain ⟨-, d, e, h1, z⟩ := x
  obtain ⟨V, rfl⟩ : ∃ V, W = V + 1 := ⟨W - 1, by omega⟩
  refine ⟨V, rfl, ?_, ?_⟩
  · rw [← e]; exact vl_le d (z V rfl)
  · rw [← e]; exact vl_lt d
theorem GC.wle {h : HI} {o W v m : Nat} (x : GC h o W v) (hv : v < 2 ^ (30 * m)) : W ≤ m := by
  obtain ⟨V, rfl, h1, -⟩ := x.lo
  by_cases c : V + 1 ≤ m
  · exact c
  · have h3 : 2 ^ (30 * m) ≤ 2 ^ (30 * V) := Nat.pow_le_pow_right (by omega) (by omega)
    omega
theorem q_X0_set {h : HI} {g : HL} {o v : Nat} (hv : 1 ≤ v ∧ v < 1073741824) : w_X0_set o (nI v) h g (fun h' g' => g = g' ∧ JJ (SB o) h h' ∧ GC h' o 1 v) := by
  unfold w_X0_set
  rw [cl0]
  refine and_have (vp_in_iff.mpr (by decide)) (fun _ => ?_)
  intro h1 e1 h2 e2
  have ea : h2 (o + 1) = upd (h (o + 1)) 0 (nI v) := by rw [e2, hu_ne (by omega), e1, hu_eq]
  refine ⟨rfl, (JJ.rf.hu e1 (by unfold SB; omega)).hu e2 (by unfold SB; omega), by rw [e2, hu_eq, pk_us]; rfl, ?_, ?_, by omega, fun V hV => ?_⟩
  · intro k hk
    have : k = 0 := by omega
    subst this
    exact ⟨v, hv.2, by rw [ea]; exact pk_us⟩
  · unfold vl vl
    rw [ea, pk_us, nI_clamp (by omega), Nat.mul_zero, Nat.pow_zero, Nat.mul_one, Nat.zero_add]
  · have : V = 0 := by omega
    subst this
    rw [ea, pk_us]
    exact nI_ne0 (by omega) (by omega)
set_option maxHeartbeats 1000000 in
theorem q_X0_times {h : HI} {g : HL} {o W v B : Nat} (G : GC h o W v) (hW : W ≤ 69) (hB : 1 ≤ B ∧ B < 1073741824) : w_X0_times o (nI B) h g (fun h' g' => g = g' ∧ JJ (SB o) h h' ∧ ∃ W', W' ≤ W + 1 ∧ GC h' o W' (v * B)) := by
  obtain ⟨V0, hV0, lo, -⟩ := G.lo
  obtain ⟨h7, hd, hv, hw1, hz⟩ := G
  unfold w_X0_times
  refine lpE_intro (fun ⟨a_q, b_q, c_q, h_q, g_q⟩ => ∃ k c : Nat, k ≤ W ∧ c ≤ B ∧ nI B = a_q ∧ lN c = b_q ∧ nI k = c_q ∧ g = g_q ∧ JJ (SB o) h h_q ∧ h_q o = h o ∧ dgs (h_q (o + 1)) 0 k ∧ (∀ j, k ≤ j → h_q (o + 1) (0 + j) = h (o + 1) (0 + j)) ∧ vl (h_q (o + 1)) 0 k + c * 2 ^ (30 * k) = vl (h (o + 1)) 0 k * B) (fun ⟨_, _, c_q, _, _⟩ => dif (nI W) c_q) ?_ _ ⟨0, 0, by omega, by omega, rfl, rfl, nI_0, rfl, JJ.rf, rfl, fun k hk => absurd hk (Nat.not_lt_zero k), fun _ _ => rfl, by unfold vl; omega⟩
  rintro ⟨y1, y2, y3, h2, g2⟩ K ⟨k, c, hk, hc, rfl, rfl, rfl, rfl, J2, eo, hd2, hsame, hval⟩ hK
  unfold F_X0_times_5; dsimp only; unfold b_X0_times_5
  have n70 : ¬ (70 : Int32) ≤ nI k := fun q => by
    rw [show (70 : Int32) = nI 70 from rfl, nI_leI (by omega) (by omega)] at q; omega
  rw [eo, h7]
  refine ⟨fun cw => ?_, fun cw => ⟨fun q => absurd q n70, fun _ => ?_⟩⟩
  · have ek : k = W := by
      rw [nI_leI (by omega) (by omega)] at cw; omega
    subst ek
    rw [hv] at hval
    unfold j_X0_times_59
    refine ⟨fun cc => ?_, fun cc => ?_⟩
    · rw [lg_cmp_le, show (0 : Int64) = lN 0 from rfl, pk_lLE (by omega) (by omega)] at cc
      have c0 : c = 0 := by omega
      subst c0
      have hval : vl (h2 (o + 1)) 0 k = v * B := by omega
      refine ⟨rfl, J2, k, by omega, by rw [eo]; exact h7, hd2, hval, hw1, fun V hV => ?_⟩
      subst hV
      have e0 : V = V0 := by omega
      subst e0
      refine vl_top hd2 ?_
      rw [hval]
      exact Nat.le_trans lo (Nat.le_mul_of_pos_right v (by omega))
    · rw [lg_cmp_le, show (0 : Int64) = lN 0 from rfl, pk_lLE (by omega) (by omega)] at cc
      rw [eo, h7]
      refine c_wb (fun q => ⟨fun a => absI a, fun _ => ?_⟩) (fun q => absurd (bd_of (n := k) (by omega) (by rw [i0]; omega) (by rw [show (69 : Int32).toInt = 69 by decide]; omega)) q)
      rw [eo, h7, nI_clamp (by omega), lN_i]
      refine and_have (vp_in_nI (by omega) (by omega)) (fun _ => ?_)
      intro h3 e3
      intro h4 e4
      have e3o : h3 o 1 = nI k := by rw [e3, hu_ne (by omega), eo]; exact h7
      rw [e3o, show nI k + (1 : Int32) = nI (k + 1) from nI_1 k] at e4
      have ea : h4 (o + 1) = upd (h2 (o + 1)) k (nI c) := by rw [e4, hu_ne (by omega), e3, hu_eq]
      have dg : dgs (h4 (o + 1)) 0 (k + 1) := fun i hi => by
        rw [ea, Nat.zero_add]
        by_cases e : i = k
        · subst e; rw [pk_us]; exact ⟨c, by omega, rfl⟩
        · rw [pk_un e]
          have := hd2 i (by omega)
          rw [Nat.zero_add] at this; exact this
      have val : vl (h4 (o + 1)) 0 (k + 1) = v * B := by
        unfold vl
        rw [ea, Nat.zero_add, pk_us, nI_clamp (by omega), vl_cg (f := h2 (o + 1)) (fun i hi => pk_un (by omega)), hval]
      refine ⟨rfl, (J2.hu e3 (by unfold SB; omega)).hu e4 (by unfold SB; omega), k + 1, by omega, by rw [e4, hu_eq, pk_us], dg, val, by omega, fun V hV => ?_⟩
      have : V = k := by omega
      subst this
      rw [ea, Nat.zero_add, pk_us]
      exact nI_ne0 (by omega) (by omega)
  · have hd3 := dif_lt cw
    have hkW : k < W := by
      rw [nI_leI (by omega) (by omega)] at cw; omega
    obtain ⟨j, hj, ej⟩ := hd k hkW
    rw [nI_clamp (by omega)]
    have hs := hsame k (Nat.le_refl _)
    rw [ej, Nat.zero_add] at hs
    have hjB : j * B ≤ 1073741823 * 1073741823 := Nat.mul_le_mul (by omega) (by omega)
    refine and_have (vp_in_nI (by omega) (by omega)) (fun _ => ?_)
    rw [hs, nI_l (by omega), nI_l (by omega), lN_mul, lN_add]
    rintro _ rfl
    rw [lN_mask, lN_shr (by omega), lN_i]
    refine and_have (vp_in_nI (by omega) (by omega)) (fun _ => ?_)
    intro h3 e3
    rintro _ rfl
    rintro _ rfl
    rw [Nat.add_comm c (j * B)] at e3 ⊢
    have hm := Nat.mod_lt (j * B + c) (y := 1073741824) (by omega)
    have hdm := Nat.div_add_mod (j * B + c) 1073741824
    have ea : h3 (o + 1) = upd (h2 (o + 1)) k (nI ((j * B + c) % 1073741824)) := by rw [e3, hu_eq]
    have hjc : j * B + c ≤ 1073741823 * B + B := by
      have : j * B ≤ 1073741823 * B := Nat.mul_le_mul_right _ (by omega)
      omega
    have hcB : (j * B + c) / 1073741824 ≤ B := Nat.div_le_of_le_mul (by omega)
    refine hK _ ⟨k + 1, (j * B + c) / 1073741824, by omega, hcB, rfl, rfl, (nI_1 k).symm, rfl, J2.hu e3 (by unfold SB; omega), by rw [e3, hu_ne (by omega)]; exact eo, fun i hi => ?_, fun i hi => ?_, ?_⟩ hd3
    · rw [ea, Nat.zero_add]
      by_cases ei : i = k
      · subst ei; rw [pk_us]; exact ⟨_, hm, rfl⟩
      · rw [pk_un ei]
        have := hd2 i (by omega)
        rw [Nat.zero_add] at this; exact this
    · rw [ea, pk_un (by omega)]; exact hsame i (by omega)
    · unfold vl
      rw [ea, Nat.zero_add, pk_us, nI_clamp (by omega), vl_cg (f := h2 (o + 1)) (fun i hi => pk_un (by omega))]
      rw [Nat.zero_add] at ej
      rw [ej, nI_clamp (by omega), p30, Nat.add_mul, ← hval]
      have e5 : (j * B + c) / 1073741824 * (1073741824 * 2 ^ (30 * k)) = (1073741824 * ((j * B + c) / 1073741824)) * 2 ^ (30 * k) := by
        rw [← Nat.mul_assoc, Nat.mul_comm ((j * B + c) / 1073741824) 1073741824]
      have e6 : j * 2 ^ (30 * k) * B = j * B * 2 ^ (30 * k) := by
        rw [Nat.mul_assoc, Nat.mul_comm (2 ^ (30 * k)) B, ← Nat.mul_assoc]
      have e7 : (j * B + c) * 2 ^ (30 * k) = (1073741824 * ((j * B + c) / 1073741824)) * 2 ^ (30 * k) + (j * B + c) % 1073741824 * 2 ^ (30 * k) := by
        rw [← Nat.add_mul, hdm]
      rw [Nat.add_mul] at e7
      rw [e5, e6]
      omega
theorem GC.lt {h : HI} {o q W v U u : Nat} (x : GC h o W v) (y : GC h q U u) (k : W < U) : v < u := by
  obtain ⟨-, -, -, h1⟩ := x.lo
  obtain ⟨V, rfl, h2, -⟩ := y.lo
  have h3 : 2 ^ (30 * W) ≤ 2 ^ (30 * V) := Nat.pow_le_pow_right (by omega) (by omega)
  omega
theorem q_X0_above {h : HI} {g : HL} {o q W U v u : Nat} (x : GC h o W v) (y : GC h q U u) (hW : W ≤ 70) (hU : U ≤ 70) : w_X0_above o q h g (fun r h' g' => h = h' ∧ g = g' ∧ ((r = 1 ∧ u < v) ∨ (r = 0 ∧ v ≤ u))) := by
  unfold w_X0_above
  rw [x.1, y.1]
  refine ⟨fun c => ?_, fun c => ?_⟩
  · have e : W = U := (nI_eq (by omega) (by omega)).mp c
    subst e
    rintro _ rfl
    have fin : ∀ (a b : Nat → Int32) (k A B : Nat), dgs a 0 (k + 1) → vl a 0 (k + 1) + B = vl b 0 (k + 1) + A → ∀ i j : Nat, a (0 + k) = nI i → b (0 + k) = nI j → i < 1073741824 → j < 1073741824 → i < j → A < B := by
      intro a b k A B d hv i j ei ej hi hj hij
      have l1 := vl_lt (n := k) (f := a) (b := 0) (fun q hq => d q (by omega))
      unfold vl at hv
      rw [ei, ej, nI_clamp (by omega), nI_clamp (by omega)] at hv
      have h2 : (i + 1) * 2 ^ (30 * k) ≤ j * 2 ^ (30 * k) := Nat.mul_le_mul_right _ (by omega)
      rw [Nat.add_mul, Nat.one_mul] at h2
      omega
    refine lpE_intro (fun ⟨a_q, h_q, g_q⟩ => ∃ k : Nat, k ≤ W ∧ nI k - 1 = a_q ∧ h = h_q ∧ g = g_q ∧ vl (h (o + 1)) 0 k + u = vl (h (q + 1)) 0 k + v) (fun ⟨a_q, _, _⟩ => prd a_q) ?_ _ ⟨W, Nat.le_refl _, rfl, rfl, rfl, by rw [x.2.2.1, y.2.2.1]; omega⟩
    rintro ⟨y1, h1, g1⟩ K ⟨k, hk, rfl, rfl, rfl, hv⟩ hK
    unfold F_X0_above_35; dsimp only; unfold b_X0_above_35
    refine ⟨fun c0 => ?_, fun c0 => ?_⟩
    · have k0 : k = 0 := by
        by_cases z : k = 0
        · exact z
        · exfalso
          obtain ⟨j, rfl⟩ : ∃ j, k = j + 1 := ⟨k - 1, by omega⟩
          rw [nI_pred] at c0
          exact nI_pos (by omega) c0
      subst k0
      unfold vl at hv
      exact ⟨rfl, rfl, .inr ⟨rfl, by omega⟩⟩
    · obtain ⟨j, rfl⟩ : ∃ j, k = j + 1 := ⟨k - 1, by
        have : k ≠ 0 := fun z => c0 (by rw [z]; decide)
        omega⟩
      have hd := prd_lt c0
      rw [nI_pred] at hd
      rw [nI_pred, nI_clamp (by omega)]
      have vj : vp_in (nI j) 70 := vp_in_nI (by omega) (by omega)
      obtain ⟨a, ha, ea⟩ := x.2.1 j (by omega)
      obtain ⟨b, hb, eb⟩ := y.2.1 j (by omega)
      have ea0 := ea
      have eb0 := eb
      rw [Nat.zero_add] at ea eb
      rw [ea, eb]
      refine ⟨fun z => ?_, fun _ => ⟨vj, vj, fun ce => ?_, fun ce => ⟨vj, vj, fun cl => ?_, fun cl => ?_⟩⟩⟩
      · rw [show (70 : Int32) = nI 70 from rfl, nI_leI (by omega) (by omega)] at z; omega
      · rintro _ rfl
        refine hK _ ⟨j, by omega, by
          cases j with
          | zero => decide
          | succ i => rw [nI_pred, pk_m1], rfl, rfl, ?_⟩ (by dsimp only; rw [nI_pred]; exact hd)
        unfold vl at hv
        rw [ea0, eb0, ce] at hv
        omega
      · rw [nI_leI (by omega) (by omega)] at cl
        have ab : a ≠ b := fun z => ce (by rw [z])
        refine ⟨rfl, rfl, .inr ⟨rfl, ?_⟩⟩
        have := fin (h (o + 1)) (h (q + 1)) j v u (fun i hi => x.2.1 i (by omega)) hv a b ea0 eb0 ha hb (by omega)
        omega
      · rw [nI_leI (by omega) (by omega)] at cl
        refine ⟨rfl, rfl, .inl ⟨rfl, ?_⟩⟩
        exact fin (h (q + 1)) (h (o + 1)) j u v (fun i hi => y.2.1 i (by omega)) hv.symm b a eb0 ea0 hb ha (by omega)
  · refine ⟨fun cl => ?_, fun cl => ?_⟩
    · rw [nI_leI (by omega) (by omega)] at cl
      have : W ≠ U := fun z => c (by rw [z])
      have := x.lt y (by omega)
      exact ⟨rfl, rfl, .inr ⟨rfl, by omega⟩⟩
    · rw [nI_leI (by omega) (by omega)] at cl
      exact ⟨rfl, rfl, .inl ⟨rfl, y.lt x (by omega)⟩⟩
