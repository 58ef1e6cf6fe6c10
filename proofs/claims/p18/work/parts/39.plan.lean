/-! THE PLAN of the reference, and its digest -/
theorem p_X11_isThere {h : HI} {g : HL} (hR : RI (h 136)) {x1 x2 : Int32} : w_X11_isThere x1 x2 h g (fun r h' g' => h = h' ∧ g = g' ∧ (r = 0 ∨ bd 0 2 x1)) := by
  unfold w_X11_isThere
  refine c_is (vp_in_iff.mpr (by decide)) hR.c7 (by decide) (fun q q1 => ⟨fun c => absI c, fun _ => ?_⟩) (fun q => ⟨fun _ => ⟨rfl, rfl, .inl rfl⟩, fun c => absN c⟩)
  have q2 : bd 0 2 x1 := q.mo (by decide) (by decide)
  exact ⟨vp_bd (bd_add (bd_add (bd_lit (n := 817) (by decide)) (bd_mul (n := 2) (by decide) q2 (by decide) (by decide) (by decide)) (by decide) (by decide)) (bd_lit (n := 1) (by decide)) (by decide) (by decide)) (by decide) (by decide), fun _ => ⟨rfl, rfl, .inl rfl⟩, fun _ => ⟨rfl, rfl, .inr q2⟩⟩
theorem p_X11_canOf {h : HI} {g : HL} {x0 x1 : Int32} : w_X11_canOf x0 x1 h g (fun _ h' g' => h = h' ∧ g = g') := by
  unfold w_X11_canOf
  exact ⟨rfl, rfl⟩
/-- a lesson that is taught to one of three -/
def okC (c : Nat) : Prop := c < 48 ∧ c % 4 ≤ 2
theorem p_X11_mayTeach {h : HI} {g : HL} (hR : RI (h 136)) {x1 x2 : Int32} {c : Nat} (hc : c < 48) : w_X11_mayTeach x1 x2 (nI c) h g (fun r h' g' => h = h' ∧ g = g' ∧ (r = 0 ∨ okC c)) := by
  unfold w_X11_mayTeach
  rintro _ rfl
  rintro _ rfl
  rw [show (4 : Int32) = nI 4 from rfl, pk_rem (by omega) (by omega) (by omega)]
  rintro _ rfl
  refine ⟨fun _ => ⟨rfl, rfl, .inl rfl⟩, fun _ => ?_⟩
  refine c_z (p_X11_isThere hR) ?_
  rintro r1 _ _ ⟨rfl, rfl, -⟩
  refine ⟨fun _ => ⟨rfl, rfl, .inl rfl⟩, fun _ => ?_⟩
  refine c_z (p_X11_isThere hR) ?_
  rintro r2 _ _ ⟨rfl, rfl, h2⟩
  refine ⟨fun _ => ⟨rfl, rfl, .inl rfl⟩, fun c2 => ?_⟩
  have ok : okC c := by
    refine ⟨hc, ?_⟩
    rcases h2 with e | e
    · exact absurd e c2
    · unfold bd at e
      rw [nI_toInt (by omega)] at e
      omega
  refine c_i p_X11_canOf ?_
  rintro r3 _ _ ⟨rfl, rfl⟩
  refine ⟨fun _ => ⟨rfl, rfl, .inl rfl⟩, fun _ => ?_⟩
  refine c_i p_X11_canOf ?_
  rintro r4 _ _ ⟨rfl, rfl⟩
  exact ⟨fun _ => ⟨rfl, rfl, .inl rfl⟩, fun _ => ⟨rfl, rfl, .inr ok⟩⟩
theorem shl12 : ∀ j : Nat, j < 12 → (1 : Int32) <<< (nI j &&& 31) = nI (2 ^ j) := by decide +kernel
/-- who can what, when a lesson is through -/
theorem nxt {can c : Nat} (hcan : can < 4096) (hc : okC c) : ∃ t : Nat, t < 4096 ∧ (1 : Int32) <<< (((4 : Int32) * (nI c - nI c / (4 : Int32) * (4 : Int32)) + (nI c / (4 : Int32) - nI c / (4 : Int32) / (4 : Int32) * (4 : Int32))) &&& 31) = nI t ∧ can ||| t < 4096 := by
  have h1 := hc.1
  have h2 := hc.2
  have h3 := Nat.mod_lt (c / 4) (y := 4) (by omega)
  refine ⟨2 ^ (4 * (c % 4) + c / 4 % 4), ?_, ?_, ?_⟩
  · have : 2 ^ (4 * (c % 4) + c / 4 % 4) ≤ 2 ^ 11 := Nat.pow_le_pow_right (by omega) (by omega)
    omega
  · rw [show (4 : Int32) = nI 4 from rfl, pk_rem (by omega) (by omega) (by omega), pk_div (by omega) (by omega) (by omega), pk_rem (by omega) (by omega) (by omega), pk_mul, nI_add]
    exact shl12 _ (by omega)
  · have : 2 ^ (4 * (c % 4) + c / 4 % 4) < 2 ^ 12 := Nat.pow_lt_pow_right (by omega) (by omega)
    exact Nat.or_lt_two_pow (n := 12) hcan this
theorem p_X11_worth {h : HI} {g : HL} (hR : RI (h 136)) {can y : Nat} {x3 : Int32} (hcan : can < 4096) (hy : y ≤ 7) (hx : x3 = -1 ∨ ∃ c, okC c ∧ x3 = nI c) : w_X11_worth (nI can) (nI y) x3 h g (fun _ h' g' => h = h' ∧ g = g') := by
  have j150 : ∀ (t : Nat) (x5 : Int32), t < 4096 → j_X11_worth_150 (fun _ h' g' => h = h' ∧ g = g') (nI y) x5 (nI t) h g := by
    intro t x5 ht
    unfold j_X11_worth_150
    refine ⟨?_, rfl, rfl⟩
    rw [nI_1, show (4096 : Int32) * nI (y + 1) = nI (4096 * (y + 1)) from pk_mul 4096 (y + 1), nI_add]
    exact vp_in_nI (by omega) (by omega)
  unfold w_X11_worth
  refine lpE_intro (fun ⟨a_q, b_q, c_q, _, e_q, h_q, g_q⟩ => ∃ k : Nat, k ≤ 3 ∧ nI can = a_q ∧ nI y = b_q ∧ x3 = c_q ∧ nI k = e_q ∧ h = h_q ∧ g = g_q) (fun ⟨_, _, _, _, e_q, _, _⟩ => dif (nI 3) e_q) ?_ _ ⟨0, by omega, rfl, rfl, rfl, nI_0, rfl, rfl⟩
  rintro ⟨z1, z2, z3, z4, z5, h1, g1⟩ K ⟨k, hk, rfl, rfl, rfl, rfl, rfl, rfl⟩ hK
  unfold F_X11_worth_6; dsimp only; unfold b_X11_worth_6
  refine ⟨fun _ => ?_, fun c => ?_⟩
  · refine lpE_intro (fun ⟨a_q, b_q, c_q, _, _, f_q, h_q, g_q⟩ => ∃ k : Nat, k ≤ 4 ∧ nI can = a_q ∧ nI y = b_q ∧ x3 = c_q ∧ nI k = f_q ∧ h = h_q ∧ g = g_q) (fun ⟨_, _, _, _, _, f_q, _, _⟩ => dif (nI 4) f_q) ?_ _ ⟨0, by omega, rfl, rfl, rfl, nI_0, rfl, rfl⟩
    rintro ⟨u1, u2, u3, u4, u5, u6, h2, g2⟩ K2 ⟨i, hi, rfl, rfl, rfl, rfl, rfl, rfl⟩ hK2
    unfold F_X11_worth_83; dsimp only; unfold b_X11_worth_83
    refine ⟨fun _ => ⟨fun cn => ?_, fun _ => j150 can _ hcan⟩, fun c => ?_⟩
    · rcases hx with e | ⟨c, hc, rfl⟩
      · exact absurd e cn
      · obtain ⟨t, t1, t2, t3⟩ := nxt hcan hc
        rw [t2, nI_or]
        exact j150 _ _ t3
    · have hd := dif_lt (a := nI 4) c
      rw [show (4 : Int32) = nI 4 from rfl, nI_leI (by omega) (by omega)] at c
      have j117 : ∀ a b d : Int32, j_X11_worth_117 (fun _ h' g' => h = h' ∧ g = g') (fun x1 x2 x3 x4 x5 x6 h g => K2 (x1, x2, x3, x4, x5, x6, h, g)) (nI can) (nI y) x3 a (nI i) b d h g := by
        intro a b d
        unfold j_X11_worth_117
        rintro _ rfl
        rintro _ rfl
        exact hK2 _ ⟨i + 1, by omega, rfl, rfl, rfl, (nI_1 i).symm, rfl, rfl⟩ hd
      refine ⟨fun _ => j117 _ _ _, fun _ => ⟨?_, j117 _ _ _⟩⟩
      rw [show (823 : Int32) + nI i = nI (823 + i) from nI_add 823 i]
      exact vp_in_nI (by omega) (by omega)
  · have hd := dif_lt (a := nI 3) c
    rw [show (3 : Int32) = nI 3 from rfl, nI_leI (by omega) (by omega)] at c
    have j68 : ∀ a b : Int32, j_X11_worth_68 (fun _ h' g' => h = h' ∧ g = g') (fun x1 x2 x3 x4 x5 h g => K (x1, x2, x3, x4, x5, h, g)) (nI can) (nI y) x3 (nI k) a b h g := by
      intro a b
      unfold j_X11_worth_68
      rintro _ rfl
      rintro _ rfl
      exact hK _ ⟨k + 1, by omega, rfl, rfl, rfl, (nI_1 k).symm, rfl, rfl⟩ hd
    have j67 : ∀ a : Int32, j_X11_worth_67 (fun _ h' g' => h = h' ∧ g = g') (fun x1 x2 x3 x4 x5 h g => K (x1, x2, x3, x4, x5, h, g)) (nI can) (nI y) x3 (nI k) a h g := by
      intro a
      unfold j_X11_worth_67; exact j68 _ _
    have j39 : ∀ a b : Int32, j_X11_worth_39 (fun _ h' g' => h = h' ∧ g = g') (fun x1 x2 x3 x4 x5 h g => K (x1, x2, x3, x4, x5, h, g)) (nI can) (nI y) x3 a (nI k) b h g := by
      intro a b
      unfold j_X11_worth_39
      refine c_z (p_X11_isThere hR) ?_
      rintro r1 _ _ ⟨rfl, rfl, -⟩
      refine ⟨fun _ => j67 _, fun _ => ⟨fun _ => j67 _, fun _ => ?_⟩⟩
      refine c_i p_X11_canOf ?_
      rintro r3 _ _ ⟨rfl, rfl⟩
      exact j68 _ _
    have j38 : ∀ a : Int32, j_X11_worth_38 (fun _ h' g' => h = h' ∧ g = g') (fun x1 x2 x3 x4 x5 h g => K (x1, x2, x3, x4, x5, h, g)) (nI can) (nI y) x3 a (nI k) h g := by
      intro a
      unfold j_X11_worth_38; exact j39 _ _
    have j34 : ∀ a : Int32, j_X11_worth_34 (fun _ h' g' => h = h' ∧ g = g') (fun x1 x2 x3 x4 x5 h g => K (x1, x2, x3, x4, x5, h, g)) (nI can) (nI y) x3 a (nI k) h g := by
      intro a
      unfold j_X11_worth_34; exact j39 _ _
    exact ⟨fun _ => j38 _, fun _ => ⟨fun _ => j34 _, fun _ => ⟨fun _ => j38 _, fun _ => j34 _⟩⟩⟩
theorem p_X11_choice {h : HI} {g : HL} (hR : RI (h 136)) {can y : Nat} (hcan : can < 4096) (hy : y ≤ 7) : w_X11_choice (nI can) (nI y) h g (fun r h' _ => KJ SPm h h' ∧ (r = -1 ∨ ∃ c, okC c ∧ r = nI c)) := by
  unfold w_X11_choice
  refine c_i (p_X11_worth hR hcan hy (.inl rfl)) ?_
  rintro r1 _ _ ⟨rfl, rfl⟩
  refine lpE_intro (fun ⟨a_q, b_q, _, d_q, e_q, h_q, g_q⟩ => ∃ k : Nat, k ≤ 48 ∧ nI can = a_q ∧ nI y = b_q ∧ nI k = e_q ∧ h = h_q ∧ g = g_q ∧ (d_q = -1 ∨ ∃ c, okC c ∧ d_q = nI c)) (fun ⟨_, _, _, _, e_q, _, _⟩ => dif (nI 48) e_q) ?_ _ ⟨0, by omega, rfl, rfl, nI_0, rfl, rfl, .inl rfl⟩
  rintro ⟨z1, z2, z3, z4, z5, h1, g1⟩ K ⟨k, hk, rfl, rfl, rfl, rfl, rfl, h4⟩ hK
  unfold F_X11_choice_14; dsimp only; unfold b_X11_choice_14
  refine ⟨fun _ => ?_, fun c => ?_⟩
  · rw [show (4096 : Int32) * nI y = nI (4096 * y) from pk_mul 4096 y, nI_add]
    refine and_have (vp_in_nI (by omega) (by omega)) (fun _ => ?_)
    intro h2 e2
    exact ⟨KJ.rf.hu e2 (by unfold SPm; rfl), h4⟩
  · have hd := dif_lt (a := nI 48) c
    rw [show (48 : Int32) = nI 48 from rfl, nI_leI (by omega) (by omega)] at c
    have j57 : ∀ a b : Int32, (b = -1 ∨ ∃ c, okC c ∧ b = nI c) → j_X11_choice_57 (fun r h' _ => KJ SPm h h' ∧ (r = -1 ∨ ∃ c, okC c ∧ r = nI c)) (fun x1 x2 x3 x4 x5 h g => K (x1, x2, x3, x4, x5, h, g)) (nI can) (nI y) a b (nI k) h g := by
      intro a b hb
      unfold j_X11_choice_57
      rintro _ rfl
      exact hK _ ⟨k + 1, by omega, rfl, rfl, (nI_1 k).symm, rfl, rfl, hb⟩ hd
    refine c_z (p_X11_mayTeach hR (by omega)) ?_
    rintro r2 _ _ ⟨rfl, rfl, h2⟩
    refine ⟨fun _ => j57 _ _ h4, fun c2 => ?_⟩
    have ok : okC k := h2.elim (fun e => absurd e c2) id
    refine c_i (p_X11_worth hR hcan hy (.inr ⟨k, ok, rfl⟩)) ?_
    rintro r3 _ _ ⟨rfl, rfl⟩
    refine ⟨fun _ => j57 _ _ h4, fun _ => ?_⟩
    refine c_i (p_X11_worth hR hcan hy (.inr ⟨k, ok, rfl⟩)) ?_
    rintro r4 _ _ ⟨rfl, rfl⟩
    exact j57 _ _ (.inr ⟨k, ok, rfl⟩)
theorem p_X11_plan {h : HI} {g : HL} (hR : RI (h 136)) {x1 x2 : Int32} : w_X11_plan x1 x2 h g (fun _ h' _ => KJ SPm h h') := by
  have nR : ∀ {a : HI}, KJ SPm h a → RI (a 136) := fun J => hR.kj J (fun k => by unfold SPm; omega)
  unfold w_X11_plan
  refine c_in3 (fun q => ⟨fun c => absI c, fun _ => ?_⟩) (fun q => ⟨fun _ => KJ.rf, fun c => absN c⟩)
  obtain ⟨n, n1, n2, n3, rfl⟩ := bd_nIp (q.mo (c := 1) (d := 8) (by decide) (by decide)) (by omega)
  refine c_in3 (fun q2 => ⟨fun _ => ?_, fun c => absI c⟩) (fun q2 => ⟨fun c => absurd rfl c, fun _ => KJ.rf⟩)
  have b2 : bd (-1) ((n : Int) - 1) x2 := by
    rw [Int32.toInt_toInt64, show nI n - (1 : Int32) = nI (n - 1) from pk_sub (a := n) (b := 1) (by omega), nI_toInt (by omega)] at q2
    exact q2.mo (by decide) (by omega)
  refine lpE_intro (fun ⟨a_q, b_q, c_q, h_q, _⟩ => ∃ k : Nat, k ≤ 4096 ∧ nI n = a_q ∧ x2 = b_q ∧ nI k = c_q ∧ KJ SPm h h_q) (fun ⟨_, _, c_q, _, _⟩ => dif (nI 4096) c_q) ?_ _ ⟨0, by omega, rfl, rfl, nI_0, KJ.rf⟩
  rintro ⟨z1, z2, z3, h1, g1⟩ K ⟨k, hk, rfl, rfl, rfl, J1⟩ hK
  unfold F_X11_plan_32; dsimp only; unfold b_X11_plan_32
  refine ⟨fun _ => ?_, fun c => ?_⟩
  · rintro _ rfl
    refine lpE_intro (fun ⟨b_q, c_q, h_q, _⟩ => ∃ m : Nat, m ≤ n ∧ x2 = b_q ∧ nI m - 1 = c_q ∧ KJ SPm h h_q) (fun ⟨_, c_q, _, _⟩ => prd c_q) ?_ _ ⟨n, Nat.le_refl _, rfl, rfl, J1⟩
    rintro ⟨u2, u3, h2, g2⟩ K2 ⟨m, hm, rfl, rfl, J2⟩ hK2
    unfold F_X11_plan_62; dsimp only; unfold b_X11_plan_62
    refine ⟨fun _ => ?_, fun c => ?_⟩
    · obtain ⟨H, hH, hH2, eH⟩ := bd_nI (nR J2).c7
      refine lpE_intro (fun ⟨b_q, c_q, d_q, h_q, g_q⟩ => ∃ i can : Nat, i ≤ H ∧ can < 4096 ∧ x2 = b_q ∧ nI can = c_q ∧ nI i = d_q ∧ h2 = h_q) (fun ⟨_, _, d_q, _, _⟩ => dif (nI H) d_q) ?_ _ ⟨0, 0, by omega, by omega, rfl, nI_0, nI_0, rfl⟩
      rintro ⟨v2, v3, v4, h3, g3⟩ K3 ⟨i, can, hi, hcan, rfl, rfl, rfl, rfl⟩ hK3
      unfold F_X11_plan_102; dsimp only; unfold b_X11_plan_102
      rw [eH]
      refine and_have (vp_in_iff.mpr (by decide)) (fun _ => ⟨fun _ => ⟨fun cx => ?_, fun _ => ⟨vp_in_nI (by omega) (by omega), J2⟩⟩, fun ci => ?_⟩)
      · have hx : x2.toInt ≠ -1 := fun e => cx (Int32.toInt_inj.mp (by rw [e]; decide))
        obtain ⟨a, a1, a2, rfl⟩ := bd_nI (b := (n : Int) - 1) (x := x2) (by unfold bd at b2 ⊢; omega)
        refine lpE_intro (fun ⟨b_q, c_q, d_q, e_q, h_q, _⟩ => ∃ y can : Nat, y ≤ a + 1 ∧ can < 4096 ∧ nI a = b_q ∧ nI can = c_q ∧ nI y = e_q ∧ KJ SPm h h_q) (fun ⟨_, _, _, e_q, _, _⟩ => dil (nI a) e_q) ?_ _ ⟨0, can, by omega, hcan, rfl, rfl, nI_0, J2⟩
        rintro ⟨w2, w3, w4, w5, h4, g4⟩ K4 ⟨y, can', hy, hcan', rfl, rfl, rfl, J4⟩ hK4
        unfold F_X11_plan_159; dsimp only; unfold b_X11_plan_159
        refine ⟨fun _ => ⟨fun _ => J4, fun _ => J4⟩, fun cy => ?_⟩
        have hdy := dil_lt cy (by rw [nI_toInt (by omega)]; omega)
        rw [nI_ltI (by omega) (by omega)] at cy
        refine c_i (p_X11_choice (nR J4) hcan' (by omega)) ?_
        rintro r h5 g5 ⟨J5, hr⟩
        have J5' := J4.tr J5
        have j200 : ∀ t : Nat, t < 4096 → can' ||| t < 4096 → j_X11_plan_200 (fun _ h' _ => KJ SPm h h') (fun x2 x3 x4 x5 h g => K4 (x2, x3, x4, x5, h, g)) (nI a) r (nI y) (nI can') (nI t) h5 g5 := by
          intro t ht ht2
          unfold j_X11_plan_200
          rw [nI_or]
          rintro _ rfl
          rintro _ rfl
          exact hK4 _ ⟨y + 1, can' ||| t, by omega, ht2, rfl, rfl, (nI_1 y).symm, J5'⟩ hdy
        refine ⟨fun cr => ?_, fun _ => j200 0 (by omega) (by rw [Nat.or_zero]; exact hcan')⟩
        rcases hr with e | ⟨c, hc, rfl⟩
        · exact absurd e cr
        · obtain ⟨t, t1, t2, t3⟩ := nxt hcan' hc
          rw [t2]
          exact j200 t t1 t3
      · have hd := dif_lt ci
        rw [nI_leI (by omega) (by omega)] at ci
        obtain ⟨s, s1, s2, es⟩ := bd_nI ((nR J2).hs (bd_of (n := i) (by omega) (by omega) (by omega)))
        rw [es]
        refine and_have (by rw [show (817 : Int32) + ((2 : Int32) * nI i) = nI (817 + 2 * i) from ix2 817 2 i]; exact vp_in_nI (by omega) (by omega)) (fun _ => ?_)
        have hs16 : ∀ s : Nat, s < 16 → ∀ i : Nat, i < 3 → ∃ t : Nat, t < 4096 ∧ nI s <<< (((4 : Int32) * nI i) &&& 31) = nI t := by
          intro s hs i hi
          refine ⟨s * 2 ^ (4 * i), ?_, ?_⟩
          · have : s * 2 ^ (4 * i) ≤ 15 * 2 ^ 8 := Nat.mul_le_mul (by omega) (Nat.pow_le_pow_right (by omega) (by omega))
            omega
          · exact (by decide +kernel : ∀ s : Nat, s < 16 → ∀ i : Nat, i < 3 → nI s <<< (((4 : Int32) * nI i) &&& 31) = nI (s * 2 ^ (4 * i))) s hs i hi
        obtain ⟨t, t1, t2⟩ := hs16 s (by omega) i (by omega)
        rw [t2, nI_or]
        rintro _ rfl
        rintro _ rfl
        exact hK3 _ ⟨i + 1, can ||| t, by omega, Nat.or_lt_two_pow (n := 12) hcan t1, rfl, rfl, (nI_1 i).symm, rfl⟩ hd
    · obtain ⟨p, rfl⟩ : ∃ p, m = p + 1 := ⟨m - 1, by
        have : m ≠ 0 := fun e => c (by rw [e]; decide)
        omega⟩
      have hdp := prd_lt c
      rw [nI_pred] at hK2 hdp ⊢
      refine lpE_intro (fun ⟨b_q, c_q, d_q, h_q, _⟩ => ∃ k : Nat, k ≤ 4096 ∧ x2 = b_q ∧ nI p = c_q ∧ nI k = d_q ∧ KJ SPm h h_q) (fun ⟨_, _, d_q, _, _⟩ => dif (nI 4096) d_q) ?_ _ ⟨0, by omega, rfl, rfl, nI_0, J2⟩
      rintro ⟨v2, v3, v4, h3, g3⟩ K3 ⟨k', hk', rfl, rfl, rfl, J3⟩ hK3
      unfold F_X11_plan_69; dsimp only; unfold b_X11_plan_69
      refine ⟨fun _ => ?_, fun ck => ?_⟩
      · rintro _ rfl
        refine hK2 _ ⟨p, by omega, rfl, ?_, J3⟩ hdp
        cases p with
        | zero => decide
        | succ i => rw [nI_pred, pk_m1]
      · have hd := dif_lt (a := nI 4096) ck
        rw [show (4096 : Int32) = nI 4096 from rfl, nI_leI (by omega) (by omega)] at ck
        refine c_i (p_X11_choice (nR J3) (by omega) (by omega)) ?_
        rintro r h5 g5 ⟨J5, -⟩
        rintro _ rfl
        exact hK3 _ ⟨k' + 1, by omega, rfl, rfl, (nI_1 k').symm, J3.tr J5⟩ hd
  · have hd := dif_lt (a := nI 4096) c
    rw [show (4096 : Int32) = nI 4096 from rfl, nI_leI (by omega) (by omega)] at c
    rw [show (4096 : Int32) = nI 4096 from rfl, pk_mul, nI_add]
    refine and_have (vp_in_nI (by omega) (by omega)) (fun _ => ?_)
    intro h2 e2
    rintro _ rfl
    exact hK _ ⟨k + 1, by omega, rfl, rfl, (nI_1 k).symm, J1.hu e2 (by unfold SPm; rfl)⟩ hd
