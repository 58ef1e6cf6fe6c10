/-! THE CLASS READS IT SO -/
theorem sub1 (x : Int32) : x - 1 = x + (-1) := Int32.sub_eq_add_neg x 1
theorem nI_subN {a b : Nat} (h : b ≤ a) : nI a - nI b = nI (a - b) := by
  obtain ⟨c, rfl⟩ : ∃ c, a = b + c := ⟨a - b, by omega⟩
  rw [← nI_add, Int32.add_comm, Int32.add_sub_cancel, Nat.add_sub_cancel_left]
def STK (h : HI) (o w : List Int32) : Prop := h 77 4 = nI o.length ∧ SK (h 78) o ∧ h 77 5 = nI w.length ∧ SK (h 79) w
def FRL (h h' : HI) : Prop := JJ SLaw h h' ∧ h' 77 6 = h 77 6 ∧ h' 77 7 = h 77 7 ∧ h' 77 8 = h 77 8 ∧ h' 77 9 = h 77 9
theorem FRL.rf {h : HI} : FRL h h := ⟨JJ.rf, rfl, rfl, rfl, rfl⟩
theorem FRL.tr {a b c : HI} (x : FRL a b) (y : FRL b c) : FRL a c := ⟨x.1.tr y.1, y.2.1.trans x.2.1, y.2.2.1.trans x.2.2.1, y.2.2.2.1.trans x.2.2.2.1, y.2.2.2.2.trans x.2.2.2.2⟩
theorem FRL.h5 {h h' : HI} {k : Nat} {x : Int32} (e : h' = hu h 77 k x) (hk : k < 6) : FRL h h' := ⟨JJ.rf.hu e (by unfold SLaw; omega), by rw [e, hu_eq, pk_un (by omega)], by rw [e, hu_eq, pk_un (by omega)], by rw [e, hu_eq, pk_un (by omega)], by rw [e, hu_eq, pk_un (by omega)]⟩
theorem FRL.h78 {h h' : HI} {o k : Nat} {x : Int32} (e : h' = hu h o k x) (ho : o = 78 ∨ o = 79) : FRL h h' := by
  have e7 : h' 77 = h 77 := by rw [e, hu_ne (by omega)]
  exact ⟨JJ.rf.hu e (by unfold SLaw; omega), by rw [e7], by rw [e7], by rw [e7], by rw [e7]⟩
theorem q_X4_rank {h : HI} {g : HL} {x : Int32} : w_X4_rank x h g (fun r h' g' => nI (rk x) = r ∧ h = h' ∧ g = g') := by
  unfold w_X4_rank
  refine ⟨fun c => ?_, fun c => ?_, fun c => ?_, fun c => ?_, fun c => ?_, fun c => ?_, fun c => ?_, fun c => ?_, fun c => ?_, fun c => ?_, fun c => ?_, fun c1 c2 c3 c4 c5 c6 c7 c8 c9 c10 c11 => ?_⟩
  iterate 11 (· subst c; exact ⟨by decide, rfl, rfl⟩)
  unfold rk
  rw [if_neg c1, if_neg c11, if_neg c3, if_neg c6, if_neg c4, if_neg c5, if_neg c7, if_neg c8, if_neg c9, if_neg c2, if_neg c10]
  exact ⟨nI_0, rfl, rfl⟩
theorem q_X4_put {h : HI} {g : HL} {o w : List Int32} {x : Int32} (S : STK h o w) (hl : o.length < 60) : w_X4_put x h g (fun h' g' => g = g' ∧ FRL h h' ∧ STK h' (x :: o) w) := by
  obtain ⟨s4, s8, s5, s9⟩ := S
  unfold w_X4_put
  rw [s4]
  refine ⟨fun c => absurd c (nI_pos (by omega)), fun _ => ⟨fun c => ?_, fun _ => and_have (vp_in_nI hl (by omega)) (fun _ => ?_)⟩⟩
  · rw [show (60 : Int32) = nI 60 from rfl, nI_leI (by omega) (by omega)] at c; omega
  intro h1 e1
  rw [nI_clamp (by omega)] at e1
  intro h2 e2
  have e17 : h1 77 = h 77 := by rw [e1, hu_ne (by decide)]
  rw [e17, s4, nI_1] at e2
  refine ⟨rfl, (FRL.h78 e1 (.inl rfl)).tr (FRL.h5 e2 (by omega)), ?_, ?_, ?_, ?_⟩
  · rw [e2, hu_eq, pk_us]; rfl
  · rw [e2, hu_ne (by decide), e1, hu_eq]; exact s8.push
  · rw [e2, hu_eq, pk_un (by decide), e17]; exact s5
  · rw [e2, hu_ne (by decide), e1, hu_ne (by decide)]; exact s9
theorem q_X4_await {h : HI} {g : HL} {o w : List Int32} {x : Int32} (S : STK h o w) (hl : w.length < 60) : w_X4_await x h g (fun h' g' => g = g' ∧ FRL h h' ∧ STK h' o (x :: w)) := by
  obtain ⟨s4, s8, s5, s9⟩ := S
  unfold w_X4_await
  rw [s5]
  refine ⟨fun c => absurd c (nI_pos (by omega)), fun _ => ⟨fun c => ?_, fun _ => and_have (vp_in_nI hl (by omega)) (fun _ => ?_)⟩⟩
  · rw [show (60 : Int32) = nI 60 from rfl, nI_leI (by omega) (by omega)] at c; omega
  intro h1 e1
  rw [nI_clamp (by omega)] at e1
  intro h2 e2
  have e17 : h1 77 = h 77 := by rw [e1, hu_ne (by decide)]
  rw [e17, s5, nI_1] at e2
  refine ⟨rfl, (FRL.h78 e1 (.inr rfl)).tr (FRL.h5 e2 (by omega)), ?_, ?_, ?_, ?_⟩
  · rw [e2, hu_eq, pk_un (by decide), e17]; exact s4
  · rw [e2, hu_ne (by decide), e1, hu_ne (by decide)]; exact s8
  · rw [e2, hu_eq, pk_us]; rfl
  · rw [e2, hu_ne (by decide), e1, hu_eq]; exact s9.push
theorem stl_y {r : Nat} {a : Int32} {ws o : List Int32} (h : r ≤ rk a) : stl r (a :: ws) o = stl r ws (-a :: o) := if_pos h
theorem stl_n {r : Nat} {a : Int32} {ws o : List Int32} (h : ¬ r ≤ rk a) : stl r (a :: ws) o = (a :: ws, o) := if_neg h
theorem rk_6 (x : Int32) : rk x ≤ 6 := by
  unfold rk
  by_cases c1 : x = 33
  · rw [if_pos c1]; omega
  rw [if_neg c1]
  by_cases c2 : x = 126
  · rw [if_pos c2]; omega
  rw [if_neg c2]
  by_cases c3 : x = 42
  · rw [if_pos c3]; omega
  rw [if_neg c3]
  by_cases c4 : x = 47
  · rw [if_pos c4]; omega
  rw [if_neg c4]
  by_cases c5 : x = 43
  · rw [if_pos c5]; omega
  rw [if_neg c5]
  by_cases c6 : x = 45
  · rw [if_pos c6]; omega
  rw [if_neg c6]
  by_cases c7 : x = 60
  · rw [if_pos c7]; omega
  rw [if_neg c7]
  by_cases c8 : x = 61
  · rw [if_pos c8]; omega
  rw [if_neg c8]
  by_cases c9 : x = 62
  · rw [if_pos c9]; omega
  rw [if_neg c9]
  by_cases c10 : x = 38
  · rw [if_pos c10]; omega
  rw [if_neg c10]
  by_cases c11 : x = 124
  · rw [if_pos c11]; omega
  rw [if_neg c11]; omega
theorem q_X4_settle {h : HI} {g : HL} {r : Nat} {o w : List Int32} (S : STK h o w) (B : o.length + w.length ≤ 60) (hr : r < 100) : w_X4_settle (nI r) h g (fun h' g' => g = g' ∧ FRL h h' ∧ STK h' (stl r w o).2 (stl r w o).1) := by
  unfold w_X4_settle
  rintro _ rfl
  refine lpE_intro (fun ⟨a_q, b_q, h_q, g_q⟩ => ∃ o' w' : List Int32, nI r = a_q ∧ nI w'.length + (-1) = b_q ∧ g = g_q ∧ FRL h h_q ∧ STK h_q o' w' ∧ o'.length + w'.length ≤ 60 ∧ stl r w' o' = stl r w o) (fun ⟨_, b_q, _, _⟩ => prd b_q) ?_ _ ⟨o, w, rfl, by rw [S.2.2.1, sub1], rfl, FRL.rf, S, B, rfl⟩
  rintro ⟨y1, y2, h1, g1⟩ K ⟨o', w', rfl, rfl, rfl, F, S1, B1, e⟩ hK
  unfold F_X4_settle_7; dsimp only; unfold b_X4_settle_7
  cases w' with
  | nil =>
    refine ⟨fun c => ⟨rfl, F, ?_⟩, fun c => absurd (by decide) c⟩
    rw [← e]; exact S1
  | cons a ws =>
    rw [List.length_cons] at B1 hK ⊢
    rw [pk_m1] at hK ⊢
    obtain ⟨s4, s8, s5, sa, s9⟩ := S1
    have v : vp_in (nI ws.length) 60 := vp_in_nI (by omega) (by omega)
    refine ⟨fun c => absurd c (nI_pos (by omega)), fun c0 => ⟨fun c => ?_, fun _ => and_have v (fun _ => ?_)⟩⟩
    · rw [show (60 : Int32) = nI 60 from rfl, nI_leI (by omega) (by omega)] at c; omega
    rw [nI_clamp (n := ws.length) (by omega), sa]
    refine c_i q_X4_rank ?_
    rintro _ _ _ ⟨rfl, rfl, rfl⟩
    have h6 := rk_6 a
    refine ⟨fun c => ⟨rfl, F, ?_⟩, fun c => and_have v (fun _ => ?_)⟩
    · rw [nI_ltI (by omega) (by omega)] at c
      rw [← e, stl_n (by omega)]
      exact ⟨s4, s8, s5, sa, s9⟩
    · rw [nI_ltI (by omega) (by omega)] at c
      rw [sa]
      refine c_v (q_X4_put ⟨s4, s8, s5, sa, s9⟩ (by omega)) ?_
      rintro h2 g2 ⟨rfl, F2, t4, t8, t5, t9⟩
      intro h3 e3
      rintro _ rfl
      refine hK _ ⟨-a :: o', ws, rfl, rfl, rfl, (F.tr F2).tr (FRL.h5 e3 (by omega)), ⟨?_, ?_, ?_, ?_⟩, by rw [List.length_cons]; omega, ?_⟩ (prd_lt c0)
      · rw [e3, hu_eq, pk_un (by decide)]; exact t4
      · rw [e3, hu_ne (by decide)]; exact t8
      · rw [e3, hu_eq, pk_us]
      · rw [e3, hu_ne (by decide)]; exact t9.2
      · rw [← e, stl_y (by omega)]
def CTl (h : HI) : LSt → Prop
  | (o, w, n, d, u) => STK h o w ∧ h 77 6 = nI n ∧ h 77 7 = nI d ∧ h 77 8 = nI u
/-- what one sign does -/
def OUTl (h' : HI) (c : Int32) (i : Nat) (s : LSt) : Prop := (badL c s = 0 ∧ CTl h' (nxL c s) ∧ h' 77 9 = -1) ∨ (¬ badL c s = 0 ∧ h' 77 9 = flw i (badL c s) (dgL s) ∧ ¬ h' 77 9 = -1)
theorem n10 {k c : Nat} (hk : k ≤ 60) (hc : c ≤ 3) : ¬ nI (10 * k + c) = -1 := fun e => r10 hk hc (by rw [show (10 : Int32) = nI 10 from rfl, pk_mul, nI_add]; exact e)
theorem flw1 (i d : Nat) : flw i 1 d = (10 : Int32) * nI i + 1 := by
  rw [show (10 : Int32) = nI 10 from rfl, pk_mul, nI_1]; exact if_neg (by decide)
theorem flw3 (i d : Nat) : flw i 3 d = (10 : Int32) * nI i + 3 := by
  rw [show (10 : Int32) = nI 10 from rfl, show (3 : Int32) = nI 3 from rfl, pk_mul, nI_add]; exact if_neg (by decide)
theorem flw2 {i d : Nat} (h : d ≤ i) : flw i 2 d = (10 : Int32) * (nI i - nI d) + 2 := by
  rw [nI_subN h, show (10 : Int32) = nI 10 from rfl, show (2 : Int32) = nI 2 from rfl, pk_mul, nI_add]; exact if_pos rfl
theorem flw_n {i b d : Nat} (hi : i ≤ 60) (hb : b ≤ 3) : ¬ flw i b d = -1 := by
  unfold flw
  by_cases e : b = 2
  · rw [if_pos e]; exact n10 (by omega) (by omega)
  · rw [if_neg e]; exact n10 hi hb
/-- a flaw is put down -/
theorem OUTl.bad {h h' : HI} {c x : Int32} {i b : Nat} {s : LSt} (e : h' = hu h 77 9 x) (eb : badL c s = b) (b0 : ¬ b = 0) (b3 : b ≤ 3) (hi : i ≤ 60) (ex : x = flw i b (dgL s)) : OUTl h' c i s := by
  have e9 : h' 77 9 = flw i b (dgL s) := by rw [e, hu_eq, pk_us]; exact ex
  refine .inr ⟨by rw [eb]; exact b0, by rw [eb]; exact e9, by rw [e9]; exact flw_n hi b3⟩
theorem q_X4_readDigit {h : HI} {g : HL} {c : Int32} {i v : Nat} {s : LSt} (I : SIl i s) (hi : i < 60) (S : CTl h s) (e9 : h 77 9 = -1) (cd : dgt c) (ev : c - 48 = nI v) : w_X4_readDigit (nI v) (nI i) h g (fun h' _ => JJ SLaw h h' ∧ OUTl h' c i s) := by
  obtain ⟨o, w, n, d, u⟩ := s
  obtain ⟨a1, a2, a3, a4, a5, a6, a7, a8, a9⟩ := I
  obtain ⟨S, s6, s7, s8⟩ := S
  have j102 : ∀ (h1 : HI) (g1 : HL) (o1 : List Int32) (x3 : Int32), JJ SLaw h h1 → STK h1 o1 w → o1.length < 60 → h1 77 6 = nI n → h1 77 7 = nI d → h1 77 9 = -1 → badL c (o, w, n, d, u) = 0 → nxL c (o, w, n, d, u) = (((10 : Int32) * x3 + nI v) :: o1, w, n, d + 1, 0) → j_X4_readDigit_102 (fun h' _ => JJ SLaw h h' ∧ OUTl h' c i (o, w, n, d, u)) (nI v) x3 h1 g1 := by
    intro h1 g1 o1 x3 J1 S1 l1 k6 k7 k9 b0 en
    unfold j_X4_readDigit_102
    refine c_v (q_X4_put S1 l1) ?_
    rintro h2 g2 ⟨rfl, F2, t4, t8, t5, t9⟩
    have m7 : h2 77 7 = nI d := F2.2.2.1.trans k7
    intro h3 e3
    rw [m7, nI_1] at e3
    intro h4 e4
    refine ⟨((J1.tr F2.1).hu e3 (by unfold SLaw; omega)).hu e4 (by unfold SLaw; omega), .inl ⟨b0, ?_, ?_⟩⟩
    · rw [en]
      refine ⟨⟨?_, ?_, ?_, ?_⟩, ?_, ?_, ?_⟩
      · rw [e4, hu_eq, pk_un (by decide), e3, hu_eq, pk_un (by decide)]; exact t4
      · rw [e4, hu_ne (by decide), e3, hu_ne (by decide)]; exact t8
      · rw [e4, hu_eq, pk_un (by decide), e3, hu_eq, pk_un (by decide)]; exact t5
      · rw [e4, hu_ne (by decide), e3, hu_ne (by decide)]; exact t9
      · rw [e4, hu_eq, pk_un (by decide), e3, hu_eq, pk_un (by decide)]; exact F2.2.1.trans k6
      · rw [e4, hu_eq, pk_un (by decide), e3, hu_eq, pk_us]
      · rw [e4, hu_eq, pk_us]; exact nI_0.symm
    · rw [e4, hu_eq, pk_un (by decide), e3, hu_eq, pk_un (by decide)]; exact F2.2.2.2.2.trans k9
  have j27 : (d = 0 → ¬ u = 0) → j_X4_readDigit_27 (fun h' _ => JJ SLaw h h' ∧ OUTl h' c i (o, w, n, d, u)) (nI v) (nI i) h g := by
    intro hdu
    unfold j_X4_readDigit_27
    rw [s7, show (6 : Int32) = nI 6 from rfl, nI_ltI (by omega) (by omega)]
    have bd0 : badL c (o, w, n, d, u) = (if 6 ≤ d then 2 else 0) := (bad_dg cd).trans (if_neg (fun q => hdu q.1 q.2))
    refine ⟨fun c6 => ⟨fun c0 => ?_, fun c0 => ?_⟩, fun c6 => ?_⟩
    · have d0 : d = 0 := by
        rw [show (0 : Int32) = nI 0 from rfl, nI_leI (by omega) (by omega)] at c0; omega
      subst d0
      refine j102 h g o 0 JJ.rf S (by omega) s6 s7 e9 (bd0.trans (if_neg (by omega))) ?_
      rw [nx_d0 cd, ev, Int32.mul_zero, Int32.zero_add]
    · have d0 : ¬ d = 0 := fun q => c0 (by rw [q]; decide)
      obtain ⟨u0, v0, xs, eo, hv0⟩ := a3 (by omega)
      subst eo
      obtain ⟨s4, sa, s5, sw⟩ := S
      rw [List.length_cons] at s4 a1
      rw [s4]
      refine ⟨fun q => ?_, fun _ => ⟨fun q => ?_, fun _ => ?_⟩⟩
      · rw [show (0 : Int32) = nI 0 from rfl, nI_leI (by omega) (by omega)] at q; omega
      · rw [show (60 : Int32) = nI 60 from rfl, nI_ltI (by omega) (by omega)] at q; omega
      intro h1 e1
      rw [nI_pred] at e1
      have k4 : h1 77 4 = nI xs.length := by rw [e1, hu_eq, pk_us]
      have k8 : h1 78 = h 78 := by rw [e1, hu_ne (by decide)]
      rw [k4]
      refine and_have (vp_in_nI (by omega) (by omega)) (fun _ => ?_)
      intro x3 e3
      rw [nI_clamp (by omega), k8, sa.1] at e3
      subst e3
      refine j102 h1 g xs (nI v0) (JJ.rf.hu e1 (by unfold SLaw; omega)) ⟨k4, by rw [k8]; exact sa.2, ?_, ?_⟩ (by omega) ?_ ?_ ?_ (bd0.trans (if_neg (by omega))) ?_
      · rw [e1, hu_eq, pk_un (by decide)]; exact s5
      · rw [e1, hu_ne (by decide)]; exact sw
      · rw [e1, hu_eq, pk_un (by decide)]; exact s6
      · rw [e1, hu_eq, pk_un (by decide)]; exact s7
      · rw [e1, hu_eq, pk_un (by decide)]; exact e9
      · rw [nx_d1 cd d0, ev]; rfl
    · intro h1 e1
      exact ⟨JJ.rf.hu e1 (by unfold SLaw; omega), OUTl.bad e1 (bd0.trans (if_pos (by omega))) (by decide) (by decide) (by omega) (flw2 a7).symm⟩
  unfold w_X4_readDigit
  rw [s7, s8, nI_z (by omega), nI_z (by omega)]
  refine ⟨fun q => j27 (fun e => absurd e q), fun q => ⟨fun k => j27 (fun _ => k), fun k => ?_⟩⟩
  intro h1 e1
  exact ⟨JJ.rf.hu e1 (by unfold SLaw; omega), OUTl.bad e1 ((bad_dg cd).trans (if_pos ⟨q, k⟩)) (by decide) (by decide) (by omega) (flw1 _ _).symm⟩
