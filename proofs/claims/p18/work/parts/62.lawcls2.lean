theorem CTl.of {h h' : HI} {o w o' w' : List Int32} {n u : Nat} (F : FRL h h') (S : STK h' o' w') (s6 : h 77 6 = nI n) (s7 : h 77 7 = nI 0) (s8 : h 77 8 = nI u) : CTl h' (o', w', n, 0, u) := ⟨S, F.2.1.trans s6, F.2.2.1.trans s7, F.2.2.2.1.trans s8⟩
/-- after the sign, the UNIT is due or it is not -/
theorem CTl.u8 {h h' : HI} {o w : List Int32} {n d u u' : Nat} (S : CTl h (o, w, n, d, u)) (e : h' = hu h 77 8 (nI u')) : CTl h' (o, w, n, d, u') ∧ h' 77 9 = h 77 9 ∧ JJ SLaw h h' := by
  obtain ⟨⟨s4, sa, s5, sw⟩, s6, s7, s8⟩ := S
  refine ⟨⟨⟨?_, ?_, ?_, ?_⟩, ?_, ?_, ?_⟩, ?_, JJ.rf.hu e (by unfold SLaw; omega)⟩
  · rw [e, hu_eq, pk_un (by decide)]; exact s4
  · rw [e, hu_ne (by decide)]; exact sa
  · rw [e, hu_eq, pk_un (by decide)]; exact s5
  · rw [e, hu_ne (by decide)]; exact sw
  · rw [e, hu_eq, pk_un (by decide)]; exact s6
  · rw [e, hu_eq, pk_un (by decide)]; exact s7
  · rw [e, hu_eq, pk_us]
  · rw [e, hu_eq, pk_un (by decide)]
theorem CTl.n6 {h h' : HI} {o w : List Int32} {n d u n' : Nat} (S : CTl h (o, w, n, d, u)) (e : h' = hu h 77 6 (nI n')) : CTl h' (o, w, n', d, u) ∧ h' 77 9 = h 77 9 ∧ JJ SLaw h h' := by
  obtain ⟨⟨s4, sa, s5, sw⟩, s6, s7, s8⟩ := S
  refine ⟨⟨⟨?_, ?_, ?_, ?_⟩, ?_, ?_, ?_⟩, ?_, JJ.rf.hu e (by unfold SLaw; omega)⟩
  · rw [e, hu_eq, pk_un (by decide)]; exact s4
  · rw [e, hu_ne (by decide)]; exact sa
  · rw [e, hu_eq, pk_un (by decide)]; exact s5
  · rw [e, hu_ne (by decide)]; exact sw
  · rw [e, hu_eq, pk_us]
  · rw [e, hu_eq, pk_un (by decide)]; exact s7
  · rw [e, hu_eq, pk_un (by decide)]; exact s8
  · rw [e, hu_eq, pk_un (by decide)]
/-- a UNIT begins, or nothing may stand here -/
def UOL (h h' : HI) (r c : Int32) (s : LSt) : Prop := JJ SLaw h h' ∧ ((r = 1 ∧ badL c s = 0 ∧ CTl h' (nxL c s) ∧ h' 77 9 = h 77 9) ∨ (r = 0 ∧ badL c s = 1))
theorem q_X4_startsUnit {h : HI} {g : HL} {c : Int32} {i : Nat} {o w : List Int32} {n u : Nat} (I : SIl i (o, w, n, 0, u)) (hi : i < 60) (S : CTl h (o, w, n, 0, u)) (hu : ¬ u = 0) (cd : ¬ dgt c) (c32 : ¬ c = 32) (c40 : c = 40 → n < 8) : w_X4_startsUnit c h g (fun r h' _ => UOL h h' r c (o, w, n, 0, u)) := by
  have a1 : o.length + w.length ≤ i := I.1
  have a5 : u ≤ 1 := I.2.2.2.2.1
  have n8 : n ≤ 8 := I.2.2.2.2.2.1
  have u1 : u = 1 := by omega
  subst u1
  have S0 := S
  obtain ⟨S, s6, s7, s8⟩ := S
  have bu : badL c (o, w, n, 0, 1) = (if c = 40 then (if n < 8 then 0 else 3) else if c = 121 ∨ c = 108 ∨ c = 104 ∨ c = 33 ∨ c = 45 then 0 else 1) := bad_u cd c32 (by decide)
  have nu : nxL c (o, w, n, 0, 1) = (if c = 40 then (o, 40 :: w, n + 1, 0, 1) else if c = 33 then (o, 33 :: w, n, 0, 1) else if c = 45 then (o, 126 :: w, n, 0, 1) else (-c :: o, w, n, 0, 0)) := nx_u cd c32 (by decide)
  have j18 : ¬ c = 40 → ¬ c = 33 → ¬ c = 45 → (c = 121 ∨ c = 108 ∨ c = 104 ∨ c = 33 ∨ c = 45) → j_X4_startsUnit_18 (fun r h' _ => UOL h h' r c (o, w, n, 0, 1)) c h g := by
    intro k1 k2 k3 k4
    unfold j_X4_startsUnit_18
    refine c_v (q_X4_put S (by omega)) ?_
    rintro h1 g1 ⟨rfl, F, T⟩
    intro h2 e2
    obtain ⟨t1, t2, t3⟩ := (CTl.of (o := o) (w := w) F T s6 s7 s8).u8 (u' := 0) e2
    refine ⟨F.1.tr t3, .inl ⟨rfl, ?_, ?_, t2.trans F.2.2.2.2⟩⟩
    · rw [bu, if_neg k1, if_pos k4]
    · rw [nu, if_neg k1, if_neg k2, if_neg k3]; exact t1
  have j77 : ∀ (a : Int32) (h1 : HI) (g1 : HL) (n' : Nat), JJ SLaw h h1 → h1 77 9 = h 77 9 → CTl h1 (o, w, n', 0, 1) → badL c (o, w, n, 0, 1) = 0 → nxL c (o, w, n, 0, 1) = (o, a :: w, n', 0, 1) → j_X4_startsUnit_77 (fun r h' _ => UOL h h' r c (o, w, n, 0, 1)) a h1 g1 := by
    intro a h1 g1 n' J1 k9 S1 b0 en
    unfold j_X4_startsUnit_77
    refine c_v (q_X4_await S1.1 (by omega)) ?_
    rintro h2 g2 ⟨rfl, F, T⟩
    refine ⟨J1.tr F.1, .inl ⟨rfl, b0, ?_, F.2.2.2.2.trans k9⟩⟩
    rw [en]
    exact CTl.of (o := o) (w := w) F T S1.2.1 S1.2.2.1 S1.2.2.2
  unfold w_X4_startsUnit
  refine ⟨fun c1 => j18 (by rw [c1]; decide) (by rw [c1]; decide) (by rw [c1]; decide) (.inl c1), fun c1 => ⟨fun c2 => j18 (by rw [c2]; decide) (by rw [c2]; decide) (by rw [c2]; decide) (.inr (.inl c2)), fun c2 => ⟨fun c3 => ⟨fun c4 => ⟨fun c5 => ?_, fun c5 => ⟨fun c6 => ?_, fun c6 => ?_⟩⟩, fun c4 => ?_⟩, fun c3 => j18 (by rw [c3]; decide) (by rw [c3]; decide) (by rw [c3]; decide) (.inr (.inr (.inl c3)))⟩⟩⟩
  · unfold j_X4_startsUnit_64
    have b0 : badL c (o, w, n, 0, 1) = 0 := by rw [bu, if_neg c4, if_pos (.inr (.inr (.inr (.inl c5))))]
    refine ⟨fun c7 => ?_, fun c7 => absurd (c5.symm.trans c7) (by decide)⟩
    refine j77 c h g n JJ.rf rfl S0 b0 ?_
    rw [nu, if_neg c4, if_pos c5, c5]
  · unfold j_X4_startsUnit_64
    have b0 : badL c (o, w, n, 0, 1) = 0 := by rw [bu, if_neg c4, if_pos (.inr (.inr (.inr (.inr c6))))]
    refine ⟨fun c7 => absurd c6 c7, fun c7 => ?_⟩
    refine j77 126 h g n JJ.rf rfl S0 b0 ?_
    rw [nu, if_neg c4, if_neg c5, if_pos c6]
  · refine ⟨JJ.rf, .inr ⟨rfl, ?_⟩⟩
    rw [bu, if_neg c4, if_neg (fun q => q.elim c1 (fun q => q.elim c2 (fun q => q.elim c3 (fun q => q.elim c5 c6))))]
  · intro h1 e1
    rw [s6, nI_1] at e1
    obtain ⟨t1, t2, t3⟩ := S0.n6 e1
    unfold j_X4_startsUnit_64
    have b0 : badL c (o, w, n, 0, 1) = 0 := by rw [bu, if_pos c4, if_pos (c40 c4)]
    refine ⟨fun c7 => ?_, fun c7 => absurd (c4.symm.trans c7) (by decide)⟩
    refine j77 c h1 g (n + 1) t3 t2 t1 b0 ?_
    rw [nu, if_pos c4, c4]
theorem q_X4_lastRank {h : HI} {g : HL} {o w : List Int32} (S : STK h o w) (hw : w.length ≤ 60) : w_X4_lastRank h g (fun r h' g' => nI (tp w) = r ∧ h = h' ∧ g = g') := by
  obtain ⟨s4, sa, s5, sw⟩ := S
  unfold w_X4_lastRank
  rw [s5]
  cases w with
  | nil => exact ⟨fun _ => ⟨nI_0, rfl, rfl⟩, fun c => absurd (by decide) c⟩
  | cons a ws =>
    rw [List.length_cons] at hw ⊢
    refine ⟨fun c => ?_, fun _ => ⟨fun c => ?_, fun _ => ?_⟩⟩
    · rw [show (0 : Int32) = nI 0 from rfl, nI_leI (by omega) (by omega)] at c; omega
    · rw [show (60 : Int32) = nI 60 from rfl, nI_ltI (by omega) (by omega)] at c; omega
    rw [nI_pred, nI_clamp (by omega), sw.1]
    refine and_have (vp_in_nI (by omega) (by omega)) (fun _ => ?_)
    refine c_i q_X4_rank ?_
    rintro _ _ _ ⟨rfl, rfl, rfl⟩
    exact ⟨rfl, rfl, rfl⟩
theorem q_X4_followsUnit {h : HI} {g : HL} {c : Int32} {i : Nat} {o w : List Int32} {n : Nat} (I : SIl i (o, w, n, 0, 0)) (hi : i < 60) (S : CTl h (o, w, n, 0, 0)) (cd : ¬ dgt c) (c32 : ¬ c = 32) : w_X4_followsUnit c h g (fun r h' _ => UOL h h' r c (o, w, n, 0, 0)) := by
  have a1 : o.length + w.length ≤ i := I.1
  have a2 : c40 w = n := I.2.1
  have n8 : n ≤ 8 := I.2.2.2.2.2.1
  have S0 := S
  obtain ⟨S, s6, s7, s8⟩ := S
  have bf : badL c (o, w, n, 0, 0) = (if c = 41 then (if n = 0 then 1 else 0) else if rk c < 1 ∨ 6 ≤ rk c then 1 else if rk c = 3 ∧ tp (stl (rr c) w o).1 = 3 then 1 else 0) := bad_f cd c32
  have nf : nxL c (o, w, n, 0, 0) = (if c = 41 then ((stl 1 w o).2, (stl 1 w o).1.tail, n - 1, 0, 0) else ((stl (rr c) w o).2, c :: (stl (rr c) w o).1, n, 0, 1)) := nx_f cd c32
  unfold w_X4_followsUnit
  refine ⟨fun c1 => ?_, fun c1 => ⟨fun c2 => ?_, fun c2 => ?_⟩⟩
  · refine c_i q_X4_rank ?_
    rintro _ _ _ ⟨rfl, rfl, rfl⟩
    have h6 := rk_6 c
    have lb := stl_len (r := rr c) (w := w) (o := o)
    rw [if_neg c1] at bf nf
    refine ⟨fun k1 => ⟨JJ.rf, .inr ⟨rfl, ?_⟩⟩, fun k1 => ⟨fun k6 => ?_, fun k6 => ⟨JJ.rf, .inr ⟨rfl, ?_⟩⟩⟩⟩
    · rw [show (1 : Int32) = nI 1 from rfl, nI_ltI (by omega) (by omega)] at k1
      rw [bf, if_pos (.inl k1)]
    · rw [show (1 : Int32) = nI 1 from rfl, nI_ltI (by omega) (by omega)] at k1
      rw [show (6 : Int32) = nI 6 from rfl, nI_ltI (by omega) (by omega)] at k6
      rw [if_neg (fun q => q.elim (fun q => by omega) (fun q => by omega))] at bf
      have j73 : j_X4_followsUnit_73 (fun r h' _ => UOL h h' r c (o, w, n, 0, 0)) c (nI (rk c)) (nI (rr c)) h g := by
        unfold j_X4_followsUnit_73
        have rb : rr c < 100 := by
          unfold rr
          by_cases q : rk c = 3
          · rw [if_pos q]; omega
          · rw [if_neg q]; omega
        refine c_v (q_X4_settle S (by omega) rb) ?_
        rintro h1 g1 ⟨rfl, F, T⟩
        have j91 : badL c (o, w, n, 0, 0) = 0 → j_X4_followsUnit_91 (fun r h' _ => UOL h h' r c (o, w, n, 0, 0)) c h1 g := by
          intro b0
          unfold j_X4_followsUnit_91
          refine c_v (q_X4_await T (by omega)) ?_
          rintro h2 g2 ⟨rfl, F2, T2⟩
          intro h3 e3
          obtain ⟨t1, t2, t3⟩ := (CTl.of (o := o) (w := w) (F.tr F2) T2 s6 s7 s8).u8 (u' := 1) e3
          refine ⟨(F.tr F2).1.tr t3, .inl ⟨rfl, b0, ?_, t2.trans (F.tr F2).2.2.2.2⟩⟩
          rw [nf]; exact t1
        refine ⟨fun k3 => j91 ?_, fun k3 => ?_⟩
        · rw [bf, if_neg (fun q => k3 (by rw [q.1]; rfl))]
        · have k3 : rk c = 3 := (nI_eq (b := 3) (by omega) (by omega)).mp k3
          refine c_i (q_X4_lastRank T (by omega)) ?_
          rintro _ _ _ ⟨rfl, rfl, rfl⟩
          have t6 : tp (stl (rr c) w o).1 ≤ 6 := by
            cases (stl (rr c) w o).1 with
            | nil => exact Nat.zero_le _
            | cons a b => exact rk_6 a
          refine ⟨fun k4 => j91 ?_, fun k4 => ⟨F.1, .inr ⟨rfl, ?_⟩⟩⟩
          · rw [bf, if_neg (fun q => k4 (by rw [q.2]; rfl))]
          · rw [bf, if_pos ⟨k3, (nI_eq (b := 3) (by omega) (by omega)).mp k4⟩]
      refine ⟨fun k3 => ?_, fun k3 => ?_⟩
      · have e : rr c = rk c := if_neg (fun q => k3 (by rw [q]; rfl))
        rw [e] at j73; exact j73
      · have k3' : rk c = 3 := (nI_eq (b := 3) (by omega) (by omega)).mp k3
        have e : rr c = rk c + 1 := by
          unfold rr
          rw [if_pos k3', k3']
        rw [e] at j73
        rw [nI_1]; exact j73
    · rw [show (6 : Int32) = nI 6 from rfl, nI_ltI (by omega) (by omega)] at k6
      rw [bf, if_pos (.inr (by omega))]
  · rw [s6, nI_z (by omega)] at c2
    rw [if_pos c1] at bf nf
    have l := stl_len (r := 1) (w := w) (o := o)
    have k := stl_c40 (r := 1) (Nat.le_refl _) (w := w) (o := o)
    refine c_v (q_X4_settle (r := 1) S (by omega) (by omega)) ?_
    rintro h1 g1 ⟨rfl, F, T⟩
    generalize stl 1 w o = s at l k nf T
    obtain ⟨w', o'⟩ := s
    cases w' with
    | nil =>
      have k : (0 : Nat) = c40 w := k
      omega
    | cons y ys =>
      obtain ⟨t4, ta, t5, ty, tw⟩ := T
      intro h2 e2
      have t5 : h1 77 5 = nI (ys.length + 1) := t5
      rw [t5, nI_pred] at e2
      intro h3 e3
      have k6 : h2 77 6 = nI n := by rw [e2, hu_eq, pk_un (by decide)]; exact F.2.1.trans s6
      have e2F := FRL.h5 e2 (by omega)
      have T2 : STK h2 o' ys := ⟨by rw [e2, hu_eq, pk_un (by decide)]; exact t4, by rw [e2, hu_ne (by decide)]; exact ta, by rw [e2, hu_eq, pk_us], by rw [e2, hu_ne (by decide)]; exact tw⟩
      rw [k6, show (1 : Int32) = nI 1 from rfl, nI_subN (by omega)] at e3
      obtain ⟨u1, u2, u3⟩ := (CTl.of (o := o) (w := w) (F.tr e2F) T2 s6 s7 s8).n6 e3
      refine ⟨(F.tr e2F).1.tr u3, .inl ⟨rfl, ?_, ?_, u2.trans (F.tr e2F).2.2.2.2⟩⟩
      · rw [bf, if_neg c2]
      · rw [nf]; exact u1
  · rw [s6, nI_z (by omega)] at c2
    refine ⟨JJ.rf, .inr ⟨rfl, ?_⟩⟩
    rw [bf, if_pos c1, if_pos c2]
theorem bad_d0 {c : Int32} (cd : ¬ dgt c) {o w : List Int32} {n d u : Nat} : badL c (o, w, n, d, u) = badL c (o, w, n, 0, u) := (if_neg cd).trans (Eq.symm (if_neg cd))
theorem nx_d {c : Int32} (cd : ¬ dgt c) {o w : List Int32} {n d u : Nat} : nxL c (o, w, n, d, u) = nxL c (o, w, n, 0, u) := (if_neg cd).trans (Eq.symm (if_neg cd))
theorem SIl.d0 {i : Nat} {o w : List Int32} {n d u : Nat} (x : SIl i (o, w, n, d, u)) : SIl i (o, w, n, 0, u) := ⟨x.1, x.2.1, fun q => absurd q (Nat.lt_irrefl 0), by omega, x.2.2.2.2.1, x.2.2.2.2.2.1, by omega, x.2.2.2.2.2.2.2.1, x.2.2.2.2.2.2.2.2⟩
theorem q_X4_readSign {h : HI} {g : HL} {c : Int32} {i : Nat} {o w : List Int32} {n d u : Nat} (I : SIl i (o, w, n, d, u)) (hi : i < 60) (S : CTl h (o, w, n, 0, u)) (e9 : h 77 9 = -1) (cd : ¬ dgt c) (c32 : ¬ c = 32) : w_X4_readSign c (nI i) h g (fun h' _ => JJ SLaw h h' ∧ OUTl h' c i (o, w, n, d, u)) := by
  have n8 : n ≤ 8 := I.2.2.2.2.2.1
  have u1 : u ≤ 1 := I.2.2.2.2.1
  have I0 := I.d0
  have e8 : h 77 8 = nI u := S.2.2.2
  have e6 : h 77 6 = nI n := S.2.1
  have fin : ∀ (r : Int32) (h1 : HI) (g1 : HL), UOL h h1 r c (o, w, n, 0, u) → (¬ r = 0 → JJ SLaw h h1 ∧ OUTl h1 c i (o, w, n, d, u)) ∧ (r = 0 → j_X4_readSign_61 (fun h' _ => JJ SLaw h h' ∧ OUTl h' c i (o, w, n, d, u)) (nI i) h1 g1) := by
    rintro r h1 g1 ⟨J, k⟩
    rcases k with ⟨rfl, b0, T, k9⟩ | ⟨rfl, b1⟩
    · exact ⟨fun _ => ⟨J, .inl ⟨by rw [bad_d0 cd]; exact b0, by rw [nx_d cd]; exact T, k9.trans e9⟩⟩, fun q => absurd q (by decide)⟩
    · refine ⟨fun q => absurd rfl q, fun _ => ?_⟩
      unfold j_X4_readSign_61
      intro h2 e2
      exact ⟨J.hu e2 (by unfold SLaw; omega), OUTl.bad e2 ((bad_d0 cd).trans b1) (by decide) (by decide) (by omega) (flw1 _ _).symm⟩
  have j35 : (c = 40 → ¬ u = 0 → n < 8) → j_X4_readSign_35 (fun h' _ => JJ SLaw h h' ∧ OUTl h' c i (o, w, n, d, u)) c (nI i) h g := by
    intro k40
    unfold j_X4_readSign_35
    rw [e8, nI_z (by omega)]
    refine ⟨fun u0 => ?_, fun u0 => ?_⟩
    · subst u0
      refine c_z (q_X4_followsUnit I0 hi S cd c32) ?_
      intro r h1 g1 k
      exact fin r h1 g1 k
    · refine c_z (q_X4_startsUnit I0 hi S u0 cd c32 (fun q => k40 q u0)) ?_
      intro r h1 g1 k
      exact fin r h1 g1 k
  unfold w_X4_readSign
  rw [e8, nI_z (by omega), e6]
  refine ⟨fun u0 => j35 (fun _ q => absurd u0 q), fun u0 => ⟨fun c4 => j35 (fun q => absurd q c4), fun c4 => ⟨fun n7 => j35 (fun _ _ => (nI_ltI (b := 8) (by omega) (by omega)).mp n7), fun n7 => ?_⟩⟩⟩
  have n7 : ¬ n < 8 := fun q => n7 ((nI_ltI (b := 8) (by omega) (by omega)).mpr q)
  intro h1 e1
  refine ⟨JJ.rf.hu e1 (by unfold SLaw; omega), OUTl.bad e1 ?_ (by decide : ¬ 3 = 0) (by decide) (by omega) (flw3 _ _).symm⟩
  rw [bad_u cd c32 u0, if_pos c4, if_neg n7]
/-- what the class keeps of the law: the signs f, n of them, are read -/
def LWC (h : HI) (f : Nat → Int32) (n : Nat) : Prop := ∃ p, RSl f n (h 77 9) p ∧ (h 77 9 = -1 → h 77 4 = nI p.length ∧ SK (h 78) p ∧ p.length ≤ 60 ∧ ∀ t, t ∈ p → okT t)
theorem LWC.cg {h h' : HI} {f f' : Nat → Int32} {n : Nat} (x : LWC h f n) (e7 : h' 77 = h 77) (e8 : h' 78 = h 78) (e : ∀ k, k < n → f' k = f k) : LWC h' f' n := by
  obtain ⟨p, r, k⟩ := x
  exact ⟨p, by rw [e7]; exact r.cg e, by rw [e7, e8]; exact k⟩
set_option maxHeartbeats 1000000 in
theorem q_X4_read {h : HI} {g : HL} {m : Nat} (T : TT h 24 m 1 60) : w_X4_read h g (fun h' _ => JJ SLaw h h' ∧ LWC h' (h 25) m) := by
  have hm := T.2.2.2.1
  unfold w_X4_read
  intro h1 e1 h2 e2 h3 e3 h4 e4 h5 e5 h6 e6
  have J6 : JJ SLaw h h6 := (((((JJ.rf.hu e1 (by unfold SLaw; omega)).hu e2 (by unfold SLaw; omega)).hu e3 (by unfold SLaw; omega)).hu e4 (by unfold SLaw; omega)).hu e5 (by unfold SLaw; omega)).hu e6 (by unfold SLaw; omega)
  have f6 : h6 77 = upd (upd (upd (upd (upd (upd (h 77) 4 0) 5 0) 6 0) 7 0) 8 1) 9 (-1) := by
    rw [e6, hu_eq, e5, hu_eq, e4, hu_eq, e3, hu_eq, e2, hu_eq, e1, hu_eq]
  have C6 : CTl h6 ([], [], 0, 0, 1) := by
    refine ⟨⟨?_, trivial, ?_, trivial⟩, ?_, ?_, ?_⟩
    · rw [f6]; exact nI_0.symm
    · rw [f6]; exact nI_0.symm
    · rw [f6]; exact nI_0.symm
    · rw [f6]; exact nI_0.symm
    · rw [f6]; rfl
  have k6 : h6 77 9 = -1 := by rw [f6]; rfl
  clear e1 e2 e3 e4 e5 e6 f6
  refine c_i p_rows ?_
  rintro _ _ _ ⟨rfl, rfl, rfl⟩
  have c24 : h6 24 3 = nI m := by rw [J6 24 (by unfold SLaw; omega)]; exact T.2.2.1
  rw [c24]
  refine lpE_intro (fun ⟨a_q, b_q, h_q, _⟩ => ∃ i : Nat, i ≤ m ∧ nI m = a_q ∧ nI i = b_q ∧ JJ SLaw h h_q ∧ ((okp (h 25) i ∧ CTl h_q (AR (h 25) i) ∧ h_q 77 9 = -1) ∨ (∃ k, k < m ∧ okp (h 25) k ∧ ¬ badL (h 25 k) (AR (h 25) k) = 0 ∧ h_q 77 9 = flw k (badL (h 25 k) (AR (h 25) k)) (dgL (AR (h 25) k)) ∧ ¬ h_q 77 9 = -1))) (fun ⟨_, b_q, _, _⟩ => dif (nI m) b_q) ?_ _ ⟨0, by omega, rfl, nI_0, J6, .inl ⟨fun k hk => absurd hk (Nat.not_lt_zero k), C6, k6⟩⟩
  clear C6 k6 J6 c24
  rintro ⟨y1, y2, h1, g1⟩ K ⟨i, hi, rfl, rfl, J, st⟩ hK
  unfold F_X4_read_43; dsimp only; unfold b_X4_read_43
  have j148 : ∀ (h2 : HI) (g2 : HL), JJ SLaw h h2 → ¬ h2 77 9 = -1 → LWC h2 (h 25) m → j_X4_read_148 (fun h' _ => JJ SLaw h h' ∧ LWC h' (h 25) m) h2 g2 := by
    intro h2 g2 J2 n9 L
    unfold j_X4_read_148
    exact ⟨fun _ => ⟨J2, L⟩, fun q => absurd q n9⟩
  have lwc : ∀ h2 : HI, ¬ h2 77 9 = -1 → RSl (h 25) m (h2 77 9) [] → LWC h2 (h 25) m := fun h2 n9 r => ⟨[], r, fun q => absurd q n9⟩
  have flawed : ∀ g2 : HL, ¬ h1 77 9 = -1 → j_X4_read_116 (fun h' _ => JJ SLaw h h' ∧ LWC h' (h 25) m) (nI m) h1 g2 := by
    intro g2 n9
    unfold j_X4_read_116
    refine ⟨fun _ => j148 h1 g2 J n9 (lwc h1 n9 ?_), fun q => absurd q n9⟩
    rcases st with ⟨-, -, q⟩ | ⟨k, hk, ok, bk, ek, nk⟩
    · exact absurd q n9
    · exact .inl ⟨k, hk, ok, bk, ek, nk⟩
  refine ⟨fun c => ?_, fun c => ⟨fun n9 => flawed g1 n9, fun e9 => ?_⟩⟩
  · rw [nI_leI (by omega) (by omega)] at c
    have : i = m := by omega
    subst this
    by_cases n9 : h1 77 9 = -1
    · rcases st with ⟨ok, S, -⟩ | ⟨k, hk, ok, bk, ek, nk⟩
      · have I := SIl.at ok
        have S0 := S
        generalize es : AR (h 25) i = s at S I
        obtain ⟨o, w, n, d, u⟩ := s
        obtain ⟨S, s6, s7, s8⟩ := S
        have l1 : o.length + w.length ≤ i := I.1
        have n8 : n ≤ 8 := I.2.2.2.2.2.1
        have u1 : u ≤ 1 := I.2.2.2.2.1
        have j138 : enb (AR (h 25) i) → j_X4_read_138 (fun h' _ => JJ SLaw h h' ∧ LWC h' (h 25) i) (nI i) h1 g1 := by
          intro en
          unfold j_X4_read_138
          intro h2 e2
          have q9 : h2 77 9 = nI (10 * i + 1) := by
            rw [e2, hu_eq, pk_us, show (10 : Int32) = nI 10 from rfl, pk_mul, nI_1]
          have nn : ¬ h2 77 9 = -1 := by rw [q9]; exact n10 (by omega) (by omega)
          exact j148 h2 g1 (J.hu e2 (by unfold SLaw; omega)) nn (lwc h2 nn (.inr (.inl ⟨ok, en, q9, nn⟩)))
        unfold j_X4_read_116
        rw [s8, nI_z (by omega), s6]
        refine ⟨fun q => absurd n9 q, fun _ => ⟨fun q => j138 (by rw [es]; exact fun k => q k.1), fun q => ⟨fun q2 => ?_, fun q2 => j138 (by rw [es]; exact fun k => q2 (by rw [k.2]; decide))⟩⟩⟩
        have n0 : n = 0 := by
          rw [show (0 : Int32) = nI 0 from rfl, nI_leI (by omega) (by omega)] at q2; omega
        unfold j_X4_read_148
        refine ⟨fun q => absurd n9 q, fun _ => ?_⟩
        refine c_v (q_X4_settle (r := 1) S (by omega) (by omega)) ?_
        rintro h2 g2 ⟨rfl, F, T2⟩
        have q9 : h2 77 9 = -1 := F.2.2.2.2.trans n9
        have lp := stl_len (r := 1) (w := w) (o := o)
        refine ⟨J.tr F.1, (stl 1 w o).2, .inr (.inr ⟨ok, by rw [es]; exact fun k => k ⟨q, n0⟩, q9, by rw [es]; rfl⟩), fun _ => ⟨T2.1, T2.2.1, by omega, stl_o (Nat.le_refl _) I.2.2.2.2.2.2.2.1 I.2.2.2.2.2.2.2.2⟩⟩
      · exact absurd n9 nk
    · exact flawed g1 n9
  · have hd := dif_lt c
    rw [nI_leI (by omega) (by omega)] at c
    rcases st with ⟨ok, S, -⟩ | ⟨k, hk, ok, bk, ek, nk⟩
    rotate_left
    · exact absurd e9 nk
    have I := SIl.at ok
    have T1 : TT h1 24 m 1 60 := T.cg (J 24 (by unfold SLaw; omega))
    have e25 : h1 25 = h 25 := J 25 (by unfold SLaw; omega)
    refine c_i (p_atT T1) ?_
    rintro _ _ _ ⟨rfl, rfl, rfl⟩
    rw [show tat h1 24 (nI i) (0 : Int32) = h 25 i from (tat_nI T1 (b := 0) (by omega) (by omega)).trans (by rw [e25, Nat.mul_one, Nat.add_zero])]
    generalize ec : h 25 i = ch
    have nxt : ∀ (h2 : HI) (g2 : HL), JJ SLaw h1 h2 → OUTl h2 ch i (AR (h 25) i) → j_X4_read_110 (fun h' _ => JJ SLaw h h' ∧ LWC h' (h 25) m) (fun x1 x2 h g => K (x1, x2, h, g)) (nI m) (nI i) h2 g2 := by
      intro h2 g2 J2 O
      unfold j_X4_read_110
      rintro _ rfl
      refine hK _ ⟨i + 1, by omega, rfl, (nI_1 i).symm, J.tr J2, ?_⟩ hd
      rcases O with ⟨b0, C, k9⟩ | ⟨b0, ef, nf⟩
      · refine .inl ⟨fun k hk => ?_, ?_, k9⟩
        · by_cases q : k = i
          · subst q; rw [ec]; exact b0
          · exact ok k (by omega)
        · show CTl h2 (nxL (h 25 i) (AR (h 25) i))
          rw [ec]; exact C
      · exact .inr ⟨i, by omega, ok, by rw [ec]; exact b0, by rw [ec]; exact ef, nf⟩
    have j93 : ¬ dgt ch → j_X4_read_93 (fun h' _ => JJ SLaw h h' ∧ LWC h' (h 25) m) (fun x1 x2 h g => K (x1, x2, h, g)) (nI m) (nI i) ch h1 g1 := by
      intro cd
      unfold j_X4_read_93
      intro h2 e2
      generalize es : AR (h 25) i = s at S I nxt
      obtain ⟨o, w, n, d, u⟩ := s
      obtain ⟨⟨s4, sa, s5, sw⟩, s6, s7, s8⟩ := S
      have S2 : CTl h2 (o, w, n, 0, u) := by
        refine ⟨⟨?_, ?_, ?_, ?_⟩, ?_, ?_, ?_⟩
        · rw [e2, hu_eq, pk_un (by decide)]; exact s4
        · rw [e2, hu_ne (by decide)]; exact sa
        · rw [e2, hu_eq, pk_un (by decide)]; exact s5
        · rw [e2, hu_ne (by decide)]; exact sw
        · rw [e2, hu_eq, pk_un (by decide)]; exact s6
        · rw [e2, hu_eq, pk_us]; exact nI_0.symm
        · rw [e2, hu_eq, pk_un (by decide)]; exact s8
      have k9 : h2 77 9 = -1 := by rw [e2, hu_eq, pk_un (by decide)]; exact e9
      have J2 : JJ SLaw h1 h2 := JJ.rf.hu e2 (by unfold SLaw; omega)
      refine ⟨fun c32 => nxt h2 g1 J2 (.inl ⟨bad_sp cd c32, by rw [nx_sp cd c32]; exact S2, k9⟩), fun c32 => ?_⟩
      refine c_v (q_X4_readSign I (by omega) S2 k9 cd c32) ?_
      rintro h3 g3 ⟨J3, O⟩
      exact nxt h3 g3 (J2.tr J3) O
    refine ⟨fun k1 => j93 (fun q => q.1 k1), fun k1 => ⟨fun k2 => j93 (fun q => q.2 k2), fun k2 => ?_⟩⟩
    have cd : dgt ch := ⟨k1, k2⟩
    obtain ⟨v, hv, ev, -⟩ := dg_nI cd
    rw [ev]
    refine c_v (q_X4_readDigit I (by omega) S e9 cd ev) ?_
    rintro h3 g3 ⟨J3, O⟩
    exact nxt h3 g3 J3 O
