theorem tc_kd {t : Int32} (h : okT t) : (kdT t = 1 ∧ ((tc1 t = 0 ∧ ¬ t < 0 ∧ tc2 t = t) ∨ (tc1 t = 1 ∧ t < 0 ∧ ((t = -121 ∧ tc2 t = 0) ∨ (t = -108 ∧ tc2 t = 1) ∨ (t = -104 ∧ tc2 t = 2))))) ∨ (kdT t = 2 ∧ ((t = -126 ∧ tc1 t = 3) ∨ (t = -33 ∧ tc1 t = 2))) ∨ (kdT t = 3 ∧ ∃ c, c ∈ wcL ∧ 1 ≤ rk c ∧ rk c < 6 ∧ t = -c ∧ tc1 t = opc c ∧ ¬ opc c = 0 ∧ ¬ opc c = 1 ∧ ¬ opc c = 2 ∧ ¬ opc c = 3) := by
  rcases h with ⟨v, hv, rfl⟩ | rfl | rfl | rfl | ⟨c, hc, h1, rfl⟩
  · obtain ⟨a, b⟩ := tc_n (v := v) (by omega)
    exact .inl ⟨kd_n (by omega), .inl ⟨a, nI_pos (by omega), b⟩⟩
  · exact .inl ⟨by decide, .inr ⟨by decide, by decide, .inl ⟨rfl, by decide⟩⟩⟩
  · exact .inl ⟨by decide, .inr ⟨by decide, by decide, .inr (.inl ⟨rfl, by decide⟩)⟩⟩
  · exact .inl ⟨by decide, .inr ⟨by decide, by decide, .inr (.inr ⟨rfl, by decide⟩)⟩⟩
  · have k : (c = 126 ∨ c = 33) ∨ (rk c < 6 ∧ kdT (-c) = 3 ∧ ¬ opc c = 0 ∧ ¬ opc c = 1 ∧ ¬ opc c = 2 ∧ ¬ opc c = 3) := (by decide : ∀ c ∈ wcL, 1 ≤ rk c → (c = 126 ∨ c = 33) ∨ (rk c < 6 ∧ kdT (-c) = 3 ∧ ¬ opc c = 0 ∧ ¬ opc c = 1 ∧ ¬ opc c = 2 ∧ ¬ opc c = 3)) c hc h1
    rcases k with (rfl | rfl) | ⟨a, b, d⟩
    · exact .inr (.inl ⟨by decide, .inl ⟨by decide, by decide⟩⟩)
    · exact .inr (.inl ⟨by decide, .inr ⟨by decide, by decide⟩⟩)
    · exact .inr (.inr ⟨b, c, hc, h1, a, rfl, (tc_w hc h1).1, d⟩)
theorem SK.mm {f : Nat → Int32} {k : Int32 → Int32} {a b : List Int32} {x : Int32} (h : SK f ((a ++ x :: b).map k)) : f b.length = k x := by
  rw [List.map_append, List.map_cons] at h
  have e := h.mid
  rw [List.length_map] at e
  exact e
theorem q_X11_tells {h : HI} {g : HL} (hR : RI (h 136)) {p : List Int32} (P : PRr h p) (hl : p.length ≤ 60) (G : gdl p 1) (OK : ∀ t, t ∈ p → okT t) {a0 : Nat} (ha0 : a0 < 24) {y l hh : Int32} (el : h 136 (20 + 5 * a0 + 0) = l) (eh : h 136 (20 + 5 * a0 + 1) = hh) : w_X11_tells (nI a0) y h g (fun r h' _ => h = h' ∧ evL y.toInt64 l.toInt64 hh.toInt64 p = [r]) := by
  obtain ⟨e3, S1, S2⟩ := P
  unfold w_X11_tells
  refine lpE_intro (fun ⟨a_q, b_q, c_q, d_q, h_q, g_q⟩ => ∃ a b : List Int32, p = a ++ b ∧ nI a0 = a_q ∧ y = b_q ∧ nI (evL y.toInt64 l.toInt64 hh.toInt64 b).length = c_q ∧ nI b.length = d_q ∧ h = h_q ∧ SKL (g_q 142) (evL y.toInt64 l.toInt64 hh.toInt64 b)) (fun ⟨_, _, _, d_q, _, _⟩ => dif (nI p.length) d_q) ?_ _ ⟨p, [], (List.append_nil p).symm, rfl, rfl, nI_0, nI_0, rfl, trivial⟩
  rintro ⟨y1, y2, y3, y4, h1, g1⟩ K ⟨a, b, ep, rfl, rfl, rfl, rfl, rfl, SL⟩ hK
  unfold F_X11_tells_5; dsimp only; unfold b_X11_tells_5
  rw [e3]
  have lp : p.length = a.length + b.length := by rw [ep, List.length_append]
  refine ⟨fun c => ?_, fun c => ?_⟩
  · rw [nI_leI (by omega) (by omega)] at c
    have ea : a = [] := List.eq_nil_of_length_eq_zero (by omega)
    subst ea
    have ep : p = b := ep
    subst ep
    have l1 := gdl_len (y := y.toInt64) (l := l.toInt64) (hh := hh.toInt64) G
    generalize evL y.toInt64 l.toInt64 hh.toInt64 p = s at l1 SL ⊢
    match s, l1, SL with
    | [v], _, SL =>
      rw [cl0]
      refine ⟨vp_in_iff.mpr (by decide), rfl, ?_⟩
      rw [show g1 142 0 = v from SL.1]
  have hd := dif_lt c
  rw [nI_leI (by omega) (by omega)] at c
  rcases nil_or a with rfl | ⟨a', t, rfl⟩
  · rw [List.length_nil] at lp; omega
  have ep : p = a' ++ t :: b := by rw [ep, List.append_assoc]; rfl
  have vb : vp_in (nI b.length) 70 := vp_in_nI (by omega) (by omega)
  have ht : okT t := OK t (by rw [ep]; exact List.mem_append_right _ (List.mem_cons_self ..))
  have k1 : h 139 b.length = tc1 t := by rw [ep] at S1; exact S1.mm
  have k2 : h 140 b.length = tc2 t := by rw [ep] at S2; exact S2.mm
  refine and_have vb (fun _ => ?_)
  rw [nI_clamp (n := b.length) (by omega), k1]
  rintro _ rfl
  obtain ⟨d', d1, gb⟩ := gd_at G ep
  have lb := gdl_len (y := y.toInt64) (l := l.toInt64) (hh := hh.toInt64) gb
  have pb := gdl_pos gb
  have ev1 : evL y.toInt64 l.toInt64 hh.toInt64 (t :: b) = apT y.toInt64 l.toInt64 hh.toInt64 t (evL y.toInt64 l.toInt64 hh.toInt64 b) := rfl
  generalize eb : evL y.toInt64 l.toInt64 hh.toInt64 b = s at SL lb ev1 ⊢
  have j196 : ∀ (s' : List Int64) (g2 : HL), evL y.toInt64 l.toInt64 hh.toInt64 (t :: b) = s' → SKL (g2 142) s' → j_X11_tells_196 (fun r h' _ => h = h' ∧ evL y.toInt64 l.toInt64 hh.toInt64 p = [r]) (fun x1 x2 x3 x4 h g => K (x1, x2, x3, x4, h, g)) (nI a0) y (nI s'.length) (nI b.length) h g2 := by
    intro s' g2 es T2
    unfold j_X11_tells_196
    rintro _ rfl
    subst es
    exact hK _ ⟨a', t :: b, ep, rfl, rfl, rfl, (nI_1 b.length).symm, rfl, T2⟩ hd
  have ix : ∀ k : Nat, k < 5 → (((20 : Int32) + ((5 : Int32) * nI a0)) + nI k).toNatClampNeg = 20 + 5 * a0 + k := fun k hk => by
    rw [show ((20 : Int32) + ((5 : Int32) * nI a0)) + nI k = nI (20 + 5 * a0 + k) from ix3 20 5 a0 k, nI_clamp (by omega)]
  have push : kdT t = 1 → ((tc1 t = 0 ∧ ¬ t < 0 ∧ tc2 t = t) ∨ (tc1 t = 1 ∧ t < 0 ∧ ((t = -121 ∧ tc2 t = 0) ∨ (t = -108 ∧ tc2 t = 1) ∨ (t = -104 ∧ tc2 t = 2)))) → j_X11_tells_34 (fun r h' _ => h = h' ∧ evL y.toInt64 l.toInt64 hh.toInt64 p = [r]) (fun x1 x2 x3 x4 h g => K (x1, x2, x3, x4, h, g)) (nI a0) y (nI s.length) (nI b.length) (tc1 t) h g1 := by
    intro q1 o
    rw [if_pos q1] at lb pb
    have ea : apT y.toInt64 l.toInt64 hh.toInt64 t s = psL y.toInt64 l.toInt64 hh.toInt64 t :: s := if_pos q1
    have j98 : ∀ v : Int64, psL y.toInt64 l.toInt64 hh.toInt64 t = v → j_X11_tells_98 (fun r h' _ => h = h' ∧ evL y.toInt64 l.toInt64 hh.toInt64 p = [r]) (fun x1 x2 x3 x4 h g => K (x1, x2, x3, x4, h, g)) (nI a0) y (nI s.length) (nI b.length) (nI s.length) v h g1 := by
      rintro _ rfl
      unfold j_X11_tells_98
      refine and_have (vp_in_nI (by omega) (by omega)) (fun _ => ?_)
      intro g2 e2
      rw [nI_clamp (by omega)] at e2
      rintro _ rfl
      rw [nI_1]
      refine j196 (psL y.toInt64 l.toInt64 hh.toInt64 t :: s) g2 (ev1.trans ea) ?_
      rw [e2, hul_eq]; exact SKL.push SL
    unfold j_X11_tells_34
    rw [nI_clamp (n := b.length) (by omega), k2]
    rcases o with ⟨z1, z2, z3⟩ | ⟨z1, z2, z3⟩
    · rw [z1, z3]
      exact ⟨fun q => absurd rfl q, fun _ => and_have vb (fun _ => j98 _ (if_pos z2))⟩
    · rw [z1]
      refine ⟨fun _ => and_have vb (fun _ => ⟨fun n0 => and_have vb (fun _ => ⟨fun n1 => ?_, fun n1 => ?_⟩), fun n0 => ?_⟩), fun q => absurd q (by decide)⟩
      · refine c_i (p_X11_partOf hR (bd_of (by omega) (by omega) (by omega)) ((bd_lit (n := 1) (by decide)).mo (by decide) (by decide))) ?_
        rintro _ _ _ ⟨rfl, rfl, rfl⟩
        rw [show (((20 : Int32) + ((5 : Int32) * nI a0)) + (1 : Int32)).toNatClampNeg = 20 + 5 * a0 + 1 from ix 1 (by omega), eh]
        refine j98 _ ?_
        rcases z3 with ⟨rfl, w⟩ | ⟨rfl, w⟩ | ⟨rfl, w⟩
        · exact absurd w n0
        · exact absurd w n1
        · rfl
      · refine c_i (p_X11_partOf hR (bd_of (by omega) (by omega) (by omega)) ((bd_lit (n := 0) (by decide)).mo (by decide) (by decide))) ?_
        rintro _ _ _ ⟨rfl, rfl, rfl⟩
        rw [show (((20 : Int32) + ((5 : Int32) * nI a0)) + (0 : Int32)).toNatClampNeg = 20 + 5 * a0 + 0 from ix 0 (by omega), el]
        refine j98 _ ?_
        rcases z3 with ⟨rfl, w⟩ | ⟨rfl, w⟩ | ⟨rfl, w⟩
        · exact absurd w n0
        · rfl
        · exact absurd n1 (by decide)
      · refine j98 _ ?_
        rcases z3 with ⟨rfl, w⟩ | ⟨rfl, w⟩ | ⟨rfl, w⟩
        · rfl
        · exact absurd n0 (by decide)
        · exact absurd n0 (by decide)
  rcases tc_kd ht with ⟨q1, o⟩ | ⟨q2, o⟩ | ⟨q3, c', hc', r1, r6, et, ec, z0, z1, z2, z3⟩
  · refine ⟨fun _ => push q1 o, fun n0 => ⟨fun n1 => ?_, fun _ => push q1 o⟩⟩
    rcases o with o | o
    · exact absurd o.1 n0
    · exact absurd o.1 n1
  · rw [if_neg (by omega), if_pos q2] at lb pb
    have ea : apT y.toInt64 l.toInt64 hh.toInt64 t s = u1L t (s.headD 0) :: s.tail := (if_neg (by omega)).trans (if_pos q2)
    cases s with
    | nil => rw [List.length_nil] at lb; omega
    | cons x xs =>
      have ea : apT y.toInt64 l.toInt64 hh.toInt64 t (x :: xs) = u1L t x :: xs := ea
      rw [List.length_cons] at lb ⊢
      have v : vp_in (nI xs.length) 70 := vp_in_nI (by omega) (by omega)
      have fin : ∀ (w : Int64) (g2 : HL), u1L t x = w → g2 = hul g1 142 xs.length w → j_X11_tells_196 (fun r h' _ => h = h' ∧ evL y.toInt64 l.toInt64 hh.toInt64 p = [r]) (fun x1 x2 x3 x4 h g => K (x1, x2, x3, x4, h, g)) (nI a0) y (nI (xs.length + 1)) (nI b.length) h g2 := by
        rintro _ g2 rfl e2
        refine j196 (u1L t x :: xs) g2 (ev1.trans ea) ?_
        rw [e2, hul_eq]; exact SKL.push SL.2
      rw [nI_pred, nI_clamp (n := xs.length) (by omega), SL.1]
      rcases o with ⟨rfl, w⟩ | ⟨rfl, w⟩
      · rw [w]
        refine ⟨fun q => absurd q (by decide), fun _ => ⟨fun _ => ⟨fun q => absurd rfl q, fun _ => and_have v (fun _ => and_have v (fun _ => ?_))⟩, fun q => absurd q (by decide)⟩⟩
        intro g2 e2
        exact fin _ g2 rfl e2
      · rw [w]
        have j162 : ∀ z : Int64, u1L (-33) x = z → j_X11_tells_162 (fun r h' _ => h = h' ∧ evL y.toInt64 l.toInt64 hh.toInt64 p = [r]) (fun x1 x2 x3 x4 h g => K (x1, x2, x3, x4, h, g)) (nI a0) y (nI (xs.length + 1)) (nI b.length) (nI xs.length) z h g1 := by
          intro z ez
          unfold j_X11_tells_162
          refine and_have v (fun _ => ?_)
          intro g2 e2
          rw [nI_clamp (by omega)] at e2
          exact fin _ g2 ez e2
        refine ⟨fun q => absurd q (by decide), fun _ => ⟨fun _ => ⟨fun _ => ⟨fun q => absurd rfl q, fun _ => and_have v (fun _ => ⟨fun q => j162 _ ?_, fun q => j162 _ ?_⟩)⟩, fun q => absurd q (by decide)⟩, fun q => absurd q (by decide)⟩⟩
        · exact (if_neg (by decide)).trans (if_pos q)
        · exact (if_neg (by decide)).trans (if_neg (fun k => k q))
  · rw [if_neg (by omega), if_neg (by omega)] at lb pb
    have ea : apT y.toInt64 l.toInt64 hh.toInt64 t s = jn (-t) (s.tail.headD 0) (s.headD 0) :: s.tail.tail := (if_neg (by omega)).trans (if_neg (by omega))
    rw [et, Int32.neg_neg] at ea
    rw [ec]
    refine ⟨fun q => absurd q z0, fun _ => ⟨fun _ => ⟨fun _ => ⟨fun _ => ?_, fun q => absurd q z2⟩, fun q => absurd q z3⟩, fun q => absurd q z1⟩⟩
    cases s with
    | nil => rw [List.length_nil] at lb; omega
    | cons x xs =>
      cases xs with
      | nil => rw [List.length_cons, List.length_nil] at lb; omega
      | cons x2 xs =>
        rw [← et] at ea
        have ea : apT y.toInt64 l.toInt64 hh.toInt64 t (x :: x2 :: xs) = jn c' x2 x :: xs := ea
        rw [List.length_cons, List.length_cons] at lb ⊢
        rw [pk_m1]
        rintro _ rfl
        have sx : g1 142 (xs.length + 1) = x := SL.1
        have sx2 : g1 142 xs.length = x2 := SL.2.1
        rw [nI_pred, nI_clamp (n := xs.length) (by omega), nI_clamp (n := xs.length + 1) (by omega), sx, sx2]
        have v : vp_in (nI xs.length) 70 := vp_in_nI (by omega) (by omega)
        refine and_have v (fun _ => and_have (vp_in_nI (by omega) (by omega)) (fun _ => ?_))
        refine c_l (q_X11_twoOf hc' ⟨r1, r6⟩) ?_
        rintro _ _ _ ⟨rfl, rfl, rfl⟩
        refine and_have v (fun _ => ?_)
        intro g2 e2
        refine j196 (jn c' x2 x :: xs) g2 (ev1.trans ea) ?_
        rw [e2, hul_eq]; exact SKL.push SL.2.2
/-! WORN -/
theorem lgc_lt {a b : Int64} : lg_cmp a b < 0 ↔ a.toInt < b.toInt := by
  unfold lg_cmp
  by_cases q : a > b
  · rw [if_pos q]
    have q' : b < a := q
    rw [Int64.lt_iff_toInt_lt] at q'
    exact ⟨fun x => absurd x (by decide), fun x => by omega⟩
  · rw [if_neg q]
    have q' : ¬ b < a := q
    rw [Int64.lt_iff_toInt_lt] at q'
    by_cases r : a = b
    · subst r; rw [if_pos rfl]; exact ⟨fun x => absurd x (by decide), fun x => by omega⟩
    · rw [if_neg r]
      have r' : a.toInt ≠ b.toInt := fun e => r (Int64.toInt_inj.mp e)
      exact ⟨fun _ => by omega, fun _ => by decide⟩
theorem lgc_gt {a c : Int64} : 0 < lg_cmp a c ↔ c.toInt < a.toInt := by
  unfold lg_cmp
  by_cases q : a > c
  · rw [if_pos q]
    have q' : c < a := q
    rw [Int64.lt_iff_toInt_lt] at q'
    exact ⟨fun _ => q', fun x => by decide⟩
  · rw [if_neg q]
    have q' : ¬ c < a := q
    rw [Int64.lt_iff_toInt_lt] at q'
    by_cases r : a = c
    · subst r; rw [if_pos rfl]; exact ⟨fun x => absurd x (by decide), fun x => by omega⟩
    · rw [if_neg r]; exact ⟨fun x => absurd x (by decide), fun x => by omega⟩
def clC (v : Int64) : Int32 := (if (if v < (10000 : Int64) then v else (10000 : Int64)) < (0 : Int64) then (0 : Int64) else (if v < (10000 : Int64) then v else (10000 : Int64))).toInt32
/-- between 0 and 10000, in the reference's words -/
theorem cl_ref {v : Int64} : (0 ≤ lg_cmp v 0 → (lg_cmp v 10000 ≤ 0 → clC v = v.toInt32) ∧ (¬ lg_cmp v 10000 ≤ 0 → clC v = 10000)) ∧ (¬ 0 ≤ lg_cmp v 0 → clC v = 0) := by
  have e0 : (0 : Int64).toInt = 0 := by decide
  have e1 : (10000 : Int64).toInt = 10000 := by decide
  have k0 : 0 ≤ lg_cmp v 0 ↔ ¬ v < 0 := by
    rw [← Int32.not_lt, lgc_lt, Int64.lt_iff_toInt_lt]
  have k1 : lg_cmp v 10000 ≤ 0 ↔ ¬ (10000 : Int64) < v := by
    rw [← Int32.not_lt, lgc_gt, Int64.lt_iff_toInt_lt]
  rw [k0, k1]
  unfold clC
  refine ⟨fun a => ⟨fun b => ?_, fun b => ?_⟩, fun a => ?_⟩
  · by_cases q : v < 10000
    · rw [if_pos q, if_neg a]
    · have : v = 10000 := by
        rw [Int64.lt_iff_toInt_lt] at q b
        exact Int64.toInt_inj.mp (by omega)
      subst this; decide
  · have q : ¬ v < 10000 := fun q => by
      rw [Int64.lt_iff_toInt_lt] at q b
      omega
    rw [if_neg q, if_neg (by decide)]; decide
  · have a : v < 0 := Decidable.byContradiction a
    have q : v < 10000 := by
      rw [Int64.lt_iff_toInt_lt] at a ⊢
      omega
    rw [if_pos q, if_pos a]; decide
/-- WORN by the fault, the program, the years, LOAD and HARDNESS -/
def wvl (fl : Int32) (p : List Int32) (y l hh : Int32) : Int32 := if fl = -1 then clC ((evL y.toInt64 l.toInt64 hh.toInt64 p).headD 0) else y
theorem wvl_un {f : Nat → Int32} {n : Nat} {a b : Int32} {p q : List Int32} {y l hh : Int32} (x : RSl f n a p) (z : RSl f n b q) : wvl a p y l hh = wvl b q y l hh := by
  obtain ⟨e, k⟩ := x.un z
  subst e
  by_cases c : a = -1
  · rw [k c]
  · unfold wvl; rw [if_neg c, if_neg c]
theorem yr_c {a b : Nat} (ha : a ≤ 99) (hb : b ≤ 99) : (if (0 : Int32) < nI a - nI b then nI a - nI b else 0) = nI (a - b) := by
  by_cases c : b ≤ a
  · rw [nI_subN c]
    by_cases q : (0 : Int32) < nI (a - b)
    · rw [if_pos q]
    · rw [if_neg q]
      rw [show (0 : Int32) = nI 0 from rfl, nI_ltI (by omega) (by omega)] at q
      rw [show a - b = 0 by omega, nI_0]
  · have e := pk_sub_toInt (a := a) (b := b) (by omega) (by omega)
    rw [if_neg (fun q => by rw [Int32.lt_iff_toInt_lt, e, show (0 : Int32).toInt = 0 by decide] at q; omega), show a - b = 0 by omega, nI_0]
theorem q_X4_wornOf {h : HI} {g : HL} {m n : Nat} {f : Nat → Int32} (T : TT h 2 m 5 24) (L : LWC h f n) {a0 a b : Nat} (ha0 : a0 < m) (ha : a ≤ 99) (hb : b ≤ 99) (ey : h 3 (a0 * 5 + 2) = nI b) : w_X4_wornOf (nI a0) (nI a) h g (fun r h' _ => h = h' ∧ ∃ p, RSl f n (h 77 9) p ∧ r = wvl (h 77 9) p (nI (a - b)) (h 3 (a0 * 5 + 0)) (h 3 (a0 * 5 + 1))) := by
  obtain ⟨p, rs, k⟩ := L
  unfold w_X4_wornOf
  refine c_i (p_atT T) ?_
  rintro _ _ _ ⟨rfl, rfl, rfl⟩
  rw [show tat h 2 (nI a0) (2 : Int32) = nI b from (tat_nI T (b := 2) ha0 (by omega)).trans ey, yr_c ha hb]
  rintro _ rfl
  refine ⟨fun c => ?_, fun c => ⟨rfl, p, rs, (if_neg c).symm⟩⟩
  obtain ⟨e4, e8, hl, -⟩ := k c
  have w := (by rw [c] at rs; exact rs.wf : gdl p 1 ∧ p.length ≤ n ∧ ∀ t, t ∈ p → okT t)
  refine c_i (p_atT T) ?_
  rintro _ _ _ ⟨rfl, rfl, rfl⟩
  refine c_i (p_atT T) ?_
  rintro _ _ _ ⟨rfl, rfl, rfl⟩
  rw [show tat h 2 (nI a0) (0 : Int32) = h 3 (a0 * 5 + 0) from tat_nI T (b := 0) ha0 (by omega), show tat h 2 (nI a0) (1 : Int32) = h 3 (a0 * 5 + 1) from tat_nI T (b := 1) ha0 (by omega)]
  refine c_l (q_X4_tells e4 e8 hl w.1) ?_
  rintro r _ g1 ⟨rfl, er⟩
  refine ⟨rfl, p, rs, ?_⟩
  unfold wvl
  rw [if_pos c, er]; rfl
theorem q_X11_wornOf {h : HI} {g : HL} (hR : RI (h 136)) {n : Nat} (en : h 136 8 = nI n) (hn : n ≤ 60) {a0 a b : Nat} (ha0 : a0 < 24) (ha : a ≤ 99) (hb : b ≤ 99) (ey : h 136 (20 + 5 * a0 + 2) = nI b) : w_X11_wornOf (nI a0) (nI a) h g (fun r h' _ => KJ SRd h h' ∧ ∃ fl p, RSl (fun k => h 136 (827 + k)) n fl p ∧ r = wvl fl p (nI (a - b)) (h 136 (20 + 5 * a0 + 0)) (h 136 (20 + 5 * a0 + 1))) := by
  have b0 : bd 0 23 (nI a0) := bd_of (by omega) (by omega) (by omega)
  have b2 : bd 0 4 (2 : Int32) := (bd_lit (n := 2) (by decide)).mo (by decide) (by decide)
  have ix : (((20 : Int32) + ((5 : Int32) * nI a0)) + (2 : Int32)).toNatClampNeg = 20 + 5 * a0 + 2 := by
    rw [show ((20 : Int32) + ((5 : Int32) * nI a0)) + (2 : Int32) = nI (20 + 5 * a0 + 2) from ix3 20 5 a0 2, nI_clamp (by omega)]
  have j42 : ∀ (s : Int64) (h1 : HI) (g1 : HL) (fl : Int32) (p : List Int32), KJ SRd h h1 → RSl (fun k => h 136 (827 + k)) n fl p → clC s = wvl fl p (nI (a - b)) (h 136 (20 + 5 * a0 + 0)) (h 136 (20 + 5 * a0 + 1)) → j_X11_wornOf_42 (fun r h' _ => KJ SRd h h' ∧ ∃ fl p, RSl (fun k => h 136 (827 + k)) n fl p ∧ r = wvl fl p (nI (a - b)) (h 136 (20 + 5 * a0 + 0)) (h 136 (20 + 5 * a0 + 1))) s h1 g1 := by
    intro s h1 g1 fl p J rs e
    have k := cl_ref (v := s)
    unfold j_X11_wornOf_42
    exact ⟨fun q => ⟨fun q2 => ⟨J, fl, p, rs, ((k.1 q).1 q2).symm.trans e⟩, fun q2 => ⟨J, fl, p, rs, ((k.1 q).2 q2).symm.trans e⟩⟩, fun q => ⟨J, fl, p, rs, (k.2 q).symm.trans e⟩⟩
  have j22 : ∀ (s : Int32) (g1 : HL), s = nI (a - b) → j_X11_wornOf_22 (fun r h' _ => KJ SRd h h' ∧ ∃ fl p, RSl (fun k => h 136 (827 + k)) n fl p ∧ r = wvl fl p (nI (a - b)) (h 136 (20 + 5 * a0 + 0)) (h 136 (20 + 5 * a0 + 1))) (nI a0) s h g1 := by
    rintro _ g1 rfl
    unfold j_X11_wornOf_22
    refine c_i (q_X11_reads en hn) ?_
    rintro r h2 g2 ⟨J2, p, rs, hP⟩
    refine ⟨fun q => j42 _ _ _ r p J2 rs ?_, fun q => ?_⟩
    · unfold wvl
      rw [if_neg q]
      have k := cl_ref (v := (nI (a - b)).toInt64)
      have e : (nI (a - b)).toInt64.toInt = ((a - b : Nat) : Int) := by rw [Int32.toInt_toInt64, nI_toInt (by omega)]
      have c0 : 0 ≤ lg_cmp (nI (a - b)).toInt64 0 := by
        rw [← Int32.not_lt, lgc_lt, e, show (0 : Int64).toInt = 0 by decide]; omega
      have c1 : lg_cmp (nI (a - b)).toInt64 10000 ≤ 0 := by
        rw [← Int32.not_lt, lgc_gt, e, show (10000 : Int64).toInt = 10000 by decide]; omega
      rw [(k.1 c0).1 c1, Int32.toInt32_toInt64]
    · have rs' := rs
      rw [q] at rs'
      obtain ⟨w1, w2, w3⟩ := rs'.wf
      have h36 : h2 136 = h 136 := funext fun k => J2 136 k (by unfold SRd; omega)
      refine c_l (q_X11_tells (hR.kj J2 (fun k => by unfold SRd; omega)) (hP q) (by omega) w1 w3 ha0 rfl rfl) ?_
      rintro r3 _ g3 ⟨rfl, er⟩
      refine j42 _ _ _ r p J2 rs ?_
      unfold wvl
      rw [if_pos q, ← h36, er]; rfl
  unfold w_X11_wornOf
  refine c_i (p_X11_partOf hR b0 b2) ?_
  rintro _ _ _ ⟨rfl, rfl, rfl⟩
  rw [ix, ey, nI_leI (by omega) (by omega)]
  refine ⟨fun c => ?_, fun c => j22 _ _ (by rw [show a - b = 0 by omega, nI_0])⟩
  refine c_i (p_X11_partOf hR b0 b2) ?_
  rintro _ _ _ ⟨rfl, rfl, rfl⟩
  rw [ix, ey]
  exact j22 _ _ (nI_subN c)
