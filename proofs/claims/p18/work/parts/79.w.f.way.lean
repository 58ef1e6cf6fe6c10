/-! WAY: the reference's answer -/
def MBo (f : Nat → Int32) (W lo hi s : Nat) (l : List Nat) : Prop := RTW f W s lo hi l ∧ ∀ m : List Nat, m.length = l.length → RTW f W s lo hi m → csW f l < csW f m ∨ (csW f l = csW f m ∧ cdW l ≤ cdW m)
theorem lst_of {P : Nat → Prop} : ∀ n, P n → ∃ k, P k ∧ ∀ j, P j → k ≤ j := by
  intro n
  induction n using Nat.strongRecOn with
  | _ n ih =>
    intro hn
    by_cases c : ∃ m, m < n ∧ P m
    · obtain ⟨m, m1, m2⟩ := c
      exact ih m m1 m2
    · exact ⟨n, hn, fun j pj => Nat.le_of_not_lt (fun q => c ⟨j, q, pj⟩)⟩
theorem LRo.best {f : Nat → Int32} {W lo hi n s : Nat} {x : Int32} (a : LRo f W lo hi n s x) (hx : x < 1000000) : ∃ l : List Nat, l.length = n ∧ MBo f W lo hi s l ∧ x = nI (csW f l) ∧ csW f l < 1000000 := by
  rcases a with ⟨a1, -⟩ | ⟨l0, ⟨e0, r0⟩, a2, a3, a4⟩
  · rw [a1] at hx; exact absurd hx (by decide)
  · obtain ⟨k, ⟨l, l1, l2, l3, l4⟩, k2⟩ := lst_of (P := fun c => ∃ l : List Nat, l.length = n ∧ RTW f W s lo hi l ∧ csW f l = csW f l0 ∧ cdW l = c) _ ⟨l0, e0, r0, rfl, rfl⟩
    refine ⟨l, l1, ⟨l2, fun m em rm => ?_⟩, by rw [l3]; exact a3, by rw [l3]; exact a2⟩
    have h1 := a4 m ⟨by omega, rm⟩
    by_cases c : csW f l0 < csW f m
    · exact .inl (by omega)
    · exact .inr ⟨by omega, by rw [l4]; exact k2 _ ⟨m, by omega, rm, by omega, rfl⟩⟩
theorem MBo.tail {f : Nat → Int32} {W lo hi s t w : Nat} {d : List Nat} (a : MBo f W lo hi s (w :: d)) (x : VS f W w s t) : MBo f W lo hi t d := by
  obtain ⟨r, m⟩ := a
  obtain ⟨u, y, r⟩ := RTW.cons.mp r
  have := x.un y
  subst this
  refine ⟨r, fun k ek rk => ?_⟩
  have h1 := m (w :: k) (by show k.length + 1 = d.length + 1; omega) (RTW.cons.mpr ⟨t, x, rk⟩)
  have h2 : csW f (w :: d) = pcW f w + csW f d := rfl
  have h3 : csW f (w :: k) = pcW f w + csW f k := rfl
  have h4 : cdW (w :: d) = w * 8 ^ d.length + cdW d := rfl
  have h5 : cdW (w :: k) = w * 8 ^ k.length + cdW k := rfl
  rw [ek] at h5
  omega
theorem MBo.cost {f : Nat → Int32} {W lo hi s : Nat} {l : List Nat} {x : Int32} (a : MBo f W lo hi s l) (b : LRo f W lo hi l.length s x) : x = nI (csW f l) ∧ csW f l < 1000000 := by
  rcases b with ⟨-, b2⟩ | ⟨l1, ⟨e1, r1⟩, b2, b3, b4⟩
  · exact absurd ⟨rfl, a.1⟩ (b2 l)
  · have h1 := b4 l ⟨rfl, a.1⟩
    have h2 := a.2 l1 e1 r1
    have : csW f l = csW f l1 := by omega
    rw [this]; exact ⟨b3, b2⟩
theorem MBo.dig {f q : Nat → Int32} {W lo hi s w0 : Nat} {d : List Nat} (v : VR f) (hW : W ≤ 8) (hs : s ≤ 3000) (hn : d.length ≤ 4) (a : MBo f W lo hi s (w0 :: d)) (hc : csW f (w0 :: d) < 1000000) (hq : ∀ t, 1 ≤ t → t ≤ 3000 → LRo f W lo hi d.length t (q (3001 * d.length + t))) : bv f q w0 s d.length = nI (csW f (w0 :: d)) ∧ ∀ w, w < w0 → ¬ bv f q w s d.length = nI (csW f (w0 :: d)) := by
  obtain ⟨t0, x0, -⟩ := RTW.cons.mp a.1
  constructor
  · rcases by_LY v hW x0.1 hs hn hq with ⟨-, n⟩ | ⟨l, ⟨m, rfl, em, r⟩, b2, b3, b4⟩
    · exact absurd ⟨d, rfl, rfl, a.1⟩ (n (w0 :: d))
    · have h1 := b4 (w0 :: d) ⟨d, rfl, rfl, a.1⟩
      have h2 := a.2 (w0 :: m) (by show m.length + 1 = d.length + 1; omega) r
      rw [b3, show csW f (w0 :: m) = csW f (w0 :: d) by omega]
  · intro w hw e
    rcases by_LY v hW (Nat.lt_trans hw x0.1) hs hn hq with ⟨b1, -⟩ | ⟨l, ⟨m, rfl, em, r⟩, b2, b3, b4⟩
    · rw [e, nI_toInt (by omega)] at b1; omega
    · have e2 : csW f (w :: m) = csW f (w0 :: d) := (nI_eq (by omega) (by omega)).mp (b3.symm.trans e)
      have h2 := a.2 (w :: m) (by show m.length + 1 = d.length + 1; omega) r
      obtain ⟨t, -, -, r⟩ := r
      have h4 : cdW (w0 :: d) = w0 * 8 ^ d.length + cdW d := rfl
      have h5 : cdW (w :: m) = w * 8 ^ m.length + cdW m := rfl
      obtain ⟨u, -, r⟩ := r
      have h6 := cdW_lt hW r
      rw [em] at h5 h6
      have h7 := Nat.mul_le_mul_right (8 ^ d.length) (show w + 1 ≤ w0 from hw)
      rw [Nat.add_mul, Nat.one_mul] at h7
      omega
theorem gd_mid {w : Nat} {d : List Nat} : ∀ p : List Nat, (p ++ w :: d).getD p.length 0 = w
  | [] => rfl
  | _ :: p => gd_mid p
theorem q_X11_way {h : HI} {g : HL} {f : Nat → Int32} {W : Nat} (ef : h 136 = f) (v : VR f) (eW : f 3 = nI W) (hW : W ≤ 8) {x1 x2 x3 x4 : Int32} : w_X11_way x1 x2 x3 x4 h g (fun r h' _ => KJ SPr h h' ∧ AWY f W x1 x2 x3 x4 r) := by
  have ok1 : ∀ {s lo hi : Nat}, okW x1 x2 x3 x4 s lo hi → bd 1 3000 x1 ∧ bd 1 x3.toInt x2 ∧ bd x2.toInt 3000 x3 ∧ -2 ≤ x4.toInt := fun o => by
    unfold okW at o
    obtain ⟨rfl, rfl, rfl, o⟩ := o
    unfold bd
    rw [nI_toInt (by omega), nI_toInt (by omega), nI_toInt (by omega)]
    omega
  unfold w_X11_way
  refine c_in3 (fun q1 => ⟨fun c => absI c, fun _ => ?_⟩) (fun q1 => ⟨fun _ => ⟨KJ.rf, .inl ⟨fun s lo hi o => q1 ((ok1 o).1.mo (by decide) (by decide)), rfl⟩⟩, fun c => absN c⟩)
  refine c_in3 (fun q2 => ⟨fun c => absI c, fun _ => ?_⟩) (fun q2 => ⟨fun _ => ⟨KJ.rf, .inl ⟨fun s lo hi o => q2 ((ok1 o).2.1.mo (by decide) (by rw [Int32.toInt_toInt64]; exact Int.le_refl _)), rfl⟩⟩, fun c => absN c⟩)
  refine c_in3 (fun q3 => ⟨fun c => absI c, fun _ => ?_⟩) (fun q3 => ⟨fun _ => ⟨KJ.rf, .inl ⟨fun s lo hi o => q3 ((ok1 o).2.2.1.mo (by rw [Int32.toInt_toInt64]; exact Int.le_refl _) (by decide)), rfl⟩⟩, fun c => absN c⟩)
  refine ⟨fun c4 => ?_, fun c4 => ⟨KJ.rf, .inl ⟨fun s lo hi o => c4 (Int32.le_iff_toInt_le.mpr (by have := (ok1 o).2.2.2; rw [show (-2 : Int32).toInt = -2 by decide]; exact this)), rfl⟩⟩⟩
  rw [Int32.le_iff_toInt_le, show (-2 : Int32).toInt = -2 by decide] at c4
  have q1 : bd 1 3000 x1 := q1.mo (by decide) (by decide)
  have q2 : bd 1 x3.toInt x2 := q2.mo (by decide) (by rw [Int32.toInt_toInt64]; exact Int.le_refl _)
  have q3 : bd x2.toInt 3000 x3 := q3.mo (by rw [Int32.toInt_toInt64]; exact Int.le_refl _) (by decide)
  have q2' : bd 1 3000 x2 := ⟨q2.1, Int.le_trans q2.2 q3.2⟩
  obtain ⟨s, s2, s1, s3, rfl⟩ := bd_nIp q1 (by omega)
  obtain ⟨lo, l2, l1, l3, rfl⟩ := bd_nIp q2' (by omega)
  obtain ⟨hi, h2, h1, h3, rfl⟩ := bd_nIp q3 (by rw [nI_toInt l3]; omega)
  rw [nI_toInt l3] at h1
  have ok : okW (nI s) (nI lo) (nI hi) x4 s lo hi := ⟨rfl, rfl, rfl, by omega, by omega, by omega, by omega, by omega, c4⟩
  refine c_v (q_X11_findPrices ef v eW hW ⟨by omega, by omega, by omega⟩) ?_
  rintro h1 g1 ⟨J1, P1⟩
  have eF' : h1 136 = f := (funext fun k => J1 136 k (by unfold SPr; omega) : h1 136 = h 136).trans ef
  have hP : ∀ n, n ≤ 5 → LRo f W lo hi n s (h1 143 (3001 * n + s)) := fun n hn => P1 n hn s (by omega) (by omega)
  have ei : ∀ k t : Nat, (3001 : Int32) * nI k + nI t = nI (3001 * k + t) := fun k t => ix2' k t
  have vi : ∀ k t : Nat, k ≤ 5 → t ≤ 3000 → vp_in (nI (3001 * k + t)) 18006 := fun k t hk ht => vp_in_nI (by omega) (by omega)
  refine lpE_intro (fun ⟨a_q, b_q, c_q, d_q, h_q, _⟩ => ∃ b n : Nat, b < n ∧ n ≤ 6 ∧ nI s = a_q ∧ x4 = b_q ∧ nI b = c_q ∧ nI n = d_q ∧ h1 = h_q ∧ (∀ m, m < n → h1 143 (3001 * b + s) ≤ h1 143 (3001 * m + s)) ∧ ∀ m, m < b → h1 143 (3001 * b + s) < h1 143 (3001 * m + s)) (fun ⟨_, _, _, d_q, _, _⟩ => dil (5 : Int32) d_q) ?_ _ ⟨0, 1, by omega, by omega, rfl, rfl, nI_0, rfl, rfl, fun m hm => by rw [show m = 0 by omega]; exact Int32.le_refl _, fun m hm => absurd hm (Nat.not_lt_zero m)⟩
  rintro ⟨y1, y4, y5, y6, h2, g2⟩ K ⟨b, n, hb, hn, rfl, rfl, rfl, rfl, rfl, le, lt⟩ hK
  unfold F_X11_way_58; dsimp only; unfold b_X11_way_58
  rw [ei, ei, nI_clamp (n := 3001 * b + s) (by omega), nI_clamp (n := 3001 * n + s) (by omega)]
  refine ⟨fun c5 => ?_, fun c5 => ?_⟩
  · rw [show (5 : Int32) = nI 5 from rfl, nI_ltI (by omega) (by omega)] at c5
    have : n = 6 := by omega
    subst this
    refine and_have (vi b s (by omega) (by omega)) (fun _ => ?_)
    rintro _ rfl
    refine ⟨fun cf => ?_, fun cf => ⟨J1, .inr ⟨s, lo, hi, ok, .inl ⟨fun l hl r => ?_, rfl⟩⟩⟩⟩
    rotate_left
    · rcases hP l.length hl with ⟨-, n⟩ | ⟨m, -, m2, m3, -⟩
      · exact n l ⟨rfl, r⟩
      · have h4 := le l.length (by omega)
        rw [m3, Int32.le_iff_toInt_le, nI_toInt (by omega)] at h4
        rw [Int32.lt_iff_toInt_lt, far_i] at cf
        omega
    obtain ⟨l, el, B, eP, hc⟩ := (hP b (by omega)).best cf
    have BT : BTW f W s lo hi l := by
      refine ⟨by omega, B.1, fun m hm r => ?_⟩
      rcases hP m.length hm with ⟨-, n⟩ | ⟨m1, ⟨e1, r1⟩, m2, m3, m4⟩
      · exact absurd ⟨rfl, r⟩ (n m)
      · have h4 := le m.length (by omega)
        rw [m3, eP, nI_leI (by omega) (by omega)] at h4
        have h5 := m4 m ⟨rfl, r⟩
        by_cases c : csW f l < csW f m
        · exact .inl c
        · refine .inr ⟨by omega, ?_⟩
          by_cases d : m.length < b
          · have h6 := lt m.length d
            rw [m3, eP, nI_ltI (by omega) (by omega)] at h6
            omega
          · by_cases e : m.length = b
            · have := B.2 m (by omega) r
              exact .inr ⟨by omega, by omega⟩
            · exact .inl (by omega)
    have ans : ∀ r, pickW f l x4 r → (fun r h' _ => KJ SPr h h' ∧ AWY f W (nI s) (nI lo) (nI hi) x4 r) r h1 g2 := fun r p => ⟨J1, .inr ⟨s, lo, hi, ok, .inr ⟨l, BT, p⟩⟩⟩
    refine ⟨fun c0 => ⟨fun cb => ?_, fun cb => ?_⟩, fun c0 => ⟨fun c1 => ?_, fun c1 => ans _ (.inl ⟨c1, eP⟩)⟩⟩
    rotate_left
    · obtain ⟨a, ha, rfl⟩ := nI_of (Int32.not_lt.mpr c0)
      rw [nI_ltI (by omega) (by omega)] at cb
      exact ans _ (.inr (.inr ⟨a, ha, rfl, (if_neg (by omega)).symm⟩))
    · refine ans _ (.inr (.inl ⟨?_, by rw [el]⟩))
      rw [Int32.le_iff_toInt_le, show (0 : Int32).toInt = 0 by decide] at c0
      have n1 : ¬ x4.toInt = -1 := fun e => c1 (Int32.toInt_inj.mp (e.trans im1.symm))
      exact Int32.toInt_inj.mp (by rw [show (-2 : Int32).toInt = -2 by decide]; omega)
    obtain ⟨a, ha, rfl⟩ := nI_of (Int32.not_lt.mpr c0)
    rw [nI_ltI (by omega) (by omega)] at cb
    refine lpE_intro (fun ⟨a_q, b_q, c_q, d_q, e_q, h_q, _⟩ => ∃ (t : Nat) (p d : List Nat), p.length ≤ a + 1 ∧ 1 ≤ t ∧ t ≤ 3000 ∧ nI a = a_q ∧ nI b = b_q ∧ nI t = c_q ∧ nI p.length = e_q ∧ h1 = h_q ∧ l = p ++ d ∧ MBo f W lo hi t d ∧ (p.length = a + 1 → d_q = nI (l.getD a 0))) (fun ⟨_, _, _, _, e_q, _, _⟩ => dil (nI a) e_q) ?_ _ ⟨s, [], l, by show 0 ≤ a + 1; omega, by omega, by omega, rfl, rfl, rfl, nI_0, rfl, rfl, B, fun e => absurd e (by show ¬ 0 = a + 1; omega)⟩
    rintro ⟨z4, z5, z7, z8, z9, h3, g3⟩ K2 ⟨t, p, d, hk, t1, t2, rfl, rfl, rfl, rfl, rfl, epd, D, ez⟩ hK2
    have eld : l.length = p.length + d.length := by rw [epd, List.length_append]
    unfold F_X11_way_170; dsimp only; unfold b_X11_way_170
    refine ⟨fun ck => ?_, fun ck => ?_⟩
    · rw [nI_ltI (by omega) (by omega)] at ck
      exact ans _ (.inr (.inr ⟨a, ha, rfl, by rw [if_pos (by omega)]; exact ez (by omega)⟩))
    have hdk := dil_lt ck (by rw [nI_toInt (by omega)]; omega)
    rw [nI_ltI (by omega) (by omega)] at ck
    match d, D, epd, eld with
    | [], _, _, eld => exact absurd eld (by show ¬ l.length = p.length + 0; omega)
    | w0 :: d', D, epd, eld =>
      have eld : l.length = p.length + (d'.length + 1) := eld
      have e1 : b - p.length = (w0 :: d').length := by show b - p.length = d'.length + 1; omega
      have e2 : b - p.length - 1 = d'.length := by omega
      have LR : LRo f W lo hi (w0 :: d').length t (h1 143 (3001 * (b - p.length) + t)) := by
        rw [e1]; exact P1 _ (by show d'.length + 1 ≤ 5; omega) t t1 (by omega)
      obtain ⟨ec, hcc⟩ := D.cost LR
      obtain ⟨dg, dn⟩ := D.dig v hW t2 (by omega) hcc (q := h1 143) (fun u u1 u2 => P1 _ (by omega) u u1 (by omega))
      obtain ⟨t', x, -⟩ := RTW.cons.mp D.1
      have D' := D.tail x
      refine lpE_intro (fun ⟨a_q, b_q, c_q, d_q, e_q, h_q, _⟩ => ∃ w : Nat, w ≤ w0 ∧ nI a = a_q ∧ nI b = b_q ∧ nI t = c_q ∧ nI w = d_q ∧ nI p.length = e_q ∧ h1 = h_q) (fun ⟨_, _, _, d_q, _, _, _⟩ => dif (nI W) d_q) ?_ _ ⟨0, Nat.zero_le _, rfl, rfl, rfl, nI_0, rfl, rfl⟩
      rintro ⟨u4, u5, u7, u8, u9, h4, g4⟩ K3 ⟨w, hw, rfl, rfl, rfl, rfl, rfl, rfl⟩ hK3
      have hw0 := x.1
      unfold F_X11_way_180; dsimp only; unfold b_X11_way_180
      rw [pk_sub (a := b) (b := p.length) (by omega), show nI (b - p.length) - (1 : Int32) = nI (b - p.length - 1) from pk_sub (a := b - p.length) (b := 1) (by omega), ei, nI_clamp (n := 3001 * (b - p.length) + t) (by omega)]
      refine c_i (p_X11_by (by omega) (by omega) (by omega)) ?_
      rintro _ _ _ ⟨rfl, rfl, rfl⟩
      rw [eF', ec, e2]
      refine and_have (vi _ _ (by omega) (by omega)) (fun _ => ⟨fun ce => ?_, fun ce => ?_⟩)
      · have ew : w = w0 := by
          by_cases q : w < w0
          · exact absurd ce (dn w q)
          · omega
        subst ew
        rw [show (672 : Int32) + ((4 : Int32) * nI w) = nI (672 + 4 * w) from ix2 672 4 w, nI_clamp (n := 672 + 4 * w) (by omega)]
        refine and_have (vp_in_nI (by omega) (by omega)) (fun _ => ?_)
        rintro _ rfl
        rintro _ rfl
        have v0 := (v.wk (w := w) (by omega)).1
        unfold bd at v0
        have et : nI t + f (672 + 4 * w) = nI t' := Int32.toInt_inj.mp (by
          rw [add_i (by rw [nI_toInt (by omega)]; omega) (by rw [nI_toInt (by omega)]; omega) (by omega) (by omega), nI_toInt (by omega), nI_toInt (by have := x.2.2.2.2.1; omega)]
          exact x.2.2.2.2.2.symm)
        refine hK2 _ ⟨t', p ++ [w], d', by rw [List.length_append]; show p.length + 1 ≤ a + 1; omega, x.2.2.2.1, x.2.2.2.2.1, rfl, rfl, et.symm, by rw [List.length_append]; exact (nI_1 p.length).symm, rfl, by rw [epd, List.append_assoc]; rfl, D', fun e => ?_⟩ hdk
        rw [List.length_append] at e
        have e : p.length + 1 = a + 1 := e
        rw [epd, show a = p.length by omega, gd_mid]
      · have hw2 : w < w0 := by
          have : w ≠ w0 := fun e => ce (by rw [e]; exact dg)
          omega
        rintro _ rfl
        exact hK3 _ ⟨w + 1, by omega, rfl, rfl, rfl, (nI_1 w).symm, rfl, rfl⟩ (dif_lt (by rw [nI_leI (by omega) (by omega)]; omega))
  · have hd := dil_lt c5 (by decide)
    rw [show (5 : Int32) = nI 5 from rfl, nI_ltI (by omega) (by omega)] at c5
    refine and_have (vi n s (by omega) (by omega)) (fun _ => and_have (vi b s (by omega) (by omega)) (fun _ => ⟨fun c => ?_, fun c => ?_⟩))
    · unfold j_X11_way_100
      rintro _ rfl
      refine hK _ ⟨b, n + 1, by omega, by omega, rfl, rfl, rfl, (nI_1 n).symm, rfl, fun m hm => ?_, lt⟩ hd
      by_cases e : m = n
      · subst e; exact c
      · exact le m (by omega)
    · unfold j_X11_way_100
      rintro _ rfl
      have c : h1 143 (3001 * n + s) < h1 143 (3001 * b + s) := Int32.not_le.mp c
      refine hK _ ⟨n, n + 1, by omega, by omega, rfl, rfl, rfl, (nI_1 n).symm, rfl, fun m hm => ?_, fun m hm => ?_⟩ hd
      · by_cases e : m = n
        · subst e; exact Int32.le_refl _
        · exact Int32.le_of_lt (Int32.lt_of_lt_of_le c (le m (by omega)))
      · exact Int32.lt_of_lt_of_le c (le m hm)
