/-! THE REFERENCE FINDS FIRST -/
theorem c_pO {h : HI} {g : HL} {a k : Nat} (ha : a < 24) (hk : k < 5) {body : Int32 → HI → HL → Prop} (b : body (h 136 (20 + 5 * a + k)) h g) : ∃ P : Int32 → HI → HL → Prop, w_X11_partOf (nI a) (nI k) h g P ∧ ∀ (r : Int32) (h : HI) (g : HL), P r h g → body r h g := by
  refine ⟨fun r h' g' => body r h' g', ?_, fun _ _ _ x => x⟩
  unfold w_X11_partOf
  rw [show (20 : Int32) + (5 : Int32) * nI a + nI k = nI (20 + 5 * a + k) from ix3 20 5 a k, nI_clamp (by omega)]
  exact ⟨vp_in_nI (by omega) (by omega), b⟩
theorem c_sO {h : HI} {g : HL} {s k : Nat} (hs : s < 60) (hk : k < 6) {body : Int32 → HI → HL → Prop} (b : body (h 136 (152 + 6 * s + k)) h g) : ∃ P : Int32 → HI → HL → Prop, w_X11_sayOf (nI s) (nI k) h g P ∧ ∀ (r : Int32) (h : HI) (g : HL), P r h g → body r h g := by
  refine ⟨fun r h' g' => body r h' g', ?_, fun _ _ _ x => x⟩
  unfold w_X11_sayOf
  rw [show (152 : Int32) + (6 : Int32) * nI s + nI k = nI (152 + 6 * s + k) from ix3 152 6 s k, nI_clamp (by omega)]
  exact ⟨vp_in_nI (by omega) (by omega), b⟩
theorem c_isO {h : HI} {g : HL} {s p : Nat} (hs : s < 60) {body : Int32 → HI → HL → Prop} (h1 : isO (h 136) p s → body 1 h g) (h0 : ¬ isO (h 136) p s → body 0 h g) : ∃ P : Int32 → HI → HL → Prop, w_X11_isOf (nI s) (nI p) h g P ∧ ∀ (r : Int32) (h : HI) (g : HL), zb r → P r h g → body r h g := by
  refine ⟨fun r h' g' => body r h' g', ?_, fun _ _ _ _ x => x⟩
  unfold w_X11_isOf
  refine c_sO (k := 0) hs (by omega) ⟨fun q => h0 (fun o => q o.1), fun q => c_sO (k := 5) hs (by omega) ⟨fun q2 => h0 (fun o => q2 o.2), fun q2 => h1 ⟨q, q2⟩⟩⟩
theorem q_X11_findFamily {h : HI} {g : HL} (v : VR (h 136)) {p : Nat} (hp : p < 24) : w_X11_findFamily (nI p) h g (fun h' _ => KJ SFm h h' ∧ (h' 135 11).toInt = fB (h 136) p ∧ (h' 135 12).toInt = fD (h 136) p ∧ (h' 135 13).toInt = fM (h 136) p) := by
  have k := v.fok hp
  have j29 : ∀ (s1 : Int32) (g1 : HL), s1.toInt = fB (h 136) p → j_X11_findFamily_29 (fun h' _ => KJ SFm h h' ∧ (h' 135 11).toInt = fB (h 136) p ∧ (h' 135 12).toInt = fD (h 136) p ∧ (h' 135 13).toInt = fM (h 136) p) (h 136 (20 + 5 * p + 3)) s1 h g1 := by
    intro s1 g1 es
    unfold j_X11_findFamily_29
    intro h1 e1
    have J1 : KJ SFm h h1 := KJ.rf.hu e1 (by unfold SFm; omega)
    have f1 : h1 136 = h 136 := by rw [e1, hu_ne (by decide)]
    have j56 : ∀ s2 : Int32, s2.toInt = fD (h 136) p → j_X11_findFamily_56 (fun h' _ => KJ SFm h h' ∧ (h' 135 11).toInt = fB (h 136) p ∧ (h' 135 12).toInt = fD (h 136) p ∧ (h' 135 13).toInt = fM (h 136) p) (h 136 (20 + 5 * p + 3)) s2 h1 g1 := by
      intro s2 es2
      unfold j_X11_findFamily_56
      intro h2 e2
      have J2 : KJ SFm h h2 := J1.hu e2 (by unfold SFm; omega)
      have f2 : h2 136 = h 136 := by rw [e2, hu_ne (by decide), f1]
      have j84 : ∀ s3 : Int32, s3.toInt = fM (h 136) p → j_X11_findFamily_84 (fun h' _ => KJ SFm h h' ∧ (h' 135 11).toInt = fB (h 136) p ∧ (h' 135 12).toInt = fD (h 136) p ∧ (h' 135 13).toInt = fM (h 136) p) s3 h2 g1 := by
        intro s3 es3
        unfold j_X11_findFamily_84
        intro h3 e3
        refine ⟨J2.hu e3 (by unfold SFm; omega), ?_, ?_, ?_⟩
        · rw [e3, hu_eq, pk_un (by decide), e2, hu_eq, pk_un (by decide), e1, hu_eq, pk_us]; exact es
        · rw [e3, hu_eq, pk_un (by decide), e2, hu_eq, pk_us]; exact es2
        · rw [e3, hu_eq, pk_us]; exact es3
      refine ⟨fun q => ?_, fun q => j84 _ ?_⟩
      · obtain ⟨j, hj, ej⟩ := (v.fam hp).resolve_left q
        rw [ej, show (140 : Int32) + (3 : Int32) * nI j + (2 : Int32) = nI (140 + 3 * j + 2) from ix3 140 3 j 2, nI_clamp (by omega), f2]
        exact ⟨vp_in_nI (by omega) (by omega), j84 _ (fam_j hj ej).2.2.symm⟩
      · rw [(fam_n q).2.2]; decide
    refine ⟨fun q => ?_, fun q => j56 _ ?_⟩
    · obtain ⟨j, hj, ej⟩ := (v.fam hp).resolve_left q
      rw [ej] at j56 ⊢
      rw [show (140 : Int32) + (3 : Int32) * nI j + (1 : Int32) = nI (140 + 3 * j + 1) from ix3 140 3 j 1, nI_clamp (by omega), f1]
      exact ⟨vp_in_nI (by omega) (by omega), j56 _ (fam_j hj ej).2.1.symm⟩
    · rw [(fam_n q).2.1]; decide
  unfold w_X11_findFamily
  refine c_pO (k := 3) hp (by omega) ⟨fun q => ?_, fun q => j29 _ _ ?_⟩
  · obtain ⟨j, hj, ej⟩ := (v.fam hp).resolve_left q
    rw [ej] at j29 ⊢
    rw [show (140 : Int32) + (3 : Int32) * nI j = nI (140 + 3 * j) from ix2 140 3 j, nI_clamp (by omega)]
    exact ⟨vp_in_nI (by omega) (by omega), j29 _ _ (fam_j hj ej).1.symm⟩
  · rw [(fam_n q).1]; decide
theorem q_X11_numberFrom {h : HI} {g : HL} {x : Int32} {b d z : Int} (ex : x.toInt = z) (b11 : (h 135 11).toInt = b) (b12 : (h 135 12).toInt = d) (hb : 1 ≤ b ∧ b ≤ 100000) (hd : 1 ≤ d ∧ d ≤ 100000) (hz : -1000000 ≤ z ∧ z ≤ 1000000) : w_X11_numberFrom x h g (fun r h' g' => r.toInt = pfN b d z ∧ h = h' ∧ g = g') := by
  unfold w_X11_numberFrom
  refine ⟨fun q => ⟨fun e => ?_, ?_, rfl, rfl⟩, fun q => ⟨?_, rfl, rfl⟩⟩
  · rw [e, i0] at b12; omega
  · rw [i_lt b11 ex] at q
    unfold pfN; rw [if_neg (by omega)]
    exact i_div (i_sub (i_add (i_sub ex b11 (by omega)) b12 (by omega)) i1 (by omega)) b12 (by omega) (by omega)
  · rw [i_lt b11 ex] at q
    unfold pfN; rw [if_pos (by omega)]; exact i0
noncomputable def rLo (f : Nat → Int32) (s : Nat) : Int := if f (152 + 6 * s + 1) = 2 then -100000 else sL f s
noncomputable def rHi (f : Nat → Int32) (s : Nat) : Int := if f (152 + 6 * s + 1) = 3 then 300000 else sH f s
theorem rLH {f : Nat → Int32} (v : VR f) (w : WB f) {s : Nat} (hs : s < 60) : -100000 ≤ rLo f s ∧ rLo f s ≤ 110000 ∧ -20000 ≤ rHi f s ∧ rHi f s ≤ 300000 := by
  obtain ⟨a, b, c, d⟩ := sLH v w hs
  unfold rLo rHi
  by_cases q : f (152 + 6 * s + 1) = 2
  · rw [if_pos q]
    by_cases q2 : f (152 + 6 * s + 1) = 3
    · rw [if_pos q2]; omega
    · rw [if_neg q2]; omega
  · rw [if_neg q]
    by_cases q2 : f (152 + 6 * s + 1) = 3
    · rw [if_pos q2]; omega
    · rw [if_neg q2]; omega
theorem alw_r {f : Nat → Int32} {s : Nat} {z : Int} (h1 : -100000 ≤ z) (h2 : z ≤ 300000) : alw f s z ↔ rLo f s ≤ z ∧ z ≤ rHi f s := by
  unfold alw rLo rHi
  by_cases q : f (152 + 6 * s + 1) = 2
  · rw [if_pos q]
    have q2 : ¬ f (152 + 6 * s + 1) = 3 := by rw [q]; decide
    rw [if_neg q2]
    exact ⟨fun x => ⟨h1, x.2 q2⟩, fun x => ⟨fun n => absurd q n, fun _ => x.2⟩⟩
  · rw [if_neg q]
    by_cases q2 : f (152 + 6 * s + 1) = 3
    · rw [if_pos q2]
      exact ⟨fun x => ⟨x.1 q, h2⟩, fun x => ⟨fun _ => x.1, fun n => absurd q2 n⟩⟩
    · rw [if_neg q2]
      exact ⟨fun x => ⟨x.1 q, x.2 q2⟩, fun x => ⟨fun _ => x.1, fun _ => x.2⟩⟩
theorem KJ.f6 {S : Nat → Nat → Prop} {h h' : HI} (J : KJ S h h') (n : ∀ k, ¬ S 136 k) : h' 136 = h 136 := funext fun k => J 136 k (n k)
theorem q_X11_lets {h : HI} {g : HL} {f : Nat → Int32} (ef : h 136 = f) (r : RG f) (v : VR f) (w : WB f) {s : Nat} (hs : s < 60) : w_X11_lets (nI s) h g (fun h' _ => KJ SLt h h' ∧ (h' 135 9).toInt = rLo f s ∧ (h' 135 10).toInt = rHi f s) := by
  obtain ⟨b1, b2, b3, b4, b5, b6⟩ := s_bd v w hs
  have j31 : ∀ (h1 : HI) (g1 : HL) (s0 : Int32), KJ SLt h h1 → h1 136 = f → s0.toInt = sW f s → j_X11_lets_31 (fun h' _ => KJ SLt h h' ∧ (h' 135 9).toInt = rLo f s ∧ (h' 135 10).toInt = rHi f s) (nI s) (f (152 + 6 * s + 1)) s0 h1 g1 := by
    intro h1 g1 s0 J1 f1 es0
    have j58 : ∀ (s1 : Int32) (g2 : HL), s1.toInt = rLo f s → j_X11_lets_58 (fun h' _ => KJ SLt h h' ∧ (h' 135 9).toInt = rLo f s ∧ (h' 135 10).toInt = rHi f s) (nI s) (f (152 + 6 * s + 1)) s0 s1 h1 g2 := by
      intro s1 g2 es1
      unfold j_X11_lets_58
      intro h2 e2
      have J2 : KJ SLt h h2 := J1.hu e2 (by unfold SLt; omega)
      have f2 : h2 136 = f := by rw [e2, hu_ne (by decide), f1]
      have j87 : ∀ (s2 : Int32) (g3 : HL), s2.toInt = rHi f s → j_X11_lets_87 (fun h' _ => KJ SLt h h' ∧ (h' 135 9).toInt = rLo f s ∧ (h' 135 10).toInt = rHi f s) s2 h2 g3 := by
        intro s2 g3 es2
        unfold j_X11_lets_87
        intro h3 e3
        refine ⟨J2.hu e3 (by unfold SLt; omega), ?_, ?_⟩
        · rw [e3, hu_eq, pk_un (by decide), e2, hu_eq, pk_us]; exact es1
        · rw [e3, hu_eq, pk_us]; exact es2
      refine ⟨fun q => ?_, fun q => j87 _ _ ?_⟩
      · refine c_sO (k := 2) hs (by omega) (c_sO (k := 3) hs (by omega) (j87 _ _ ?_))
        rw [f2, i_add (i_add rfl rfl (by omega)) es0 (by omega)]
        unfold rHi; rw [if_neg q]; rfl
      · unfold rHi; rw [if_pos q]; decide
    unfold j_X11_lets_31
    refine ⟨fun q => ?_, fun q => j58 _ _ ?_⟩
    · refine c_sO (k := 2) hs (by omega) (c_sO (k := 3) hs (by omega) (j58 _ _ ?_))
      rw [f1, i_add (i_sub rfl rfl (by omega)) es0 (by omega)]
      unfold rLo; rw [if_neg q]; rfl
    · unfold rLo; rw [if_pos q]; decide
  unfold w_X11_lets
  refine c_sO (k := 1) hs (by omega) ?_
  rw [ef]
  refine ⟨fun q => j31 h _ _ KJ.rf ef ?_, fun q => ?_⟩
  · unfold sW; rw [if_neg q]; exact i0
  · skip
    obtain ⟨a, y, ha, hy, ea, ey⟩ := v.sp hs
    refine c_sO (k := 0) hs (by omega) (c_sO (k := 4) hs (by omega) ?_)
    rw [ef, ea, ey]
    refine c_wornR (by rw [ef]; exact r) (by rw [ef]; exact v) ha hy (fun h1 g1 J => ?_)
    refine j31 h1 g1 _ (J.mo (fun o k hq => by unfold SRd at hq; unfold SLt; omega)) ((J.f6 (fun k => by unfold SRd; omega)).trans ef) ?_
    unfold sW
    rw [if_pos q, ea, ey, nI_clamp (by omega), nI_clamp (by omega), ef]
/-- what findFirst leaves -/
def FZ (h : HI) (f : Nat → Int32) (p n : Nat) : Prop := (h 135 11).toInt = fB f p ∧ (h 135 12).toInt = fD f p ∧ ∃ a b : Int, FSp f p n a b ∧ (h 135 14).toInt = a ∧ (h 135 15).toInt = (if b < a then 0 else b - a + 1) ∧ a ≤ 1100000 ∧ -1 ≤ b
theorem okZs_s {f : Nat → Int32} {p i : Nat} {z : Int} : okZs f p (i + 1) z ↔ okZs f p i z ∧ (isO f p i → alw f i z) := by
  refine ⟨fun q => ⟨fun s hs o => q s (by omega) o, q i (by omega)⟩, fun q s hs o => ?_⟩
  by_cases e : s = i
  · subst e; exact q.2 o
  · exact q.1 s (by omega) o
theorem q_X11_findFirst {h : HI} {g : HL} {f : Nat → Int32} (ef : h 136 = f) (r : RG f) (v : VR f) (w : WB f) {p n : Nat} (hp : p < 24) (en : f 1 = nI n) (hn : n ≤ 60) : w_X11_findFirst (nI p) h g (fun h' _ => KJ SFf h h' ∧ FZ h' f p n) := by
  have k0 := v.fok hp
  obtain ⟨k1, k2, k3, k4, k5, k6⟩ := id k0
  have kB : fB f p ≤ 100000 := by
    have := Int.mul_nonneg (a := fM f p - 1) (b := fD f p) (by omega) (by omega)
    omega
  unfold w_X11_findFirst
  refine c_v (q_X11_findFamily (by rw [ef]; exact v) hp) ?_
  rintro h2 g2 ⟨J2, b11, b12, b13⟩
  rw [ef] at b11 b12 b13
  intro x3 ex3
  have e3 : x3.toInt = fM f p - 1 := by rw [ex3]; exact i_sub b13 i1 (by omega)
  clear ex3
  refine lpE_intro (fun ⟨a_q, b_q, c_q, d_q, h_q, _⟩ => ∃ i : Nat, i ≤ n ∧ nI p = a_q ∧ nI i = d_q ∧ KJ SFf h h_q ∧ (h_q 135 11).toInt = fB f p ∧ (h_q 135 12).toInt = fD f p ∧ 0 ≤ b_q.toInt ∧ b_q.toInt ≤ 1100000 ∧ -1 ≤ c_q.toInt ∧ c_q.toInt ≤ fM f p - 1 ∧ ∀ z : Int, 0 ≤ z → z ≤ fM f p - 1 → ((b_q.toInt ≤ z ∧ z ≤ c_q.toInt) ↔ okZs f p i (fB f p + fD f p * z))) (fun ⟨_, _, _, d_q, _, _⟩ => dif (nI n) d_q) ?_ _ ⟨0, by omega, rfl, nI_0, J2.mo (fun o k hq => by unfold SFm at hq; unfold SFf; omega), b11, b12, by rw [i0]; omega, by rw [i0]; omega, by omega, by omega, fun z h0 h1 => ⟨fun _ s hs => absurd hs (Nat.not_lt_zero s), fun _ => by rw [i0]; omega⟩⟩
  clear b11 b12 b13 e3 J2
  rintro ⟨y1, y2, y3, y4, h3, g3⟩ K ⟨i, hi, rfl, rfl, J3, b11, b12, l1, l2, l3, l4, kk⟩ hK
  have f3 : h3 136 = f := (J3.f6 (fun k => by unfold SFf; omega)).trans ef
  unfold F_X11_findFirst_17; dsimp only; unfold b_X11_findFirst_17
  rw [cl1, f3, en]
  refine and_have (vp_in_iff.mpr (by decide)) (fun _ => ⟨fun q => ?_, fun q => ?_⟩)
  · rw [nI_leI (by omega) (by omega)] at q
    have : i = n := by omega
    subst this
    intro h4 e4
    have J4 := J3.hu e4 (by unfold SFf; omega)
    have fin : ∀ s1 : Int32, s1.toInt = (if y3.toInt < y2.toInt then 0 else y3.toInt - y2.toInt + 1) → j_X11_findFirst_137 (fun h' _ => KJ SFf h h' ∧ FZ h' f p i) s1 h4 g3 := by
      intro s1 es1
      unfold j_X11_findFirst_137
      intro h5 e5
      refine ⟨J4.hu e5 (by unfold SFf; omega), ?_, ?_, y2.toInt, y3.toInt, ⟨l1, l4, kk⟩, ?_, ?_, l2, l3⟩
      · rw [e5, hu_eq, pk_un (by decide), e4, hu_eq, pk_un (by decide)]; exact b11
      · rw [e5, hu_eq, pk_un (by decide), e4, hu_eq, pk_un (by decide)]; exact b12
      · rw [e5, hu_eq, pk_un (by decide), e4, hu_eq, pk_us]
      · rw [e5, hu_eq, pk_us]; exact es1
    refine ⟨fun c => fin _ ?_, fun c => fin _ ?_⟩
    · rw [i_le rfl rfl] at c
      rw [if_neg (by omega)]
      exact i_add (i_sub rfl rfl (by omega)) i1 (by omega)
    · rw [i_le rfl rfl] at c
      rw [if_pos (by omega)]; exact i0
  · have hd := dif_lt q
    rw [nI_leI (by omega) (by omega)] at q
    have nxt : ∀ (x2 x3 : Int32) (h4 : HI) (g4 : HL), KJ SFf h h4 → (h4 135 11).toInt = fB f p → (h4 135 12).toInt = fD f p → 0 ≤ x2.toInt → x2.toInt ≤ 1100000 → -1 ≤ x3.toInt → x3.toInt ≤ fM f p - 1 → (∀ z : Int, 0 ≤ z → z ≤ fM f p - 1 → ((x2.toInt ≤ z ∧ z ≤ x3.toInt) ↔ okZs f p (i + 1) (fB f p + fD f p * z))) → j_X11_findFirst_111 (fun h' _ => KJ SFf h h' ∧ FZ h' f p n) (fun x1 x2 x3 x4 h g => K (x1, x2, x3, x4, h, g)) (nI p) x2 x3 (nI i) h4 g4 := by
      intro x2 x3 h4 g4 J4 r1 r2 r3 r4 r5 r6 r7
      unfold j_X11_findFirst_111
      rintro _ rfl
      exact hK _ ⟨i + 1, by omega, rfl, (nI_1 i).symm, J4, r1, r2, r3, r4, r5, r6, r7⟩ hd
    refine c_isO (by omega) (fun o => ⟨fun c => absI c, fun _ => ?_⟩) (fun o => ⟨fun _ => nxt y2 y3 h3 _ J3 b11 b12 l1 l2 l3 l4 (fun z h0 h1 => ?_), fun c => absN c⟩)
    rotate_left
    · rw [f3] at o
      rw [okZs_s, ← kk z h0 h1]
      exact ⟨fun a => ⟨a, fun o' => absurd o' o⟩, fun a => a.1⟩
    rw [f3] at o
    refine c_v (q_X11_lets f3 r v w (s := i) (by omega)) ?_
    rintro h4 g4 ⟨J4, c9, c10⟩
    have d11 : (h4 135 11).toInt = fB f p := by rw [J4 135 11 (by unfold SLt; omega)]; exact b11
    have d12 : (h4 135 12).toInt = fD f p := by rw [J4 135 12 (by unfold SLt; omega)]; exact b12
    have J5 : KJ SFf h h4 := J3.tr (J4.mo (fun o k hq => by unfold SLt at hq; unfold SFf; omega))
    obtain ⟨w1, w2, w3, w4⟩ := rLH v w (s := i) (by omega)
    refine c_i (q_X11_numberFrom c9 d11 d12 (by omega) (by omega) (by omega)) ?_
    rintro ra _ _ ⟨era, rfl, rfl⟩
    have pb := pfN_bd (b := fB f p) (d := fD f p) (z := rLo f i) k1 k2 k3 (by omega)
    have qb := qfN_bd (b := fB f p) (d := fD f p) (z := rHi f i) k1 k2 (by omega)
    have j83 : ∀ s0 : Int32, s0.toInt = qfN (fB f p) (fD f p) (rHi f i) → j_X11_findFirst_83 (fun h' _ => KJ SFf h h' ∧ FZ h' f p n) (fun x1 x2 x3 x4 h g => K (x1, x2, x3, x4, h, g)) (nI p) y2 y3 (nI i) ra s0 h4 g4 := by
      intro s0 es0
      have j97 : ∀ t : Int32, (∀ z : Int, t.toInt ≤ z ↔ y2.toInt ≤ z ∧ ra.toInt ≤ z) → j_X11_findFirst_97 (fun h' _ => KJ SFf h h' ∧ FZ h' f p n) (fun x1 x2 x3 x4 h g => K (x1, x2, x3, x4, h, g)) (nI p) y3 (nI i) s0 t h4 g4 := by
        intro t ht
        have t1 := (ht t.toInt).mp (Int.le_refl _)
        have t2 : t.toInt ≤ 1100000 := (ht 1100000).mpr ⟨l2, by omega⟩
        have j110 : ∀ u : Int32, (∀ z : Int, z ≤ u.toInt ↔ z ≤ y3.toInt ∧ z ≤ s0.toInt) → j_X11_findFirst_110 (fun h' _ => KJ SFf h h' ∧ FZ h' f p n) (fun x1 x2 x3 x4 h g => K (x1, x2, x3, x4, h, g)) (nI p) t (nI i) u h4 g4 := by
          intro u hu
          have u1 := (hu u.toInt).mp (Int.le_refl _)
          have u2 : -1 ≤ u.toInt := (hu (-1)).mpr ⟨l3, by omega⟩
          unfold j_X11_findFirst_110
          refine nxt t u h4 _ J5 d11 d12 (by omega) t2 u2 (by omega) (fun z h0 h1 => ?_)
          have s := k0.sz h0 h1
          rw [okZs_s, ← kk z h0 h1, ht, hu, alw_r (by omega) (by omega), era, es0, pfN_le k2 h0, le_qfN k2 h0]
          exact ⟨fun a => ⟨⟨a.1.1, a.2.1⟩, fun _ => ⟨a.1.2, a.2.2⟩⟩, fun a => ⟨⟨a.1.1, (a.2 o).1⟩, a.1.2, (a.2 o).2⟩⟩
        unfold j_X11_findFirst_97
        refine ⟨fun c => j110 _ (fun z => ?_), fun c => j110 _ (fun z => ?_)⟩
        · rw [i_le rfl rfl] at c; omega
        · rw [i_le rfl rfl] at c; omega
      unfold j_X11_findFirst_83
      refine ⟨fun c => j97 _ (fun z => ?_), fun c => j97 _ (fun z => ?_)⟩
      · rw [i_le rfl rfl] at c; omega
      · rw [i_le rfl rfl] at c; omega
    refine ⟨fun c => ⟨fun e => ?_, j83 _ ?_⟩, fun c => j83 _ ?_⟩
    · rw [e, i0] at d12; omega
    · rw [i_le d11 c10] at c
      rw [i_div (i_sub c10 d11 (by omega)) d12 (by omega) k2]
      unfold qfN; rw [if_neg (by omega)]
    · rw [i_le d11 c10] at c
      unfold qfN; rw [if_pos (by omega)]; exact im1
noncomputable def fsel (f : Nat → Int32) (p : Nat) (x : Int32) : Int32 := if x = 2 then fMn f p else if x = 0 then fLo f p else fHi f p
theorem q_X11_firstOf {h : HI} {g : HL} {f : Nat → Int32} (ef : h 136 = f) (r : RG f) (v : VR f) (w : WB f) {p n : Nat} (hp : p < 24) (en : f 1 = nI n) (hn : n ≤ 60) {x : Int32} : w_X11_firstOf (nI p) x h g (fun s h' _ => KJ SFf h h' ∧ s = fsel f p x) := by
  have k0 := v.fok hp
  obtain ⟨k1, k2, k3, k4, k5, k6⟩ := id k0
  unfold w_X11_firstOf
  refine c_v (q_X11_findFirst ef r v w hp en hn) ?_
  rintro h2 g2 ⟨J2, b11, b12, a, b, fs, e14, e15, l1, l2⟩
  obtain ⟨a0, b0, -⟩ := id fs
  have fa : FA f p n (if b < a then -1 else fB f p + fD f p * a) (if b < a then -1 else fB f p + fD f p * b) (if b < a then 0 else b - a + 1) := ⟨a, b, fs, rfl, rfl, rfl⟩
  have e3 := f3_eq en hn fa
  have eM : fMn f p = h2 135 15 := by unfold fMn; rw [e3]; exact (i32_e e15).symm
  have eL : fLo f p = i32 (if b < a then -1 else fB f p + fD f p * a) := by unfold fLo; rw [e3]
  have eH : fHi f p = i32 (if b < a then -1 else fB f p + fD f p * b) := by unfold fHi; rw [e3]
  have z15 : h2 135 15 = 0 ↔ b < a := by
    rw [i_eq e15 i0]
    by_cases q : b < a
    · rw [if_pos q]; omega
    · rw [if_neg q]; omega
  have j56 : ∀ s2 : Int32, ¬ b < a → s2.toInt = a ∨ s2.toInt = b → fsel f p x = (i32 (fB f p + fD f p * s2.toInt)) → j_X11_firstOf_56 (fun s h' _ => KJ SFf h h' ∧ s = fsel f p x) (h2 135 11) (h2 135 12) s2 h2 g2 := by
    intro s2 q o e
    have s := k0.sz (i := s2.toInt) (by omega) (by omega)
    unfold j_X11_firstOf_56
    refine ⟨J2, ?_⟩
    rw [e]
    exact i32_e (i_add b11 (i_mul b12 rfl (by omega)) (by omega))
  refine ⟨fun x2 => ⟨fun n0 => ⟨fun x0 => j56 _ (fun q => n0 (z15.mpr q)) (.inr ?_) ?_, fun x0 => j56 _ (fun q => n0 (z15.mpr q)) (.inl e14) ?_⟩, fun n0 => ⟨J2, ?_⟩⟩, fun x2 => ⟨J2, ?_⟩⟩
  · have q : ¬ b < a := fun q => n0 (z15.mpr q)
    rw [if_neg q] at e15
    rw [i_sub (i_add e14 e15 (by omega)) i1 (by omega)]; omega
  · have q : ¬ b < a := fun q => n0 (z15.mpr q)
    rw [if_neg q] at e15 eH
    unfold fsel
    rw [if_neg x2, if_neg x0, eH, i_sub (i_add e14 e15 (by omega)) i1 (by omega), show a + (b - a + 1) - 1 = b by omega]
  · have q : ¬ b < a := fun q => n0 (z15.mpr q)
    rw [if_neg q] at eL
    unfold fsel
    rw [if_neg x2, if_pos x0, eL, e14]
  · have q : b < a := z15.mp n0
    rw [if_pos q] at eL eH
    unfold fsel
    rw [if_neg x2, eL, eH]
    by_cases x0 : x = 0
    · rw [if_pos x0]; exact i32_e im1
    · rw [if_neg x0]; exact i32_e im1
  · unfold fsel
    rw [if_pos x2, eM]
/-! FIRST, the call -/
def AFR (f : Nat → Int32) (m : Nat) (x1 x2 r : Int32) : Prop := (¬ (isRow (nI m) x1 ∧ bd 0 2 x2) ∧ r = -2) ∨ ∃ p : Nat, p < m ∧ x1 = nI p ∧ bd 0 2 x2 ∧ r = fsel f p x2
theorem AFR.un {f : Nat → Int32} {m : Nat} (hm : m ≤ 24) {x1 x2 r s : Int32} (a : AFR f m x1 x2 r) (b : AFR f m x1 x2 s) : r = s := by
  rcases a with ⟨a1, rfl⟩ | ⟨p, hp, rfl, a1, rfl⟩
  · rcases b with ⟨-, rfl⟩ | ⟨p, hp, rfl, b1, -⟩
    · rfl
    · exact absurd ⟨row_of hp (by omega), b1⟩ a1
  · rcases b with ⟨b1, -⟩ | ⟨p', hp', e1, -, rfl⟩
    · exact absurd ⟨row_of hp (by omega), a1⟩ b1
    · have q1 : p = p' := (nI_eq (by omega) (by omega)).mp e1
      rw [q1]
