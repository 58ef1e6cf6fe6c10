section
-- 73.firstr
/-! THE REFERENCE FINDS FIRST -/
theorem c_pO {h : HI} {g : HL} {a k : Nat} (ha : a < 24) (hk : k < 5) {body : Int32 → HI → HL → Prop} (b : body (h 136 (20 + 5 * a + k)) h g) : ∃ P : Int32 → HI → HL → Prop, w_X11_partOf (nI a) (nI k) h g P ∧ ∀ (r : Int32) (h : HI) (g : HL), P r h g → body r h g := by
  refine ⟨fun r h' g' => body r h' g', ?_, fun _ _ _ x => x⟩
  unfold w_X11_partOf
  rw [show (20 : Int32) + (5 : Int32) * nI a + nI k = nI (20 + 5 * a + k) from ix3 20 5 a k, nI_clamp (by omega)]
  exact ⟨vp_in_nI (by omega) (by omega), b⟩
theorem c_sO {h : HI} {g : HL} {s k : Nat} (hs : s < 60) (hk : k < 6) {body : Int32 → HI → HL → Prop} (b : body (h 136 (152 + 6 * s + k)) h g) : ∃ P : Int32 → HI → HL → Prop, w_X11_sayOf (nI s) (nI k) h g P ∧ ∀ (r : Int32) (h : HI) (g : HL), P r h g → body r h g := by
  refine ⟨fun r h' g' => body r h' g', ?_, fun _ _ _ x => x⟩
  unfold w_X11_sayOf
  rw [show (152 : Int32) + (6 : Int32) * nI s + nI k = nI (152 + 6 * s + k) from ix3 152 6 s k, nI_clamp (by omega)]
  exact ⟨vp_in_nI (by omega) (by omega), b⟩
theorem c_isO {h : HI} {g : HL} {s p : Nat} (hs : s < 60) {body : Int32 → HI → HL → Prop} (h1 : isO (h 136) p s → body 1 h g) (h0 : ¬ isO (h 136) p s → body 0 h g) : ∃ P : Int32 → HI → HL → Prop, w_X11_isOf (nI s) (nI p) h g P ∧ ∀ (r : Int32) (h : HI) (g : HL), zb r → P r h g → body r h g := by
  refine ⟨fun r h' g' => body r h' g', ?_, fun _ _ _ _ x => x⟩
  unfold w_X11_isOf
  refine c_sO (k := 0) hs (by omega) ⟨fun q => h0 (fun o => q o.1), fun q => c_sO (k := 5) hs (by omega) ⟨fun q2 => h0 (fun o => q2 o.2), fun q2 => h1 ⟨q, q2⟩⟩⟩
theorem q_X11_findFamily {h : HI} {g : HL} (v : VR (h 136)) {p : Nat} (hp : p < 24) : w_X11_findFamily (nI p) h g (fun h' _ => KJ SFm h h' ∧ (h' 135 11).toInt = fB (h 136) p ∧ (h' 135 12).toInt = fD (h 136) p ∧ (h' 135 13).toInt = fM (h 136) p) := by
  have k := v.fok hp
  have j29 : ∀ (s1 : Int32) (g1 : HL), s1.toInt = fB (h 136) p → j_X11_findFamily_29 (fun h' _ => KJ SFm h h' ∧ (h' 135 11).toInt = fB (h 136) p ∧ (h' 135 12).toInt = fD (h 136) p ∧ (h' 135 13).toInt = fM (h 136) p) (h 136 (20 + 5 * p + 3)) s1 h g1 := by
    intro s1 g1 es
    unfold j_X11_findFamily_29
    intro h1 e1
    have J1 : KJ SFm h h1 := KJ.rf.hu e1 (by unfold SFm; omega)
    have f1 : h1 136 = h 136 := by rw [e1, hu_ne (by decide)]
    have j56 : ∀ s2 : Int32, s2.toInt = fD (h 136) p → j_X11_findFamily_56 (fun h' _ => KJ SFm h h' ∧ (h' 135 11).toInt = fB (h 136) p ∧ (h' 135 12).toInt = fD (h 136) p ∧ (h' 135 13).toInt = fM (h 136) p) (h 136 (20 + 5 * p + 3)) s2 h1 g1 := by
      intro s2 es2
      unfold j_X11_findFamily_56
      intro h2 e2
      have J2 : KJ SFm h h2 := J1.hu e2 (by unfold SFm; omega)
      have f2 : h2 136 = h 136 := by rw [e2, hu_ne (by decide), f1]
      have j84 : ∀ s3 : Int32, s3.toInt = fM (h 136) p → j_X11_findFamily_84 (fun h' _ => KJ SFm h h' ∧ (h' 135 11).toInt = fB (h 136) p ∧ (h' 135 12).toInt = fD (h 136) p ∧ (h' 135 13).toInt = fM (h 136) p) s3 h2 g1 := by
        intro s3 es3
        unfold j_X11_findFamily_84
        intro h3 e3
        refine ⟨J2.hu e3 (by unfold SFm; omega), ?_, ?_, ?_⟩
        · rw [e3, hu_eq, pk_un (by decide), e2, hu_eq, pk_un (by decide), e1, hu_eq, pk_us]; exact es
        · rw [e3, hu_eq, pk_un (by decide), e2, hu_eq, pk_us]; exact es2
        · rw [e3, hu_eq, pk_us]; exact es3
      refine ⟨fun q => ?_, fun q => j84 _ ?_⟩
      · obtain ⟨j, hj, ej⟩ := (v.fam hp).resolve_left q
        rw [ej, show (140 : Int32) + (3 : Int32) * nI j + (2 : Int32) = nI (140 + 3 * j + 2) from ix3 140 3 j 2, nI_clamp (by omega), f2]
        exact ⟨vp_in_nI (by omega) (by omega), j84 _ (fam_j hj ej).2.2.symm⟩
      · rw [(fam_n q).2.2]; decide
    refine ⟨fun q => ?_, fun q => j56 _ ?_⟩
    · obtain ⟨j, hj, ej⟩ := (v.fam hp).resolve_left q
      rw [ej] at j56 ⊢
      rw [show (140 : Int32) + (3 : Int32) * nI j + (1 : Int32) = nI (140 + 3 * j + 1) from ix3 140 3 j 1, nI_clamp (by omega), f1]
      exact ⟨vp_in_nI (by omega) (by omega), j56 _ (fam_j hj ej).2.1.symm⟩
    · rw [(fam_n q).2.1]; decide
  unfold w_X11_findFamily
  refine c_pO (k := 3) hp (by omega) ⟨fun q => ?_, fun q => j29 _ _ ?_⟩
  · obtain ⟨j, hj, ej⟩ := (v.fam hp).resolve_left q
    rw [ej] at j29 ⊢
    rw [show (140 : Int32) + (3 : Int32) * nI j = nI (140 + 3 * j) from ix2 140 3 j, nI_clamp (by omega)]
    exact ⟨vp_in_nI (by omega) (by omega), j29 _ _ (fam_j hj ej).1.symm⟩
  · rw [(fam_n q).1]; decide
theorem q_X11_numberFrom {h : HI} {g : HL} {x : Int32} {b d z : Int} (ex : x.toInt = z) (b11 : (h 135 11).toInt = b) (b12 : (h 135 12).toInt = d) (hb : 1 ≤ b ∧ b ≤ 100000) (hd : 1 ≤ d ∧ d ≤ 100000) (hz : -1000000 ≤ z ∧ z ≤ 1000000) : w_X11_numberFrom x h g (fun r h' g' => r.toInt = pfN b d z ∧ h = h' ∧ g = g') := by
  unfold w_X11_numberFrom
  refine ⟨fun q => ⟨fun e => ?_, ?_, rfl, rfl⟩, fun q => ⟨?_, rfl, rfl⟩⟩
  · rw [e, i0] at b12; omega
  · rw [i_lt b11 ex] at q
    unfold pfN; rw [if_neg (by omega)]
    exact i_div (i_sub (i_add (i_sub ex b11 (by omega)) b12 (by omega)) i1 (by omega)) b12 (by omega) (by omega)
  · rw [i_lt b11 ex] at q
    unfold pfN; rw [if_pos (by omega)]; exact i0
noncomputable def rLo (f : Nat → Int32) (s : Nat) : Int := if f (152 + 6 * s + 1) = 2 then -100000 else sL f s
noncomputable def rHi (f : Nat → Int32) (s : Nat) : Int := if f (152 + 6 * s + 1) = 3 then 300000 else sH f s
theorem rLH {f : Nat → Int32} (v : VR f) (w : WB f) {s : Nat} (hs : s < 60) : -100000 ≤ rLo f s ∧ rLo f s ≤ 110000 ∧ -20000 ≤ rHi f s ∧ rHi f s ≤ 300000 := by
  obtain ⟨a, b, c, d⟩ := sLH v w hs
  unfold rLo rHi
  by_cases q : f (152 + 6 * s + 1) = 2
  · rw [if_pos q]
    by_cases q2 : f (152 + 6 * s + 1) = 3
    · rw [if_pos q2]; omega
    · rw [if_neg q2]; omega
  · rw [if_neg q]
    by_cases q2 : f (152 + 6 * s + 1) = 3
    · rw [if_pos q2]; omega
    · rw [if_neg q2]; omega
theorem alw_r {f : Nat → Int32} {s : Nat} {z : Int} (h1 : -100000 ≤ z) (h2 : z ≤ 300000) : alw f s z ↔ rLo f s ≤ z ∧ z ≤ rHi f s := by
  unfold alw rLo rHi
  by_cases q : f (152 + 6 * s + 1) = 2
  · rw [if_pos q]
    have q2 : ¬ f (152 + 6 * s + 1) = 3 := by rw [q]; decide
    rw [if_neg q2]
    exact ⟨fun x => ⟨h1, x.2 q2⟩, fun x => ⟨fun n => absurd q n, fun _ => x.2⟩⟩
  · rw [if_neg q]
    by_cases q2 : f (152 + 6 * s + 1) = 3
    · rw [if_pos q2]
      exact ⟨fun x => ⟨x.1 q, h2⟩, fun x => ⟨fun _ => x.1, fun n => absurd q2 n⟩⟩
    · rw [if_neg q2]
      exact ⟨fun x => ⟨x.1 q, x.2 q2⟩, fun x => ⟨fun _ => x.1, fun _ => x.2⟩⟩
theorem KJ.f6 {S : Nat → Nat → Prop} {h h' : HI} (J : KJ S h h') (n : ∀ k, ¬ S 136 k) : h' 136 = h 136 := funext fun k => J 136 k (n k)
theorem q_X11_lets {h : HI} {g : HL} {f : Nat → Int32} (ef : h 136 = f) (r : RG f) (v : VR f) (w : WB f) {s : Nat} (hs : s < 60) : w_X11_lets (nI s) h g (fun h' _ => KJ SLt h h' ∧ (h' 135 9).toInt = rLo f s ∧ (h' 135 10).toInt = rHi f s) := by
  obtain ⟨b1, b2, b3, b4, b5, b6⟩ := s_bd v w hs
  have j31 : ∀ (h1 : HI) (g1 : HL) (s0 : Int32), KJ SLt h h1 → h1 136 = f → s0.toInt = sW f s → j_X11_lets_31 (fun h' _ => KJ SLt h h' ∧ (h' 135 9).toInt = rLo f s ∧ (h' 135 10).toInt = rHi f s) (nI s) (f (152 + 6 * s + 1)) s0 h1 g1 := by
    intro h1 g1 s0 J1 f1 es0
    have j58 : ∀ (s1 : Int32) (g2 : HL), s1.toInt = rLo f s → j_X11_lets_58 (fun h' _ => KJ SLt h h' ∧ (h' 135 9).toInt = rLo f s ∧ (h' 135 10).toInt = rHi f s) (nI s) (f (152 + 6 * s + 1)) s0 s1 h1 g2 := by
      intro s1 g2 es1
      unfold j_X11_lets_58
      intro h2 e2
      have J2 : KJ SLt h h2 := J1.hu e2 (by unfold SLt; omega)
      have f2 : h2 136 = f := by rw [e2, hu_ne (by decide), f1]
      have j87 : ∀ (s2 : Int32) (g3 : HL), s2.toInt = rHi f s → j_X11_lets_87 (fun h' _ => KJ SLt h h' ∧ (h' 135 9).toInt = rLo f s ∧ (h' 135 10).toInt = rHi f s) s2 h2 g3 := by
        intro s2 g3 es2
        unfold j_X11_lets_87
        intro h3 e3
        refine ⟨J2.hu e3 (by unfold SLt; omega), ?_, ?_⟩
        · rw [e3, hu_eq, pk_un (by decide), e2, hu_eq, pk_us]; exact es1
        · rw [e3, hu_eq, pk_us]; exact es2
      refine ⟨fun q => ?_, fun q => j87 _ _ ?_⟩
      · refine c_sO (k := 2) hs (by omega) (c_sO (k := 3) hs (by omega) (j87 _ _ ?_))
        rw [f2, i_add (i_add rfl rfl (by omega)) es0 (by omega)]
        unfold rHi; rw [if_neg q]; rfl
      · unfold rHi; rw [if_pos q]; decide
    unfold j_X11_lets_31
    refine ⟨fun q => ?_, fun q => j58 _ _ ?_⟩
    · refine c_sO (k := 2) hs (by omega) (c_sO (k := 3) hs (by omega) (j58 _ _ ?_))
      rw [f1, i_add (i_sub rfl rfl (by omega)) es0 (by omega)]
      unfold rLo; rw [if_neg q]; rfl
    · unfold rLo; rw [if_pos q]; decide
  unfold w_X11_lets
  refine c_sO (k := 1) hs (by omega) ?_
  rw [ef]
  refine ⟨fun q => j31 h _ _ KJ.rf ef ?_, fun q => ?_⟩
  · unfold sW; rw [if_neg q]; exact i0
  · skip
    obtain ⟨a, y, ha, hy, ea, ey⟩ := v.sp hs
    refine c_sO (k := 0) hs (by omega) (c_sO (k := 4) hs (by omega) ?_)
    rw [ef, ea, ey]
    refine c_wornR (by rw [ef]; exact r) (by rw [ef]; exact v) ha hy (fun h1 g1 J => ?_)
    refine j31 h1 g1 _ (J.mo (fun o k hq => by unfold SRd at hq; unfold SLt; omega)) ((J.f6 (fun k => by unfold SRd; omega)).trans ef) ?_
    unfold sW
    rw [if_pos q, ea, ey, nI_clamp (by omega), nI_clamp (by omega), ef]
/-- what findFirst leaves -/
def FZ (h : HI) (f : Nat → Int32) (p n : Nat) : Prop := (h 135 11).toInt = fB f p ∧ (h 135 12).toInt = fD f p ∧ ∃ a b : Int, FSp f p n a b ∧ (h 135 14).toInt = a ∧ (h 135 15).toInt = (if b < a then 0 else b - a + 1) ∧ a ≤ 1100000 ∧ -1 ≤ b
theorem okZs_s {f : Nat → Int32} {p i : Nat} {z : Int} : okZs f p (i + 1) z ↔ okZs f p i z ∧ (isO f p i → alw f i z) := by
  refine ⟨fun q => ⟨fun s hs o => q s (by omega) o, q i (by omega)⟩, fun q s hs o => ?_⟩
  by_cases e : s = i
  · subst e; exact q.2 o
  · exact q.1 s (by omega) o
theorem q_X11_findFirst {h : HI} {g : HL} {f : Nat → Int32} (ef : h 136 = f) (r : RG f) (v : VR f) (w : WB f) {p n : Nat} (hp : p < 24) (en : f 1 = nI n) (hn : n ≤ 60) : w_X11_findFirst (nI p) h g (fun h' _ => KJ SFf h h' ∧ FZ h' f p n) := by
  have k0 := v.fok hp
  obtain ⟨k1, k2, k3, k4, k5, k6⟩ := id k0
  have kB : fB f p ≤ 100000 := by
    have := Int.mul_nonneg (a := fM f p - 1) (b := fD f p) (by omega) (by omega)
    omega
  unfold w_X11_findFirst
  refine c_v (q_X11_findFamily (by rw [ef]; exact v) hp) ?_
  rintro h2 g2 ⟨J2, b11, b12, b13⟩
  rw [ef] at b11 b12 b13
  intro x3 ex3
  have e3 : x3.toInt = fM f p - 1 := by rw [ex3]; exact i_sub b13 i1 (by omega)
  clear ex3
  refine lpE_intro (fun ⟨a_q, b_q, c_q, d_q, h_q, _⟩ => ∃ i : Nat, i ≤ n ∧ nI p = a_q ∧ nI i = d_q ∧ KJ SFf h h_q ∧ (h_q 135 11).toInt = fB f p ∧ (h_q 135 12).toInt = fD f p ∧ 0 ≤ b_q.toInt ∧ b_q.toInt ≤ 1100000 ∧ -1 ≤ c_q.toInt ∧ c_q.toInt ≤ fM f p - 1 ∧ ∀ z : Int, 0 ≤ z → z ≤ fM f p - 1 → ((b_q.toInt ≤ z ∧ z ≤ c_q.toInt) ↔ okZs f p i (fB f p + fD f p * z))) (fun ⟨_, _, _, d_q, _, _⟩ => dif (nI n) d_q) ?_ _ ⟨0, by omega, rfl, nI_0, J2.mo (fun o k hq => by unfold SFm at hq; unfold SFf; omega), b11, b12, by rw [i0]; omega, by rw [i0]; omega, by omega, by omega, fun z h0 h1 => ⟨fun _ s hs => absurd hs (Nat.not_lt_zero s), fun _ => by rw [i0]; omega⟩⟩
  clear b11 b12 b13 e3 J2
  rintro ⟨y1, y2, y3, y4, h3, g3⟩ K ⟨i, hi, rfl, rfl, J3, b11, b12, l1, l2, l3, l4, kk⟩ hK
  have f3 : h3 136 = f := (J3.f6 (fun k => by unfold SFf; omega)).trans ef
  unfold F_X11_findFirst_17; dsimp only; unfold b_X11_findFirst_17
  rw [cl1, f3, en]
  refine and_have (vp_in_iff.mpr (by decide)) (fun _ => ⟨fun q => ?_, fun q => ?_⟩)
  · rw [nI_leI (by omega) (by omega)] at q
    have : i = n := by omega
    subst this
    intro h4 e4
    have J4 := J3.hu e4 (by unfold SFf; omega)
    have fin : ∀ s1 : Int32, s1.toInt = (if y3.toInt < y2.toInt then 0 else y3.toInt - y2.toInt + 1) → j_X11_findFirst_137 (fun h' _ => KJ SFf h h' ∧ FZ h' f p i) s1 h4 g3 := by
      intro s1 es1
      unfold j_X11_findFirst_137
      intro h5 e5
      refine ⟨J4.hu e5 (by unfold SFf; omega), ?_, ?_, y2.toInt, y3.toInt, ⟨l1, l4, kk⟩, ?_, ?_, l2, l3⟩
      · rw [e5, hu_eq, pk_un (by decide), e4, hu_eq, pk_un (by decide)]; exact b11
      · rw [e5, hu_eq, pk_un (by decide), e4, hu_eq, pk_un (by decide)]; exact b12
      · rw [e5, hu_eq, pk_un (by decide), e4, hu_eq, pk_us]
      · rw [e5, hu_eq, pk_us]; exact es1
    refine ⟨fun c => fin _ ?_, fun c => fin _ ?_⟩
    · rw [i_le rfl rfl] at c
      rw [if_neg (by omega)]
      exact i_add (i_sub rfl rfl (by omega)) i1 (by omega)
    · rw [i_le rfl rfl] at c
      rw [if_pos (by omega)]; exact i0
  · have hd := dif_lt q
    rw [nI_leI (by omega) (by omega)] at q
    have nxt : ∀ (x2 x3 : Int32) (h4 : HI) (g4 : HL), KJ SFf h h4 → (h4 135 11).toInt = fB f p → (h4 135 12).toInt = fD f p → 0 ≤ x2.toInt → x2.toInt ≤ 1100000 → -1 ≤ x3.toInt → x3.toInt ≤ fM f p - 1 → (∀ z : Int, 0 ≤ z → z ≤ fM f p - 1 → ((x2.toInt ≤ z ∧ z ≤ x3.toInt) ↔ okZs f p (i + 1) (fB f p + fD f p * z))) → j_X11_findFirst_111 (fun h' _ => KJ SFf h h' ∧ FZ h' f p n) (fun x1 x2 x3 x4 h g => K (x1, x2, x3, x4, h, g)) (nI p) x2 x3 (nI i) h4 g4 := by
      intro x2 x3 h4 g4 J4 r1 r2 r3 r4 r5 r6 r7
      unfold j_X11_findFirst_111
      rintro _ rfl
      exact hK _ ⟨i + 1, by omega, rfl, (nI_1 i).symm, J4, r1, r2, r3, r4, r5, r6, r7⟩ hd
    refine c_isO (by omega) (fun o => ⟨fun c => absI c, fun _ => ?_⟩) (fun o => ⟨fun _ => nxt y2 y3 h3 _ J3 b11 b12 l1 l2 l3 l4 (fun z h0 h1 => ?_), fun c => absN c⟩)
    rotate_left
    · rw [f3] at o
      rw [okZs_s, ← kk z h0 h1]
      exact ⟨fun a => ⟨a, fun o' => absurd o' o⟩, fun a => a.1⟩
    rw [f3] at o
    refine c_v (q_X11_lets f3 r v w (s := i) (by omega)) ?_
    rintro h4 g4 ⟨J4, c9, c10⟩
    have d11 : (h4 135 11).toInt = fB f p := by rw [J4 135 11 (by unfold SLt; omega)]; exact b11
    have d12 : (h4 135 12).toInt = fD f p := by rw [J4 135 12 (by unfold SLt; omega)]; exact b12
    have J5 : KJ SFf h h4 := J3.tr (J4.mo (fun o k hq => by unfold SLt at hq; unfold SFf; omega))
    obtain ⟨w1, w2, w3, w4⟩ := rLH v w (s := i) (by omega)
    refine c_i (q_X11_numberFrom c9 d11 d12 (by omega) (by omega) (by omega)) ?_
    rintro ra _ _ ⟨era, rfl, rfl⟩
    have pb := pfN_bd (b := fB f p) (d := fD f p) (z := rLo f i) k1 k2 k3 (by omega)
    have qb := qfN_bd (b := fB f p) (d := fD f p) (z := rHi f i) k1 k2 (by omega)
    have j83 : ∀ s0 : Int32, s0.toInt = qfN (fB f p) (fD f p) (rHi f i) → j_X11_findFirst_83 (fun h' _ => KJ SFf h h' ∧ FZ h' f p n) (fun x1 x2 x3 x4 h g => K (x1, x2, x3, x4, h, g)) (nI p) y2 y3 (nI i) ra s0 h4 g4 := by
      intro s0 es0
      have j97 : ∀ t : Int32, (∀ z : Int, t.toInt ≤ z ↔ y2.toInt ≤ z ∧ ra.toInt ≤ z) → j_X11_findFirst_97 (fun h' _ => KJ SFf h h' ∧ FZ h' f p n) (fun x1 x2 x3 x4 h g => K (x1, x2, x3, x4, h, g)) (nI p) y3 (nI i) s0 t h4 g4 := by
        intro t ht
        have t1 := (ht t.toInt).mp (Int.le_refl _)
        have t2 : t.toInt ≤ 1100000 := (ht 1100000).mpr ⟨l2, by omega⟩
        have j110 : ∀ u : Int32, (∀ z : Int, z ≤ u.toInt ↔ z ≤ y3.toInt ∧ z ≤ s0.toInt) → j_X11_findFirst_110 (fun h' _ => KJ SFf h h' ∧ FZ h' f p n) (fun x1 x2 x3 x4 h g => K (x1, x2, x3, x4, h, g)) (nI p) t (nI i) u h4 g4 := by
          intro u hu
          have u1 := (hu u.toInt).mp (Int.le_refl _)
          have u2 : -1 ≤ u.toInt := (hu (-1)).mpr ⟨l3, by omega⟩
          unfold j_X11_findFirst_110
          refine nxt t u h4 _ J5 d11 d12 (by omega) t2 u2 (by omega) (fun z h0 h1 => ?_)
          have s := k0.sz h0 h1
          rw [okZs_s, ← kk z h0 h1, ht, hu, alw_r (by omega) (by omega), era, es0, pfN_le k2 h0, le_qfN k2 h0]
          exact ⟨fun a => ⟨⟨a.1.1, a.2.1⟩, fun _ => ⟨a.1.2, a.2.2⟩⟩, fun a => ⟨⟨a.1.1, (a.2 o).1⟩, a.1.2, (a.2 o).2⟩⟩
        unfold j_X11_findFirst_97
        refine ⟨fun c => j110 _ (fun z => ?_), fun c => j110 _ (fun z => ?_)⟩
        · rw [i_le rfl rfl] at c; omega
        · rw [i_le rfl rfl] at c; omega
      unfold j_X11_findFirst_83
      refine ⟨fun c => j97 _ (fun z => ?_), fun c => j97 _ (fun z => ?_)⟩
      · rw [i_le rfl rfl] at c; omega
      · rw [i_le rfl rfl] at c; omega
    refine ⟨fun c => ⟨fun e => ?_, j83 _ ?_⟩, fun c => j83 _ ?_⟩
    · rw [e, i0] at d12; omega
    · rw [i_le d11 c10] at c
      rw [i_div (i_sub c10 d11 (by omega)) d12 (by omega) k2]
      unfold qfN; rw [if_neg (by omega)]
    · rw [i_le d11 c10] at c
      unfold qfN; rw [if_pos (by omega)]; exact im1
noncomputable def fsel (f : Nat → Int32) (p : Nat) (x : Int32) : Int32 := if x = 2 then fMn f p else if x = 0 then fLo f p else fHi f p
theorem q_X11_firstOf {h : HI} {g : HL} {f : Nat → Int32} (ef : h 136 = f) (r : RG f) (v : VR f) (w : WB f) {p n : Nat} (hp : p < 24) (en : f 1 = nI n) (hn : n ≤ 60) {x : Int32} : w_X11_firstOf (nI p) x h g (fun s h' _ => KJ SFf h h' ∧ s = fsel f p x) := by
  have k0 := v.fok hp
  obtain ⟨k1, k2, k3, k4, k5, k6⟩ := id k0
  unfold w_X11_firstOf
  refine c_v (q_X11_findFirst ef r v w hp en hn) ?_
  rintro h2 g2 ⟨J2, b11, b12, a, b, fs, e14, e15, l1, l2⟩
  obtain ⟨a0, b0, -⟩ := id fs
  have fa : FA f p n (if b < a then -1 else fB f p + fD f p * a) (if b < a then -1 else fB f p + fD f p * b) (if b < a then 0 else b - a + 1) := ⟨a, b, fs, rfl, rfl, rfl⟩
  have e3 := f3_eq en hn fa
  have eM : fMn f p = h2 135 15 := by unfold fMn; rw [e3]; exact (i32_e e15).symm
  have eL : fLo f p = i32 (if b < a then -1 else fB f p + fD f p * a) := by unfold fLo; rw [e3]
  have eH : fHi f p = i32 (if b < a then -1 else fB f p + fD f p * b) := by unfold fHi; rw [e3]
  have z15 : h2 135 15 = 0 ↔ b < a := by
    rw [i_eq e15 i0]
    by_cases q : b < a
    · rw [if_pos q]; omega
    · rw [if_neg q]; omega
  have j56 : ∀ s2 : Int32, ¬ b < a → s2.toInt = a ∨ s2.toInt = b → fsel f p x = (i32 (fB f p + fD f p * s2.toInt)) → j_X11_firstOf_56 (fun s h' _ => KJ SFf h h' ∧ s = fsel f p x) (h2 135 11) (h2 135 12) s2 h2 g2 := by
    intro s2 q o e
    have s := k0.sz (i := s2.toInt) (by omega) (by omega)
    unfold j_X11_firstOf_56
    refine ⟨J2, ?_⟩
    rw [e]
    exact i32_e (i_add b11 (i_mul b12 rfl (by omega)) (by omega))
  refine ⟨fun x2 => ⟨fun n0 => ⟨fun x0 => j56 _ (fun q => n0 (z15.mpr q)) (.inr ?_) ?_, fun x0 => j56 _ (fun q => n0 (z15.mpr q)) (.inl e14) ?_⟩, fun n0 => ⟨J2, ?_⟩⟩, fun x2 => ⟨J2, ?_⟩⟩
  · have q : ¬ b < a := fun q => n0 (z15.mpr q)
    rw [if_neg q] at e15
    rw [i_sub (i_add e14 e15 (by omega)) i1 (by omega)]; omega
  · have q : ¬ b < a := fun q => n0 (z15.mpr q)
    rw [if_neg q] at e15 eH
    unfold fsel
    rw [if_neg x2, if_neg x0, eH, i_sub (i_add e14 e15 (by omega)) i1 (by omega), show a + (b - a + 1) - 1 = b by omega]
  · have q : ¬ b < a := fun q => n0 (z15.mpr q)
    rw [if_neg q] at eL
    unfold fsel
    rw [if_neg x2, if_pos x0, eL, e14]
  · have q : b < a := z15.mp n0
    rw [if_pos q] at eL eH
    unfold fsel
    rw [if_neg x2, eL, eH]
    by_cases x0 : x = 0
    · rw [if_pos x0]; exact i32_e im1
    · rw [if_neg x0]; exact i32_e im1
  · unfold fsel
    rw [if_pos x2, eM]
/-! FIRST, the call -/
def AFR (f : Nat → Int32) (m : Nat) (x1 x2 r : Int32) : Prop := (¬ (isRow (nI m) x1 ∧ bd 0 2 x2) ∧ r = -2) ∨ ∃ p : Nat, p < m ∧ x1 = nI p ∧ bd 0 2 x2 ∧ r = fsel f p x2
theorem AFR.un {f : Nat → Int32} {m : Nat} (hm : m ≤ 24) {x1 x2 r s : Int32} (a : AFR f m x1 x2 r) (b : AFR f m x1 x2 s) : r = s := by
  rcases a with ⟨a1, rfl⟩ | ⟨p, hp, rfl, a1, rfl⟩
  · rcases b with ⟨-, rfl⟩ | ⟨p, hp, rfl, b1, -⟩
    · rfl
    · exact absurd ⟨row_of hp (by omega), b1⟩ a1
  · rcases b with ⟨b1, -⟩ | ⟨p', hp', e1, -, rfl⟩
    · exact absurd ⟨row_of hp (by omega), a1⟩ b1
    · have q1 : p = p' := (nI_eq (by omega) (by omega)).mp e1
      rw [q1]
end
section
-- 74.quarrel
/-! QUARREL: how many sayings do not allow a size, and the size that the fewest do not -/
noncomputable def dn (f : Nat → Int32) (z : Int) (s : Nat) : Bool := !(decide (cLo f s ≤ z) && decide (z ≤ cHi f s))
theorem dn_iff {f : Nat → Int32} {z : Int} {s : Nat} : dn f z s = true ↔ ¬ (cLo f s ≤ z ∧ z ≤ cHi f s) := by
  unfold dn
  by_cases a : cLo f s ≤ z
  · by_cases b : z ≤ cHi f s
    · rw [decide_eq_true a, decide_eq_true b]; exact ⟨fun q => absurd q (by decide), fun q => absurd ⟨a, b⟩ q⟩
    · rw [decide_eq_true a, decide_eq_false b]; exact ⟨fun _ q => b q.2, fun _ => rfl⟩
  · rw [decide_eq_false a]; exact ⟨fun _ q => a q.1, fun _ => rfl⟩
noncomputable def cq (f : Nat → Int32) (p : Nat) (z : Int) (k : Nat) : Nat := (ofL f p k).countP (dn f z)
theorem cq_y {f : Nat → Int32} {p k : Nat} {z : Int} (o : isO f p k) (d : dn f z k = true) : cq f p z (k + 1) = cq f p z k + 1 := by
  unfold cq
  rw [ofL_y o, List.countP_append, List.countP_singleton, if_pos d]
theorem cq_n {f : Nat → Int32} {p k : Nat} {z : Int} (o : ¬ (isO f p k ∧ dn f z k = true)) : cq f p z (k + 1) = cq f p z k := by
  unfold cq
  by_cases q : isO f p k
  · rw [ofL_y q, List.countP_append, List.countP_singleton, if_neg (fun d => o ⟨q, d⟩), Nat.add_zero]
  · rw [ofL_n q]
theorem cq_le {f : Nat → Int32} {p k : Nat} {z : Int} : cq f p z k ≤ k := Nat.le_trans List.countP_le_length ofL_len
theorem cq_mono {f : Nat → Int32} {p n : Nat} {z z' : Int} (h : ∀ s, s < n → isO f p s → dn f z' s = true → dn f z s = true) : cq f p z' n ≤ cq f p z n :=
  List.countP_mono_left (fun s hs d => h s (ofL_mem.mp hs).1 (ofL_mem.mp hs).2 d)
theorem cq_up {f : Nat → Int32} {p : Nat} {z : Int} : ∀ {a b : Nat}, a ≤ b → cq f p z a ≤ cq f p z b
  | a, 0, h => by rw [show a = 0 by omega]; exact Nat.le_refl _
  | a, b + 1, h => by
    by_cases e : a = b + 1
    · rw [e]; exact Nat.le_refl _
    · have ih := cq_up (f := f) (p := p) (z := z) (a := a) (b := b) (by omega)
      by_cases q : isO f p b ∧ dn f z b = true
      · rw [cq_y q.1 q.2]; omega
      · rw [cq_n q]; exact ih
def lex (f : Nat → Int32) (p n : Nat) (z z' : Int) : Prop := cq f p z n < cq f p z' n ∨ (cq f p z n = cq f p z' n ∧ z ≤ z')
theorem lex.rf {f : Nat → Int32} {p n : Nat} {z : Int} : lex f p n z z := .inr ⟨rfl, Int.le_refl _⟩
theorem lex.tr {f : Nat → Int32} {p n : Nat} {a b c : Int} (x : lex f p n a b) (y : lex f p n b c) : lex f p n a c := by
  unfold lex at *; omega
def BST (f : Nat → Int32) (p n : Nat) (z : Int) : Prop := (∃ i, 0 ≤ i ∧ i ≤ fM f p - 1 ∧ z = fB f p + fD f p * i) ∧ ∀ i, 0 ≤ i → i ≤ fM f p - 1 → lex f p n z (fB f p + fD f p * i)
theorem BST.un {f : Nat → Int32} {p n : Nat} {z z' : Int} (x : BST f p n z) (y : BST f p n z') : z = z' := by
  obtain ⟨⟨i, i0, i1, e⟩, k⟩ := x
  obtain ⟨⟨i', i0', i1', e'⟩, k'⟩ := y
  have a := k i' i0' i1'
  have b := k' i i0 i1
  rw [← e'] at a
  rw [← e] at b
  unfold lex at a b; omega
theorem cand {f : Nat → Int32} {p n : Nat} (k : FOK f p) : ∀ i : Nat, (i : Int) ≤ fM f p - 1 → ∃ j : Int, 0 ≤ j ∧ j ≤ i ∧ cq f p (fB f p + fD f p * j) n ≤ cq f p (fB f p + fD f p * i) n ∧ (j = 0 ∨ ∃ s, s < n ∧ isO f p s ∧ pfN (fB f p) (fD f p) (cLo f s) = j)
  | 0, _ => ⟨0, by omega, by omega, Nat.le_refl _, .inl rfl⟩
  | i + 1, hi => by
    by_cases q : ∃ s, s < n ∧ isO f p s ∧ pfN (fB f p) (fD f p) (cLo f s) = ((i + 1 : Nat) : Int)
    · exact ⟨((i + 1 : Nat) : Int), by omega, by omega, Nat.le_refl _, .inr q⟩
    · obtain ⟨j, j0, j1, jc, jo⟩ := cand (n := n) k i (by omega)
      refine ⟨j, j0, by omega, Nat.le_trans jc (cq_mono (fun s hs o d => ?_)), jo⟩
      rw [dn_iff] at d ⊢
      intro a
      refine d ?_
      have d1 : 1 ≤ fD f p := k.2.1
      have b1 := (pfN_le (b := fB f p) (z := cLo f s) (i := ((i + 1 : Nat) : Int)) d1 (by omega)).mpr a.1
      have b2 : ¬ pfN (fB f p) (fD f p) (cLo f s) = ((i + 1 : Nat) : Int) := fun e => q ⟨s, hs, o, e⟩
      have b3 := (pfN_le (b := fB f p) (z := cLo f s) (i := (i : Int)) d1 (by omega)).mp (by omega)
      have e : fD f p * ((i + 1 : Nat) : Int) = fD f p * (i : Int) + fD f p := by
        rw [show ((i + 1 : Nat) : Int) = (i : Int) + 1 by omega, Int.mul_add, Int.mul_one]
      rw [e] at a
      exact ⟨b3, by omega⟩
theorem BST.of {f : Nat → Int32} {p n : Nat} (k : FOK f p) {z : Int} (hz : ∃ i, 0 ≤ i ∧ i ≤ fM f p - 1 ∧ z = fB f p + fD f p * i) (c0 : lex f p n z (fB f p + fD f p * 0)) (cs : ∀ s, s < n → isO f p s → pfN (fB f p) (fD f p) (cLo f s) ≤ fM f p - 1 → lex f p n z (fB f p + fD f p * pfN (fB f p) (fD f p) (cLo f s))) : BST f p n z := by
  refine ⟨hz, fun i i0 i1 => ?_⟩
  obtain ⟨m, rfl⟩ : ∃ m : Nat, i = (m : Int) := ⟨i.toNat, by omega⟩
  obtain ⟨j, j0, j1, jc, jo⟩ := cand (n := n) k m i1
  have h1 : lex f p n z (fB f p + fD f p * j) := by
    rcases jo with e | ⟨s, hs, o, e⟩
    · rw [e]; exact c0
    · rw [← e]; exact cs s hs o (by omega)
  have h2 : fD f p * j ≤ fD f p * (m : Int) := Int.mul_le_mul_of_nonneg_left j1 (by have := k.2.1; omega)
  unfold lex at h1 ⊢; omega
noncomputable def bst (f : Nat → Int32) (p : Nat) : Int := Classical.epsilon (fun z => ∃ n : Nat, f 1 = nI n ∧ n ≤ 60 ∧ BST f p n z)
/-- which saying is the w-th that does not allow z -/
def OBJ (f : Nat → Int32) (p n : Nat) (z : Int) (w r : Int32) : Prop := (∃ s, s < n ∧ isO f p s ∧ dn f z s = true ∧ w = nI (cq f p z s) ∧ r = nI s) ∨ ((∀ s, s < n → isO f p s → dn f z s = true → ¬ w = nI (cq f p z s)) ∧ r = -1)
theorem OBJ.un {f : Nat → Int32} {p n : Nat} (hn : n ≤ 60) {z : Int} {w r t : Int32} (x : OBJ f p n z w r) (y : OBJ f p n z w t) : r = t := by
  rcases x with ⟨s, hs, o, d, ew, rfl⟩ | ⟨no, rfl⟩
  · rcases y with ⟨s', hs', o', d', ew', rfl⟩ | ⟨no, rfl⟩
    · have l1 := cq_le (f := f) (p := p) (z := z) (k := s)
      have l2 := cq_le (f := f) (p := p) (z := z) (k := s')
      have e := (nI_eq (by omega) (by omega)).mp (ew.symm.trans ew')
      rcases Nat.lt_trichotomy s s' with c | c | c
      · have := cq_up (f := f) (p := p) (z := z) (a := s + 1) (b := s') c
        rw [cq_y o d] at this; omega
      · rw [c]
      · have := cq_up (f := f) (p := p) (z := z) (a := s' + 1) (b := s) c
        rw [cq_y o' d'] at this; omega
    · exact absurd ew (no s hs o d)
  · rcases y with ⟨s', hs', o', d', ew', rfl⟩ | ⟨no, rfl⟩
    · exact absurd ew' (no s' hs' o' d')
    · rfl
/-! THE CLASS -/
/-- the answer -/
def AQ (f : Nat → Int32) (m n : Nat) (x1 x2 r : Int32) : Prop := (¬ (isRow (nI m) x1 ∧ (-1 ≤ x2.toInt ∨ x2 = -3)) ∧ r = -10) ∨ ∃ p : Nat, p < m ∧ x1 = nI p ∧ ((x2 = -3 ∧ r.toInt = bst f p) ∨ (x2 = -1 ∧ r = nI (cq f p (bst f p) n)) ∨ (0 ≤ x2.toInt ∧ OBJ f p n (bst f p) x2 r))
theorem AQ.un {f : Nat → Int32} {m n : Nat} (hm : m ≤ 24) (hn : n ≤ 60) {x1 x2 r s : Int32} (a : AQ f m n x1 x2 r) (b : AQ f m n x1 x2 s) : r = s := by
  have ok : ∀ {p : Nat} {t : Int32}, ((x2 = -3 ∧ t.toInt = bst f p) ∨ (x2 = -1 ∧ t = nI (cq f p (bst f p) n)) ∨ (0 ≤ x2.toInt ∧ OBJ f p n (bst f p) x2 t)) → -1 ≤ x2.toInt ∨ x2 = -3 := by
    rintro p t (⟨e, -⟩ | ⟨e, -⟩ | ⟨e, -⟩)
    · exact .inr e
    · exact .inl (by rw [e]; decide)
    · exact .inl (by omega)
  rcases a with ⟨a1, rfl⟩ | ⟨p, hp, rfl, a⟩
  · rcases b with ⟨-, rfl⟩ | ⟨p, hp, rfl, b⟩
    · rfl
    · exact absurd ⟨row_of hp (by omega), ok b⟩ a1
  · rcases b with ⟨b1, -⟩ | ⟨p', hp', e1, b⟩
    · exact absurd ⟨row_of hp (by omega), ok a⟩ b1
    · have q1 : p = p' := (nI_eq (by omega) (by omega)).mp e1
      subst q1
      rcases a with ⟨e, u⟩ | ⟨e, u⟩ | ⟨e, u⟩
      · rcases b with ⟨e', u'⟩ | ⟨e', u'⟩ | ⟨e', u'⟩
        · exact Int32.toInt_inj.mp (u.trans u'.symm)
        · rw [e] at e'; exact absurd e' (by decide)
        · rw [e] at e'; exact absurd e' (by decide)
      · rcases b with ⟨e', u'⟩ | ⟨e', u'⟩ | ⟨e', u'⟩
        · rw [e] at e'; exact absurd e' (by decide)
        · exact u.trans u'.symm
        · rw [e] at e'; exact absurd e' (by decide)
      · rcases b with ⟨e', u'⟩ | ⟨e', u'⟩ | ⟨e', u'⟩
        · rw [e'] at e; exact absurd e (by decide)
        · rw [e'] at e; exact absurd e (by decide)
        · exact u.un hn u'
end
section
-- 75.quarrelr
/-! QUARREL, THE REFERENCE -/
def BV (h : HI) (f : Nat → Int32) (p n : Nat) (z : Int) : Prop := (h 135 16).toInt = z ∧ h 135 17 = nI (cq f p z n)
/-- the family and the best are untouched by what SLt changes -/
theorem SLt.k {k : Nat} (h : 11 ≤ k) : ¬ SLt 135 k := by unfold SLt; omega
theorem STr.f {k : Nat} (h : 11 ≤ k ∧ k ≤ 13) : ¬ STr 135 k := by unfold STr; omega
def FG (h : HI) (f : Nat → Int32) (p : Nat) : Prop := (h 135 11).toInt = fB f p ∧ (h 135 12).toInt = fD f p ∧ (h 135 13).toInt = fM f p
theorem FG.kj {S : Nat → Nat → Prop} {h h' : HI} {f : Nat → Int32} {p : Nat} (x : FG h f p) (J : KJ S h h') (n : ∀ k, 11 ≤ k ∧ k ≤ 13 → ¬ S 135 k) : FG h' f p := by
  unfold FG
  rw [J 135 11 (n 11 (by omega)), J 135 12 (n 12 (by omega)), J 135 13 (n 13 (by omega))]; exact x
/-- the best so far, of all that was tried -/
def BQ (h : HI) (f : Nat → Int32) (p n i : Nat) : Prop := ∃ z, BV h f p n z ∧ (∃ t, 0 ≤ t ∧ t ≤ fM f p - 1 ∧ z = fB f p + fD f p * t) ∧ lex f p n z (fB f p + fD f p * 0) ∧ ∀ s, s < i → isO f p s → pfN (fB f p) (fD f p) (cLo f s) ≤ fM f p - 1 → lex f p n z (fB f p + fD f p * pfN (fB f p) (fD f p) (cLo f s))
theorem BQ.tr {h h' : HI} {f : Nat → Int32} {p n i : Nat} {x : Int32} (b : BQ h f p n i) (a : (¬ (0 ≤ x.toInt ∧ x.toInt ≤ fM f p - 1) ∧ h' 135 16 = h 135 16 ∧ h' 135 17 = h 135 17) ∨ ((0 ≤ x.toInt ∧ x.toInt ≤ fM f p - 1) ∧ ∃ z', BV h' f p n z' ∧ lex f p n z' (fB f p + fD f p * x.toInt) ∧ (z' = fB f p + fD f p * x.toInt ∨ BV h f p n z') ∧ ∀ z, BV h f p n z → lex f p n z' z)) : BQ h' f p n i ∧ (0 ≤ x.toInt → x.toInt ≤ fM f p - 1 → ∀ z', BV h' f p n z' → lex f p n z' (fB f p + fD f p * x.toInt)) := by
  obtain ⟨z, B, fam, l0, ls⟩ := b
  rcases a with ⟨a1, a2, a3⟩ | ⟨a1, z', B', lx, o, al⟩
  · exact ⟨⟨z, ⟨by rw [a2]; exact B.1, by rw [a3]; exact B.2⟩, fam, l0, ls⟩, fun h0 h1 => absurd ⟨h0, h1⟩ a1⟩
  · have lz := al z B
    refine ⟨⟨z', B', ?_, lz.tr l0, fun s hs o hp => lz.tr (ls s hs o hp)⟩, fun _ _ z2 B2 => ?_⟩
    · rcases o with e | e
      · exact ⟨x.toInt, a1.1, a1.2, e⟩
      · rw [show z' = z from e.1.symm.trans B.1]; exact fam
    · rw [show z2 = z' from B2.1.symm.trans B'.1]; exact lx
end
section
-- 76.fits
/-! SUMS OF A CHAIN -/
theorem FSp_ex {f : Nat → Int32} {p : Nat} (k : FOK f p) (v : VR f) (w : WB f) : ∀ n, n ≤ 60 → ∃ a b, FSp f p n a b
  | 0, _ => ⟨0, fM f p - 1, by omega, by omega, fun i h0 h1 => ⟨fun _ s hs => absurd hs (Nat.not_lt_zero s), fun _ => ⟨h0, h1⟩⟩⟩
  | n + 1, hn => by
    obtain ⟨a, b, a0, b0, kk⟩ := FSp_ex k v w n (by omega)
    by_cases o : isO f p n
    · have d1 : 1 ≤ fD f p := k.2.1
      refine ⟨if a < pfN (fB f p) (fD f p) (cLo f n) then pfN (fB f p) (fD f p) (cLo f n) else a, if qfN (fB f p) (fD f p) (cHi f n) < b then qfN (fB f p) (fD f p) (cHi f n) else b, ?_, ?_, fun i h0 h1 => ?_⟩
      · by_cases c : a < pfN (fB f p) (fD f p) (cLo f n)
        · rw [if_pos c]; omega
        · rw [if_neg c]; exact a0
      · by_cases c : qfN (fB f p) (fD f p) (cHi f n) < b
        · rw [if_pos c]; omega
        · rw [if_neg c]; exact b0
      · have s := k.sz h0 h1
        rw [okZs_s, ← kk i h0 h1, alw_c (by omega) (by omega), ← pfN_le d1 h0, ← le_qfN d1 h0]
        generalize pfN (fB f p) (fD f p) (cLo f n) = u
        generalize qfN (fB f p) (fD f p) (cHi f n) = t
        have e : ((a ≤ i ∧ i ≤ b) ∧ (isO f p n → u ≤ i ∧ i ≤ t)) ↔ ((a ≤ i ∧ i ≤ b) ∧ (u ≤ i ∧ i ≤ t)) := ⟨fun q => ⟨q.1, q.2 o⟩, fun q => ⟨q.1, fun _ => q.2⟩⟩
        rw [e]
        by_cases c1 : a < u
        · rw [if_pos c1]
          by_cases c2 : t < b
          · rw [if_pos c2]; omega
          · rw [if_neg c2]; omega
        · rw [if_neg c1]
          by_cases c2 : t < b
          · rw [if_pos c2]; omega
          · rw [if_neg c2]; omega
    · refine ⟨a, b, a0, b0, fun i h0 h1 => ?_⟩
      rw [okZs_s, ← kk i h0 h1]
      exact ⟨fun q => ⟨q, fun o' => absurd o' o⟩, fun q => q.1⟩
/-- the bounds of FIRST -/
theorem f3_bd {f : Nat → Int32} (v : VR f) (w : WB f) {p n : Nat} (hp : p < 24) (en : f 1 = nI n) (hn : n ≤ 60) : -1 ≤ (f3 f p).1 ∧ (f3 f p).1 ≤ 100000 ∧ -1 ≤ (f3 f p).2.1 ∧ (f3 f p).2.1 ≤ 100000 ∧ 0 ≤ (f3 f p).2.2 ∧ (f3 f p).2.2 ≤ 100001 ∧ ((f3 f p).1 = -1 ↔ (f3 f p).2.2 = 0) := by
  have k := v.fok hp
  obtain ⟨a, b, fs⟩ := FSp_ex k v w n hn
  obtain ⟨a0, b0, -⟩ := id fs
  have k5 : fM f p ≤ 100000 := k.2.2.2.2.1
  rw [f3_eq en hn ⟨a, b, fs, rfl, rfl, rfl⟩]
  dsimp only
  by_cases c : b < a
  · rw [if_pos c, if_pos c, if_pos c]; omega
  · rw [if_neg c, if_neg c, if_neg c]
    have s1 := k.sz a0 (by omega)
    have s2 := k.sz (i := b) (by omega) b0
    omega
def lkP (f : Nat → Int32) (c k : Nat) : Nat := (f (512 + 10 * c + (3 + k))).toNatClampNeg
def nCh (f : Nat → Int32) (c : Nat) : Nat := (f (512 + 10 * c + 2)).toNatClampNeg
def oCh (f : Nat → Int32) (c : Nat) : Nat := (f (512 + 10 * c + 9)).toNatClampNeg
/-- what the k-th part adds to the least and to the greatest sum; some part stands for another -/
noncomputable def tLo (f : Nat → Int32) (c : Nat) (qp : Nat → Nat) (y k : Nat) : Int := if (oCh f c).testBit k = true then (wvN f (qp (lkP f c k)) y).toInt - (f3 f (qp (lkP f c k))).2.1 else (f3 f (qp (lkP f c k))).1 - (wvN f (qp (lkP f c k)) y).toInt
noncomputable def tHi (f : Nat → Int32) (c : Nat) (qp : Nat → Nat) (y k : Nat) : Int := if (oCh f c).testBit k = true then (wvN f (qp (lkP f c k)) y).toInt - (f3 f (qp (lkP f c k))).1 else (f3 f (qp (lkP f c k))).2.1 - (wvN f (qp (lkP f c k)) y).toInt
noncomputable def sumL (f : Nat → Int32) (c : Nat) (qp : Nat → Nat) (y : Nat) : Nat → Int
  | 0 => 0
  | k + 1 => sumL f c qp y k + tLo f c qp y k
noncomputable def sumH (f : Nat → Int32) (c : Nat) (qp : Nat → Nat) (y : Nat) : Nat → Int
  | 0 => 0
  | k + 1 => sumH f c qp y k + tHi f c qp y k
def SZD (f : Nat → Int32) (c : Nat) (qp : Nat → Nat) (n : Nat) : Prop := ∀ k, k < n → ¬ fMn f (qp (lkP f c k)) = 0
def HLD (f : Nat → Int32) (c : Nat) (qp : Nat → Nat) (y : Nat) : Prop := SZD f c qp (nCh f c) ∧ (f (512 + 10 * c + 0)).toInt ≤ sumL f c qp y (nCh f c) ∧ sumH f c qp y (nCh f c) ≤ (f (512 + 10 * c + 1)).toInt
/-- the chain c of n parts, by the reference's numbers: all its parts, and those that stand for them, are there -/
def CHf (f : Nat → Int32) (c : Nat) (qp : Nat → Nat) (m : Nat) : Prop := nCh f c ≤ 6 ∧ f (512 + 10 * c + 2) = nI (nCh f c) ∧ f (512 + 10 * c + 9) = nI (oCh f c) ∧ oCh f c < 64 ∧ ∀ k, k < nCh f c → lkP f c k < m ∧ f (512 + 10 * c + (3 + k)) = nI (lkP f c k) ∧ qp (lkP f c k) < m
def CHc (h : HI) (f : Nat → Int32) (c : Nat) : Prop := h 9 (c * 15 + 0) = f (512 + 10 * c + 0) ∧ h 9 (c * 15 + 1) = f (512 + 10 * c + 1) ∧ h 9 (c * 15 + 2) = nI (nCh f c) ∧ ∀ k, k < nCh f c → h 9 (c * 15 + (3 + 2 * k)) = nI (lkP f c k) ∧ h 9 (c * 15 + (4 + 2 * k)) = (if (oCh f c).testBit k = true then 1 else 0)
theorem CX.ch {h : HI} {f : Nat → Int32} (x : CX h f) {m mc c : Nat} (T : TT h 2 m 5 24) (em : f 0 = nI m) (U : TT h 8 mc 15 16) (ec : f 2 = nI mc) (hc : c < mc) : CHf f c id m ∧ CHc h f c := by
  have hm := T.2.2.2.1
  have hmc := U.2.2.2.1
  obtain ⟨a1, a2, a3, n, o, a4, a5, a6, a7, a8⟩ := CE.e3.mp (x.ci (j := 3) (by omega) U) c hc
  have a1 : h 9 (c * 15) = f (512 + c * 10) := a1
  have a2 : h 9 (c * 15 + 1) = f (512 + (c * 10 + 1)) := a2
  have a3 : h 9 (c * 15 + 2) = f (512 + (c * 10 + 2)) := a3
  have a8 : ∀ k, k < n → h 9 (c * 15 + (3 + 2 * k)) = f (512 + (c * 10 + (3 + k))) ∧ h 9 (c * 15 + (4 + 2 * k)) = (if o.testBit k then 1 else 0) := a8
  have n2 : 2 ^ n ≤ 2 ^ 6 := Nat.pow_le_pow_right (by decide) a4
  rw [a5] at a3
  rw [show 512 + (c * 10 + 2) = 512 + 10 * c + 2 by omega] at a5
  rw [show 512 + (c * 10 + 9) = 512 + 10 * c + 9 by omega] at a7
  have en : nCh f c = n := by unfold nCh; rw [a5, nI_clamp (by omega)]
  have eo : oCh f c = o := by unfold oCh; rw [a7, nI_clamp (by omega)]
  have pk : ∀ k, k < n → lkP f c k < m ∧ f (512 + 10 * c + (3 + k)) = nI (lkP f c k) := fun k hk => by
    have r := x.2.1.2.2 c mc k n ec hmc hc (by rw [show 512 + (c * 10 + 2) = 512 + 10 * c + 2 by omega]; exact a5) a4 hk
    rw [show 512 + (c * 10 + (3 + k)) = 512 + 10 * c + (3 + k) by omega] at r
    obtain ⟨t, ht, et⟩ := row_n r em (by omega)
    have : lkP f c k = t := by unfold lkP; rw [et, nI_clamp (by omega)]
    rw [this]; exact ⟨ht, et⟩
  unfold CHf CHc
  rw [en, eo]
  refine ⟨⟨a4, a5, a7, by omega, fun k hk => ⟨(pk k hk).1, (pk k hk).2, (pk k hk).1⟩⟩, ?_, ?_, a3, fun k hk => ⟨?_, (a8 k hk).2⟩⟩
  · rw [show 512 + 10 * c + 0 = 512 + c * 10 by omega, Nat.add_zero]; exact a1
  · rw [show 512 + 10 * c + 1 = 512 + (c * 10 + 1) by omega]; exact a2
  · rw [(a8 k hk).1, show 512 + (c * 10 + (3 + k)) = 512 + 10 * c + (3 + k) by omega]; exact (pk k hk).2
theorem CHc.jj {S : Nat → Prop} {h h' : HI} {f : Nat → Int32} {c : Nat} (x : CHc h f c) (J : JJ S h h') (n : ¬ S 9) : CHc h' f c := by
  unfold CHc; rw [J 9 n]; exact x
/-- small sums -/
theorem tLH {h : HI} {f : Nat → Int32} (x : CX h f) {c m n : Nat} {qp : Nat → Nat} (hm : m ≤ 24) (en : f 1 = nI n) (hn : n ≤ 60) (C : CHf f c qp m) {y k : Nat} (hy : y ≤ 99) (hk : k < nCh f c) : -200000 ≤ tLo f c qp y k ∧ tLo f c qp y k ≤ 200000 ∧ -200000 ≤ tHi f c qp y k ∧ tHi f c qp y k ≤ 200000 := by
  have ht := (C.2.2.2.2 k hk).2.2
  obtain ⟨a1, a2, a3, a4, -⟩ := f3_bd x.2.2.2.1 x.wb (p := qp (lkP f c k)) (by omega) en hn
  obtain ⟨w1, w2⟩ := x.wv (a := qp (lkP f c k)) (y := y) (by omega) hy
  unfold tLo tHi
  by_cases q : (oCh f c).testBit k = true
  · rw [if_pos q, if_pos q]; omega
  · rw [if_neg q, if_neg q]; omega
theorem sLHb {h : HI} {f : Nat → Int32} (x : CX h f) {c m n : Nat} {qp : Nat → Nat} (hm : m ≤ 24) (en : f 1 = nI n) (hn : n ≤ 60) (C : CHf f c qp m) {y : Nat} (hy : y ≤ 99) : ∀ k, k ≤ nCh f c → -200000 * (k : Int) ≤ sumL f c qp y k ∧ sumL f c qp y k ≤ 200000 * (k : Int) ∧ -200000 * (k : Int) ≤ sumH f c qp y k ∧ sumH f c qp y k ≤ 200000 * (k : Int)
  | 0, _ => by
    unfold sumL sumH; omega
  | k + 1, hk => by
    have ih := sLHb x hm en hn C hy k (by omega)
    have t := tLH x hm en hn C hy (k := k) (by omega)
    have e1 : sumL f c qp y (k + 1) = sumL f c qp y k + tLo f c qp y k := rfl
    have e2 : sumH f c qp y (k + 1) = sumH f c qp y k + tHi f c qp y k := rfl
    rw [e1, e2]; omega
/-- the chain that was taken -/
def FTK (h : HI) (f : Nat → Int32) (c : Nat) (qp : Nat → Nat) : Prop := h 85 6 = nI c ∧ ((h 85 7 = 1 ∧ SZD f c qp (nCh f c)) ∨ (h 85 7 = 0 ∧ ¬ SZD f c qp (nCh f c))) ∧ ∀ k, k < nCh f c → h 86 k = nI (qp (lkP f c k)) ∧ h 87 k = fLo f (qp (lkP f c k)) ∧ h 88 k = fHi f (qp (lkP f c k))
end
section
-- 77.fitsc
/-! SUM, LIFE, STANDS: the answers, and the class -/
def ASM (f : Nat → Int32) (mc : Nat) (x1 x2 x3 r : Int32) : Prop := (¬ (isRow (nI mc) x1 ∧ bd 0 99 x2 ∧ bd 0 2 x3) ∧ r = -2100000000) ∨ ∃ c y : Nat, c < mc ∧ y ≤ 99 ∧ x1 = nI c ∧ x2 = nI y ∧ bd 0 2 x3 ∧ ((x3 = 2 ∧ ((HLD f c id y ∧ r = 1) ∨ (¬ HLD f c id y ∧ r = 0))) ∨ (¬ x3 = 2 ∧ ¬ SZD f c id (nCh f c) ∧ r = -2000000000) ∨ (¬ x3 = 2 ∧ SZD f c id (nCh f c) ∧ r.toInt = (if x3 = 0 then sumL f c id y (nCh f c) else sumH f c id y (nCh f c))))
theorem ASM.un {f : Nat → Int32} {mc : Nat} (hm : mc ≤ 16) {x1 x2 x3 r s : Int32} (a : ASM f mc x1 x2 x3 r) (b : ASM f mc x1 x2 x3 s) : r = s := by
  rcases a with ⟨a1, rfl⟩ | ⟨c, y, hc, hy, rfl, rfl, b3, a⟩
  · rcases b with ⟨-, rfl⟩ | ⟨c, y, hc, hy, rfl, rfl, b3, -⟩
    · rfl
    · exact absurd ⟨row_of hc (by omega), bd_of (by omega) (by omega) (by omega), b3⟩ a1
  · rcases b with ⟨b1, -⟩ | ⟨c', y', hc', hy', e1, e2, -, b⟩
    · exact absurd ⟨row_of hc (by omega), bd_of (by omega) (by omega) (by omega), b3⟩ b1
    · have q1 : c = c' := (nI_eq (by omega) (by omega)).mp e1
      have q2 : y = y' := (nI_eq (by omega) (by omega)).mp e2
      subst q1; subst q2
      rcases a with ⟨a0, a⟩ | ⟨a0, a1, rfl⟩ | ⟨a0, a1, a2⟩
      · rcases b with ⟨-, b⟩ | ⟨b0, -⟩ | ⟨b0, -⟩
        · rcases a with ⟨a1, rfl⟩ | ⟨a1, rfl⟩
          · rcases b with ⟨-, rfl⟩ | ⟨b1, -⟩
            · rfl
            · exact absurd a1 b1
          · rcases b with ⟨b1, -⟩ | ⟨-, rfl⟩
            · exact absurd b1 a1
            · rfl
        · exact absurd a0 b0
        · exact absurd a0 b0
      · rcases b with ⟨b0, -⟩ | ⟨-, -, rfl⟩ | ⟨-, b1, -⟩
        · exact absurd b0 a0
        · rfl
        · exact absurd b1 a1
      · rcases b with ⟨b0, -⟩ | ⟨-, b1, -⟩ | ⟨-, -, b2⟩
        · exact absurd b0 a0
        · exact absurd a1 b1
        · exact Int32.toInt_inj.mp (a2.trans b2.symm)
def ALF (f : Nat → Int32) (mc : Nat) (x1 x2 r : Int32) : Prop := (¬ (isRow (nI mc) x1 ∧ bd 0 99 x2) ∧ r = -2) ∨ ∃ c y L : Nat, c < mc ∧ y ≤ 99 ∧ x1 = nI c ∧ x2 = nI y ∧ r = nI L ∧ y + L ≤ 100 ∧ (∀ j, j < L → HLD f c id (y + j)) ∧ (y + L < 100 → ¬ HLD f c id (y + L))
theorem ALF.un {f : Nat → Int32} {mc : Nat} (hm : mc ≤ 16) {x1 x2 r s : Int32} (a : ALF f mc x1 x2 r) (b : ALF f mc x1 x2 s) : r = s := by
  rcases a with ⟨a1, rfl⟩ | ⟨c, y, L, hc, hy, rfl, rfl, rfl, l1, l2, l3⟩
  · rcases b with ⟨-, rfl⟩ | ⟨c, y, L, hc, hy, rfl, rfl, -⟩
    · rfl
    · exact absurd ⟨row_of hc (by omega), bd_of (by omega) (by omega) (by omega)⟩ a1
  · rcases b with ⟨b1, -⟩ | ⟨c', y', M, hc', hy', e1, e2, rfl, m1, m2, m3⟩
    · exact absurd ⟨row_of hc (by omega), bd_of (by omega) (by omega) (by omega)⟩ b1
    · have q1 : c = c' := (nI_eq (by omega) (by omega)).mp e1
      have q2 : y = y' := (nI_eq (by omega) (by omega)).mp e2
      subst q1; subst q2
      rcases Nat.lt_trichotomy L M with k | k | k
      · exact absurd (m2 L k) (l3 (by omega))
      · rw [k]
      · exact absurd (l2 M k) (m3 (by omega))
def hasP (f : Nat → Int32) (c p : Nat) : Prop := ∃ k, k < nCh f c ∧ lkP f c k = p
def subP (q p : Nat) (t : Nat) : Nat := if t = q then p else t
def STC (f : Nat → Int32) (p q y c : Nat) : Prop := hasP f c q → ¬ hasP f c p ∧ HLD f c (subP q p) y
def AST (f : Nat → Int32) (m mc : Nat) (x1 x2 x3 r : Int32) : Prop := (¬ (isRow (nI m) x1 ∧ isRow (nI m) x2 ∧ ¬ x1 = x2 ∧ bd 0 99 x3) ∧ r = -2) ∨ ∃ p q y : Nat, p < m ∧ q < m ∧ y ≤ 99 ∧ x1 = nI p ∧ x2 = nI q ∧ x3 = nI y ∧ ¬ x1 = x2 ∧ ((r = 1 ∧ ∀ c, c < mc → STC f p q y c) ∨ (r = 0 ∧ ∃ c, c < mc ∧ ¬ STC f p q y c))
theorem AST.un {f : Nat → Int32} {m mc : Nat} (hm : m ≤ 24) {x1 x2 x3 r s : Int32} (a : AST f m mc x1 x2 x3 r) (b : AST f m mc x1 x2 x3 s) : r = s := by
  rcases a with ⟨a1, rfl⟩ | ⟨p, q, y, hp, hq, hy, rfl, rfl, rfl, ne, a⟩
  · rcases b with ⟨-, rfl⟩ | ⟨p, q, y, hp, hq, hy, rfl, rfl, rfl, ne, -⟩
    · rfl
    · exact absurd ⟨row_of hp (by omega), row_of hq (by omega), ne, bd_of (by omega) (by omega) (by omega)⟩ a1
  · rcases b with ⟨b1, -⟩ | ⟨p', q', y', hp', hq', hy', e1, e2, e3, -, b⟩
    · exact absurd ⟨row_of hp (by omega), row_of hq (by omega), ne, bd_of (by omega) (by omega) (by omega)⟩ b1
    · have q1 : p = p' := (nI_eq (by omega) (by omega)).mp e1
      have q2 : q = q' := (nI_eq (by omega) (by omega)).mp e2
      have q3 : y = y' := (nI_eq (by omega) (by omega)).mp e3
      subst q1; subst q2; subst q3
      rcases a with ⟨rfl, a⟩ | ⟨rfl, c, hc, a⟩
      · rcases b with ⟨rfl, -⟩ | ⟨rfl, c, hc, b⟩
        · rfl
        · exact absurd (a c hc) b
      · rcases b with ⟨rfl, b⟩ | ⟨rfl, -⟩
        · exact absurd (b c hc) a
        · rfl
theorem CHf.n1 {f : Nat → Int32} {c m : Nat} (C : CHf f c id m) (hm : m ≤ 24) : ∀ k, k < nCh f c → (nI (lkP f c k) = (-1 : Int32) → (-1 : Int32) = nI (id (lkP f c k))) ∧ (¬ nI (lkP f c k) = (-1 : Int32) → id (lkP f c k) = lkP f c k) := fun k hk =>
  ⟨fun e => absurd e (nI_nm (by have := (C.2.2.2.2 k hk).1; omega)), fun _ => rfl⟩
theorem FTK.jj {S : Nat → Prop} {h h' : HI} {f : Nat → Int32} {c : Nat} {qp : Nat → Nat} (x : FTK h f c qp) (J : JJ S h h') (n : ∀ q, 85 ≤ q → ¬ S q) : FTK h' f c qp := by
  unfold FTK
  rw [J 85 (n 85 (by omega)), J 86 (n 86 (by omega)), J 87 (n 87 (by omega)), J 88 (n 88 (by omega))]; exact x
end
section
-- 78.fitsr
/-! SUM, LIFE, STANDS, the reference -/
theorem c_cO {h : HI} {g : HL} {c k : Nat} (hc : c < 16) (hk : k < 10) {body : Int32 → HI → HL → Prop} (b : body (h 136 (512 + 10 * c + k)) h g) : ∃ P : Int32 → HI → HL → Prop, w_X11_chainOf (nI c) (nI k) h g P ∧ ∀ (r : Int32) (h : HI) (g : HL), P r h g → body r h g := by
  refine ⟨fun r h' g' => body r h' g', ?_, fun _ _ _ x => x⟩
  unfold w_X11_chainOf
  rw [show (512 : Int32) + (10 : Int32) * nI c + nI k = nI (512 + 10 * c + k) from ix3 512 10 c k, nI_clamp (by omega)]
  exact ⟨vp_in_nI (by omega) (by omega), b⟩
theorem fsel0 {f : Nat → Int32} {p : Nat} : fsel f p 0 = fLo f p := by
  unfold fsel; rw [if_neg (by decide), if_pos rfl]
theorem fsel1 {f : Nat → Int32} {p : Nat} : fsel f p 1 = fHi f p := by
  unfold fsel; rw [if_neg (by decide), if_neg (by decide)]
theorem nI_n2 {j : Nat} (h : j < 2 ^ 31) : ¬ nI j = -2 := fun e => by
  have := nI_toInt h
  rw [e, show (-2 : Int32).toInt = -2 by decide] at this
  omega
theorem CHf.n2 {f : Nat → Int32} {c m : Nat} (C : CHf f c id m) (hm : m ≤ 24) : ∀ k, k < nCh f c → (nI (lkP f c k) = (-2 : Int32) → (-1 : Int32) = nI (id (lkP f c k))) ∧ (¬ nI (lkP f c k) = (-2 : Int32) → id (lkP f c k) = lkP f c k) := fun k hk =>
  ⟨fun e => absurd e (nI_n2 (by have := (C.2.2.2.2 k hk).1; omega)), fun _ => rfl⟩
/-- what both sides know of f, for the reference's questions about chains -/
def FX (f : Nat → Int32) (m n mc : Nat) : Prop := RG f ∧ VR f ∧ WB f ∧ f 0 = nI m ∧ m ≤ 24 ∧ f 1 = nI n ∧ n ≤ 60 ∧ f 2 = nI mc ∧ mc ≤ 16 ∧ (∀ c, c < mc → CHf f c id m) ∧ ∀ (c y : Nat) (qp : Nat → Nat), y ≤ 99 → CHf f c qp m → (∀ k, k < nCh f c → -200000 ≤ tLo f c qp y k ∧ tLo f c qp y k ≤ 200000 ∧ -200000 ≤ tHi f c qp y k ∧ tHi f c qp y k ≤ 200000) ∧ ∀ k, k ≤ nCh f c → -200000 * (k : Int) ≤ sumL f c qp y k ∧ sumL f c qp y k ≤ 200000 * (k : Int) ∧ -200000 * (k : Int) ≤ sumH f c qp y k ∧ sumH f c qp y k ≤ 200000 * (k : Int)
theorem CX.fx {h : HI} {f : Nat → Int32} (x : CX h f) {m n mc : Nat} (T : TT h 2 m 5 24) (em : f 0 = nI m) (S : TT h 6 n 6 60) (en : f 1 = nI n) (U : TT h 8 mc 15 16) (ec : f 2 = nI mc) : FX f m n mc :=
  ⟨x.2.2.2.2, x.2.2.2.1, x.wb, em, T.2.2.2.1, en, S.2.2.2.1, ec, U.2.2.2.1, fun _ hc => (x.ch T em U ec hc).1, fun _ _ _ hy C => ⟨fun _ hk => tLH x T.2.2.2.1 en S.2.2.2.1 C hy hk, sLHb x T.2.2.2.1 en S.2.2.2.1 C hy⟩⟩
end
section
-- 79.a.big
/-! BIG NUMBERS OF THE CLASS: o its fields, behind it its digits -/
def GC (h : HI) (o W v : Nat) : Prop := h o 1 = nI W ∧ dgs (h (o + 1)) 0 W ∧ vl (h (o + 1)) 0 W = v ∧ 1 ≤ W ∧ ∀ V, W = V + 1 → ¬ h (o + 1) (0 + V) = 0
theorem GC.fr {h h' : HI} {o q W v : Nat} (x : GC h q W v) (J : JJ (SB o) h h') (n : ¬ SB o q ∧ ¬ SB o (q + 1)) : GC h' q W v := by
  unfold GC
  rw [J q n.1, J (q + 1) n.2]; exact x
theorem GC.jj {S : Nat → Prop} {h h' : HI} {q W v : Nat} (x : GC h q W v) (J : JJ S h h') (n : ¬ S q ∧ ¬ S (q + 1)) : GC h' q W v := by
  unfold GC
  rw [J q n.1, J (q + 1) n.2]; exact x
theorem GC.lo {h : HI} {o W v : Nat} (x : GC h o W v) : ∃ V, W = V + 1 ∧ 2 ^ (30 * V) ≤ v ∧ v < 2 ^ (30 * W) := by
  obtain ⟨-, d, e, h1, z⟩ := x
  obtain ⟨V, rfl⟩ : ∃ V, W = V + 1 := ⟨W - 1, by omega⟩
  refine ⟨V, rfl, ?_, ?_⟩
  · rw [← e]; exact vl_le d (z V rfl)
  · rw [← e]; exact vl_lt d
theorem GC.wle {h : HI} {o W v m : Nat} (x : GC h o W v) (hv : v < 2 ^ (30 * m)) : W ≤ m := by
  obtain ⟨V, rfl, h1, -⟩ := x.lo
  by_cases c : V + 1 ≤ m
  · exact c
  · have h3 : 2 ^ (30 * m) ≤ 2 ^ (30 * V) := Nat.pow_le_pow_right (by omega) (by omega)
    omega
theorem GC.lt {h : HI} {o q W v U u : Nat} (x : GC h o W v) (y : GC h q U u) (k : W < U) : v < u := by
  obtain ⟨-, -, -, h1⟩ := x.lo
  obtain ⟨V, rfl, h2, -⟩ := y.lo
  have h3 : 2 ^ (30 * W) ≤ 2 ^ (30 * V) := Nat.pow_le_pow_right (by omega) (by omega)
  omega
end
section
-- 79.b.half
/-! HALF, the class -/
/-- the odds of the works, and the loads, in the class's tables -/
theorem CX.od {h : HI} {f : Nat → Int32} (c : CX h f) : TT h 16 1 2 1 ∧ h 17 0 = f 9 ∧ h 17 1 = f 10 := by
  obtain ⟨m, T, k⟩ := c.1 7 (by omega)
  have k : m = 1 := k
  subst k
  have e := (CE.es (by decide) (by decide)).mp (c.ci (j := 7) (by omega) T)
  exact ⟨T, e 0 (by decide), e 1 (by decide)⟩
def whP (f : Nat → Int32) (p : Nat) : Nat := 1000 - ((f 9).toNatClampNeg + (f 10).toNatClampNeg * (f (20 + 5 * p + 0)).toNatClampNeg)
/-- the chance of a year, shortened by d -/
def KO (h : HI) (V : Nat) : Prop := ∃ k o d : Nat, 1 ≤ d ∧ 1 ≤ k ∧ k * d = V ∧ o * d = 1000 ∧ h 109 5 = nI k ∧ h 109 6 = nI o
theorem KO.bd {h : HI} {V : Nat} (x : KO h V) (hV : V ≤ 1000) : ∃ k o d : Nat, 1 ≤ d ∧ 1 ≤ k ∧ k ≤ 1000 ∧ 1 ≤ o ∧ o ≤ 1000 ∧ k * d = V ∧ o * d = 1000 ∧ h 109 5 = nI k ∧ h 109 6 = nI o := by
  obtain ⟨k, o, d, hd, hk, e1, e2, e5, e6⟩ := x
  have k1 : k ≤ k * d := Nat.le_mul_of_pos_right k (by omega)
  have o1 : o ≤ o * d := Nat.le_mul_of_pos_right o (by omega)
  have o0 : o ≠ 0 := fun e => by rw [e, Nat.zero_mul] at e2; omega
  exact ⟨k, o, d, hd, hk, by omega, by omega, by omega, e1, e2, e5, e6⟩
def AHA (f : Nat → Int32) (m : Nat) (x1 r : Int32) : Prop := (¬ isRow (nI m) x1 ∧ r = -2) ∨ ∃ p : Nat, p < m ∧ x1 = nI p ∧ HQ (whP f p) 1000 r
theorem AHA.un {f : Nat → Int32} {m : Nat} (hm : m ≤ 24) {x1 r s : Int32} (a : AHA f m x1 r) (b : AHA f m x1 s) : r = s := by
  rcases a with ⟨a1, rfl⟩ | ⟨p, hp, rfl, a1⟩
  · rcases b with ⟨-, rfl⟩ | ⟨p, hp, rfl, -⟩
    · rfl
    · exact absurd (row_of hp (by omega)) a1
  · rcases b with ⟨b1, -⟩ | ⟨p', hp', e1, b1⟩
    · exact absurd (row_of hp (by omega)) b1
    · have q1 : p = p' := (nI_eq (by omega) (by omega)).mp e1
      subst q1; exact a1.un b1
end
section
-- 79.c.fit
/-! FITTED -/
def ldT (f : Nat → Int32) (i : Nat) : Nat := (f (737 + 2 * i + 0)).toNatClampNeg
def fcT (f : Nat → Int32) (a b i : Nat) : Nat := if f (737 + 2 * i + 1) = 1 then a + b * ldT f i else 1000 - (a + b * ldT f i)
def okT9 (f : Nat → Int32) (a b i : Nat) : Prop := 1 ≤ a + b * ldT f i ∧ a + b * ldT f i ≤ 999
/-- the product of what was told, none where A and B may not be -/
def LK (f : Nat → Int32) (a b : Nat) : Nat → Nat → Prop
  | 0, v => v = 1
  | i + 1, v => ∃ u, LK f a b i u ∧ okT9 f a b i ∧ v = u * fcT f a b i
theorem LK.un {f : Nat → Int32} {a b : Nat} : ∀ {i v u : Nat}, LK f a b i v → LK f a b i u → v = u
  | 0, v, u, x, y => Eq.trans (show v = 1 from x) (Eq.symm (show u = 1 from y))
  | i + 1, v, u, ⟨v', x, _, ev⟩, ⟨u', y, _, eu⟩ => by rw [ev, eu, LK.un x y]
theorem LK.bd {f : Nat → Int32} {a b : Nat} : ∀ {i v : Nat}, LK f a b i v → 1 ≤ v ∧ v ≤ 1000 ^ i
  | 0, v, x => by
    have x : v = 1 := x
    rw [x]; exact ⟨by decide, by decide⟩
  | i + 1, v, ⟨u, x, ok, e⟩ => by
    obtain ⟨h1, h2⟩ := LK.bd x
    have hf : 1 ≤ fcT f a b i ∧ fcT f a b i ≤ 1000 := by
      unfold okT9 at ok
      unfold fcT
      by_cases q : f (737 + 2 * i + 1) = 1
      · rw [if_pos q]; omega
      · rw [if_neg q]; omega
    rw [e]
    refine ⟨Nat.mul_pos (by omega) (by omega), ?_⟩
    rw [Nat.pow_succ]
    exact Nat.mul_le_mul h2 hf.2
theorem LK.dn {f : Nat → Int32} {a b i : Nat} (n : ¬ okT9 f a b i) : ∀ {j : Nat}, i < j → ∀ v, ¬ LK f a b j v
  | 0, h, _, _ => absurd h (Nat.not_lt_zero i)
  | j + 1, h, v, ⟨u, x, ok, _⟩ => by
    by_cases e : i = j
    · subst e; exact n ok
    · exact LK.dn n (j := j) (by omega) u x
theorem LK.sm {f : Nat → Int32} {a b i v : Nat} (x : LK f a b i v) (hi : i ≤ 40) : v < 2 ^ (30 * 14) := by
  have h := x.bd.2
  have h1 : (1000 : Nat) ^ i ≤ 1024 ^ i := Nat.pow_le_pow_left (by decide) i
  have h2 : (1024 : Nat) ^ i ≤ 1024 ^ 40 := Nat.pow_le_pow_right (by decide) hi
  have h3 : (1024 : Nat) ^ 40 < 2 ^ (30 * 14) := by decide
  omega
/-- the first of the likeliest among the first k codes -/
def BF9 (f : Nat → Int32) (n : Nat) : Nat → Nat → Nat → Prop
  | 0, _, _ => False
  | k + 1, c, v => (LK f (k / 10) (k % 10) n v ∧ c = k ∧ ∀ c' u, BF9 f n k c' u → u < v) ∨ (BF9 f n k c v ∧ ∀ u, LK f (k / 10) (k % 10) n u → u ≤ v)
theorem BF9.un {f : Nat → Int32} {n : Nat} : ∀ {k c v c' v' : Nat}, BF9 f n k c v → BF9 f n k c' v' → c = c' ∧ v = v'
  | 0, _, _, _, _, x, _ => absurd x id
  | k + 1, c, v, c', v', x, y => by
    rcases x with ⟨x1, rfl, x3⟩ | ⟨x1, x3⟩
    · rcases y with ⟨y1, rfl, y3⟩ | ⟨y1, y3⟩
      · exact ⟨rfl, x1.un y1⟩
      · have := x3 _ _ y1
        have := y3 _ x1
        omega
    · rcases y with ⟨y1, rfl, y3⟩ | ⟨y1, y3⟩
      · have := y3 _ _ x1
        have := x3 _ y1
        omega
      · exact BF9.un x1 y1
def AFT (f : Nat → Int32) (n : Nat) (r : Int32) : Prop := ((∀ c v, ¬ BF9 f n 100 c v) ∧ r = -1) ∨ ∃ c v : Nat, BF9 f n 100 c v ∧ r = nI c
theorem AFT.un {f : Nat → Int32} {n : Nat} {r s : Int32} (a : AFT f n r) (b : AFT f n s) : r = s := by
  rcases a with ⟨a1, rfl⟩ | ⟨c, v, a1, rfl⟩
  · rcases b with ⟨-, rfl⟩ | ⟨c, v, b1, rfl⟩
    · rfl
    · exact absurd b1 (a1 c v)
  · rcases b with ⟨b1, -⟩ | ⟨c', v', b1, rfl⟩
    · exact absurd a1 (b1 c v)
    · rw [(a1.un b1).1]
theorem VR.ld {f : Nat → Int32} (v : VR f) {i : Nat} (hi : i < 40) : ldT f i ≤ 100 ∧ f (737 + 2 * i + 0) = nI (ldT f i) := by
  obtain ⟨l, h1, h2, e⟩ := bd_nI (v.at (vg_T (c := 0) hi (by omega)))
  have h1 : (l : Int) ≤ 100 := h1
  have : ldT f i = l := by unfold ldT; rw [e, nI_clamp h2]
  rw [this]; exact ⟨by omega, e⟩
theorem BF9.lt {f : Nat → Int32} {n : Nat} : ∀ {k c v : Nat}, BF9 f n k c v → c < k
  | 0, _, _, x => absurd x id
  | k + 1, c, v, x => by
    rcases x with ⟨-, e, -⟩ | ⟨x1, -⟩
    · omega
    · have := BF9.lt x1; omega
/-! the reference -/
end
section
-- 79.d.dig
/-! DIGEST -/
def mx (e : Nat → Int32) : Nat → Int64 → Int64
  | 0, x => x
  | n + 1, x => (31 : Int64) * mx e n x + (e n).toInt64
theorem mx_cg {e e' : Nat → Int32} {x : Int64} : ∀ {n : Nat}, (∀ k, k < n → e k = e' k) → mx e n x = mx e' n x
  | 0, _ => rfl
  | n + 1, h => by
    unfold mx
    rw [mx_cg (n := n) (fun k hk => h k (by omega)), h n (by omega)]
theorem mx_add {e : Nat → Int32} {a : Nat} {x : Int64} : ∀ {b : Nat}, mx e (a + b) x = mx (fun k => e (a + k)) b (mx e a x)
  | 0 => rfl
  | b + 1 => by
    show (31 : Int64) * mx e (a + b) x + (e (a + b)).toInt64 = (31 : Int64) * mx (fun k => e (a + k)) b (mx e a x) + (e (a + b)).toInt64
    rw [mx_add (b := b)]
noncomputable def alN (B : Nat → Nat) (p : Nat) : Nat := Classical.epsilon (fun S => S < 2 ^ 24 ∧ LCl B p S)
theorem alN_eq {B : Nat → Nat} {p S : Nat} (h : S < 2 ^ 24) (l : LCl B p S) : alN B p = S := by
  have ex : ∃ S, S < 2 ^ 24 ∧ LCl B p S := ⟨S, h, l⟩
  obtain ⟨-, l'⟩ := Classical.epsilon_spec ex
  show Classical.epsilon _ = S
  generalize Classical.epsilon (fun S => S < 2 ^ 24 ∧ LCl B p S) = T at l'
  refine Nat.eq_of_testBit_eq (fun i => ?_)
  cases a : T.testBit i
  · cases b : S.testBit i
    · rfl
    · rw [l.2 T l'.1 i b] at a; exact absurd a (by decide)
  · cases b : S.testBit i
    · rw [l'.2 S l.1 i a] at b; exact absurd b (by decide)
    · rfl
noncomputable def pDg (f : Nat → Int32) (B : Nat → Nat) : Nat → Int64 → Int64
  | 0, x => x
  | p + 1, x => (31 : Int64) * mx (fun k => fsel f p (nI k)) 3 (mx (fun c => f (20 + 5 * p + c)) 4 (pDg f B p x)) + (nI (alN B p)).toInt64
def lDg (f : Nat → Int32) (c : Nat) : Nat → Int64 → Int64
  | 0, x => x
  | k + 1, x => (31 : Int64) * ((31 : Int64) * lDg f c k x + (f (512 + 10 * c + (3 + k))).toInt64) + ((f (512 + 10 * c + 9) >>> (nI k &&& 31)) &&& 1).toInt64
def cDg (f : Nat → Int32) : Nat → Int64 → Int64
  | 0, x => x
  | c + 1, x => lDg f c (nCh f c) (mx (fun k => f (512 + 10 * c + k)) 3 (cDg f c x))
theorem bit_v {n a : Nat} (hn : n < 2 ^ 31) (ha : a < 32) : (nI n >>> (nI a &&& 31)) &&& 1 = (if n.testBit a = true then 1 else 0) := by
  have e : (nI n >>> (nI a &&& 31)) &&& 1 = nI (n / 2 ^ a % 2) := by
    rw [pk_shrN hn _ a (sl_t a ha), show (1 : Int32) = nI 1 from rfl, nI_and, Nat.and_one_is_mod]
  rw [e]
  by_cases q : n.testBit a = true
  · rw [if_pos q]
    rw [Nat.testBit_eq_decide_div_mod_eq, decide_eq_true_iff] at q
    rw [q]; rfl
  · rw [if_neg q]
    rw [Nat.testBit_eq_decide_div_mod_eq, decide_eq_true_iff] at q
    have := Nat.mod_lt (n / 2 ^ a) (y := 2) (by omega)
    rw [show n / 2 ^ a % 2 = 0 by omega]; rfl
theorem q_X10_withRow {h : HI} {g : HL} {o m w M i n : Nat} {x : Int64} (T : TT h o m w M) (hi : i < m) (hn : n ≤ w) : w_X10_withRow x o (nI i) (nI n) h g (fun r h' g' => h = h' ∧ r = mx (fun k => h (o + 1) (i * w + k)) n x) := by
  have hw := T.2.2.2.2.2.2.1
  unfold w_X10_withRow
  refine lpE_intro (fun ⟨a_q, b_q, c_q, d_q, h_q, _⟩ => ∃ k : Nat, k ≤ n ∧ nI i = a_q ∧ nI n = b_q ∧ mx (fun k => h (o + 1) (i * w + k)) k x = c_q ∧ nI k = d_q ∧ h = h_q) (fun ⟨_, _, _, d_q, _, _⟩ => dif (nI n) d_q) ?_ _ ⟨0, by omega, rfl, rfl, rfl, nI_0, rfl⟩
  rintro ⟨y1, y2, y3, y4, h1, g1⟩ K ⟨k, hk, rfl, rfl, rfl, rfl, rfl⟩ hK
  unfold F_X10_withRow_6; dsimp only; unfold b_X10_withRow_6
  refine ⟨fun c => ?_, fun c => ?_⟩
  · rw [nI_leI (by omega) (by omega)] at c
    rw [show n = k by omega]; exact ⟨rfl, rfl⟩
  · have hd := dif_lt c
    rw [nI_leI (by omega) (by omega)] at c
    refine c_i (p_atT T) ?_
    rintro _ _ _ ⟨rfl, rfl, rfl⟩
    rw [tat_nI T hi (by omega)]
    rintro _ rfl
    rintro _ rfl
    exact hK _ ⟨k + 1, by omega, rfl, rfl, rfl, (nI_1 k).symm, rfl⟩ hd
theorem q_X10_withTable {h : HI} {g : HL} {o m w M : Nat} {x : Int64} (T : TT h o m w M) : w_X10_withTable x o (nI w) h g (fun r h' g' => h = h' ∧ r = mx (fun k => h (o + 1) k) (m * w) x) := by
  have hm := T.2.2.2.1
  have hM := T.2.2.2.2.2.2.2.2
  unfold w_X10_withTable
  refine lpE_intro (fun ⟨a_q, b_q, c_q, h_q, _⟩ => ∃ k : Nat, k ≤ m ∧ nI w = a_q ∧ mx (fun k => h (o + 1) k) (k * w) x = b_q ∧ nI k = c_q ∧ h = h_q) (fun ⟨_, _, c_q, _, _⟩ => dif (nI m) c_q) ?_ _ ⟨0, by omega, rfl, by rw [Nat.zero_mul]; rfl, nI_0, rfl⟩
  rintro ⟨y1, y2, y3, h1, g1⟩ K ⟨k, hk, rfl, rfl, rfl, rfl⟩ hK
  unfold F_X10_withTable_6; dsimp only; unfold b_X10_withTable_6
  refine c_i p_rows ?_
  rintro _ _ _ ⟨rfl, rfl, rfl⟩
  rw [T.2.2.1]
  refine ⟨fun c => ?_, fun c => ?_⟩
  · rw [nI_leI (by omega) (by omega)] at c
    rw [show m = k by omega]; exact ⟨rfl, rfl⟩
  · have hd := dif_lt c
    rw [nI_leI (by omega) (by omega)] at c
    refine c_l (q_X10_withRow T (i := k) (n := w) (by omega) (Nat.le_refl _)) ?_
    rintro _ _ g2 ⟨rfl, rfl⟩
    rintro _ rfl
    refine hK _ ⟨k + 1, by omega, rfl, ?_, (nI_1 k).symm, rfl⟩ hd
    rw [Nat.add_mul, Nat.one_mul, mx_add]
theorem SZ.an {h : HI} {f : Nat → Int32} {p n : Nat} (Z : SZ h f p n) {g : HL} {k : Nat} (hk : k < 3) {body : Int32 → HI → HL → Prop} (b : ∀ g', body (fsel f p (nI k)) h g') : ∃ P : Int32 → HI → HL → Prop, w_X7_answer (nI k) h g P ∧ ∀ (r : Int32) (h : HI) (g : HL), P r h g → body r h g := by
  obtain ⟨z9, z10, z11, -⟩ := Z
  refine ⟨fun r h' g' => body r h' g', ?_, fun _ _ _ x => x⟩
  unfold w_X7_answer
  have : k = 0 ∨ k = 1 ∨ k = 2 := by omega
  rcases this with rfl | rfl | rfl
  · refine ⟨fun n0 => absurd nI_0 n0, fun _ => ?_⟩
    have e : fsel f p (nI 0) = fLo f p := fsel0
    rw [z9, ← e]; exact b g
  · refine ⟨fun _ => ⟨fun n1 => absurd rfl n1, fun _ => ?_⟩, fun z => absurd z (by decide)⟩
    have e : fsel f p (nI 1) = fHi f p := fsel1
    rw [z10, ← e]; exact b g
  · refine ⟨fun _ => ⟨fun _ => ?_, fun z => absurd z (by decide)⟩, fun z => absurd z (by decide)⟩
    have e : fsel f p (nI 2) = fMn f p := by unfold fsel; exact if_pos rfl
    rw [z11, ← e]; exact b g
theorem BRc.jj {S : Nat → Prop} {h h' : HI} {m : Nat} {B : Nat → Nat} (x : BRc h m B) (J : JJ S h h') (n : ¬ S 3) : BRc h' m B := by
  refine ⟨fun p hp => ?_, x.2⟩
  rw [J 3 n]; exact x.1 p hp
theorem q_X10_withParts {h : HI} {g : HL} {f : Nat → Int32} (c : CX h f) {m n : Nat} (T : TT h 2 m 5 24) (S : TT h 6 n 6 60) (en : f 1 = nI n) {B : Nat → Nat} (R : BRc h m B) {x : Int64} : w_X10_withParts x h g (fun r h' _ => JJ SSz h h' ∧ r = pDg f B m x) := by
  have hm := T.2.2.2.1
  unfold w_X10_withParts
  refine lpE_intro (fun ⟨a_q, b_q, h_q, _⟩ => ∃ p : Nat, p ≤ m ∧ pDg f B p x = a_q ∧ nI p = b_q ∧ JJ SSz h h_q) (fun ⟨_, b_q, _, _⟩ => dif (nI m) b_q) ?_ _ ⟨0, by omega, rfl, nI_0, JJ.rf⟩
  rintro ⟨y1, y2, h1, g1⟩ K ⟨p, hp, rfl, rfl, J1⟩ hK
  have T1 : TT h1 2 m 5 24 := T.cg (J1 2 (by unfold SSz; omega))
  have S1 : TT h1 6 n 6 60 := S.cg (J1 6 (by unfold SSz; omega))
  have c1 : CX h1 f := c.jj J1 (fun q hq => by unfold SSz; omega)
  unfold F_X10_withParts_5; dsimp only; unfold b_X10_withParts_5
  refine c_i p_rows ?_
  rintro _ _ _ ⟨rfl, rfl, rfl⟩
  rw [T1.2.2.1]
  refine ⟨fun q => ?_, fun q => ?_⟩
  · rw [nI_leI (by omega) (by omega)] at q
    rw [show m = p by omega]; exact ⟨J1, rfl⟩
  · have hd := dif_lt q
    rw [nI_leI (by omega) (by omega)] at q
    refine c_l (q_X10_withRow T1 (i := p) (n := 4) (by omega) (by omega)) ?_
    rintro _ _ g2 ⟨rfl, rfl⟩
    rw [mx_cg (e' := fun c => f (20 + 5 * p + c)) (fun k hk => c1.cp T1 (by omega) hk)]
    refine c_v (q_X7_find c1 T1 S1 en (p := p) (by omega)) ?_
    rintro h2 g3 ⟨J2, Z⟩
    have J2' := J1.tr J2
    refine lpE_intro (fun ⟨a_q, b_q, c_q, h_q, _⟩ => ∃ k : Nat, k ≤ 3 ∧ mx (fun k => fsel f p (nI k)) k (mx (fun c => f (20 + 5 * p + c)) 4 (pDg f B p x)) = a_q ∧ nI p = b_q ∧ nI k = c_q ∧ h2 = h_q) (fun ⟨_, _, c_q, _, _⟩ => dif (nI 3) c_q) ?_ _ ⟨0, by omega, rfl, rfl, nI_0, rfl⟩
    rintro ⟨z1, z2, z3, h3, g4⟩ K2 ⟨k, hk, rfl, rfl, rfl, rfl⟩ hK2
    unfold F_X10_withParts_47; dsimp only; unfold b_X10_withParts_47
    refine ⟨fun q2 => ?_, fun q2 => ?_⟩
    · rw [show (3 : Int32) = nI 3 from rfl, nI_leI (by omega) (by omega)] at q2
      have : k = 3 := by omega
      subst this
      refine c_i (q_X1_reached (T1.cg (J2 2 (by unfold SSz; omega))) ((R.jj J1 (by unfold SSz; omega)).jj J2 (by unfold SSz; omega)) (p := p) (by omega)) ?_
      rintro _ _ _ ⟨rfl, rfl, s, hs, rfl, l⟩
      rw [← alN_eq hs l]
      rintro _ rfl
      rintro _ rfl
      exact hK _ ⟨p + 1, by omega, rfl, (nI_1 p).symm, J2'⟩ hd
    · have hd2 := dif_lt (a := nI 3) q2
      rw [show (3 : Int32) = nI 3 from rfl, nI_leI (by omega) (by omega)] at q2
      refine Z.an (by omega) (fun g5 => ?_)
      rintro _ rfl
      rintro _ rfl
      exact hK2 _ ⟨k + 1, by omega, rfl, rfl, (nI_1 k).symm, rfl⟩ hd2
theorem q_X10_withChains {h : HI} {g : HL} {f : Nat → Int32} (c : CX h f) {m mc : Nat} (T : TT h 2 m 5 24) (em : f 0 = nI m) (U : TT h 8 mc 15 16) (ec : f 2 = nI mc) {x : Int64} : w_X10_withChains x h g (fun r h' _ => h = h' ∧ r = cDg f mc x) := by
  have hmc := U.2.2.2.1
  unfold w_X10_withChains
  refine lpE_intro (fun ⟨a_q, b_q, h_q, _⟩ => ∃ i : Nat, i ≤ mc ∧ cDg f i x = a_q ∧ nI i = b_q ∧ h = h_q) (fun ⟨_, b_q, _, _⟩ => dif (nI mc) b_q) ?_ _ ⟨0, by omega, rfl, nI_0, rfl⟩
  rintro ⟨y1, y2, h1, g1⟩ K ⟨i, hi, rfl, rfl, rfl⟩ hK
  unfold F_X10_withChains_5; dsimp only; unfold b_X10_withChains_5
  refine c_i p_rows ?_
  rintro _ _ _ ⟨rfl, rfl, rfl⟩
  rw [U.2.2.1]
  refine ⟨fun q => ?_, fun q => ?_⟩
  · rw [nI_leI (by omega) (by omega)] at q
    rw [show mc = i by omega]; exact ⟨rfl, rfl⟩
  · have hd := dif_lt q
    rw [nI_leI (by omega) (by omega)] at q
    obtain ⟨C, D⟩ := c.ch T em U ec (c := i) (by omega)
    obtain ⟨C1, C2, C3, C4, C5⟩ := C
    refine c_i (p_atT U) ?_
    rintro _ _ _ ⟨rfl, rfl, rfl⟩
    rw [show tat h 8 (nI i) (2 : Int32) = nI (nCh f i) from (tat_nI U (b := 2) (by omega) (by omega)).trans D.2.2.1, show (3 : Int32) + ((2 : Int32) * nI (nCh f i)) = nI (3 + 2 * nCh f i) from ix2 3 2 _]
    refine c_l (q_X10_withRow U (i := i) (n := 3 + 2 * nCh f i) (by omega) (by omega)) ?_
    rintro _ _ g2 ⟨rfl, rfl⟩
    rintro _ rfl
    refine hK _ ⟨i + 1, by omega, ?_, (nI_1 i).symm, rfl⟩ hd
    show lDg f i (nCh f i) (mx (fun k => f (512 + 10 * i + k)) 3 (cDg f i x)) = mx (fun k => h 9 (i * 15 + k)) (3 + 2 * nCh f i) (cDg f i x)
    have st : ∀ k, k ≤ nCh f i → lDg f i k (mx (fun k => f (512 + 10 * i + k)) 3 (cDg f i x)) = mx (fun k => h 9 (i * 15 + k)) (3 + 2 * k) (cDg f i x) := by
      intro k
      induction k with
      | zero =>
        intro _
        show mx (fun k => f (512 + 10 * i + k)) 3 (cDg f i x) = mx (fun k => h 9 (i * 15 + k)) 3 (cDg f i x)
        refine mx_cg (fun k hk => ?_)
        have : k = 0 ∨ k = 1 ∨ k = 2 := by omega
        rcases this with rfl | rfl | rfl
        · exact D.1.symm
        · exact D.2.1.symm
        · exact C2.trans D.2.2.1.symm
      | succ k ih =>
        intro hk
        have e1 := (D.2.2.2 k (by omega)).1
        have e2 := (D.2.2.2 k (by omega)).2
        show (31 : Int64) * ((31 : Int64) * lDg f i k (mx (fun k => f (512 + 10 * i + k)) 3 (cDg f i x)) + (f (512 + 10 * i + (3 + k))).toInt64) + ((f (512 + 10 * i + 9) >>> (nI k &&& 31)) &&& 1).toInt64 = (31 : Int64) * ((31 : Int64) * mx (fun k => h 9 (i * 15 + k)) (3 + 2 * k) (cDg f i x) + (h 9 (i * 15 + (3 + 2 * k))).toInt64) + (h 9 (i * 15 + (3 + 2 * k + 1))).toInt64
        rw [ih (by omega), e1, show 3 + 2 * k + 1 = 4 + 2 * k by omega, e2, (C5 k (by omega)).2.1, C3, bit_v (by omega) (by omega)]
    exact st (nCh f i) (Nat.le_refl _)
/-- how many there are of all -/
def NB (f : Nat → Int32) (nw nm ns nt nh nz : Nat) : Prop := f 3 = nI nw ∧ f 4 = nI nm ∧ f 5 = nI ns ∧ f 6 = nI nt ∧ f 7 = nI nh ∧ f 8 = nI nz ∧ nw ≤ 8 ∧ nm ≤ 6 ∧ ns ≤ 9 ∧ nt ≤ 40 ∧ nh ≤ 3 ∧ nz ≤ 60
noncomputable def DGN (f : Nat → Int32) (B : Nat → Nat) (m n mc nw nm ns nt nh nz : Nat) : Int64 :=
  mx (fun k => f (827 + k)) (nz * 1) (mx (fun k => f (823 + k)) (4 * 1) (mx (fun k => f (817 + k)) (nh * 2) (mx (fun k => f (737 + k)) (nt * 2) (mx (fun k => f (9 + k)) (1 * 2) (mx (fun k => f (710 + k)) (ns * 3) (mx (fun k => f (704 + k)) (nm * 1) (mx (fun k => f (672 + k)) (nw * 4) (cDg f mc (mx (fun k => f (152 + k)) (n * 6) (mx (fun k => f (140 + k)) (4 * 3) (pDg f B m (mx (fun k => cvR f n k) 10 383))))))))))))
theorem CX.tab {h : HI} {f : Nat → Int32} (c : CX h f) {j m : Nat} (hj : j < 12) (j0 : ¬ j = 0) (j3 : ¬ j = 3) (T : TT h (1 + (1 + 2 * j)) m (wJ j) (MJ j)) {x : Int64} : mx (fun k => h (1 + (1 + 2 * j) + 1) k) (m * wJ j) x = mx (fun k => f (bsJ j + k)) (m * wJ j) x :=
  mx_cg (fun k hk => (CE.es j0 j3).mp (c.ci hj T) k hk)
theorem q_X10_digest {h : HI} {g : HL} {f : Nat → Int32} (c : CX h f) {m n mc nw nm ns nt nh nz : Nat} (T : TT h 2 m 5 24) (em : f 0 = nI m) (S : TT h 6 n 6 60) (en : f 1 = nI n) (U : TT h 8 mc 15 16) (ec : f 2 = nI mc) (Tw : TT h 10 nw 4 8) (Tm : TT h 12 nm 1 6) (Ts : TT h 14 ns 3 9) (Tt : TT h 18 nt 2 40) (Th : TT h 20 nh 2 3) (Tz : TT h 24 nz 1 60) (To : TT h 16 1 2 1) (Tn : TT h 22 4 1 4) {B : Nat → Nat} (R : BRc h m B) (cv : ∀ k, k ≤ 9 → cvC h n k = cvR f n k) : w_X10_digest h g (fun r h' _ => JJ SC h h' ∧ r = DGN f B m n mc nw nm ns nt nh nz) := by
  unfold w_X10_digest
  refine lpE_intro (fun ⟨a_q, b_q, h_q, _⟩ => ∃ k : Nat, k ≤ 10 ∧ mx (fun k => cvR f n k) k 383 = a_q ∧ nI k = b_q ∧ h = h_q) (fun ⟨_, b_q, _, _⟩ => dif (nI 10) b_q) ?_ _ ⟨0, by omega, rfl, nI_0, rfl⟩
  rintro ⟨y1, y2, h1, g1⟩ K ⟨k, hk, rfl, rfl, rfl⟩ hK
  unfold F_X10_digest_6; dsimp only; unfold b_X10_digest_6
  refine ⟨fun q => ?_, fun q => ?_⟩
  rotate_left
  · have hd := dif_lt (a := nI 10) q
    rw [show (10 : Int32) = nI 10 from rfl, nI_leI (by omega) (by omega)] at q
    refine c_i (q_X10_count S) ?_
    rintro r _ _ ⟨rfl, rfl, ⟨nb, -⟩ | ⟨k', hk', e, rfl⟩⟩
    · exact absurd (bd_of (by omega) (by omega) (by omega)) nb
    · have : k = k' := (nI_eq (by omega) (by omega)).mp e
      subst this
      rw [cv k hk']
      rintro _ rfl
      rintro _ rfl
      exact hK _ ⟨k + 1, by omega, rfl, (nI_1 k).symm, rfl⟩ hd
  · rw [show (10 : Int32) = nI 10 from rfl, nI_leI (by omega) (by omega)] at q
    have : k = 10 := by omega
    subst this
    refine c_l (q_X10_withParts c T S en R) ?_
    rintro _ h2 g2 ⟨J, rfl⟩
    have c2 : CX h2 f := c.jj J (fun q hq => by unfold SSz; omega)
    have tt : ∀ {o m w M : Nat}, TT h o m w M → o ≤ 75 → TT h2 o m w M := fun t ho => t.cg (J _ (by unfold SSz; omega))
    have J2 : JJ SC h h2 := J.mo (fun q hq => by unfold SSz at hq; unfold SC; omega)
    refine c_l (q_X10_withTable (tt c.tF (by omega))) ?_
    rintro _ _ g3 ⟨rfl, rfl⟩
    refine c_l (q_X10_withTable (tt S (by omega))) ?_
    rintro _ _ g4 ⟨rfl, rfl⟩
    refine c_l (q_X10_withChains c2 (tt T (by omega)) em (tt U (by omega)) ec) ?_
    rintro _ _ g5 ⟨rfl, rfl⟩
    refine c_l (q_X10_withTable (tt Tw (by omega))) ?_
    rintro _ _ g6 ⟨rfl, rfl⟩
    refine c_l (q_X10_withTable (tt Tm (by omega))) ?_
    rintro _ _ g7 ⟨rfl, rfl⟩
    refine c_l (q_X10_withTable (tt Ts (by omega))) ?_
    rintro _ _ g8 ⟨rfl, rfl⟩
    refine c_l (q_X10_withTable (tt To (by omega))) ?_
    rintro _ _ g9 ⟨rfl, rfl⟩
    refine c_l (q_X10_withTable (tt Tt (by omega))) ?_
    rintro _ _ g10 ⟨rfl, rfl⟩
    refine c_l (q_X10_withTable (tt Th (by omega))) ?_
    rintro _ _ g11 ⟨rfl, rfl⟩
    refine c_l (q_X10_withTable (tt Tn (by omega))) ?_
    rintro _ _ g12 ⟨rfl, rfl⟩
    refine c_l (q_X10_withTable (tt Tz (by omega))) ?_
    rintro _ _ g13 ⟨rfl, rfl⟩
    refine ⟨J2, ?_⟩
    unfold DGN
    rw [show mx (fun k => h2 (4 + 1) k) (4 * 3) (pDg f B m (mx (fun k => cvR f n k) 10 383)) = mx (fun k => f (140 + k)) (4 * 3) (pDg f B m (mx (fun k => cvR f n k) 10 383)) from c2.tab (j := 1) (by omega) (by decide) (by decide) (tt c.tF (by omega))]
    generalize mx (fun k => f (140 + k)) (4 * 3) (pDg f B m (mx (fun k => cvR f n k) 10 383)) = x1
    rw [show mx (fun k => h2 (6 + 1) k) (n * 6) x1 = mx (fun k => f (152 + k)) (n * 6) x1 from c2.tab (j := 2) (by omega) (by decide) (by decide) (tt S (by omega))]
    generalize cDg f mc (mx (fun k => f (152 + k)) (n * 6) x1) = x2
    rw [show mx (fun k => h2 (10 + 1) k) (nw * 4) x2 = mx (fun k => f (672 + k)) (nw * 4) x2 from c2.tab (j := 4) (by omega) (by decide) (by decide) (tt Tw (by omega))]
    generalize mx (fun k => f (672 + k)) (nw * 4) x2 = x3
    rw [show mx (fun k => h2 (12 + 1) k) (nm * 1) x3 = mx (fun k => f (704 + k)) (nm * 1) x3 from c2.tab (j := 5) (by omega) (by decide) (by decide) (tt Tm (by omega))]
    generalize mx (fun k => f (704 + k)) (nm * 1) x3 = x4
    rw [show mx (fun k => h2 (14 + 1) k) (ns * 3) x4 = mx (fun k => f (710 + k)) (ns * 3) x4 from c2.tab (j := 6) (by omega) (by decide) (by decide) (tt Ts (by omega))]
    generalize mx (fun k => f (710 + k)) (ns * 3) x4 = x5
    rw [show mx (fun k => h2 (16 + 1) k) (1 * 2) x5 = mx (fun k => f (9 + k)) (1 * 2) x5 from c2.tab (j := 7) (by omega) (by decide) (by decide) (tt To (by omega))]
    generalize mx (fun k => f (9 + k)) (1 * 2) x5 = x6
    rw [show mx (fun k => h2 (18 + 1) k) (nt * 2) x6 = mx (fun k => f (737 + k)) (nt * 2) x6 from c2.tab (j := 8) (by omega) (by decide) (by decide) (tt Tt (by omega))]
    generalize mx (fun k => f (737 + k)) (nt * 2) x6 = x7
    rw [show mx (fun k => h2 (20 + 1) k) (nh * 2) x7 = mx (fun k => f (817 + k)) (nh * 2) x7 from c2.tab (j := 9) (by omega) (by decide) (by decide) (tt Th (by omega))]
    generalize mx (fun k => f (817 + k)) (nh * 2) x7 = x8
    rw [show mx (fun k => h2 (22 + 1) k) (4 * 1) x8 = mx (fun k => f (823 + k)) (4 * 1) x8 from c2.tab (j := 10) (by omega) (by decide) (by decide) (tt Tn (by omega))]
    generalize mx (fun k => f (823 + k)) (4 * 1) x8 = x9
    exact c2.tab (j := 11) (by omega) (by decide) (by decide) (tt Tz (by omega))
/-! the reference -/
theorem q_X11_mixed {h : HI} {g : HL} {x1 : Int64} {a n : Nat} (ha : a + n ≤ 887) : w_X11_mixed x1 (nI a) (nI n) h g (fun r h' _ => h = h' ∧ r = mx (fun k => h 136 (a + k)) n x1) := by
  unfold w_X11_mixed
  refine lpE_intro (fun ⟨a_q, b_q, c_q, d_q, h_q, _⟩ => ∃ k : Nat, k ≤ n ∧ nI a = a_q ∧ nI n = b_q ∧ mx (fun k => h 136 (a + k)) k x1 = c_q ∧ nI k = d_q ∧ h = h_q) (fun ⟨_, _, _, d_q, _, _⟩ => dif (nI n) d_q) ?_ _ ⟨0, Nat.zero_le _, rfl, rfl, rfl, nI_0, rfl⟩
  rintro ⟨y1, y2, y3, y4, h1, g1⟩ K ⟨k, hk, rfl, rfl, rfl, rfl, rfl⟩ hK
  unfold F_X11_mixed_6; dsimp only; unfold b_X11_mixed_6
  refine ⟨fun c => ?_, fun c => ?_⟩
  · rw [nI_leI (by omega) (by omega)] at c
    rw [show n = k by omega]; exact ⟨rfl, rfl⟩
  · have hd := dif_lt c
    rw [nI_leI (by omega) (by omega)] at c
    rw [nI_add, nI_clamp (by omega)]
    refine and_have (vp_in_nI (by omega) (by omega)) (fun _ => ?_)
    rintro _ rfl
    rintro _ rfl
    exact hK _ ⟨k + 1, by omega, rfl, rfl, rfl, (nI_1 k).symm, rfl⟩ hd
set_option maxHeartbeats 1000000 in
theorem q_X11_digest {h : HI} {g : HL} {f : Nat → Int32} (ef : h 136 = f) {m n mc nw nm ns nt nh nz : Nat} (X : FX f m n mc) (N : NB f nw nm ns nt nh nz) {B : Nat → Nat} (R : BRr f m B) : w_X11_digest h g (fun r h' _ => KJ SFf h h' ∧ r = DGN f B m n mc nw nm ns nt nh nz) := by
  obtain ⟨rg, v, w, em, hm, en, hn, ec, hmc, CH, -⟩ := X
  obtain ⟨e3, e4, e5, e6, e7, e8, b3, b4, b5, b6, b7, b8⟩ := N
  have v0 : vp_in (0 : Int32) 887 := vp_in_iff.mpr (by decide)
  have v1 : vp_in (1 : Int32) 887 := vp_in_iff.mpr (by decide)
  have v2 : vp_in (2 : Int32) 887 := vp_in_iff.mpr (by decide)
  have v3 : vp_in (3 : Int32) 887 := vp_in_iff.mpr (by decide)
  have v4 : vp_in (4 : Int32) 887 := vp_in_iff.mpr (by decide)
  have v5 : vp_in (5 : Int32) 887 := vp_in_iff.mpr (by decide)
  have v6 : vp_in (6 : Int32) 887 := vp_in_iff.mpr (by decide)
  have v7 : vp_in (7 : Int32) 887 := vp_in_iff.mpr (by decide)
  have v8 : vp_in (8 : Int32) 887 := vp_in_iff.mpr (by decide)
  have d3 : (3 : Int32).toNatClampNeg = 3 := by decide
  have d5 : (5 : Int32).toNatClampNeg = 5 := by decide
  have d6 : (6 : Int32).toNatClampNeg = 6 := by decide
  have d7 : (7 : Int32).toNatClampNeg = 7 := by decide
  have d8 : (8 : Int32).toNatClampNeg = 8 := by decide
  unfold w_X11_digest
  refine lpE_intro (fun ⟨a_q, b_q, h_q, _⟩ => ∃ k : Nat, k ≤ 10 ∧ mx (fun k => cvR f n k) k 383 = a_q ∧ nI k = b_q ∧ h = h_q) (fun ⟨_, b_q, _, _⟩ => dif (nI 10) b_q) ?_ _ ⟨0, by omega, rfl, nI_0, rfl⟩
  rintro ⟨y1, y3, h1, g1⟩ K ⟨k, hk, rfl, rfl, rfl⟩ hK
  unfold F_X11_digest_6; dsimp only; unfold b_X11_digest_6
  refine ⟨fun c => ?_, fun c => ?_⟩
  rotate_left
  · have hd := dif_lt (a := nI 10) c
    rw [show (10 : Int32) = nI 10 from rfl, nI_leI (by omega) (by omega)] at c
    refine c_i (q_X11_countOf (by rw [ef]; exact rg.ri) (by rw [ef]; exact en) hn (k := k) (by omega)) ?_
    rintro _ _ _ ⟨rfl, rfl, rfl⟩
    rw [ef]
    rintro _ rfl
    rintro _ rfl
    exact hK _ ⟨k + 1, by omega, rfl, (nI_1 k).symm, rfl⟩ hd
  rw [show (10 : Int32) = nI 10 from rfl, nI_leI (by omega) (by omega)] at c
  have : k = 10 := by omega
  subst this
  clear hK c hk
  refine lpE_intro (fun ⟨a_q, b_q, h_q, _⟩ => ∃ p : Nat, p ≤ m ∧ pDg f B p (mx (fun k => cvR f n k) 10 383) = a_q ∧ nI p = b_q ∧ KJ SFf h h_q) (fun ⟨_, b_q, _, _⟩ => dif (nI m) b_q) ?_ _ ⟨0, by omega, rfl, nI_0, KJ.rf⟩
  generalize ex0 : mx (fun k => cvR f n k) 10 383 = x0
  rintro ⟨z1, z3, h2, g2⟩ K2 ⟨p, hp, rfl, rfl, J2⟩ hK2
  have f2 : h2 136 = f := (J2.f6 (fun k => by unfold SFf; omega)).trans ef
  unfold F_X11_digest_33; dsimp only; unfold b_X11_digest_33
  rw [cl0, f2, em]
  refine and_have v0 (fun _ => ⟨fun c => ?_, fun c => ?_⟩)
  · rw [nI_leI (by omega) (by omega)] at c
    have : p = m := by omega
    subst this
    clear hK2 c hp
    refine c_l (q_X11_mixed (a := 140) (n := 12) (by omega)) ?_
    rintro _ _ g3 ⟨rfl, rfl⟩
    refine and_have v1 (fun _ => ?_)
    rw [cl1, f2, en, show (6 : Int32) * nI n = nI (6 * n) from pk_mul 6 n]
    refine c_l (q_X11_mixed (a := 152) (n := 6 * n) (by omega)) ?_
    rintro _ _ g4 ⟨rfl, rfl⟩
    rw [f2]
    refine lpE_intro (fun ⟨a_q, b_q, h_q, _⟩ => ∃ q : Nat, q ≤ mc ∧ cDg f q (mx (fun k => f (152 + k)) (6 * n) (mx (fun k => f (140 + k)) 12 (pDg f B p x0))) = a_q ∧ nI q = b_q ∧ h2 = h_q) (fun ⟨_, b_q, _, _⟩ => dif (nI mc) b_q) ?_ _ ⟨0, by omega, rfl, nI_0, rfl⟩
    rintro ⟨w1, w3, h3, g5⟩ K3 ⟨q, hq, rfl, rfl, rfl⟩ hK3
    unfold F_X11_digest_134; dsimp only; unfold b_X11_digest_134
    rw [cl2, f2, ec]
    refine and_have v2 (fun _ => ⟨fun c => ?_, fun c => ?_⟩)
    · rw [nI_leI (by omega) (by omega)] at c
      have : q = mc := by omega
      subst this
      refine and_have v3 (fun _ => ?_)
      rw [d3, e3, show (4 : Int32) * nI nw = nI (4 * nw) from pk_mul 4 nw]
      refine c_l (q_X11_mixed (a := 672) (n := 4 * nw) (by omega)) ?_
      rintro _ _ g6 ⟨rfl, rfl⟩
      refine and_have v4 (fun _ => ?_)
      rw [cl4, f2, e4]
      refine c_l (q_X11_mixed (a := 704) (n := nm) (by omega)) ?_
      rintro _ _ g7 ⟨rfl, rfl⟩
      refine and_have v5 (fun _ => ?_)
      rw [d5, f2, e5, show (3 : Int32) * nI ns = nI (3 * ns) from pk_mul 3 ns]
      refine c_l (q_X11_mixed (a := 710) (n := 3 * ns) (by omega)) ?_
      rintro _ _ g8 ⟨rfl, rfl⟩
      refine c_l (q_X11_mixed (a := 9) (n := 2) (by omega)) ?_
      rintro _ _ g9 ⟨rfl, rfl⟩
      refine and_have v6 (fun _ => ?_)
      rw [d6, f2, e6, show (2 : Int32) * nI nt = nI (2 * nt) from pk_mul 2 nt]
      refine c_l (q_X11_mixed (a := 737) (n := 2 * nt) (by omega)) ?_
      rintro _ _ g10 ⟨rfl, rfl⟩
      refine and_have v7 (fun _ => ?_)
      rw [d7, f2, e7, show (2 : Int32) * nI nh = nI (2 * nh) from pk_mul 2 nh]
      refine c_l (q_X11_mixed (a := 817) (n := 2 * nh) (by omega)) ?_
      rintro _ _ g11 ⟨rfl, rfl⟩
      refine c_l (q_X11_mixed (a := 823) (n := 4) (by omega)) ?_
      rintro _ _ g12 ⟨rfl, rfl⟩
      refine and_have v8 (fun _ => ?_)
      rw [d8, f2, e8]
      refine c_l (q_X11_mixed (a := 827) (n := nz) (by omega)) ?_
      rintro _ _ g13 ⟨rfl, rfl⟩
      refine ⟨J2, ?_⟩
      unfold DGN
      rw [f2, ex0, Nat.mul_comm nz 1, Nat.one_mul nz, Nat.mul_comm nh 2, Nat.mul_comm nt 2, Nat.mul_comm ns 3, Nat.mul_comm nm 1, Nat.one_mul nm, Nat.mul_comm nw 4, Nat.mul_comm n 6]
    · have hd := dif_lt c
      rw [nI_leI (by omega) (by omega)] at c
      obtain ⟨C1, C2, C3, C4, C5⟩ := CH q (by omega)
      rw [show (512 : Int32) + ((10 : Int32) * nI q) = nI (512 + 10 * q) from ix2 512 10 q]
      refine c_l (q_X11_mixed (a := 512 + 10 * q) (n := 3) (by omega)) ?_
      rintro _ _ g6 ⟨rfl, rfl⟩
      rw [f2]
      generalize ex1 : mx (fun k => f (512 + 10 * q + k)) 3 (cDg f q (mx (fun k => f (152 + k)) (6 * n) (mx (fun k => f (140 + k)) 12 (pDg f B p x0)))) = x1
      refine lpE_intro (fun ⟨a_q, b_q, c_q, h_q, _⟩ => ∃ k : Nat, k ≤ nCh f q ∧ lDg f q k x1 = a_q ∧ nI q = b_q ∧ nI k = c_q ∧ h2 = h_q) (fun ⟨_, _, c_q, _, _⟩ => dif (nI (nCh f q)) c_q) ?_ _ ⟨0, by omega, rfl, rfl, nI_0, rfl⟩
      rintro ⟨s1, s2, s3, h4, g7⟩ K4 ⟨k, hk, rfl, rfl, rfl, rfl⟩ hK4
      unfold F_X11_digest_162; dsimp only; unfold b_X11_digest_162
      refine c_cO (k := 2) (by omega) (by omega) ?_
      rw [f2, C2]
      refine ⟨fun z => ?_, fun z => ?_⟩
      · rw [nI_leI (by omega) (by omega)] at z
        have : k = nCh f q := by omega
        subst this
        rintro _ rfl
        refine hK3 _ ⟨q + 1, by omega, ?_, (nI_1 q).symm, rfl⟩ hd
        show lDg f q (nCh f q) (mx (fun k => f (512 + 10 * q + k)) 3 (cDg f q (mx (fun k => f (152 + k)) (6 * n) (mx (fun k => f (140 + k)) 12 (pDg f B p x0))))) = _
        rw [ex1]
      · have hd4 := dif_lt z
        rw [nI_leI (by omega) (by omega)] at z
        rw [show (3 : Int32) + nI k = nI (3 + k) from nI_add 3 k]
        refine c_cO (k := 3 + k) (by omega) (by omega) (c_cO (k := 9) (by omega) (by omega) ?_)
        rw [f2]
        rintro _ rfl
        rintro _ rfl
        exact hK4 _ ⟨k + 1, by omega, rfl, rfl, (nI_1 k).symm, rfl⟩ hd4
  · have hd := dif_lt c
    rw [nI_leI (by omega) (by omega)] at c
    rw [show (20 : Int32) + ((5 : Int32) * nI p) = nI (20 + 5 * p) from ix2 20 5 p]
    refine c_l (q_X11_mixed (a := 20 + 5 * p) (n := 4) (by omega)) ?_
    rintro _ _ g3 ⟨rfl, rfl⟩
    rw [f2]
    generalize ex1 : mx (fun k => f (20 + 5 * p + k)) 4 (pDg f B p x0) = x1
    refine lpE_intro (fun ⟨a_q, b_q, c_q, h_q, _⟩ => ∃ k : Nat, k ≤ 3 ∧ mx (fun k => fsel f p (nI k)) k x1 = a_q ∧ nI p = b_q ∧ nI k = c_q ∧ KJ SFf h h_q) (fun ⟨_, _, c_q, _, _⟩ => dif (nI 3) c_q) ?_ _ ⟨0, by omega, rfl, rfl, nI_0, J2⟩
    rintro ⟨s1, s2, s3, h4, g7⟩ K4 ⟨k, hk, rfl, rfl, rfl, J4⟩ hK4
    have f4 : h4 136 = f := (J4.f6 (fun k => by unfold SFf; omega)).trans ef
    unfold F_X11_digest_59; dsimp only; unfold b_X11_digest_59
    refine ⟨fun z => ?_, fun z => ?_⟩
    · rw [show (3 : Int32) = nI 3 from rfl, nI_leI (by omega) (by omega)] at z
      have : k = 3 := by omega
      subst this
      refine c_i (q_X11_alongOf (by rw [f4]; exact rg.ri) (by rw [f4]; exact em) hm (by rw [f4]; exact R) (p := p) (by omega)) ?_
      rintro _ _ _ ⟨rfl, rfl, s, hs, rfl, l⟩
      rw [← alN_eq hs l]
      rintro _ rfl
      rintro _ rfl
      refine hK2 _ ⟨p + 1, by omega, ?_, (nI_1 p).symm, J4⟩ hd
      show (31 : Int64) * mx (fun k => fsel f p (nI k)) 3 (mx (fun c => f (20 + 5 * p + c)) 4 (pDg f B p x0)) + (nI (alN B p)).toInt64 = _
      rw [ex1]
    · have hd4 := dif_lt (a := nI 3) z
      rw [show (3 : Int32) = nI 3 from rfl, nI_leI (by omega) (by omega)] at z
      refine c_i (q_X11_firstOf f4 rg v w (p := p) (by omega) en hn) ?_
      rintro _ h5 g8 ⟨J5, rfl⟩
      rintro _ rfl
      rintro _ rfl
      exact hK4 _ ⟨k + 1, by omega, rfl, rfl, (nI_1 k).symm, J4.tr J5⟩ hd4
end
