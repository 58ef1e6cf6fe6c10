/-! THE CLASS FINDS FIRST -/
def ofL (f : Nat → Int32) (p : Nat) : Nat → List Nat
  | 0 => []
  | k + 1 => if isO f p k then ofL f p k ++ [k] else ofL f p k
theorem ofL_y {f : Nat → Int32} {p k : Nat} (h : isO f p k) : ofL f p (k + 1) = ofL f p k ++ [k] := if_pos h
theorem ofL_n {f : Nat → Int32} {p k : Nat} (h : ¬ isO f p k) : ofL f p (k + 1) = ofL f p k := if_neg h
theorem ofL_mem {f : Nat → Int32} {p s : Nat} : ∀ {k : Nat}, s ∈ ofL f p k ↔ s < k ∧ isO f p s
  | 0 => ⟨fun h => absurd h List.not_mem_nil, fun h => absurd h.1 (Nat.not_lt_zero s)⟩
  | k + 1 => by
    have ih := ofL_mem (f := f) (p := p) (s := s) (k := k)
    by_cases q : isO f p k
    · rw [ofL_y q, List.mem_append, List.mem_singleton, ih]
      refine ⟨fun h => ?_, fun h => ?_⟩
      · rcases h with h | h
        · exact ⟨by omega, h.2⟩
        · exact ⟨by omega, by rw [h]; exact q⟩
      · by_cases e : s = k
        · exact .inr e
        · exact .inl ⟨by omega, h.2⟩
    · rw [ofL_n q, ih]
      refine ⟨fun h => ⟨by omega, h.2⟩, fun h => ⟨?_, h.2⟩⟩
      have : s ≠ k := fun e => q (by rw [← e]; exact h.2)
      omega
theorem ofL_len {f : Nat → Int32} {p : Nat} : ∀ {k : Nat}, (ofL f p k).length ≤ k
  | 0 => Nat.le_refl _
  | k + 1 => by
    have ih := ofL_len (f := f) (p := p) (k := k)
    by_cases q : isO f p k
    · rw [ofL_y q, List.length_append, List.length_singleton]; omega
    · rw [ofL_n q]; omega
noncomputable def cLo (f : Nat → Int32) (s : Nat) : Int := if f (152 + 6 * s + 1) = 2 then -1000000 else sL f s
noncomputable def cHi (f : Nat → Int32) (s : Nat) : Int := if f (152 + 6 * s + 1) = 3 then 1000000 else sH f s
theorem cLH {f : Nat → Int32} (v : VR f) (w : WB f) {s : Nat} (hs : s < 60) : -1000000 ≤ cLo f s ∧ cLo f s ≤ 110000 ∧ -20000 ≤ cHi f s ∧ cHi f s ≤ 1000000 := by
  obtain ⟨a, b, c, d⟩ := sLH v w hs
  unfold cLo cHi
  by_cases q : f (152 + 6 * s + 1) = 2
  · rw [if_pos q]
    by_cases q2 : f (152 + 6 * s + 1) = 3
    · rw [if_pos q2]; omega
    · rw [if_neg q2]; omega
  · rw [if_neg q]
    by_cases q2 : f (152 + 6 * s + 1) = 3
    · rw [if_pos q2]; omega
    · rw [if_neg q2]; omega
theorem alw_c {f : Nat → Int32} {s : Nat} {z : Int} (h1 : -1000000 ≤ z) (h2 : z ≤ 1000000) : alw f s z ↔ cLo f s ≤ z ∧ z ≤ cHi f s := by
  unfold alw cLo cHi
  by_cases q : f (152 + 6 * s + 1) = 2
  · rw [if_pos q]
    have q2 : ¬ f (152 + 6 * s + 1) = 3 := by rw [q]; decide
    rw [if_neg q2]
    exact ⟨fun x => ⟨h1, x.2 q2⟩, fun x => ⟨fun n => absurd q n, fun _ => x.2⟩⟩
  · rw [if_neg q]
    by_cases q2 : f (152 + 6 * s + 1) = 3
    · rw [if_pos q2]
      exact ⟨fun x => ⟨x.1 q, h2⟩, fun x => ⟨fun _ => x.1, fun n => absurd q2 n⟩⟩
    · rw [if_neg q2]
      exact ⟨fun x => ⟨x.1 q, x.2 q2⟩, fun x => ⟨fun _ => x.1, fun _ => x.2⟩⟩
/-- the sayings that count, in the class's rows -/
def ARR (h : HI) (f : Nat → Int32) (p k : Nat) : Prop := ∀ i s, (ofL f p k)[i]? = some s → h 82 i = i32 (cLo f s) ∧ h 83 i = i32 (cHi f s) ∧ h 84 i = nI s
def SZ (h : HI) (f : Nat → Int32) (p n : Nat) : Prop := h 81 9 = fLo f p ∧ h 81 10 = fHi f p ∧ h 81 11 = fMn f p ∧ (h 81 6).toInt = fB f p ∧ (h 81 7).toInt = fD f p ∧ (h 81 8).toInt = fM f p - 1 ∧ h 81 5 = nI (ofL f p n).length ∧ ARR h f p n
theorem q_X7_chooseFamily {h : HI} {g : HL} {f : Nat → Int32} (c : CX h f) {p : Nat} (hp : p < 24) : w_X7_chooseFamily (f (20 + 5 * p + 3)) h g (fun h' _ => JJ SSz h h' ∧ (h' 81 6).toInt = fB f p ∧ (h' 81 7).toInt = fD f p ∧ (h' 81 8).toInt = fM f p - 1) := by
  have T := c.tF
  have v := c.2.2.2.1
  have k := v.fok hp
  have S81 : SSz 81 := by unfold SSz; omega
  have j33 : ∀ (x s1 : Int32) (g1 : HL), (f (20 + 5 * p + 3) = -1 ∧ x = 0 ∨ ¬ f (20 + 5 * p + 3) = -1 ∧ ¬ x = 0) → s1.toInt = fB f p → j_X7_chooseFamily_33 (fun h' _ => JJ SSz h h' ∧ (h' 81 6).toInt = fB f p ∧ (h' 81 7).toInt = fD f p ∧ (h' 81 8).toInt = fM f p - 1) (f (20 + 5 * p + 3)) x s1 h g1 := by
    intro x s1 g1 o es
    unfold j_X7_chooseFamily_33
    intro h1 e1
    have J1 : JJ SSz h h1 := JJ.rf.hu e1 S81
    have T1 : TT h1 4 4 3 4 := T.cg (J1 4 (by unfold SSz; omega))
    have e5 : h1 5 = h 5 := J1 5 (by unfold SSz; omega)
    have j61 : ∀ (s2 : Int32) (g2 : HL), s2.toInt = fD f p → j_X7_chooseFamily_61 (fun h' _ => JJ SSz h h' ∧ (h' 81 6).toInt = fB f p ∧ (h' 81 7).toInt = fD f p ∧ (h' 81 8).toInt = fM f p - 1) (f (20 + 5 * p + 3)) x s2 h1 g2 := by
      intro s2 g2 es2
      unfold j_X7_chooseFamily_61
      intro h2 e2
      have J2 : JJ SSz h h2 := J1.hu e2 S81
      have T2 : TT h2 4 4 3 4 := T.cg (J2 4 (by unfold SSz; omega))
      have j86 : ∀ (s3 : Int32) (g3 : HL), s3.toInt = fM f p → j_X7_chooseFamily_86 (fun h' _ => JJ SSz h h' ∧ (h' 81 6).toInt = fB f p ∧ (h' 81 7).toInt = fD f p ∧ (h' 81 8).toInt = fM f p - 1) s3 h2 g3 := by
        intro s3 g3 es3
        unfold j_X7_chooseFamily_86
        intro h3 e3
        obtain ⟨k1, k2, k3, k4, k5, k6⟩ := k
        refine ⟨J2.hu e3 S81, ?_, ?_, ?_⟩
        · rw [e3, hu_eq, pk_un (by decide), e2, hu_eq, pk_un (by decide), e1, hu_eq, pk_us]; exact es
        · rw [e3, hu_eq, pk_un (by decide), e2, hu_eq, pk_us]; exact es2
        · rw [e3, hu_eq, pk_us]; exact i_sub es3 i1 (by omega)
      rcases o with ⟨o1, o2⟩ | ⟨o1, o2⟩
      · exact ⟨fun _ => j86 _ _ (by rw [(fam_n o1).2.2]; decide), fun q => absurd o2 q⟩
      · refine ⟨fun q => absurd q o2, fun _ => ?_⟩
        obtain ⟨j, hj, ej⟩ := (v.fam hp).resolve_left o1
        rw [ej]
        refine c_i (p_atT T2) ?_
        rintro _ _ _ ⟨rfl, rfl, rfl⟩
        refine j86 _ _ ?_
        rw [(fam_j hj ej).2.2, show tat h2 4 (nI j) (2 : Int32) = h2 5 (j * 3 + 2) from tat_nI T2 (b := 2) hj (by omega), J2 5 (by unfold SSz; omega), c.cf hj (by omega)]
    rcases o with ⟨o1, o2⟩ | ⟨o1, o2⟩
    · exact ⟨fun _ => j61 _ _ (by rw [(fam_n o1).2.1]; decide), fun q => absurd o2 q⟩
    · refine ⟨fun q => absurd q o2, fun _ => ?_⟩
      obtain ⟨j, hj, ej⟩ := (v.fam hp).resolve_left o1
      have d1 : 1 ≤ fD f p := k.2.1
      rw [ej] at j61 ⊢
      refine c_i (p_atT T1) ?_
      rintro _ _ _ ⟨rfl, rfl, rfl⟩
      refine j61 _ _ ?_
      have ed : (tat h1 4 (nI j) (1 : Int32)).toInt = fD f p := by
        rw [(fam_j hj ej).2.1, show tat h1 4 (nI j) (1 : Int32) = h1 5 (j * 3 + 1) from tat_nI T1 (b := 1) hj (by omega), e5, c.cf hj (by omega)]
      rw [i_mx i1 ed]
      by_cases q : 1 < fD f p
      · rw [if_pos q]
      · rw [if_neg q]; omega
  unfold w_X7_chooseFamily
  refine c_hb (fun q0 => ⟨fun q => absI q, fun _ => ?_⟩) (fun q0 => ⟨fun _ => ?_, fun q => absN q⟩)
  · obtain ⟨j, hj, ej⟩ := row_n q0 T.2.2.1 (by omega)
    rw [ej] at j33 ⊢
    refine c_i (p_atT T) ?_
    rintro _ _ _ ⟨rfl, rfl, rfl⟩
    refine j33 1 _ _ (.inr ⟨nI_nm (by omega), by decide⟩) ?_
    rw [(fam_j hj ej).1, show tat h 4 (nI j) (0 : Int32) = h 5 (j * 3 + 0) from tat_nI T (b := 0) hj (by omega), c.cf hj (by omega), Nat.add_zero]
  · have o1 : f (20 + 5 * p + 3) = -1 := by
      rcases v.fam hp with e | ⟨j, hj, e⟩
      · exact e
      · exact absurd (by rw [e, T.2.2.1]; exact row_of hj (by omega)) q0
    exact j33 0 1 g (.inl ⟨o1, rfl⟩) (by rw [(fam_n o1).1]; decide)
theorem CX.at6 {h : HI} {f : Nat → Int32} (c : CX h f) {m s k : Nat} (S : TT h 6 m 6 60) (hs : s < m) (hk : k < 6) : tat h 6 (nI s) (nI k) = f (152 + 6 * s + k) := (tat_nI S hs hk).trans (c.cs S hs hk)
theorem q_X7_allow {h : HI} {g : HL} {f : Nat → Int32} (c : CX h f) {m n p s i : Nat} (T : TT h 2 m 5 24) (S : TT h 6 n 6 60) (hp : p < m) (hs : s < n) (hi : i < 60) (o : isO f p s) : w_X7_allow (nI p) (nI s) (nI i) h g (fun h' _ => JJ SSz h h' ∧ h' 81 = h 81 ∧ h' 82 = upd (h 82) i (i32 (cLo f s)) ∧ h' 83 = upd (h 83) i (i32 (cHi f s)) ∧ h' 84 = upd (h 84) i (nI s)) := by
  have hn := S.2.2.2.1
  have hm := T.2.2.2.1
  have v := c.2.2.2.1
  have w := c.wb
  obtain ⟨b1, b2, b3, b4, b5, b6⟩ := s_bd v w (s := s) (by omega)
  have vi : vp_in (nI i) 60 := vp_in_nI hi (by omega)
  have j104 : ∀ (x5 : Int32) (g1 : HL), x5.toInt = (f (152 + 6 * s + 2)).toInt + sW f s → j_X7_allow_104 (fun h' _ => JJ SSz h h' ∧ h' 81 = h 81 ∧ h' 82 = upd (h 82) i (i32 (cLo f s)) ∧ h' 83 = upd (h 83) i (i32 (cHi f s)) ∧ h' 84 = upd (h 84) i (nI s)) (nI s) (nI i) (f (152 + 6 * s + 1)) x5 (f (152 + 6 * s + 3)) h g1 := by
    intro x5 g1 e5
    have j125 : ∀ s2 : Int32, s2 = i32 (cLo f s) → j_X7_allow_125 (fun h' _ => JJ SSz h h' ∧ h' 81 = h 81 ∧ h' 82 = upd (h 82) i (i32 (cLo f s)) ∧ h' 83 = upd (h 83) i (i32 (cHi f s)) ∧ h' 84 = upd (h 84) i (nI s)) (nI s) (nI i) (f (152 + 6 * s + 1)) x5 (f (152 + 6 * s + 3)) (nI i) s2 h g1 := by
      rintro _ rfl
      unfold j_X7_allow_125
      refine and_have vi (fun _ => ?_)
      intro h1 e1
      rw [nI_clamp (by omega)] at e1
      have j147 : ∀ s2 : Int32, s2 = i32 (cHi f s) → j_X7_allow_147 (fun h' _ => JJ SSz h h' ∧ h' 81 = h 81 ∧ h' 82 = upd (h 82) i (i32 (cLo f s)) ∧ h' 83 = upd (h 83) i (i32 (cHi f s)) ∧ h' 84 = upd (h 84) i (nI s)) (nI s) (nI i) (nI i) s2 h1 g1 := by
        rintro _ rfl
        unfold j_X7_allow_147
        refine and_have vi (fun _ => ?_)
        intro h2 e2
        rw [nI_clamp (by omega)] at e2
        refine and_have vi (fun _ => ?_)
        intro h3 e3
        rw [nI_clamp (by omega)] at e3
        refine ⟨((JJ.rf.hu e1 (by unfold SSz; omega)).hu e2 (by unfold SSz; omega)).hu e3 (by unfold SSz; omega), ?_, ?_, ?_, ?_⟩
        · rw [e3, hu_ne (by decide), e2, hu_ne (by decide), e1, hu_ne (by decide)]
        · rw [e3, hu_ne (by decide), e2, hu_ne (by decide), e1, hu_eq]
        · rw [e3, hu_ne (by decide), e2, hu_eq, e1, hu_ne (by decide)]
        · rw [e3, hu_eq, e2, hu_ne (by decide), e1, hu_ne (by decide)]
      refine ⟨fun q => j147 _ ?_, fun q => j147 _ ?_⟩
      · have e : (x5 + f (152 + 6 * s + 3)).toInt = cHi f s := by
          unfold cHi
          rw [if_neg q, i_add e5 rfl (by omega)]
          unfold sH; omega
        exact i32_e e
      · skip
        have e : (1000000 : Int32).toInt = cHi f s := by
          unfold cHi
          rw [if_pos q]; decide
        exact i32_e e
    unfold j_X7_allow_104
    refine ⟨fun q => j125 _ ?_, fun q => j125 _ ?_⟩
    · have e : (x5 - f (152 + 6 * s + 3)).toInt = cLo f s := by
        unfold cLo
        rw [if_neg q, i_sub e5 rfl (by omega)]
        unfold sL; omega
      exact i32_e e
    · skip
      have e : (-1000000 : Int32).toInt = cLo f s := by
        unfold cLo
        rw [if_pos q]; decide
      exact i32_e e
  have i60 : ¬ (60 : Int32) ≤ nI i := fun q => by
    rw [show (60 : Int32) = nI 60 from rfl, nI_leI (by omega) (by omega)] at q; omega
  unfold w_X7_allow
  refine ⟨fun q => absurd q (nI_pos (by omega)), fun _ => ⟨fun q => absurd q i60, fun _ => ⟨fun q => absurd q i60, fun _ => ⟨fun _ => ?_, fun q => absurd ((nI_ltI (b := 60) (by omega) (by omega)).mpr hi) q⟩⟩⟩⟩
  refine c_i (p_atT S) ?_
  rintro _ _ _ ⟨rfl, rfl, rfl⟩
  refine c_i (p_atT S) ?_
  rintro _ _ _ ⟨rfl, rfl, rfl⟩
  refine c_i (p_atT S) ?_
  rintro _ _ _ ⟨rfl, rfl, rfl⟩
  rw [show tat h 6 (nI s) (1 : Int32) = f (152 + 6 * s + 1) from c.at6 S (k := 1) hs (by omega), show tat h 6 (nI s) (2 : Int32) = f (152 + 6 * s + 2) from c.at6 S (k := 2) hs (by omega), show tat h 6 (nI s) (3 : Int32) = f (152 + 6 * s + 3) from c.at6 S (k := 3) hs (by omega)]
  refine ⟨fun q => j104 _ _ ?_, fun q => ?_⟩
  · unfold sW
    rw [if_neg q]; omega
  · skip
    refine c_i (p_atT S) ?_
    rintro _ _ _ ⟨rfl, rfl, rfl⟩
    obtain ⟨a, y, ha, hy, ea, ey⟩ := v.sp (s := s) (by omega)
    rw [show tat h 6 (nI s) (4 : Int32) = nI y from (c.at6 S (k := 4) hs (by omega)).trans ey]
    refine c_worn c T hp hy (fun g2 => ?_)
    rintro _ rfl
    refine j104 _ _ ?_
    have eW : (wvN f p y).toInt = sW f s := by
      unfold sW
      rw [if_pos q, o.1, ey, nI_clamp (by omega), nI_clamp (by omega)]
    exact i_add rfl eW (by omega)
theorem q_X7_placeFrom {h : HI} {g : HL} {x : Int32} {b d z : Int} (ex : x.toInt = z) (b6 : (h 81 6).toInt = b) (b7 : (h 81 7).toInt = d) (hb : 1 ≤ b ∧ b ≤ 100000) (hd : 1 ≤ d ∧ d ≤ 100000) (hz : -1000000 ≤ z ∧ z ≤ 1000000) : w_X7_placeFrom x h g (fun r h' g' => r.toInt = pfN b d z ∧ h = h' ∧ g = g') := by
  unfold w_X7_placeFrom
  refine ⟨fun q => ?_, fun q => ⟨fun _ => ⟨fun e => ?_, ?_, rfl, rfl⟩, fun q1 => absurd ((i_le i1 b7).mpr hd.1) q1⟩⟩
  · unfold j_X7_placeFrom_16
    rw [i_le ex b6] at q
    exact ⟨by unfold pfN; rw [if_pos q]; exact i0, rfl, rfl⟩
  · rw [e, i0] at b7; omega
  · rw [i_le ex b6] at q
    unfold pfN; rw [if_neg q]
    exact i_div (i_sub (i_add (i_sub ex b6 (by omega)) b7 (by omega)) i1 (by omega)) b7 (by omega) (by omega)
def S81 (q : Nat) : Prop := q = 81
theorem q_X7_chooseSizes {h : HI} {g : HL} {f : Nat → Int32} {p n : Nat} (v : VR f) (w : WB f) (k : FOK f p) (hn : n ≤ 60) (b6 : (h 81 6).toInt = fB f p) (b7 : (h 81 7).toInt = fD f p) (b8 : (h 81 8).toInt = fM f p - 1) (e5 : h 81 5 = nI (ofL f p n).length) (A : ARR h f p n) : w_X7_chooseSizes h g (fun h' _ => JJ S81 h h' ∧ (∀ i, i < 9 → h' 81 i = h 81 i) ∧ FA f p n (h' 81 9).toInt (h' 81 10).toInt (h' 81 11).toInt) := by
  have hl : (ofL f p n).length ≤ 60 := Nat.le_trans ofL_len hn
  have k0 := k
  obtain ⟨k1, k2, k3, k4, k5, k6⟩ := k
  have kB : fB f p ≤ 100000 := by
    have := Int.mul_nonneg (a := fM f p - 1) (b := fD f p) (by omega) (by omega)
    omega
  have fin : ∀ (x3 s0 : Int32) (g1 : HL), FSp f p n x3.toInt s0.toInt → x3.toInt ≤ 1100000 → -1 ≤ s0.toInt → j_X7_chooseSizes_106 (fun h' _ => JJ S81 h h' ∧ (∀ i, i < 9 → h' 81 i = h 81 i) ∧ FA f p n (h' 81 9).toInt (h' 81 10).toInt (h' 81 11).toInt) x3 s0 h g1 := by
    intro x3 s0 g1 fs hx hs
    obtain ⟨a0, b0, -⟩ := id fs
    have em : ((s0 - x3) + 1).toInt = s0.toInt - x3.toInt + 1 := i_add (i_sub rfl rfl (by omega)) i1 (by omega)
    have sza : ¬ s0.toInt < x3.toInt → 1 ≤ fB f p + fD f p * x3.toInt ∧ fB f p + fD f p * x3.toInt ≤ 100000 ∧ 0 ≤ fD f p * x3.toInt := fun q => k0.sz a0 (by omega)
    have szb : ¬ s0.toInt < x3.toInt → 1 ≤ fB f p + fD f p * s0.toInt ∧ fB f p + fD f p * s0.toInt ≤ 100000 ∧ 0 ≤ fD f p * s0.toInt := fun q => k0.sz (by omega) b0
    unfold j_X7_chooseSizes_106
    intro h1 e1
    have c11 : (h1 81 11).toInt = (if s0.toInt < x3.toInt then 0 else s0.toInt - x3.toInt + 1) := by
      rw [e1, hu_eq, pk_us, i_mx i0 em]
      by_cases q : s0.toInt < x3.toInt
      · rw [if_pos q, if_neg (by omega)]
      · rw [if_neg q, if_pos (by omega)]
    have c6 : (h1 81 6).toInt = fB f p := by rw [e1, hu_eq, pk_un (by decide)]; exact b6
    have c7 : (h1 81 7).toInt = fD f p := by rw [e1, hu_eq, pk_un (by decide)]; exact b7
    have le0 : h1 81 11 ≤ 0 ↔ s0.toInt < x3.toInt := by
      rw [i_le c11 i0]
      by_cases q : s0.toInt < x3.toInt
      · rw [if_pos q]; omega
      · rw [if_neg q]; omega
    have j145 : ∀ s1 : Int32, s1.toInt = (if s0.toInt < x3.toInt then -1 else fB f p + fD f p * x3.toInt) → j_X7_chooseSizes_145 (fun h' _ => JJ S81 h h' ∧ (∀ i, i < 9 → h' 81 i = h 81 i) ∧ FA f p n (h' 81 9).toInt (h' 81 10).toInt (h' 81 11).toInt) s0 s1 h1 g1 := by
      intro s1 es1
      unfold j_X7_chooseSizes_145
      intro h2 e2
      have d11 : h2 81 11 = h1 81 11 := by rw [e2, hu_eq, pk_un (by decide)]
      have d6 : (h2 81 6).toInt = fB f p := by rw [e2, hu_eq, pk_un (by decide)]; exact c6
      have d7 : (h2 81 7).toInt = fD f p := by rw [e2, hu_eq, pk_un (by decide)]; exact c7
      have j172 : ∀ s2 : Int32, s2.toInt = (if s0.toInt < x3.toInt then -1 else fB f p + fD f p * s0.toInt) → j_X7_chooseSizes_172 (fun h' _ => JJ S81 h h' ∧ (∀ i, i < 9 → h' 81 i = h 81 i) ∧ FA f p n (h' 81 9).toInt (h' 81 10).toInt (h' 81 11).toInt) s2 h2 g1 := by
        intro s2 es2
        unfold j_X7_chooseSizes_172
        intro h3 e3
        refine ⟨((JJ.rf.hu e1 (by unfold S81; omega)).hu e2 (by unfold S81; omega)).hu e3 (by unfold S81; omega), fun i hi => ?_, x3.toInt, s0.toInt, fs, ?_, ?_, ?_⟩
        · rw [e3, hu_eq, pk_un (by omega), e2, hu_eq, pk_un (by omega), e1, hu_eq, pk_un (by omega)]
        · rw [e3, hu_eq, pk_un (by decide), d11]; exact c11
        · rw [e3, hu_eq, pk_un (by decide), e2, hu_eq, pk_us]; exact es1
        · rw [e3, hu_eq, pk_us]; exact es2
      rw [d11]
      refine ⟨fun q => j172 _ ?_, fun q => j172 _ ?_⟩
      · rw [if_pos (le0.mp q)]; exact im1
      · have q : ¬ s0.toInt < x3.toInt := fun z => q (le0.mpr z)
        have := szb q
        rw [if_neg q, i_add d6 (i_mul rfl d7 (by rw [Int.mul_comm]; omega)) (by rw [Int.mul_comm s0.toInt]; omega), Int.mul_comm s0.toInt]
    refine ⟨fun q => j145 _ ?_, fun q => j145 _ ?_⟩
    · rw [if_pos (le0.mp q)]; exact im1
    · have q : ¬ s0.toInt < x3.toInt := fun z => q (le0.mpr z)
      have := sza q
      rw [if_neg q, i_add c6 (i_mul rfl c7 (by rw [Int.mul_comm]; omega)) (by rw [Int.mul_comm x3.toInt]; omega), Int.mul_comm x3.toInt]
  have j62 : ∀ (x1 x2 : Int32) (g1 : HL), -1000000 ≤ x1.toInt → x1.toInt ≤ 120000 → -20000 ≤ x2.toInt → x2.toInt ≤ 1000000 → (∀ z : Int, x1.toInt ≤ z ↔ (-1000000 ≤ z ∧ ∀ j s, j < (ofL f p n).length → (ofL f p n)[j]? = some s → cLo f s ≤ z)) → (∀ z : Int, z ≤ x2.toInt ↔ (z ≤ 1000000 ∧ ∀ j s, j < (ofL f p n).length → (ofL f p n)[j]? = some s → z ≤ cHi f s)) → j_X7_chooseSizes_62 (fun h' _ => JJ S81 h h' ∧ (∀ i, i < 9 → h' 81 i = h 81 i) ∧ FA f p n (h' 81 9).toInt (h' 81 10).toInt (h' 81 11).toInt) x1 x2 h g1 := by
    intro x1 x2 g1 l1 l2 l3 l4 kL kH
    have both : ∀ z : Int, 1 ≤ z → z ≤ 100000 → ((x1.toInt ≤ z ∧ z ≤ x2.toInt) ↔ okZs f p n z) := by
      intro z z1 z2
      rw [kL, kH]
      refine ⟨fun q s hs o => ?_, fun q => ⟨⟨by omega, fun j s _ e => ?_⟩, by omega, fun j s _ e => ?_⟩⟩
      · obtain ⟨j, e⟩ := List.mem_iff_getElem?.mp (ofL_mem.mpr ⟨hs, o⟩)
        have hj : j < (ofL f p n).length := (List.getElem?_eq_some_iff.mp e).1
        exact (alw_c (by omega) (by omega)).mpr ⟨q.1.2 j s hj e, q.2.2 j s hj e⟩
      · have m := ofL_mem.mp (List.mem_iff_getElem?.mpr ⟨j, e⟩)
        exact ((alw_c (by omega) (by omega)).mp (q s m.1 m.2)).1
      · have m := ofL_mem.mp (List.mem_iff_getElem?.mpr ⟨j, e⟩)
        exact ((alw_c (by omega) (by omega)).mp (q s m.1 m.2)).2
    have pb := pfN_bd (b := fB f p) (d := fD f p) (z := x1.toInt) k1 k2 k3 (by omega)
    unfold j_X7_chooseSizes_62
    refine c_i (q_X7_placeFrom (x := x1) rfl b6 b7 (by omega) (by omega) (by omega)) ?_
    rintro r _ _ ⟨er, rfl, rfl⟩
    have low : x2.toInt < fB f p → j_X7_chooseSizes_84 (fun h' _ => JJ S81 h h' ∧ (∀ i, i < 9 → h' 81 i = h 81 i) ∧ FA f p n (h' 81 9).toInt (h' 81 10).toInt (h' 81 11).toInt) r h g1 := by
      intro q
      unfold j_X7_chooseSizes_84
      refine fin r (-1) g1 ⟨by omega, by rw [im1]; omega, fun i h0 h1 => ?_⟩ (by omega) (by rw [im1]; omega)
      have s := k0.sz h0 h1
      rw [im1, ← both _ s.1 s.2.1]
      omega
    refine ⟨fun q => low ((i_lt rfl b6).mp q), fun q => ⟨fun _ => ⟨fun e => ?_, ?_⟩, fun q1 => absurd ((i_le i1 b7).mpr k2) q1⟩⟩
    · rw [e, i0] at b7; omega
    · rw [i_lt rfl b6] at q
      have qb := qfN_bd (b := fB f p) (d := fD f p) (z := x2.toInt) k1 k2 l4
      have eq : ((x2 - h 81 6) / h 81 7).toInt = qfN (fB f p) (fD f p) x2.toInt := by
        rw [i_div (i_sub rfl b6 (by omega)) b7 (by omega) k2]
        unfold qfN; rw [if_neg q]
      have es : (if (x2 - h 81 6) / h 81 7 < h 81 8 then (x2 - h 81 6) / h 81 7 else h 81 8).toInt = (if qfN (fB f p) (fD f p) x2.toInt < fM f p - 1 then qfN (fB f p) (fD f p) x2.toInt else fM f p - 1) := by
        by_cases c : (x2 - h 81 6) / h 81 7 < h 81 8
        · rw [if_pos c, if_pos ((i_lt eq b8).mp c)]; exact eq
        · rw [if_neg c, if_neg (fun z => c ((i_lt eq b8).mpr z))]; exact b8
      refine fin r _ g1 ?_ (by omega) ?_
      · rw [es, er]
        refine ⟨pb.1, ?_, fun i h0 h1 => ?_⟩
        · by_cases c : qfN (fB f p) (fD f p) x2.toInt < fM f p - 1
          · rw [if_pos c]; omega
          · rw [if_neg c]; omega
        · have s := k0.sz h0 h1
          rw [← both _ s.1 s.2.1, ← pfN_le k2 h0, ← le_qfN k2 h0]
          by_cases c : qfN (fB f p) (fD f p) x2.toInt < fM f p - 1
          · rw [if_pos c]
          · rw [if_neg c]; omega
      · rw [es]
        by_cases c : qfN (fB f p) (fD f p) x2.toInt < fM f p - 1
        · rw [if_pos c]; omega
        · rw [if_neg c]; omega
  unfold w_X7_chooseSizes
  refine lpE_intro (fun ⟨a_q, b_q, c_q, h_q, _⟩ => ∃ i : Nat, i ≤ (ofL f p n).length ∧ nI i = c_q ∧ h = h_q ∧ -1000000 ≤ a_q.toInt ∧ a_q.toInt ≤ 120000 ∧ -20000 ≤ b_q.toInt ∧ b_q.toInt ≤ 1000000 ∧ (∀ z : Int, a_q.toInt ≤ z ↔ (-1000000 ≤ z ∧ ∀ j s, j < i → (ofL f p n)[j]? = some s → cLo f s ≤ z)) ∧ (∀ z : Int, z ≤ b_q.toInt ↔ (z ≤ 1000000 ∧ ∀ j s, j < i → (ofL f p n)[j]? = some s → z ≤ cHi f s))) (fun ⟨_, _, c_q, _, _⟩ => dif (nI (ofL f p n).length) c_q) ?_ _ ⟨0, by omega, nI_0, rfl, by decide, by decide, by decide, by decide, fun z => ?_, fun z => ?_⟩
  rotate_left
  · rw [show (-1000000 : Int32).toInt = -1000000 by decide]
    exact ⟨fun q => ⟨q, fun j s hj => absurd hj (Nat.not_lt_zero j)⟩, fun q => q.1⟩
  · rw [show (1000000 : Int32).toInt = 1000000 by decide]
    exact ⟨fun q => ⟨q, fun j s hj => absurd hj (Nat.not_lt_zero j)⟩, fun q => q.1⟩
  rintro ⟨y1, y2, y3, h1, g1⟩ K ⟨i, hi, rfl, rfl, l1, l2, l3, l4, kL, kH⟩ hK
  unfold F_X7_chooseSizes_8; dsimp only; unfold b_X7_chooseSizes_8
  rw [e5]
  refine ⟨fun c => ?_, fun c => ?_⟩
  · rw [nI_leI (by omega) (by omega)] at c
    have : i = (ofL f p n).length := by omega
    subst this
    exact j62 y1 y2 g1 l1 l2 l3 l4 kL kH
  · have hd := dif_lt c
    rw [nI_leI (by omega) (by omega)] at c
    have i60 : ¬ (60 : Int32) ≤ nI i := fun q => by
      rw [show (60 : Int32) = nI 60 from rfl, nI_leI (by omega) (by omega)] at q; omega
    have vi : vp_in (nI i) 60 := vp_in_nI (by omega) (by omega)
    refine ⟨fun q => absurd q i60, fun _ => ⟨fun q => absurd q i60, fun _ => and_have vi (fun _ => ?_)⟩⟩
    have es : (ofL f p n)[i]? = some ((ofL f p n)[i]'(by omega)) := List.getElem?_eq_getElem (by omega)
    generalize (ofL f p n)[i]'(by omega) = s at es
    have ms := ofL_mem.mp (List.mem_iff_getElem?.mpr ⟨i, es⟩)
    obtain ⟨a2, a3, -⟩ := A i s es
    obtain ⟨c1, c2, c3, c4⟩ := cLH v w (s := s) (by omega)
    rw [nI_clamp (by omega), a2]
    intro x1 ex1
    refine and_have vi (fun _ => ?_)
    intro x2 ex2
    rw [a3] at ex2
    rintro _ rfl
    have f1 : x1.toInt = (if y1.toInt < cLo f s then cLo f s else y1.toInt) := by rw [ex1]; exact i_mx rfl (i32_t (by omega))
    have f2 : x2.toInt = (if cHi f s < y2.toInt then cHi f s else y2.toInt) := by
      rw [ex2]
      have eh := i32_t (z := cHi f s) (by omega)
      by_cases q : i32 (cHi f s) < y2
      · rw [if_pos q, if_pos ((i_lt eh rfl).mp q)]; exact eh
      · rw [if_neg q, if_neg (fun z => q ((i_lt eh rfl).mpr z))]
    refine hK _ ⟨i + 1, by omega, (nI_1 i).symm, rfl, ?_, ?_, ?_, ?_, fun z => ?_, fun z => ?_⟩ hd
    · rw [f1]
      by_cases q : y1.toInt < cLo f s
      · rw [if_pos q]; exact c1
      · rw [if_neg q]; exact l1
    · rw [f1]
      by_cases q : y1.toInt < cLo f s
      · rw [if_pos q]; omega
      · rw [if_neg q]; exact l2
    · rw [f2]
      by_cases q : cHi f s < y2.toInt
      · rw [if_pos q]; exact c3
      · rw [if_neg q]; exact l3
    · rw [f2]
      by_cases q : cHi f s < y2.toInt
      · rw [if_pos q]; exact c4
      · rw [if_neg q]; exact l4
    · have e : x1.toInt ≤ z ↔ y1.toInt ≤ z ∧ cLo f s ≤ z := by
        rw [f1]
        by_cases q : y1.toInt < cLo f s
        · rw [if_pos q]; omega
        · rw [if_neg q]; omega
      rw [e, kL]
      refine ⟨fun q => ⟨q.1.1, fun j t hj et => ?_⟩, fun q => ⟨⟨q.1, fun j t hj et => q.2 j t (by omega) et⟩, q.2 i s (by omega) es⟩⟩
      by_cases ej : j = i
      · subst ej
        rw [es, Option.some.injEq] at et
        rw [← et]; exact q.2
      · exact q.1.2 j t (by omega) et
    · have e : z ≤ x2.toInt ↔ z ≤ y2.toInt ∧ z ≤ cHi f s := by
        rw [f2]
        by_cases q : cHi f s < y2.toInt
        · rw [if_pos q]; omega
        · rw [if_neg q]; omega
      rw [e, kH]
      refine ⟨fun q => ⟨q.1.1, fun j t hj et => ?_⟩, fun q => ⟨⟨q.1, fun j t hj et => q.2 j t (by omega) et⟩, q.2 i s (by omega) es⟩⟩
      by_cases ej : j = i
      · subst ej
        rw [es, Option.some.injEq] at et
        rw [← et]; exact q.2
      · exact q.1.2 j t (by omega) et
theorem q_X7_find {h : HI} {g : HL} {f : Nat → Int32} (c : CX h f) {m n p : Nat} (T : TT h 2 m 5 24) (S : TT h 6 n 6 60) (en : f 1 = nI n) (hp : p < m) : w_X7_find (nI p) h g (fun h' _ => JJ SSz h h' ∧ SZ h' f p n) := by
  have hm := T.2.2.2.1
  have hn := S.2.2.2.1
  have v := c.2.2.2.1
  have w := c.wb
  have k := v.fok (p := p) (by omega)
  unfold w_X7_find
  refine c_i (p_atT T) ?_
  rintro _ _ _ ⟨rfl, rfl, rfl⟩
  rw [show tat h 2 (nI p) (3 : Int32) = f (20 + 5 * p + 3) from (tat_nI T (b := 3) hp (by omega)).trans (c.cp T hp (by omega))]
  refine c_v (q_X7_chooseFamily c (by omega)) ?_
  rintro h1 g1 ⟨J1, b6, b7, b8⟩
  intro h2 e2
  have J2 : JJ SSz h h2 := J1.hu e2 (by unfold SSz; omega)
  refine lpE_intro (fun ⟨a_q, b_q, h_q, _⟩ => ∃ i : Nat, i ≤ n ∧ nI p = a_q ∧ nI i = b_q ∧ JJ SSz h h_q ∧ (h_q 81 6).toInt = fB f p ∧ (h_q 81 7).toInt = fD f p ∧ (h_q 81 8).toInt = fM f p - 1 ∧ h_q 81 5 = nI (ofL f p i).length ∧ ARR h_q f p i) (fun ⟨_, b_q, _, _⟩ => dif (nI n) b_q) ?_ _ ⟨0, by omega, rfl, nI_0, J2, by rw [e2, hu_eq, pk_un (by decide)]; exact b6, by rw [e2, hu_eq, pk_un (by decide)]; exact b7, by rw [e2, hu_eq, pk_un (by decide)]; exact b8, by rw [e2, hu_eq, pk_us]; exact nI_0.symm, fun i s e => by cases e⟩
  rintro ⟨y1, y2, h3, g3⟩ K ⟨i, hi, rfl, rfl, J3, d6, d7, d8, d5, A⟩ hK
  have c3 : CX h3 f := c.jj J3 (fun q hq => by unfold SSz; omega)
  have S3 : TT h3 6 n 6 60 := S.cg (J3 6 (by unfold SSz; omega))
  have T3 : TT h3 2 m 5 24 := T.cg (J3 2 (by unfold SSz; omega))
  have hl : (ofL f p i).length ≤ i := ofL_len
  unfold F_X7_find_23; dsimp only; unfold b_X7_find_23
  refine c_i p_rows ?_
  rintro _ _ _ ⟨rfl, rfl, rfl⟩
  rw [S3.2.2.1]
  refine ⟨fun q => ?_, fun q => ?_⟩
  · rw [nI_leI (by omega) (by omega)] at q
    have : i = n := by omega
    subst this
    refine c_v (q_X7_chooseSizes v w k hn d6 d7 d8 d5 A) ?_
    rintro h4 g4 ⟨J4, lo, fa⟩
    obtain ⟨u1, u2, u3⟩ := f3_vals en hn fa
    have n4 : ∀ q, ¬ q = 81 → h4 q = h3 q := fun q hq => J4 q hq
    refine ⟨J3.tr (J4.mo (fun q hq => by unfold S81 at hq; unfold SSz; omega)), u1, u2, u3, ?_, ?_, ?_, ?_, fun j s e => ?_⟩
    · rw [lo 6 (by omega)]; exact d6
    · rw [lo 7 (by omega)]; exact d7
    · rw [lo 8 (by omega)]; exact d8
    · rw [lo 5 (by omega)]; exact d5
    · rw [n4 82 (by decide), n4 83 (by decide), n4 84 (by decide)]; exact A j s e
  · have hd := dif_lt q
    rw [nI_leI (by omega) (by omega)] at q
    have nxt : ∀ (h4 : HI) (g4 : HL), JJ SSz h h4 → (h4 81 6).toInt = fB f p → (h4 81 7).toInt = fD f p → (h4 81 8).toInt = fM f p - 1 → h4 81 5 = nI (ofL f p (i + 1)).length → ARR h4 f p (i + 1) → j_X7_find_110 (fun h' _ => JJ SSz h h' ∧ SZ h' f p n) (fun x1 x2 h g => K (x1, x2, h, g)) (nI p) (nI i) h4 g4 := by
      intro h4 g4 J4 r6 r7 r8 r5 A4
      unfold j_X7_find_110
      rintro _ rfl
      exact hK _ ⟨i + 1, by omega, rfl, (nI_1 i).symm, J4, r6, r7, r8, r5, A4⟩ hd
    have skip : ∀ g4 : HL, ¬ isO f p i → j_X7_find_72 (fun h' _ => JJ SSz h h' ∧ SZ h' f p n) (fun x1 x2 h g => K (x1, x2, h, g)) (nI p) (nI i) h3 g4 := by
      intro g4 no
      unfold j_X7_find_72 j_X7_find_73
      exact ⟨fun _ => nxt h3 g4 J3 d6 d7 d8 (by rw [ofL_n no]; exact d5) (by unfold ARR; rw [ofL_n no]; exact A), fun q => absurd rfl q⟩
    refine c_i (p_atT S3) ?_
    rintro _ _ _ ⟨rfl, rfl, rfl⟩
    rw [show tat h3 6 (nI i) (0 : Int32) = f (152 + 6 * i + 0) from c3.at6 S3 (k := 0) (by omega) (by omega)]
    refine ⟨fun q0 => skip _ (fun o => q0 o.1), fun q0 => ?_⟩
    refine c_i (p_atT S3) ?_
    rintro _ _ _ ⟨rfl, rfl, rfl⟩
    rw [show tat h3 6 (nI i) (5 : Int32) = f (152 + 6 * i + 5) from c3.at6 S3 (k := 5) (by omega) (by omega)]
    refine ⟨fun q1 => skip _ (fun o => q1 o.2), fun q1 => ?_⟩
    have o : isO f p i := ⟨q0, q1⟩
    unfold j_X7_find_73
    refine ⟨fun z => absurd z (by decide), fun _ => ?_⟩
    rw [d5]
    refine ⟨fun z => ?_, fun _ => ?_⟩
    · rw [show (60 : Int32) = nI 60 from rfl, nI_leI (by omega) (by omega)] at z; omega
    refine c_v (q_X7_allow c3 T3 S3 hp (by omega) (by omega) o) ?_
    rintro h4 g4 ⟨J4, a81, a82, a83, a84⟩
    intro h5 e5
    rw [a81, d5, show nI (ofL f p i).length + (1 : Int32) = nI ((ofL f p i).length + 1) from nI_1 _] at e5
    have n5 : ∀ q, ¬ q = 81 → h5 q = h4 q := fun q hq => by rw [e5, hu_ne hq]
    refine nxt h5 g4 ((J3.tr J4).hu e5 (by unfold SSz; omega)) ?_ ?_ ?_ ?_ (fun j s e => ?_)
    · rw [e5, hu_eq, pk_un (by decide), a81]; exact d6
    · rw [e5, hu_eq, pk_un (by decide), a81]; exact d7
    · rw [e5, hu_eq, pk_un (by decide), a81]; exact d8
    · rw [e5, hu_eq, pk_us, ofL_y o, List.length_append, List.length_singleton]
    · rw [n5 82 (by decide), n5 83 (by decide), n5 84 (by decide), a82, a83, a84]
      rw [ofL_y o] at e
      by_cases hj : j < (ofL f p i).length
      · rw [List.getElem?_append_left hj] at e
        rw [pk_un (by omega), pk_un (by omega), pk_un (by omega)]
        exact A j s e
      · rw [List.getElem?_append_right (by omega)] at e
        by_cases hj2 : j = (ofL f p i).length
        · subst hj2
          rw [Nat.sub_self] at e
          have e : some i = some s := e
          rw [Option.some.injEq] at e
          subst e
          rw [pk_us, pk_us, pk_us]; exact ⟨rfl, rfl, rfl⟩
        · have hlt := (List.getElem?_eq_some_iff.mp e).1
          rw [List.length_singleton] at hlt; omega
