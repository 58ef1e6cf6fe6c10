/-! WAY of the reference -/
/-- what a row of works costs that begins with work w at size s and has l more -/
def bv (f q : Nat → Int32) (w s l : Nat) : Int32 :=
  if (f (672 + 4 * w + 2)).toInt ≤ (s : Int) ∧ (s : Int) ≤ (f (672 + 4 * w + 3)).toInt ∧ 1 ≤ (nI s + f (672 + 4 * w)).toInt ∧ (nI s + f (672 + 4 * w)).toInt ≤ 3000
  then f (672 + 4 * w + 1) + q (3001 * l + (nI s + f (672 + 4 * w)).toNatClampNeg) else 1000000
theorem p_X11_by {h : HI} {g : HL} {w s l : Nat} (hw : w < 8) (hs : s ≤ 3000) (hl : l ≤ 4) : w_X11_by (nI w) (nI s) (nI l) h g (fun r h' g' => h = h' ∧ g = g' ∧ bv (h 136) (h 143) w s l = r) := by
  unfold w_X11_by
  rintro _ rfl
  rw [show (672 : Int32) + ((4 : Int32) * nI w) = nI (672 + 4 * w) from ix2 672 4 w, show nI (672 + 4 * w) + (1 : Int32) = nI (672 + 4 * w + 1) from nI_add _ 1, show nI (672 + 4 * w) + (2 : Int32) = nI (672 + 4 * w + 2) from nI_add _ 2, show nI (672 + 4 * w) + (3 : Int32) = nI (672 + 4 * w + 3) from nI_add _ 3, nI_clamp (n := 672 + 4 * w) (by omega), nI_clamp (n := 672 + 4 * w + 1) (by omega), nI_clamp (n := 672 + 4 * w + 2) (by omega), nI_clamp (n := 672 + 4 * w + 3) (by omega)]
  refine and_have (vp_in_nI (by omega) (by omega)) (fun _ => ?_)
  rintro x5 e5
  refine and_have (vp_in_nI (by omega) (by omega)) (fun _ => and_have (vp_in_nI (by omega) (by omega)) (fun _ => ?_))
  refine c_in3 (fun q => ?_) (fun q => ?_)
  · unfold bd at q
    rw [Int32.toInt_toInt64, Int32.toInt_toInt64, nI_toInt (by omega)] at q
    refine ⟨fun c => absI c, fun _ => ?_⟩
    refine c_in3 (fun q2 => ?_) (fun q2 => ?_)
    · have q3 : bd 1 3000 x5 := q2.mo (by decide) (by decide)
      obtain ⟨t, t1, t2, t3, et⟩ := bd_nIp q3 (by omega)
      refine ⟨fun _ => ⟨vp_in_nI (by omega) (by omega), ?_, rfl, rfl, ?_⟩, fun c => absI c⟩
      · rw [et, show (3001 : Int32) * nI l = nI (3001 * l) from pk_mul 3001 l, nI_add]
        exact vp_in_nI (by omega) (by omega)
      · unfold bv
        unfold bd at q3
        rw [← e5, if_pos ⟨q.1, q.2, q3.1, q3.2⟩, et, show (3001 : Int32) * nI l = nI (3001 * l) from pk_mul 3001 l, nI_add, nI_clamp t3, nI_clamp (by omega)]
    · refine ⟨fun c => absurd rfl c, fun _ => ⟨rfl, rfl, ?_⟩⟩
      unfold bv
      rw [← e5, if_neg]
      exact fun hc => q2 (bd.mo (a := 1) (b := 3000) ⟨hc.2.2.1, hc.2.2.2⟩ (by decide) (by decide))
  · unfold bd at q
    rw [Int32.toInt_toInt64, Int32.toInt_toInt64, nI_toInt (by omega)] at q
    refine ⟨fun _ => ⟨rfl, rfl, ?_⟩, fun c => absN c⟩
    unfold bv
    rw [if_neg]
    exact fun hc => q ⟨hc.1, hc.2.1⟩
/-- prices of n works, all sizes below S -/
def okP (f q : Nat → Int32) (W n S : Nat) : Prop := ∀ s : Nat, 1 ≤ s → s < S → bd 0 1000000 (q (3001 * n + s)) ∧ (1 ≤ n → q (3001 * n + s) = 1000000 ∨ ∃ w, w < W ∧ bv f q w s (n - 1) = q (3001 * n + s))
theorem bv_cg {f q q' : Nat → Int32} {w s l : Nat} (e : ∀ t, 1 ≤ t → t ≤ 3000 → q' (3001 * l + t) = q (3001 * l + t)) : bv f q' w s l = bv f q w s l := by
  unfold bv
  by_cases c : (f (672 + 4 * w + 2)).toInt ≤ (s : Int) ∧ (s : Int) ≤ (f (672 + 4 * w + 3)).toInt ∧ 1 ≤ (nI s + f (672 + 4 * w)).toInt ∧ (nI s + f (672 + 4 * w)).toInt ≤ 3000
  · rw [if_pos c, if_pos c]
    obtain ⟨t, t1, t2, t3, et⟩ := bd_nIp (a := 1) (b := 3000) (x := nI s + f (672 + 4 * w)) ⟨c.2.2.1, c.2.2.2⟩ (by omega)
    rw [et, nI_clamp t3, e t (by omega) (by omega)]
  · rw [if_neg c, if_neg c]
theorem okP.cg {f q q' : Nat → Int32} {W n S : Nat} (h : okP f q W n S) (hS : S ≤ 3001) (e : ∀ i, i < 3001 * n + S → q' i = q i) : okP f q' W n S := by
  intro s s1 s2
  obtain ⟨a, b⟩ := h s s1 s2
  rw [e _ (by omega)]
  refine ⟨a, fun n1 => (b n1).elim .inl (fun ⟨w, w1, w2⟩ => .inr ⟨w, w1, ?_⟩)⟩
  rw [bv_cg (q := q) (fun t t1 t2 => e _ (by
    have : 3001 * (n - 1) + 3001 = 3001 * n := by omega
    omega))]
  exact w2
theorem p_X11_findPrices {h : HI} {g : HL} (hR : RI (h 136)) {x1 x2 : Int32} : w_X11_findPrices x1 x2 h g (fun h' _ => KJ SPr h h' ∧ ∃ W : Nat, W ≤ 8 ∧ ∀ n : Nat, n ≤ 5 → okP (h 136) (h' 143) W n 3001) := by
  obtain ⟨W, hW, hW2, eW⟩ := bd_nI hR.c3
  unfold w_X11_findPrices
  refine lpE_intro (fun ⟨a_q, b_q, c_q, h_q, _⟩ => ∃ n : Nat, n ≤ 6 ∧ x1 = a_q ∧ x2 = b_q ∧ nI n = c_q ∧ KJ SPr h h_q ∧ ∀ m : Nat, m < n → okP (h 136) (h_q 143) W m 3001) (fun ⟨_, _, c_q, _, _⟩ => dil (5 : Int32) c_q) ?_ _ ⟨0, by omega, rfl, rfl, nI_0, KJ.rf, fun m hm => by omega⟩
  rintro ⟨y1, y2, y3, h1, g1⟩ K ⟨n, hn, rfl, rfl, rfl, J1, P1⟩ hK
  unfold F_X11_findPrices_2; dsimp only; unfold b_X11_findPrices_2
  refine ⟨fun c => ?_, fun c => ?_⟩
  · rw [show (5 : Int32) = nI 5 from rfl, nI_ltI (by omega) (by omega)] at c
    exact ⟨J1, W, by omega, fun m hm => P1 m (by omega)⟩
  have hd := dil_lt c (by decide)
  rw [show (5 : Int32) = nI 5 from rfl, nI_ltI (by omega) (by omega)] at c
  refine lpE_intro (fun ⟨a_q, b_q, c_q, d_q, h_q, _⟩ => ∃ s : Nat, 1 ≤ s ∧ s ≤ 3001 ∧ x1 = a_q ∧ x2 = b_q ∧ nI n = c_q ∧ nI s = d_q ∧ KJ SPr h h_q ∧ (∀ m : Nat, m < n → okP (h 136) (h_q 143) W m 3001) ∧ okP (h 136) (h_q 143) W n s) (fun ⟨_, _, _, d_q, _, _⟩ => dil (3000 : Int32) d_q) ?_ _ ⟨1, by omega, by omega, rfl, rfl, rfl, rfl, J1, P1, fun s s1 s2 => by omega⟩
  rintro ⟨y1, y2, y3, y4, h2, g2⟩ K2 ⟨s, s1, s2, rfl, rfl, rfl, rfl, J2, P2, Q2⟩ hK2
  unfold F_X11_findPrices_10; dsimp only; unfold b_X11_findPrices_10
  refine ⟨fun cs => ?_, fun cs => ?_⟩
  · rw [show (3000 : Int32) = nI 3000 from rfl, nI_ltI (by omega) (by omega)] at cs
    have : s = 3001 := by omega
    subst this
    rintro _ rfl
    refine hK _ ⟨n + 1, by omega, rfl, rfl, (nI_1 n).symm, J2, fun m hm => ?_⟩ hd
    by_cases em : m = n
    · subst em; exact Q2
    · exact P2 m (by omega)
  have hds := dil_lt cs (by decide)
  rw [show (3000 : Int32) = nI 3000 from rfl, nI_ltI (by omega) (by omega)] at cs
  have eF : ∀ k, h2 136 k = h 136 k := fun k => J2 136 k (by unfold SPr; omega)
  have eF' : h2 136 = h 136 := funext eF
  have j96 : ∀ (x5 : Int32) (g3 : HL), bd 0 1000000 x5 → (1 ≤ n → x5 = 1000000 ∨ ∃ w, w < W ∧ bv (h 136) (h2 143) w s (n - 1) = x5) → j_X11_findPrices_96 (fun h' _ => KJ SPr h h' ∧ ∃ W : Nat, W ≤ 8 ∧ ∀ n : Nat, n ≤ 5 → okP (h 136) (h' 143) W n 3001) (fun x1 x2 x3 h g => K (x1, x2, x3, h, g)) (fun x1 x2 x3 x4 h g => K2 (x1, x2, x3, x4, h, g)) x1 x2 (nI n) (nI s) x5 h2 g3 := by
    intro x5 g3 hb hx
    unfold j_X11_findPrices_96
    rw [show (3001 : Int32) * nI n = nI (3001 * n) from pk_mul 3001 n, nI_add, nI_clamp (by omega)]
    refine and_have (vp_in_nI (by omega) (by omega)) (fun _ => ?_)
    intro h3 e3
    rintro _ rfl
    have e143 : h3 143 = upd (h2 143) (3001 * n + s) x5 := by rw [e3, hu_eq]
    have same : ∀ i, i ≠ 3001 * n + s → h3 143 i = h2 143 i := fun i hi => by rw [e143, pk_un hi]
    refine hK2 _ ⟨s + 1, by omega, by omega, rfl, rfl, rfl, (nI_1 s).symm, J2.hu e3 (by unfold SPr; rfl), fun m hm => (P2 m hm).cg (by omega) (fun i hi => same i (by omega)), ?_⟩ hds
    intro t t1 t2
    by_cases et : t = s
    · subst et
      rw [e143, pk_us]
      refine ⟨hb, fun n1 => (hx n1).elim .inl (fun ⟨w, w1, w2⟩ => .inr ⟨w, w1, ?_⟩)⟩
      rw [← e143, bv_cg (q := h2 143) (fun t' t1' t2' => same _ (by omega))]
      exact w2
    · exact (Q2.cg (by omega) (fun i hi => same i (by omega))) t t1 (by omega)
  have j41 : ∀ (x5 : Int32) (g3 : HL), (x5 = 1000000 ∨ n = 0 ∧ x5 = 0) → j_X11_findPrices_41 (fun h' _ => KJ SPr h h' ∧ ∃ W : Nat, W ≤ 8 ∧ ∀ n : Nat, n ≤ 5 → okP (h 136) (h' 143) W n 3001) (fun x1 x2 x3 h g => K (x1, x2, x3, h, g)) (fun x1 x2 x3 x4 h g => K2 (x1, x2, x3, x4, h, g)) x1 x2 (nI n) (nI s) x5 h2 g3 := by
    intro x5 g3 hx
    unfold j_X11_findPrices_41
    refine lpE_intro (fun ⟨a_q, b_q, c_q, d_q, e_q, f_q, h_q, _⟩ => ∃ w : Nat, w ≤ W ∧ x1 = a_q ∧ x2 = b_q ∧ nI n = c_q ∧ nI s = d_q ∧ nI w = f_q ∧ h2 = h_q ∧ bd 0 1000000 e_q ∧ (1 ≤ n → e_q = 1000000 ∨ ∃ v, v < W ∧ bv (h 136) (h2 143) v s (n - 1) = e_q)) (fun ⟨_, _, _, _, _, f_q, _, _⟩ => dif (nI W) f_q) ?_ _ ⟨0, Nat.zero_le _, rfl, rfl, rfl, rfl, nI_0, rfl, ?_, ?_⟩
    · rintro ⟨z1, z2, z3, z4, z5, z6, h3, g4⟩ K3 ⟨w, hw, rfl, rfl, rfl, rfl, rfl, rfl, hb, hx5⟩ hK3
      unfold F_X11_findPrices_46; dsimp only; unfold b_X11_findPrices_46
      rw [eF, eW]
      refine and_have (vp_in_iff.mpr (by decide)) (fun _ => ⟨fun _ => j96 _ _ hb hx5, fun cw => ⟨fun _ => j96 _ _ hb hx5, fun cn => ?_⟩⟩)
      have hdw := dif_lt cw
      rw [nI_leI (by omega) (by omega)] at cw
      obtain ⟨m, rfl⟩ : ∃ m, n = m + 1 := ⟨n - 1, by
        have : n ≠ 0 := fun e => cn (by rw [e]; decide)
        omega⟩
      rw [nI_pred]
      refine c_i (p_X11_by (by omega) (by omega) (by omega)) ?_
      rintro _ _ _ ⟨rfl, rfl, rfl⟩
      have j88 : ∀ v : Int32, bd 0 1000000 v → (1 ≤ m + 1 → v = 1000000 ∨ ∃ u, u < W ∧ bv (h 136) (h2 143) u s (m + 1 - 1) = v) → j_X11_findPrices_88 (fun h' _ => KJ SPr h h' ∧ ∃ W : Nat, W ≤ 8 ∧ ∀ n : Nat, n ≤ 5 → okP (h 136) (h' 143) W n 3001) (fun x1 x2 x3 h g => K (x1, x2, x3, h, g)) (fun x1 x2 x3 x4 h g => K2 (x1, x2, x3, x4, h, g)) (fun x1 x2 x3 x4 x5 x6 h g => K3 (x1, x2, x3, x4, x5, x6, h, g)) x1 x2 (nI (m + 1)) (nI s) (nI w) v h2 g4 := by
        intro v hv1 hv2
        unfold j_X11_findPrices_88
        rintro _ rfl
        exact hK3 _ ⟨w + 1, by omega, rfl, rfl, rfl, rfl, (nI_1 w).symm, rfl, hv1, hv2⟩ hdw
      refine ⟨fun _ => j88 _ hb hx5, fun cl => j88 _ ?_ (fun _ => .inr ⟨w, by omega, by rw [eF']; rfl⟩)⟩
      rw [Int32.le_iff_toInt_le] at cl
      refine ⟨?_, by unfold bd at hb; omega⟩
      unfold bv
      by_cases cc : (h2 136 (672 + 4 * w + 2)).toInt ≤ (s : Int) ∧ (s : Int) ≤ (h2 136 (672 + 4 * w + 3)).toInt ∧ 1 ≤ (nI s + h2 136 (672 + 4 * w)).toInt ∧ (nI s + h2 136 (672 + 4 * w)).toInt ≤ 3000
      · rw [if_pos cc]
        obtain ⟨t, t1, t2, t3, et⟩ := bd_nIp (a := 1) (b := 3000) (x := nI s + h2 136 (672 + 4 * w)) ⟨cc.2.2.1, cc.2.2.2⟩ (by omega)
        rw [et, nI_clamp t3]
        have b1 := (P2 m (by omega) t (by omega) (by omega)).1
        have b2 : bd 0 1000 (h2 136 (672 + 4 * w + 1)) := by rw [eF]; exact (hR.2.2.2.2.2.1 w (by omega)).2
        exact (bd_add b2 b1 (by decide) (by decide)).1
      · rw [if_neg cc]; decide
    · rcases hx with e | ⟨_, e⟩
      · rw [e]; unfold bd; decide
      · rw [e]; unfold bd; decide
    · intro n1
      rcases hx with e | ⟨e0, _⟩
      · exact .inl e
      · omega
  have j39 : ∀ g3 : HL, j_X11_findPrices_39 (fun h' _ => KJ SPr h h' ∧ ∃ W : Nat, W ≤ 8 ∧ ∀ n : Nat, n ≤ 5 → okP (h 136) (h' 143) W n 3001) (fun x1 x2 x3 h g => K (x1, x2, x3, h, g)) (fun x1 x2 x3 x4 h g => K2 (x1, x2, x3, x4, h, g)) x1 x2 (nI n) (nI s) h2 g3 := by
    intro g3
    unfold j_X11_findPrices_39
    exact j41 _ _ (.inl rfl)
  refine ⟨fun _ => j39 _, fun c0 => ?_⟩
  have n0 : n = 0 := (nI_eq (by omega) (by omega)).mp (c0.trans nI_0.symm)
  refine c_in3 (fun q => ⟨fun c => absI c, fun _ => j41 _ _ (.inr ⟨n0, rfl⟩)⟩) (fun q => ⟨fun _ => j39 _, fun c => absN c⟩)
theorem ix2' (k t : Nat) : (3001 : Int32) * nI k + nI t = nI (3001 * k + t) := by
  rw [show (3001 : Int32) = nI 3001 from rfl, pk_mul, nI_add]
theorem p_X11_way {h : HI} {g : HL} (hR : RI (h 136)) {x1 x2 x3 x4 : Int32} : w_X11_way x1 x2 x3 x4 h g (fun _ h' _ => KJ SPr h h') := by
  unfold w_X11_way
  refine c_in3 (fun q => ⟨fun c => absI c, fun _ => ?_⟩) (fun q => ⟨fun _ => KJ.rf, fun c => absN c⟩)
  obtain ⟨s, s1, s2, s3, rfl⟩ := bd_nIp (q.mo (c := 1) (d := 3000) (by decide) (by decide)) (by omega)
  refine c_in3 (fun q => ⟨fun c => absI c, fun _ => ?_⟩) (fun q => ⟨fun _ => KJ.rf, fun c => absN c⟩)
  refine c_in3 (fun q => ⟨fun c => absI c, fun _ => ?_⟩) (fun q => ⟨fun _ => KJ.rf, fun c => absN c⟩)
  refine ⟨fun c => ?_, fun _ => KJ.rf⟩
  refine c_v (p_X11_findPrices hR) ?_
  rintro h1 g1 ⟨J1, W, hW, P1⟩
  refine lpE_intro (fun ⟨a_q, b_q, c_q, d_q, h_q, _⟩ => ∃ b n : Nat, b ≤ 5 ∧ 1 ≤ n ∧ n ≤ 6 ∧ nI s = a_q ∧ x4 = b_q ∧ nI b = c_q ∧ nI n = d_q ∧ h1 = h_q) (fun ⟨_, _, _, d_q, _, _⟩ => dil (5 : Int32) d_q) ?_ _ ⟨0, 1, by omega, by omega, by omega, rfl, rfl, nI_0, rfl, rfl⟩
  rintro ⟨y1, y4, y5, y6, h2, g2⟩ K ⟨b, n, hb, n1, n2, rfl, rfl, rfl, rfl, rfl⟩ hK
  have ei : ∀ k t : Nat, (3001 : Int32) * nI k + nI t = nI (3001 * k + t) := fun k t => ix2' k t
  have vi : ∀ k t : Nat, k ≤ 5 → t ≤ 3000 → vp_in (nI (3001 * k + t)) 18006 := fun k t hk ht => vp_in_nI (by omega) (by omega)
  unfold F_X11_way_58; dsimp only; unfold b_X11_way_58
  rw [ei, ei, nI_clamp (n := 3001 * b + s) (by omega), nI_clamp (n := 3001 * n + s) (by omega)]
  refine ⟨fun c5 => ?_, fun c5 => ?_⟩
  · refine and_have (vi b s hb (by omega)) (fun _ => ?_)
    rintro _ rfl
    refine ⟨fun cf => ⟨fun c0 => ⟨fun cb => ?_, fun _ => J1⟩, fun _ => ⟨fun _ => J1, fun _ => J1⟩⟩, fun _ => J1⟩
    obtain ⟨a, ha, rfl⟩ := nI_of (Int32.not_lt.mpr c0)
    rw [nI_ltI (by omega) (by omega)] at cb
    refine lpE_intro (fun ⟨a_q, b_q, c_q, _, e_q, h_q, _⟩ => ∃ k t : Nat, k ≤ a + 1 ∧ 1 ≤ t ∧ t ≤ 3000 ∧ nI a = a_q ∧ nI b = b_q ∧ nI t = c_q ∧ nI k = e_q ∧ h1 = h_q ∧ h1 143 (3001 * (b - k) + t) < 1000000) (fun ⟨_, _, _, _, e_q, _, _⟩ => dil (nI a) e_q) ?_ _ ⟨0, s, by omega, by omega, by omega, rfl, rfl, rfl, nI_0, rfl, cf⟩
    rintro ⟨z4, z5, z7, z8, z9, h3, g3⟩ K2 ⟨k, t, hk, t1, t2, rfl, rfl, rfl, rfl, rfl, hP⟩ hK2
    unfold F_X11_way_170; dsimp only; unfold b_X11_way_170
    refine ⟨fun _ => J1, fun ck => ?_⟩
    have hdk := dil_lt ck (by rw [nI_toInt (by omega)]; omega)
    rw [nI_ltI (by omega) (by omega)] at ck
    obtain ⟨w0, w1, w2⟩ : ∃ w0, w0 < W ∧ bv (h 136) (h1 143) w0 t (b - k - 1) = h1 143 (3001 * (b - k) + t) := by
      rcases (P1 (b - k) (by omega) t t1 (by omega)).2 (by omega) with e | e
      · rw [e] at hP; exact absurd hP (by decide)
      · exact e
    have eF' : h1 136 = h 136 := funext fun k => J1 136 k (by unfold SPr; omega)
    refine lpE_intro (fun ⟨a_q, b_q, c_q, d_q, e_q, h_q, _⟩ => ∃ w : Nat, w ≤ w0 ∧ nI a = a_q ∧ nI b = b_q ∧ nI t = c_q ∧ nI w = d_q ∧ nI k = e_q ∧ h1 = h_q) (fun ⟨_, _, _, d_q, _, _, _⟩ => dif (nI W) d_q) ?_ _ ⟨0, Nat.zero_le _, rfl, rfl, rfl, nI_0, rfl, rfl⟩
    rintro ⟨u4, u5, u7, u8, u9, h4, g4⟩ K3 ⟨w, hw, rfl, rfl, rfl, rfl, rfl, rfl⟩ hK3
    unfold F_X11_way_180; dsimp only; unfold b_X11_way_180
    rw [pk_sub (a := b) (b := k) (by omega), show nI (b - k) - (1 : Int32) = nI (b - k - 1) from pk_sub (a := b - k) (b := 1) (by omega), ei, nI_clamp (n := 3001 * (b - k) + t) (by omega)]
    refine c_i (p_X11_by (by omega) (by omega) (by omega)) ?_
    rintro _ _ _ ⟨rfl, rfl, rfl⟩
    rw [eF']
    refine and_have (vi _ _ (by omega) (by omega)) (fun _ => ⟨fun ce => ?_, fun ce => ?_⟩)
    · rw [show (672 : Int32) + ((4 : Int32) * nI w) = nI (672 + 4 * w) from ix2 672 4 w, nI_clamp (n := 672 + 4 * w) (by omega)]
      refine and_have (vp_in_nI (by omega) (by omega)) (fun _ => ?_)
      rintro _ rfl
      rintro _ rfl
      rw [← ce] at hP
      unfold bv at hP
      by_cases cc : (h 136 (672 + 4 * w + 2)).toInt ≤ (t : Int) ∧ (t : Int) ≤ (h 136 (672 + 4 * w + 3)).toInt ∧ 1 ≤ (nI t + h 136 (672 + 4 * w)).toInt ∧ (nI t + h 136 (672 + 4 * w)).toInt ≤ 3000
      · rw [if_pos cc] at hP
        obtain ⟨t', t1', t2', t3', et⟩ := bd_nIp (a := 1) (b := 3000) (x := nI t + h 136 (672 + 4 * w)) ⟨cc.2.2.1, cc.2.2.2⟩ (by omega)
        rw [et, nI_clamp t3'] at hP
        refine hK2 _ ⟨k + 1, t', by omega, by omega, by omega, rfl, rfl, et.symm, (nI_1 k).symm, rfl, ?_⟩ hdk
        have b1 := (P1 (b - k - 1) (by omega) t' (by omega) (by omega)).1
        have b2 : bd 0 1000 (h 136 (672 + 4 * w + 1)) := (hR.2.2.2.2.2.1 w (by omega)).2
        have e := bd_add b2 b1 (by decide) (by decide)
        have es : (h 136 (672 + 4 * w + 1) + h1 143 (3001 * (b - k - 1) + t')).toInt = (h 136 (672 + 4 * w + 1)).toInt + (h1 143 (3001 * (b - k - 1) + t')).toInt := by
          unfold bd at b1 b2
          exact add_i (by omega) (by omega) (by omega) (by omega)
        rw [Int32.lt_iff_toInt_lt, es] at hP
        rw [show b - (k + 1) = b - k - 1 by omega, Int32.lt_iff_toInt_lt]
        unfold bd at b2
        omega
      · rw [if_neg cc] at hP; exact absurd hP (by decide)
    · have hw2 : w < w0 := by
        have : w ≠ w0 := fun e => ce (by rw [e]; exact w2)
        omega
      rintro _ rfl
      exact hK3 _ ⟨w + 1, by omega, rfl, rfl, rfl, (nI_1 w).symm, rfl, rfl⟩ (dif_lt (by rw [nI_leI (by omega) (by omega)]; omega))
  · have hd := dil_lt c5 (by decide)
    rw [show (5 : Int32) = nI 5 from rfl, nI_ltI (by omega) (by omega)] at c5
    have j100 : ∀ b' : Nat, b' ≤ 5 → j_X11_way_100 (fun _ h' _ => KJ SPr h h') (fun x1 x4 x5 x6 h g => K (x1, x4, x5, x6, h, g)) (nI s) x4 (nI n) (nI b') h1 g2 := by
      intro b' hb'
      unfold j_X11_way_100
      rintro _ rfl
      exact hK _ ⟨b', n + 1, hb', by omega, by omega, rfl, rfl, rfl, (nI_1 n).symm, rfl⟩ hd
    refine and_have (vi n s (by omega) (by omega)) (fun _ => and_have (vi b s hb (by omega)) (fun _ => ⟨fun _ => j100 b hb, fun _ => j100 n (by omega)⟩))
