/-! WAY of the reference -/
/-- what a row of works costs that begins with work w at size s and has l more -/
def bv (f q : Nat → Int32) (w s l : Nat) : Int32 :=
  if (f (672 + 4 * w + 2)).toInt ≤ (s : Int) ∧ (s : Int) ≤ (f (672 + 4 * w + 3)).toInt ∧ 1 ≤ (nI s + f (672 + 4 * w)).toInt ∧ (nI s + f (672 + 4 * w)).toInt ≤ 3000
  then f (672 + 4 * w + 1) + q (3001 * l + (nI s + f (672 + 4 * w)).toNatClampNeg) else 1000000
theorem p_X11_by {h : HI} {g : HL} {w s l : Nat} (hw : w < 8) (hs : s ≤ 3000) (hl : l ≤ 4) : w_X11_by (nI w) (nI s) (nI l) h g (fun r h' g' => h = h' ∧ g = g' ∧ bv (h 136) (h 143) w s l = r) := by
  unfold w_X11_by
  rintro _ rfl
  rw [show (672 : Int32) + ((4 : Int32) * nI w) = nI (672 + 4 * w) from ix2 672 4 w, show nI (672 + 4 * w) + (1 : Int32) = nI (672 + 4 * w + 1) from nI_add _ 1, show nI (672 + 4 * w) + (2 : Int32) = nI (672 + 4 * w + 2) from nI_add _ 2, show nI (672 + 4 * w) + (3 : Int32) = nI (672 + 4 * w + 3) from nI_add _ 3, nI_clamp (n := 672 + 4 * w) (by omega), nI_clamp (n := 672 + 4 * w + 1) (by omega), nI_clamp (n := 672 + 4 * w + 2) (by omega), nI_clamp (n := 672 + 4 * w + 3) (by omega)]
  refine and_have (vp_in_nI (by omega) (by omega)) (fun _ => ?_)
  rintro x5 e5
  refine and_have (vp_in_nI (by omega) (by omega)) (fun _ => and_have (vp_in_nI (by omega) (by omega)) (fun _ => ?_))
  refine c_in3 (fun q => ?_) (fun q => ?_)
  · unfold bd at q
    rw [Int32.toInt_toInt64, Int32.toInt_toInt64, nI_toInt (by omega)] at q
    refine ⟨fun c => absI c, fun _ => ?_⟩
    refine c_in3 (fun q2 => ?_) (fun q2 => ?_)
    · have q3 : bd 1 3000 x5 := q2.mo (by decide) (by decide)
      obtain ⟨t, t1, t2, t3, et⟩ := bd_nIp q3 (by omega)
      refine ⟨fun _ => ⟨vp_in_nI (by omega) (by omega), ?_, rfl, rfl, ?_⟩, fun c => absI c⟩
      · rw [et, show (3001 : Int32) * nI l = nI (3001 * l) from pk_mul 3001 l, nI_add]
        exact vp_in_nI (by omega) (by omega)
      · unfold bv
        unfold bd at q3
        rw [← e5, if_pos ⟨q.1, q.2, q3.1, q3.2⟩, et, show (3001 : Int32) * nI l = nI (3001 * l) from pk_mul 3001 l, nI_add, nI_clamp t3, nI_clamp (by omega)]
    · refine ⟨fun c => absurd rfl c, fun _ => ⟨rfl, rfl, ?_⟩⟩
      unfold bv
      rw [← e5, if_neg]
      exact fun hc => q2 (bd.mo (a := 1) (b := 3000) ⟨hc.2.2.1, hc.2.2.2⟩ (by decide) (by decide))
  · unfold bd at q
    rw [Int32.toInt_toInt64, Int32.toInt_toInt64, nI_toInt (by omega)] at q
    refine ⟨fun _ => ⟨rfl, rfl, ?_⟩, fun c => absN c⟩
    unfold bv
    rw [if_neg]
    exact fun hc => q ⟨hc.1, hc.2.1⟩
/-- prices of n works, all sizes below S -/
def okP (f q : Nat → Int32) (W n S : Nat) : Prop := ∀ s : Nat, 1 ≤ s → s < S → bd 0 1000000 (q (3001 * n + s)) ∧ (1 ≤ n → q (3001 * n + s) = 1000000 ∨ ∃ w, w < W ∧ bv f q w s (n - 1) = q (3001 * n + s))
theorem bv_cg {f q q' : Nat → Int32} {w s l : Nat} (e : ∀ t, 1 ≤ t → t ≤ 3000 → q' (3001 * l + t) = q (3001 * l + t)) : bv f q' w s l = bv f q w s l := by
  unfold bv
  by_cases c : (f (672 + 4 * w + 2)).toInt ≤ (s : Int) ∧ (s : Int) ≤ (f (672 + 4 * w + 3)).toInt ∧ 1 ≤ (nI s + f (672 + 4 * w)).toInt ∧ (nI s + f (672 + 4 * w)).toInt ≤ 3000
  · rw [if_pos c, if_pos c]
    obtain ⟨t, t1, t2, t3, et⟩ := bd_nIp (a := 1) (b := 3000) (x := nI s + f (672 + 4 * w)) ⟨c.2.2.1, c.2.2.2⟩ (by omega)
    rw [et, nI_clamp t3, e t (by omega) (by omega)]
  · rw [if_neg c, if_neg c]
theorem okP.cg {f q q' : Nat → Int32} {W n S : Nat} (h : okP f q W n S) (hS : S ≤ 3001) (e : ∀ i, i < 3001 * n + S → q' i = q i) : okP f q' W n S := by
  intro s s1 s2
  obtain ⟨a, b⟩ := h s s1 s2
  rw [e _ (by omega)]
  refine ⟨a, fun n1 => (b n1).elim .inl (fun ⟨w, w1, w2⟩ => .inr ⟨w, w1, ?_⟩)⟩
  rw [bv_cg (q := q) (fun t t1 t2 => e _ (by
    have : 3001 * (n - 1) + 3001 = 3001 * n := by omega
    omega))]
  exact w2
theorem ix2' (k t : Nat) : (3001 : Int32) * nI k + nI t = nI (3001 * k + t) := by
  rw [show (3001 : Int32) = nI 3001 from rfl, pk_mul, nI_add]
