/-! LIMBS of the reference -/
def vl (f : Nat → Int32) (b : Nat) : Nat → Nat
  | 0 => 0
  | n + 1 => vl f b n + (f (b + n)).toNatClampNeg * 2 ^ (30 * n)
def dgs (f : Nat → Int32) (b n : Nat) : Prop := ∀ k, k < n → ∃ j : Nat, j < 1073741824 ∧ f (b + k) = nI j
theorem vl_cg {f f' : Nat → Int32} {b : Nat} : ∀ {n : Nat}, (∀ k, k < n → f' (b + k) = f (b + k)) → vl f' b n = vl f b n
  | 0, _ => rfl
  | n + 1, e => by unfold vl; rw [e n (by omega), vl_cg (fun k hk => e k (by omega))]
theorem dgs.cg {f f' : Nat → Int32} {b n : Nat} (d : dgs f b n) (e : ∀ k, k < n → f' (b + k) = f (b + k)) : dgs f' b n := fun k hk => by
  rw [e k hk]; exact d k hk
theorem p30 (n : Nat) : 2 ^ (30 * (n + 1)) = 1073741824 * 2 ^ (30 * n) := by
  rw [show 30 * (n + 1) = 30 + 30 * n by omega, Nat.pow_add]
theorem vl_lt {f : Nat → Int32} {b : Nat} : ∀ {n : Nat}, dgs f b n → vl f b n < 2 ^ (30 * n)
  | 0, _ => by unfold vl; exact Nat.two_pow_pos _
  | n + 1, d => by
    have h1 := vl_lt (n := n) (fun k hk => d k (by omega))
    obtain ⟨j, hj, ej⟩ := d n (by omega)
    unfold vl
    rw [ej, nI_clamp (by omega), p30]
    have h2 : (j + 1) * 2 ^ (30 * n) ≤ 1073741824 * 2 ^ (30 * n) := Nat.mul_le_mul_right _ (by omega)
    rw [Nat.add_mul, Nat.one_mul] at h2
    omega
def BG (h : HI) (r W v : Nat) : Prop := h 147 r = nI W ∧ dgs (h 146) (80 * r) W ∧ vl (h 146) (80 * r) W = v ∧ ∀ V, W = V + 1 → ¬ h 146 (80 * r + V) = 0
def BF (r : Nat) (h h' : HI) : Prop := (∀ o, o ≠ 146 → o ≠ 147 → h' o = h o) ∧ (∀ q, q ≠ r → h' 147 q = h 147 q) ∧ ∀ k, k < 80 * r ∨ 80 * r + 80 ≤ k → h' 146 k = h 146 k
theorem BF.rf {r : Nat} {h : HI} : BF r h h := ⟨fun _ _ _ => rfl, fun _ _ => rfl, fun _ _ => rfl⟩
theorem BF.tr {r : Nat} {a b c : HI} (x : BF r a b) (y : BF r b c) : BF r a c := ⟨fun o n m => (y.1 o n m).trans (x.1 o n m), fun q n => (y.2.1 q n).trans (x.2.1 q n), fun k n => (y.2.2 k n).trans (x.2.2 k n)⟩
theorem BF.kj {r : Nat} {a b : HI} (x : BF r a b) : KJ SBg a b := fun o k n => by
  rw [x.1 o (fun e => n (.inl e)) (fun e => n (.inr e))]
theorem BG.fr {r q W v : Nat} {a b : HI} (g : BG a q W v) (x : BF r a b) (n : q ≠ r) (hW : W ≤ 80) : BG b q W v := by
  have e : ∀ k, k < 80 → b 146 (80 * q + k) = a 146 (80 * q + k) := fun k hk => x.2.2 _ (by
    rcases Nat.lt_or_gt_of_ne n with h | h <;> omega)
  refine ⟨(x.2.1 q n).trans g.1, g.2.1.cg (fun k hk => e k (by omega)), ?_, ?_⟩
  · rw [vl_cg (f := a 146) (fun k hk => e k (by omega))]; exact g.2.2.1
  · intro V hV
    rw [e V (by omega)]; exact g.2.2.2 V hV
theorem BG.wle {r W v m : Nat} {a : HI} (g : BG a r W v) (hv : v < 2 ^ (30 * m)) : W ≤ m := by
  by_cases c : W ≤ m
  · exact c
  · exfalso
    obtain ⟨V, rfl⟩ : ∃ V, W = V + 1 := ⟨W - 1, by omega⟩
    obtain ⟨j, hj, ej⟩ := g.2.1 V (by omega)
    have hn := g.2.2.2 V rfl
    have hv2 := g.2.2.1
    unfold vl at hv2
    rw [ej, nI_clamp (by omega)] at hv2
    rw [ej] at hn
    have j1 : 1 ≤ j := by
      have : j ≠ 0 := fun q => hn (by rw [q]; exact nI_0)
      omega
    have h2 : 1 * 2 ^ (30 * V) ≤ j * 2 ^ (30 * V) := Nat.mul_le_mul_right _ j1
    have h3 : 2 ^ (30 * m) ≤ 2 ^ (30 * V) := Nat.pow_le_pow_right (by omega) (by omega)
    omega
theorem m80 (r : Nat) : (80 : Int32) * nI r = nI (80 * r) := pk_mul 80 r
theorem p_X11_sets {h : HI} {g : HL} {r v : Nat} (hr : r < 5) (hv : v = 1 ∨ v = 2) : w_X11_sets (nI r) (nI v) h g (fun h' g' => g = g' ∧ BF r h h' ∧ BG h' r 1 v) := by
  unfold w_X11_sets
  rw [m80]
  refine and_have (vp_in_nI (by omega) (by omega)) (fun _ => ?_)
  intro h1 e1
  rw [nI_clamp (by omega)] at e1
  refine ⟨fun _ => ?_, fun c => absurd c (nI_ne0 (by omega) (by omega))⟩
  unfold j_X11_sets_24
  refine and_have (vp_in_nI (by omega) (by omega)) (fun _ => ?_)
  intro h2 e2
  rw [nI_clamp (by omega)] at e2
  have e146 : h2 146 (80 * r) = nI v := by rw [e2, hu_ne (by decide), e1, hu_eq, pk_us]
  refine ⟨rfl, ⟨fun o n m => by rw [e2, hu_ne m, e1, hu_ne n], fun q n => by rw [e2, hu_eq, pk_un n, e1, hu_ne (by decide)], fun k n => by rw [e2, hu_ne (by decide), e1, hu_eq, pk_un (by omega)]⟩, by rw [e2, hu_eq, pk_us]; rfl, ?_, ?_, ?_⟩
  · intro k hk
    have : k = 0 := by omega
    subst this
    exact ⟨v, by omega, e146⟩
  · unfold vl vl
    rw [Nat.add_zero, e146, nI_clamp (by omega)]
    simp
  · intro V hV
    have : V = 0 := by omega
    subst this
    rw [Nat.add_zero, e146]
    exact nI_ne0 (by omega) (by omega)
theorem p_times_102 {h h1 : HI} {g : HL} {r W W0 v : Nat} (hr : r < 5) (hW : W ≤ 80) (hW0 : W ≤ W0) (hF : BF r h h1) (h7 : h1 147 r = nI W) (hd : dgs (h1 146) (80 * r) W) (hv : vl (h1 146) (80 * r) W = v) : lpE (F_X11_times_102 (fun h' _ => BF r h h' ∧ ∃ V, V ≤ W0 ∧ BG h' r V v)) (nI r, h1, g) := by
  refine lpE_intro (fun q => nI r = q.1 ∧ BF r h q.2.1 ∧ ∃ V, V ≤ W ∧ q.2.1 147 r = nI V ∧ dgs (q.2.1 146) (80 * r) V ∧ vl (q.2.1 146) (80 * r) V = v) (fun q => (q.2.1 147 r).toNatClampNeg) ?_ _ ⟨rfl, hF, W, Nat.le_refl _, h7, hd, hv⟩
  clear hF h7 hd hv
  rintro ⟨y1, h2, g2⟩ K ⟨rfl, hF, V, hV, h7, hd, hv⟩ hK
  dsimp only at hF h7 hd hv
  unfold F_X11_times_102; dsimp only; unfold b_X11_times_102
  have v5 : vp_in (nI r) 5 := vp_in_nI (by omega) (by omega)
  rw [nI_clamp (n := r) (by omega), h7]
  refine and_have v5 (fun _ => ⟨fun c => ?_, fun c => ?_⟩)
  · have : V = 0 := by
      rw [show (0 : Int32) = nI 0 from rfl, nI_leI (by omega) (by omega)] at c; omega
    subst this
    exact ⟨hF, 0, by omega, h7, hd, hv, fun U hU => by omega⟩
  · obtain ⟨U, rfl⟩ : ∃ U, V = U + 1 := ⟨V - 1, by
      have : V ≠ 0 := fun e => c (by rw [e]; decide)
      omega⟩
    have ei : (80 : Int32) * nI r + nI (U + 1) - 1 = nI (80 * r + U) := by
      rw [m80, nI_add, ← Nat.add_assoc, nI_pred]
    rw [ei, nI_clamp (by omega)]
    refine and_have v5 (fun _ => and_have (vp_in_nI (by omega) (by omega)) (fun _ => ⟨fun cz => ?_, fun cz => ?_⟩))
    · exact ⟨hF, U + 1, Nat.le_trans hV hW0, h7, hd, hv, fun U' hU' => by
        have : U' = U := by omega
        subst this; exact cz⟩
    · refine and_have v5 (fun _ => and_have v5 (fun _ => ?_))
      intro h3 e3
      rw [nI_pred] at e3
      have e146 : h3 146 = h2 146 := by rw [e3, hu_ne (by decide)]
      refine hK _ ⟨rfl, hF.tr ⟨fun o n m => by dsimp only; rw [e3, hu_ne m], fun q n => by dsimp only; rw [e3, hu_eq, pk_un n], fun k n => by dsimp only; rw [e146]⟩, U, by omega, by dsimp only; rw [e3, hu_eq, pk_us], ?_, ?_⟩ ?_
      · dsimp only; rw [e146]; exact fun k hk => hd k (by omega)
      · dsimp only
        rw [e146]
        unfold vl at hv
        rw [cz, cl0, Nat.zero_mul, Nat.add_zero] at hv
        exact hv
      · dsimp only
        rw [h7, e3, hu_eq, pk_us, nI_clamp (by omega), nI_clamp (by omega)]
        omega
theorem p_X11_times {h : HI} {g : HL} {r B W v : Nat} (hr : r < 5) (hB : B ≤ 1000) (hg : BG h r W v) (hW : W ≤ 79) : w_X11_times (nI r) (nI B) h g (fun h' _ => BF r h h' ∧ ∃ W', W' ≤ W + 1 ∧ BG h' r W' (v * B)) := by
  obtain ⟨h7, hd, hv, hn⟩ := hg
  have v5 : vp_in (nI r) 5 := vp_in_nI (by omega) (by omega)
  unfold w_X11_times
  refine lpE_intro (fun q => ∃ k c : Nat, k ≤ W ∧ c ≤ B ∧ nI r = q.1 ∧ nI B = q.2.1 ∧ lN c = q.2.2.1 ∧ nI k = q.2.2.2.1 ∧ BF r h q.2.2.2.2.1 ∧ q.2.2.2.2.1 147 = h 147 ∧ dgs (q.2.2.2.2.1 146) (80 * r) k ∧ (∀ j, k ≤ j → q.2.2.2.2.1 146 (80 * r + j) = h 146 (80 * r + j)) ∧ vl (q.2.2.2.2.1 146) (80 * r) k + c * 2 ^ (30 * k) = vl (h 146) (80 * r) k * B) (fun q => dif (nI W) q.2.2.2.1) ?_ _ ⟨0, 0, by omega, by omega, rfl, rfl, rfl, nI_0, BF.rf, rfl, fun k hk => absurd hk (Nat.not_lt_zero k), fun _ _ => rfl, by unfold vl; omega⟩
  rintro ⟨y1, y2, y3, y5, h2, g2⟩ K ⟨k, c, hk, hc, rfl, rfl, rfl, rfl, hF, e147, hd2, hsame, hval⟩ hK
  dsimp only at hF e147 hd2 hsame hval
  unfold F_X11_times_5; dsimp only; unfold b_X11_times_5
  rw [nI_clamp (n := r) (by omega), e147, h7, m80]
  refine and_have v5 (fun _ => ⟨fun cw => ?_, fun cw => ?_⟩)
  · have ek : k = W := by
      rw [nI_leI (by omega) (by omega)] at cw; omega
    subst ek
    refine ⟨fun cc => ?_, fun cc => ?_⟩
    · rw [lg_cmp_le, show (0 : Int64) = lN 0 from rfl, pk_lLE (by omega) (by omega)] at cc
      have c0 : c = 0 := by omega
      subst c0
      exact p_times_102 (g := g2) hr (by omega) (by omega) hF (by rw [e147]; exact h7) hd2 (v := v * B) (by rw [hv] at hval; omega)
    · rw [lg_cmp_le, show (0 : Int64) = lN 0 from rfl, pk_lLE (by omega) (by omega)] at cc
      rw [nI_add, lN_i, nI_clamp (by omega)]
      refine and_have v5 (fun _ => and_have (vp_in_nI (by omega) (by omega)) (fun _ => ?_))
      intro h3 e3
      have e3w : h3 147 r = nI k := by rw [e3, hu_ne (by decide), e147]; exact h7
      rw [e3w, nI_1]
      refine and_have v5 (fun _ => and_have v5 (fun _ => ?_))
      intro h4 e4
      have e146 : h4 146 = upd (h2 146) (80 * r + k) (nI c) := by rw [e4, hu_ne (by decide), e3, hu_eq]
      have hF4 : BF r h h4 := hF.tr ⟨fun o n m => by rw [e4, hu_ne m, e3, hu_ne n], fun q n => by rw [e4, hu_eq, pk_un n, e3, hu_ne (by decide)], fun j n => by rw [e146, pk_un (by omega)]⟩
      exact p_times_102 (g := g2) (W := k + 1) (v := v * B) hr (by omega) (by omega) hF4 (by rw [e4, hu_eq, pk_us]) (by
        intro j hj
        rw [e146]
        by_cases ej : j = k
        · subst ej; rw [pk_us]; exact ⟨c, by omega, rfl⟩
        · rw [pk_un (by omega)]; exact hd2 j (by omega)) (by
        unfold vl
        rw [e146, pk_us, nI_clamp (by omega), vl_cg (f := h2 146) (fun j hj => pk_un (by omega)), hval, hv])
  · have hkW : k < W := by
      rw [nI_leI (by omega) (by omega)] at cw; omega
    obtain ⟨j, hj, ej⟩ := hd k hkW
    have hjB : j * B ≤ 1073741823 * 1000 := Nat.mul_le_mul (by omega) hB
    rw [nI_add, nI_clamp (by omega)]
    refine and_have (vp_in_nI (by omega) (by omega)) (fun _ => ?_)
    rw [hsame k (Nat.le_refl _), ej, nI_l (by omega), nI_l (by omega), lN_mul, lN_add]
    rintro _ rfl
    rw [show (1073741824 : Int64) = lN 1073741824 from rfl, pk_lRem (by omega) (by omega) (by omega), pk_lDiv (by omega) (by omega) (by omega), lN_i]
    refine and_have (vp_in_nI (by omega) (by omega)) (fun _ => ?_)
    intro h3 e3
    rintro _ rfl
    rintro _ rfl
    have hm := Nat.mod_lt (j * B + c) (y := 1073741824) (by omega)
    have hdm := Nat.div_add_mod (j * B + c) 1073741824
    have e146 : h3 146 = upd (h2 146) (80 * r + k) (nI ((j * B + c) % 1073741824)) := by rw [e3, hu_eq]
    have hjc : j * B + c ≤ 1073741823 * B + B := by
      have : j * B ≤ 1073741823 * B := Nat.mul_le_mul_right _ (by omega)
      omega
    have hcB : (j * B + c) / 1073741824 ≤ B := Nat.div_le_of_le_mul (by omega)
    refine hK _ ⟨k + 1, (j * B + c) / 1073741824, by omega, hcB, rfl, rfl, rfl, (nI_1 k).symm, hF.tr ⟨fun o n m => by dsimp only; rw [e3, hu_ne n], fun q n => by dsimp only; rw [e3, hu_ne (by decide)], fun i n => by dsimp only; rw [e146, pk_un (by omega)]⟩, by dsimp only; rw [e3, hu_ne (by decide)]; exact e147, ?_, ?_, ?_⟩ (dif_lt cw)
    · intro i hi
      dsimp only
      rw [e146]
      by_cases ei : i = k
      · subst ei; rw [pk_us]; exact ⟨_, hm, rfl⟩
      · rw [pk_un (by omega)]; exact hd2 i (by omega)
    · intro i hi
      dsimp only
      rw [e146, pk_un (by omega)]; exact hsame i (by omega)
    · dsimp only
      unfold vl
      rw [e146, pk_us, nI_clamp (by omega), vl_cg (f := h2 146) (fun i hi => pk_un (by omega)), ej, nI_clamp (by omega), p30, Nat.add_mul, ← hval]
      have e5 : (j * B + c) / 1073741824 * (1073741824 * 2 ^ (30 * k)) = (1073741824 * ((j * B + c) / 1073741824)) * 2 ^ (30 * k) := by
        rw [← Nat.mul_assoc, Nat.mul_comm ((j * B + c) / 1073741824) 1073741824]
      have e6 : j * 2 ^ (30 * k) * B = j * B * 2 ^ (30 * k) := by
        rw [Nat.mul_assoc, Nat.mul_comm (2 ^ (30 * k)) B, ← Nat.mul_assoc]
      have e7 : (j * B + c) * 2 ^ (30 * k) = (1073741824 * ((j * B + c) / 1073741824)) * 2 ^ (30 * k) + (j * B + c) % 1073741824 * 2 ^ (30 * k) := by
        rw [← Nat.add_mul, hdm]
      rw [Nat.add_mul] at e7
      rw [e5, e6]
      omega
theorem vl_le {f : Nat → Int32} {b n : Nat} (d : dgs f b (n + 1)) (hz : ¬ f (b + n) = 0) : 2 ^ (30 * n) ≤ vl f b (n + 1) := by
  obtain ⟨j, hj, ej⟩ := d n (by omega)
  unfold vl
  rw [ej, nI_clamp (by omega)]
  rw [ej] at hz
  have j1 : 1 ≤ j := by
    have : j ≠ 0 := fun q => hz (by rw [q]; exact nI_0)
    omega
  have h2 : 1 * 2 ^ (30 * n) ≤ j * 2 ^ (30 * n) := Nat.mul_le_mul_right _ j1
  omega
theorem BG.lt {a : HI} {r W v s U u : Nat} (x : BG a r W v) (y : BG a s U u) (h : W < U) : v < u := by
  obtain ⟨V, rfl⟩ : ∃ V, U = V + 1 := ⟨U - 1, by omega⟩
  have h1 := vl_lt x.2.1
  have h2 := vl_le y.2.1 (y.2.2.2 V rfl)
  rw [x.2.2.1] at h1
  rw [y.2.2.1] at h2
  have h3 : 2 ^ (30 * W) ≤ 2 ^ (30 * V) := Nat.pow_le_pow_right (by omega) (by omega)
  omega
/-- which is the greater -/
def cmpN (v u : Nat) : Int32 := if v < u then -1 else if v = u then 0 else 1
theorem cmpN_lt {v u : Nat} (h : v < u) : cmpN v u = -1 := if_pos h
theorem cmpN_gt {v u : Nat} (h : u < v) : cmpN v u = 1 := by unfold cmpN; rw [if_neg (by omega), if_neg (by omega)]
theorem cmpN_eq {v u : Nat} (h : v = u) : cmpN v u = 0 := by unfold cmpN; rw [if_neg (by omega), if_pos h]
theorem p_X11_against {h : HI} {g : HL} {r s W U v u : Nat} (hr : r < 5) (hs : s < 5) (x : BG h r W v) (y : BG h s U u) (hW : W ≤ 80) (hU : U ≤ 80) : w_X11_against (nI r) (nI s) h g (fun a h' g' => h = h' ∧ g = g' ∧ cmpN v u = a) := by
  have v5 : vp_in (nI r) 5 := vp_in_nI (by omega) (by omega)
  have v6 : vp_in (nI s) 5 := vp_in_nI (by omega) (by omega)
  unfold w_X11_against
  rw [nI_clamp (n := r) (by omega), nI_clamp (n := s) (by omega), x.1, y.1]
  refine ⟨v5, v6, fun c => ?_, fun c => ?_⟩
  · have e : W = U := (nI_eq (by omega) (by omega)).mp c
    subst e
    refine and_have v5 (fun _ => ?_)
    rintro _ rfl
    have fin : ∀ k : Nat, k < W → vl (h 146) (80 * r) (k + 1) + u = vl (h 146) (80 * s) (k + 1) + v → ∀ i j : Nat, h 146 (80 * r + k) = nI i → h 146 (80 * s + k) = nI j → i < 1073741824 → j < 1073741824 → i < j → v < u := by
      intro k hk hv i j ei ej hi hj hij
      have l1 := vl_lt (n := k) (f := h 146) (b := 80 * r) (fun q hq => x.2.1 q (by omega))
      unfold vl at hv
      rw [ei, ej, nI_clamp (by omega), nI_clamp (by omega)] at hv
      have h2 : (i + 1) * 2 ^ (30 * k) ≤ j * 2 ^ (30 * k) := Nat.mul_le_mul_right _ (by omega)
      rw [Nat.add_mul, Nat.one_mul] at h2
      omega
    have fin2 : ∀ k : Nat, k < W → vl (h 146) (80 * r) (k + 1) + u = vl (h 146) (80 * s) (k + 1) + v → ∀ i j : Nat, h 146 (80 * r + k) = nI i → h 146 (80 * s + k) = nI j → i < 1073741824 → j < 1073741824 → j < i → u < v := by
      intro k hk hv i j ei ej hi hj hij
      have l1 := vl_lt (n := k) (f := h 146) (b := 80 * s) (fun q hq => y.2.1 q (by omega))
      unfold vl at hv
      rw [ei, ej, nI_clamp (by omega), nI_clamp (by omega)] at hv
      have h2 : (j + 1) * 2 ^ (30 * k) ≤ i * 2 ^ (30 * k) := Nat.mul_le_mul_right _ (by omega)
      rw [Nat.add_mul, Nat.one_mul] at h2
      omega
    refine lpE_intro (fun q => ∃ k : Nat, k ≤ W ∧ nI r = q.1 ∧ nI s = q.2.1 ∧ nI k - 1 = q.2.2.1 ∧ h = q.2.2.2.1 ∧ g = q.2.2.2.2 ∧ vl (h 146) (80 * r) k + u = vl (h 146) (80 * s) k + v) (fun q => prd q.2.2.1) ?_ _ ⟨W, Nat.le_refl _, rfl, rfl, rfl, rfl, rfl, by rw [x.2.2.1, y.2.2.1]; omega⟩
    rintro ⟨y1, y2, y3, h1, g1⟩ K ⟨k, hk, rfl, rfl, rfl, rfl, rfl, hv⟩ hK
    unfold F_X11_against_45; dsimp only; unfold b_X11_against_45
    refine ⟨fun c0 => ?_, fun c0 => ?_⟩
    · have k0 : k = 0 := by
        by_cases q : k = 0
        · exact q
        · exfalso
          obtain ⟨j, rfl⟩ : ∃ j, k = j + 1 := ⟨k - 1, by omega⟩
          rw [nI_pred] at c0
          exact nI_pos (by omega) c0
      subst k0
      unfold vl at hv
      exact ⟨rfl, rfl, cmpN_eq (by omega)⟩
    · obtain ⟨j, rfl⟩ : ∃ j, k = j + 1 := ⟨k - 1, by
        have : k ≠ 0 := fun q => c0 (by rw [q]; decide)
        omega⟩
      have hd := prd_lt c0
      rw [nI_pred] at hd
      rw [nI_pred, m80, m80, nI_add, nI_add, nI_clamp (by omega), nI_clamp (by omega)]
      have i1 : vp_in (nI (80 * r + j)) 400 := vp_in_nI (by omega) (by omega)
      have i2 : vp_in (nI (80 * s + j)) 400 := vp_in_nI (by omega) (by omega)
      obtain ⟨a, ha, ea⟩ := x.2.1 j (by omega)
      obtain ⟨b, hb, eb⟩ := y.2.1 j (by omega)
      refine ⟨i1, i2, fun ce => ?_, fun ce => ⟨i1, i2, fun cl => ?_, fun cl => ?_⟩⟩
      · rintro _ rfl
        refine hK _ ⟨j, by omega, rfl, rfl, by dsimp only; cases j with
          | zero => decide
          | succ i => rw [nI_pred, pk_m1], rfl, rfl, ?_⟩ (by dsimp only; rw [nI_pred]; exact hd)
        unfold vl at hv
        rw [ce] at hv
        omega
      · rw [ea, eb] at ce cl
        rw [nI_leI (by omega) (by omega)] at cl
        exact ⟨rfl, rfl, cmpN_gt (fin2 j (by omega) hv a b ea eb ha hb (by
          have : a ≠ b := fun q => ce (by rw [q])
          omega))⟩
      · rw [ea, eb, nI_leI (by omega) (by omega)] at cl
        exact ⟨rfl, rfl, cmpN_lt (fin j (by omega) hv a b ea eb ha hb (by omega))⟩
  · refine ⟨v5, v6, fun cl => ?_, fun cl => ?_⟩
    · rw [nI_leI (by omega) (by omega)] at cl
      exact ⟨rfl, rfl, cmpN_gt (y.lt x (by
        have : W ≠ U := fun q => c (by rw [q])
        omega))⟩
    · rw [nI_leI (by omega) (by omega)] at cl
      exact ⟨rfl, rfl, cmpN_lt (x.lt y (by omega))⟩
theorem p_X11_divisor {h : HI} {g : HL} {a b : Nat} (ha : a < 2 ^ 31) (hb : b < 2 ^ 31) : w_X11_divisor (nI a) (nI b) h g (fun r h' g' => h = h' ∧ g = g' ∧ nI (Nat.gcd a b) = r) := by
  unfold w_X11_divisor
  refine lpE_intro (fun q => ∃ x y : Nat, x < 2 ^ 31 ∧ y < 2 ^ 31 ∧ nI x = q.1 ∧ nI y = q.2.1 ∧ h = q.2.2.1 ∧ g = q.2.2.2 ∧ Nat.gcd x y = Nat.gcd a b) (fun q => q.2.1.toNatClampNeg) ?_ _ ⟨a, b, ha, hb, rfl, rfl, rfl, rfl, rfl⟩
  rintro ⟨y1, y2, h1, g1⟩ K ⟨x, y, hx, hy, rfl, rfl, rfl, rfl, e⟩ hK
  unfold F_X11_divisor_4; dsimp only; unfold b_X11_divisor_4
  refine ⟨fun c => ?_, fun c => ?_⟩
  · have y0 : y = 0 := (nI_eq (by omega) (by omega)).mp (c.trans nI_0.symm)
    subst y0
    rw [Nat.gcd_zero_right] at e
    exact ⟨rfl, rfl, by rw [e]⟩
  · have y1 : 0 < y := by
      have : y ≠ 0 := fun q => c (by rw [q]; exact nI_0)
      omega
    refine and_have c (fun _ => ?_)
    rintro _ rfl
    rw [pk_rem hx y1 hy]
    have hm := Nat.mod_lt x y1
    refine hK _ ⟨y, x % y, hy, by omega, rfl, rfl, rfl, rfl, ?_⟩ ?_
    · rw [← e, Nat.gcd_comm x y, Nat.gcd_rec y x, Nat.gcd_comm]
    · dsimp only
      rw [nI_clamp (by omega), nI_clamp (by omega)]
      exact hm
