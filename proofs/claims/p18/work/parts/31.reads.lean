/-! THE LAW OF WEAR, as the reference reads and runs it -/
def hld (x : Int32) : Int32 := if x = 2 then 6 else if x = 3 then 6 else if x = 4 then 5 else if x = 5 then 5 else if x = 6 then 4 else if x = 7 then 4 else if x = 8 then 3 else if x = 9 then 3 else if x = 10 then 3 else if x = 11 then 2 else if x = 12 then 1 else 0
theorem p_X11_holds {h : HI} {g : HL} {x : Int32} : w_X11_holds x h g (fun r h' g' => hld x = r ∧ h = h' ∧ g = g') := by
  unfold w_X11_holds
  refine ⟨fun c => ?_, fun c => ?_, fun c => ?_, fun c => ?_, fun c => ?_, fun c => ?_, fun c => ?_, fun c => ?_, fun c => ?_, fun c => ?_, fun c => ?_, fun c1 c2 c3 c4 c5 c6 c7 c8 c9 c10 c11 => ?_⟩
  iterate 11 (· subst c; exact ⟨by decide, rfl, rfl⟩)
  unfold hld
  rw [if_neg c1, if_neg c2, if_neg c3, if_neg c4, if_neg c5, if_neg c6, if_neg c7, if_neg c8, if_neg c9, if_neg c10, if_neg c11]
  exact ⟨rfl, rfl, rfl⟩
def sof (x : Int32) : Int32 := if x = 38 then 11 else if x = 42 then 4 else if x = 43 then 6 else if x = 45 then 7 else if x = 47 then 5 else if x = 60 then 8 else if x = 61 then 10 else if x = 62 then 9 else if x = 124 then 12 else -1
theorem p_X11_signOf {h : HI} {g : HL} {x : Int32} : w_X11_signOf x h g (fun r h' g' => sof x = r ∧ h = h' ∧ g = g') := by
  unfold w_X11_signOf
  refine ⟨fun c => ?_, fun c => ?_, fun c => ?_, fun c => ?_, fun c => ?_, fun c => ?_, fun c => ?_, fun c => ?_, fun c => ?_, fun c1 c2 c3 c4 c5 c6 c7 c8 c9 => ?_⟩
  iterate 9 (· subst c; exact ⟨by decide, rfl, rfl⟩)
  unfold sof
  rw [if_neg c1, if_neg c2, if_neg c3, if_neg c4, if_neg c5, if_neg c6, if_neg c7, if_neg c8, if_neg c9]
  exact ⟨rfl, rfl, rfl⟩
def nof (x : Int32) : Int32 := if x = 104 then 2 else if x = 108 then 1 else if x = 121 then 0 else -1
theorem p_X11_nameOf {h : HI} {g : HL} {x : Int32} : w_X11_nameOf x h g (fun r h' g' => nof x = r ∧ h = h' ∧ g = g') := by
  unfold w_X11_nameOf
  refine ⟨fun c => ?_, fun c => ?_, fun c => ?_, fun c1 c2 c3 => ?_⟩
  iterate 3 (· subst c; exact ⟨by decide, rfl, rfl⟩)
  unfold nof
  rw [if_neg c1, if_neg c2, if_neg c3]
  exact ⟨rfl, rfl, rfl⟩
def bsL : List Int32 := [4, 5, 6, 7, 8, 9, 10, 11, 12]
def sgL : List Int32 := [2, 3, 4, 5, 6, 7, 8, 9, 10, 11, 12, 13]
theorem sof_b (x : Int32) (c : ¬ sof x = -1) : sof x ∈ bsL := by
  unfold sof at c ⊢
  by_cases c1 : x = 38
  · subst c1; decide
  by_cases c2 : x = 42
  · subst c2; decide
  by_cases c3 : x = 43
  · subst c3; decide
  by_cases c4 : x = 45
  · subst c4; decide
  by_cases c5 : x = 47
  · subst c5; decide
  by_cases c6 : x = 60
  · subst c6; decide
  by_cases c7 : x = 61
  · subst c7; decide
  by_cases c8 : x = 62
  · subst c8; decide
  by_cases c9 : x = 124
  · subst c9; decide
  rw [if_neg c1, if_neg c2, if_neg c3, if_neg c4, if_neg c5, if_neg c6, if_neg c7, if_neg c8, if_neg c9] at c
  exact absurd rfl c
theorem bs_sg {x : Int32} (h : x ∈ bsL) : x ∈ sgL := (by decide : ∀ x ∈ bsL, x ∈ sgL) x h
theorem bs_b {x : Int32} (h : x ∈ bsL) : ¬ (x = 2 ∨ x = 3 ∨ x = 13) := (by decide : ∀ x ∈ bsL, ¬ (x = 2 ∨ x = 3 ∨ x = 13)) x h
theorem bs_13 {x : Int32} (h : x ∈ bsL) : ¬ x = 13 := fun e => bs_b h (.inr (.inr e))
theorem bs_t {x : Int32} (h : x ∈ bsL) : (0 : Int32) < hld x := (by decide : ∀ x ∈ bsL, (0 : Int32) < hld x) x h
theorem sg_1 {x : Int32} (h : x ∈ sgL) (c : hld x < 1) : x = 13 := (by decide : ∀ x ∈ sgL, hld x < 1 → x = 13) x h c
theorem sg_01 {x : Int32} (h : x ∈ sgL) : ¬ (x = 0 ∨ x = 1) := (by decide : ∀ x ∈ sgL, ¬ (x = 0 ∨ x = 1)) x h
/-- the first n steps w leave d numbers on the pile, and never lack one -/
def gd (w : Nat → Int32) : Nat → Nat → Prop
  | 0, d => d = 0
  | n + 1, d => 1 ≤ d ∧ gd w n (if w n = 0 ∨ w n = 1 then d - 1 else if w n = 2 ∨ w n = 3 then d else d + 1)
theorem gd.cg {w w' : Nat → Int32} : ∀ {n d : Nat}, (∀ k, k < n → w' k = w k) → gd w n d → gd w' n d
  | 0, _, _, h => h
  | n + 1, d, e, h => by
    refine ⟨h.1, ?_⟩
    rw [e n (by omega)]
    exact gd.cg (fun k hk => e k (by omega)) h.2
theorem gd.un {w : Nat → Int32} : ∀ {n d d' : Nat}, gd w n d → gd w n d' → d = d'
  | 0, d, d', h, h' => h.trans h'.symm
  | n + 1, d, d', h, h' => by
    have e := gd.un h.2 h'.2
    have h1 := h.1
    have h2 := h'.1
    by_cases c1 : w n = 0 ∨ w n = 1
    · rw [if_pos c1, if_pos c1] at e; omega
    · rw [if_neg c1, if_neg c1] at e
      by_cases c2 : w n = 2 ∨ w n = 3
      · rw [if_pos c2, if_pos c2] at e; exact e
      · rw [if_neg c2, if_neg c2] at e; omega
theorem gd.le {w : Nat → Int32} : ∀ {n d : Nat}, gd w n d → d ≤ n
  | 0, d, h => Nat.le_of_eq h
  | n + 1, d, h => by
    have e := gd.le h.2
    by_cases c1 : w n = 0 ∨ w n = 1
    · rw [if_pos c1] at e; omega
    · rw [if_neg c1] at e
      by_cases c2 : w n = 2 ∨ w n = 3
      · rw [if_pos c2] at e; omega
      · rw [if_neg c2] at e; omega
theorem gd.pre {w : Nat → Int32} : ∀ {n d i : Nat}, gd w n d → i ≤ n → ∃ d', gd w i d'
  | 0, d, i, h, hi => ⟨d, by have : i = 0 := by omega
                             subst this; exact h⟩
  | n + 1, d, i, h, hi => by
    by_cases e : i = n + 1
    · subst e; exact ⟨d, h⟩
    · exact gd.pre h.2 (by omega)
def co (w : Nat → Int32) : Nat → Nat
  | 0 => 0
  | n + 1 => co w n + (if w n = 13 then 1 else 0)
def cb (w : Nat → Int32) : Nat → Nat
  | 0 => 0
  | n + 1 => cb w n + (if w n = 2 ∨ w n = 3 ∨ w n = 13 then 0 else 1)
theorem co_cg {w w' : Nat → Int32} : ∀ {n : Nat}, (∀ k, k < n → w' k = w k) → co w' n = co w n
  | 0, _ => rfl
  | n + 1, e => by unfold co; rw [e n (by omega), co_cg (fun k hk => e k (by omega))]
theorem cb_cg {w w' : Nat → Int32} : ∀ {n : Nat}, (∀ k, k < n → w' k = w k) → cb w' n = cb w n
  | 0, _ => rfl
  | n + 1, e => by unfold cb; rw [e n (by omega), cb_cg (fun k hk => e k (by omega))]
def okw (w : Nat → Int32) (n : Nat) : Prop := ∀ k, k < n → w k ∈ sgL
theorem p_X11_emits {h : HI} {g : HL} {a b : Int32} {S : Nat} (hS : h 135 3 = nI S) (h7 : S < 70) : w_X11_emits a b h g (fun h' g' => g = g' ∧ KJ SRd h h' ∧ h' 135 3 = nI (S + 1) ∧ h' 135 6 = h 135 6 ∧ h' 139 = upd (h 139) S a ∧ h' 140 = upd (h 140) S b ∧ h' 141 = h 141) := by
  unfold w_X11_emits
  have hv : vp_in (h 135 3) 70 := by rw [hS]; exact vp_in_nI h7 (by omega)
  refine and_have hv (fun _ => ?_)
  intro h1 e1
  have e13 : h1 135 3 = nI S := by rw [e1, hu_ne (by decide)]; exact hS
  refine and_have (by rw [e13]; exact vp_in_nI h7 (by omega)) (fun _ => ?_)
  intro h2 e2
  have e23 : h2 135 3 = nI S := by rw [e2, hu_ne (by decide)]; exact e13
  rw [e23, nI_1]
  intro h3 e3
  rw [hS, nI_clamp (by omega)] at e1
  rw [e13, nI_clamp (by omega)] at e2
  refine ⟨rfl, ((KJ.rf.hu e1 (by unfold SRd; omega)).hu e2 (by unfold SRd; omega)).hu e3 (by unfold SRd; omega), ?_, ?_, ?_, ?_, ?_⟩
  · rw [e3, hu_eq, pk_us]
  · rw [e3, hu_eq, pk_un (by decide), e2, hu_ne (by decide), e1, hu_ne (by decide)]
  · rw [e3, hu_ne (by decide), e2, hu_ne (by decide), e1, hu_eq]
  · rw [e3, hu_ne (by decide), e2, hu_eq, e1, hu_ne (by decide)]
  · rw [e3, hu_ne (by decide), e2, hu_ne (by decide), e1, hu_ne (by decide)]
theorem p_X11_waitsWith {h : HI} {g : HL} {a : Int32} {W : Nat} (hW : h 135 6 = nI W) (h7 : W < 70) : w_X11_waitsWith a h g (fun h' g' => g = g' ∧ KJ SRd h h' ∧ h' 135 6 = nI (W + 1) ∧ h' 135 3 = h 135 3 ∧ h' 141 = upd (h 141) W a ∧ h' 139 = h 139 ∧ h' 140 = h 140) := by
  unfold w_X11_waitsWith
  refine and_have (by rw [hW]; exact vp_in_nI h7 (by omega)) (fun _ => ?_)
  intro h1 e1
  have e13 : h1 135 6 = nI W := by rw [e1, hu_ne (by decide)]; exact hW
  rw [e13, nI_1]
  intro h3 e3
  rw [hW, nI_clamp (by omega)] at e1
  refine ⟨rfl, (KJ.rf.hu e1 (by unfold SRd; omega)).hu e3 (by unfold SRd; omega), ?_, ?_, ?_, ?_, ?_⟩
  · rw [e3, hu_eq, pk_us]
  · rw [e3, hu_eq, pk_un (by decide), e1, hu_ne (by decide)]
  · rw [e3, hu_ne (by decide), e1, hu_eq]
  · rw [e3, hu_ne (by decide), e1, hu_ne (by decide)]
  · rw [e3, hu_ne (by decide), e1, hu_ne (by decide)]
/-- what is read so far: S steps, W signs that wait, opn brackets open -/
def RSp (P : Prop) (h : HI) (S W opn : Nat) : Prop := h 135 3 = nI S ∧ h 135 6 = nI W ∧ okw (h 141) W ∧ co (h 141) W = opn ∧ (P → gd (h 139) S (cb (h 141) W + 1))
theorem p_X11_settles {P : Prop} {h : HI} {g : HL} {t : Int32} {S W opn : Nat} (hS : RSp P h S W opn) (hB : S + W ≤ 60) (ht : (0 : Int32) < t) : w_X11_settles t h g (fun h' g' => KJ SRd h h' ∧ ∃ S' W' : Nat, RSp P h' S' W' opn ∧ S' + W' = S + W ∧ (W' = 0 ∨ hld (h' 141 (W' - 1)) < t)) := by
  unfold w_X11_settles
  refine lpE_intro (fun q => t = q.1 ∧ KJ SRd h q.2.1 ∧ ∃ S' W' : Nat, RSp P q.2.1 S' W' opn ∧ S' + W' = S + W) (fun q => (q.2.1 135 6).toNatClampNeg) ?_ _ ⟨rfl, KJ.rf, S, W, hS, rfl⟩
  rintro ⟨t', h1, g1⟩ K ⟨rfl, hJ, S', W', hS1, hB1⟩ hK
  dsimp only at hJ hS1
  obtain ⟨s3, s6, ok, hco, hgd⟩ := hS1
  unfold F_X11_settles_0; dsimp only; unfold b_X11_settles_0
  rw [s6]
  refine ⟨fun c => ?_, fun c => ?_⟩
  · have : W' = 0 := by
      rw [show (0 : Int32) = nI 0 from rfl, nI_leI (by omega) (by omega)] at c
      omega
    exact ⟨hJ, S', W', ⟨s3, s6, ok, hco, hgd⟩, hB1, .inl this⟩
  · obtain ⟨V, rfl⟩ : ∃ V, W' = V + 1 := ⟨W' - 1, by
      have : W' ≠ 0 := fun e => c (by subst e; decide)
      omega⟩
    rw [nI_pred, nI_clamp (by omega)]
    refine and_have (vp_in_nI (by omega) (by omega)) (fun _ => ?_)
    refine c_i p_X11_holds ?_; rintro _ _ _ ⟨rfl, rfl, rfl⟩
    refine ⟨fun c2 => ⟨hJ, S', V + 1, ⟨s3, s6, ok, hco, hgd⟩, hB1, .inr c2⟩, fun c2 => ?_⟩
    have hsg := ok V (by omega)
    have n13 : ¬ h1 141 V = 13 := fun e => c2 (by rw [e]; exact ht)
    intro h2 e2
    rw [s6, nI_pred] at e2
    have s62 : h2 135 6 = nI V := by rw [e2, hu_eq, pk_us]
    have s32 : h2 135 3 = nI S' := by rw [e2, hu_eq, pk_un (by decide)]; exact s3
    have e141 : h2 141 = h1 141 := by rw [e2, hu_ne (by decide)]
    have e139 : h2 139 = h1 139 := by rw [e2, hu_ne (by decide)]
    rw [s62, nI_clamp (by omega)]
    refine and_have (vp_in_nI (by omega) (by omega)) (fun _ => ?_)
    refine c_v (p_X11_emits s32 (by omega)) ?_
    rintro h3 g3 ⟨rfl, hJ3, t3, t6, t139, t140, t141⟩
    refine hK _ ⟨rfl, (hJ.hu e2 (by unfold SRd; omega)).tr hJ3, S' + 1, V, ⟨t3, t6.trans s62, ?_, ?_, ?_⟩, by omega⟩ ?_
    · dsimp only; rw [t141, e141]; exact fun k hk => ok k (by omega)
    · dsimp only; rw [t141, e141]
      unfold co at hco
      rw [if_neg n13] at hco
      exact hco
    · intro p
      dsimp only
      rw [t141, e141, t139, e139]
      have hg := hgd p
      unfold cb at hg
      refine ⟨by omega, ?_⟩
      rw [pk_us]
      have hg2 : gd (upd (h1 139) S' (h2 141 V)) S' (cb (h1 141) V + (if h1 141 V = 2 ∨ h1 141 V = 3 ∨ h1 141 V = 13 then 0 else 1) + 1) := hg.cg (fun k hk => pk_un (by omega))
      rw [e141] at hg2 ⊢
      rw [if_neg (sg_01 hsg)]
      by_cases c3 : h1 141 V = 2 ∨ h1 141 V = 3
      · rw [if_pos c3]
        rw [if_pos (c3.elim .inl (fun e => .inr (.inl e)))] at hg2
        exact hg2
      · rw [if_neg c3]
        rw [if_neg (fun e => e.elim (fun e => c3 (.inl e)) (fun e => e.elim (fun e => c3 (.inr e)) n13))] at hg2
        exact hg2
    · dsimp only
      rw [t6.trans s62, s6, nI_clamp (by omega), nI_clamp (by omega)]
      omega
def RSo (h : HI) (S W opn e : Nat) : Prop := h 135 3 = nI S ∧ h 135 6 = nI W ∧ okw (h 141) W ∧ co (h 141) W = opn ∧ gd (h 139) S (cb (h 141) W + e)
theorem RSo.p {h : HI} {S W opn e : Nat} (r : RSo h S W opn e) : RSp (e = 1) h S W opn := ⟨r.1, r.2.1, r.2.2.1, r.2.2.2.1, fun p => p ▸ r.2.2.2.2⟩
theorem RSp.o {P : Prop} {h : HI} {S W opn : Nat} (r : RSp P h S W opn) (p : P) : RSo h S W opn 1 := ⟨r.1, r.2.1, r.2.2.1, r.2.2.2.1, r.2.2.2.2 p⟩
theorem RSo.wait {h h' : HI} {S W opn e : Nat} {a : Int32} (r : RSo h S W opn e) (t6 : h' 135 6 = nI (W + 1)) (t3 : h' 135 3 = h 135 3) (t141 : h' 141 = upd (h 141) W a) (t139 : h' 139 = h 139) (ha : a ∈ sgL) {opn' e' : Nat} (ho : opn' = opn + (if a = 13 then 1 else 0)) (he : e = (if a = 2 ∨ a = 3 ∨ a = 13 then 0 else 1) + e') : RSo h' S (W + 1) opn' e' := by
  obtain ⟨s3, s6, ok, hco, hgd⟩ := r
  refine ⟨t3.trans s3, t6, ?_, ?_, ?_⟩
  · rw [t141]
    intro k hk
    by_cases ek : k = W
    · subst ek; rw [pk_us]; exact ha
    · rw [pk_un ek]; exact ok k (by omega)
  · rw [t141]
    unfold co
    rw [pk_us, co_cg (w := h 141) (fun k hk => pk_un (by omega)), hco, ho]
  · rw [t141, t139]
    unfold cb
    rw [pk_us, cb_cg (w := h 141) (fun k hk => pk_un (by omega)), Nat.add_assoc, ← he]
    exact hgd
theorem RSo.emit {h h' : HI} {S W opn : Nat} {a : Int32} (r : RSo h S W opn 0) (t3 : h' 135 3 = nI (S + 1)) (t6 : h' 135 6 = h 135 6) (t141 : h' 141 = h 141) (t139 : h' 139 = upd (h 139) S a) (ha : a = 0 ∨ a = 1) : RSo h' (S + 1) W opn 1 := by
  obtain ⟨s3, s6, ok, hco, hgd⟩ := r
  refine ⟨t3, t6.trans s6, by rw [t141]; exact ok, by rw [t141]; exact hco, ?_⟩
  rw [t141, t139]
  refine ⟨by omega, ?_⟩
  rw [pk_us, if_pos ha]
  exact gd.cg (fun k hk => pk_un (by omega)) hgd
theorem p_X11_goesOn {h : HI} {g : HL} {x : Int32} {S W opn : Nat} (hS : RSo h S W opn 1) (hB : S + W ≤ 59) (hx : x ∈ bsL) : w_X11_goesOn x h g (fun r h' g' => KJ SRd h h' ∧ (¬ r = 0 → ∃ S' W' : Nat, RSo h' S' W' opn 0 ∧ S' + W' = S + W + 1)) := by
  unfold w_X11_goesOn
  refine c_i p_X11_holds ?_; rintro _ _ _ ⟨rfl, rfl, rfl⟩
  have key : ∀ (h1 : HI) (g1 : HL) (S1 W1 : Nat), KJ SRd h h1 → RSo h1 S1 W1 opn 1 → S1 + W1 = S + W → j_X11_goesOn_42 (fun r h' g' => KJ SRd h h' ∧ (¬ r = 0 → ∃ S' W' : Nat, RSo h' S' W' opn 0 ∧ S' + W' = S + W + 1)) x (hld x) h1 g1 := by
    intro h1 g1 S1 W1 J1 r1 e1
    unfold j_X11_goesOn_42
    refine c_v (p_X11_settles r1.p (by omega) (bs_t hx)) ?_
    rintro h2 g2 ⟨J2, S2, W2, r2, e2, -⟩
    refine c_v (p_X11_waitsWith r2.2.1 (by omega)) ?_
    rintro h3 g3 ⟨rfl, J3, t6, t3, t141, t139, -⟩
    refine ⟨(J1.tr J2).tr J3, fun _ => ⟨S2, W2 + 1, (r2.o rfl).wait t6 t3 t141 t139 (bs_sg hx) (by rw [if_neg (bs_13 hx)]; rfl) (by rw [if_neg (bs_b hx)]), by omega⟩⟩
  refine ⟨fun _ => key h g S W KJ.rf hS rfl, fun _ => ?_⟩
  refine c_v (p_X11_settles hS.p (by omega) (by decide)) ?_
  rintro h1 g1 ⟨J1, S1, W1, r1, e1, -⟩
  refine ⟨fun _ => key h1 g1 S1 W1 J1 (r1.o rfl) e1, fun c => ?_⟩
  have hW : vp_in (h1 135 6 - 1) 70 := by
    rw [r1.2.1] at c ⊢
    obtain ⟨V, rfl⟩ : ∃ V, W1 = V + 1 := ⟨W1 - 1, by
      have : W1 ≠ 0 := fun e => c (by subst e; decide)
      omega⟩
    rw [nI_pred]; exact vp_in_nI (by omega) (by omega)
  refine and_have hW (fun _ => ?_)
  refine c_i p_X11_holds ?_; rintro _ _ _ ⟨rfl, rfl, rfl⟩
  exact ⟨fun _ => key h1 g1 S1 W1 J1 (r1.o rfl) e1, fun _ => ⟨J1, fun c => absurd rfl c⟩⟩
/-- a program that can be run -/
def GP (h : HI) : Prop := ∃ n d : Nat, n ≤ 60 ∧ h 135 3 = nI n ∧ gd (h 139) n d
theorem r10 {k c : Nat} (hk : k ≤ 60) (hc : c ≤ 3) : ¬ ((10 : Int32) * nI k + nI c = -1) := by
  rw [show (10 : Int32) = nI 10 from rfl, pk_mul, nI_add]
  intro e
  have h1 := nI_toInt (n := 10 * k + c) (by omega)
  rw [e, show (-1 : Int32).toInt = -1 by decide] at h1
  omega
theorem dif_nI {n i : Nat} (hn : n < 2 ^ 31) (hi : i < 2 ^ 31) : dif (nI n) (nI i) = n - i := by
  unfold dif
  rw [nI_toInt hn, nI_toInt hi]
  omega
abbrev QRd (h : HI) (r : Int32) (h' : HI) (_ : HL) : Prop := KJ SRd h h' ∧ (r = -1 → GP h')
set_option maxHeartbeats 4000000 in
theorem p_X11_reads {h : HI} {g : HL} (hR : RI (h 136)) : w_X11_reads h g (QRd h) := by
  unfold w_X11_reads
  refine and_have (vp_in_iff.mpr (by decide)) (fun _ => ?_)
  obtain ⟨n, hn, hn2, en⟩ := bd_nI hR.c8
  rintro _ rfl
  rw [en]
  intro h1 e1
  intro h2 e2
  have J2 : KJ SRd h h2 := (KJ.rf.hu e1 (by unfold SRd; omega)).hu e2 (by unfold SRd; omega)
  have r2 : RSo h2 0 0 0 0 := ⟨by rw [e2, hu_eq, pk_un (by decide), e1, hu_eq, pk_us]; exact nI_0.symm, by rw [e2, hu_eq, pk_us]; exact nI_0.symm, fun k hk => absurd hk (Nat.not_lt_zero k), rfl, rfl⟩
  refine lpE_intro (fun q => ∃ i opn e S W : Nat, i ≤ n ∧ opn ≤ 8 ∧ e ≤ 1 ∧ nI n = q.1 ∧ nI opn = q.2.1 ∧ nI e = q.2.2.1 ∧ nI i = q.2.2.2.1 ∧ KJ SRd h q.2.2.2.2.1 ∧ RSo q.2.2.2.2.1 S W opn e ∧ S + W ≤ i) (fun q => dif q.1 q.2.2.2.1) ?_ _ ⟨0, 0, 0, 0, 0, by omega, by omega, by omega, rfl, nI_0, nI_0, nI_0, J2, r2, by omega⟩
  clear e1 e2 J2 r2
  rintro ⟨x1, x2, x3, x4, h3, g3⟩ K ⟨i, opn, e, S, W, hi, ho, he, rfl, rfl, rfl, rfl, J, r, hSW⟩ hK
  dsimp only at J r
  have go : ∀ (i' opn' e' : Nat) (h4 : HI) (g4 : HL) (S' W' : Nat), i < i' → i' ≤ n → opn' ≤ 8 → e' ≤ 1 → KJ SRd h h4 → RSo h4 S' W' opn' e' → S' + W' ≤ i' → K (nI n, nI opn', nI e', nI i', h4, g4) := by
    intro i' opn' e' h4 g4 S' W' a1 a2 a3 a4 a5 a6 a7
    refine hK _ ⟨i', opn', e', S', W', a2, a3, a4, rfl, rfl, rfl, rfl, a5, a6, a7⟩ ?_
    dsimp only
    rw [dif_nI (by omega) (by omega), dif_nI (by omega) (by omega)]
    omega
  clear hK
  have bad1 : ∀ (k : Nat) (h4 : HI) (g4 : HL), k ≤ 60 → KJ SRd h h4 → QRd h ((10 : Int32) * nI k + (1 : Int32)) h4 g4 := fun k h4 g4 hk J4 => ⟨J4, fun c => absurd c (r10 (c := 1) hk (by omega))⟩
  have bad2 : ∀ (k : Nat) (h4 : HI) (g4 : HL), k ≤ 60 → KJ SRd h h4 → QRd h ((10 : Int32) * nI k + (2 : Int32)) h4 g4 := fun k h4 g4 hk J4 => ⟨J4, fun c => absurd c (r10 (c := 2) hk (by omega))⟩
  have bad3 : ∀ (k : Nat) (h4 : HI) (g4 : HL), k ≤ 60 → KJ SRd h h4 → QRd h ((10 : Int32) * nI k + (3 : Int32)) h4 g4 := fun k h4 g4 hk J4 => ⟨J4, fun c => absurd c (r10 (c := 3) hk (by omega))⟩
  have n60 : n ≤ 60 := by omega
  unfold F_X11_reads_25; dsimp only; unfold b_X11_reads_25
  refine ⟨fun c => ?_, fun c => ?_⟩
  · refine c_v (p_X11_settles r.p (by omega) (by decide)) ?_
    rintro h4 g4 ⟨J4, S', W', r4, e4, top⟩
    have bad : j_X11_reads_388 (QRd h) (nI n) h4 g4 := by
      unfold j_X11_reads_388; exact bad1 n h4 g4 n60 (J.tr J4)
    refine ⟨fun _ => bad, fun c3 => ⟨fun _ => bad, fun c2 => ?_⟩⟩
    have e1 : e = 1 := by
      have : e ≠ 0 := fun q => c3 (by rw [q]; exact nI_0)
      omega
    have o0 : opn = 0 := (nI_eq (by omega) (by omega)).mp (c2.trans nI_0.symm)
    have rr := r4.o e1
    refine ⟨J.tr J4, fun _ => ?_⟩
    have W0 : W' = 0 := by
      rcases top with t | t
      · exact t
      · by_cases hw : W' = 0
        · exact hw
        · exfalso
          obtain ⟨V, rfl⟩ : ∃ V, W' = V + 1 := ⟨W' - 1, by omega⟩
          rw [Nat.add_sub_cancel] at t
          have t13 := sg_1 (rr.2.2.1 V (by omega)) t
          have hco := rr.2.2.2.1
          unfold co at hco
          rw [if_pos t13] at hco
          omega
    exact ⟨S', _, by omega, rr.1, rr.2.2.2.2⟩
  · have hin : i < n := by
      rw [nI_leI (by omega) (by omega)] at c; omega
    have hvk : ∀ k : Nat, k < n → vp_in ((827 : Int32) + nI k) 887 := by
      intro k hk
      rw [show (827 : Int32) + nI k = nI (827 + k) from nI_add 827 k]
      exact vp_in_nI (by omega) (by omega)
    refine and_have (hvk i hin) (fun _ => ?_)
    intro x5 e5
    refine ⟨fun c32 => ?_, fun c32 => ?_⟩
    · refine ⟨fun c0 => ?_, fun c0 => ?_⟩
      · have e0 : e = 0 := (nI_eq (by omega) (by omega)).mp (c0.trans nI_0.symm)
        subst e0
        refine c_in3 (fun q => ?_) (fun q => ?_)
        · refine ⟨fun c => absI c, fun _ => ?_⟩
          refine lpE_intro (fun q' => ∃ k : Nat, i ≤ k ∧ k ≤ n ∧ nI n = q'.1 ∧ nI opn = q'.2.1 ∧ nI k = q'.2.2.1 ∧ nI i = q'.2.2.2.1 ∧ h3 = q'.2.2.2.2.2.1) (fun q' => dif q'.1 q'.2.2.1) ?_ _ ⟨i, by omega, by omega, rfl, rfl, rfl, rfl, rfl⟩
          rintro ⟨y1, y2, y4, y6, y7, h4, g4⟩ K2 ⟨k, hik, hkn, rfl, rfl, rfl, rfl, rfl⟩ hK2
          unfold F_X11_reads_161; dsimp only; unfold b_X11_reads_161
          have out : i < k → j_X11_reads_237 (QRd h) (fun x1 x2 x3 x4 h g => K (x1, x2, x3, x4, h, g)) (nI n) (nI opn) (nI k) y7 h3 g4 := by
            intro hk
            unfold j_X11_reads_237
            refine c_v (p_X11_emits r.1 (by omega)) ?_
            rintro h5 g5 ⟨rfl, J5, t3, t6, t139, t140, t141⟩
            refine c_v (p_X11_settles (r.emit t3 t6 t141 t139 (.inl rfl)).p (by omega) (by decide)) ?_
            rintro h6 g6 ⟨J6, S', W', r6, e6, -⟩
            unfold j_X11_reads_368
            exact go k opn 1 h6 g6 S' W' hk hkn ho (by omega) ((J.tr J5).tr J6) (r6.o rfl) (by omega)
          refine ⟨fun c => out ?_, fun c => ?_⟩
          · rw [nI_leI (by omega) (by omega)] at c; omega
          · have hk2 : k < n := by
              rw [nI_leI (by omega) (by omega)] at c; omega
            refine and_have (hvk k hk2) (fun _ => ?_)
            refine c_in3 (fun q2 => ?_) (fun q2 => ?_)
            · refine ⟨fun c => absI c, fun _ => ⟨fun c6 => ?_, fun c6 => ?_⟩⟩
              · refine and_have (hvk k hk2) (fun _ => ?_)
                rintro _ rfl
                rintro _ rfl
                refine hK2 _ ⟨k + 1, by omega, by omega, rfl, rfl, (nI_1 k).symm, rfl, rfl⟩ (dif_lt c)
              · exact bad2 i h3 g4 (by omega) J
            · refine ⟨fun _ => out ?_, fun c => absN c⟩
              by_cases ek : k = i
              · subst ek; rw [e5] at q; exact absurd q q2
              · omega
        · refine ⟨fun _ => ?_, fun c => absN c⟩
          refine c_i p_X11_nameOf ?_
          rintro _ _ _ ⟨rfl, rfl, rfl⟩
          refine ⟨fun cn => ?_, fun cn => ?_⟩
          · refine ⟨fun c40 => ?_, fun c40 => ?_⟩
            · have s351 : ∀ a : Int32, a = 2 ∨ a = 3 → j_X11_reads_351 (QRd h) (fun x1 x2 x3 x4 h g => K (x1, x2, x3, x4, h, g)) (nI n) (nI opn) (nI 0) (nI i) a h3 g3 := by
                intro a ha
                unfold j_X11_reads_351
                refine c_v (p_X11_waitsWith r.2.1 (by omega)) ?_
                rintro h5 g5 ⟨rfl, J5, t6, t3, t141, t139, -⟩
                rintro _ rfl
                unfold j_X11_reads_368
                rw [nI_1]
                refine go (i + 1) opn 0 h5 g3 S (W + 1) (by omega) (by omega) ho (by omega) (J.tr J5) (r.wait t6 t3 t141 t139 ?_ ?_ ?_) (by omega)
                · rcases ha with rfl | rfl <;> decide
                · rcases ha with rfl | rfl <;> rfl
                · rcases ha with rfl | rfl <;> rfl
              have s338 : j_X11_reads_338 (QRd h) (fun x1 x2 x3 x4 h g => K (x1, x2, x3, x4, h, g)) (nI n) (nI opn) (nI 0) (nI i) x5 h3 g3 := by
                unfold j_X11_reads_338
                exact ⟨fun _ => s351 2 (.inl rfl), fun _ => s351 3 (.inr rfl)⟩
              exact ⟨fun _ => s338, fun _ => ⟨fun _ => bad1 i h3 g3 (by omega) J, fun _ => s338⟩⟩
            · refine ⟨fun c8 => ?_, fun c8 => bad3 i h3 g3 (by omega) J⟩
              have o8 : opn ≠ 8 := fun q => c8 (by rw [q]; rfl)
              rintro _ rfl
              refine c_v (p_X11_waitsWith r.2.1 (by omega)) ?_
              rintro h5 g5 ⟨rfl, J5, t6, t3, t141, t139, -⟩
              rintro _ rfl
              unfold j_X11_reads_368
              rw [nI_1, nI_1]
              exact go (i + 1) (opn + 1) 0 h5 g3 S (W + 1) (by omega) (by omega) (by omega) (by omega) (J.tr J5) (r.wait t6 t3 t141 t139 (by decide) rfl rfl) (by omega)
          · refine c_i p_X11_nameOf ?_
            rintro _ _ _ ⟨rfl, rfl, rfl⟩
            refine c_v (p_X11_emits r.1 (by omega)) ?_
            rintro h5 g5 ⟨rfl, J5, t3, t6, t139, t140, t141⟩
            refine c_v (p_X11_settles (r.emit t3 t6 t141 t139 (.inr rfl)).p (by omega) (by decide)) ?_
            rintro h6 g6 ⟨J6, S', W', r6, e6, -⟩
            rintro _ rfl
            unfold j_X11_reads_368
            rw [nI_1]
            exact go (i + 1) opn 1 h6 g6 S' W' (by omega) (by omega) ho (by omega) ((J.tr J5).tr J6) (r6.o rfl) (by omega)
      · have e1 : e = 1 := by
          have : e ≠ 0 := fun q => c0 (by rw [q]; exact nI_0)
          omega
        subst e1
        have s125 : ∀ (h4 : HI) (g4 : HL), KJ SRd h h4 → j_X11_reads_125 (QRd h) (nI i) h4 g4 := by
          intro h4 g4 J4
          unfold j_X11_reads_125; exact bad1 i h4 g4 (by omega) J4
        have s99 : j_X11_reads_99 (QRd h) (fun x1 x2 x3 x4 h g => K (x1, x2, x3, x4, h, g)) (nI n) (nI opn) (nI i) x5 h3 g3 := by
          unfold j_X11_reads_99
          refine c_i p_X11_signOf ?_
          rintro _ _ _ ⟨rfl, rfl, rfl⟩
          refine ⟨fun _ => s125 _ _ J, fun cs => ?_⟩
          refine c_i p_X11_signOf ?_
          rintro _ _ _ ⟨rfl, rfl, rfl⟩
          refine c_z (p_X11_goesOn r (by omega) (sof_b _ cs)) ?_
          rintro r4 h5 g5 ⟨J5, h5'⟩
          refine ⟨fun _ => s125 _ _ (J.tr J5), fun cr => ?_⟩
          obtain ⟨S', W', r5, e5'⟩ := h5' cr
          unfold j_X11_reads_133
          rintro _ rfl
          unfold j_X11_reads_368
          rw [nI_1]
          exact go (i + 1) opn 0 h5 g5 S' W' (by omega) (by omega) ho (by omega) (J.tr J5) r5 (by omega)
        refine ⟨fun _ => s99, fun _ => ⟨fun _ => s99, fun co' => ?_⟩⟩
        obtain ⟨p, rfl⟩ : ∃ p, opn = p + 1 := ⟨opn - 1, by
          have : opn ≠ 0 := fun q => co' (by rw [q]; decide)
          omega⟩
        refine c_v (p_X11_settles r.p (by omega) (by decide)) ?_
        rintro h5 g5 ⟨J5, S', W', r5, e5', top⟩
        have rr := r5.o rfl
        have hco := rr.2.2.2.1
        obtain ⟨V, rfl⟩ : ∃ V, W' = V + 1 := ⟨W' - 1, by
          have : W' ≠ 0 := fun q => by rw [q] at hco; unfold co at hco; omega
          omega⟩
        have t13 : h5 141 V = 13 := by
          rcases top with t | t
          · omega
          · rw [Nat.add_sub_cancel] at t
            exact sg_1 (rr.2.2.1 V (by omega)) t
        intro h6 e6
        rw [rr.2.1, nI_pred] at e6
        have r6 : RSo h6 S' V p 1 := by
          refine ⟨by rw [e6, hu_eq, pk_un (by decide)]; exact rr.1, by rw [e6, hu_eq, pk_us], ?_, ?_, ?_⟩
          · rw [e6, hu_ne (by decide)]; exact fun k hk => rr.2.2.1 k (by omega)
          · rw [e6, hu_ne (by decide)]
            unfold co at hco
            rw [if_pos t13] at hco
            omega
          · rw [e6, hu_ne (by decide), hu_ne (by decide)]
            have hg := rr.2.2.2.2
            unfold cb at hg
            rw [if_pos (.inr (.inr t13))] at hg
            exact hg
        have J6 : KJ SRd h h6 := (J.tr J5).hu e6 (by unfold SRd; omega)
        rintro _ rfl
        refine c_v (p_X11_settles r6.p (by omega) (by decide)) ?_
        rintro h7 g7 ⟨J7, S7, W7, r7, e7, -⟩
        unfold j_X11_reads_133
        rintro _ rfl
        unfold j_X11_reads_368
        rw [nI_1, pk_m1]
        exact go (i + 1) p 1 h7 g7 S7 W7 (by omega) (by omega) (by omega) (by omega) (J6.tr J7) (r7.o rfl) (by omega)
    · rintro _ rfl
      unfold j_X11_reads_368
      rw [nI_1]
      exact go (i + 1) opn e h3 g3 S W (by omega) (by omega) ho he J r (by omega)
theorem p_X11_partOf {h : HI} {g : HL} (_hR : RI (h 136)) {x1 x2 : Int32} (b_x1 : bd 0 23 x1) (b_x2 : bd 0 4 x2) : w_X11_partOf x1 x2 h g (fun r h' g' => h = h' ∧ g = g' ∧ h 136 (((20 : Int32) + ((5 : Int32) * x1)) + x2).toNatClampNeg = r) := by
  unfold w_X11_partOf
  exact ⟨vp_bd (bd_add (bd_add (bd_lit (n := 20) (by decide)) (bd_mul (n := 5) (by decide) b_x1 (by decide) (by decide) (by decide)) (by decide) (by decide)) b_x2 (by decide) (by decide)) (by decide) (by decide), rfl, rfl, rfl⟩
theorem p_X11_twoOf {h : HI} {g : HL} {x0 : Int32} {x1 x3 : Int64} : w_X11_twoOf x0 x1 x3 h g (fun _ h' g' => h = h' ∧ g = g') := by
  unfold w_X11_twoOf
  have j : j_X11_twoOf_140 (fun _ h' g' => h = h' ∧ g = g') h g := by
    unfold j_X11_twoOf_140; exact ⟨rfl, rfl⟩
  refine ⟨fun _ => ⟨rfl, rfl⟩, fun _ => ⟨fun c => ⟨lgne c, rfl, rfl⟩, fun _ => ⟨rfl, rfl⟩⟩, fun _ => ⟨rfl, rfl⟩, fun _ => ⟨rfl, rfl⟩, fun _ => ⟨fun _ => ⟨rfl, rfl⟩, fun _ => ⟨rfl, rfl⟩⟩, fun _ => ⟨fun _ => ⟨rfl, rfl⟩, fun _ => ⟨rfl, rfl⟩⟩, fun _ => ⟨fun _ => ⟨rfl, rfl⟩, fun _ => ⟨rfl, rfl⟩⟩, fun _ => ⟨fun _ => ⟨rfl, rfl⟩, fun _ => ⟨fun _ => ⟨rfl, rfl⟩, fun _ => ⟨rfl, rfl⟩⟩⟩, ?_⟩
  intros
  exact ⟨fun _ => j, fun _ => ⟨fun _ => ⟨rfl, rfl⟩, fun _ => j⟩⟩
theorem p_X11_tells {h : HI} {g : HL} (hR : RI (h 136)) {x1 x2 : Int32} (b_x1 : bd 0 23 x1) (hG : GP h) : w_X11_tells x1 x2 h g (fun _ h' _ => h = h') := by
  obtain ⟨n, d, hn, e3, hgd⟩ := hG
  unfold w_X11_tells
  refine lpE_intro (fun q => ∃ i d : Nat, i ≤ n ∧ x1 = q.1 ∧ x2 = q.2.1 ∧ nI d = q.2.2.1 ∧ nI i = q.2.2.2.1 ∧ h = q.2.2.2.2.1 ∧ gd (h 139) i d) (fun q => dif (nI n) q.2.2.2.1) ?_ _ ⟨0, 0, by omega, rfl, rfl, nI_0, nI_0, rfl, rfl⟩
  rintro ⟨y1, y2, y3, y4, h1, g1⟩ K ⟨i, d, hi, rfl, rfl, rfl, rfl, rfl, hg⟩ hK
  unfold F_X11_tells_5; dsimp only; unfold b_X11_tells_5
  rw [e3]
  refine ⟨fun c => ⟨vp_in_iff.mpr (by decide), rfl⟩, fun c => ?_⟩
  have hd := dif_lt c
  rw [nI_leI (by omega) (by omega)] at c
  have hv : vp_in (nI i) 70 := vp_in_nI (by omega) (by omega)
  have hdi := hg.le
  obtain ⟨d', h1d, h2d⟩ := hgd.pre (i := i + 1) (by omega)
  have eu := gd.un h2d hg
  have go : ∀ (d2 : Nat) (g2 : HL), d2 = d' → j_X11_tells_196 (fun _ h' _ => h = h') (fun x1 x2 x3 x4 h g => K (x1, x2, x3, x4, h, g)) x1 x2 (nI d2) (nI i) h g2 := by
    intro d2 g2 e2
    subst e2
    unfold j_X11_tells_196
    rintro _ rfl
    exact hK _ ⟨i + 1, d2, by omega, rfl, rfl, rfl, (nI_1 i).symm, rfl, h1d, h2d⟩ hd
  refine and_have hv (fun _ => ?_)
  intro x5 e5
  rw [nI_clamp (by omega)] at e5
  have push : (x5 = 0 ∨ x5 = 1) → j_X11_tells_34 (fun _ h' _ => h = h') (fun x1 x2 x3 x4 h g => K (x1, x2, x3, x4, h, g)) x1 x2 (nI d) (nI i) x5 h g1 := by
    intro c5
    rw [e5] at c5
    rw [if_pos c5] at eu
    have p98 : ∀ (s2 : Int64) (g2 : HL), j_X11_tells_98 (fun _ h' _ => h = h') (fun x1 x2 x3 x4 h g => K (x1, x2, x3, x4, h, g)) x1 x2 (nI d) (nI i) (nI d) s2 h g2 := by
      intro s2 g2
      unfold j_X11_tells_98
      refine and_have (vp_in_nI (by omega) (by omega)) (fun _ => ?_)
      intro g3 _
      rintro _ rfl
      rw [nI_1]
      exact go (d + 1) g3 (by omega)
    unfold j_X11_tells_34
    refine ⟨fun _ => ?_, fun _ => ⟨hv, p98 _ _⟩⟩
    refine and_have hv (fun _ => ⟨fun _ => ?_, fun _ => p98 _ _⟩)
    refine and_have hv (fun _ => ⟨fun _ => ?_, fun _ => ?_⟩)
    · refine c_i (p_X11_partOf hR b_x1 ((bd_lit (n := 1) (by decide)).mo (by decide) (by decide))) ?_
      rintro _ _ _ ⟨rfl, rfl, rfl⟩
      exact p98 _ _
    · refine c_i (p_X11_partOf hR b_x1 ((bd_lit (n := 0) (by decide)).mo (by decide) (by decide))) ?_
      rintro _ _ _ ⟨rfl, rfl, rfl⟩
      exact p98 _ _
  refine ⟨fun c0 => push (.inl c0), fun c0 => ⟨fun c1 => ?_, fun c1 => push (.inr c1)⟩⟩
  rw [if_neg (fun q => by rw [← e5] at q; exact q.elim c0 c1)] at eu
  have v1 : ∀ k : Nat, 1 ≤ k → k ≤ d → vp_in (nI k - 1) 70 := by
    intro k hk hk2
    obtain ⟨j, rfl⟩ : ∃ j, k = j + 1 := ⟨k - 1, by omega⟩
    rw [nI_pred]; exact vp_in_nI (by omega) (by omega)
  refine ⟨fun c3 => ⟨fun c2 => ?_, fun c2 => ?_⟩, fun c3 => ?_⟩
  · rw [if_neg (fun q => by rw [← e5] at q; exact q.elim c2 c3)] at eu
    obtain ⟨j, rfl⟩ : ∃ j, d = j + 1 := ⟨d - 1, by omega⟩
    rw [pk_m1]
    rintro _ rfl
    have vj := v1 j (by omega) (by omega)
    refine and_have vj (fun _ => and_have (vp_in_nI (by omega) (by omega)) (fun _ => ?_))
    refine c_l p_X11_twoOf ?_
    rintro r _ _ ⟨rfl, rfl⟩
    refine and_have vj (fun _ => ?_)
    intro g3 _
    exact go j g3 (by omega)
  · rw [if_pos (by rw [← e5]; exact .inl c2)] at eu
    have vd := v1 d (by omega) (by omega)
    have p162 : ∀ (s2 : Int64) (g2 : HL), j_X11_tells_162 (fun _ h' _ => h = h') (fun x1 x2 x3 x4 h g => K (x1, x2, x3, x4, h, g)) x1 x2 (nI d) (nI i) (nI d - 1) s2 h g2 := by
      intro s2 g2
      unfold j_X11_tells_162
      refine and_have vd (fun _ => ?_)
      intro g3 _
      exact go d g3 (by omega)
    exact ⟨vd, fun _ => p162 _ _, fun _ => p162 _ _⟩
  · rw [if_pos (by rw [← e5]; exact .inr c3)] at eu
    have vd := v1 d (by omega) (by omega)
    refine and_have vd (fun _ => and_have vd (fun _ => ?_))
    intro g3 _
    exact go d g3 (by omega)
theorem p_X11_wornOf {h : HI} {g : HL} (hR : RI (h 136)) {x1 x2 : Int32} (b_x1 : bd 0 23 x1) : w_X11_wornOf x1 x2 h g (fun _ h' _ => KJ SRd h h') := by
  have j42 : ∀ (s : Int64) (h1 : HI) (g1 : HL), KJ SRd h h1 → j_X11_wornOf_42 (fun _ h' _ => KJ SRd h h') s h1 g1 := by
    intro s h1 g1 J
    unfold j_X11_wornOf_42
    exact ⟨fun _ => ⟨fun _ => J, fun _ => J⟩, fun _ => J⟩
  have j22 : ∀ (s : Int32) (g1 : HL), j_X11_wornOf_22 (fun _ h' _ => KJ SRd h h') x1 s h g1 := by
    intro s g1
    unfold j_X11_wornOf_22
    refine c_i (p_X11_reads hR) ?_
    rintro r h2 g2 ⟨J2, hG⟩
    refine ⟨fun _ => j42 _ _ _ J2, fun c => ?_⟩
    refine c_l (p_X11_tells (hR.kj J2 (fun k => by unfold SRd; omega)) b_x1 (hG c)) ?_
    rintro r3 _ g3 rfl
    exact j42 _ _ _ J2
  have b2 : bd 0 4 (2 : Int32) := (bd_lit (n := 2) (by decide)).mo (by decide) (by decide)
  unfold w_X11_wornOf
  refine c_i (p_X11_partOf hR b_x1 b2) ?_
  rintro _ _ _ ⟨rfl, rfl, rfl⟩
  refine ⟨fun _ => ?_, fun _ => j22 _ _⟩
  refine c_i (p_X11_partOf hR b_x1 b2) ?_
  rintro _ _ _ ⟨rfl, rfl, rfl⟩
  exact j22 _ _
