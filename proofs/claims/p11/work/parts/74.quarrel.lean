/-! QUARREL: how many sayings do not allow a size, and the size that the fewest do not -/
noncomputable def dn (f : Nat → Int32) (z : Int) (s : Nat) : Bool := !(decide (cLo f s ≤ z) && decide (z ≤ cHi f s))
theorem dn_iff {f : Nat → Int32} {z : Int} {s : Nat} : dn f z s = true ↔ ¬ (cLo f s ≤ z ∧ z ≤ cHi f s) := by
  unfold dn
  by_cases a : cLo f s ≤ z
  · by_cases b : z ≤ cHi f s
    · rw [decide_eq_true a, decide_eq_true b]; exact ⟨fun q => absurd q (by decide), fun q => absurd ⟨a, b⟩ q⟩
    · rw [decide_eq_true a, decide_eq_false b]; exact ⟨fun _ q => b q.2, fun _ => rfl⟩
  · rw [decide_eq_false a]; exact ⟨fun _ q => a q.1, fun _ => rfl⟩
theorem dn_r {f : Nat → Int32} {z : Int} {s : Nat} (h1 : 1 ≤ z) (h2 : z ≤ 100000) : dn f z s = true ↔ ¬ (rLo f s ≤ z ∧ z ≤ rHi f s) := by
  rw [dn_iff, ← alw_c (by omega) (by omega), ← alw_r (by omega) (by omega)]
noncomputable def cq (f : Nat → Int32) (p : Nat) (z : Int) (k : Nat) : Nat := (ofL f p k).countP (dn f z)
theorem cq_y {f : Nat → Int32} {p k : Nat} {z : Int} (o : isO f p k) (d : dn f z k = true) : cq f p z (k + 1) = cq f p z k + 1 := by
  unfold cq
  rw [ofL_y o, List.countP_append, List.countP_singleton, if_pos d]
theorem cq_n {f : Nat → Int32} {p k : Nat} {z : Int} (o : ¬ (isO f p k ∧ dn f z k = true)) : cq f p z (k + 1) = cq f p z k := by
  unfold cq
  by_cases q : isO f p k
  · rw [ofL_y q, List.countP_append, List.countP_singleton, if_neg (fun d => o ⟨q, d⟩), Nat.add_zero]
  · rw [ofL_n q]
theorem cq_le {f : Nat → Int32} {p k : Nat} {z : Int} : cq f p z k ≤ k := Nat.le_trans List.countP_le_length ofL_len
theorem cq_mono {f : Nat → Int32} {p n : Nat} {z z' : Int} (h : ∀ s, s < n → isO f p s → dn f z' s = true → dn f z s = true) : cq f p z' n ≤ cq f p z n :=
  List.countP_mono_left (fun s hs d => h s (ofL_mem.mp hs).1 (ofL_mem.mp hs).2 d)
theorem cq_up {f : Nat → Int32} {p : Nat} {z : Int} : ∀ {a b : Nat}, a ≤ b → cq f p z a ≤ cq f p z b
  | a, 0, h => by rw [show a = 0 by omega]; exact Nat.le_refl _
  | a, b + 1, h => by
    by_cases e : a = b + 1
    · rw [e]; exact Nat.le_refl _
    · have ih := cq_up (f := f) (p := p) (z := z) (a := a) (b := b) (by omega)
      by_cases q : isO f p b ∧ dn f z b = true
      · rw [cq_y q.1 q.2]; omega
      · rw [cq_n q]; exact ih
/-- by rows -/
theorem ofL_tk {f : Nat → Int32} {p i s : Nat} : ∀ {n : Nat}, (ofL f p n)[i]? = some s → (ofL f p n).take i = ofL f p s
  | 0, h => by cases h
  | n + 1, h => by
    by_cases q : isO f p n
    · rw [ofL_y q] at h ⊢
      by_cases c : i < (ofL f p n).length
      · rw [List.getElem?_append_left c] at h
        rw [List.take_append_of_le_length (by omega)]
        exact ofL_tk h
      · have hlt := (List.getElem?_eq_some_iff.mp h).1
        rw [List.length_append, List.length_singleton] at hlt
        have e : i = (ofL f p n).length := by omega
        rw [List.getElem?_append_right (by omega), e, Nat.sub_self] at h
        have h : some n = some s := h
        rw [Option.some.injEq] at h
        rw [e, List.take_append_of_le_length (Nat.le_refl _), List.take_length, h]
    · rw [ofL_n q] at h ⊢
      exact ofL_tk h
theorem tk_s {l : List Nat} {i s : Nat} {d : Nat → Bool} (h : l[i]? = some s) : (l.take (i + 1)).countP d = (l.take i).countP d + (if d s = true then 1 else 0) := by
  rw [List.take_add_one, h, List.countP_append]
  show _ + List.countP d [s] = _
  rw [List.countP_singleton]
def lex (f : Nat → Int32) (p n : Nat) (z z' : Int) : Prop := cq f p z n < cq f p z' n ∨ (cq f p z n = cq f p z' n ∧ z ≤ z')
theorem lex.rf {f : Nat → Int32} {p n : Nat} {z : Int} : lex f p n z z := .inr ⟨rfl, Int.le_refl _⟩
theorem lex.tr {f : Nat → Int32} {p n : Nat} {a b c : Int} (x : lex f p n a b) (y : lex f p n b c) : lex f p n a c := by
  unfold lex at *; omega
def BST (f : Nat → Int32) (p n : Nat) (z : Int) : Prop := (∃ i, 0 ≤ i ∧ i ≤ fM f p - 1 ∧ z = fB f p + fD f p * i) ∧ ∀ i, 0 ≤ i → i ≤ fM f p - 1 → lex f p n z (fB f p + fD f p * i)
theorem BST.un {f : Nat → Int32} {p n : Nat} {z z' : Int} (x : BST f p n z) (y : BST f p n z') : z = z' := by
  obtain ⟨⟨i, i0, i1, e⟩, k⟩ := x
  obtain ⟨⟨i', i0', i1', e'⟩, k'⟩ := y
  have a := k i' i0' i1'
  have b := k' i i0 i1
  rw [← e'] at a
  rw [← e] at b
  unfold lex at a b; omega
theorem cand {f : Nat → Int32} {p n : Nat} (k : FOK f p) : ∀ i : Nat, (i : Int) ≤ fM f p - 1 → ∃ j : Int, 0 ≤ j ∧ j ≤ i ∧ cq f p (fB f p + fD f p * j) n ≤ cq f p (fB f p + fD f p * i) n ∧ (j = 0 ∨ ∃ s, s < n ∧ isO f p s ∧ pfN (fB f p) (fD f p) (cLo f s) = j)
  | 0, _ => ⟨0, by omega, by omega, Nat.le_refl _, .inl rfl⟩
  | i + 1, hi => by
    by_cases q : ∃ s, s < n ∧ isO f p s ∧ pfN (fB f p) (fD f p) (cLo f s) = ((i + 1 : Nat) : Int)
    · exact ⟨((i + 1 : Nat) : Int), by omega, by omega, Nat.le_refl _, .inr q⟩
    · obtain ⟨j, j0, j1, jc, jo⟩ := cand (n := n) k i (by omega)
      refine ⟨j, j0, by omega, Nat.le_trans jc (cq_mono (fun s hs o d => ?_)), jo⟩
      rw [dn_iff] at d ⊢
      intro a
      refine d ?_
      have d1 : 1 ≤ fD f p := k.2.1
      have b1 := (pfN_le (b := fB f p) (z := cLo f s) (i := ((i + 1 : Nat) : Int)) d1 (by omega)).mpr a.1
      have b2 : ¬ pfN (fB f p) (fD f p) (cLo f s) = ((i + 1 : Nat) : Int) := fun e => q ⟨s, hs, o, e⟩
      have b3 := (pfN_le (b := fB f p) (z := cLo f s) (i := (i : Int)) d1 (by omega)).mp (by omega)
      have e : fD f p * ((i + 1 : Nat) : Int) = fD f p * (i : Int) + fD f p := by
        rw [show ((i + 1 : Nat) : Int) = (i : Int) + 1 by omega, Int.mul_add, Int.mul_one]
      rw [e] at a
      exact ⟨b3, by omega⟩
theorem BST.of {f : Nat → Int32} {p n : Nat} (k : FOK f p) {z : Int} (hz : ∃ i, 0 ≤ i ∧ i ≤ fM f p - 1 ∧ z = fB f p + fD f p * i) (c0 : lex f p n z (fB f p + fD f p * 0)) (cs : ∀ s, s < n → isO f p s → pfN (fB f p) (fD f p) (cLo f s) ≤ fM f p - 1 → lex f p n z (fB f p + fD f p * pfN (fB f p) (fD f p) (cLo f s))) : BST f p n z := by
  refine ⟨hz, fun i i0 i1 => ?_⟩
  obtain ⟨m, rfl⟩ : ∃ m : Nat, i = (m : Int) := ⟨i.toNat, by omega⟩
  obtain ⟨j, j0, j1, jc, jo⟩ := cand (n := n) k m i1
  have h1 : lex f p n z (fB f p + fD f p * j) := by
    rcases jo with e | ⟨s, hs, o, e⟩
    · rw [e]; exact c0
    · rw [← e]; exact cs s hs o (by omega)
  have h2 : fD f p * j ≤ fD f p * (m : Int) := Int.mul_le_mul_of_nonneg_left j1 (by have := k.2.1; omega)
  unfold lex at h1 ⊢; omega
noncomputable def bst (f : Nat → Int32) (p : Nat) : Int := Classical.epsilon (fun z => ∃ n : Nat, f 1 = nI n ∧ n ≤ 60 ∧ BST f p n z)
theorem bst_eq {f : Nat → Int32} {p n : Nat} {z : Int} (en : f 1 = nI n) (hn : n ≤ 60) (x : BST f p n z) : bst f p = z := by
  have ex : ∃ z : Int, ∃ n : Nat, f 1 = nI n ∧ n ≤ 60 ∧ BST f p n z := ⟨z, n, en, hn, x⟩
  obtain ⟨n', en', hn', x'⟩ := Classical.epsilon_spec ex
  have e : n = n' := (nI_eq (by omega) (by omega)).mp (en.symm.trans en')
  subst e
  exact x'.un x
/-- which saying is the w-th that does not allow z -/
def OBJ (f : Nat → Int32) (p n : Nat) (z : Int) (w r : Int32) : Prop := (∃ s, s < n ∧ isO f p s ∧ dn f z s = true ∧ w = nI (cq f p z s) ∧ r = nI s) ∨ ((∀ s, s < n → isO f p s → dn f z s = true → ¬ w = nI (cq f p z s)) ∧ r = -1)
theorem OBJ.un {f : Nat → Int32} {p n : Nat} (hn : n ≤ 60) {z : Int} {w r t : Int32} (x : OBJ f p n z w r) (y : OBJ f p n z w t) : r = t := by
  rcases x with ⟨s, hs, o, d, ew, rfl⟩ | ⟨no, rfl⟩
  · rcases y with ⟨s', hs', o', d', ew', rfl⟩ | ⟨no, rfl⟩
    · have l1 := cq_le (f := f) (p := p) (z := z) (k := s)
      have l2 := cq_le (f := f) (p := p) (z := z) (k := s')
      have e := (nI_eq (by omega) (by omega)).mp (ew.symm.trans ew')
      rcases Nat.lt_trichotomy s s' with c | c | c
      · have := cq_up (f := f) (p := p) (z := z) (a := s + 1) (b := s') c
        rw [cq_y o d] at this; omega
      · rw [c]
      · have := cq_up (f := f) (p := p) (z := z) (a := s' + 1) (b := s) c
        rw [cq_y o' d'] at this; omega
    · exact absurd ew (no s hs o d)
  · rcases y with ⟨s', hs', o', d', ew', rfl⟩ | ⟨no, rfl⟩
    · exact absurd ew' (no s' hs' o' d')
    · rfl
/-! THE CLASS -/
theorem c_dn {h : HI} {g : HL} {f : Nat → Int32} (v : VR f) (w : WB f) {p n i s : Nat} {x : Int32} (A : ARR h f p n) (es : (ofL f p n)[i]? = some s) (hi : i < 60) (hs : s < 60) {body : Int32 → HI → HL → Prop} (h1 : dn f x.toInt s = true → body 1 h g) (h0 : ¬ dn f x.toInt s = true → body 0 h g) : ∃ P : Int32 → HI → HL → Prop, w_X7_denies (nI i) x h g P ∧ ∀ (r : Int32) (h : HI) (g : HL), zb r → P r h g → body r h g := by
  obtain ⟨a2, a3, -⟩ := A i s es
  obtain ⟨c1, c2, c3, c4⟩ := cLH v w hs
  have eL := i32_t (z := cLo f s) (by omega)
  have eH := i32_t (z := cHi f s) (by omega)
  have i60 : ¬ (60 : Int32) ≤ nI i := fun q => by
    rw [show (60 : Int32) = nI 60 from rfl, nI_leI (by omega) (by omega)] at q; omega
  have vi : vp_in (nI i) 60 := vp_in_nI hi (by omega)
  refine ⟨fun r h' g' => body r h' g', ?_, fun _ _ _ _ k => k⟩
  unfold w_X7_denies j_X7_denies_42
  refine ⟨fun q => absurd q (nI_pos (by omega)), fun _ => ⟨fun q => absurd q i60, fun _ => ⟨fun q => absurd q i60, fun _ => and_have vi (fun _ => ?_)⟩⟩⟩
  rw [nI_clamp (by omega), a2, a3]
  refine ⟨fun q => h1 (dn_iff.mpr (fun k => ?_)), fun q => and_have vi (fun _ => ⟨fun q2 => h0 (fun k => ?_), fun q2 => h1 (dn_iff.mpr (fun k => ?_))⟩)⟩
  · rw [i_lt rfl eL] at q; omega
  · rw [i_lt rfl eL] at q
    rw [i_le rfl eH] at q2
    exact dn_iff.mp k ⟨by omega, q2⟩
  · rw [i_le rfl eH] at q2
    exact q2 k.2
theorem q_X7_against {h : HI} {g : HL} {f : Nat → Int32} (v : VR f) (w : WB f) {p n : Nat} (hn : n ≤ 60) (e5 : h 81 5 = nI (ofL f p n).length) (A : ARR h f p n) {x : Int32} : w_X7_against x h g (fun r h' _ => h = h' ∧ r = nI (cq f p x.toInt n)) := by
  have hl : (ofL f p n).length ≤ 60 := Nat.le_trans ofL_len hn
  unfold w_X7_against
  refine lpE_intro (fun ⟨a_q, b_q, c_q, h_q, _⟩ => ∃ i : Nat, i ≤ (ofL f p n).length ∧ x = a_q ∧ nI (((ofL f p n).take i).countP (dn f x.toInt)) = b_q ∧ nI i = c_q ∧ h = h_q) (fun ⟨_, _, c_q, _, _⟩ => dif (nI (ofL f p n).length) c_q) ?_ _ ⟨0, by omega, rfl, nI_0, nI_0, rfl⟩
  rintro ⟨y1, y2, y3, h1, g1⟩ K ⟨i, hi, rfl, rfl, rfl, rfl⟩ hK
  unfold F_X7_against_4; dsimp only; unfold b_X7_against_4
  rw [e5]
  refine ⟨fun c => ⟨rfl, ?_⟩, fun c => ?_⟩
  · rw [nI_leI (by omega) (by omega)] at c
    rw [show i = (ofL f p n).length by omega, List.take_length]; rfl
  · have hd := dif_lt c
    rw [nI_leI (by omega) (by omega)] at c
    have es : (ofL f p n)[i]? = some ((ofL f p n)[i]'(by omega)) := List.getElem?_eq_getElem (by omega)
    generalize (ofL f p n)[i]'(by omega) = s at es
    have ms := ofL_mem.mp (List.mem_iff_getElem?.mpr ⟨i, es⟩)
    have ts := tk_s (d := dn f x.toInt) es
    refine c_dn v w A es (by omega) (by omega) (fun d => ⟨fun q => absurd q (by decide), fun _ => ?_⟩) (fun d => ⟨fun _ => ?_, fun q => absurd rfl q⟩)
    · rintro _ rfl
      unfold j_X7_against_24
      rintro _ rfl
      refine hK _ ⟨i + 1, by omega, rfl, ?_, (nI_1 i).symm, rfl⟩ hd
      rw [ts, if_pos d]; exact (nI_1 _).symm
    · unfold j_X7_against_24
      rintro _ rfl
      refine hK _ ⟨i + 1, by omega, rfl, ?_, (nI_1 i).symm, rfl⟩ hd
      rw [ts, if_neg d, Nat.add_zero]
theorem q_X7_objector {h : HI} {g : HL} {f : Nat → Int32} (v : VR f) (w : WB f) {p n : Nat} (hn : n ≤ 60) (e5 : h 81 5 = nI (ofL f p n).length) (A : ARR h f p n) {x y : Int32} : w_X7_objector x y h g (fun r h' _ => h = h' ∧ OBJ f p n x.toInt y r) := by
  have hl : (ofL f p n).length ≤ 60 := Nat.le_trans ofL_len hn
  unfold w_X7_objector
  refine lpE_intro (fun ⟨a_q, b_q, c_q, d_q, h_q, _⟩ => ∃ i : Nat, i ≤ (ofL f p n).length ∧ x = a_q ∧ y = b_q ∧ nI (((ofL f p n).take i).countP (dn f x.toInt)) = c_q ∧ nI i = d_q ∧ h = h_q ∧ ∀ j s, j < i → (ofL f p n)[j]? = some s → dn f x.toInt s = true → ¬ y = nI (cq f p x.toInt s)) (fun ⟨_, _, _, d_q, _, _⟩ => dif (nI (ofL f p n).length) d_q) ?_ _ ⟨0, by omega, rfl, rfl, nI_0, nI_0, rfl, fun j s hj => absurd hj (Nat.not_lt_zero j)⟩
  rintro ⟨y1, y2, y3, y4, h1, g1⟩ K ⟨i, hi, rfl, rfl, rfl, rfl, rfl, no⟩ hK
  unfold F_X7_objector_5; dsimp only; unfold b_X7_objector_5
  rw [e5]
  refine ⟨fun c => ⟨rfl, .inr ⟨fun s hs o d => ?_, rfl⟩⟩, fun c => ?_⟩
  · rw [nI_leI (by omega) (by omega)] at c
    obtain ⟨j, ej⟩ := List.mem_iff_getElem?.mp (ofL_mem.mpr ⟨hs, o⟩)
    have hj := (List.getElem?_eq_some_iff.mp ej).1
    exact no j s (by omega) ej d
  · have hd := dif_lt c
    rw [nI_leI (by omega) (by omega)] at c
    have es : (ofL f p n)[i]? = some ((ofL f p n)[i]'(by omega)) := List.getElem?_eq_getElem (by omega)
    generalize (ofL f p n)[i]'(by omega) = s at es
    have ms := ofL_mem.mp (List.mem_iff_getElem?.mpr ⟨i, es⟩)
    have ts := tk_s (d := dn f x.toInt) es
    have ec : ((ofL f p n).take i).countP (dn f x.toInt) = cq f p x.toInt s := by rw [ofL_tk es]; rfl
    have nxt : ∀ (g2 : HL) (k : Nat), ((ofL f p n).take (i + 1)).countP (dn f x.toInt) = k → (dn f x.toInt s = true → ¬ y = nI (cq f p x.toInt s)) → j_X7_objector_53 (fun r h' _ => h = h' ∧ OBJ f p n x.toInt y r) (fun x1 x2 x3 x4 h g => K (x1, x2, x3, x4, h, g)) x y (nI k) (nI i) h g2 := by
      rintro g2 _ rfl ne
      unfold j_X7_objector_53
      rintro _ rfl
      refine hK _ ⟨i + 1, by omega, rfl, rfl, rfl, (nI_1 i).symm, rfl, fun j t hj et d => ?_⟩ hd
      by_cases ej : j = i
      · subst ej
        rw [es, Option.some.injEq] at et
        subst et
        exact ne d
      · exact no j t (by omega) et d
    refine ⟨fun q => ?_, fun _ => ?_⟩
    · rw [show (60 : Int32) = nI 60 from rfl, nI_leI (by omega) (by omega)] at q; omega
    refine c_dn v w A es (by omega) (by omega) (fun d => ⟨fun _ => ⟨fun q => ?_, fun q => ?_⟩, fun q => absurd q (by decide)⟩) (fun d => ⟨fun q => absurd rfl q, fun _ => ?_⟩)
    · rintro _ rfl
      rw [ec] at q ⊢
      rw [show nI (cq f p x.toInt s) + (1 : Int32) = nI (cq f p x.toInt s + 1) from nI_1 _]
      exact nxt _ _ (by rw [ts, if_pos d, ec]) (fun _ e => q e.symm)
    · skip
      refine ⟨vp_in_nI (by omega) (by omega), rfl, .inl ⟨s, ms.1, ms.2, d, ?_, ?_⟩⟩
      · rw [← ec]; exact q.symm
      · rw [nI_clamp (by omega)]; exact (A i s es).2.2
    · exact nxt _ _ (by rw [ts, if_neg d, Nat.add_zero]) (fun d' => absurd d' d)
theorem q_X7_leastDisputed {h : HI} {g : HL} {f : Nat → Int32} (v : VR f) (w : WB f) {p n : Nat} (k0 : FOK f p) (en : f 1 = nI n) (hn : n ≤ 60) (Z : SZ h f p n) : w_X7_leastDisputed h g (fun r h' _ => h = h' ∧ r.toInt = bst f p) := by
  obtain ⟨-, -, -, b6, b7, b8, e5, A⟩ := Z
  have hl : (ofL f p n).length ≤ 60 := Nat.le_trans ofL_len hn
  obtain ⟨k1, k2, k3, k4, k5, k6⟩ := id k0
  have kB : fB f p ≤ 100000 := by
    have := Int.mul_nonneg (a := fM f p - 1) (b := fD f p) (by omega) (by omega)
    omega
  have z0 : fB f p + fD f p * 0 = fB f p := by rw [Int.mul_zero, Int.add_zero]
  unfold w_X7_leastDisputed
  rintro _ rfl
  refine c_i (q_X7_against v w hn e5 A) ?_
  rintro r2 _ g2 ⟨rfl, rfl⟩
  refine lpE_intro (fun ⟨a_q, b_q, c_q, h_q, _⟩ => ∃ i : Nat, i ≤ (ofL f p n).length ∧ nI (cq f p a_q.toInt n) = b_q ∧ nI i = c_q ∧ h = h_q ∧ (∃ t, 0 ≤ t ∧ t ≤ fM f p - 1 ∧ a_q.toInt = fB f p + fD f p * t) ∧ lex f p n a_q.toInt (fB f p + fD f p * 0) ∧ ∀ j s, j < i → (ofL f p n)[j]? = some s → pfN (fB f p) (fD f p) (cLo f s) ≤ fM f p - 1 → lex f p n a_q.toInt (fB f p + fD f p * pfN (fB f p) (fD f p) (cLo f s))) (fun ⟨_, _, c_q, _, _⟩ => dif (nI (ofL f p n).length) c_q) ?_ _ ⟨0, by omega, rfl, nI_0, rfl, ⟨0, by omega, by omega, by rw [z0]; exact b6⟩, by rw [z0, b6]; exact lex.rf, fun j s hj => absurd hj (Nat.not_lt_zero j)⟩
  rintro ⟨y1, y2, y3, h1, g1⟩ K ⟨i, hi, rfl, rfl, rfl, fam, l0, ls⟩ hK
  unfold F_X7_leastDisputed_16; dsimp only; unfold b_X7_leastDisputed_16
  rw [e5]
  refine ⟨fun c => ⟨rfl, ?_⟩, fun c => ?_⟩
  · rw [nI_leI (by omega) (by omega)] at c
    refine (bst_eq en hn (BST.of k0 fam l0 (fun s hs o hp => ?_))).symm
    obtain ⟨j, ej⟩ := List.mem_iff_getElem?.mp (ofL_mem.mpr ⟨hs, o⟩)
    have hj := (List.getElem?_eq_some_iff.mp ej).1
    exact ls j s (by omega) ej hp
  · have hd := dif_lt c
    rw [nI_leI (by omega) (by omega)] at c
    have es : (ofL f p n)[i]? = some ((ofL f p n)[i]'(by omega)) := List.getElem?_eq_getElem (by omega)
    generalize (ofL f p n)[i]'(by omega) = s at es
    have ms := ofL_mem.mp (List.mem_iff_getElem?.mpr ⟨i, es⟩)
    obtain ⟨c1, c2, c3, c4⟩ := cLH v w (s := s) (by omega)
    have pb := pfN_bd (b := fB f p) (d := fD f p) (z := cLo f s) k1 k2 k3 (by omega)
    have stay : ∀ g2 : HL, (pfN (fB f p) (fD f p) (cLo f s) ≤ fM f p - 1 → lex f p n y1.toInt (fB f p + fD f p * pfN (fB f p) (fD f p) (cLo f s))) → j_X7_leastDisputed_103 (fun r h' _ => h = h' ∧ r.toInt = bst f p) (fun x1 x2 x3 h g => K (x1, x2, x3, h, g)) y1 (nI (cq f p y1.toInt n)) (nI i) h g2 := by
      intro g2 hx
      unfold j_X7_leastDisputed_103
      rintro _ rfl
      refine hK _ ⟨i + 1, by omega, rfl, (nI_1 i).symm, rfl, fam, l0, fun j t hj et hp => ?_⟩ hd
      by_cases ej : j = i
      · subst ej
        rw [es, Option.some.injEq] at et
        subst et
        exact hx hp
      · exact ls j t (by omega) et hp
    refine ⟨fun q => ?_, fun _ => and_have (vp_in_nI (by omega) (by omega)) (fun _ => ?_)⟩
    · rw [show (60 : Int32) = nI 60 from rfl, nI_leI (by omega) (by omega)] at q; omega
    rw [nI_clamp (by omega), (A i s es).1]
    refine c_i (q_X7_placeFrom (i32_t (by omega)) b6 b7 (by omega) (by omega) (by omega)) ?_
    rintro r _ _ ⟨er, rfl, rfl⟩
    refine ⟨fun q => ?_, fun q => stay _ (fun hp => absurd ((i_le er b8).mpr hp) q)⟩
    rw [i_le er b8] at q
    have sz := k0.sz pb.1 q
    intro x5 ex5
    have e5' : x5.toInt = fB f p + fD f p * pfN (fB f p) (fD f p) (cLo f s) := by
      rw [ex5, i_add b6 (i_mul er b7 (by rw [Int.mul_comm]; omega)) (by rw [Int.mul_comm (pfN _ _ _)]; omega), Int.mul_comm (pfN _ _ _)]
    clear ex5
    refine c_i (q_X7_against (x := x5) v w hn e5 A) ?_
    rintro r3 _ g3 ⟨rfl, rfl⟩
    have q1 := cq_le (f := f) (p := p) (z := x5.toInt) (k := n)
    have q2 := cq_le (f := f) (p := p) (z := y1.toInt) (k := n)
    have take : lex f p n x5.toInt y1.toInt → j_X7_leastDisputed_97 (fun r h' _ => h = h' ∧ r.toInt = bst f p) (fun x1 x2 x3 h g => K (x1, x2, x3, h, g)) (nI i) x5 (nI (cq f p x5.toInt n)) h g3 := by
      intro lx
      unfold j_X7_leastDisputed_97 j_X7_leastDisputed_103
      rintro _ rfl
      refine hK _ ⟨i + 1, by omega, rfl, (nI_1 i).symm, rfl, ⟨_, pb.1, q, e5'⟩, lx.tr l0, fun j t hj et hp => ?_⟩ hd
      by_cases ej : j = i
      · subst ej
        rw [es, Option.some.injEq] at et
        subst et
        rw [← e5']; exact lex.rf
      · exact lx.tr (ls j t (by omega) et hp)
    refine ⟨fun a => take (.inl ((nI_ltI (by omega) (by omega)).mp a)), fun a => ?_⟩
    rw [nI_ltI (by omega) (by omega)] at a
    refine ⟨fun b => stay _ (fun _ => ?_), fun b => ⟨fun d => stay _ (fun _ => ?_), fun d => take ?_⟩⟩
    · rw [← e5']
      have : ¬ cq f p x5.toInt n = cq f p y1.toInt n := fun e => b (by rw [e])
      unfold lex; omega
    · have b := (nI_eq (by omega) (by omega)).mp b
      rw [i_le rfl rfl] at d
      rw [← e5']
      unfold lex; omega
    · have b := (nI_eq (by omega) (by omega)).mp b
      rw [i_le rfl rfl] at d
      unfold lex; omega
/-- the answer -/
def AQ (f : Nat → Int32) (m n : Nat) (x1 x2 r : Int32) : Prop := (¬ (isRow (nI m) x1 ∧ (-1 ≤ x2.toInt ∨ x2 = -3)) ∧ r = -10) ∨ ∃ p : Nat, p < m ∧ x1 = nI p ∧ ((x2 = -3 ∧ r.toInt = bst f p) ∨ (x2 = -1 ∧ r = nI (cq f p (bst f p) n)) ∨ (0 ≤ x2.toInt ∧ OBJ f p n (bst f p) x2 r))
theorem AQ.un {f : Nat → Int32} {m n : Nat} (hm : m ≤ 24) (hn : n ≤ 60) {x1 x2 r s : Int32} (a : AQ f m n x1 x2 r) (b : AQ f m n x1 x2 s) : r = s := by
  have ok : ∀ {p : Nat} {t : Int32}, ((x2 = -3 ∧ t.toInt = bst f p) ∨ (x2 = -1 ∧ t = nI (cq f p (bst f p) n)) ∨ (0 ≤ x2.toInt ∧ OBJ f p n (bst f p) x2 t)) → -1 ≤ x2.toInt ∨ x2 = -3 := by
    rintro p t (⟨e, -⟩ | ⟨e, -⟩ | ⟨e, -⟩)
    · exact .inr e
    · exact .inl (by rw [e]; decide)
    · exact .inl (by omega)
  rcases a with ⟨a1, rfl⟩ | ⟨p, hp, rfl, a⟩
  · rcases b with ⟨-, rfl⟩ | ⟨p, hp, rfl, b⟩
    · rfl
    · exact absurd ⟨row_of hp (by omega), ok b⟩ a1
  · rcases b with ⟨b1, -⟩ | ⟨p', hp', e1, b⟩
    · exact absurd ⟨row_of hp (by omega), ok a⟩ b1
    · have q1 : p = p' := (nI_eq (by omega) (by omega)).mp e1
      subst q1
      rcases a with ⟨e, u⟩ | ⟨e, u⟩ | ⟨e, u⟩
      · rcases b with ⟨e', u'⟩ | ⟨e', u'⟩ | ⟨e', u'⟩
        · exact Int32.toInt_inj.mp (u.trans u'.symm)
        · rw [e] at e'; exact absurd e' (by decide)
        · rw [e] at e'; exact absurd e' (by decide)
      · rcases b with ⟨e', u'⟩ | ⟨e', u'⟩ | ⟨e', u'⟩
        · rw [e] at e'; exact absurd e' (by decide)
        · exact u.trans u'.symm
        · rw [e] at e'; exact absurd e' (by decide)
      · rcases b with ⟨e', u'⟩ | ⟨e', u'⟩ | ⟨e', u'⟩
        · rw [e'] at e; exact absurd e (by decide)
        · rw [e'] at e; exact absurd e (by decide)
        · exact u.un hn u'
theorem q_X10_quarrel {h : HI} {g : HL} {f : Nat → Int32} (c : CX h f) {m n : Nat} (T : TT h 2 m 5 24) (S : TT h 6 n 6 60) (en : f 1 = nI n) {x1 x2 : Int32} : w_X10_quarrel x1 x2 h g (fun r h' _ => JJ SSz h h' ∧ AQ f m n x1 x2 r) := by
  have hm := T.2.2.2.1
  have hn := S.2.2.2.1
  have v := c.2.2.2.1
  have w := c.wb
  have e3 : (-3 : Int32).toInt = -3 := by decide
  have e2 : (-2 : Int32).toInt = -2 := by decide
  unfold w_X10_quarrel
  refine c_hb (fun q0 => ⟨fun c => absI c, fun _ => ?_⟩) (fun q0 => ⟨fun _ => ⟨JJ.rf, .inl ⟨fun k => q0 (by rw [T.2.2.1]; exact k.1), rfl⟩⟩, fun c => absN c⟩)
  refine ⟨fun q => ⟨JJ.rf, .inl ⟨fun k => ?_, rfl⟩⟩, fun q => ⟨fun q2 => ?_, fun q2 => ⟨JJ.rf, .inl ⟨fun k => ?_, rfl⟩⟩⟩⟩
  · rw [i_lt rfl e3] at q
    rcases k.2 with k | k
    · omega
    · rw [k, e3] at q; omega
  rotate_left
  · skip
    rcases k.2 with k | k
    · rw [q2, e2] at k; omega
    · rw [q2] at k; exact absurd k (by decide)
  rw [i_lt rfl e3] at q
  obtain ⟨p, hp, rfl⟩ := row_n q0 T.2.2.1 (by omega)
  refine c_v (q_X7_find c T S en hp) ?_
  rintro h1 g1 ⟨J1, Z⟩
  have k0 := v.fok (p := p) (by omega)
  refine c_i (q_X7_leastDisputed v w k0 en hn Z) ?_
  rintro rb _ g2 ⟨rfl, eb⟩
  obtain ⟨-, -, -, -, -, -, e5, A⟩ := Z
  refine ⟨fun q3 => ⟨fun q4 => ?_, fun q4 => ?_⟩, fun q3 => ⟨J1, .inr ⟨p, hp, rfl, .inl ⟨q3, eb⟩⟩⟩⟩
  · refine c_i (q_X7_objector v w hn e5 A) ?_
    rintro r3 _ g3 ⟨rfl, o⟩
    rw [eb] at o
    refine ⟨J1, .inr ⟨p, hp, rfl, .inr (.inr ⟨?_, o⟩)⟩⟩
    have n2 : ¬ x2.toInt = -2 := fun e => q2 (Int32.toInt_inj.mp (e.trans e2.symm))
    have n3 : ¬ x2.toInt = -3 := fun e => q3 (Int32.toInt_inj.mp (e.trans e3.symm))
    have n1 : ¬ x2.toInt = -1 := fun e => q4 (Int32.toInt_inj.mp (e.trans im1.symm))
    omega
  · refine c_i (q_X7_against v w hn e5 A) ?_
    rintro r3 _ g3 ⟨rfl, o⟩
    rw [eb] at o
    exact ⟨J1, .inr ⟨p, hp, rfl, .inr (.inl ⟨q4, o⟩)⟩⟩
