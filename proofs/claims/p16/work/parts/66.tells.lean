/-! WHAT THE LAW TELLS -/
/-- two numbers joined, by the sign -/
def jn (c : Int32) (a b : Int64) : Int64 :=
  if c = 38 then (if lg_cmp a 0 = 0 then 0 else if lg_cmp b 0 = 0 then 0 else 1)
  else if c = 42 then a * b
  else if c = 43 then a + b
  else if c = 45 then a - b
  else if c = 47 then (if ¬ lg_cmp b 0 = 0 then a / b else 0)
  else if c = 60 then (if 0 ≤ lg_cmp a b then 0 else 1)
  else if c = 61 then (if ¬ lg_cmp a b = 0 then 0 else 1)
  else if c = 62 then (if lg_cmp a b ≤ 0 then 0 else 1)
  else if c = 124 then (if ¬ lg_cmp a 0 = 0 then 1 else if lg_cmp b 0 = 0 then 0 else 1)
  else 0
def u1L (t : Int32) (a : Int64) : Int64 := if t = -126 then -a else if ¬ lg_cmp a 0 = 0 then 0 else 1
def psL (y l hh : Int64) (t : Int32) : Int64 := if ¬ t < 0 then t.toInt64 else if t = -121 then y else if t = -108 then l else hh
def apT (y l hh : Int64) (t : Int32) (s : List Int64) : List Int64 :=
  if kdT t = 1 then psL y l hh t :: s
  else if kdT t = 2 then u1L t (s.headD 0) :: s.tail
  else jn (-t) (s.tail.headD 0) (s.headD 0) :: s.tail.tail
def evL (y l hh : Int64) : List Int32 → List Int64
  | [] => []
  | t :: ts => apT y l hh t (evL y l hh ts)
theorem gdl_len {y l hh : Int64} : ∀ {p : List Int32} {d : Nat}, gdl p d → (evL y l hh p).length = d
  | [], d, h => h.symm
  | t :: ts, d, h => by
    have h1 := h.1
    have e := gdl_len (y := y) (l := l) (hh := hh) h.2
    show (apT y l hh t (evL y l hh ts)).length = d
    unfold apT
    by_cases k1 : kdT t = 1
    · rw [if_pos k1] at e ⊢
      rw [List.length_cons]; omega
    · rw [if_neg k1] at e ⊢
      by_cases k2 : kdT t = 2
      · rw [if_pos k2] at e ⊢
        rw [List.length_cons, List.length_tail]; omega
      · rw [if_neg k2] at e ⊢
        rw [List.length_cons, List.length_tail, List.length_tail]; omega
theorem gdl_suf : ∀ {a b : List Int32} {d : Nat}, gdl (a ++ b) d → ∃ d', gdl b d'
  | [], b, d, h => ⟨d, h⟩
  | x :: xs, b, d, h => gdl_suf (a := xs) h.2
theorem gdl_pos : ∀ {p : List Int32} {d : Nat}, gdl p d → d ≤ p.length
  | [], d, h => Nat.le_of_eq h
  | t :: ts, d, h => by
    have e := gdl_pos h.2
    rw [List.length_cons]
    by_cases k1 : kdT t = 1
    · rw [if_pos k1] at e; omega
    · rw [if_neg k1] at e
      by_cases k2 : kdT t = 2
      · rw [if_pos k2] at e; omega
      · rw [if_neg k2] at e; omega
theorem nil_or : ∀ (a : List Int32), a = [] ∨ ∃ a' t, a = a' ++ [t]
  | [] => .inl rfl
  | x :: xs => by
    rcases nil_or xs with rfl | ⟨a', t, rfl⟩
    · exact .inr ⟨[], x, rfl⟩
    · exact .inr ⟨x :: a', t, rfl⟩
theorem SK.mid {f : Nat → Int32} : ∀ {a b : List Int32} {x : Int32}, SK f (a ++ x :: b) → f b.length = x
  | [], b, x, h => h.1
  | y :: ys, b, x, h => SK.mid (a := ys) h.2
def SKL (f : Nat → Int64) : List Int64 → Prop
  | [] => True
  | x :: xs => f xs.length = x ∧ SKL f xs
theorem SKL.cg {f f' : Nat → Int64} : ∀ {l : List Int64}, (∀ k, k < l.length → f' k = f k) → SKL f l → SKL f' l
  | [], _, _ => trivial
  | x :: xs, e, h => by
    rw [List.length_cons] at e
    exact ⟨(e _ (by omega)).trans h.1, SKL.cg (fun k hk => e k (by omega)) h.2⟩
theorem SKL.push {f : Nat → Int64} {l : List Int64} {x : Int64} (h : SKL f l) : SKL (vp_updL f l.length x) (x :: l) := ⟨pk_uLs, h.cg (fun k hk => pk_uLn (by omega))⟩
theorem q_X4_joined {h : HI} {g : HL} {c : Int32} {a b : Int64} : w_X4_joined c a b h g (fun r h' g' => r = jn c a b ∧ h = h' ∧ g = g') := by
  have j : jn c a b = 1 → j_X4_joined_96 (fun r h' g' => r = jn c a b ∧ h = h' ∧ g = g') h g := fun e => by
    unfold j_X4_joined_96; exact ⟨e.symm, rfl, rfl⟩
  unfold w_X4_joined
  refine ⟨fun k => ?_, fun k => ?_, fun k => ?_, fun k => ?_, fun k => ?_, fun k => ?_, fun k => ?_, fun k => ?_, fun k => ?_, fun c1 c2 c3 c4 c5 c6 c7 c8 c9 => ?_⟩
  · subst k
    refine ⟨fun q => ⟨?_, rfl, rfl⟩, fun q => ⟨fun q2 => ⟨?_, rfl, rfl⟩, fun q2 => ⟨?_, rfl, rfl⟩⟩⟩
    · exact ((if_pos rfl).trans (if_pos q)).symm
    · exact ((if_pos rfl).trans ((if_neg q).trans (if_pos q2))).symm
    · exact ((if_pos rfl).trans ((if_neg q).trans (if_neg q2))).symm
  · subst k; exact ⟨rfl, rfl, rfl⟩
  · subst k; exact ⟨rfl, rfl, rfl⟩
  · subst k; exact ⟨rfl, rfl, rfl⟩
  · subst k
    have e : jn 47 a b = (if ¬ lg_cmp b 0 = 0 then a / b else 0) := rfl
    rw [e]
    exact ⟨fun q => ⟨lgne q, (if_pos q).symm, rfl, rfl⟩, fun q => ⟨(if_neg (fun k => k q)).symm, rfl, rfl⟩⟩
  · subst k
    have e : jn 60 a b = (if 0 ≤ lg_cmp a b then 0 else 1) := rfl
    rw [e]
    exact ⟨fun q => ⟨(if_pos q).symm, rfl, rfl⟩, fun q => ⟨(if_neg q).symm, rfl, rfl⟩⟩
  · subst k
    have e : jn 61 a b = (if ¬ lg_cmp a b = 0 then 0 else 1) := rfl
    rw [e]
    exact ⟨fun q => ⟨(if_pos q).symm, rfl, rfl⟩, fun q => ⟨(if_neg (fun k => k q)).symm, rfl, rfl⟩⟩
  · subst k
    have e : jn 62 a b = (if lg_cmp a b ≤ 0 then 0 else 1) := rfl
    rw [e]
    exact ⟨fun q => ⟨(if_pos q).symm, rfl, rfl⟩, fun q => ⟨(if_neg q).symm, rfl, rfl⟩⟩
  · subst k
    have e : jn 124 a b = (if ¬ lg_cmp a 0 = 0 then 1 else if lg_cmp b 0 = 0 then 0 else 1) := rfl
    rw [e] at j ⊢
    refine ⟨fun q => j (if_pos q), fun q => ⟨fun q2 => ⟨?_, rfl, rfl⟩, fun q2 => j ?_⟩⟩
    · exact ((if_neg (fun k => k q)).trans (if_pos q2)).symm
    · exact (if_neg (fun k => k q)).trans (if_neg q2)
  · have e : jn c a b = 0 := by
      unfold jn
      rw [if_neg c1, if_neg c2, if_neg c3, if_neg c4, if_neg c5, if_neg c6, if_neg c7, if_neg c8, if_neg c9]
    exact ⟨e.symm, rfl, rfl⟩
theorem q_X11_twoOf {h : HI} {g : HL} {c : Int32} {a b : Int64} (hc : c ∈ wcL) (h1 : 1 ≤ rk c ∧ rk c < 6) : w_X11_twoOf (opc c) a b h g (fun r h' g' => r = jn c a b ∧ h = h' ∧ g = g') := by
  have cs : c = 42 ∨ c = 47 ∨ c = 43 ∨ c = 45 ∨ c = 60 ∨ c = 61 ∨ c = 62 ∨ c = 38 ∨ c = 124 := (by decide : ∀ c ∈ wcL, 1 ≤ rk c → rk c < 6 → c = 42 ∨ c = 47 ∨ c = 43 ∨ c = 45 ∨ c = 60 ∨ c = 61 ∨ c = 62 ∨ c = 38 ∨ c = 124) c hc h1.1 h1.2
  have j : jn c a b = 1 → j_X11_twoOf_140 (fun r h' g' => r = jn c a b ∧ h = h' ∧ g = g') h g := fun e => by
    unfold j_X11_twoOf_140; exact ⟨e.symm, rfl, rfl⟩
  unfold w_X11_twoOf
  refine ⟨fun k => ?_, fun k => ?_, fun k => ?_, fun k => ?_, fun k => ?_, fun k => ?_, fun k => ?_, fun k => ?_, fun c1 c2 c3 c4 c5 c6 c7 c8 => ?_⟩
  · have ec : c = 42 := by rcases cs with rfl | rfl | rfl | rfl | rfl | rfl | rfl | rfl | rfl <;> first | rfl | exact absurd k (by decide)
    subst ec; exact ⟨rfl, rfl, rfl⟩
  · have ec : c = 47 := by rcases cs with rfl | rfl | rfl | rfl | rfl | rfl | rfl | rfl | rfl <;> first | rfl | exact absurd k (by decide)
    subst ec
    have e : jn 47 a b = (if ¬ lg_cmp b 0 = 0 then a / b else 0) := rfl
    rw [e]
    exact ⟨fun q => ⟨lgne q, (if_pos q).symm, rfl, rfl⟩, fun q => ⟨(if_neg (fun k => k q)).symm, rfl, rfl⟩⟩
  · have ec : c = 43 := by rcases cs with rfl | rfl | rfl | rfl | rfl | rfl | rfl | rfl | rfl <;> first | rfl | exact absurd k (by decide)
    subst ec; exact ⟨rfl, rfl, rfl⟩
  · have ec : c = 45 := by rcases cs with rfl | rfl | rfl | rfl | rfl | rfl | rfl | rfl | rfl <;> first | rfl | exact absurd k (by decide)
    subst ec; exact ⟨rfl, rfl, rfl⟩
  · have ec : c = 60 := by rcases cs with rfl | rfl | rfl | rfl | rfl | rfl | rfl | rfl | rfl <;> first | rfl | exact absurd k (by decide)
    subst ec
    have e : jn 60 a b = (if 0 ≤ lg_cmp a b then 0 else 1) := rfl
    rw [e]
    exact ⟨fun q => ⟨(if_pos q).symm, rfl, rfl⟩, fun q => ⟨(if_neg q).symm, rfl, rfl⟩⟩
  · have ec : c = 62 := by rcases cs with rfl | rfl | rfl | rfl | rfl | rfl | rfl | rfl | rfl <;> first | rfl | exact absurd k (by decide)
    subst ec
    have e : jn 62 a b = (if lg_cmp a b ≤ 0 then 0 else 1) := rfl
    rw [e]
    exact ⟨fun q => ⟨(if_pos q).symm, rfl, rfl⟩, fun q => ⟨(if_neg q).symm, rfl, rfl⟩⟩
  · have ec : c = 61 := by rcases cs with rfl | rfl | rfl | rfl | rfl | rfl | rfl | rfl | rfl <;> first | rfl | exact absurd k (by decide)
    subst ec
    have e : jn 61 a b = (if ¬ lg_cmp a b = 0 then 0 else 1) := rfl
    rw [e]
    exact ⟨fun q => ⟨(if_pos q).symm, rfl, rfl⟩, fun q => ⟨(if_neg (fun k => k q)).symm, rfl, rfl⟩⟩
  · have ec : c = 38 := by rcases cs with rfl | rfl | rfl | rfl | rfl | rfl | rfl | rfl | rfl <;> first | rfl | exact absurd k (by decide)
    subst ec
    have e : jn 38 a b = (if lg_cmp a 0 = 0 then 0 else if lg_cmp b 0 = 0 then 0 else 1) := rfl
    rw [e]
    refine ⟨fun q => ⟨(if_pos q).symm, rfl, rfl⟩, fun q => ⟨fun q2 => ⟨?_, rfl, rfl⟩, fun q2 => ⟨?_, rfl, rfl⟩⟩⟩
    · exact ((if_neg q).trans (if_pos q2)).symm
    · exact ((if_neg q).trans (if_neg q2)).symm
  · have ec : c = 124 := by
      rcases cs with rfl | rfl | rfl | rfl | rfl | rfl | rfl | rfl | rfl
      · exact absurd (by decide) c1
      · exact absurd (by decide) c2
      · exact absurd (by decide) c3
      · exact absurd (by decide) c4
      · exact absurd (by decide) c5
      · exact absurd (by decide) c7
      · exact absurd (by decide) c6
      · exact absurd (by decide) c8
      · rfl
    subst ec
    have e : jn 124 a b = (if ¬ lg_cmp a 0 = 0 then 1 else if lg_cmp b 0 = 0 then 0 else 1) := rfl
    rw [e] at j ⊢
    refine ⟨fun q => j (if_pos q), fun q => ⟨fun q2 => ⟨?_, rfl, rfl⟩, fun q2 => j ?_⟩⟩
    · exact ((if_neg (fun k => k q)).trans (if_pos q2)).symm
    · exact (if_neg (fun k => k q)).trans (if_neg q2)
/-- a step t of a program p, after the steps b -/
theorem gd_at {p a b : List Int32} {t : Int32} {d : Nat} (h : gdl p d) (e : p = a ++ t :: b) : ∃ d', 1 ≤ d' ∧ gdl b (if kdT t = 1 then d' - 1 else if kdT t = 2 then d' else d' + 1) := by
  subst e
  obtain ⟨d', h'⟩ := gdl_suf h
  exact ⟨d', h'.1, h'.2⟩
theorem q_X4_tells {h : HI} {g : HL} {p : List Int32} (e4 : h 77 4 = nI p.length) (S : SK (h 78) p) (hl : p.length ≤ 60) (G : gdl p 1) {y l hh : Int32} : w_X4_tells y l hh h g (fun r h' _ => h = h' ∧ evL y.toInt64 l.toInt64 hh.toInt64 p = [r]) := by
  unfold w_X4_tells
  refine lpE_intro (fun ⟨a_q, b_q, c_q, d_q, e_q, h_q, g_q⟩ => ∃ a b : List Int32, p = a ++ b ∧ y = a_q ∧ l = b_q ∧ hh = c_q ∧ nI (evL y.toInt64 l.toInt64 hh.toInt64 b).length = d_q ∧ nI b.length = e_q ∧ h = h_q ∧ SKL (g_q 80) (evL y.toInt64 l.toInt64 hh.toInt64 b)) (fun ⟨_, _, _, _, e_q, _, _⟩ => dif (nI p.length) e_q) ?_ _ ⟨p, [], (List.append_nil p).symm, rfl, rfl, rfl, nI_0, nI_0, rfl, trivial⟩
  rintro ⟨y1, y2, y3, y4, y5, h1, g1⟩ K ⟨a, b, ep, rfl, rfl, rfl, rfl, rfl, rfl, SL⟩ hK
  unfold F_X4_tells_6; dsimp only; unfold b_X4_tells_6
  rw [e4]
  have lp : p.length = a.length + b.length := by rw [ep, List.length_append]
  have fin : a = [] → j_X4_tells_243 (fun r h' _ => h = h' ∧ evL y.toInt64 l.toInt64 hh.toInt64 p = [r]) (nI (evL y.toInt64 l.toInt64 hh.toInt64 b).length) h g1 := by
    intro ea
    subst ea
    have ep : p = b := ep
    subst ep
    have l1 := gdl_len (y := y.toInt64) (l := l.toInt64) (hh := hh.toInt64) G
    generalize evL y.toInt64 l.toInt64 hh.toInt64 p = s at l1 SL ⊢
    match s, l1, SL with
    | [v], _, SL =>
      unfold j_X4_tells_243
      have e1 : nI ([v] : List Int64).length - (1 : Int32) = nI 0 := nI_pred 0
      refine ⟨fun c => absurd (show nI 1 ≤ 0 from c) (by decide), fun _ => ?_⟩
      rw [e1, nI_clamp (by decide)]
      refine ⟨vp_in_nI (by decide) (by decide), rfl, ?_⟩
      rw [show g1 80 0 = v from SL.1]
  refine ⟨fun c => fin ?_, fun c => ⟨fun c2 => ?_, fun c2 => ?_⟩⟩
  · rw [nI_leI (by omega) (by omega)] at c
    exact List.eq_nil_of_length_eq_zero (by omega)
  · rw [nI_leI (by omega) (by omega)] at c
    rw [show (60 : Int32) = nI 60 from rfl, nI_leI (by omega) (by omega)] at c2; omega
  have hd := dif_lt c
  rw [nI_leI (by omega) (by omega)] at c
  rcases nil_or a with rfl | ⟨a', t, rfl⟩
  · rw [List.length_nil] at lp; omega
  have ep : p = a' ++ t :: b := by rw [ep, List.append_assoc]; rfl
  have hb : b.length < 60 := by omega
  refine and_have (vp_in_nI hb (by omega)) (fun _ => ?_)
  rw [nI_clamp (n := b.length) (by omega), show h 78 b.length = t by rw [ep] at S; exact S.mid]
  intro x6 ex
  replace ex := ex.symm
  subst ex
  obtain ⟨d', d1, gb⟩ := gd_at G ep
  have lb := gdl_len (y := y.toInt64) (l := l.toInt64) (hh := hh.toInt64) gb
  have pb := gdl_pos gb
  have ev1 : evL y.toInt64 l.toInt64 hh.toInt64 (t :: b) = apT y.toInt64 l.toInt64 hh.toInt64 t (evL y.toInt64 l.toInt64 hh.toInt64 b) := rfl
  generalize eb : evL y.toInt64 l.toInt64 hh.toInt64 b = s at SL lb ev1 fin ⊢
  have j237 : ∀ (s' : List Int64) (g2 : HL), evL y.toInt64 l.toInt64 hh.toInt64 (t :: b) = s' → SKL (g2 80) s' → j_X4_tells_237 (fun r h' _ => h = h' ∧ evL y.toInt64 l.toInt64 hh.toInt64 p = [r]) (fun x1 x2 x3 x4 x5 h g => K (x1, x2, x3, x4, x5, h, g)) y l hh (nI s'.length) (nI b.length) h g2 := by
    intro s' g2 es S2
    unfold j_X4_tells_237
    rintro _ rfl
    subst es
    exact hK _ ⟨a', t :: b, ep, rfl, rfl, rfl, rfl, (nI_1 b.length).symm, rfl, S2⟩ hd
  have push : kdT t = 1 → j_X4_tells_60 (fun r h' _ => h = h' ∧ evL y.toInt64 l.toInt64 hh.toInt64 p = [r]) (fun x1 x2 x3 x4 x5 h g => K (x1, x2, x3, x4, x5, h, g)) y l hh (nI s.length) (nI b.length) t h g1 := by
    intro k1
    rw [if_pos k1] at lb pb
    have ea : apT y.toInt64 l.toInt64 hh.toInt64 t s = psL y.toInt64 l.toInt64 hh.toInt64 t :: s := if_pos k1
    have j115 : ∀ v : Int64, psL y.toInt64 l.toInt64 hh.toInt64 t = v → j_X4_tells_115 (fun r h' _ => h = h' ∧ evL y.toInt64 l.toInt64 hh.toInt64 p = [r]) (fun x1 x2 x3 x4 x5 h g => K (x1, x2, x3, x4, x5, h, g)) y l hh (nI s.length) (nI b.length) (nI s.length) v h g1 := by
      rintro _ rfl
      unfold j_X4_tells_115
      refine and_have (vp_in_nI (by omega) (by omega)) (fun _ => ?_)
      intro g2 e2
      rw [nI_clamp (by omega)] at e2
      rintro _ rfl
      rw [nI_1]
      refine j237 (psL y.toInt64 l.toInt64 hh.toInt64 t :: s) g2 (ev1.trans ea) ?_
      rw [e2, hul_eq]; exact SL.push
    unfold j_X4_tells_60
    refine ⟨fun _ => ⟨fun n0 => ⟨fun n1 => ⟨fun n2 => j115 _ ?_, fun n2 => j115 _ ?_⟩, fun n1 => j115 _ ?_⟩, fun n0 => j115 _ ?_⟩, fun q => ?_⟩
    · exact (if_neg (fun k => k n0)).trans ((if_neg n1).trans (if_neg n2))
    · exact (if_neg (fun k => k n0)).trans ((if_neg n1).trans (if_pos n2))
    · exact (if_neg (fun k => k n0)).trans (if_pos n1)
    · exact if_pos n0
    · exact absurd ((nI_ltI (b := 60) (by omega) (by omega)).mpr (by omega)) q
  have un : kdT t = 2 → j_X4_tells_136 (fun r h' _ => h = h' ∧ evL y.toInt64 l.toInt64 hh.toInt64 p = [r]) (fun x1 x2 x3 x4 x5 h g => K (x1, x2, x3, x4, x5, h, g)) y l hh (nI s.length) (nI b.length) t h g1 := by
    intro k2
    rw [if_neg (by omega), if_pos k2] at lb pb
    have ea : apT y.toInt64 l.toInt64 hh.toInt64 t s = u1L t (s.headD 0) :: s.tail := (if_neg (by omega)).trans (if_pos k2)
    cases s with
    | nil => rw [List.length_nil] at lb; omega
    | cons x xs =>
      have ea : apT y.toInt64 l.toInt64 hh.toInt64 t (x :: xs) = u1L t x :: xs := ea
      rw [List.length_cons] at lb ⊢
      have v : vp_in (nI xs.length) 60 := vp_in_nI (by omega) (by omega)
      have j191 : ∀ w : Int64, u1L t x = w → j_X4_tells_191 (fun r h' _ => h = h' ∧ evL y.toInt64 l.toInt64 hh.toInt64 p = [r]) (fun x1 x2 x3 x4 x5 h g => K (x1, x2, x3, x4, x5, h, g)) y l hh (nI (xs.length + 1)) (nI b.length) (nI xs.length) w h g1 := by
        rintro _ rfl
        unfold j_X4_tells_191
        refine and_have v (fun _ => ?_)
        intro g2 e2
        rw [nI_clamp (by omega)] at e2
        refine j237 (u1L t x :: xs) g2 (ev1.trans ea) ?_
        rw [e2, hul_eq]; exact SKL.push SL.2
      unfold j_X4_tells_136
      rw [nI_pred, nI_clamp (n := xs.length) (by omega), SL.1]
      refine ⟨fun _ => ⟨fun n6 => and_have v (fun _ => ⟨fun q => j191 _ ?_, fun q => j191 _ ?_⟩), fun n6 => and_have v (fun _ => j191 _ ?_)⟩, fun q => ?_⟩
      · exact (if_neg n6).trans (if_pos q)
      · exact (if_neg n6).trans (if_neg (fun k => k q))
      · exact if_pos n6
      · exact absurd ((nI_leI (a := 1) (by omega) (by omega)).mpr (by omega)) q
  refine ⟨fun q => push (if_pos (.inl (Int32.not_lt.mpr q))), fun q => ⟨fun q1 => push (if_pos (.inr (.inl q1))), fun q1 => ⟨fun q2 => push (if_pos (.inr (.inr (.inl q2)))), fun q2 => ⟨fun q3 => ?_, fun q3 => push (if_pos (.inr (.inr (.inr q3))))⟩⟩⟩⟩
  have nk1 : ¬ (¬ t < 0 ∨ t = -121 ∨ t = -108 ∨ t = -104) := fun k => k.elim (fun k => q (Int32.not_lt.mp k)) (fun k => k.elim q1 (fun k => k.elim q2 q3))
  refine ⟨fun q4 => un ((if_neg nk1).trans (if_pos (.inl q4))), fun q4 => ⟨fun q5 => ?_, fun q5 => un ((if_neg nk1).trans (if_pos (.inr q5)))⟩⟩
  have k3 : kdT t = 3 := (if_neg nk1).trans (if_neg (fun k => k.elim q4 q5))
  rw [if_neg (by omega), if_neg (by omega)] at lb pb
  have ea : apT y.toInt64 l.toInt64 hh.toInt64 t s = jn (-t) (s.tail.headD 0) (s.headD 0) :: s.tail.tail := (if_neg (by omega)).trans (if_neg (by omega))
  cases s with
  | nil => rw [List.length_nil] at lb; omega
  | cons x xs =>
    cases xs with
    | nil =>
      rw [List.length_cons, List.length_nil] at lb; omega
    | cons x2 xs =>
      have ea : apT y.toInt64 l.toInt64 hh.toInt64 t (x :: x2 :: xs) = jn (-t) x2 x :: xs := ea
      rw [List.length_cons, List.length_cons] at lb ⊢
      refine ⟨fun _ => ?_, fun k => absurd ((nI_leI (a := 2) (by omega) (by omega)).mpr (by omega)) k⟩
      rw [pk_m1]
      rintro _ rfl
      have sx : g1 80 (xs.length + 1) = x := SL.1
      have sx2 : g1 80 xs.length = x2 := SL.2.1
      rw [nI_pred, nI_clamp (n := xs.length) (by omega), nI_clamp (n := xs.length + 1) (by omega), sx, sx2]
      have v : vp_in (nI xs.length) 60 := vp_in_nI (by omega) (by omega)
      refine and_have v (fun _ => and_have (vp_in_nI (by omega) (by omega)) (fun _ => ?_))
      refine c_l q_X4_joined ?_
      rintro _ _ _ ⟨rfl, rfl, rfl⟩
      refine and_have v (fun _ => ?_)
      intro g2 e2
      refine j237 (jn (-t) x2 x :: xs) g2 (ev1.trans ea) ?_
      rw [e2, hul_eq]; exact SKL.push SL.2.2
