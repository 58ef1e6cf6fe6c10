/-! THE REFERENCE READS IT SO -/
def opc (x : Int32) : Int32 := if x = 33 then 2 else if x = 126 then 3 else if x = 42 then 4 else if x = 47 then 5 else if x = 43 then 6 else if x = 45 then 7 else if x = 60 then 8 else if x = 62 then 9 else if x = 61 then 10 else if x = 38 then 11 else if x = 124 then 12 else 13
def tc1 (t : Int32) : Int32 := if ¬ t < 0 then 0 else if t = -121 ∨ t = -108 ∨ t = -104 then 1 else opc (-t)
def tc2 (t : Int32) : Int32 := if ¬ t < 0 then t else if t = -108 then 1 else if t = -104 then 2 else 0
theorem hld_opc {w : Int32} (h : w ∈ wcL) : hld (opc w) = nI (rk w) := (by decide : ∀ w ∈ wcL, hld (opc w) = nI (rk w)) w h
theorem tc_w {w : Int32} (h : w ∈ wcL) (h1 : 1 ≤ rk w) : tc1 (-w) = opc w ∧ tc2 (-w) = 0 := (by decide : ∀ w ∈ wcL, 1 ≤ rk w → tc1 (-w) = opc w ∧ tc2 (-w) = 0) w h h1
theorem tc_n {v : Nat} (h : v < 2 ^ 31) : tc1 (nI v) = 0 ∧ tc2 (nI v) = nI v := ⟨if_pos (nI_pos h), if_pos (nI_pos h)⟩
def RTK (h : HI) (o w : List Int32) : Prop := h 135 3 = nI o.length ∧ SK (h 139) (o.map tc1) ∧ SK (h 140) (o.map tc2) ∧ h 135 6 = nI w.length ∧ SK (h 141) (w.map opc)
theorem SK.pm {f : Nat → Int32} {k : Int32 → Int32} {l : List Int32} {t : Int32} (h : SK f (l.map k)) : SK (upd f l.length (k t)) ((t :: l).map k) := by
  have e := SK.push (x := k t) h
  rw [List.length_map] at e
  exact e
theorem SK.hm {f : Nat → Int32} {k : Int32 → Int32} {l : List Int32} {t : Int32} (h : SK f ((t :: l).map k)) : f l.length = k t ∧ SK f (l.map k) := by
  have e : f (l.map k).length = k t ∧ SK f (l.map k) := h
  rw [List.length_map] at e
  exact e
theorem RTK.emit {h h' : HI} {o w : List Int32} {t : Int32} (S : RTK h o w) (t3 : h' 135 3 = nI (o.length + 1)) (t6 : h' 135 6 = h 135 6) (t139 : h' 139 = upd (h 139) o.length (tc1 t)) (t140 : h' 140 = upd (h 140) o.length (tc2 t)) (t141 : h' 141 = h 141) : RTK h' (t :: o) w := by
  obtain ⟨s3, s9, s0, s6, s1⟩ := S
  exact ⟨t3, by rw [t139]; exact s9.pm, by rw [t140]; exact s0.pm, t6.trans s6, by rw [t141]; exact s1⟩
theorem RTK.wait {h h' : HI} {o w : List Int32} {c : Int32} (S : RTK h o w) (t6 : h' 135 6 = nI (w.length + 1)) (t3 : h' 135 3 = h 135 3) (t141 : h' 141 = upd (h 141) w.length (opc c)) (t139 : h' 139 = h 139) (t140 : h' 140 = h 140) : RTK h' o (c :: w) := by
  obtain ⟨s3, s9, s0, s6, s1⟩ := S
  exact ⟨t3.trans s3, by rw [t139]; exact s9, by rw [t140]; exact s0, t6, by rw [t141]; exact s1.pm⟩
theorem q_X11_settles {h : HI} {g : HL} {r : Nat} {o w : List Int32} (S : RTK h o w) (V : ∀ x, x ∈ w → x ∈ wcL) (B : o.length + w.length ≤ 60) (hr : 1 ≤ r ∧ r < 100) : w_X11_settles (nI r) h g (fun h' _ => KJ SRd h h' ∧ RTK h' (stl r w o).2 (stl r w o).1) := by
  unfold w_X11_settles
  refine lpE_intro (fun ⟨a_q, h_q, _⟩ => ∃ o' w' : List Int32, nI r = a_q ∧ KJ SRd h h_q ∧ RTK h_q o' w' ∧ (∀ x, x ∈ w' → x ∈ wcL) ∧ o'.length + w'.length ≤ 60 ∧ stl r w' o' = stl r w o) (fun ⟨_, h_q, _⟩ => (h_q 135 6).toNatClampNeg) ?_ _ ⟨o, w, rfl, KJ.rf, S, V, B, rfl⟩
  rintro ⟨y1, h1, g1⟩ K ⟨o', w', rfl, J, S1, V1, B1, e⟩ hK
  unfold F_X11_settles_0; dsimp only; unfold b_X11_settles_0
  have S1' := S1
  obtain ⟨s3, s9, s0, s6, s1⟩ := S1
  cases w' with
  | nil =>
    rw [s6]
    refine ⟨fun _ => ⟨J, ?_⟩, fun c => absurd (by decide) c⟩
    rw [← e]; exact S1'
  | cons a ws =>
    have s6 : h1 135 6 = nI (ws.length + 1) := s6
    have B1 : o'.length + (ws.length + 1) ≤ 60 := B1
    obtain ⟨sa, st⟩ := s1.hm
    rw [s6]
    refine ⟨fun c => ?_, fun c => ?_⟩
    · rw [show (0 : Int32) = nI 0 from rfl, nI_leI (by omega) (by omega)] at c; omega
    rw [nI_pred, nI_clamp (n := ws.length) (by omega), sa]
    have v : vp_in (nI ws.length) 70 := vp_in_nI (by omega) (by omega)
    refine and_have v (fun _ => ?_)
    refine c_i p_X11_holds ?_
    rintro _ _ _ ⟨rfl, rfl, rfl⟩
    have ha := V1 a (List.mem_cons_self ..)
    have h6 := rk_6 a
    rw [hld_opc ha, nI_ltI (by omega) (by omega)]
    refine ⟨fun c2 => ⟨J, ?_⟩, fun c2 => ?_⟩
    · rw [← e, stl_n (by omega)]; exact S1'
    intro h2 e2
    rw [s6, nI_pred] at e2
    have k6 : h2 135 6 = nI ws.length := by rw [e2, hu_eq, pk_us]
    have k3 : h2 135 3 = nI o'.length := by rw [e2, hu_eq, pk_un (by decide)]; exact s3
    have e139 : h2 139 = h1 139 := by rw [e2, hu_ne (by decide)]
    have e140 : h2 140 = h1 140 := by rw [e2, hu_ne (by decide)]
    have e141 : h2 141 = h1 141 := by rw [e2, hu_ne (by decide)]
    rw [k6, nI_clamp (by omega), e141, sa]
    refine and_have v (fun _ => ?_)
    refine c_v (p_X11_emits k3 (by omega)) ?_
    rintro h3 g3 ⟨rfl, J3, t3, t6, t139, t140, t141⟩
    obtain ⟨w1, w2⟩ := tc_w ha (by omega)
    have S2 : RTK h2 o' ws := ⟨k3, by rw [e139]; exact s9, by rw [e140]; exact s0, k6, by rw [e141]; exact st⟩
    refine hK _ ⟨-a :: o', ws, rfl, (J.hu e2 (by unfold SRd; omega)).tr J3, S2.emit t3 t6 (by rw [w1]; exact t139) (by rw [w2]; exact t140) t141, fun x hx => V1 x (List.mem_cons_of_mem _ hx), by rw [List.length_cons]; omega, by rw [← e, stl_y (by omega)]⟩ ?_
    dsimp only
    rw [t6, k6, s6, nI_clamp (by omega), nI_clamp (by omega)]
    omega
theorem stl_6 {r : Nat} (hr : r ≤ 6) : ∀ {w o : List Int32}, stl r (stl 6 w o).1 (stl 6 w o).2 = stl r w o
  | [], o => rfl
  | w :: ws, o => by
    by_cases c : 6 ≤ rk w
    · rw [stl_y c, stl_6 hr, stl_y (by omega)]
    · rw [stl_n c]
theorem stl_34 {w o : List Int32} (h : ¬ tp (stl 4 w o).1 = 3) : stl 3 (stl 4 w o).1 (stl 4 w o).2 = stl 4 w o := by
  have t := stl_tp (r := 4) (w := w) (o := o)
  generalize stl 4 w o = s at h t ⊢
  obtain ⟨w', o'⟩ := s
  cases w' with
  | nil => rfl
  | cons a ws =>
    have h : ¬ rk a = 3 := h
    have := t a ws rfl
    exact stl_n (by omega)
theorem q_X11_goesOn {h : HI} {g : HL} {c : Int32} {o w : List Int32} (S : RTK h (stl 6 w o).2 (stl 6 w o).1) (V : ∀ x, x ∈ w → x ∈ wcL) (B : o.length + w.length ≤ 59) (hc : 1 ≤ rk c ∧ rk c < 6) : w_X11_goesOn (opc c) h g (fun r h' _ => KJ SRd h h' ∧ ((r = 0 ∧ rk c = 3 ∧ tp (stl (rr c) w o).1 = 3) ∨ (r = 1 ∧ ¬ (rk c = 3 ∧ tp (stl (rr c) w o).1 = 3) ∧ RTK h' (stl (rr c) w o).2 (c :: (stl (rr c) w o).1)))) := by
  have cw := rk_wc hc.1
  have l6 := stl_len (r := 6) (w := w) (o := o)
  have l4 := stl_len (r := 4) (w := w) (o := o)
  have lr := stl_len (r := rr c) (w := w) (o := o)
  have v6 := stl_w (r := 6) (w := w) (o := o)
  have v4 := stl_w (r := 4) (w := w) (o := o)
  unfold w_X11_goesOn
  refine c_i p_X11_holds ?_
  rintro _ _ _ ⟨rfl, rfl, rfl⟩
  rw [hld_opc cw]
  have j42 : ∀ (h1 : HI) (g1 : HL) (o1 w1 : List Int32), KJ SRd h h1 → RTK h1 o1 w1 → (∀ x, x ∈ w1 → x ∈ wcL) → o1.length + w1.length ≤ 59 → stl (rk c) w1 o1 = stl (rr c) w o → ¬ (rk c = 3 ∧ tp (stl (rr c) w o).1 = 3) → j_X11_goesOn_42 (fun r h' _ => KJ SRd h h' ∧ ((r = 0 ∧ rk c = 3 ∧ tp (stl (rr c) w o).1 = 3) ∨ (r = 1 ∧ ¬ (rk c = 3 ∧ tp (stl (rr c) w o).1 = 3) ∧ RTK h' (stl (rr c) w o).2 (c :: (stl (rr c) w o).1)))) (opc c) (nI (rk c)) h1 g1 := by
    intro h1 g1 o1 w1 J1 S1 V1 B1 es n3
    unfold j_X11_goesOn_42
    refine c_v (q_X11_settles S1 V1 (by omega) (by omega)) ?_
    rintro h2 g2 ⟨J2, S2⟩
    rw [es] at S2
    refine c_v (p_X11_waitsWith S2.2.2.2.1 (by omega)) ?_
    rintro h3 g3 ⟨rfl, J3, t6, t3, t141, t139, t140⟩
    exact ⟨(J1.tr J2).tr J3, .inr ⟨rfl, n3, S2.wait t6 t3 t141 t139 t140⟩⟩
  refine ⟨fun k3 => ?_, fun k3 => ?_⟩
  · have e : rr c = rk c := if_neg (fun q => k3 (by rw [q]; rfl))
    refine j42 h g _ _ KJ.rf S (fun x hx => V x (v6 x hx)) (by omega) (by rw [e]; exact stl_6 (by omega)) (fun q => k3 (by rw [q.1]; rfl))
  · have k3 : rk c = 3 := (nI_eq (b := 3) (by omega) (by omega)).mp k3
    have er : rr c = 4 := if_pos k3
    rw [er] at j42 ⊢
    refine c_v (q_X11_settles (r := 4) S (fun x hx => V x (v6 x hx)) (by omega) (by omega)) ?_
    rintro h1 g1 ⟨J1, S1⟩
    rw [stl_6 (by omega)] at S1
    have t4 : ∀ x, x ∈ (stl 4 w o).1 → x ∈ wcL := fun x hx => V x (v4 x hx)
    have go : ∀ g1 : HL, ¬ tp (stl 4 w o).1 = 3 → _ := fun g1 nt => j42 h1 g1 _ _ J1 S1 t4 (by omega) (by rw [k3]; exact stl_34 nt) (fun q => nt q.2)
    have s6 := S1.2.2.2.1
    have s1 := S1.2.2.2.2
    rw [s6]
    generalize stl 4 w o = s at l4 s1 t4 go ⊢
    obtain ⟨w', o'⟩ := s
    cases w' with
    | nil => exact ⟨fun _ => go g1 (show ¬ tp ([] : List Int32) = 3 by decide), fun q => absurd (show nI ([] : List Int32).length ≤ 0 by decide) q⟩
    | cons a ws =>
      obtain ⟨sa, -⟩ := SK.hm s1
      have l4 : ws.length + 1 + o'.length = w.length + o.length := l4
      have h6 := rk_6 a
      refine ⟨fun q => ?_, fun _ => ?_⟩
      · have q : nI (ws.length + 1) ≤ 0 := q
        rw [show (0 : Int32) = nI 0 from rfl, nI_leI (by omega) (by omega)] at q; omega
      dsimp only [List.length_cons]
      rw [nI_pred]
      refine and_have (vp_in_nI (by omega) (by omega)) (fun _ => ?_)
      rw [nI_clamp (by omega), sa]
      refine c_i p_X11_holds ?_
      rintro _ _ _ ⟨rfl, rfl, rfl⟩
      rw [hld_opc (t4 a (List.mem_cons_self ..))]
      refine ⟨fun q => go g1 (fun e => q (by have e : rk a = 3 := e; rw [e]; rfl)), fun q => ⟨J1, .inl ⟨rfl, k3, ?_⟩⟩⟩
      show rk a = 3
      exact (nI_eq (b := 3) (by omega) (by omega)).mp q
/-- the state between two signs: a UNIT read is told at once -/
def RTl (h : HI) (o w : List Int32) (u : Nat) : Prop := if u = 0 then RTK h (stl 6 w o).2 (stl 6 w o).1 else RTK h o w
theorem RTl.z {h : HI} {o w : List Int32} : RTl h o w 0 ↔ RTK h (stl 6 w o).2 (stl 6 w o).1 := by unfold RTl; rw [if_pos rfl]
theorem RTl.o {h : HI} {o w : List Int32} : RTl h o w 1 ↔ RTK h o w := by unfold RTl; rw [if_neg (by decide)]
theorem sof_y {c : Int32} (h : ¬ sof c = -1) : sof c = opc c ∧ 1 ≤ rk c ∧ rk c < 6 := by
  unfold sof at h ⊢
  by_cases c1 : c = 38
  · subst c1; decide
  by_cases c2 : c = 42
  · subst c2; decide
  by_cases c3 : c = 43
  · subst c3; decide
  by_cases c4 : c = 45
  · subst c4; decide
  by_cases c5 : c = 47
  · subst c5; decide
  by_cases c6 : c = 60
  · subst c6; decide
  by_cases c7 : c = 61
  · subst c7; decide
  by_cases c8 : c = 62
  · subst c8; decide
  by_cases c9 : c = 124
  · subst c9; decide
  rw [if_neg c1, if_neg c2, if_neg c3, if_neg c4, if_neg c5, if_neg c6, if_neg c7, if_neg c8, if_neg c9] at h
  exact absurd rfl h
theorem sof_n {c : Int32} (h : sof c = -1) : rk c < 1 ∨ 6 ≤ rk c := by
  unfold rk
  by_cases c1 : c = 33
  · rw [if_pos c1]; exact .inr (by omega)
  rw [if_neg c1]
  by_cases c2 : c = 126
  · rw [if_pos c2]; exact .inr (by omega)
  rw [if_neg c2]
  by_cases c3 : c = 42
  · subst c3; exact absurd h (by decide)
  rw [if_neg c3]
  by_cases c4 : c = 47
  · subst c4; exact absurd h (by decide)
  rw [if_neg c4]
  by_cases c5 : c = 43
  · subst c5; exact absurd h (by decide)
  rw [if_neg c5]
  by_cases c6 : c = 45
  · subst c6; exact absurd h (by decide)
  rw [if_neg c6]
  by_cases c7 : c = 60
  · subst c7; exact absurd h (by decide)
  rw [if_neg c7]
  by_cases c8 : c = 61
  · subst c8; exact absurd h (by decide)
  rw [if_neg c8]
  by_cases c9 : c = 62
  · subst c9; exact absurd h (by decide)
  rw [if_neg c9]
  by_cases c10 : c = 38
  · subst c10; exact absurd h (by decide)
  rw [if_neg c10]
  by_cases c11 : c = 124
  · subst c11; exact absurd h (by decide)
  rw [if_neg c11]; exact .inl (by omega)
theorem nof_y {c : Int32} (h : ¬ nof c = -1) : (c = 121 ∨ c = 108 ∨ c = 104) ∧ tc1 (-c) = 1 ∧ tc2 (-c) = nof c := by
  unfold nof at h ⊢
  by_cases c1 : c = 104
  · subst c1; decide
  by_cases c2 : c = 108
  · subst c2; decide
  by_cases c3 : c = 121
  · subst c3; decide
  rw [if_neg c1, if_neg c2, if_neg c3] at h
  exact absurd rfl h
theorem nof_n {c : Int32} (h : nof c = -1) : ¬ c = 121 ∧ ¬ c = 108 ∧ ¬ c = 104 :=
  ⟨fun e => by subst e; exact absurd h (by decide), fun e => by subst e; exact absurd h (by decide), fun e => by subst e; exact absurd h (by decide)⟩
/-- the reference's program -/
def PRr (h : HI) (p : List Int32) : Prop := h 135 3 = nI p.length ∧ SK (h 139) (p.map tc1) ∧ SK (h 140) (p.map tc2)
def QRl (h : HI) (f : Nat → Int32) (N : Nat) (r : Int32) (h' : HI) : Prop := KJ SRd h h' ∧ ∃ p, RSl f N r p ∧ (r = -1 → PRr h' p)
theorem dg_bd {c : Int32} : bd (48 : Int64).toInt (57 : Int64).toInt c ↔ dgt c := by
  unfold bd dgt
  rw [Int32.lt_iff_toInt_lt, Int32.lt_iff_toInt_lt, show (48 : Int64).toInt = 48 by decide, show (57 : Int64).toInt = 57 by decide, show (48 : Int32).toInt = 48 by decide, show (57 : Int32).toInt = 57 by decide]
  omega
