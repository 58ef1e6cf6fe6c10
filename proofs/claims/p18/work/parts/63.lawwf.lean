/-! WHAT IS READ CAN BE RUN -/
/-- the steps t, the last first, leave d numbers on the pile, and never lack one: 1 puts, 2 changes, 3 joins -/
def kdT (t : Int32) : Nat := if ¬ t < 0 ∨ t = -121 ∨ t = -108 ∨ t = -104 then 1 else if t = -33 ∨ t = -126 then 2 else 3
def gdl : List Int32 → Nat → Prop
  | [], d => d = 0
  | t :: ts, d => 1 ≤ d ∧ gdl ts (if kdT t = 1 then d - 1 else if kdT t = 2 then d else d + 1)
def cbl : List Int32 → Nat
  | [] => 0
  | x :: xs => cbl xs + (if x = 33 ∨ x = 126 ∨ x = 40 then 0 else 1)
theorem kd_w {w : Int32} (h : w ∈ wcL) (h1 : 1 ≤ rk w) : (if w = 33 ∨ w = 126 ∨ w = 40 then 0 else 1) = (if kdT (-w) = 1 then 5 else if kdT (-w) = 2 then 0 else 1) := (by decide : ∀ w ∈ wcL, 1 ≤ rk w → (if w = 33 ∨ w = 126 ∨ w = 40 then 0 else 1) = (if kdT (-w) = 1 then 5 else if kdT (-w) = 2 then 0 else 1)) w h h1
theorem kd_3 (t : Int32) : kdT t = 1 ∨ kdT t = 2 ∨ kdT t = 3 := by
  unfold kdT
  by_cases a : ¬ t < 0 ∨ t = -121 ∨ t = -108 ∨ t = -104
  · rw [if_pos a]; exact .inl rfl
  · rw [if_neg a]
    by_cases b : t = -33 ∨ t = -126
    · rw [if_pos b]; exact .inr (.inl rfl)
    · rw [if_neg b]; exact .inr (.inr rfl)
theorem gdl_stl {r : Nat} (hr : 1 ≤ r) : ∀ {w o : List Int32}, (∀ x, x ∈ w → x ∈ wcL) → gdl o (cbl w + 1) → gdl (stl r w o).2 (cbl (stl r w o).1 + 1)
  | [], o, _, h => h
  | w :: ws, o, hw, h => by
    by_cases c : r ≤ rk w
    · rw [stl_y c]
      refine gdl_stl hr (fun x hx => hw x (List.mem_cons_of_mem _ hx)) ⟨by omega, ?_⟩
      have k := kd_w (hw w (List.mem_cons_self ..)) (by omega)
      have e : cbl (w :: ws) = cbl ws + (if w = 33 ∨ w = 126 ∨ w = 40 then 0 else 1) := rfl
      rw [e, k] at h
      rcases kd_3 (-w) with q | q | q
      · exfalso
        rw [q, if_pos rfl] at k
        by_cases z : w = 33 ∨ w = 126 ∨ w = 40
        · rw [if_pos z] at k; omega
        · rw [if_neg z] at k; omega
      · rw [q, if_neg (by decide), if_pos rfl] at h ⊢; exact h
      · rw [q, if_neg (by decide), if_neg (by decide)] at h ⊢; exact h
    · rw [stl_n c]; exact h
def GIl : LSt → Prop
  | (o, w, _, _, u) => gdl o (cbl w + (1 - u))
theorem gdl_push {t : Int32} {o : List Int32} {d : Nat} (h : gdl o d) (k : kdT t = 1) : gdl (t :: o) (d + 1) := by
  refine ⟨by omega, ?_⟩
  rw [if_pos k, Nat.add_sub_cancel]; exact h
theorem kd_n {v : Nat} (h : v < 2 ^ 31) : kdT (nI v) = 1 := if_pos (.inl (nI_pos h))
theorem GIl.nx {c : Int32} {i : Nat} {s : LSt} (I : SIl i s) (x : GIl s) (b : badL c s = 0) : GIl (nxL c s) := by
  obtain ⟨o, w, n, d, u⟩ := s
  obtain ⟨a1, a2, a3, a4, a5, a6, a7, a8, a9⟩ := I
  have x : gdl o (cbl w + (1 - u)) := x
  by_cases cd : dgt c
  · obtain ⟨v, hv, ev, -⟩ := dg_nI cd
    rw [bad_dg cd] at b
    by_cases d0 : d = 0
    · subst d0
      have u1 : u = 1 := by
        by_cases q : u = 0
        · rw [if_pos ⟨rfl, q⟩] at b; omega
        · omega
      subst u1
      rw [nx_d0 cd, ev]
      exact gdl_push x (kd_n (by omega))
    · rw [nx_d1 cd d0, ev]
      obtain ⟨e0, v0, xs, e1, e2⟩ := a3 (by omega)
      subst e1
      subst e0
      have p6 : 10 ^ d ≤ 10 ^ 6 := Nat.pow_le_pow_right (by decide) (by omega)
      have eh : 10 * hd0 (nI v0 :: xs) + nI v = nI (10 * v0 + v) := by
        rw [show hd0 (nI v0 :: xs) = nI v0 from rfl, show (10 : Int32) = nI 10 from rfl, pk_mul, nI_add]
      rw [eh]
      refine ⟨by omega, ?_⟩
      have y := x.2
      rw [if_pos (kd_n (by omega))] at y ⊢
      exact y
  by_cases c32 : c = 32
  · rw [nx_sp cd c32]; exact x
  by_cases u0 : u = 0
  · subst u0
    rw [bad_f cd c32] at b
    rw [nx_f cd c32]
    by_cases c41 : c = 41
    · rw [if_pos c41] at b ⊢
      have n0 : ¬ n = 0 := fun q => by rw [if_pos q] at b; omega
      have k := stl_c40 (r := 1) (Nat.le_refl _) (w := w) (o := o)
      have m := stl_w (r := 1) (w := w) (o := o)
      have tpx := stl_tp (r := 1) (w := w) (o := o)
      have y := gdl_stl (r := 1) (Nat.le_refl _) a8 x
      generalize stl 1 w o = s at k m tpx y ⊢
      obtain ⟨w', o'⟩ := s
      cases w' with
      | nil =>
        rw [a2] at k
        exact absurd k.symm n0
      | cons z zs =>
        have y40 : z = 40 := wc0 (a8 z (m z (List.mem_cons_self ..))) (tpx z zs rfl)
        subst y40
        have y : gdl o' (cbl zs + (if (40 : Int32) = 33 ∨ (40 : Int32) = 126 ∨ (40 : Int32) = 40 then 0 else 1) + 1) := y
        rw [if_pos (.inr (.inr rfl))] at y
        exact y
    · rw [if_neg c41] at b ⊢
      have rb : 1 ≤ rk c ∧ rk c < 6 := by
        by_cases q : rk c < 1 ∨ 6 ≤ rk c
        · rw [if_pos q] at b; omega
        · omega
      have rrb : 1 ≤ rr c := by
        unfold rr
        by_cases q : rk c = 3
        · rw [if_pos q]; omega
        · rw [if_neg q]; exact rb.1
      have y := gdl_stl (r := rr c) rrb a8 x
      have nb : ¬ (c = 33 ∨ c = 126 ∨ c = 40) := fun q => by
        rcases q with rfl | rfl | rfl
        · exact absurd rb.2 (by decide)
        · exact absurd rb.2 (by decide)
        · exact absurd rb.1 (by decide)
      show gdl (stl (rr c) w o).2 (cbl (stl (rr c) w o).1 + (if c = 33 ∨ c = 126 ∨ c = 40 then 0 else 1) + 0)
      rw [if_neg nb]; exact y
  · have u1 : u = 1 := by omega
    subst u1
    rw [bad_u cd c32 u0] at b
    rw [nx_u cd c32 u0]
    have x : gdl o (cbl w) := x
    by_cases c4 : c = 40
    · rw [if_pos c4]
      show gdl o (cbl w + (if (40 : Int32) = 33 ∨ (40 : Int32) = 126 ∨ (40 : Int32) = 40 then 0 else 1) + 0)
      rw [if_pos (.inr (.inr rfl))]; exact x
    rw [if_neg c4] at b ⊢
    by_cases c3 : c = 33
    · rw [if_pos c3]
      show gdl o (cbl w + (if (33 : Int32) = 33 ∨ (33 : Int32) = 126 ∨ (33 : Int32) = 40 then 0 else 1) + 0)
      rw [if_pos (.inl rfl)]; exact x
    rw [if_neg c3]
    by_cases c5 : c = 45
    · rw [if_pos c5]
      show gdl o (cbl w + (if (126 : Int32) = 33 ∨ (126 : Int32) = 126 ∨ (126 : Int32) = 40 then 0 else 1) + 0)
      rw [if_pos (.inr (.inl rfl))]; exact x
    rw [if_neg c5]
    have cu : c = 121 ∨ c = 108 ∨ c = 104 := by
      by_cases q : c = 121 ∨ c = 108 ∨ c = 104 ∨ c = 33 ∨ c = 45
      · rcases q with q | q | q | q | q
        · exact .inl q
        · exact .inr (.inl q)
        · exact .inr (.inr q)
        · exact absurd q c3
        · exact absurd q c5
      · rw [if_neg q] at b; omega
    refine gdl_push x ?_
    rcases cu with rfl | rfl | rfl <;> decide
theorem GIl.at {f : Nat → Int32} : ∀ {i : Nat}, okp f i → GIl (AR f i)
  | 0, _ => rfl
  | i + 1, o => GIl.nx (SIl.at (fun k hk => o k (by omega))) (GIl.at (fun k hk => o k (by omega))) (o i (by omega))
