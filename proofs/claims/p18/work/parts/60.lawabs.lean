/-! THE LAW OF WEAR, read sign by sign -/
def rk (c : Int32) : Nat := if c = 33 then 6 else if c = 126 then 6 else if c = 42 then 5 else if c = 47 then 5 else if c = 43 then 4 else if c = 45 then 4 else if c = 60 then 3 else if c = 61 then 3 else if c = 62 then 3 else if c = 38 then 2 else if c = 124 then 1 else 0
/-- what waits is written, as far as it binds r at least: the top first, of what waits and of what is written -/
def stl (r : Nat) : List Int32 → List Int32 → List Int32 × List Int32
  | [], o => ([], o)
  | w :: ws, o => if r ≤ rk w then stl r ws (-w :: o) else (w :: ws, o)
def tp : List Int32 → Nat
  | [] => 0
  | w :: _ => rk w
def hd0 : List Int32 → Int32
  | [] => 0
  | x :: _ => x
/-- written, waiting, open, digits, whether a UNIT is due -/
abbrev LSt : Type := List Int32 × List Int32 × Nat × Nat × Nat
def dgt (c : Int32) : Prop := ¬ c < 48 ∧ ¬ 57 < c
def rr (c : Int32) : Nat := if rk c = 3 then 4 else rk c
/-- 0: it goes on; else the fault's last digit -/
def badL (c : Int32) : LSt → Nat
  | (o, w, n, d, u) =>
    if ¬ c < 48 ∧ ¬ 57 < c then (if d = 0 ∧ u = 0 then 1 else if 6 ≤ d then 2 else 0)
    else if c = 32 then 0
    else if u = 0 then (if c = 41 then (if n = 0 then 1 else 0) else if rk c < 1 ∨ 6 ≤ rk c then 1 else if rk c = 3 ∧ tp (stl (rr c) w o).1 = 3 then 1 else 0)
    else if c = 40 then (if n < 8 then 0 else 3)
    else if c = 121 ∨ c = 108 ∨ c = 104 ∨ c = 33 ∨ c = 45 then 0 else 1
def nxL (c : Int32) : LSt → LSt
  | (o, w, n, d, u) =>
    if ¬ c < 48 ∧ ¬ 57 < c then (if d = 0 then ((c - 48) :: o, w, n, 1, 0) else ((10 * hd0 o + (c - 48)) :: o.tail, w, n, d + 1, 0))
    else if c = 32 then (o, w, n, 0, u)
    else if u = 0 then (if c = 41 then ((stl 1 w o).2, (stl 1 w o).1.tail, n - 1, 0, 0) else ((stl (rr c) w o).2, c :: (stl (rr c) w o).1, n, 0, 1))
    else if c = 40 then (o, 40 :: w, n + 1, 0, 1)
    else if c = 33 then (o, 33 :: w, n, 0, 1)
    else if c = 45 then (o, 126 :: w, n, 0, 1)
    else (-c :: o, w, n, 0, 0)
def AR (f : Nat → Int32) : Nat → LSt
  | 0 => ([], [], 0, 0, 1)
  | k + 1 => nxL (f k) (AR f k)
def okp (f : Nat → Int32) (n : Nat) : Prop := ∀ k, k < n → badL (f k) (AR f k) = 0
def flw (k b d : Nat) : Int32 := if b = 2 then nI (10 * (k - d) + 2) else nI (10 * k + b)
def dgL : LSt → Nat
  | (_, _, _, d, _) => d
def enb : LSt → Prop
  | (_, _, n, _, u) => ¬ (u = 0 ∧ n = 0)
def prg : LSt → List Int32
  | (o, w, _, _, _) => (stl 1 w o).2
/-- what reading n signs f finds: the fault, and the steps where there is none -/
def RSl (f : Nat → Int32) (n : Nat) (fl : Int32) (p : List Int32) : Prop :=
  (∃ k, k < n ∧ okp f k ∧ badL (f k) (AR f k) ≠ 0 ∧ fl = flw k (badL (f k) (AR f k)) (dgL (AR f k)) ∧ ¬ fl = -1) ∨
  (okp f n ∧ enb (AR f n) ∧ fl = nI (10 * n + 1) ∧ ¬ fl = -1) ∨ (okp f n ∧ ¬ enb (AR f n) ∧ fl = -1 ∧ p = prg (AR f n))
theorem RSl.un {f : Nat → Int32} {n : Nat} {a b : Int32} {p q : List Int32} (x : RSl f n a p) (y : RSl f n b q) : a = b ∧ (a = -1 → p = q) := by
  rcases x with ⟨k, hk, ok, bk, ea, na⟩ | ⟨ok, e, ea, na⟩ | ⟨ok, e, ea, ep⟩
  · refine ⟨?_, fun q => absurd q na⟩
    rcases y with ⟨k', hk', ok', bk', eb, nb⟩ | ⟨ok', -⟩ | ⟨ok', -⟩
    · have : k = k' := by
        rcases Nat.lt_trichotomy k k' with c | c | c
        · exact absurd (ok' k c) bk
        · exact c
        · exact absurd (ok k' c) bk'
      subst this
      exact ea.trans eb.symm
    · exact absurd (ok' k hk) bk
    · exact absurd (ok' k hk) bk
  · refine ⟨?_, fun q => absurd q na⟩
    rcases y with ⟨k', hk', ok', bk', eb, nb⟩ | ⟨ok', -, eb, -⟩ | ⟨ok', e', -⟩
    · exact absurd (ok k' hk') bk'
    · exact ea.trans eb.symm
    · exact absurd e e'
  · rcases y with ⟨k', hk', ok', bk', eb, nb⟩ | ⟨ok', e', -⟩ | ⟨ok', e', eb, eq⟩
    · exact absurd (ok k' hk') bk'
    · exact absurd e' e
    · exact ⟨ea.trans eb.symm, fun _ => ep.trans eq.symm⟩
theorem AR_cg {f f' : Nat → Int32} : ∀ {n : Nat}, (∀ k, k < n → f' k = f k) → AR f' n = AR f n
  | 0, _ => rfl
  | n + 1, e => by
    unfold AR
    rw [e n (by omega), AR_cg (fun k hk => e k (by omega))]
theorem RSl.cg {f f' : Nat → Int32} {n : Nat} {a : Int32} {p : List Int32} (x : RSl f n a p) (e : ∀ k, k < n → f' k = f k) : RSl f' n a p := by
  have ea : ∀ k, k ≤ n → AR f' k = AR f k := fun k hk => AR_cg (fun i hi => e i (by omega))
  have eo : ∀ k, k ≤ n → okp f k → okp f' k := fun k hk o i hi => by
    rw [e i (by omega), ea i (by omega)]; exact o i hi
  rcases x with ⟨k, hk, ok, bk, q, na⟩ | ⟨ok, q, na⟩ | ⟨ok, q, q2, ep⟩
  · exact .inl ⟨k, hk, eo k (by omega) ok, by rw [e k hk, ea k (by omega)]; exact bk, by rw [e k hk, ea k (by omega)]; exact q, na⟩
  · exact .inr (.inl ⟨eo n (by omega) ok, by rw [ea n (by omega)]; exact q, na⟩)
  · exact .inr (.inr ⟨eo n (by omega) ok, by rw [ea n (by omega)]; exact q, q2, by rw [ea n (by omega)]; exact ep⟩)
/-! the case equations -/
theorem bad_dg {c : Int32} (h : dgt c) {o w : List Int32} {n d u : Nat} : badL c (o, w, n, d, u) = (if d = 0 ∧ u = 0 then 1 else if 6 ≤ d then 2 else 0) := if_pos h
theorem bad_sp {c : Int32} (h : ¬ dgt c) (h2 : c = 32) {o w : List Int32} {n d u : Nat} : badL c (o, w, n, d, u) = 0 := (if_neg h).trans (if_pos h2)
theorem bad_f {c : Int32} (h : ¬ dgt c) (h2 : ¬ c = 32) {o w : List Int32} {n d : Nat} : badL c (o, w, n, d, 0) = (if c = 41 then (if n = 0 then 1 else 0) else if rk c < 1 ∨ 6 ≤ rk c then 1 else if rk c = 3 ∧ tp (stl (rr c) w o).1 = 3 then 1 else 0) := (if_neg h).trans ((if_neg h2).trans (if_pos rfl))
theorem bad_u {c : Int32} (h : ¬ dgt c) (h2 : ¬ c = 32) {o w : List Int32} {n d u : Nat} (hu : ¬ u = 0) : badL c (o, w, n, d, u) = (if c = 40 then (if n < 8 then 0 else 3) else if c = 121 ∨ c = 108 ∨ c = 104 ∨ c = 33 ∨ c = 45 then 0 else 1) := (if_neg h).trans ((if_neg h2).trans (if_neg hu))
theorem nx_d0 {c : Int32} (h : dgt c) {o w : List Int32} {n u : Nat} : nxL c (o, w, n, 0, u) = ((c - 48) :: o, w, n, 1, 0) := (if_pos h).trans (if_pos rfl)
theorem nx_d1 {c : Int32} (h : dgt c) {o w : List Int32} {n d u : Nat} (hd : ¬ d = 0) : nxL c (o, w, n, d, u) = ((10 * hd0 o + (c - 48)) :: o.tail, w, n, d + 1, 0) := (if_pos h).trans (if_neg hd)
theorem nx_sp {c : Int32} (h : ¬ dgt c) (h2 : c = 32) {o w : List Int32} {n d u : Nat} : nxL c (o, w, n, d, u) = (o, w, n, 0, u) := (if_neg h).trans (if_pos h2)
theorem nx_f {c : Int32} (h : ¬ dgt c) (h2 : ¬ c = 32) {o w : List Int32} {n d : Nat} : nxL c (o, w, n, d, 0) = (if c = 41 then ((stl 1 w o).2, (stl 1 w o).1.tail, n - 1, 0, 0) else ((stl (rr c) w o).2, c :: (stl (rr c) w o).1, n, 0, 1)) := (if_neg h).trans ((if_neg h2).trans (if_pos rfl))
theorem nx_u {c : Int32} (h : ¬ dgt c) (h2 : ¬ c = 32) {o w : List Int32} {n d u : Nat} (hu : ¬ u = 0) : nxL c (o, w, n, d, u) = (if c = 40 then (o, 40 :: w, n + 1, 0, 1) else if c = 33 then (o, 33 :: w, n, 0, 1) else if c = 45 then (o, 126 :: w, n, 0, 1) else (-c :: o, w, n, 0, 0)) := (if_neg h).trans ((if_neg h2).trans (if_neg hu))
/-! what holds of every state that is reached -/
def wcL : List Int32 := [33, 126, 42, 47, 43, 45, 60, 61, 62, 38, 124, 40]
def okT (t : Int32) : Prop := (∃ v : Nat, v < 1000000 ∧ t = nI v) ∨ t = -121 ∨ t = -108 ∨ t = -104 ∨ ∃ x, x ∈ wcL ∧ 1 ≤ rk x ∧ t = -x
def c40 : List Int32 → Nat
  | [] => 0
  | w :: ws => c40 ws + (if w = 40 then 1 else 0)
def SIl (i : Nat) : LSt → Prop
  | (o, w, n, d, u) => o.length + w.length ≤ i ∧ c40 w = n ∧ (0 < d → u = 0 ∧ ∃ v xs, o = nI v :: xs ∧ v < 10 ^ d) ∧ d ≤ 6 ∧ u ≤ 1 ∧ n ≤ 8 ∧ d ≤ i ∧ (∀ x, x ∈ w → x ∈ wcL) ∧ ∀ t, t ∈ o → okT t
theorem stl_len {r : Nat} : ∀ {w o : List Int32}, (stl r w o).1.length + (stl r w o).2.length = w.length + o.length
  | [], o => rfl
  | w :: ws, o => by
    unfold stl
    by_cases c : r ≤ rk w
    · rw [if_pos c, stl_len, List.length_cons, List.length_cons]; omega
    · rw [if_neg c]
theorem rk40 : rk 40 = 0 := by decide
theorem stl_c40 {r : Nat} (hr : 1 ≤ r) : ∀ {w o : List Int32}, c40 (stl r w o).1 = c40 w
  | [], o => rfl
  | w :: ws, o => by
    unfold stl
    by_cases c : r ≤ rk w
    · rw [if_pos c, stl_c40 hr]
      have : ¬ w = 40 := fun e => by rw [e, rk40] at c; omega
      rw [show c40 (w :: ws) = c40 ws + (if w = 40 then 1 else 0) from rfl, if_neg this]; rfl
    · rw [if_neg c]
theorem stl_w {r : Nat} : ∀ {w o : List Int32}, ∀ x, x ∈ (stl r w o).1 → x ∈ w
  | [], o, x, h => h
  | w :: ws, o, x, h => by
    unfold stl at h
    by_cases c : r ≤ rk w
    · rw [if_pos c] at h
      exact List.mem_cons_of_mem _ (stl_w x h)
    · rw [if_neg c] at h; exact h
theorem stl_o {r : Nat} (hr : 1 ≤ r) : ∀ {w o : List Int32}, (∀ x, x ∈ w → x ∈ wcL) → (∀ t, t ∈ o → okT t) → ∀ t, t ∈ (stl r w o).2 → okT t
  | [], o, _, ho, t, h => ho t h
  | w :: ws, o, hw, ho, t, h => by
    unfold stl at h
    by_cases c : r ≤ rk w
    · rw [if_pos c] at h
      refine stl_o hr (fun x hx => hw x (List.mem_cons_of_mem _ hx)) (fun t' ht => ?_) t h
      rcases List.mem_cons.mp ht with e | e
      · exact .inr (.inr (.inr (.inr ⟨w, hw w (List.mem_cons_self ..), by omega, e⟩)))
      · exact ho t' e
    · rw [if_neg c] at h; exact ho t h
theorem dg_nI {c : Int32} (h : dgt c) : ∃ v : Nat, v < 10 ∧ c - 48 = nI v ∧ c = nI (48 + v) := by
  obtain ⟨a, b⟩ := h
  obtain ⟨n, hn, rfl⟩ := nI_of (x := c) (fun q => a (by
    rw [Int32.lt_iff_toInt_lt] at q ⊢
    rw [show (0 : Int32).toInt = 0 by decide] at q
    rw [show (48 : Int32).toInt = 48 by decide]; omega))
  rw [show (48 : Int32) = nI 48 from rfl, nI_ltI (by omega) (by omega)] at a
  rw [show (57 : Int32) = nI 57 from rfl, nI_ltI (by omega) (by omega)] at b
  obtain ⟨v, rfl⟩ : ∃ v, n = 48 + v := ⟨n - 48, by omega⟩
  refine ⟨v, by omega, ?_, rfl⟩
  rw [← nI_add, show (48 : Int32) = nI 48 from rfl, Int32.add_comm, Int32.add_sub_cancel]
theorem stl_tp {r : Nat} : ∀ {w o : List Int32}, ∀ y ys, (stl r w o).1 = y :: ys → rk y < r
  | [], o, y, ys, h => by
    have h : ([] : List Int32) = y :: ys := h
    cases h
  | w :: ws, o, y, ys, h => by
    unfold stl at h
    by_cases c : r ≤ rk w
    · rw [if_pos c] at h
      exact stl_tp y ys h
    · rw [if_neg c] at h
      have e : w :: ws = y :: ys := h
      rw [List.cons.injEq] at e
      rw [← e.1]; omega
theorem wc0 {y : Int32} (h : y ∈ wcL) (h0 : rk y < 1) : y = 40 := (by decide : ∀ y ∈ wcL, rk y < 1 → y = 40) y h h0
theorem rk_wc {c : Int32} (h : 1 ≤ rk c) : c ∈ wcL := by
  unfold rk at h
  by_cases c1 : c = 33
  · subst c1; decide
  by_cases c2 : c = 126
  · subst c2; decide
  by_cases c3 : c = 42
  · subst c3; decide
  by_cases c4 : c = 47
  · subst c4; decide
  by_cases c5 : c = 43
  · subst c5; decide
  by_cases c6 : c = 45
  · subst c6; decide
  by_cases c7 : c = 60
  · subst c7; decide
  by_cases c8 : c = 61
  · subst c8; decide
  by_cases c9 : c = 62
  · subst c9; decide
  by_cases c10 : c = 38
  · subst c10; decide
  by_cases c11 : c = 124
  · subst c11; decide
  rw [if_neg c1, if_neg c2, if_neg c3, if_neg c4, if_neg c5, if_neg c6, if_neg c7, if_neg c8, if_neg c9, if_neg c10, if_neg c11] at h
  omega
theorem SIl.nx {c : Int32} {i : Nat} {s : LSt} (x : SIl i s) (b : badL c s = 0) : SIl (i + 1) (nxL c s) := by
  obtain ⟨o, w, n, d, u⟩ := s
  obtain ⟨a1, a2, a3, a4, a5, a6, a7, a8, a9⟩ := x
  by_cases cd : dgt c
  · obtain ⟨v, hv, ev, -⟩ := dg_nI cd
    rw [bad_dg cd] at b
    by_cases d0 : d = 0
    · subst d0
      rw [nx_d0 cd, ev]
      refine ⟨by rw [List.length_cons]; omega, a2, fun _ => ⟨rfl, v, o, rfl, by omega⟩, by omega, by omega, a6, by omega, a8, fun t ht => ?_⟩
      rcases List.mem_cons.mp ht with e | e
      · exact .inl ⟨v, by omega, e⟩
      · exact a9 t e
    · rw [nx_d1 cd d0, ev]
      obtain ⟨e0, v0, xs, e1, e2⟩ := a3 (by omega)
      subst e1
      rw [if_neg (fun q => d0 q.1)] at b
      have d6 : ¬ 6 ≤ d := fun q => by rw [if_pos q] at b; omega
      have eh : 10 * hd0 (nI v0 :: xs) + nI v = nI (10 * v0 + v) := by
        rw [show hd0 (nI v0 :: xs) = nI v0 from rfl, show (10 : Int32) = nI 10 from rfl, pk_mul, nI_add]
      have p6 : 10 ^ (d + 1) ≤ 10 ^ 6 := Nat.pow_le_pow_right (by decide) (by omega)
      have p1 : 10 ^ (d + 1) = 10 * 10 ^ d := by rw [Nat.pow_succ]; omega
      rw [eh]
      refine ⟨?_, a2, fun _ => ⟨rfl, 10 * v0 + v, xs, rfl, by omega⟩, by omega, by omega, a6, by omega, a8, fun t ht => ?_⟩
      · rw [List.tail_cons, List.length_cons]; rw [List.length_cons] at a1; omega
      · rcases List.mem_cons.mp ht with e | e
        · exact .inl ⟨10 * v0 + v, by omega, e⟩
        · exact a9 t (List.mem_cons_of_mem _ e)
  by_cases c32 : c = 32
  · rw [nx_sp cd c32]
    exact ⟨by omega, a2, fun q => by omega, by omega, a5, a6, by omega, a8, a9⟩
  by_cases u0 : u = 0
  · subst u0
    rw [bad_f cd c32] at b
    rw [nx_f cd c32]
    by_cases c41 : c = 41
    · rw [if_pos c41] at b ⊢
      have n0 : ¬ n = 0 := fun q => by rw [if_pos q] at b; omega
      have l := stl_len (r := 1) (w := w) (o := o)
      have k := stl_c40 (r := 1) (Nat.le_refl _) (w := w) (o := o)
      have m := stl_w (r := 1) (w := w) (o := o)
      have m2 := stl_o (r := 1) (Nat.le_refl _) a8 a9
      have tpx := stl_tp (r := 1) (w := w) (o := o)
      generalize stl 1 w o = s at l k m m2 tpx ⊢
      obtain ⟨w', o'⟩ := s
      cases w' with
      | nil =>
        rw [a2] at k
        exact absurd k.symm n0
      | cons y ys =>
        have hy : y ∈ wcL := a8 y (m y (List.mem_cons_self ..))
        have y40 : y = 40 := wc0 hy (tpx y ys rfl)
        rw [show c40 (y :: ys) = c40 ys + (if y = 40 then 1 else 0) from rfl, if_pos y40] at k
        rw [List.length_cons] at l
        refine ⟨?_, ?_, fun q => absurd q (Nat.lt_irrefl 0), by omega, by omega, by omega, by omega, fun x hx => a8 x (m x (List.mem_cons_of_mem _ hx)), m2⟩
        · show o'.length + ys.length ≤ i + 1
          have l : ys.length + 1 + o'.length = w.length + o.length := l
          omega
        · show c40 ys = n - 1
          omega
    · rw [if_neg c41] at b ⊢
      have rb : 1 ≤ rk c := by
        by_cases q : rk c < 1 ∨ 6 ≤ rk c
        · rw [if_pos q] at b; omega
        · omega
      have rrb : 1 ≤ rr c := by
        unfold rr
        by_cases q : rk c = 3
        · rw [if_pos q]; omega
        · rw [if_neg q]; exact rb
      have l := stl_len (r := rr c) (w := w) (o := o)
      have k := stl_c40 (r := rr c) rrb (w := w) (o := o)
      have m := stl_w (r := rr c) (w := w) (o := o)
      have m2 := stl_o (r := rr c) rrb a8 a9
      generalize stl (rr c) w o = s at l k m m2 ⊢
      obtain ⟨w', o'⟩ := s
      have l : w'.length + o'.length = w.length + o.length := l
      have k : c40 w' = c40 w := k
      have n40 : ¬ c = 40 := fun e => by rw [e, rk40] at rb; omega
      refine ⟨?_, ?_, fun q => absurd q (Nat.lt_irrefl 0), by omega, by omega, by omega, by omega, fun x hx => ?_, m2⟩
      · show o'.length + (c :: w').length ≤ i + 1
        rw [List.length_cons]; omega
      · show c40 w' + (if c = 40 then 1 else 0) = n
        rw [if_neg n40]; omega
      · rcases List.mem_cons.mp hx with e | e
        · rw [e]; exact rk_wc rb
        · exact a8 x (m x e)
  · rw [bad_u cd c32 u0] at b
    rw [nx_u cd c32 u0]
    have wt : ∀ y, y ∈ wcL → ∀ x, x ∈ y :: w → x ∈ wcL := fun y hy x hx => by
      rcases List.mem_cons.mp hx with e | e
      · rw [e]; exact hy
      · exact a8 x e
    by_cases c4 : c = 40
    · rw [if_pos c4] at b ⊢
      have n8 : n < 8 := by
        by_cases q : n < 8
        · exact q
        · rw [if_neg q] at b; omega
      refine ⟨by rw [List.length_cons]; omega, ?_, fun q => absurd q (Nat.lt_irrefl 0), by omega, by omega, by omega, by omega, wt 40 (by decide), a9⟩
      show c40 w + (if (40 : Int32) = 40 then 1 else 0) = n + 1
      rw [if_pos rfl]; omega
    rw [if_neg c4] at b ⊢
    by_cases c3 : c = 33
    · rw [if_pos c3]
      refine ⟨by rw [List.length_cons]; omega, ?_, fun q => absurd q (Nat.lt_irrefl 0), by omega, by omega, by omega, by omega, wt 33 (by decide), a9⟩
      show c40 w + (if (33 : Int32) = 40 then 1 else 0) = n
      rw [if_neg (by decide)]; omega
    rw [if_neg c3]
    by_cases c5 : c = 45
    · rw [if_pos c5]
      refine ⟨by rw [List.length_cons]; omega, ?_, fun q => absurd q (Nat.lt_irrefl 0), by omega, by omega, by omega, by omega, wt 126 (by decide), a9⟩
      show c40 w + (if (126 : Int32) = 40 then 1 else 0) = n
      rw [if_neg (by decide)]; omega
    rw [if_neg c5]
    have cu : c = 121 ∨ c = 108 ∨ c = 104 := by
      by_cases q : c = 121 ∨ c = 108 ∨ c = 104 ∨ c = 33 ∨ c = 45
      · rcases q with q | q | q | q | q
        · exact .inl q
        · exact .inr (.inl q)
        · exact .inr (.inr q)
        · exact absurd q c3
        · exact absurd q c5
      · rw [if_neg q] at b; omega
    refine ⟨by rw [List.length_cons]; omega, a2, fun q => absurd q (Nat.lt_irrefl 0), by omega, by omega, a6, by omega, a8, fun t ht => ?_⟩
    rcases List.mem_cons.mp ht with e | e
    · rcases cu with rfl | rfl | rfl
      · exact .inr (.inl e)
      · exact .inr (.inr (.inl e))
      · exact .inr (.inr (.inr (.inl e)))
    · exact a9 t e
theorem SIl.at {f : Nat → Int32} : ∀ {i : Nat}, okp f i → SIl i (AR f i)
  | 0, _ => ⟨Nat.le_refl _, rfl, fun q => absurd q (Nat.lt_irrefl 0), by omega, by omega, by omega, by omega, fun x hx => absurd hx (List.not_mem_nil), fun x hx => absurd hx (List.not_mem_nil)⟩
  | i + 1, o => (SIl.at (fun k hk => o k (by omega))).nx (o i (by omega))
/-! stacks in arrays -/
def SK (f : Nat → Int32) : List Int32 → Prop
  | [] => True
  | x :: xs => f xs.length = x ∧ SK f xs
theorem SK.cg {f f' : Nat → Int32} : ∀ {l : List Int32}, (∀ k, k < l.length → f' k = f k) → SK f l → SK f' l
  | [], _, _ => trivial
  | x :: xs, e, h => by
    rw [List.length_cons] at e
    exact ⟨(e _ (by omega)).trans h.1, SK.cg (fun k hk => e k (by omega)) h.2⟩
theorem SK.push {f : Nat → Int32} {l : List Int32} {x : Int32} (h : SK f l) : SK (upd f l.length x) (x :: l) := ⟨pk_us, h.cg (fun k hk => pk_un (by omega))⟩
