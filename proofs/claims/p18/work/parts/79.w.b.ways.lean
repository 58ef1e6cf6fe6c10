/-! WAY: the class's two arrays -/
def SA (a q : Nat) : Prop := q = 91 + a ∨ q = 94 + a ∨ q = 96
def WA (h : HI) (a : Nat) (P : Nat → Nat → Prop) : Prop := ∃ (m : Nat) (r : Nat → Nat), h 96 a = nI m ∧ m ≤ 3000 ∧ (∀ i, i < m → 1 ≤ r i ∧ r i ≤ 3000 ∧ h (94 + a) i = nI (r i)) ∧ (∀ i j, i < m → j < m → r i = r j → i = j) ∧ ∀ t, 1 ≤ t → t ≤ 3000 → LsA (P t) (h (91 + a) t) ∧ ((∃ i, i < m ∧ r i = t) ↔ ¬ h (91 + a) t = -1)
theorem WA.cg {h h' : HI} {a : Nat} {P : Nat → Nat → Prop} (A : WA h a P) (e1 : h' (91 + a) = h (91 + a)) (e4 : h' (94 + a) = h (94 + a)) (e6 : h' 96 a = h 96 a) : WA h' a P := by
  obtain ⟨m, r, a1, a2, a3, a4, a5⟩ := A
  exact ⟨m, r, by rw [e6]; exact a1, a2, by rw [e4]; exact a3, a4, by rw [e1]; exact a5⟩
theorem WA.iff {h : HI} {a : Nat} {P P' : Nat → Nat → Prop} (A : WA h a P) (e : ∀ t, 1 ≤ t → t ≤ 3000 → ∀ k, P t k ↔ P' t k) : WA h a P' := by
  obtain ⟨m, r, a1, a2, a3, a4, a5⟩ := A
  exact ⟨m, r, a1, a2, a3, a4, fun t t1 t2 => ⟨(a5 t t1 t2).1.cg (e t t1 t2), (a5 t t1 t2).2⟩⟩
theorem WA.dom {h : HI} {a : Nat} {P P' : Nat → Nat → Prop} (A : WA h a P) (s : ∀ t, 1 ≤ t → t ≤ 3000 → ∀ k, P t k → P' t k) (d : ∀ t, 1 ≤ t → t ≤ 3000 → ∀ k, P' t k → ∃ j, P t j ∧ j ≤ k) : WA h a P' := by
  obtain ⟨m, r, a1, a2, a3, a4, a5⟩ := A
  exact ⟨m, r, a1, a2, a3, a4, fun t t1 t2 => ⟨(a5 t t1 t2).1.dom (s t t1 t2) (d t t1 t2), (a5 t t1 t2).2⟩⟩
theorem w01 {a : Nat} (ha : a < 2) : bd (0 : Int32).toInt (1 : Int32).toInt (nI a) := (bd_of (n := a) (a := 0) (b := 1) (by omega) (by omega) (by omega)).mo (by decide) (by decide)
theorem q_X9_reach {h : HI} {g : HL} {a k : Nat} {P : Nat → Nat → Prop} {x2 : Int32} (ha : a < 2) (hk : k < 2 ^ 31) (A : WA h a P) : w_X9_reach (nI a) x2 (nI k) h g (fun h' _ => JJ (SA a) h h' ∧ (∀ i, i ≠ a → h' 96 i = h 96 i) ∧ WA h' a (fun t q => P t q ∨ (nI t = x2 ∧ q = k))) := by
  unfold w_X9_reach
  rw [nI_clamp (n := a) (by omega)]
  have va : vp_in (nI a) 2 := vp_in_nI ha (by omega)
  refine c_wb (fun _ => ⟨fun c => absI c, fun _ => ?_⟩) (fun n => absurd (w01 ha) n)
  refine c_wb (fun q => ⟨fun _ => ?_, fun c => absI c⟩) (fun q => ⟨fun c => absurd rfl c, fun _ => ⟨JJ.rf, fun _ _ => rfl, A.iff (fun t t1 t2 k => ⟨.inl, fun x => x.elim id (fun y => absurd (y.1 ▸ (bd_of (n := t) (a := 1) (b := 3000) (by omega) (by omega) (by omega)).mo (by decide) (by decide)) q)⟩)⟩⟩)
  obtain ⟨t, t2, t1, t3, rfl⟩ := bd_nIp (q.mo (c := 1) (d := 3000) (by decide) (by decide)) (by omega)
  have t1 : 1 ≤ t := by omega
  have t2 : t ≤ 3000 := by omega
  have vt : vp_in (nI t) 3001 := vp_in_nI (by omega) (by omega)
  rw [nI_clamp (n := t) t3]
  obtain ⟨m, r, a1, a2, a3, a4, a5⟩ := A
  have et : ∀ u, nI u = nI t ∧ u ≤ 3000 → u = t := fun u x => (nI_eq (by omega) t3).mp x.1
  refine and_have va (fun _ => and_have vt (fun _ => ⟨fun c => ?_, fun c => ?_⟩))
  · unfold j_X9_reach_85
    rw [nI_clamp (n := a) (by omega), nI_clamp (n := t) t3]
    refine and_have va (fun _ => and_have vt (fun _ => ⟨fun d => ?_, fun d => ?_⟩))
    · refine ⟨JJ.rf, fun _ _ => rfl, m, r, a1, a2, a3, a4, fun u u1 u2 => ⟨?_, (a5 u u1 u2).2⟩⟩
      by_cases e : u = t
      · subst e
        exact ((a5 u u1 u2).1.keep hk c d).cg (fun j => by simp)
      · exact (a5 u u1 u2).1.cg (fun j => ⟨.inl, fun x => x.elim id (fun y => absurd (et u ⟨y.1, u2⟩) e)⟩)
    · refine and_have va (fun _ => and_have vt (fun _ => ?_))
      intro h1 e1
      have J1 : JJ (SA a) h h1 := JJ.rf.hu e1 (.inl rfl)
      have f4 : h1 (94 + a) = h (94 + a) := by rw [e1, hu_ne (by omega)]
      have f6 : h1 96 = h 96 := by rw [e1, hu_ne (by omega)]
      have f1 : h1 (91 + a) = upd (h (91 + a)) t (nI k) := by rw [e1, hu_eq]
      refine ⟨J1, fun i _ => by rw [f6], m, r, by rw [f6]; exact a1, a2, by rw [f4]; exact a3, a4, fun u u1 u2 => ?_⟩
      by_cases e : u = t
      · subst e
        rw [f1, pk_us]
        exact ⟨((a5 u u1 u2).1.less hk c d).cg (fun j => by simp), ⟨fun _ => nI_nm hk, fun _ => (a5 u u1 u2).2.mpr c⟩⟩
      · rw [f1, pk_un e]
        exact ⟨(a5 u u1 u2).1.cg (fun j => ⟨.inl, fun x => x.elim id (fun y => absurd (et u ⟨y.1, u2⟩) e)⟩), (a5 u u1 u2).2⟩
  · refine and_have va (fun _ => ?_)
    have nt : ∀ i, i < m → r i ≠ t := fun i hi e => absurd c ((a5 t t1 t2).2.mp ⟨i, hi, e⟩)
    have hm : m ≤ 2999 := by
      have := pig 2999 m (fun i => if r i = 3000 then t - 1 else r i - 1) (fun i hi => by
        show (if r i = 3000 then t - 1 else r i - 1) < 2999
        have := a3 i hi
        have := nt i hi
        by_cases e : r i = 3000
        · rw [if_pos e]; omega
        · rw [if_neg e]; omega) (fun i j hi hj e => by
        have e : (if r i = 3000 then t - 1 else r i - 1) = (if r j = 3000 then t - 1 else r j - 1) := e
        have b1 := a3 i hi
        have b2 := a3 j hj
        have c1 := nt i hi
        have c2 := nt j hj
        by_cases d1 : r i = 3000
        · by_cases d2 : r j = 3000
          · exact a4 i j hi hj (by omega)
          · rw [if_pos d1, if_neg d2] at e; omega
        · by_cases d2 : r j = 3000
          · rw [if_neg d1, if_pos d2] at e; omega
          · rw [if_neg d1, if_neg d2] at e
            exact a4 i j hi hj (by omega))
      exact this
    rw [a1]
    refine c_wb (fun _ => ⟨fun c => absI c, fun _ => ?_⟩) (fun n => absurd ((bd_of (n := m) (a := 0) (b := 2999) (by omega) (by omega) (by omega)).mo (by decide) (by decide)) n)
    rw [a1, nI_clamp (n := m) (by omega)]
    refine and_have va (fun _ => and_have va (fun _ => and_have (vp_in_nI (by omega) (by omega)) (fun _ => ?_)))
    intro h1 e1
    refine and_have va (fun _ => and_have va (fun _ => ?_))
    intro h2 e2
    refine and_have va (fun _ => and_have vt (fun _ => ?_))
    intro h3 e3
    have J3 : JJ (SA a) h h3 := ((JJ.rf.hu e1 (.inr (.inl rfl))).hu e2 (.inr (.inr rfl))).hu e3 (.inl rfl)
    have f4 : h3 (94 + a) = upd (h (94 + a)) m (nI t) := by rw [e3, hu_ne (by omega), e2, hu_ne (by omega), e1, hu_eq]
    have f6 : h3 96 = upd (h 96) a (nI (m + 1)) := by rw [e3, hu_ne (by omega), e2, hu_eq, e1, hu_ne (by omega), a1, nI_1]
    have f1 : h3 (91 + a) = upd (h (91 + a)) t (nI k) := by rw [e3, hu_eq, e2, hu_ne (by omega), e1, hu_ne (by omega)]
    refine ⟨J3, fun i hi => by rw [f6, pk_un hi], m + 1, fun i => if i = m then t else r i, by rw [f6, pk_us], by omega, fun i hi => ?_, fun i j hi hj e => ?_, fun u u1 u2 => ?_⟩
    · show 1 ≤ (if i = m then t else r i) ∧ (if i = m then t else r i) ≤ 3000 ∧ h3 (94 + a) i = nI (if i = m then t else r i)
      by_cases e : i = m
      · rw [if_pos e, f4, e, pk_us]; exact ⟨t1, t2, rfl⟩
      · rw [if_neg e, f4, pk_un e]; exact a3 i (by omega)
    · have e : (if i = m then t else r i) = (if j = m then t else r j) := e
      by_cases d1 : i = m
      · by_cases d2 : j = m
        · omega
        · rw [if_pos d1, if_neg d2] at e
          exact absurd e.symm (nt j (by omega))
      · by_cases d2 : j = m
        · rw [if_neg d1, if_pos d2] at e
          exact absurd e (nt i (by omega))
        · rw [if_neg d1, if_neg d2] at e
          exact a4 i j (by omega) (by omega) e
    · by_cases e : u = t
      · subst e
        rw [f1, pk_us]
        exact ⟨((a5 u u1 u2).1.new hk c).cg (fun j => by simp), ⟨fun _ => nI_nm hk, fun _ => ⟨m, by omega, if_pos rfl⟩⟩⟩
      · rw [f1, pk_un e]
        refine ⟨(a5 u u1 u2).1.cg (fun j => ⟨.inl, fun x => x.elim id (fun y => absurd (et u ⟨y.1, u2⟩) e)⟩), ?_⟩
        rw [← (a5 u u1 u2).2]
        constructor
        · rintro ⟨i, hi, ei⟩
          have ei : (if i = m then t else r i) = u := ei
          by_cases d : i = m
          · rw [if_pos d] at ei; exact absurd ei.symm e
          · rw [if_neg d] at ei; exact ⟨i, by omega, ei⟩
        · rintro ⟨i, hi, ei⟩
          exact ⟨i, by omega, by show (if i = m then t else r i) = u; rw [if_neg (by omega)]; exact ei⟩
theorem q_X9_forget {h : HI} {g : HL} {a : Nat} {P : Nat → Nat → Prop} (ha : a < 2) (A : WA h a P) : w_X9_forget (nI a) h g (fun h' _ => JJ (SA a) h h' ∧ (∀ i, i ≠ a → h' 96 i = h 96 i) ∧ WA h' a (fun _ _ => False)) := by
  unfold w_X9_forget
  have va : vp_in (nI a) 2 := vp_in_nI ha (by omega)
  refine c_wb (fun _ => ⟨fun _ => ?_, fun c => absI c⟩) (fun n => absurd (w01 ha) n)
  obtain ⟨m, r, a1, a2, a3, a4, a5⟩ := A
  have dn : ∀ (h1 : HI) (g1 : HL), JJ (SA a) h h1 → h1 96 = h 96 → h1 (94 + a) = h (94 + a) → (∀ u, 1 ≤ u → u ≤ 3000 → h1 (91 + a) u = -1) → j_X9_forget_64 (fun h' _ => JJ (SA a) h h' ∧ (∀ i, i ≠ a → h' 96 i = h 96 i) ∧ WA h' a (fun _ _ => False)) (nI a) h1 g1 := by
    intro h1 g1 J1 e6 e4 z
    unfold j_X9_forget_64
    rw [nI_clamp (n := a) (by omega)]
    refine and_have va (fun _ => ?_)
    intro h2 e2
    have f6 : h2 96 = upd (h 96) a 0 := by rw [e2, hu_eq, e6]
    have f1 : h2 (91 + a) = h1 (91 + a) := by rw [e2, hu_ne (by omega)]
    refine ⟨J1.hu e2 (.inr (.inr rfl)), fun i hi => by rw [f6, pk_un hi], 0, r, by rw [f6, pk_us]; exact nI_0.symm, by omega, fun i hi => absurd hi (Nat.not_lt_zero i), fun i j hi => absurd hi (Nat.not_lt_zero i), fun u u1 u2 => ?_⟩
    rw [f1, z u u1 u2]
    exact ⟨.inl ⟨rfl, fun k x => x⟩, ⟨fun ⟨i, hi, _⟩ => absurd hi (Nat.not_lt_zero i), fun c => absurd rfl c⟩⟩
  refine lpE_intro (fun ⟨a_q, b_q, h_q, _⟩ => ∃ i : Nat, i ≤ m ∧ nI a = a_q ∧ nI i = b_q ∧ JJ (SA a) h h_q ∧ h_q 96 = h 96 ∧ h_q (94 + a) = h (94 + a) ∧ ∀ u, 1 ≤ u → u ≤ 3000 → h_q (91 + a) u = -1 ∨ ∃ j, i ≤ j ∧ j < m ∧ r j = u) (fun ⟨_, b_q, _, _⟩ => dif (nI m) b_q) ?_ _ ⟨0, by omega, rfl, nI_0, JJ.rf, rfl, rfl, fun u u1 u2 => ?_⟩
  · rintro ⟨y1, y2, h1, g1⟩ K ⟨i, hi, rfl, rfl, J1, e6, e4, z⟩ hK
    unfold F_X9_forget_12; dsimp only; unfold b_X9_forget_12
    rw [nI_clamp (n := a) (by omega), e6, a1, e4]
    refine and_have va (fun _ => ⟨fun c => ?_, fun c => ⟨fun d => ?_, fun d => ?_⟩⟩)
    · rw [nI_leI (by omega) (by omega)] at c
      exact dn h1 g1 J1 e6 e4 (fun u u1 u2 => (z u u1 u2).elim id (fun ⟨j, j1, j2, _⟩ => by omega))
    · rw [show (3000 : Int32) = nI 3000 from rfl, nI_leI (by omega) (by omega)] at d
      exact dn h1 g1 J1 e6 e4 (fun u u1 u2 => (z u u1 u2).elim id (fun ⟨j, j1, j2, _⟩ => by omega))
    · have hd := dif_lt c
      rw [nI_leI (by omega) (by omega)] at c
      rw [nI_clamp (n := i) (by omega)]
      refine and_have va (fun _ => and_have (vp_in_nI (by omega) (by omega)) (fun _ => ?_))
      rintro _ rfl
      obtain ⟨r1, r2, r3⟩ := a3 i (by omega)
      rw [r3]
      refine c_wb (fun _ => ⟨fun c => absI c, fun _ => ?_⟩) (fun n => absurd ((bd_of (n := r i) (a := 1) (b := 3000) (by omega) (by omega) (by omega)).mo (by decide) (by decide)) n)
      rw [nI_clamp (n := r i) (by omega)]
      refine and_have va (fun _ => and_have (vp_in_nI (by omega) (by omega)) (fun _ => ?_))
      intro h2 e2
      unfold j_X9_forget_58
      rintro _ rfl
      refine hK _ ⟨i + 1, by omega, rfl, (nI_1 i).symm, J1.hu e2 (.inl rfl), by rw [e2, hu_ne (by omega)]; exact e6, by rw [e2, hu_ne (by omega)]; exact e4, fun u u1 u2 => ?_⟩ hd
      rw [e2, hu_eq]
      by_cases e : u = r i
      · rw [e, pk_us]; exact .inl rfl
      · rw [pk_un e]
        exact (z u u1 u2).imp id (fun ⟨j, j1, j2, j3⟩ => ⟨j, by
          have : j ≠ i := fun q => e (by rw [← j3, q])
          omega, j2, j3⟩)
  · by_cases c : h (91 + a) u = -1
    · exact .inl c
    · obtain ⟨j, j1, j2⟩ := (a5 u u1 u2).2.mpr c
      exact .inr ⟨j, Nat.zero_le _, j1, j2⟩
