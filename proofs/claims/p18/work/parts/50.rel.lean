/-! WHAT THE TABLES HOLD -/
def bsLs : List Nat := [20, 140, 152, 512, 672, 704, 710, 9, 737, 817, 823, 827]
def hiLs : List Nat := [140, 152, 512, 672, 704, 710, 737, 11, 817, 823, 827, 887]
def bsJ (j : Nat) : Nat := bsLs.getD j 0
def hiJ (j : Nat) : Nat := hiLs.getD j 0
/-- cell by cell: families, sayings, works, machines, spares, odds, loads, hands, needs, signs -/
def CS (h : HI) (s : Nat) (f : Nat → Int32) (j m : Nat) : Prop := ∀ k, k < m * wJ j → h (s + (1 + 2 * j) + 1) k = f (bsJ j + k)
/-- parts: four columns; who bears whom, the other way round, as bits of numbers below 2 ^ 24 -/
def CP (h : HI) (s : Nat) (f : Nat → Int32) (m : Nat) : Prop :=
  (∀ p, p < m → ∀ c, c < 4 → h (s + (1 + 2 * 0) + 1) (p * 5 + c) = f (20 + (p * 5 + c))) ∧
  ∃ cN rN : Nat → Nat, (∀ p, p < m → cN p < 2 ^ 24 ∧ rN p < 2 ^ 24 ∧ h (s + (1 + 2 * 0) + 1) (p * 5 + 4) = nI (cN p) ∧ f (20 + (p * 5 + 4)) = nI (rN p)) ∧
    (∀ p, m ≤ p → cN p = 0 ∧ rN p = 0) ∧ ∀ a b, (cN b).testBit a = (rN a).testBit b
/-- chains -/
def CC (h : HI) (s : Nat) (f : Nat → Int32) (m : Nat) : Prop := ∀ r, r < m →
  h (s + (1 + 2 * 3) + 1) (r * 15) = f (512 + r * 10) ∧ h (s + (1 + 2 * 3) + 1) (r * 15 + 1) = f (512 + (r * 10 + 1)) ∧ h (s + (1 + 2 * 3) + 1) (r * 15 + 2) = f (512 + (r * 10 + 2)) ∧
  ∃ n o : Nat, n ≤ 6 ∧ f (512 + (r * 10 + 2)) = nI n ∧ o < 2 ^ n ∧ f (512 + (r * 10 + 9)) = nI o ∧
    ∀ k, k < n → h (s + (1 + 2 * 3) + 1) (r * 15 + (3 + 2 * k)) = f (512 + (r * 10 + (3 + k))) ∧ h (s + (1 + 2 * 3) + 1) (r * 15 + (4 + 2 * k)) = (if o.testBit k then 1 else 0)
def CE (h : HI) (s : Nat) (f : Nat → Int32) (j m : Nat) : Prop := if j = 0 then CP h s f m else if j = 3 then CC h s f m else CS h s f j m
theorem CE.e0 {h : HI} {s : Nat} {f : Nat → Int32} {m : Nat} : CE h s f 0 m ↔ CP h s f m := by unfold CE; rw [if_pos rfl]
theorem CE.e3 {h : HI} {s : Nat} {f : Nat → Int32} {m : Nat} : CE h s f 3 m ↔ CC h s f m := by unfold CE; rw [if_neg (by decide), if_pos rfl]
theorem CE.es {h : HI} {s : Nat} {f : Nat → Int32} {j m : Nat} (j0 : ¬ j = 0) (j3 : ¬ j = 3) : CE h s f j m ↔ CS h s f j m := by unfold CE; rw [if_neg j0, if_neg j3]
theorem CE.tr {h h' : HI} {s s' : Nat} {f f' : Nat → Int32} {j m : Nat} (c : CE h s f j m) (hj : j < 12) (hm : m ≤ MJ j) (e : ∀ i, i < m * wJ j → h' (s' + (1 + 2 * j) + 1) i = h (s + (1 + 2 * j) + 1) i) (ef : ∀ k, bsJ j ≤ k → k < hiJ j → f' k = f k) : CE h' s' f' j m := by
  by_cases j0 : j = 0
  · subst j0
    rw [CE.e0] at c ⊢
    have hm : m ≤ 24 := hm
    have ef : ∀ k, 20 ≤ k → k < 140 → f' k = f k := ef
    have e : ∀ i, i < m * 5 → h' (s' + (1 + 2 * 0) + 1) i = h (s + (1 + 2 * 0) + 1) i := e
    obtain ⟨c1, cN, rN, c2, c3, c4⟩ := c
    refine ⟨fun p hp c hc => ?_, cN, rN, fun p hp => ?_, c3, c4⟩
    · rw [e (p * 5 + c) (by omega), ef (20 + (p * 5 + c)) (by omega) (by omega)]; exact c1 p hp c hc
    · rw [e (p * 5 + 4) (by omega), ef (20 + (p * 5 + 4)) (by omega) (by omega)]; exact c2 p hp
  · by_cases j3 : j = 3
    · subst j3
      rw [CE.e3] at c ⊢
      have hm : m ≤ 16 := hm
      have ef : ∀ k, 512 ≤ k → k < 672 → f' k = f k := ef
      have e : ∀ i, i < m * 15 → h' (s' + (1 + 2 * 3) + 1) i = h (s + (1 + 2 * 3) + 1) i := e
      intro r hr
      obtain ⟨a1, a2, a3, n, o, a4, a5, a6, a7, a8⟩ := c r hr
      refine ⟨?_, ?_, ?_, n, o, a4, ?_, a6, ?_, fun k hk => ⟨?_, ?_⟩⟩
      · rw [e (r * 15) (by omega), ef (512 + r * 10) (by omega) (by omega)]; exact a1
      · rw [e (r * 15 + 1) (by omega), ef (512 + (r * 10 + 1)) (by omega) (by omega)]; exact a2
      · rw [e (r * 15 + 2) (by omega), ef (512 + (r * 10 + 2)) (by omega) (by omega)]; exact a3
      · rw [ef (512 + (r * 10 + 2)) (by omega) (by omega)]; exact a5
      · rw [ef (512 + (r * 10 + 9)) (by omega) (by omega)]; exact a7
      · rw [e (r * 15 + (3 + 2 * k)) (by omega), ef (512 + (r * 10 + (3 + k))) (by omega) (by omega)]; exact (a8 k hk).1
      · rw [e (r * 15 + (4 + 2 * k)) (by omega)]; exact (a8 k hk).2
    · rw [CE.es j0 j3] at c ⊢
      intro k hk
      have h1 : m * wJ j ≤ MJ j * wJ j := Nat.mul_le_mul_right _ hm
      have h2 : bsJ j + MJ j * wJ j ≤ hiJ j := (by decide : ∀ j, j < 12 → ¬ j = 3 → bsJ j + MJ j * wJ j ≤ hiJ j) j hj j3
      rw [e k hk, ef (bsJ j + k) (by omega) (by omega)]
      exact c k hk
/-- sayings and chains speak of parts that are there; a saying is denied or not -/
def XR (f : Nat → Int32) : Prop :=
  (∀ r n : Nat, f 1 = nI n → n ≤ 60 → r < n → isRow (f 0) (f (152 + (r * 6 + 0))) ∧ (f (152 + (r * 6 + 5)) = 0 ∨ f (152 + (r * 6 + 5)) = 1)) ∧
  (∀ r n k c : Nat, f 2 = nI n → n ≤ 16 → r < n → f (512 + (r * 10 + 2)) = nI c → c ≤ 6 → k < c → isRow (f 0) (f (512 + (r * 10 + (3 + k)))))
theorem isRow_le {a b x : Int32} (h : isRow a x) (e : a.toInt ≤ b.toInt) : isRow b x := by
  unfold isRow at *; omega
theorem XR.cg {f f' : Nat → Int32} (x : XR f) (e0 : (f 0).toInt ≤ (f' 0).toInt) (e1 : f' 1 = f 1) (e2 : f' 2 = f 2) (e : ∀ k, 152 ≤ k → k < 672 → f' k = f k) : XR f' := by
  refine ⟨fun r n h1 h2 h3 => ?_, fun r n k c h1 h2 h3 h4 h5 h6 => ?_⟩
  · rw [e1] at h1
    rw [e (152 + (r * 6 + 0)) (by omega) (by omega), e (152 + (r * 6 + 5)) (by omega) (by omega)]
    exact ⟨isRow_le (x.1 r n h1 h2 h3).1 e0, (x.1 r n h1 h2 h3).2⟩
  · rw [e2] at h1
    rw [e (512 + (r * 10 + 2)) (by omega) (by omega)] at h4
    rw [e (512 + (r * 10 + (3 + k))) (by omega) (by omega)]
    exact isRow_le (x.2 r n k c h1 h2 h3 h4 h5 h6) e0
def RL1 (h : HI) (s : Nat) (f : Nat → Int32) : Prop := (∀ j m, j < 12 → m ≤ MJ j → h (s + (1 + 2 * j)) 3 = nI m → CE h s f j m) ∧ XR f
def RLT (h : HI) : Prop := RL1 h 1 (h 136) ∧ ∀ i, i < 2 → ¬ h 138 i = 0 → RL1 h (26 + 25 * i) (IMG h i)
theorem hi_le {j : Nat} (hj : j < 12) : hiJ j ≤ 887 := (by decide : ∀ j, j < 12 → hiJ j ≤ 887) j hj
theorem bs_dj {i j : Nat} (hi : i < 12) (hj : j < 12) (n : i ≠ j) : hiJ i ≤ bsJ j ∨ hiJ j ≤ bsJ i := (by decide : ∀ i, i < 12 → ∀ j, j < 12 → i ≠ j → hiJ i ≤ bsJ j ∨ hiJ j ≤ bsJ i) i hi j hj n
theorem bs_9 {i : Nat} (hi : i < 12) : 9 ≤ bsJ i := (by decide : ∀ i, i < 12 → 9 ≤ bsJ i) i hi
theorem RL1.cg {h h' : HI} {s : Nat} {f f' : Nat → Int32} (r : RL1 h s f) (e : ∀ o, s + 1 ≤ o → o ≤ s + 24 → h' o = h o) (ef : ∀ k, k < 887 → f' k = f k) : RL1 h' s f' := by
  refine ⟨fun j m hj hm ht => ?_, r.2.cg (by rw [ef 0 (by omega)]; exact Int.le_refl _) (ef 1 (by omega)) (ef 2 (by omega)) (fun k _ hk => ef k (by omega))⟩
  rw [e (s + (1 + 2 * j)) (by omega) (by omega)] at ht
  have := hi_le hj
  exact (r.1 j m hj hm ht).tr hj hm (fun i _ => by rw [e (s + (1 + 2 * j) + 1) (by omega) (by omega)]) (fun k _ hk => ef k (by omega))
/-- one table changes -/
theorem RL1.mut {h h' : HI} {s : Nat} {f f' : Nat → Int32} {j : Nat} (r : RL1 h s f) (hj : j < 12) (e : ∀ o, s + 1 ≤ o → o ≤ s + 24 → o ≠ s + (1 + 2 * j) → o ≠ s + (1 + 2 * j) + 1 → h' o = h o) (ef : ∀ k, 9 ≤ k → k < 887 → (k < bsJ j ∨ hiJ j ≤ k) → f' k = f k) (new : ∀ m, m ≤ MJ j → h' (s + (1 + 2 * j)) 3 = nI m → CE h' s f' j m) (x : XR f') : RL1 h' s f' := by
  refine ⟨fun i m hi hm ht => ?_, x⟩
  by_cases q : i = j
  · subst q; exact new m hm ht
  · rw [e (s + (1 + 2 * i)) (by omega) (by omega) (by omega) (by omega)] at ht
    have h1 := hi_le hi
    have h2 := bs_dj hi hj q
    have h3 := bs_9 hi
    exact (r.1 i m hi hm ht).tr hi hm (fun a _ => by rw [e (s + (1 + 2 * i) + 1) (by omega) (by omega) (by omega) (by omega)]) (fun k k1 k2 => ef k (by omega) (by omega) (by omega))
theorem CS_add {h h' : HI} {s j m : Nat} {f f' row : Nat → Int32} (c : CS h s f j m) (old : ∀ i, i < m * wJ j → h' (s + (1 + 2 * j) + 1) i = h (s + (1 + 2 * j) + 1) i) (new : ∀ c, c < wJ j → h' (s + (1 + 2 * j) + 1) (m * wJ j + c) = row c) (fo : ∀ i, i < m * wJ j → f' (bsJ j + i) = f (bsJ j + i)) (fn : ∀ c, c < wJ j → f' (bsJ j + (m * wJ j + c)) = row c) : CS h' s f' j (m + 1) := by
  intro k hk
  rw [Nat.add_mul, Nat.one_mul] at hk
  by_cases q : k < m * wJ j
  · rw [old k q, fo k q]; exact c k q
  · obtain ⟨d, rfl⟩ : ∃ d, k = m * wJ j + d := ⟨k - m * wJ j, by omega⟩
    rw [new d (by omega), fn d (by omega)]
/-- questions leave it -/
theorem RLT.ask {h h' : HI} (r : RLT h) (e : ∀ o, o ≤ 75 → h' o = h o) (e6 : h' 136 = h 136) (e7 : h' 137 = h 137) (e8 : h' 138 = h 138) : RLT h' := by
  refine ⟨r.1.cg (fun o h1 h2 => e o (by omega)) (fun k _ => by rw [e6]), fun i hi hn => ?_⟩
  rw [e8] at hn
  exact (r.2 i hi hn).cg (fun o h1 h2 => e o (by omega)) (fun k _ => by unfold IMG; rw [e7])
/-- calls that change the shop in use alone -/
theorem RLT.sh {h h' : HI} (r : RLT h) (n : RL1 h' 1 (h' 136)) (e : ∀ o, 26 ≤ o → o ≤ 75 → h' o = h o) (e7 : h' 137 = h 137) (e8 : h' 138 = h 138) : RLT h' := by
  refine ⟨n, fun i hi hn => ?_⟩
  rw [e8] at hn
  exact (r.2 i hi hn).cg (fun o h1 h2 => e o (by omega) (by omega)) (fun k _ => by unfold IMG; rw [e7])
theorem TT.nu {h : HI} {o m n w M : Nat} (T : TT h o m w M) (e : h o 3 = nI n) (hn : n ≤ M) : n = m := by
  have a := T.2.2.1
  rw [e] at a
  have c1 := T.2.2.2.1
  have d1 := T.2.2.2.2.2.2.2.2
  exact (nI_eq (by omega) (by omega)).mp a
theorem RLT.put {h h1 h2 : HI} {j : Nat} (q : RLT h) (hj : j < 12) (J : JJ (SM (1 + (1 + 2 * j))) h h1) (F : ∀ o, o ≠ 136 → h2 o = h1 o) (fr : ∀ k, 9 ≤ k → k < 887 → (k < bsJ j ∨ hiJ j ≤ k) → h2 136 k = h 136 k) (ce : ∀ m, m ≤ MJ j → h2 (1 + (1 + 2 * j)) 3 = nI m → CE h2 1 (h2 136) j m) (xr : XR (h2 136)) : RLT h2 := by
  have e : ∀ o, o ≠ 136 → ¬ SM (1 + (1 + 2 * j)) o → h2 o = h o := fun o a b => (F o a).trans (J o b)
  refine q.sh (q.1.mut hj (fun o a b c d => e o (by omega) (by unfold SM; omega)) fr ce xr) (fun o a b => e o (by omega) (by unfold SM; omega)) (e 137 (by omega) (by unfold SM; omega)) (e 138 (by omega) (by unfold SM; omega))
theorem RLT.add {C : Prop} {h h1 h2 : HI} {r s : Int32} {j m k : Nat} {row : Nat → Int32} {F : (Nat → Int32) → Prop} (q : RLT h) (hj : j < 12) (T : TT h (1 + (1 + 2 * j)) m (wJ j) (MJ j)) (a : ADc C h r h1 (1 + (1 + 2 * j)) m (wJ j) (MJ j) k row) (b : ADr C h1 s h2 (cpJ j) m (MJ j) k F)
    (fr : m < MJ j → ∀ f', F f' → ∀ k, 9 ≤ k → k < 887 → (k < bsJ j ∨ hiJ j ≤ k) → f' k = h1 136 k)
    (ce : C → m < MJ j → ∀ f', F f' → CE h 1 (h 136) j m → (∀ i, i < m * wJ j → h2 (1 + (1 + 2 * j) + 1) i = h (1 + (1 + 2 * j) + 1) i) → (∀ c, c < wJ j → h2 (1 + (1 + 2 * j) + 1) (m * wJ j + c) = row c) → CE h2 1 f' j (m + 1))
    (xr : C → m < MJ j → ∀ f', F f' → XR (h 136) → f' (cpJ j) = nI (m + 1) → (∀ i, i < 9 → i ≠ cpJ j → f' i = h 136 i) → XR f') : RLT h2 := by
  rcases a with ⟨a1, a2, rfl⟩ | ⟨a1, a3, a2, rfl⟩ | ⟨a1, a3, a2, J, T1, old, new⟩
  · rcases b with ⟨b1, b2, rfl⟩ | ⟨b1, b3, b2, rfl⟩ | ⟨b1, b3, b2, b4⟩
    · exact q
    · exact absurd b1 a1
    · exact absurd b1 a1
  · rcases b with ⟨b1, b2, rfl⟩ | ⟨b1, b3, b2, rfl⟩ | ⟨b1, b3, b2, b4⟩
    · exact absurd a1 b1
    · exact q
    · omega
  · rcases b with ⟨b1, b2, rfl⟩ | ⟨b1, b3, b2, rfl⟩ | ⟨b1, b3, b2, e, ec, ef, R, hF⟩
    · exact absurd a1 b1
    · omega
    · have e6 : h1 136 = h 136 := J 136 (by unfold SM; omega)
      refine q.put hj J e (fun k h1 h2 h3 => by rw [fr a3 _ hF k h1 h2 h3, e6]) (fun m' hm' ht => ?_) (xr a1 a3 _ hF q.1.2 ec (fun i hi hn => by rw [ef i hi hn, e6]))
      have T2 : TT h2 (1 + (1 + 2 * j)) (m + 1) (wJ j) (MJ j) := T1.cg (e _ (by omega))
      have := T2.nu ht hm'
      subst this
      have eq : h2 (1 + (1 + 2 * j) + 1) = h1 (1 + (1 + 2 * j) + 1) := e _ (by omega)
      exact ce a1 a3 _ hF (q.1.1 j m hj (by omega) T.2.2.1) (fun i hi => by rw [eq]; exact old i hi) (fun c hc => by rw [eq]; exact new c hc)
def FF (f f' : Nat → Int32) (j m : Nat) (row : Nat → Int32) : Prop := (∀ k, 9 ≤ k → k < 887 → (k < bsJ j + m * wJ j ∨ bsJ j + m * wJ j + wJ j ≤ k) → f' k = f k) ∧ ∀ c, c < wJ j → f' (bsJ j + (m * wJ j + c)) = row c
theorem FF.fr {f f' row : Nat → Int32} {j m : Nat} (x : FF f f' j m row) (hj : j < 12) (h3 : ¬ j = 3) (hm : m < MJ j) (k : Nat) (k9 : 9 ≤ k) (k8 : k < 887) (ho : k < bsJ j ∨ hiJ j ≤ k) : f' k = f k := by
  have h2 : bsJ j + MJ j * wJ j ≤ hiJ j := (by decide : ∀ j, j < 12 → ¬ j = 3 → bsJ j + MJ j * wJ j ≤ hiJ j) j hj h3
  have h1 : (m + 1) * wJ j ≤ MJ j * wJ j := Nat.mul_le_mul_right _ hm
  rw [Nat.add_mul, Nat.one_mul] at h1
  exact x.1 k k9 k8 (by omega)
theorem FF.ce {h h2 : HI} {f f' row : Nat → Int32} {j m : Nat} (x : FF f f' j m row) (hj : j < 12) (j0 : ¬ j = 0) (j3 : ¬ j = 3) (hm : m < MJ j) (c : CE h 1 f j m) (old : ∀ i, i < m * wJ j → h2 (1 + (1 + 2 * j) + 1) i = h (1 + (1 + 2 * j) + 1) i) (new : ∀ c, c < wJ j → h2 (1 + (1 + 2 * j) + 1) (m * wJ j + c) = row c) : CE h2 1 f' j (m + 1) := by
  have h2 : bsJ j + MJ j * wJ j ≤ hiJ j := (by decide : ∀ j, j < 12 → ¬ j = 3 → bsJ j + MJ j * wJ j ≤ hiJ j) j hj j3
  have h1 : (m + 1) * wJ j ≤ MJ j * wJ j := Nat.mul_le_mul_right _ hm
  rw [Nat.add_mul, Nat.one_mul] at h1
  have h3 := hi_le hj
  have h4 := bs_9 hj
  rw [CE.es j0 j3] at c ⊢
  exact CS_add c old new (fun i hi => x.1 _ (by omega) (by omega) (by omega)) x.2
theorem XR.far {f f' : Nat → Int32} {j m : Nat} {row : Nat → Int32} (x : XR f) (hj : j < 12) (h4 : 3 ≤ cpJ j ∧ cpJ j < 9) (hm : m < MJ j) (ff : FF f f' j m row) (ef : ∀ i, i < 9 → i ≠ cpJ j → f' i = f i) : XR f' := by
  have h1 : 672 ≤ bsJ j := (by decide : ∀ j, j < 12 → 3 ≤ cpJ j ∧ cpJ j < 9 → 672 ≤ bsJ j) j hj h4
  have h3 : ¬ j = 3 := (by decide : ∀ j, j < 12 → 3 ≤ cpJ j ∧ cpJ j < 9 → ¬ j = 3) j hj h4
  exact x.cg (by rw [ef 0 (by omega) (by omega)]; exact Int.le_refl _) (ef 1 (by omega) (by omega)) (ef 2 (by omega) (by omega)) (fun k k1 k2 => ff.fr hj h3 hm k (by omega) (by omega) (by omega))
/-- works, machines, spares, loads, hands, signs -/
theorem RLT.addS {C : Prop} {h h1 h2 : HI} {r s : Int32} {j m k : Nat} {row : Nat → Int32} {F : (Nat → Int32) → Prop} (q : RLT h) (hj : j < 12) (h4 : 3 ≤ cpJ j ∧ cpJ j < 9) (T : TT h (1 + (1 + 2 * j)) m (wJ j) (MJ j)) (a : ADc C h r h1 (1 + (1 + 2 * j)) m (wJ j) (MJ j) k row) (b : ADr C h1 s h2 (cpJ j) m (MJ j) k F) (up : h1 136 = h 136) (ff : ∀ f', F f' → FF (h1 136) f' j m row) : RLT h2 := by
  have h0 : ¬ j = 0 := (by decide : ∀ j, j < 12 → 3 ≤ cpJ j ∧ cpJ j < 9 → ¬ j = 0) j hj h4
  have h3 : ¬ j = 3 := (by decide : ∀ j, j < 12 → 3 ≤ cpJ j ∧ cpJ j < 9 → ¬ j = 3) j hj h4
  rw [up] at ff
  exact q.add hj T a b (fun hm f' hf k k1 k2 k3 => by rw [up]; exact (ff f' hf).fr hj h3 hm k k1 k2 k3) (fun _ hm f' hf c old new => (ff f' hf).ce hj h0 h3 hm c old new) (fun _ hm f' hf x _ ef => x.far hj h4 hm (ff f' hf) ef)
