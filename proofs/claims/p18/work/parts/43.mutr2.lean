theorem p_X11_chain {h : HI} {g : HL} (r : RG (h 136)) {m : Nat} (em : h 136 2 = nI m) (hm : m ≤ 16) {x1 x2 : Int32} : w_X11_chain x1 x2 h g (fun s h' _ => ADr (K_chain x1 x2) h s h' 2 m 16 0 (fun f' => (∀ i, i ≠ 2 → (i < 512 + 10 * m ∨ 512 + 10 * m + 10 ≤ i) → f' i = h 136 i) ∧ ∀ c, c < 10 → f' (512 + 10 * m + c) = rowc x1 x2 0 0 c)) := by
  unfold w_X11_chain
  have e1 : (-100000 : Int64).toInt = -100000 := by decide
  have e2 : (100000 : Int64).toInt = 100000 := by decide
  refine c_in3 (fun q0 => ⟨fun c => absI c, fun _ => ?_⟩) (fun q0 => ⟨fun _ => .inl ⟨fun hc => q0 ?_, rfl, rfl⟩, fun c => absN c⟩)
  rotate_left
  · unfold K_chain bd at hc
    unfold bd
    rw [Int32.toInt_toInt64, e1]; omega
  refine c_in3 (fun q1 => ⟨fun _ => ?_, fun c => absI c⟩) (fun q1 => ⟨fun c => absurd rfl c, fun _ => .inl ⟨fun hc => q1 ?_, rfl, rfl⟩⟩)
  rotate_left
  · unfold K_chain bd at hc
    unfold bd
    rw [Int32.toInt_toInt64, e2]; omega
  have hC : K_chain x1 x2 := by
    unfold bd at q0 q1
    rw [Int32.toInt_toInt64, e1] at q0
    rw [Int32.toInt_toInt64, e2] at q1
    unfold K_chain bd
    omega
  have v0 : vp_in (2 : Int32) 887 := vp_in_iff.mpr (by decide)
  rw [cl2, em]
  refine and_have v0 (fun _ => ⟨fun c => ?_, fun c => .inr (.inl ⟨hC, (nI_eq (by omega) (by omega)).mp c, rfl, rfl⟩)⟩)
  have hlt : m < 16 := by
    have : m ≠ 16 := fun e => c (by rw [e]; rfl)
    omega
  refine and_have v0 (fun _ => ?_)
  rintro _ rfl
  rw [show (512 : Int32) + ((10 : Int32) * nI m) = nI (512 + 10 * m) from ix2 512 10 m]
  refine lpE_intro (fun ⟨a_q, b_q, c_q, d_q, h_q, _⟩ => ∃ (k : Nat) (f : Nat → Int32), k ≤ 10 ∧ x1 = a_q ∧ x2 = b_q ∧ nI (512 + 10 * m) = c_q ∧ nI k = d_q ∧ ST h h_q f ∧ (∀ i, i < 512 + 10 * m ∨ 512 + 10 * m + 10 ≤ i → f i = h 136 i) ∧ ∀ c, c < k → f (512 + 10 * m + c) = rowc x1 x2 0 0 c) (fun ⟨_, _, _, d_q, _, _⟩ => dif (nI 10) d_q) ?_ _ ⟨0, h 136, by omega, rfl, rfl, rfl, nI_0, ST.rf r, fun _ _ => rfl, fun c hc => by omega⟩
  rintro ⟨y1, y2, y3, y4, h1, g1⟩ K ⟨k, f, hk, rfl, rfl, rfl, rfl, S1, hf', hrow⟩ hK
  have hf : ∀ i, i < 9 → f i = h 136 i := fun i hi => hf' i (by omega)
  unfold F_X11_chain_60; dsimp only; unfold b_X11_chain_60
  refine ⟨fun c => ?_, fun c => ?_⟩
  · have k10 : k = 10 := by
      rw [show (10 : Int32) = nI 10 from rfl, nI_leI (by omega) (by omega)] at c
      omega
    subst k10
    refine c_i (p_one (c := 2) (m := m) S1 v0 cl2 (by rw [hf 2 (by omega)]; exact em) (by omega) (okn2 (by omega))) ?_
    rintro _ h6 _ ⟨rfl, -, S6⟩
    refine .inr (.inr ⟨hC, hlt, rfl, S6.1, by rw [S6.2.1, pk_us], ?_, by rw [S6.2.1]; exact S6.2.2, ?_, ?_⟩)
    · intro i hi hn
      rw [S6.2.1, pk_un hn, hf i hi]
    · intro i hn hi
      rw [S6.2.1, pk_un hn]; exact hf' i hi
    · intro c hc
      rw [S6.2.1, pk_un (by omega)]; exact hrow c hc
  · have hd := dif_lt (a := nI 10) c
    rw [show (10 : Int32) = nI 10 from rfl, nI_leI (by omega) (by omega)] at c
    rw [nI_add]
    have j95 : ∀ v : Int32, (2 ≤ k → v = 0) → v = rowc x1 x2 0 0 k → j_X11_chain_95 (fun s h' _ => ADr (K_chain x1 x2) h s h' 2 m 16 0 (fun f' => (∀ i, i ≠ 2 → (i < 512 + 10 * m ∨ 512 + 10 * m + 10 ≤ i) → f' i = h 136 i) ∧ ∀ c, c < 10 → f' (512 + 10 * m + c) = rowc x1 x2 0 0 c)) (fun x1 x2 x3 x4 h g => K (x1, x2, x3, x4, h, g)) x1 x2 (nI (512 + 10 * m)) (nI k) (nI (512 + 10 * m + k)) v h1 g1 := by
      intro v hv hvr
      unfold j_X11_chain_95
      rw [nI_clamp (n := 512 + 10 * m + k) (by omega)]
      refine and_have (vp_in_nI (by omega) (by omega)) (fun _ => ?_)
      intro h2 e2'
      rintro _ rfl
      have z6 : 2 ≤ k → bd 0 6 v := fun h => by rw [hv h]; unfold bd; decide
      have z23 : 2 ≤ k → bd 0 23 v := fun h => by rw [hv h]; unfold bd; decide
      have S2 := S1.hu e2' (okD (by omega) (fun _ => z6 (by omega)) (fun _ => z23 (by omega)))
      refine hK _ ⟨k + 1, _, by omega, rfl, rfl, rfl, (nI_1 k).symm, S2, fun i hi => by rw [pk_un (by omega)]; exact hf' i hi, fun c hc => ?_⟩ hd
      by_cases e : c = k
      · subst e; rw [pk_us]; exact hvr
      · rw [pk_un (by omega)]; exact hrow c (by omega)
    refine ⟨fun c0 => ⟨fun c1 => ?_, fun c1 => ?_⟩, fun c0 => ?_⟩
    · have k0 : k ≠ 0 := fun e => c0 (by rw [e]; exact nI_0)
      have k1 : k ≠ 1 := fun e => c1 (by rw [e]; rfl)
      refine j95 _ (fun _ => rfl) ?_
      unfold rowc
      rw [if_neg k0, if_neg k1]
      by_cases e2 : k = 2
      · rw [if_pos e2]
      · rw [if_neg e2]
        by_cases e3 : k = 3
        · rw [if_pos e3]
        · rw [if_neg e3]
    · have e : k = 1 := (nI_eq (by omega) (by omega)).mp c1
      subst e
      exact j95 _ (fun h => by omega) rfl
    · have e : k = 0 := (nI_eq (by omega) (by omega)).mp (c0.trans nI_0.symm)
      subst e
      exact j95 _ (fun h => by omega) rfl
theorem p_X11_work {h : HI} {g : HL} (r : RG (h 136)) {m : Nat} (em : h 136 3 = nI m) (hm : m ≤ 8) {x1 x2 x3 x4 : Int32} : w_X11_work x1 x2 x3 x4 h g (fun s h' _ => ADr (K_work x1 x2 x3 x4) h s h' 3 m 8 0 (fun f' => f' = upd (upd (upd (upd (upd (h 136) (672 + 4 * m) x1) (672 + 4 * m + 1) x2) (672 + 4 * m + 2) x3) (672 + 4 * m + 3) x4) 3 (nI (m + 1)))) := by
  have e1 : (1 : Int64).toInt = 1 := by decide
  have e3 : (3000 : Int64).toInt = 3000 := by decide
  unfold w_X11_work
  refine c_in3 (fun q0 => ⟨fun c => absI c, fun _ => ?_⟩) (fun q0 => ⟨fun _ => .inl ⟨fun hc => q0 (bd.mo hc.2.1 (by decide) (by decide)), rfl, rfl⟩, fun c => absN c⟩)
  refine ⟨fun c => .inl ⟨fun hc => hc.1 c, rfl, rfl⟩, fun cz => ?_⟩
  refine c_in3 (fun q1 => ⟨fun c => absI c, fun _ => ?_⟩) (fun q1 => ⟨fun _ => .inl ⟨fun hc => q1 (bd.mo hc.2.2.1 (by decide) (by decide)), rfl, rfl⟩, fun c => absN c⟩)
  refine c_in3 (fun q2 => ⟨fun c => absI c, fun _ => ?_⟩) (fun q2 => ⟨fun _ => .inl ⟨fun hc => q2 ?_, rfl, rfl⟩, fun c => absN c⟩)
  rotate_left
  · unfold K_work bd at hc
    unfold bd
    rw [Int32.toInt_toInt64, e1]; omega
  refine c_in3 (fun q3 => ⟨fun _ => ?_, fun c => absI c⟩) (fun q3 => ⟨fun c => absurd rfl c, fun _ => .inl ⟨fun hc => q3 ?_, rfl, rfl⟩⟩)
  rotate_left
  · unfold K_work bd at hc
    unfold bd
    rw [Int32.toInt_toInt64, e3]; omega
  have b0 : bd (-500) 500 x1 := bd.mo q0 (by decide) (by decide)
  have b1 : bd 1 1000 x2 := bd.mo q1 (by decide) (by decide)
  have hC : K_work x1 x2 x3 x4 := by
    unfold bd at q2 q3
    rw [Int32.toInt_toInt64, e1] at q2
    rw [Int32.toInt_toInt64, e3] at q3
    refine ⟨cz, b0, b1, ?_, ?_⟩
    · unfold bd; omega
    · unfold bd; omega
  have v0 : vp_in (3 : Int32) 887 := vp_in_iff.mpr (by decide)
  rw [cl3, em]
  refine and_have v0 (fun _ => ⟨fun c => ?_, fun c => .inr (.inl ⟨hC, (nI_eq (by omega) (by omega)).mp c, rfl, rfl⟩)⟩)
  have hlt : m < 8 := by
    have : m ≠ 8 := fun e => c (by rw [e]; rfl)
    omega
  refine and_have v0 (fun _ => ?_)
  rintro _ rfl
  rw [show (672 : Int32) + ((4 : Int32) * nI m) = nI (672 + 4 * m) from ix2 672 4 m, show nI (672 + 4 * m) + (1 : Int32) = nI (672 + 4 * m + 1) from nI_add _ 1, show nI (672 + 4 * m) + (2 : Int32) = nI (672 + 4 * m + 2) from nI_add _ 2, show nI (672 + 4 * m) + (3 : Int32) = nI (672 + 4 * m + 3) from nI_add _ 3, nI_clamp (n := 672 + 4 * m) (by omega), nI_clamp (n := 672 + 4 * m + 1) (by omega), nI_clamp (n := 672 + 4 * m + 2) (by omega), nI_clamp (n := 672 + 4 * m + 3) (by omega)]
  refine and_have (vp_in_nI (by omega) (by omega)) (fun _ => ?_)
  intro h1 e1
  have S1 := (ST.rf r).hu e1 (okE (by omega) (fun _ => b0) (fun _ => by omega))
  refine and_have (vp_in_nI (by omega) (by omega)) (fun _ => ?_)
  intro h2 e2
  have S2 := S1.hu e2 (okE (by omega) (fun _ => by omega) (fun _ => b1.mo (by omega) (by omega)))
  refine and_have (vp_in_nI (by omega) (by omega)) (fun _ => ?_)
  intro h3 e3
  have S3 := S2.hu e3 (okE (by omega) (fun _ => by omega) (fun _ => by omega))
  refine and_have (vp_in_nI (by omega) (by omega)) (fun _ => ?_)
  intro h4 e4
  have S4 := S3.hu e4 (okE (by omega) (fun _ => by omega) (fun _ => by omega))
  refine c_i (p_one (c := 3) (m := m) S4 v0 cl3 (by rw [cnt_u (by omega) (by omega), cnt_u (by omega) (by omega), cnt_u (by omega) (by omega), cnt_u (by omega) (by omega)]; exact em) (by omega) (okn3 (by omega))) ?_
  rintro _ h6 _ ⟨rfl, -, S6⟩
  refine .inr (.inr ⟨hC, hlt, rfl, S6.1, by rw [S6.2.1, pk_us], ?_, by rw [S6.2.1]; exact S6.2.2, S6.2.1⟩)
  intro i hi hn
  rw [S6.2.1, pk_un hn, cnt_u hi (by omega), cnt_u hi (by omega), cnt_u hi (by omega), cnt_u hi (by omega)]
/-- a call of the reference that leaves its counts -/
def PTr (A : Prop) (h h' : HI) : Prop := A ∧ ∃ f, ST h h' f ∧ ∀ i, i < 9 → f i = h 136 i
theorem PTr.rf {A : Prop} {h : HI} (r : RG (h 136)) (a : A) : PTr A h h := ⟨a, h 136, ST.rf r, fun _ _ => rfl⟩
theorem p_X11_erase {h : HI} {g : HL} (r : RG (h 136)) {m : Nat} (em : h 136 8 = nI m) : w_X11_erase h g (fun s h' _ => s = nI m ∧ ST h h' (upd (h 136) 8 0)) := by
  unfold w_X11_erase
  refine c_i (S := fun s h' g' => s = nI m ∧ ST h h' (upd (h 136) 8 0)) ?_ (fun _ _ _ k => k)
  unfold w_X11_puts
  rw [cl8, em]
  refine and_have (vp_in_iff.mpr (by decide)) (fun v => ?_)
  rintro _ rfl
  refine and_have v (fun _ => ?_)
  intro h1 e1
  exact ⟨rfl, (ST.rf r).hu e1 (okn8 (m := 0) (by omega))⟩
theorem p_X11_scrap {h : HI} {g : HL} (r : RG (h 136)) {m n : Nat} (em : h 136 4 = nI m) (en : h 136 5 = nI n) : w_X11_scrap h g (fun s h' _ => s = nI m + nI n ∧ ST h h' (upd (upd (h 136) 4 0) 5 0)) := by
  unfold w_X11_scrap
  rw [cl4, cl5, em, en]
  have v4 : vp_in (4 : Int32) 887 := vp_in_iff.mpr (by decide)
  have v5 : vp_in (5 : Int32) 887 := vp_in_iff.mpr (by decide)
  refine and_have v4 (fun _ => and_have v5 (fun _ => ?_))
  rintro _ rfl
  refine and_have v4 (fun _ => ?_)
  intro h1 e1
  refine and_have v5 (fun _ => ?_)
  intro h2 e2
  exact ⟨rfl, ((ST.rf r).hu e1 (okn4 (m := 0) (by omega))).hu e2 (okn5 (m := 0) (by omega))⟩
