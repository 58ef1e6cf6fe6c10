/-! THE REFERENCE'S CALLS THAT CHANGE IT -/
theorem c_isb {k x : Int32} {N : Int} {h : HI} {g : HL} {body : Int32 → HI → HL → Prop} (hk : vp_in k 887) (hb : bd 0 N (h 136 k.toNatClampNeg)) (hN : N ≤ 1000) (h1 : isRow (h 136 k.toNatClampNeg) x → bd 0 (N - 1) x → body 1 h g) (h0 : ¬ isRow (h 136 k.toNatClampNeg) x → body 0 h g) : ∃ P : Int32 → HI → HL → Prop, w_X11_is k x h g P ∧ ∀ (r : Int32) (h : HI) (g : HL), zb r → P r h g → body r h g :=
  c_is hk hb hN (fun q q1 => h1 (isRow_r q q1) q) (fun q => h0 (isRow_n q))
abbrev dfl : Int × Int := (-2147483648, 2147483647)
theorem rg_A {k : Nat} (h : 20 ≤ k ∧ k < 140) : rg k = (if (k - 20) % 5 = 0 then (0, 100) else if (k - 20) % 5 = 3 then (-1, 3) else dfl) := by
  unfold rg
  rw [if_neg (by omega), if_neg (by omega), if_neg (by omega), if_neg (by omega), if_neg (by omega), if_neg (by omega), if_neg (by omega), if_neg (by omega), if_neg (by omega), if_neg (by omega), if_neg (by omega), if_pos h]
theorem rg_B {k : Nat} (h : 140 ≤ k ∧ k < 152) : rg k = (if (k - 140) % 3 = 1 then (1, 100000) else dfl) := by
  unfold rg
  rw [if_neg (by omega), if_neg (by omega), if_neg (by omega), if_neg (by omega), if_neg (by omega), if_neg (by omega), if_neg (by omega), if_neg (by omega), if_neg (by omega), if_neg (by omega), if_neg (by omega), if_neg (by omega), if_pos h]
theorem rg_C {k : Nat} (h : 152 ≤ k ∧ k < 512) : rg k = (if (k - 152) % 6 = 0 then (0, 23) else dfl) := by
  unfold rg
  rw [if_neg (by omega), if_neg (by omega), if_neg (by omega), if_neg (by omega), if_neg (by omega), if_neg (by omega), if_neg (by omega), if_neg (by omega), if_neg (by omega), if_neg (by omega), if_neg (by omega), if_neg (by omega), if_neg (by omega), if_pos h]
theorem rg_D {k : Nat} (h : 512 ≤ k ∧ k < 672) : rg k = (if (k - 512) % 10 = 2 then (0, 6) else if 3 ≤ (k - 512) % 10 ∧ (k - 512) % 10 ≤ 8 then (0, 23) else dfl) := by
  unfold rg
  rw [if_neg (by omega), if_neg (by omega), if_neg (by omega), if_neg (by omega), if_neg (by omega), if_neg (by omega), if_neg (by omega), if_neg (by omega), if_neg (by omega), if_neg (by omega), if_neg (by omega), if_neg (by omega), if_neg (by omega), if_neg (by omega), if_pos h]
theorem rg_E {k : Nat} (h : 672 ≤ k ∧ k < 704) : rg k = (if (k - 672) % 4 = 0 then (-500, 500) else if (k - 672) % 4 = 1 then (0, 1000) else dfl) := by
  unfold rg
  rw [if_neg (by omega), if_neg (by omega), if_neg (by omega), if_neg (by omega), if_neg (by omega), if_neg (by omega), if_neg (by omega), if_neg (by omega), if_neg (by omega), if_neg (by omega), if_neg (by omega), if_neg (by omega), if_neg (by omega), if_neg (by omega), if_neg (by omega), if_pos h]
theorem rg_F {k : Nat} (h : 817 ≤ k ∧ k < 823) : rg k = (if (k - 817) % 2 = 0 then (0, 15) else dfl) := by
  unfold rg
  rw [if_neg (by omega), if_neg (by omega), if_neg (by omega), if_neg (by omega), if_neg (by omega), if_neg (by omega), if_neg (by omega), if_neg (by omega), if_neg (by omega), if_neg (by omega), if_neg (by omega), if_neg (by omega), if_neg (by omega), if_neg (by omega), if_neg (by omega), if_neg (by omega), if_pos h]
theorem rg_Z {k : Nat} (h : 704 ≤ k ∧ k < 817 ∨ 823 ≤ k) : rg k = dfl := by
  unfold rg
  rw [if_neg (by omega), if_neg (by omega), if_neg (by omega), if_neg (by omega), if_neg (by omega), if_neg (by omega), if_neg (by omega), if_neg (by omega), if_neg (by omega), if_neg (by omega), if_neg (by omega), if_neg (by omega), if_neg (by omega), if_neg (by omega), if_neg (by omega), if_neg (by omega), if_neg (by omega)]
theorem okZ {k : Nat} {x : Int32} (h : 704 ≤ k ∧ k < 817 ∨ 823 ≤ k) : okR k x := by
  unfold okR; rw [rg_Z h]; exact bd_all x
theorem okA {k : Nat} {x : Int32} (h : 20 ≤ k ∧ k < 140) (h0 : (k - 20) % 5 = 0 → bd 0 100 x) (h3 : (k - 20) % 5 = 3 → bd (-1) 3 x) : okR k x := by
  unfold okR; rw [rg_A h]
  by_cases c : (k - 20) % 5 = 0
  · rw [if_pos c]; exact h0 c
  · rw [if_neg c]
    by_cases d : (k - 20) % 5 = 3
    · rw [if_pos d]; exact h3 d
    · rw [if_neg d]; exact bd_all x
theorem okB {k : Nat} {x : Int32} (h : 140 ≤ k ∧ k < 152) (h0 : (k - 140) % 3 = 1 → bd 1 100000 x) : okR k x := by
  unfold okR; rw [rg_B h]
  by_cases c : (k - 140) % 3 = 1
  · rw [if_pos c]; exact h0 c
  · rw [if_neg c]; exact bd_all x
theorem okC' {k : Nat} {x : Int32} (h : 152 ≤ k ∧ k < 512) (h0 : (k - 152) % 6 = 0 → bd 0 23 x) : okR k x := by
  unfold okR; rw [rg_C h]
  by_cases c : (k - 152) % 6 = 0
  · rw [if_pos c]; exact h0 c
  · rw [if_neg c]; exact bd_all x
theorem okD {k : Nat} {x : Int32} (h : 512 ≤ k ∧ k < 672) (h0 : (k - 512) % 10 = 2 → bd 0 6 x) (h3 : 3 ≤ (k - 512) % 10 ∧ (k - 512) % 10 ≤ 8 → bd 0 23 x) : okR k x := by
  unfold okR; rw [rg_D h]
  by_cases c : (k - 512) % 10 = 2
  · rw [if_pos c]; exact h0 c
  · rw [if_neg c]
    by_cases d : 3 ≤ (k - 512) % 10 ∧ (k - 512) % 10 ≤ 8
    · rw [if_pos d]; exact h3 d
    · rw [if_neg d]; exact bd_all x
theorem okE {k : Nat} {x : Int32} (h : 672 ≤ k ∧ k < 704) (h0 : (k - 672) % 4 = 0 → bd (-500) 500 x) (h3 : (k - 672) % 4 = 1 → bd 0 1000 x) : okR k x := by
  unfold okR; rw [rg_E h]
  by_cases c : (k - 672) % 4 = 0
  · rw [if_pos c]; exact h0 c
  · rw [if_neg c]
    by_cases d : (k - 672) % 4 = 1
    · rw [if_pos d]; exact h3 d
    · rw [if_neg d]; exact bd_all x
theorem okF {k : Nat} {x : Int32} (h : 817 ≤ k ∧ k < 823) (h0 : (k - 817) % 2 = 0 → bd 0 15 x) : okR k x := by
  unfold okR; rw [rg_F h]
  by_cases c : (k - 817) % 2 = 0
  · rw [if_pos c]; exact h0 c
  · rw [if_neg c]; exact bd_all x
/-- only the reference's numbers changed, and they are f now, the counts as in b -/
def ST (h0 h : HI) (f : Nat → Int32) : Prop := (∀ o, o ≠ 136 → h o = h0 o) ∧ h 136 = f ∧ RG f
theorem ST.rf {h : HI} (r : RG (h 136)) : ST h h (h 136) := ⟨fun _ _ => rfl, rfl, r⟩
theorem ST.hu {h0 h h' : HI} {f : Nat → Int32} {k : Nat} {x : Int32} (s : ST h0 h f) (e : h' = hu h 136 k x) (ok : okR k x) : ST h0 h' (upd f k x) := by
  obtain ⟨a, b, r⟩ := s
  subst b
  exact ⟨fun o n => by rw [e, hu_ne n]; exact a o n, by rw [e, hu_eq], r.set ok⟩
theorem p_one {h0 h : HI} {g : HL} {f : Nat → Int32} {k : Int32} {c m : Nat} (s : ST h0 h f) (hk : vp_in k 887) (ec : k.toNatClampNeg = c) (em : f c = nI m) (hm : m < 2 ^ 31) (ok : okR c (nI (m + 1))) : w_X11_one k h g (fun r h' g' => nI m = r ∧ g = g' ∧ ST h0 h' (upd f c (nI (m + 1)))) := by
  unfold w_X11_one
  rw [ec]
  refine and_have hk (fun _ => and_have hk (fun _ => ?_))
  intro h1 e1
  have e2 : h 136 c = nI m := by rw [s.2.1]; exact em
  rw [e2, nI_1] at e1
  refine ⟨hk, ?_, rfl, s.hu e1 ok⟩
  rw [e1, hu_eq, pk_us, nI_pred]
/-- counts untouched by what is written behind them -/
theorem cnt_u {f : Nat → Int32} {k i : Nat} {x : Int32} (h : i < 9) (hk : 9 ≤ k) : upd f k x i = f i := pk_un (by omega)
theorem okn0 {m : Nat} (h : m ≤ 24) : okR 0 (nI m) := by
  show bd 0 24 (nI m)
  exact bd_of (by omega) (by omega) (by omega)
theorem okn1 {m : Nat} (h : m ≤ 60) : okR 1 (nI m) := by
  show bd 0 60 (nI m)
  exact bd_of (by omega) (by omega) (by omega)
theorem okn2 {m : Nat} (h : m ≤ 16) : okR 2 (nI m) := by
  show bd 0 16 (nI m)
  exact bd_of (by omega) (by omega) (by omega)
theorem okn3 {m : Nat} (h : m ≤ 8) : okR 3 (nI m) := by
  show bd 0 8 (nI m)
  exact bd_of (by omega) (by omega) (by omega)
theorem okn4 {m : Nat} (h : m ≤ 6) : okR 4 (nI m) := by
  show bd 0 6 (nI m)
  exact bd_of (by omega) (by omega) (by omega)
theorem okn5 {m : Nat} (h : m ≤ 9) : okR 5 (nI m) := by
  show bd 0 9 (nI m)
  exact bd_of (by omega) (by omega) (by omega)
theorem okn6 {m : Nat} (h : m ≤ 40) : okR 6 (nI m) := by
  show bd 0 40 (nI m)
  exact bd_of (by omega) (by omega) (by omega)
theorem okn7 {m : Nat} (h : m ≤ 3) : okR 7 (nI m) := by
  show bd 0 3 (nI m)
  exact bd_of (by omega) (by omega) (by omega)
theorem okn8 {m : Nat} (h : m ≤ 60) : okR 8 (nI m) := by
  show bd 0 60 (nI m)
  exact bd_of (by omega) (by omega) (by omega)
set_option maxHeartbeats 1000000 in
theorem p_X11_part {h : HI} {g : HL} (r : RG (h 136)) {m : Nat} (em : h 136 0 = nI m) (hm : m ≤ 24) {x1 x2 x3 x4 : Int32} : w_X11_part x1 x2 x3 x4 h g (fun s h' _ => ADr (K_part x1 x2 x3 x4) h s h' 0 m 24 0 (fun f' => f' = upd (upd (upd (upd (upd (upd (h 136) (20 + 5 * m) x1) (20 + 5 * m + 1) x2) (20 + 5 * m + 2) x3) (20 + 5 * m + 3) x4) (20 + 5 * m + 4) 0) 0 (nI (m + 1)))) := by
  unfold w_X11_part
  refine c_in3 (fun q0 => ⟨fun c => absI c, fun _ => ?_⟩) (fun q0 => ⟨fun _ => .inl ⟨fun hc => q0 (bd.mo hc.1 (by decide) (by decide)), rfl, rfl⟩, fun c => absN c⟩)
  refine c_in3 (fun q1 => ⟨fun c => absI c, fun _ => ?_⟩) (fun q1 => ⟨fun _ => .inl ⟨fun hc => q1 (bd.mo hc.2.1 (by decide) (by decide)), rfl, rfl⟩, fun c => absN c⟩)
  refine c_yr (fun q2 => ⟨fun c => absI c, fun _ => ?_⟩) (fun q2 => ⟨fun _ => .inl ⟨fun hc => q2 hc.2.2.1, rfl, rfl⟩, fun c => absN c⟩)
  refine c_in3 (fun q3 => ⟨fun _ => ?_, fun c => absI c⟩) (fun q3 => ⟨fun c => absurd rfl c, fun _ => .inl ⟨fun hc => q3 (bd.mo hc.2.2.2 (by decide) (by decide)), rfl, rfl⟩⟩)
  have b0 : bd 0 100 x1 := bd.mo q0 (by decide) (by decide)
  have b3 : bd (-1) 3 x4 := bd.mo q3 (by decide) (by decide)
  have hC : K_part x1 x2 x3 x4 := ⟨b0, bd.mo q1 (by decide) (by decide), q2, b3⟩
  rw [cl0, em]
  refine and_have (vp_in_iff.mpr (by decide)) (fun v0 => ⟨fun c => ?_, fun c => .inr (.inl ⟨hC, (nI_eq (by omega) (by omega)).mp c, rfl, rfl⟩)⟩)
  have hlt : m < 24 := by
    have : m ≠ 24 := fun e => c (by rw [e]; rfl)
    omega
  refine and_have v0 (fun _ => ?_)
  rintro _ rfl
  rw [show (20 : Int32) + ((5 : Int32) * nI m) = nI (20 + 5 * m) from ix2 20 5 m, show nI (20 + 5 * m) + (1 : Int32) = nI (20 + 5 * m + 1) from nI_add _ 1, show nI (20 + 5 * m) + (2 : Int32) = nI (20 + 5 * m + 2) from nI_add _ 2, show nI (20 + 5 * m) + (3 : Int32) = nI (20 + 5 * m + 3) from nI_add _ 3, show nI (20 + 5 * m) + (4 : Int32) = nI (20 + 5 * m + 4) from nI_add _ 4]
  rw [nI_clamp (n := 20 + 5 * m) (by omega), nI_clamp (n := 20 + 5 * m + 1) (by omega), nI_clamp (n := 20 + 5 * m + 2) (by omega), nI_clamp (n := 20 + 5 * m + 3) (by omega), nI_clamp (n := 20 + 5 * m + 4) (by omega)]
  refine and_have (vp_in_nI (by omega) (by omega)) (fun _ => ?_)
  intro h1 e1
  have S1 := (ST.rf r).hu e1 (okA (by omega) (fun _ => b0) (fun _ => by omega))
  refine and_have (vp_in_nI (by omega) (by omega)) (fun _ => ?_)
  intro h2 e2
  have S2 := S1.hu e2 (okA (by omega) (fun _ => by omega) (fun _ => by omega))
  refine and_have (vp_in_nI (by omega) (by omega)) (fun _ => ?_)
  intro h3 e3
  have S3 := S2.hu e3 (okA (by omega) (fun _ => by omega) (fun _ => by omega))
  refine and_have (vp_in_nI (by omega) (by omega)) (fun _ => ?_)
  intro h4 e4
  have S4 := S3.hu e4 (okA (by omega) (fun _ => by omega) (fun _ => b3))
  refine and_have (vp_in_nI (by omega) (by omega)) (fun _ => ?_)
  intro h5 e5
  have S5 := S4.hu e5 (okA (by omega) (fun _ => by omega) (fun _ => by omega))
  refine c_i (p_one (c := 0) (m := m) S5 v0 cl0 (by rw [cnt_u (by omega) (by omega), cnt_u (by omega) (by omega), cnt_u (by omega) (by omega), cnt_u (by omega) (by omega), cnt_u (by omega) (by omega)]; exact em) (by omega) (okn0 (by omega))) ?_
  rintro _ h6 _ ⟨rfl, -, S6⟩
  refine .inr (.inr ⟨hC, hlt, rfl, S6.1, by rw [S6.2.1, pk_us], ?_, by rw [S6.2.1]; exact S6.2.2, S6.2.1⟩)
  intro i hi hn
  rw [S6.2.1, pk_un hn, cnt_u hi (by omega), cnt_u hi (by omega), cnt_u hi (by omega), cnt_u hi (by omega), cnt_u hi (by omega)]

theorem p_X11_machine {h : HI} {g : HL} (r : RG (h 136)) {m : Nat} (em : h 136 4 = nI m) (hm : m ≤ 6) {x1 : Int32} : w_X11_machine x1 h g (fun s h' _ => ADr (K_machine x1) h s h' 4 m 6 0 (fun f' => f' = upd (upd (h 136) (704 + m) x1) 4 (nI (m + 1)))) := by
  unfold w_X11_machine
  refine c_in3 (fun q0 => ⟨fun _ => ?_, fun c => absI c⟩) (fun q0 => ⟨fun c => absurd rfl c, fun _ => .inl ⟨fun hc => q0 (bd.mo hc (by decide) (by decide)), rfl, rfl⟩⟩)
  have hC : K_machine x1 := bd.mo q0 (by decide) (by decide)
  rw [cl4, em]
  refine and_have (vp_in_iff.mpr (by decide)) (fun v0 => ⟨fun c => ?_, fun c => .inr (.inl ⟨hC, (nI_eq (by omega) (by omega)).mp c, rfl, rfl⟩)⟩)
  have hlt : m < 6 := by
    have : m ≠ 6 := fun e => c (by rw [e]; rfl)
    omega
  rw [show (704 : Int32) + nI m = nI (704 + m) from nI_add 704 m, nI_clamp (n := 704 + m) (by omega)]
  refine and_have v0 (fun _ => and_have (vp_in_nI (by omega) (by omega)) (fun _ => ?_))
  intro h1 e1
  have S1 := (ST.rf r).hu e1 (okZ (by omega))
  refine c_i (p_one (c := 4) (m := m) S1 v0 cl4 (by rw [cnt_u (by omega) (by omega)]; exact em) (by omega) (okn4 (by omega))) ?_
  rintro _ h6 _ ⟨rfl, -, S6⟩
  refine .inr (.inr ⟨hC, hlt, rfl, S6.1, by rw [S6.2.1, pk_us], ?_, by rw [S6.2.1]; exact S6.2.2, S6.2.1⟩)
  intro i hi hn
  rw [S6.2.1, pk_un hn, cnt_u hi (by omega)]
theorem p_X11_spare {h : HI} {g : HL} (r : RG (h 136)) {m : Nat} (em : h 136 5 = nI m) (hm : m ≤ 9) {x1 x2 x3 : Int32} : w_X11_spare x1 x2 x3 h g (fun s h' _ => ADr (K_spare x1 x2 x3) h s h' 5 m 9 0 (fun f' => f' = upd (upd (upd (upd (h 136) (710 + 3 * m) x1) (710 + 3 * m + 1) x2) (710 + 3 * m + 2) x3) 5 (nI (m + 1)))) := by
  unfold w_X11_spare
  refine c_in3 (fun q0 => ⟨fun c => absI c, fun _ => ?_⟩) (fun q0 => ⟨fun _ => .inl ⟨fun hc => q0 (bd.mo hc.1 (by decide) (by decide)), rfl, rfl⟩, fun c => absN c⟩)
  refine c_in3 (fun q1 => ⟨fun c => absI c, fun _ => ?_⟩) (fun q1 => ⟨fun _ => .inl ⟨fun hc => q1 (bd.mo hc.2.1 (by decide) (by decide)), rfl, rfl⟩, fun c => absN c⟩)
  refine c_in3 (fun q2 => ⟨fun _ => ?_, fun c => absI c⟩) (fun q2 => ⟨fun c => absurd rfl c, fun _ => .inl ⟨fun hc => q2 (bd.mo hc.2.2 (by decide) (by decide)), rfl, rfl⟩⟩)
  have hC : K_spare x1 x2 x3 := ⟨bd.mo q0 (by decide) (by decide), bd.mo q1 (by decide) (by decide), bd.mo q2 (by decide) (by decide)⟩
  rw [cl5, em]
  refine and_have (vp_in_iff.mpr (by decide)) (fun v0 => ⟨fun c => ?_, fun c => .inr (.inl ⟨hC, (nI_eq (by omega) (by omega)).mp c, rfl, rfl⟩)⟩)
  have hlt : m < 9 := by
    have : m ≠ 9 := fun e => c (by rw [e]; rfl)
    omega
  refine and_have v0 (fun _ => ?_)
  rintro _ rfl
  rw [show (710 : Int32) + ((3 : Int32) * nI m) = nI (710 + 3 * m) from ix2 710 3 m, show nI (710 + 3 * m) + (1 : Int32) = nI (710 + 3 * m + 1) from nI_add _ 1, show nI (710 + 3 * m) + (2 : Int32) = nI (710 + 3 * m + 2) from nI_add _ 2, nI_clamp (n := 710 + 3 * m) (by omega), nI_clamp (n := 710 + 3 * m + 1) (by omega), nI_clamp (n := 710 + 3 * m + 2) (by omega)]
  refine and_have (vp_in_nI (by omega) (by omega)) (fun _ => ?_)
  intro h1 e1
  have S1 := (ST.rf r).hu e1 (okZ (by omega))
  refine and_have (vp_in_nI (by omega) (by omega)) (fun _ => ?_)
  intro h2 e2
  have S2 := S1.hu e2 (okZ (by omega))
  refine and_have (vp_in_nI (by omega) (by omega)) (fun _ => ?_)
  intro h3 e3
  have S3 := S2.hu e3 (okZ (by omega))
  refine c_i (p_one (c := 5) (m := m) S3 v0 cl5 (by rw [cnt_u (by omega) (by omega), cnt_u (by omega) (by omega), cnt_u (by omega) (by omega)]; exact em) (by omega) (okn5 (by omega))) ?_
  rintro _ h6 _ ⟨rfl, -, S6⟩
  refine .inr (.inr ⟨hC, hlt, rfl, S6.1, by rw [S6.2.1, pk_us], ?_, by rw [S6.2.1]; exact S6.2.2, S6.2.1⟩)
  intro i hi hn
  rw [S6.2.1, pk_un hn, cnt_u hi (by omega), cnt_u hi (by omega), cnt_u hi (by omega)]
theorem p_X11_hand {h : HI} {g : HL} (r : RG (h 136)) {m : Nat} (em : h 136 7 = nI m) (hm : m ≤ 3) {x1 x2 : Int32} : w_X11_hand x1 x2 h g (fun s h' _ => ADr (K_hand x1 x2) h s h' 7 m 3 0 (fun f' => f' = upd (upd (upd (h 136) (817 + 2 * m) x1) (817 + 2 * m + 1) x2) 7 (nI (m + 1)))) := by
  unfold w_X11_hand
  refine c_in3 (fun q0 => ⟨fun c => absI c, fun _ => ?_⟩) (fun q0 => ⟨fun _ => .inl ⟨fun hc => q0 (bd.mo hc.1 (by decide) (by decide)), rfl, rfl⟩, fun c => absN c⟩)
  refine c_in3 (fun q1 => ⟨fun _ => ?_, fun c => absI c⟩) (fun q1 => ⟨fun c => absurd rfl c, fun _ => .inl ⟨fun hc => q1 (bd.mo hc.2 (by decide) (by decide)), rfl, rfl⟩⟩)
  have b0 : bd 0 15 x1 := bd.mo q0 (by decide) (by decide)
  have hC : K_hand x1 x2 := ⟨b0, bd.mo q1 (by decide) (by decide)⟩
  rw [cl7, em]
  refine and_have (vp_in_iff.mpr (by decide)) (fun v0 => ⟨fun c => ?_, fun c => .inr (.inl ⟨hC, (nI_eq (by omega) (by omega)).mp c, rfl, rfl⟩)⟩)
  have hlt : m < 3 := by
    have : m ≠ 3 := fun e => c (by rw [e]; rfl)
    omega
  refine and_have v0 (fun _ => ?_)
  rw [show (817 : Int32) + ((2 : Int32) * nI m) = nI (817 + 2 * m) from ix2 817 2 m, nI_clamp (n := 817 + 2 * m) (by omega)]
  refine and_have (vp_in_nI (by omega) (by omega)) (fun _ => ?_)
  intro h1 e1
  have S1 := (ST.rf r).hu e1 (okF (by omega) (fun _ => b0))
  have e17 : h1 136 7 = nI m := by rw [S1.2.1, cnt_u (by omega) (by omega)]; exact em
  rw [e17, show ((817 : Int32) + ((2 : Int32) * nI m)) + (1 : Int32) = nI (817 + 2 * m + 1) from ix3 817 2 m 1, nI_clamp (n := 817 + 2 * m + 1) (by omega)]
  refine and_have v0 (fun _ => and_have (vp_in_nI (by omega) (by omega)) (fun _ => ?_))
  intro h2 e2
  have S2 := S1.hu e2 (okF (by omega) (fun _ => by omega))
  refine c_i (p_one (c := 7) (m := m) S2 v0 cl7 (by rw [cnt_u (by omega) (by omega), cnt_u (by omega) (by omega)]; exact em) (by omega) (okn7 (by omega))) ?_
  rintro _ h6 _ ⟨rfl, -, S6⟩
  refine .inr (.inr ⟨hC, hlt, rfl, S6.1, by rw [S6.2.1, pk_us], ?_, by rw [S6.2.1]; exact S6.2.2, S6.2.1⟩)
  intro i hi hn
  rw [S6.2.1, pk_un hn, cnt_u hi (by omega), cnt_u hi (by omega)]
theorem p_X11_told {h : HI} {g : HL} (r : RG (h 136)) {m : Nat} (em : h 136 6 = nI m) (hm : m ≤ 40) {x1 x2 : Int32} : w_X11_told x1 x2 h g (fun s h' _ => ADr (K_told x1) h s h' 6 m 40 1 (fun f' => f' = upd (upd (upd (h 136) (737 + 2 * m) x1) (737 + 2 * m + 1) (if x2 = 0 then 0 else 1)) 6 (nI (m + 1)))) := by
  unfold w_X11_told
  refine c_in3 (fun q0 => ⟨fun _ => ?_, fun c => absI c⟩) (fun q0 => ⟨fun c => absurd rfl c, fun _ => .inl ⟨fun hc => q0 (bd.mo hc (by decide) (by decide)), rfl, rfl⟩⟩)
  have hC : K_told x1 := bd.mo q0 (by decide) (by decide)
  rw [cl6, em]
  refine and_have (vp_in_iff.mpr (by decide)) (fun v0 => ⟨fun c => ?_, fun c => .inr (.inl ⟨hC, (nI_eq (by omega) (by omega)).mp c, rfl, rfl⟩)⟩)
  have hlt : m < 40 := by
    have : m ≠ 40 := fun e => c (by rw [e]; rfl)
    omega
  refine and_have v0 (fun _ => ?_)
  rw [show (737 : Int32) + ((2 : Int32) * nI m) = nI (737 + 2 * m) from ix2 737 2 m, nI_clamp (n := 737 + 2 * m) (by omega)]
  refine and_have (vp_in_nI (by omega) (by omega)) (fun _ => ?_)
  intro h1 e1
  have S1 := (ST.rf r).hu e1 (okZ (by omega))
  have e17 : h1 136 6 = nI m := by rw [S1.2.1, cnt_u (by omega) (by omega)]; exact em
  rw [e17, show ((737 : Int32) + ((2 : Int32) * nI m)) + (1 : Int32) = nI (737 + 2 * m + 1) from ix3 737 2 m 1]
  have j77 : ∀ s2 : Int32, s2 = (if x2 = 0 then 0 else 1) → j_X11_told_77 (fun s h' _ => ADr (K_told x1) h s h' 6 m 40 1 (fun f' => f' = upd (upd (upd (h 136) (737 + 2 * m) x1) (737 + 2 * m + 1) (if x2 = 0 then 0 else 1)) 6 (nI (m + 1)))) (nI (737 + 2 * m + 1)) s2 h1 g := by
    intro s2 es2
    subst es2
    unfold j_X11_told_77
    rw [nI_clamp (n := 737 + 2 * m + 1) (by omega)]
    refine and_have (vp_in_nI (by omega) (by omega)) (fun _ => ?_)
    intro h2 e2
    have S2 := S1.hu e2 (okZ (by omega))
    refine c_i (p_one (c := 6) (m := m) S2 v0 cl6 (by rw [cnt_u (by omega) (by omega), cnt_u (by omega) (by omega)]; exact em) (by omega) (okn6 (by omega))) ?_
    rintro _ h6 _ ⟨rfl, -, S6⟩
    refine .inr (.inr ⟨hC, hlt, nI_1 m, S6.1, by rw [S6.2.1, pk_us], ?_, by rw [S6.2.1]; exact S6.2.2, S6.2.1⟩)
    intro i hi hn
    rw [S6.2.1, pk_un hn, cnt_u hi (by omega), cnt_u hi (by omega)]
  exact ⟨v0, fun c => j77 _ (if_pos c).symm, fun c => j77 _ (if_neg c).symm⟩
theorem p_X11_write {h : HI} {g : HL} (r : RG (h 136)) {m : Nat} (em : h 136 8 = nI m) (hm : m ≤ 60) {x1 : Int32} : w_X11_write x1 h g (fun s h' _ => ADr (K_write x1) h s h' 8 m 60 1 (fun f' => f' = upd (upd (h 136) (827 + m) x1) 8 (nI (m + 1)))) := by
  unfold w_X11_write
  refine c_in3 (fun q0 => ⟨fun _ => ?_, fun c => absI c⟩) (fun q0 => ⟨fun c => absurd rfl c, fun _ => .inl ⟨fun hc => q0 (bd.mo hc (by decide) (by decide)), rfl, rfl⟩⟩)
  have hC : K_write x1 := bd.mo q0 (by decide) (by decide)
  rw [cl8, em]
  refine and_have (vp_in_iff.mpr (by decide)) (fun v0 => ⟨fun c => ?_, fun c => .inr (.inl ⟨hC, (nI_eq (by omega) (by omega)).mp c, rfl, rfl⟩)⟩)
  have hlt : m < 60 := by
    have : m ≠ 60 := fun e => c (by rw [e]; rfl)
    omega
  rw [show (827 : Int32) + nI m = nI (827 + m) from nI_add 827 m, nI_clamp (n := 827 + m) (by omega)]
  refine and_have v0 (fun _ => and_have (vp_in_nI (by omega) (by omega)) (fun _ => ?_))
  intro h1 e1
  have S1 := (ST.rf r).hu e1 (okZ (by omega))
  refine c_i (p_one (c := 8) (m := m) S1 v0 cl8 (by rw [cnt_u (by omega) (by omega)]; exact em) (by omega) (okn8 (by omega))) ?_
  rintro _ h6 _ ⟨rfl, -, S6⟩
  refine .inr (.inr ⟨hC, hlt, nI_1 m, S6.1, by rw [S6.2.1, pk_us], ?_, by rw [S6.2.1]; exact S6.2.2, S6.2.1⟩)
  intro i hi hn
  rw [S6.2.1, pk_un hn, cnt_u hi (by omega)]
theorem i01 {x : Int32} (h : bd 0 3 x) (c : (2 : Int32) ≤ x) : ¬ x = 0 ∧ ¬ x = 1 := by
  rw [Int32.le_iff_toInt_le, show (2 : Int32).toInt = 2 by decide] at c
  constructor
  · intro e; rw [e] at c; exact absurd c (by decide)
  · intro e; rw [e] at c; exact absurd c (by decide)
theorem i02 {x : Int32} (h : bd 0 3 x) (c : ¬ (2 : Int32) ≤ x) : x = 0 ∨ x = 1 := by
  rw [Int32.le_iff_toInt_le, show (2 : Int32).toInt = 2 by decide] at c
  obtain ⟨j, j1, j2, rfl⟩ := bd_nI h
  rw [nI_toInt j2] at c
  have : j = 0 ∨ j = 1 := by omega
  rcases this with rfl | rfl
  · exact .inl nI_0
  · exact .inr rfl
set_option maxHeartbeats 1000000 in
theorem p_X11_say {h : HI} {g : HL} (r : RG (h 136)) {m : Nat} (em : h 136 1 = nI m) (hm : m ≤ 60) {x1 x2 x3 x4 x5 : Int32} : w_X11_say x1 x2 x3 x4 x5 h g (fun s h' _ => ADr (K_say (h 136 0) x1 x2 x3 x4 x5) h s h' 1 m 60 0 (fun f' => f' = upd (upd (upd (upd (upd (upd (upd (h 136) (152 + 6 * m) x1) (152 + 6 * m + 1) x2) (152 + 6 * m + 2) x3) (152 + 6 * m + 3) (if x2 = 0 ∨ x2 = 1 then x4 else 0)) (152 + 6 * m + 4) (if x2 = 0 then x5 else 0)) (152 + 6 * m + 5) 0) 1 (nI (m + 1)))) := by
  have hR := r.ri
  have v0 : vp_in (1 : Int32) 887 := vp_in_iff.mpr (by decide)
  have j68 : bd 0 23 x1 → K_say (h 136 0) x1 x2 x3 x4 x5 → j_X11_say_68 (fun s h' _ => ADr (K_say (h 136 0) x1 x2 x3 x4 x5) h s h' 1 m 60 0 (fun f' => f' = upd (upd (upd (upd (upd (upd (upd (h 136) (152 + 6 * m) x1) (152 + 6 * m + 1) x2) (152 + 6 * m + 2) x3) (152 + 6 * m + 3) (if x2 = 0 ∨ x2 = 1 then x4 else 0)) (152 + 6 * m + 4) (if x2 = 0 then x5 else 0)) (152 + 6 * m + 5) 0) 1 (nI (m + 1)))) x1 x2 x3 x4 x5 h g := by
    intro b1 hC
    unfold j_X11_say_68
    rw [cl1, em]
    refine and_have v0 (fun _ => ⟨fun c => ?_, fun c => .inr (.inl ⟨hC, (nI_eq (by omega) (by omega)).mp c, rfl, rfl⟩)⟩)
    have hlt : m < 60 := by
      have : m ≠ 60 := fun e => c (by rw [e]; rfl)
      omega
    refine and_have v0 (fun _ => ?_)
    rintro _ rfl
    rw [show (152 : Int32) + ((6 : Int32) * nI m) = nI (152 + 6 * m) from ix2 152 6 m, show nI (152 + 6 * m) + (1 : Int32) = nI (152 + 6 * m + 1) from nI_add _ 1, show nI (152 + 6 * m) + (2 : Int32) = nI (152 + 6 * m + 2) from nI_add _ 2, show nI (152 + 6 * m) + (3 : Int32) = nI (152 + 6 * m + 3) from nI_add _ 3, nI_clamp (n := 152 + 6 * m) (by omega), nI_clamp (n := 152 + 6 * m + 1) (by omega), nI_clamp (n := 152 + 6 * m + 2) (by omega)]
    refine and_have (vp_in_nI (by omega) (by omega)) (fun _ => ?_)
    intro h1 e1
    have S1 := (ST.rf r).hu e1 (okC' (by omega) (fun _ => b1))
    refine and_have (vp_in_nI (by omega) (by omega)) (fun _ => ?_)
    intro h2 e2
    have S2 := S1.hu e2 (okC' (by omega) (fun _ => by omega))
    refine and_have (vp_in_nI (by omega) (by omega)) (fun _ => ?_)
    intro h3 e3
    have S3 := S2.hu e3 (okC' (by omega) (fun _ => by omega))
    have j144 : ∀ e : Int32, e = (if x2 = 0 ∨ x2 = 1 then x4 else 0) → j_X11_say_144 (fun s h' _ => ADr (K_say (h 136 0) x1 x2 x3 x4 x5) h s h' 1 m 60 0 (fun f' => f' = upd (upd (upd (upd (upd (upd (upd (h 136) (152 + 6 * m) x1) (152 + 6 * m + 1) x2) (152 + 6 * m + 2) x3) (152 + 6 * m + 3) (if x2 = 0 ∨ x2 = 1 then x4 else 0)) (152 + 6 * m + 4) (if x2 = 0 then x5 else 0)) (152 + 6 * m + 5) 0) 1 (nI (m + 1)))) x2 x5 (nI (152 + 6 * m)) (nI (152 + 6 * m + 3)) e h3 g := by
      intro e ee
      subst ee
      unfold j_X11_say_144
      rw [nI_clamp (n := 152 + 6 * m + 3) (by omega), show nI (152 + 6 * m) + (4 : Int32) = nI (152 + 6 * m + 4) from nI_add _ 4]
      refine and_have (vp_in_nI (by omega) (by omega)) (fun _ => ?_)
      intro h4 e4
      have S4 := S3.hu e4 (okC' (by omega) (fun _ => by omega))
      have j163 : ∀ y : Int32, y = (if x2 = 0 then x5 else 0) → j_X11_say_163 (fun s h' _ => ADr (K_say (h 136 0) x1 x2 x3 x4 x5) h s h' 1 m 60 0 (fun f' => f' = upd (upd (upd (upd (upd (upd (upd (h 136) (152 + 6 * m) x1) (152 + 6 * m + 1) x2) (152 + 6 * m + 2) x3) (152 + 6 * m + 3) (if x2 = 0 ∨ x2 = 1 then x4 else 0)) (152 + 6 * m + 4) (if x2 = 0 then x5 else 0)) (152 + 6 * m + 5) 0) 1 (nI (m + 1)))) (nI (152 + 6 * m)) (nI (152 + 6 * m + 4)) y h4 g := by
        intro y ey
        subst ey
        unfold j_X11_say_163
        rw [nI_clamp (n := 152 + 6 * m + 4) (by omega), show nI (152 + 6 * m) + (5 : Int32) = nI (152 + 6 * m + 5) from nI_add _ 5, nI_clamp (n := 152 + 6 * m + 5) (by omega)]
        refine and_have (vp_in_nI (by omega) (by omega)) (fun _ => ?_)
        intro h5 e5
        have S5 := S4.hu e5 (okC' (by omega) (fun _ => by omega))
        refine and_have (vp_in_nI (by omega) (by omega)) (fun _ => ?_)
        intro h6 e6
        have S6 := S5.hu e6 (okC' (by omega) (fun _ => by omega))
        refine c_i (p_one (c := 1) (m := m) S6 v0 cl1 (by rw [cnt_u (by omega) (by omega), cnt_u (by omega) (by omega), cnt_u (by omega) (by omega), cnt_u (by omega) (by omega), cnt_u (by omega) (by omega), cnt_u (by omega) (by omega)]; exact em) (by omega) (okn1 (by omega))) ?_
        rintro _ h7 _ ⟨rfl, -, S7⟩
        refine .inr (.inr ⟨hC, hlt, rfl, S7.1, by rw [S7.2.1, pk_us], ?_, by rw [S7.2.1]; exact S7.2.2, S7.2.1⟩)
        intro i hi hn
        rw [S7.2.1, pk_un hn, cnt_u hi (by omega), cnt_u hi (by omega), cnt_u hi (by omega), cnt_u hi (by omega), cnt_u hi (by omega), cnt_u hi (by omega)]
      exact ⟨fun c => j163 _ (if_neg c).symm, fun c => j163 _ (if_pos c).symm⟩
    exact ⟨fun c => j144 _ (if_neg (fun q => q.elim (i01 hC.2.1 c).1 (i01 hC.2.1 c).2)).symm, fun c => j144 _ (if_pos (i02 hC.2.1 c)).symm⟩
  have bad : ¬ K_say (h 136 0) x1 x2 x3 x4 x5 → ADr (K_say (h 136 0) x1 x2 x3 x4 x5) h (-2) h 1 m 60 0 (fun f' => f' = upd (upd (upd (upd (upd (upd (upd (h 136) (152 + 6 * m) x1) (152 + 6 * m + 1) x2) (152 + 6 * m + 2) x3) (152 + 6 * m + 3) (if x2 = 0 ∨ x2 = 1 then x4 else 0)) (152 + 6 * m + 4) (if x2 = 0 then x5 else 0)) (152 + 6 * m + 5) 0) 1 (nI (m + 1))) := fun k => .inl ⟨k, rfl, rfl⟩
  unfold w_X11_say
  refine c_isb (vp_in_iff.mpr (by decide)) hR.c0 (by decide) (fun q0 p0 => ⟨fun c => absI c, fun _ => ?_⟩) (fun q0 => ⟨fun _ => bad (fun hc => q0 (by rw [cl0]; exact hc.1)), fun c => absN c⟩)
  rw [cl0] at q0
  refine c_in3 (fun q1 => ⟨fun c => absI c, fun _ => ?_⟩) (fun q1 => ⟨fun _ => bad (fun hc => q1 (bd.mo hc.2.1 (by decide) (by decide))), fun c => absN c⟩)
  refine c_in3 (fun q2 => ⟨fun c => absI c, fun _ => ?_⟩) (fun q2 => ⟨fun _ => bad (fun hc => q2 (bd.mo hc.2.2.1 (by decide) (by decide))), fun c => absN c⟩)
  have k2 : bd 0 3 x2 := bd.mo q1 (by decide) (by decide)
  have k3 : bd (-10000) 100000 x3 := bd.mo q2 (by decide) (by decide)
  have k1 : bd 0 23 x1 := p0.mo (by decide) (by decide)
  have j53 : (x2 = 0 ∨ x2 = 1 → bd 0 10000 x4) → j_X11_say_53 (fun s h' _ => ADr (K_say (h 136 0) x1 x2 x3 x4 x5) h s h' 1 m 60 0 (fun f' => f' = upd (upd (upd (upd (upd (upd (upd (h 136) (152 + 6 * m) x1) (152 + 6 * m + 1) x2) (152 + 6 * m + 2) x3) (152 + 6 * m + 3) (if x2 = 0 ∨ x2 = 1 then x4 else 0)) (152 + 6 * m + 4) (if x2 = 0 then x5 else 0)) (152 + 6 * m + 5) 0) 1 (nI (m + 1)))) x1 x2 x3 x4 x5 h g := by
    intro k4
    unfold j_X11_say_53
    refine ⟨fun c => j68 k1 ⟨q0, k2, k3, k4, fun e => absurd e c⟩, fun c => ?_⟩
    exact c_yr (fun q3 => ⟨fun _ => j68 k1 ⟨q0, k2, k3, k4, fun _ => q3⟩, fun c => absI c⟩) (fun q3 => ⟨fun c => absurd rfl c, fun _ => bad (fun hc => q3 (hc.2.2.2.2 c))⟩)
  refine ⟨fun c => j53 (fun e => absurd e (fun e => e.elim (i01 k2 c).1 (i01 k2 c).2)), fun c => ?_⟩
  exact c_in3 (fun q3 => ⟨fun c => absI c, fun _ => j53 (fun _ => bd.mo q3 (by decide) (by decide))⟩) (fun q3 => ⟨fun _ => bad (fun hc => q3 (bd.mo (hc.2.2.2.1 (i02 k2 c)) (by decide) (by decide))), fun c => absN c⟩)
