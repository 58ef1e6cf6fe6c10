theorem ANS.un {C : Prop} {r s a : Int32} (x : ANS C r a) (y : ANS C s a) : r = s := by
  rcases x with ⟨x1, rfl⟩ | ⟨x1, rfl⟩
  · rcases y with ⟨y1, rfl⟩ | ⟨y1, rfl⟩
    · rfl
    · exact absurd x1 y1
  · rcases y with ⟨y1, rfl⟩ | ⟨y1, rfl⟩
    · exact absurd y1 x1
    · rfl
theorem vL {i L c : Nat} (hi : i + 6 ≤ L ∧ L ≤ 3072) (hc : c < 6) : vp_in (nI i + nI c) L := by
  rw [nI_add]; exact vp_in_nI (by omega) (by omega)
theorem lc_0 {xs : Nat → Int32} {L i : Nat} (hi : i + 6 ≤ L ∧ L ≤ 3072) {K : Int32 → HI → HL → Prop} {h : HI} {g : HL} (v : INV h) (done : ∀ (h2 : HI) (g2 : HL), INV h2 → j_L_law_1451 xs L () K (nI i) h2 g2) : vp_in ((nI i) + (1 : Int32)) L ∧ (vp_in ((nI i) + (2 : Int32)) L ∧ (vp_in ((nI i) + (3 : Int32)) L ∧ (vp_in ((nI i) + (4 : Int32)) L ∧ (∃ P_217 : Int32 → HI → HL → Prop, w_X10_part (xs ((nI i) + (1 : Int32)).toNatClampNeg) (xs ((nI i) + (2 : Int32)).toNatClampNeg) (xs ((nI i) + (3 : Int32)).toNatClampNeg) (xs ((nI i) + (4 : Int32)).toNatClampNeg) h g P_217 ∧ ∀ (r_217 : Int32) (h_217 : HI) (g_217 : HL), P_217 r_217 h_217 g_217 → (vp_in ((nI i) + (1 : Int32)) L ∧ (vp_in ((nI i) + (2 : Int32)) L ∧ (vp_in ((nI i) + (3 : Int32)) L ∧ (vp_in ((nI i) + (4 : Int32)) L ∧ (∃ P_242 : Int32 → HI → HL → Prop, w_X11_part (xs ((nI i) + (1 : Int32)).toNatClampNeg) (xs ((nI i) + (2 : Int32)).toNatClampNeg) (xs ((nI i) + (3 : Int32)).toNatClampNeg) (xs ((nI i) + (4 : Int32)).toNatClampNeg) h_217 g_217 P_242 ∧ ∀ (r_242 : Int32) (h_242 : HI) (g_242 : HL), P_242 r_242 h_242 g_242 → j_L_law_1451 xs L () K (nI i) h_242 g_242))))))))) := by
  have C := v.1.ci
  have cn := v.2.2.2.1
  have v0 : vp_in (nI i) L := vp_in_nI (by omega) (by omega)
  have n0 : h 2 3 = h 136 0 := by
    obtain ⟨m, T, k⟩ := cn 0 (by omega)
    exact T.2.2.1.trans (Eq.symm k)
  refine and_have (vL (c := 1) hi (by omega)) (fun _ => ?_)
  refine and_have (vL (c := 2) hi (by omega)) (fun _ => ?_)
  refine and_have (vL (c := 3) hi (by omega)) (fun _ => ?_)
  refine and_have (vL (c := 4) hi (by omega)) (fun _ => ?_)
  obtain ⟨m, T, k⟩ := cn 0 (by omega)
  refine c_i (p_X10_part T) ?_
  rintro r h1 g1 a
  have up := a.up (by omega)
  have em : h1 136 0 = nI m := by rw [up 136 (by omega)]; exact k
  have R1 : RG (h1 136) := by rw [up 136 (by omega)]; exact v.2.1
  refine and_have (vL (c := 1) hi (by omega)) (fun _ => ?_)
  refine and_have (vL (c := 2) hi (by omega)) (fun _ => ?_)
  refine and_have (vL (c := 3) hi (by omega)) (fun _ => ?_)
  refine and_have (vL (c := 4) hi (by omega)) (fun _ => ?_)
  refine c_i (p_X11_part R1 em T.2.2.2.1) ?_
  rintro s h2 g2 b
  obtain ⟨st, vv⟩ := step_add (j := 0) v (by omega) (by decide) a b
  exact done _ _ vv
theorem lc_1 {xs : Nat → Int32} {L i : Nat} (hi : i + 6 ≤ L ∧ L ≤ 3072) {K : Int32 → HI → HL → Prop} {h : HI} {g : HL} (v : INV h) (done : ∀ (h2 : HI) (g2 : HL), INV h2 → j_L_law_1451 xs L () K (nI i) h2 g2) : vp_in ((nI i) + (1 : Int32)) L ∧ (vp_in ((nI i) + (2 : Int32)) L ∧ (vp_in ((nI i) + (3 : Int32)) L ∧ (vp_in ((nI i) + (4 : Int32)) L ∧ (∃ P_270 : Int32 → HI → HL → Prop, w_X10_family (xs ((nI i) + (1 : Int32)).toNatClampNeg) (xs ((nI i) + (2 : Int32)).toNatClampNeg) (xs ((nI i) + (3 : Int32)).toNatClampNeg) (xs ((nI i) + (4 : Int32)).toNatClampNeg) h g P_270 ∧ ∀ (r_270 : Int32) (h_270 : HI) (g_270 : HL), P_270 r_270 h_270 g_270 → (vp_in ((nI i) + (1 : Int32)) L ∧ (vp_in ((nI i) + (2 : Int32)) L ∧ (vp_in ((nI i) + (3 : Int32)) L ∧ (vp_in ((nI i) + (4 : Int32)) L ∧ (∃ P_295 : Int32 → HI → HL → Prop, w_X11_family (xs ((nI i) + (1 : Int32)).toNatClampNeg) (xs ((nI i) + (2 : Int32)).toNatClampNeg) (xs ((nI i) + (3 : Int32)).toNatClampNeg) (xs ((nI i) + (4 : Int32)).toNatClampNeg) h_270 g_270 P_295 ∧ ∀ (r_295 : Int32) (h_295 : HI) (g_295 : HL), P_295 r_295 h_295 g_295 → j_L_law_1451 xs L () K (nI i) h_295 g_295))))))))) := by
  have C := v.1.ci
  have cn := v.2.2.2.1
  have v0 : vp_in (nI i) L := vp_in_nI (by omega) (by omega)
  have n0 : h 2 3 = h 136 0 := by
    obtain ⟨m, T, k⟩ := cn 0 (by omega)
    exact T.2.2.1.trans (Eq.symm k)
  refine and_have (vL (c := 1) hi (by omega)) (fun _ => ?_)
  refine and_have (vL (c := 2) hi (by omega)) (fun _ => ?_)
  refine and_have (vL (c := 3) hi (by omega)) (fun _ => ?_)
  refine and_have (vL (c := 4) hi (by omega)) (fun _ => ?_)
  obtain ⟨m, T, k⟩ := cn 1 (by omega)
  have km : m = 4 := k
  subst km
  refine c_i (p_X10_family T) ?_
  rintro r h1 g1 a
  have R1 : RG (h1 136) := by rw [a.up (by omega) 136 (by omega)]; exact v.2.1
  refine and_have (vL (c := 1) hi (by omega)) (fun _ => ?_)
  refine and_have (vL (c := 2) hi (by omega)) (fun _ => ?_)
  refine and_have (vL (c := 3) hi (by omega)) (fun _ => ?_)
  refine and_have (vL (c := 4) hi (by omega)) (fun _ => ?_)
  refine c_i (p_X11_family R1) ?_
  rintro s h2 g2 b
  have vv := step_put (j := 1) v (by omega) k a b
  have st := ANS.un a.1 b.1
  exact done _ _ vv
theorem lc_2 {xs : Nat → Int32} {L i : Nat} (hi : i + 6 ≤ L ∧ L ≤ 3072) {K : Int32 → HI → HL → Prop} {h : HI} {g : HL} (v : INV h) (done : ∀ (h2 : HI) (g2 : HL), INV h2 → j_L_law_1451 xs L () K (nI i) h2 g2) : vp_in ((nI i) + (1 : Int32)) L ∧ (∃ P_308 : Int32 → HI → HL → Prop, w_X10_write (xs ((nI i) + (1 : Int32)).toNatClampNeg) h g P_308 ∧ ∀ (r_308 : Int32) (h_308 : HI) (g_308 : HL), P_308 r_308 h_308 g_308 → (vp_in ((nI i) + (1 : Int32)) L ∧ (∃ P_318 : Int32 → HI → HL → Prop, w_X11_write (xs ((nI i) + (1 : Int32)).toNatClampNeg) h_308 g_308 P_318 ∧ ∀ (r_318 : Int32) (h_318 : HI) (g_318 : HL), P_318 r_318 h_318 g_318 → j_L_law_1451 xs L () K (nI i) h_318 g_318))) := by
  have C := v.1.ci
  have cn := v.2.2.2.1
  have v0 : vp_in (nI i) L := vp_in_nI (by omega) (by omega)
  have n0 : h 2 3 = h 136 0 := by
    obtain ⟨m, T, k⟩ := cn 0 (by omega)
    exact T.2.2.1.trans (Eq.symm k)
  refine and_have (vL (c := 1) hi (by omega)) (fun _ => ?_)
  obtain ⟨m, T, k⟩ := cn 11 (by omega)
  refine c_i (p_X10_write C T) ?_
  rintro r h1 g1 a
  have up := a.up (by omega)
  have em : h1 136 8 = nI m := by rw [up 136 (by omega)]; exact k
  have R1 : RG (h1 136) := by rw [up 136 (by omega)]; exact v.2.1
  refine and_have (vL (c := 1) hi (by omega)) (fun _ => ?_)
  refine c_i (p_X11_write R1 em T.2.2.2.1) ?_
  rintro s h2 g2 b
  obtain ⟨st, vv⟩ := step_add (j := 11) v (by omega) (by decide) a b
  exact done _ _ vv
theorem lc_3 {xs : Nat → Int32} {L i : Nat} (hi : i + 6 ≤ L ∧ L ≤ 3072) {K : Int32 → HI → HL → Prop} {h : HI} {g : HL} (v : INV h) (done : ∀ (h2 : HI) (g2 : HL), INV h2 → j_L_law_1451 xs L () K (nI i) h2 g2) : ∃ P_326 : Int32 → HI → HL → Prop, w_X10_erase h g P_326 ∧ ∀ (r_326 : Int32) (h_326 : HI) (g_326 : HL), P_326 r_326 h_326 g_326 → (∃ P_331 : Int32 → HI → HL → Prop, w_X11_erase h_326 g_326 P_331 ∧ ∀ (r_331 : Int32) (h_331 : HI) (g_331 : HL), P_331 r_331 h_331 g_331 → j_L_law_1451 xs L () K (nI i) h_331 g_331) := by
  have C := v.1.ci
  have cn := v.2.2.2.1
  have v0 : vp_in (nI i) L := vp_in_nI (by omega) (by omega)
  have n0 : h 2 3 = h 136 0 := by
    obtain ⟨m, T, k⟩ := cn 0 (by omega)
    exact T.2.2.1.trans (Eq.symm k)
  obtain ⟨m, T, k⟩ := cn 11 (by omega)
  refine c_i (p_X10_erase C T) ?_
  rintro r h1 g1 a
  have em : h1 136 8 = nI m := by rw [a.up (by omega) 136 (by omega)]; exact k
  have R1 : RG (h1 136) := by rw [a.up (by omega) 136 (by omega)]; exact v.2.1
  refine c_i (p_X11_erase R1 em) ?_
  rintro s h2 g2 b
  have vv := step_erase v a b.2
  have st := a.1.trans b.1.symm
  exact done _ _ vv
theorem lc_4 {xs : Nat → Int32} {L i : Nat} (hi : i + 6 ≤ L ∧ L ≤ 3072) {K : Int32 → HI → HL → Prop} {h : HI} {g : HL} (v : INV h) (done : ∀ (h2 : HI) (g2 : HL), INV h2 → j_L_law_1451 xs L () K (nI i) h2 g2) : ∃ P_339 : Int32 → HI → HL → Prop, w_X10_fault h g P_339 ∧ ∀ (r_339 : Int32) (h_339 : HI) (g_339 : HL), P_339 r_339 h_339 g_339 → (∃ P_344 : Int32 → HI → HL → Prop, w_X11_fault h_339 g_339 P_344 ∧ ∀ (r_344 : Int32) (h_344 : HI) (g_344 : HL), P_344 r_344 h_344 g_344 → j_L_law_1451 xs L () K (nI i) h_344 g_344) := by
  have C := v.1.ci
  have cn := v.2.2.2.1
  have v0 : vp_in (nI i) L := vp_in_nI (by omega) (by omega)
  have n0 : h 2 3 = h 136 0 := by
    obtain ⟨m, T, k⟩ := cn 0 (by omega)
    exact T.2.2.1.trans (Eq.symm k)
  refine c_i (p_X10_fault C) ?_
  rintro r h1 g1 J
  have R1 : RG (h1 136) := by rw [J 136 (by unfold SC; omega)]; exact v.2.1
  have W1 : WI h1 := v.2.2.1.jj J (by unfold SC; omega)
  refine c_i (p_X11_fault R1.ri) ?_
  rintro s h2 g2 K1
  have vv := step_ask v J (K1.mo (fun o k hq => by unfold SRd at hq; unfold SRef; omega)) (W1.kj K1 (fun k => by unfold SRd; omega))
  exact done _ _ vv
theorem lc_5 {xs : Nat → Int32} {L i : Nat} (hi : i + 6 ≤ L ∧ L ≤ 3072) {K : Int32 → HI → HL → Prop} {h : HI} {g : HL} (v : INV h) (done : ∀ (h2 : HI) (g2 : HL), INV h2 → j_L_law_1451 xs L () K (nI i) h2 g2) : vp_in ((nI i) + (1 : Int32)) L ∧ (vp_in ((nI i) + (2 : Int32)) L ∧ (∃ P_362 : Int32 → HI → HL → Prop, w_X10_worn (xs ((nI i) + (1 : Int32)).toNatClampNeg) (xs ((nI i) + (2 : Int32)).toNatClampNeg) h g P_362 ∧ ∀ (r_362 : Int32) (h_362 : HI) (g_362 : HL), P_362 r_362 h_362 g_362 → (vp_in ((nI i) + (1 : Int32)) L ∧ (vp_in ((nI i) + (2 : Int32)) L ∧ (∃ P_377 : Int32 → HI → HL → Prop, w_X11_worn (xs ((nI i) + (1 : Int32)).toNatClampNeg) (xs ((nI i) + (2 : Int32)).toNatClampNeg) h_362 g_362 P_377 ∧ ∀ (r_377 : Int32) (h_377 : HI) (g_377 : HL), P_377 r_377 h_377 g_377 → j_L_law_1451 xs L () K (nI i) h_377 g_377))))) := by
  have C := v.1.ci
  have cn := v.2.2.2.1
  have v0 : vp_in (nI i) L := vp_in_nI (by omega) (by omega)
  have n0 : h 2 3 = h 136 0 := by
    obtain ⟨m, T, k⟩ := cn 0 (by omega)
    exact T.2.2.1.trans (Eq.symm k)
  refine and_have (vL (c := 1) hi (by omega)) (fun _ => ?_)
  refine and_have (vL (c := 2) hi (by omega)) (fun _ => ?_)
  refine c_i (p_X10_worn C) ?_
  rintro r h1 g1 J
  have R1 : RG (h1 136) := by rw [J 136 (by unfold SC; omega)]; exact v.2.1
  have W1 : WI h1 := v.2.2.1.jj J (by unfold SC; omega)
  refine and_have (vL (c := 1) hi (by omega)) (fun _ => ?_)
  refine and_have (vL (c := 2) hi (by omega)) (fun _ => ?_)
  refine c_i (p_X11_worn R1.ri) ?_
  rintro s h2 g2 K1
  have vv := step_ask v J (K1.mo (fun o k hq => by unfold SRd at hq; unfold SRef; omega)) (W1.kj K1 (fun k => by unfold SRd; omega))
  exact done _ _ vv
theorem lc_6 {xs : Nat → Int32} {L i : Nat} (hi : i + 6 ≤ L ∧ L ≤ 3072) {K : Int32 → HI → HL → Prop} {h : HI} {g : HL} (v : INV h) (done : ∀ (h2 : HI) (g2 : HL), INV h2 → j_L_law_1451 xs L () K (nI i) h2 g2) : vp_in ((nI i) + (1 : Int32)) L ∧ (vp_in ((nI i) + (2 : Int32)) L ∧ (vp_in ((nI i) + (3 : Int32)) L ∧ (vp_in ((nI i) + (4 : Int32)) L ∧ (vp_in ((nI i) + (5 : Int32)) L ∧ (∃ P_410 : Int32 → HI → HL → Prop, w_X10_say (xs ((nI i) + (1 : Int32)).toNatClampNeg) (xs ((nI i) + (2 : Int32)).toNatClampNeg) (xs ((nI i) + (3 : Int32)).toNatClampNeg) (xs ((nI i) + (4 : Int32)).toNatClampNeg) (xs ((nI i) + (5 : Int32)).toNatClampNeg) h g P_410 ∧ ∀ (r_410 : Int32) (h_410 : HI) (g_410 : HL), P_410 r_410 h_410 g_410 → (vp_in ((nI i) + (1 : Int32)) L ∧ (vp_in ((nI i) + (2 : Int32)) L ∧ (vp_in ((nI i) + (3 : Int32)) L ∧ (vp_in ((nI i) + (4 : Int32)) L ∧ (vp_in ((nI i) + (5 : Int32)) L ∧ (∃ P_440 : Int32 → HI → HL → Prop, w_X11_say (xs ((nI i) + (1 : Int32)).toNatClampNeg) (xs ((nI i) + (2 : Int32)).toNatClampNeg) (xs ((nI i) + (3 : Int32)).toNatClampNeg) (xs ((nI i) + (4 : Int32)).toNatClampNeg) (xs ((nI i) + (5 : Int32)).toNatClampNeg) h_410 g_410 P_440 ∧ ∀ (r_440 : Int32) (h_440 : HI) (g_440 : HL), P_440 r_440 h_440 g_440 → j_L_law_1451 xs L () K (nI i) h_440 g_440))))))))))) := by
  have C := v.1.ci
  have cn := v.2.2.2.1
  have v0 : vp_in (nI i) L := vp_in_nI (by omega) (by omega)
  have n0 : h 2 3 = h 136 0 := by
    obtain ⟨m, T, k⟩ := cn 0 (by omega)
    exact T.2.2.1.trans (Eq.symm k)
  refine and_have (vL (c := 1) hi (by omega)) (fun _ => ?_)
  refine and_have (vL (c := 2) hi (by omega)) (fun _ => ?_)
  refine and_have (vL (c := 3) hi (by omega)) (fun _ => ?_)
  refine and_have (vL (c := 4) hi (by omega)) (fun _ => ?_)
  refine and_have (vL (c := 5) hi (by omega)) (fun _ => ?_)
  obtain ⟨m, T, k⟩ := cn 2 (by omega)
  refine c_i (p_X10_say T) ?_
  rintro r h1 g1 a
  have up := a.up (by omega)
  have em : h1 136 1 = nI m := by rw [up 136 (by omega)]; exact k
  have R1 : RG (h1 136) := by rw [up 136 (by omega)]; exact v.2.1
  have e0 : h 2 3 = h1 136 0 := by rw [up 136 (by omega)]; exact n0
  rw [e0] at a
  refine and_have (vL (c := 1) hi (by omega)) (fun _ => ?_)
  refine and_have (vL (c := 2) hi (by omega)) (fun _ => ?_)
  refine and_have (vL (c := 3) hi (by omega)) (fun _ => ?_)
  refine and_have (vL (c := 4) hi (by omega)) (fun _ => ?_)
  refine and_have (vL (c := 5) hi (by omega)) (fun _ => ?_)
  refine c_i (p_X11_say R1 em T.2.2.2.1) ?_
  rintro s h2 g2 b
  obtain ⟨st, vv⟩ := step_add (j := 2) v (by omega) (by decide) a b
  exact done _ _ vv
theorem lc_7 {xs : Nat → Int32} {L i : Nat} (hi : i + 6 ≤ L ∧ L ≤ 3072) {K : Int32 → HI → HL → Prop} {h : HI} {g : HL} (v : INV h) (done : ∀ (h2 : HI) (g2 : HL), INV h2 → j_L_law_1451 xs L () K (nI i) h2 g2) : vp_in ((nI i) + (1 : Int32)) L ∧ (vp_in ((nI i) + (2 : Int32)) L ∧ (((xs ((nI i) + (2 : Int32)).toNatClampNeg) = 0 → j_L_law_466 xs L () K (nI i) (xs ((nI i) + (1 : Int32)).toNatClampNeg) (0 : Int32) h g) ∧ (¬ (xs ((nI i) + (2 : Int32)).toNatClampNeg) = 0 → j_L_law_466 xs L () K (nI i) (xs ((nI i) + (1 : Int32)).toNatClampNeg) (1 : Int32) h g))) := by
  have C := v.1.ci
  have cn := v.2.2.2.1
  have v0 : vp_in (nI i) L := vp_in_nI (by omega) (by omega)
  have n0 : h 2 3 = h 136 0 := by
    obtain ⟨m, T, k⟩ := cn 0 (by omega)
    exact T.2.2.1.trans (Eq.symm k)
  refine and_have (vL (c := 1) hi (by omega)) (fun _ => ?_)
  refine and_have (vL (c := 2) hi (by omega)) (fun _ => ?_)
  refine ⟨fun _ => ?_, fun _ => ?_⟩
  · skip
    unfold j_L_law_466
    obtain ⟨m, T, k⟩ := cn 2 (by omega)
    refine c_i (p_X10_deny C T) ?_
    rintro r h1 g1 a
    have R1 : RG (h1 136) := by rw [a.up (by omega) 136 (by omega)]; exact v.2.1
    refine and_have (vL (c := 1) hi (by omega)) (fun _ => ?_)
    refine and_have (vL (c := 2) hi (by omega)) (fun _ => ?_)
    refine ⟨fun _ => ?_, fun _ => ?_⟩
    · skip
      unfold j_L_law_489
      refine c_i (p_X11_deny R1) ?_
      rintro s h2 g2 b
      have vv := step_put (j := 2) v (by omega) k a b
      exact done _ _ vv
    · skip
      unfold j_L_law_489
      refine c_i (p_X11_deny R1) ?_
      rintro s h2 g2 b
      have vv := step_put (j := 2) v (by omega) k a b
      exact done _ _ vv
  · skip
    unfold j_L_law_466
    obtain ⟨m, T, k⟩ := cn 2 (by omega)
    refine c_i (p_X10_deny C T) ?_
    rintro r h1 g1 a
    have R1 : RG (h1 136) := by rw [a.up (by omega) 136 (by omega)]; exact v.2.1
    refine and_have (vL (c := 1) hi (by omega)) (fun _ => ?_)
    refine and_have (vL (c := 2) hi (by omega)) (fun _ => ?_)
    refine ⟨fun _ => ?_, fun _ => ?_⟩
    · skip
      unfold j_L_law_489
      refine c_i (p_X11_deny R1) ?_
      rintro s h2 g2 b
      have vv := step_put (j := 2) v (by omega) k a b
      exact done _ _ vv
    · skip
      unfold j_L_law_489
      refine c_i (p_X11_deny R1) ?_
      rintro s h2 g2 b
      have vv := step_put (j := 2) v (by omega) k a b
      exact done _ _ vv
theorem lc_8 {xs : Nat → Int32} {L i : Nat} (hi : i + 6 ≤ L ∧ L ≤ 3072) {K : Int32 → HI → HL → Prop} {h : HI} {g : HL} (v : INV h) (done : ∀ (h2 : HI) (g2 : HL), INV h2 → j_L_law_1451 xs L () K (nI i) h2 g2) : vp_in ((nI i) + (1 : Int32)) L ∧ (vp_in ((nI i) + (2 : Int32)) L ∧ (∃ P_507 : Int32 → HI → HL → Prop, w_X10_first (xs ((nI i) + (1 : Int32)).toNatClampNeg) (xs ((nI i) + (2 : Int32)).toNatClampNeg) h g P_507 ∧ ∀ (r_507 : Int32) (h_507 : HI) (g_507 : HL), P_507 r_507 h_507 g_507 → (vp_in ((nI i) + (1 : Int32)) L ∧ (vp_in ((nI i) + (2 : Int32)) L ∧ (∃ P_522 : Int32 → HI → HL → Prop, w_X11_first (xs ((nI i) + (1 : Int32)).toNatClampNeg) (xs ((nI i) + (2 : Int32)).toNatClampNeg) h_507 g_507 P_522 ∧ ∀ (r_522 : Int32) (h_522 : HI) (g_522 : HL), P_522 r_522 h_522 g_522 → j_L_law_1451 xs L () K (nI i) h_522 g_522))))) := by
  have C := v.1.ci
  have cn := v.2.2.2.1
  have v0 : vp_in (nI i) L := vp_in_nI (by omega) (by omega)
  have n0 : h 2 3 = h 136 0 := by
    obtain ⟨m, T, k⟩ := cn 0 (by omega)
    exact T.2.2.1.trans (Eq.symm k)
  refine and_have (vL (c := 1) hi (by omega)) (fun _ => ?_)
  refine and_have (vL (c := 2) hi (by omega)) (fun _ => ?_)
  refine c_i (p_X10_first C) ?_
  rintro r h1 g1 J
  have R1 : RG (h1 136) := by rw [J 136 (by unfold SC; omega)]; exact v.2.1
  have W1 : WI h1 := v.2.2.1.jj J (by unfold SC; omega)
  refine and_have (vL (c := 1) hi (by omega)) (fun _ => ?_)
  refine and_have (vL (c := 2) hi (by omega)) (fun _ => ?_)
  refine c_i (p_X11_first R1.ri) ?_
  rintro s h2 g2 K1
  have vv := step_ask v J (K1.mo (fun o k hq => by unfold SFf at hq; unfold SRef; omega)) (W1.kj K1 (fun k => by unfold SFf; omega))
  exact done _ _ vv
theorem lc_9 {xs : Nat → Int32} {L i : Nat} (hi : i + 6 ≤ L ∧ L ≤ 3072) {K : Int32 → HI → HL → Prop} {h : HI} {g : HL} (v : INV h) (done : ∀ (h2 : HI) (g2 : HL), INV h2 → j_L_law_1451 xs L () K (nI i) h2 g2) : vp_in ((nI i) + (1 : Int32)) L ∧ (vp_in ((nI i) + (2 : Int32)) L ∧ (∃ P_540 : Int32 → HI → HL → Prop, w_X10_quarrel (xs ((nI i) + (1 : Int32)).toNatClampNeg) (xs ((nI i) + (2 : Int32)).toNatClampNeg) h g P_540 ∧ ∀ (r_540 : Int32) (h_540 : HI) (g_540 : HL), P_540 r_540 h_540 g_540 → (vp_in ((nI i) + (1 : Int32)) L ∧ (vp_in ((nI i) + (2 : Int32)) L ∧ (∃ P_555 : Int32 → HI → HL → Prop, w_X11_quarrel (xs ((nI i) + (1 : Int32)).toNatClampNeg) (xs ((nI i) + (2 : Int32)).toNatClampNeg) h_540 g_540 P_555 ∧ ∀ (r_555 : Int32) (h_555 : HI) (g_555 : HL), P_555 r_555 h_555 g_555 → j_L_law_1451 xs L () K (nI i) h_555 g_555))))) := by
  have C := v.1.ci
  have cn := v.2.2.2.1
  have v0 : vp_in (nI i) L := vp_in_nI (by omega) (by omega)
  have n0 : h 2 3 = h 136 0 := by
    obtain ⟨m, T, k⟩ := cn 0 (by omega)
    exact T.2.2.1.trans (Eq.symm k)
  refine and_have (vL (c := 1) hi (by omega)) (fun _ => ?_)
  refine and_have (vL (c := 2) hi (by omega)) (fun _ => ?_)
  refine c_i (p_X10_quarrel C) ?_
  rintro r h1 g1 J
  have R1 : RG (h1 136) := by rw [J 136 (by unfold SC; omega)]; exact v.2.1
  have W1 : WI h1 := v.2.2.1.jj J (by unfold SC; omega)
  refine and_have (vL (c := 1) hi (by omega)) (fun _ => ?_)
  refine and_have (vL (c := 2) hi (by omega)) (fun _ => ?_)
  refine c_i (p_X11_quarrel R1.ri) ?_
  rintro s h2 g2 K1
  have vv := step_ask v J (K1.mo (fun o k hq => by unfold SQu at hq; unfold SRef; omega)) (W1.kj K1 (fun k => by unfold SQu; omega))
  exact done _ _ vv
theorem lc_10 {xs : Nat → Int32} {L i : Nat} (hi : i + 6 ≤ L ∧ L ≤ 3072) {K : Int32 → HI → HL → Prop} {h : HI} {g : HL} (v : INV h) (done : ∀ (h2 : HI) (g2 : HL), INV h2 → j_L_law_1451 xs L () K (nI i) h2 g2) : vp_in ((nI i) + (1 : Int32)) L ∧ (vp_in ((nI i) + (2 : Int32)) L ∧ (∃ P_573 : Int32 → HI → HL → Prop, w_X10_chain (xs ((nI i) + (1 : Int32)).toNatClampNeg) (xs ((nI i) + (2 : Int32)).toNatClampNeg) h g P_573 ∧ ∀ (r_573 : Int32) (h_573 : HI) (g_573 : HL), P_573 r_573 h_573 g_573 → (vp_in ((nI i) + (1 : Int32)) L ∧ (vp_in ((nI i) + (2 : Int32)) L ∧ (∃ P_588 : Int32 → HI → HL → Prop, w_X11_chain (xs ((nI i) + (1 : Int32)).toNatClampNeg) (xs ((nI i) + (2 : Int32)).toNatClampNeg) h_573 g_573 P_588 ∧ ∀ (r_588 : Int32) (h_588 : HI) (g_588 : HL), P_588 r_588 h_588 g_588 → j_L_law_1451 xs L () K (nI i) h_588 g_588))))) := by
  have C := v.1.ci
  have cn := v.2.2.2.1
  have v0 : vp_in (nI i) L := vp_in_nI (by omega) (by omega)
  have n0 : h 2 3 = h 136 0 := by
    obtain ⟨m, T, k⟩ := cn 0 (by omega)
    exact T.2.2.1.trans (Eq.symm k)
  refine and_have (vL (c := 1) hi (by omega)) (fun _ => ?_)
  refine and_have (vL (c := 2) hi (by omega)) (fun _ => ?_)
  obtain ⟨m, T, k⟩ := cn 3 (by omega)
  refine c_i (p_X10_chain T) ?_
  rintro r h1 g1 a
  have up := a.up (by omega)
  have em : h1 136 2 = nI m := by rw [up 136 (by omega)]; exact k
  have R1 : RG (h1 136) := by rw [up 136 (by omega)]; exact v.2.1
  refine and_have (vL (c := 1) hi (by omega)) (fun _ => ?_)
  refine and_have (vL (c := 2) hi (by omega)) (fun _ => ?_)
  refine c_i (p_X11_chain R1 em T.2.2.2.1) ?_
  rintro s h2 g2 b
  obtain ⟨st, vv⟩ := step_add (j := 3) v (by omega) (by decide) a b
  exact done _ _ vv
theorem lc_11 {xs : Nat → Int32} {L i : Nat} (hi : i + 6 ≤ L ∧ L ≤ 3072) {K : Int32 → HI → HL → Prop} {h : HI} {g : HL} (v : INV h) (done : ∀ (h2 : HI) (g2 : HL), INV h2 → j_L_law_1451 xs L () K (nI i) h2 g2) : vp_in ((nI i) + (1 : Int32)) L ∧ (vp_in ((nI i) + (2 : Int32)) L ∧ (vp_in ((nI i) + (3 : Int32)) L ∧ (((xs ((nI i) + (3 : Int32)).toNatClampNeg) = 0 → j_L_law_619 xs L () K (nI i) (xs ((nI i) + (1 : Int32)).toNatClampNeg) (xs ((nI i) + (2 : Int32)).toNatClampNeg) (0 : Int32) h g) ∧ (¬ (xs ((nI i) + (3 : Int32)).toNatClampNeg) = 0 → j_L_law_619 xs L () K (nI i) (xs ((nI i) + (1 : Int32)).toNatClampNeg) (xs ((nI i) + (2 : Int32)).toNatClampNeg) (1 : Int32) h g)))) := by
  have C := v.1.ci
  have cn := v.2.2.2.1
  have v0 : vp_in (nI i) L := vp_in_nI (by omega) (by omega)
  have n0 : h 2 3 = h 136 0 := by
    obtain ⟨m, T, k⟩ := cn 0 (by omega)
    exact T.2.2.1.trans (Eq.symm k)
  refine and_have (vL (c := 1) hi (by omega)) (fun _ => ?_)
  refine and_have (vL (c := 2) hi (by omega)) (fun _ => ?_)
  refine and_have (vL (c := 3) hi (by omega)) (fun _ => ?_)
  refine ⟨fun _ => ?_, fun _ => ?_⟩
  · skip
    unfold j_L_law_619
    obtain ⟨m, T, k⟩ := cn 3 (by omega)
    refine c_i (p_X10_link C T) ?_
    rintro r h1 g1 a
    have R1 : RG (h1 136) := by rw [a.up (by omega) 136 (by omega)]; exact v.2.1
    refine and_have (vL (c := 1) hi (by omega)) (fun _ => ?_)
    refine and_have (vL (c := 2) hi (by omega)) (fun _ => ?_)
    refine and_have (vL (c := 3) hi (by omega)) (fun _ => ?_)
    refine ⟨fun _ => ?_, fun _ => ?_⟩
    · skip
      unfold j_L_law_647
      refine c_i (p_X11_link R1) ?_
      rintro s h2 g2 b
      have vv := step_put (j := 3) v (by omega) k a b
      exact done _ _ vv
    · skip
      unfold j_L_law_647
      refine c_i (p_X11_link R1) ?_
      rintro s h2 g2 b
      have vv := step_put (j := 3) v (by omega) k a b
      exact done _ _ vv
  · skip
    unfold j_L_law_619
    obtain ⟨m, T, k⟩ := cn 3 (by omega)
    refine c_i (p_X10_link C T) ?_
    rintro r h1 g1 a
    have R1 : RG (h1 136) := by rw [a.up (by omega) 136 (by omega)]; exact v.2.1
    refine and_have (vL (c := 1) hi (by omega)) (fun _ => ?_)
    refine and_have (vL (c := 2) hi (by omega)) (fun _ => ?_)
    refine and_have (vL (c := 3) hi (by omega)) (fun _ => ?_)
    refine ⟨fun _ => ?_, fun _ => ?_⟩
    · skip
      unfold j_L_law_647
      refine c_i (p_X11_link R1) ?_
      rintro s h2 g2 b
      have vv := step_put (j := 3) v (by omega) k a b
      exact done _ _ vv
    · skip
      unfold j_L_law_647
      refine c_i (p_X11_link R1) ?_
      rintro s h2 g2 b
      have vv := step_put (j := 3) v (by omega) k a b
      exact done _ _ vv
theorem lc_12 {xs : Nat → Int32} {L i : Nat} (hi : i + 6 ≤ L ∧ L ≤ 3072) {K : Int32 → HI → HL → Prop} {h : HI} {g : HL} (v : INV h) (done : ∀ (h2 : HI) (g2 : HL), INV h2 → j_L_law_1451 xs L () K (nI i) h2 g2) : vp_in ((nI i) + (1 : Int32)) L ∧ (vp_in ((nI i) + (2 : Int32)) L ∧ (vp_in ((nI i) + (3 : Int32)) L ∧ (∃ P_670 : Int32 → HI → HL → Prop, w_X10_sum (xs ((nI i) + (1 : Int32)).toNatClampNeg) (xs ((nI i) + (2 : Int32)).toNatClampNeg) (xs ((nI i) + (3 : Int32)).toNatClampNeg) h g P_670 ∧ ∀ (r_670 : Int32) (h_670 : HI) (g_670 : HL), P_670 r_670 h_670 g_670 → (vp_in ((nI i) + (1 : Int32)) L ∧ (vp_in ((nI i) + (2 : Int32)) L ∧ (vp_in ((nI i) + (3 : Int32)) L ∧ (∃ P_690 : Int32 → HI → HL → Prop, w_X11_sum (xs ((nI i) + (1 : Int32)).toNatClampNeg) (xs ((nI i) + (2 : Int32)).toNatClampNeg) (xs ((nI i) + (3 : Int32)).toNatClampNeg) h_670 g_670 P_690 ∧ ∀ (r_690 : Int32) (h_690 : HI) (g_690 : HL), P_690 r_690 h_690 g_690 → j_L_law_1451 xs L () K (nI i) h_690 g_690))))))) := by
  have C := v.1.ci
  have cn := v.2.2.2.1
  have v0 : vp_in (nI i) L := vp_in_nI (by omega) (by omega)
  have n0 : h 2 3 = h 136 0 := by
    obtain ⟨m, T, k⟩ := cn 0 (by omega)
    exact T.2.2.1.trans (Eq.symm k)
  refine and_have (vL (c := 1) hi (by omega)) (fun _ => ?_)
  refine and_have (vL (c := 2) hi (by omega)) (fun _ => ?_)
  refine and_have (vL (c := 3) hi (by omega)) (fun _ => ?_)
  refine c_i (p_X10_sum C) ?_
  rintro r h1 g1 J
  have R1 : RG (h1 136) := by rw [J 136 (by unfold SC; omega)]; exact v.2.1
  have W1 : WI h1 := v.2.2.1.jj J (by unfold SC; omega)
  refine and_have (vL (c := 1) hi (by omega)) (fun _ => ?_)
  refine and_have (vL (c := 2) hi (by omega)) (fun _ => ?_)
  refine and_have (vL (c := 3) hi (by omega)) (fun _ => ?_)
  refine c_i (p_X11_sum R1.ri) ?_
  rintro s h2 g2 K1
  have vv := step_ask v J (K1.mo (fun o k hq => by unfold SSm at hq; unfold SRef; omega)) (W1.kj K1 (fun k => by unfold SSm; omega))
  exact done _ _ vv
theorem lc_13 {xs : Nat → Int32} {L i : Nat} (hi : i + 6 ≤ L ∧ L ≤ 3072) {K : Int32 → HI → HL → Prop} {h : HI} {g : HL} (v : INV h) (done : ∀ (h2 : HI) (g2 : HL), INV h2 → j_L_law_1451 xs L () K (nI i) h2 g2) : vp_in ((nI i) + (1 : Int32)) L ∧ (vp_in ((nI i) + (2 : Int32)) L ∧ (vp_in ((nI i) + (3 : Int32)) L ∧ (∃ P_713 : Int32 → HI → HL → Prop, w_X10_stands (xs ((nI i) + (1 : Int32)).toNatClampNeg) (xs ((nI i) + (2 : Int32)).toNatClampNeg) (xs ((nI i) + (3 : Int32)).toNatClampNeg) h g P_713 ∧ ∀ (r_713 : Int32) (h_713 : HI) (g_713 : HL), P_713 r_713 h_713 g_713 → (vp_in ((nI i) + (1 : Int32)) L ∧ (vp_in ((nI i) + (2 : Int32)) L ∧ (vp_in ((nI i) + (3 : Int32)) L ∧ (∃ P_733 : Int32 → HI → HL → Prop, w_X11_stands (xs ((nI i) + (1 : Int32)).toNatClampNeg) (xs ((nI i) + (2 : Int32)).toNatClampNeg) (xs ((nI i) + (3 : Int32)).toNatClampNeg) h_713 g_713 P_733 ∧ ∀ (r_733 : Int32) (h_733 : HI) (g_733 : HL), P_733 r_733 h_733 g_733 → j_L_law_1451 xs L () K (nI i) h_733 g_733))))))) := by
  have C := v.1.ci
  have cn := v.2.2.2.1
  have v0 : vp_in (nI i) L := vp_in_nI (by omega) (by omega)
  have n0 : h 2 3 = h 136 0 := by
    obtain ⟨m, T, k⟩ := cn 0 (by omega)
    exact T.2.2.1.trans (Eq.symm k)
  refine and_have (vL (c := 1) hi (by omega)) (fun _ => ?_)
  refine and_have (vL (c := 2) hi (by omega)) (fun _ => ?_)
  refine and_have (vL (c := 3) hi (by omega)) (fun _ => ?_)
  refine c_i (p_X10_stands C) ?_
  rintro r h1 g1 J
  have R1 : RG (h1 136) := by rw [J 136 (by unfold SC; omega)]; exact v.2.1
  have W1 : WI h1 := v.2.2.1.jj J (by unfold SC; omega)
  refine and_have (vL (c := 1) hi (by omega)) (fun _ => ?_)
  refine and_have (vL (c := 2) hi (by omega)) (fun _ => ?_)
  refine and_have (vL (c := 3) hi (by omega)) (fun _ => ?_)
  refine c_i (p_X11_stands R1.ri) ?_
  rintro s h2 g2 K1
  have vv := step_ask v J (K1.mo (fun o k hq => by unfold SSm at hq; unfold SRef; omega)) (W1.kj K1 (fun k => by unfold SSm; omega))
  exact done _ _ vv
theorem lc_14 {xs : Nat → Int32} {L i : Nat} (hi : i + 6 ≤ L ∧ L ≤ 3072) {K : Int32 → HI → HL → Prop} {h : HI} {g : HL} (v : INV h) (done : ∀ (h2 : HI) (g2 : HL), INV h2 → j_L_law_1451 xs L () K (nI i) h2 g2) : vp_in ((nI i) + (1 : Int32)) L ∧ (vp_in ((nI i) + (2 : Int32)) L ∧ (∃ P_751 : Int32 → HI → HL → Prop, w_X10_life (xs ((nI i) + (1 : Int32)).toNatClampNeg) (xs ((nI i) + (2 : Int32)).toNatClampNeg) h g P_751 ∧ ∀ (r_751 : Int32) (h_751 : HI) (g_751 : HL), P_751 r_751 h_751 g_751 → (vp_in ((nI i) + (1 : Int32)) L ∧ (vp_in ((nI i) + (2 : Int32)) L ∧ (∃ P_766 : Int32 → HI → HL → Prop, w_X11_life (xs ((nI i) + (1 : Int32)).toNatClampNeg) (xs ((nI i) + (2 : Int32)).toNatClampNeg) h_751 g_751 P_766 ∧ ∀ (r_766 : Int32) (h_766 : HI) (g_766 : HL), P_766 r_766 h_766 g_766 → j_L_law_1451 xs L () K (nI i) h_766 g_766))))) := by
  have C := v.1.ci
  have cn := v.2.2.2.1
  have v0 : vp_in (nI i) L := vp_in_nI (by omega) (by omega)
  have n0 : h 2 3 = h 136 0 := by
    obtain ⟨m, T, k⟩ := cn 0 (by omega)
    exact T.2.2.1.trans (Eq.symm k)
  refine and_have (vL (c := 1) hi (by omega)) (fun _ => ?_)
  refine and_have (vL (c := 2) hi (by omega)) (fun _ => ?_)
  refine c_i (p_X10_life C) ?_
  rintro r h1 g1 J
  have R1 : RG (h1 136) := by rw [J 136 (by unfold SC; omega)]; exact v.2.1
  have W1 : WI h1 := v.2.2.1.jj J (by unfold SC; omega)
  refine and_have (vL (c := 1) hi (by omega)) (fun _ => ?_)
  refine and_have (vL (c := 2) hi (by omega)) (fun _ => ?_)
  refine c_i (p_X11_life R1.ri) ?_
  rintro s h2 g2 K1
  have vv := step_ask v J (K1.mo (fun o k hq => by unfold SSm at hq; unfold SRef; omega)) (W1.kj K1 (fun k => by unfold SSm; omega))
  exact done _ _ vv
theorem lc_15 {xs : Nat → Int32} {L i : Nat} (hi : i + 6 ≤ L ∧ L ≤ 3072) {K : Int32 → HI → HL → Prop} {h : HI} {g : HL} (v : INV h) (done : ∀ (h2 : HI) (g2 : HL), INV h2 → j_L_law_1451 xs L () K (nI i) h2 g2) : vp_in ((nI i) + (1 : Int32)) L ∧ (vp_in ((nI i) + (2 : Int32)) L ∧ (vp_in ((nI i) + (3 : Int32)) L ∧ (vp_in ((nI i) + (4 : Int32)) L ∧ (∃ P_794 : Int32 → HI → HL → Prop, w_X10_work (xs ((nI i) + (1 : Int32)).toNatClampNeg) (xs ((nI i) + (2 : Int32)).toNatClampNeg) (xs ((nI i) + (3 : Int32)).toNatClampNeg) (xs ((nI i) + (4 : Int32)).toNatClampNeg) h g P_794 ∧ ∀ (r_794 : Int32) (h_794 : HI) (g_794 : HL), P_794 r_794 h_794 g_794 → (vp_in ((nI i) + (1 : Int32)) L ∧ (vp_in ((nI i) + (2 : Int32)) L ∧ (vp_in ((nI i) + (3 : Int32)) L ∧ (vp_in ((nI i) + (4 : Int32)) L ∧ (∃ P_819 : Int32 → HI → HL → Prop, w_X11_work (xs ((nI i) + (1 : Int32)).toNatClampNeg) (xs ((nI i) + (2 : Int32)).toNatClampNeg) (xs ((nI i) + (3 : Int32)).toNatClampNeg) (xs ((nI i) + (4 : Int32)).toNatClampNeg) h_794 g_794 P_819 ∧ ∀ (r_819 : Int32) (h_819 : HI) (g_819 : HL), P_819 r_819 h_819 g_819 → j_L_law_1451 xs L () K (nI i) h_819 g_819))))))))) := by
  have C := v.1.ci
  have cn := v.2.2.2.1
  have v0 : vp_in (nI i) L := vp_in_nI (by omega) (by omega)
  have n0 : h 2 3 = h 136 0 := by
    obtain ⟨m, T, k⟩ := cn 0 (by omega)
    exact T.2.2.1.trans (Eq.symm k)
  refine and_have (vL (c := 1) hi (by omega)) (fun _ => ?_)
  refine and_have (vL (c := 2) hi (by omega)) (fun _ => ?_)
  refine and_have (vL (c := 3) hi (by omega)) (fun _ => ?_)
  refine and_have (vL (c := 4) hi (by omega)) (fun _ => ?_)
  obtain ⟨m, T, k⟩ := cn 4 (by omega)
  refine c_i (p_X10_work T) ?_
  rintro r h1 g1 a
  have up := a.up (by omega)
  have em : h1 136 3 = nI m := by rw [up 136 (by omega)]; exact k
  have R1 : RG (h1 136) := by rw [up 136 (by omega)]; exact v.2.1
  refine and_have (vL (c := 1) hi (by omega)) (fun _ => ?_)
  refine and_have (vL (c := 2) hi (by omega)) (fun _ => ?_)
  refine and_have (vL (c := 3) hi (by omega)) (fun _ => ?_)
  refine and_have (vL (c := 4) hi (by omega)) (fun _ => ?_)
  refine c_i (p_X11_work R1 em T.2.2.2.1) ?_
  rintro s h2 g2 b
  obtain ⟨st, vv⟩ := step_add (j := 4) v (by omega) (by decide) a b
  exact done _ _ vv
theorem lc_16 {xs : Nat → Int32} {L i : Nat} (hi : i + 6 ≤ L ∧ L ≤ 3072) {K : Int32 → HI → HL → Prop} {h : HI} {g : HL} (v : INV h) (done : ∀ (h2 : HI) (g2 : HL), INV h2 → j_L_law_1451 xs L () K (nI i) h2 g2) : vp_in ((nI i) + (1 : Int32)) L ∧ (vp_in ((nI i) + (2 : Int32)) L ∧ (vp_in ((nI i) + (3 : Int32)) L ∧ (vp_in ((nI i) + (4 : Int32)) L ∧ (∃ P_847 : Int32 → HI → HL → Prop, w_X10_way (xs ((nI i) + (1 : Int32)).toNatClampNeg) (xs ((nI i) + (2 : Int32)).toNatClampNeg) (xs ((nI i) + (3 : Int32)).toNatClampNeg) (xs ((nI i) + (4 : Int32)).toNatClampNeg) h g P_847 ∧ ∀ (r_847 : Int32) (h_847 : HI) (g_847 : HL), P_847 r_847 h_847 g_847 → (vp_in ((nI i) + (1 : Int32)) L ∧ (vp_in ((nI i) + (2 : Int32)) L ∧ (vp_in ((nI i) + (3 : Int32)) L ∧ (vp_in ((nI i) + (4 : Int32)) L ∧ (∃ P_872 : Int32 → HI → HL → Prop, w_X11_way (xs ((nI i) + (1 : Int32)).toNatClampNeg) (xs ((nI i) + (2 : Int32)).toNatClampNeg) (xs ((nI i) + (3 : Int32)).toNatClampNeg) (xs ((nI i) + (4 : Int32)).toNatClampNeg) h_847 g_847 P_872 ∧ ∀ (r_872 : Int32) (h_872 : HI) (g_872 : HL), P_872 r_872 h_872 g_872 → j_L_law_1451 xs L () K (nI i) h_872 g_872))))))))) := by
  have C := v.1.ci
  have cn := v.2.2.2.1
  have v0 : vp_in (nI i) L := vp_in_nI (by omega) (by omega)
  have n0 : h 2 3 = h 136 0 := by
    obtain ⟨m, T, k⟩ := cn 0 (by omega)
    exact T.2.2.1.trans (Eq.symm k)
  refine and_have (vL (c := 1) hi (by omega)) (fun _ => ?_)
  refine and_have (vL (c := 2) hi (by omega)) (fun _ => ?_)
  refine and_have (vL (c := 3) hi (by omega)) (fun _ => ?_)
  refine and_have (vL (c := 4) hi (by omega)) (fun _ => ?_)
  refine c_i (p_X10_way C) ?_
  rintro r h1 g1 J
  have R1 : RG (h1 136) := by rw [J 136 (by unfold SC; omega)]; exact v.2.1
  have W1 : WI h1 := v.2.2.1.jj J (by unfold SC; omega)
  refine and_have (vL (c := 1) hi (by omega)) (fun _ => ?_)
  refine and_have (vL (c := 2) hi (by omega)) (fun _ => ?_)
  refine and_have (vL (c := 3) hi (by omega)) (fun _ => ?_)
  refine and_have (vL (c := 4) hi (by omega)) (fun _ => ?_)
  refine c_i (p_X11_way R1.ri) ?_
  rintro s h2 g2 K1
  have vv := step_ask v J (K1.mo (fun o k hq => by unfold SPr at hq; unfold SRef; omega)) (W1.kj K1 (fun k => by unfold SPr; omega))
  exact done _ _ vv
theorem lc_17 {xs : Nat → Int32} {L i : Nat} (hi : i + 6 ≤ L ∧ L ≤ 3072) {K : Int32 → HI → HL → Prop} {h : HI} {g : HL} (v : INV h) (done : ∀ (h2 : HI) (g2 : HL), INV h2 → j_L_law_1451 xs L () K (nI i) h2 g2) : vp_in ((nI i) + (1 : Int32)) L ∧ (∃ P_885 : Int32 → HI → HL → Prop, w_X10_machine (xs ((nI i) + (1 : Int32)).toNatClampNeg) h g P_885 ∧ ∀ (r_885 : Int32) (h_885 : HI) (g_885 : HL), P_885 r_885 h_885 g_885 → (vp_in ((nI i) + (1 : Int32)) L ∧ (∃ P_895 : Int32 → HI → HL → Prop, w_X11_machine (xs ((nI i) + (1 : Int32)).toNatClampNeg) h_885 g_885 P_895 ∧ ∀ (r_895 : Int32) (h_895 : HI) (g_895 : HL), P_895 r_895 h_895 g_895 → j_L_law_1451 xs L () K (nI i) h_895 g_895))) := by
  have C := v.1.ci
  have cn := v.2.2.2.1
  have v0 : vp_in (nI i) L := vp_in_nI (by omega) (by omega)
  have n0 : h 2 3 = h 136 0 := by
    obtain ⟨m, T, k⟩ := cn 0 (by omega)
    exact T.2.2.1.trans (Eq.symm k)
  refine and_have (vL (c := 1) hi (by omega)) (fun _ => ?_)
  obtain ⟨m, T, k⟩ := cn 5 (by omega)
  refine c_i (p_X10_machine T) ?_
  rintro r h1 g1 a
  have up := a.up (by omega)
  have em : h1 136 4 = nI m := by rw [up 136 (by omega)]; exact k
  have R1 : RG (h1 136) := by rw [up 136 (by omega)]; exact v.2.1
  refine and_have (vL (c := 1) hi (by omega)) (fun _ => ?_)
  refine c_i (p_X11_machine R1 em T.2.2.2.1) ?_
  rintro s h2 g2 b
  obtain ⟨st, vv⟩ := step_add (j := 5) v (by omega) (by decide) a b
  exact done _ _ vv
theorem lc_18 {xs : Nat → Int32} {L i : Nat} (hi : i + 6 ≤ L ∧ L ≤ 3072) {K : Int32 → HI → HL → Prop} {h : HI} {g : HL} (v : INV h) (done : ∀ (h2 : HI) (g2 : HL), INV h2 → j_L_law_1451 xs L () K (nI i) h2 g2) : vp_in ((nI i) + (1 : Int32)) L ∧ (vp_in ((nI i) + (2 : Int32)) L ∧ (vp_in ((nI i) + (3 : Int32)) L ∧ (∃ P_918 : Int32 → HI → HL → Prop, w_X10_spare (xs ((nI i) + (1 : Int32)).toNatClampNeg) (xs ((nI i) + (2 : Int32)).toNatClampNeg) (xs ((nI i) + (3 : Int32)).toNatClampNeg) h g P_918 ∧ ∀ (r_918 : Int32) (h_918 : HI) (g_918 : HL), P_918 r_918 h_918 g_918 → (vp_in ((nI i) + (1 : Int32)) L ∧ (vp_in ((nI i) + (2 : Int32)) L ∧ (vp_in ((nI i) + (3 : Int32)) L ∧ (∃ P_938 : Int32 → HI → HL → Prop, w_X11_spare (xs ((nI i) + (1 : Int32)).toNatClampNeg) (xs ((nI i) + (2 : Int32)).toNatClampNeg) (xs ((nI i) + (3 : Int32)).toNatClampNeg) h_918 g_918 P_938 ∧ ∀ (r_938 : Int32) (h_938 : HI) (g_938 : HL), P_938 r_938 h_938 g_938 → j_L_law_1451 xs L () K (nI i) h_938 g_938))))))) := by
  have C := v.1.ci
  have cn := v.2.2.2.1
  have v0 : vp_in (nI i) L := vp_in_nI (by omega) (by omega)
  have n0 : h 2 3 = h 136 0 := by
    obtain ⟨m, T, k⟩ := cn 0 (by omega)
    exact T.2.2.1.trans (Eq.symm k)
  refine and_have (vL (c := 1) hi (by omega)) (fun _ => ?_)
  refine and_have (vL (c := 2) hi (by omega)) (fun _ => ?_)
  refine and_have (vL (c := 3) hi (by omega)) (fun _ => ?_)
  obtain ⟨m, T, k⟩ := cn 6 (by omega)
  refine c_i (p_X10_spare T) ?_
  rintro r h1 g1 a
  have up := a.up (by omega)
  have em : h1 136 5 = nI m := by rw [up 136 (by omega)]; exact k
  have R1 : RG (h1 136) := by rw [up 136 (by omega)]; exact v.2.1
  refine and_have (vL (c := 1) hi (by omega)) (fun _ => ?_)
  refine and_have (vL (c := 2) hi (by omega)) (fun _ => ?_)
  refine and_have (vL (c := 3) hi (by omega)) (fun _ => ?_)
  refine c_i (p_X11_spare R1 em T.2.2.2.1) ?_
  rintro s h2 g2 b
  obtain ⟨st, vv⟩ := step_add (j := 6) v (by omega) (by decide) a b
  exact done _ _ vv
theorem lc_19 {xs : Nat → Int32} {L i : Nat} (hi : i + 6 ≤ L ∧ L ≤ 3072) {K : Int32 → HI → HL → Prop} {h : HI} {g : HL} (v : INV h) (done : ∀ (h2 : HI) (g2 : HL), INV h2 → j_L_law_1451 xs L () K (nI i) h2 g2) : ∃ P_946 : Int32 → HI → HL → Prop, w_X10_scrap h g P_946 ∧ ∀ (r_946 : Int32) (h_946 : HI) (g_946 : HL), P_946 r_946 h_946 g_946 → (∃ P_951 : Int32 → HI → HL → Prop, w_X11_scrap h_946 g_946 P_951 ∧ ∀ (r_951 : Int32) (h_951 : HI) (g_951 : HL), P_951 r_951 h_951 g_951 → j_L_law_1451 xs L () K (nI i) h_951 g_951) := by
  have C := v.1.ci
  have cn := v.2.2.2.1
  have v0 : vp_in (nI i) L := vp_in_nI (by omega) (by omega)
  have n0 : h 2 3 = h 136 0 := by
    obtain ⟨m, T, k⟩ := cn 0 (by omega)
    exact T.2.2.1.trans (Eq.symm k)
  obtain ⟨m, T, k⟩ := cn 5 (by omega)
  obtain ⟨n, U, l⟩ := cn 6 (by omega)
  refine c_i (p_X10_scrap T U) ?_
  rintro r h1 g1 ⟨a, J, T1, U1⟩
  have e6 : h1 136 = h 136 := J 136 (by decide)
  have em : h1 136 4 = nI m := by rw [e6]; exact k
  have en : h1 136 5 = nI n := by rw [e6]; exact l
  have R1 : RG (h1 136) := by rw [e6]; exact v.2.1
  refine c_i (p_X11_scrap R1 em en) ?_
  rintro s h2 g2 b
  have vv := step_scrap v J T1 U1 b.2
  have st := a.trans b.1.symm
  exact done _ _ vv
theorem lc_20 {xs : Nat → Int32} {L i : Nat} (hi : i + 6 ≤ L ∧ L ≤ 3072) {K : Int32 → HI → HL → Prop} {h : HI} {g : HL} (v : INV h) (done : ∀ (h2 : HI) (g2 : HL), INV h2 → j_L_law_1451 xs L () K (nI i) h2 g2) : vp_in ((nI i) + (1 : Int32)) L ∧ (∃ P_964 : Int32 → HI → HL → Prop, w_X10_taking (xs ((nI i) + (1 : Int32)).toNatClampNeg) h g P_964 ∧ ∀ (r_964 : Int32) (h_964 : HI) (g_964 : HL), P_964 r_964 h_964 g_964 → (vp_in ((nI i) + (1 : Int32)) L ∧ (∃ P_974 : Int32 → HI → HL → Prop, w_X11_taking (xs ((nI i) + (1 : Int32)).toNatClampNeg) h_964 g_964 P_974 ∧ ∀ (r_974 : Int32) (h_974 : HI) (g_974 : HL), P_974 r_974 h_974 g_974 → j_L_law_1451 xs L () K (nI i) h_974 g_974))) := by
  have C := v.1.ci
  have cn := v.2.2.2.1
  have v0 : vp_in (nI i) L := vp_in_nI (by omega) (by omega)
  have n0 : h 2 3 = h 136 0 := by
    obtain ⟨m, T, k⟩ := cn 0 (by omega)
    exact T.2.2.1.trans (Eq.symm k)
  refine and_have (vL (c := 1) hi (by omega)) (fun _ => ?_)
  refine c_i (p_X10_taking C) ?_
  rintro r h1 g1 J
  have R1 : RG (h1 136) := by rw [J 136 (by unfold SC; omega)]; exact v.2.1
  have W1 : WI h1 := v.2.2.1.jj J (by unfold SC; omega)
  refine and_have (vL (c := 1) hi (by omega)) (fun _ => ?_)
  refine c_i (p_X11_taking R1.ri) ?_
  rintro s h2 g2 K1
  have vv := step_ask v J (K1.mo (fun o k hq => by unfold STk at hq; unfold SRef; omega)) (W1.kj K1 (fun k => by unfold STk; omega))
  exact done _ _ vv
theorem lc_21 {xs : Nat → Int32} {L i : Nat} (hi : i + 6 ≤ L ∧ L ≤ 3072) {K : Int32 → HI → HL → Prop} {h : HI} {g : HL} (v : INV h) (done : ∀ (h2 : HI) (g2 : HL), INV h2 → j_L_law_1451 xs L () K (nI i) h2 g2) : vp_in ((nI i) + (1 : Int32)) L ∧ (vp_in ((nI i) + (2 : Int32)) L ∧ (∃ P_992 : Int32 → HI → HL → Prop, w_X10_odds (xs ((nI i) + (1 : Int32)).toNatClampNeg) (xs ((nI i) + (2 : Int32)).toNatClampNeg) h g P_992 ∧ ∀ (r_992 : Int32) (h_992 : HI) (g_992 : HL), P_992 r_992 h_992 g_992 → (vp_in ((nI i) + (1 : Int32)) L ∧ (vp_in ((nI i) + (2 : Int32)) L ∧ (∃ P_1007 : Int32 → HI → HL → Prop, w_X11_odds (xs ((nI i) + (1 : Int32)).toNatClampNeg) (xs ((nI i) + (2 : Int32)).toNatClampNeg) h_992 g_992 P_1007 ∧ ∀ (r_1007 : Int32) (h_1007 : HI) (g_1007 : HL), P_1007 r_1007 h_1007 g_1007 → j_L_law_1451 xs L () K (nI i) h_1007 g_1007))))) := by
  have C := v.1.ci
  have cn := v.2.2.2.1
  have v0 : vp_in (nI i) L := vp_in_nI (by omega) (by omega)
  have n0 : h 2 3 = h 136 0 := by
    obtain ⟨m, T, k⟩ := cn 0 (by omega)
    exact T.2.2.1.trans (Eq.symm k)
  refine and_have (vL (c := 1) hi (by omega)) (fun _ => ?_)
  refine and_have (vL (c := 2) hi (by omega)) (fun _ => ?_)
  obtain ⟨m, T, k⟩ := cn 7 (by omega)
  have km : m = 1 := k
  subst km
  refine c_i (p_X10_odds T) ?_
  rintro r h1 g1 a
  have R1 : RG (h1 136) := by rw [a.up (by omega) 136 (by omega)]; exact v.2.1
  refine and_have (vL (c := 1) hi (by omega)) (fun _ => ?_)
  refine and_have (vL (c := 2) hi (by omega)) (fun _ => ?_)
  refine c_i (p_X11_odds R1) ?_
  rintro s h2 g2 b
  have vv := step_put (j := 7) v (by omega) k a b
  have st := ANS.un a.1 b.1
  exact done _ _ vv
theorem lc_22 {xs : Nat → Int32} {L i : Nat} (hi : i + 6 ≤ L ∧ L ≤ 3072) {K : Int32 → HI → HL → Prop} {h : HI} {g : HL} (v : INV h) (done : ∀ (h2 : HI) (g2 : HL), INV h2 → j_L_law_1451 xs L () K (nI i) h2 g2) : vp_in ((nI i) + (1 : Int32)) L ∧ (vp_in ((nI i) + (2 : Int32)) L ∧ (∃ P_1025 : Int32 → HI → HL → Prop, w_X10_lasts (xs ((nI i) + (1 : Int32)).toNatClampNeg) (xs ((nI i) + (2 : Int32)).toNatClampNeg) h g P_1025 ∧ ∀ (r_1025 : Int32) (h_1025 : HI) (g_1025 : HL), P_1025 r_1025 h_1025 g_1025 → (vp_in ((nI i) + (1 : Int32)) L ∧ (vp_in ((nI i) + (2 : Int32)) L ∧ (∃ P_1040 : Int32 → HI → HL → Prop, w_X11_lasts (xs ((nI i) + (1 : Int32)).toNatClampNeg) (xs ((nI i) + (2 : Int32)).toNatClampNeg) h_1025 g_1025 P_1040 ∧ ∀ (r_1040 : Int32) (h_1040 : HI) (g_1040 : HL), P_1040 r_1040 h_1040 g_1040 → j_L_law_1451 xs L () K (nI i) h_1040 g_1040))))) := by
  have C := v.1.ci
  have cn := v.2.2.2.1
  have v0 : vp_in (nI i) L := vp_in_nI (by omega) (by omega)
  have n0 : h 2 3 = h 136 0 := by
    obtain ⟨m, T, k⟩ := cn 0 (by omega)
    exact T.2.2.1.trans (Eq.symm k)
  refine and_have (vL (c := 1) hi (by omega)) (fun _ => ?_)
  refine and_have (vL (c := 2) hi (by omega)) (fun _ => ?_)
  refine c_i (p_X10_lasts C) ?_
  rintro r h1 g1 ⟨a, J⟩
  have R1 : RG (h1 136) := by rw [J 136 (by unfold SC; omega)]; exact v.2.1
  have W1 : WI h1 := v.2.2.1.jj J (by unfold SC; omega)
  refine and_have (vL (c := 1) hi (by omega)) (fun _ => ?_)
  refine and_have (vL (c := 2) hi (by omega)) (fun _ => ?_)
  refine c_i (p_X11_lasts R1.ri W1) ?_
  rintro s h2 g2 ⟨b, K1, W2⟩
  have vv := step_ask v J (K1.mo (fun o k hq => by unfold SBg at hq; unfold SRef; omega)) W2
  have e0 : h 2 3 = h1 136 0 := by rw [J 136 (by unfold SC; omega)]; exact n0
  rw [e0] at a
  have st := ANS.un a (b.elim (fun q => .inl ⟨q.2, q.1⟩) (fun q => .inr ⟨q.2, q.1⟩))
  exact done _ _ vv
theorem lc_23 {xs : Nat → Int32} {L i : Nat} (hi : i + 6 ≤ L ∧ L ≤ 3072) {K : Int32 → HI → HL → Prop} {h : HI} {g : HL} (v : INV h) (done : ∀ (h2 : HI) (g2 : HL), INV h2 → j_L_law_1451 xs L () K (nI i) h2 g2) : vp_in ((nI i) + (1 : Int32)) L ∧ (∃ P_1053 : Int32 → HI → HL → Prop, w_X10_half (xs ((nI i) + (1 : Int32)).toNatClampNeg) h g P_1053 ∧ ∀ (r_1053 : Int32) (h_1053 : HI) (g_1053 : HL), P_1053 r_1053 h_1053 g_1053 → (vp_in ((nI i) + (1 : Int32)) L ∧ (∃ P_1063 : Int32 → HI → HL → Prop, w_X11_half (xs ((nI i) + (1 : Int32)).toNatClampNeg) h_1053 g_1053 P_1063 ∧ ∀ (r_1063 : Int32) (h_1063 : HI) (g_1063 : HL), P_1063 r_1063 h_1063 g_1063 → j_L_law_1451 xs L () K (nI i) h_1063 g_1063))) := by
  have C := v.1.ci
  have cn := v.2.2.2.1
  have v0 : vp_in (nI i) L := vp_in_nI (by omega) (by omega)
  have n0 : h 2 3 = h 136 0 := by
    obtain ⟨m, T, k⟩ := cn 0 (by omega)
    exact T.2.2.1.trans (Eq.symm k)
  refine and_have (vL (c := 1) hi (by omega)) (fun _ => ?_)
  refine c_i (p_X10_half C) ?_
  rintro r h1 g1 J
  have R1 : RG (h1 136) := by rw [J 136 (by unfold SC; omega)]; exact v.2.1
  have W1 : WI h1 := v.2.2.1.jj J (by unfold SC; omega)
  refine and_have (vL (c := 1) hi (by omega)) (fun _ => ?_)
  refine c_i (p_X11_half R1.ri) ?_
  rintro s h2 g2 ⟨b, K1, w0, w1⟩
  have vv := step_ask v J (K1.mo (fun o k hq => by unfold SBg at hq; unfold SRef; omega)) (W1.cg w0 w1)
  exact done _ _ vv
theorem lc_24 {xs : Nat → Int32} {L i : Nat} (hi : i + 6 ≤ L ∧ L ≤ 3072) {K : Int32 → HI → HL → Prop} {h : HI} {g : HL} (v : INV h) (done : ∀ (h2 : HI) (g2 : HL), INV h2 → j_L_law_1451 xs L () K (nI i) h2 g2) : vp_in ((nI i) + (1 : Int32)) L ∧ (∃ P_1076 : Int32 → HI → HL → Prop, w_X10_limbs (xs ((nI i) + (1 : Int32)).toNatClampNeg) h g P_1076 ∧ ∀ (r_1076 : Int32) (h_1076 : HI) (g_1076 : HL), P_1076 r_1076 h_1076 g_1076 → (vp_in ((nI i) + (1 : Int32)) L ∧ (∃ P_1086 : Int32 → HI → HL → Prop, w_X11_limbs (xs ((nI i) + (1 : Int32)).toNatClampNeg) h_1076 g_1076 P_1086 ∧ ∀ (r_1086 : Int32) (h_1086 : HI) (g_1086 : HL), P_1086 r_1086 h_1086 g_1086 → j_L_law_1451 xs L () K (nI i) h_1086 g_1086))) := by
  have C := v.1.ci
  have cn := v.2.2.2.1
  have v0 : vp_in (nI i) L := vp_in_nI (by omega) (by omega)
  have n0 : h 2 3 = h 136 0 := by
    obtain ⟨m, T, k⟩ := cn 0 (by omega)
    exact T.2.2.1.trans (Eq.symm k)
  refine and_have (vL (c := 1) hi (by omega)) (fun _ => ?_)
  refine c_i (p_X10_limbs C) ?_
  rintro r h1 g1 J
  have R1 : RG (h1 136) := by rw [J 136 (by unfold SC; omega)]; exact v.2.1
  have W1 : WI h1 := v.2.2.1.jj J (by unfold SC; omega)
  refine and_have (vL (c := 1) hi (by omega)) (fun _ => ?_)
  refine c_i p_X11_limbs ?_
  rintro s h2 g2 ⟨e3, e4⟩
  have vv := step_ask v J (e3 ▸ KJ.rf) (e3 ▸ W1)
  exact done _ _ vv
theorem lc_25 {xs : Nat → Int32} {L i : Nat} (hi : i + 6 ≤ L ∧ L ≤ 3072) {K : Int32 → HI → HL → Prop} {h : HI} {g : HL} (v : INV h) (done : ∀ (h2 : HI) (g2 : HL), INV h2 → j_L_law_1451 xs L () K (nI i) h2 g2) : vp_in ((nI i) + (1 : Int32)) L ∧ (vp_in ((nI i) + (2 : Int32)) L ∧ (∃ P_1104 : Int32 → HI → HL → Prop, w_X10_limb (xs ((nI i) + (1 : Int32)).toNatClampNeg) (xs ((nI i) + (2 : Int32)).toNatClampNeg) h g P_1104 ∧ ∀ (r_1104 : Int32) (h_1104 : HI) (g_1104 : HL), P_1104 r_1104 h_1104 g_1104 → (vp_in ((nI i) + (1 : Int32)) L ∧ (vp_in ((nI i) + (2 : Int32)) L ∧ (∃ P_1119 : Int32 → HI → HL → Prop, w_X11_limb (xs ((nI i) + (1 : Int32)).toNatClampNeg) (xs ((nI i) + (2 : Int32)).toNatClampNeg) h_1104 g_1104 P_1119 ∧ ∀ (r_1119 : Int32) (h_1119 : HI) (g_1119 : HL), P_1119 r_1119 h_1119 g_1119 → j_L_law_1451 xs L () K (nI i) h_1119 g_1119))))) := by
  have C := v.1.ci
  have cn := v.2.2.2.1
  have v0 : vp_in (nI i) L := vp_in_nI (by omega) (by omega)
  have n0 : h 2 3 = h 136 0 := by
    obtain ⟨m, T, k⟩ := cn 0 (by omega)
    exact T.2.2.1.trans (Eq.symm k)
  refine and_have (vL (c := 1) hi (by omega)) (fun _ => ?_)
  refine and_have (vL (c := 2) hi (by omega)) (fun _ => ?_)
  refine c_i (p_X10_limb C) ?_
  rintro r h1 g1 J
  have R1 : RG (h1 136) := by rw [J 136 (by unfold SC; omega)]; exact v.2.1
  have W1 : WI h1 := v.2.2.1.jj J (by unfold SC; omega)
  refine and_have (vL (c := 1) hi (by omega)) (fun _ => ?_)
  refine and_have (vL (c := 2) hi (by omega)) (fun _ => ?_)
  refine c_i (p_X11_limb W1) ?_
  rintro s h2 g2 ⟨e3, e4⟩
  have vv := step_ask v J (e3 ▸ KJ.rf) (e3 ▸ W1)
  exact done _ _ vv
theorem lc_26 {xs : Nat → Int32} {L i : Nat} (hi : i + 6 ≤ L ∧ L ≤ 3072) {K : Int32 → HI → HL → Prop} {h : HI} {g : HL} (v : INV h) (done : ∀ (h2 : HI) (g2 : HL), INV h2 → j_L_law_1451 xs L () K (nI i) h2 g2) : vp_in ((nI i) + (1 : Int32)) L ∧ (vp_in ((nI i) + (2 : Int32)) L ∧ (((xs ((nI i) + (2 : Int32)).toNatClampNeg) = 0 → j_L_law_1145 xs L () K (nI i) (xs ((nI i) + (1 : Int32)).toNatClampNeg) (0 : Int32) h g) ∧ (¬ (xs ((nI i) + (2 : Int32)).toNatClampNeg) = 0 → j_L_law_1145 xs L () K (nI i) (xs ((nI i) + (1 : Int32)).toNatClampNeg) (1 : Int32) h g))) := by
  have C := v.1.ci
  have cn := v.2.2.2.1
  have v0 : vp_in (nI i) L := vp_in_nI (by omega) (by omega)
  have n0 : h 2 3 = h 136 0 := by
    obtain ⟨m, T, k⟩ := cn 0 (by omega)
    exact T.2.2.1.trans (Eq.symm k)
  refine and_have (vL (c := 1) hi (by omega)) (fun _ => ?_)
  refine and_have (vL (c := 2) hi (by omega)) (fun _ => ?_)
  refine ⟨fun _ => ?_, fun _ => ?_⟩
  · skip
    unfold j_L_law_1145
    obtain ⟨m, T, k⟩ := cn 8 (by omega)
    refine c_i (p_X10_told T) ?_
    rintro r h1 g1 a
    have up := a.up (by omega)
    have em : h1 136 6 = nI m := by rw [up 136 (by omega)]; exact k
    have R1 : RG (h1 136) := by rw [up 136 (by omega)]; exact v.2.1
    refine and_have (vL (c := 1) hi (by omega)) (fun _ => ?_)
    refine and_have (vL (c := 2) hi (by omega)) (fun _ => ?_)
    refine ⟨fun _ => ?_, fun _ => ?_⟩
    · skip
      unfold j_L_law_1168
      refine c_i (p_X11_told R1 em T.2.2.2.1) ?_
      rintro s h2 g2 b
      obtain ⟨st, vv⟩ := step_add (j := 8) v (by omega) (by decide) a b
      exact done _ _ vv
    · skip
      unfold j_L_law_1168
      refine c_i (p_X11_told R1 em T.2.2.2.1) ?_
      rintro s h2 g2 b
      obtain ⟨st, vv⟩ := step_add (j := 8) v (by omega) (by decide) a b
      exact done _ _ vv
  · skip
    unfold j_L_law_1145
    obtain ⟨m, T, k⟩ := cn 8 (by omega)
    refine c_i (p_X10_told T) ?_
    rintro r h1 g1 a
    have up := a.up (by omega)
    have em : h1 136 6 = nI m := by rw [up 136 (by omega)]; exact k
    have R1 : RG (h1 136) := by rw [up 136 (by omega)]; exact v.2.1
    refine and_have (vL (c := 1) hi (by omega)) (fun _ => ?_)
    refine and_have (vL (c := 2) hi (by omega)) (fun _ => ?_)
    refine ⟨fun _ => ?_, fun _ => ?_⟩
    · skip
      unfold j_L_law_1168
      refine c_i (p_X11_told R1 em T.2.2.2.1) ?_
      rintro s h2 g2 b
      obtain ⟨st, vv⟩ := step_add (j := 8) v (by omega) (by decide) a b
      exact done _ _ vv
    · skip
      unfold j_L_law_1168
      refine c_i (p_X11_told R1 em T.2.2.2.1) ?_
      rintro s h2 g2 b
      obtain ⟨st, vv⟩ := step_add (j := 8) v (by omega) (by decide) a b
      exact done _ _ vv
theorem lc_27 {xs : Nat → Int32} {L i : Nat} (hi : i + 6 ≤ L ∧ L ≤ 3072) {K : Int32 → HI → HL → Prop} {h : HI} {g : HL} (v : INV h) (done : ∀ (h2 : HI) (g2 : HL), INV h2 → j_L_law_1451 xs L () K (nI i) h2 g2) : ∃ P_1176 : Int32 → HI → HL → Prop, w_X10_fitted h g P_1176 ∧ ∀ (r_1176 : Int32) (h_1176 : HI) (g_1176 : HL), P_1176 r_1176 h_1176 g_1176 → (∃ P_1181 : Int32 → HI → HL → Prop, w_X11_fitted h_1176 g_1176 P_1181 ∧ ∀ (r_1181 : Int32) (h_1181 : HI) (g_1181 : HL), P_1181 r_1181 h_1181 g_1181 → j_L_law_1451 xs L () K (nI i) h_1181 g_1181) := by
  have C := v.1.ci
  have cn := v.2.2.2.1
  have v0 : vp_in (nI i) L := vp_in_nI (by omega) (by omega)
  have n0 : h 2 3 = h 136 0 := by
    obtain ⟨m, T, k⟩ := cn 0 (by omega)
    exact T.2.2.1.trans (Eq.symm k)
  refine c_i (p_X10_fitted C) ?_
  rintro r h1 g1 J
  have R1 : RG (h1 136) := by rw [J 136 (by unfold SC; omega)]; exact v.2.1
  have W1 : WI h1 := v.2.2.1.jj J (by unfold SC; omega)
  refine c_i (p_X11_fitted R1.ri) ?_
  rintro s h2 g2 ⟨K1, w0, w1⟩
  have vv := step_ask v J (K1.mo (fun o k hq => by unfold SBg at hq; unfold SRef; omega)) (W1.cg w0 w1)
  exact done _ _ vv
theorem lc_28 {xs : Nat → Int32} {L i : Nat} (hi : i + 6 ≤ L ∧ L ≤ 3072) {K : Int32 → HI → HL → Prop} {h : HI} {g : HL} (v : INV h) (done : ∀ (h2 : HI) (g2 : HL), INV h2 → j_L_law_1451 xs L () K (nI i) h2 g2) : vp_in ((nI i) + (1 : Int32)) L ∧ (vp_in ((nI i) + (2 : Int32)) L ∧ (vp_in ((nI i) + (3 : Int32)) L ∧ (((xs ((nI i) + (3 : Int32)).toNatClampNeg) = 0 → j_L_law_1212 xs L () K (nI i) (xs ((nI i) + (1 : Int32)).toNatClampNeg) (xs ((nI i) + (2 : Int32)).toNatClampNeg) (0 : Int32) h g) ∧ (¬ (xs ((nI i) + (3 : Int32)).toNatClampNeg) = 0 → j_L_law_1212 xs L () K (nI i) (xs ((nI i) + (1 : Int32)).toNatClampNeg) (xs ((nI i) + (2 : Int32)).toNatClampNeg) (1 : Int32) h g)))) := by
  have C := v.1.ci
  have cn := v.2.2.2.1
  have v0 : vp_in (nI i) L := vp_in_nI (by omega) (by omega)
  have n0 : h 2 3 = h 136 0 := by
    obtain ⟨m, T, k⟩ := cn 0 (by omega)
    exact T.2.2.1.trans (Eq.symm k)
  refine and_have (vL (c := 1) hi (by omega)) (fun _ => ?_)
  refine and_have (vL (c := 2) hi (by omega)) (fun _ => ?_)
  refine and_have (vL (c := 3) hi (by omega)) (fun _ => ?_)
  refine ⟨fun _ => ?_, fun _ => ?_⟩
  · skip
    unfold j_L_law_1212
    obtain ⟨m, T, k⟩ := cn 0 (by omega)
    refine c_i (p_X10_bear C T) ?_
    rintro r h1 g1 a
    have R1 : RG (h1 136) := by rw [a.up (by omega) 136 (by omega)]; exact v.2.1
    refine and_have (vL (c := 1) hi (by omega)) (fun _ => ?_)
    refine and_have (vL (c := 2) hi (by omega)) (fun _ => ?_)
    refine and_have (vL (c := 3) hi (by omega)) (fun _ => ?_)
    refine ⟨fun _ => ?_, fun _ => ?_⟩
    · skip
      unfold j_L_law_1240
      refine c_i (p_X11_bear R1) ?_
      rintro s h2 g2 b
      have vv := step_put (j := 0) v (by omega) k a b
      exact done _ _ vv
    · skip
      unfold j_L_law_1240
      refine c_i (p_X11_bear R1) ?_
      rintro s h2 g2 b
      have vv := step_put (j := 0) v (by omega) k a b
      exact done _ _ vv
  · skip
    unfold j_L_law_1212
    obtain ⟨m, T, k⟩ := cn 0 (by omega)
    refine c_i (p_X10_bear C T) ?_
    rintro r h1 g1 a
    have R1 : RG (h1 136) := by rw [a.up (by omega) 136 (by omega)]; exact v.2.1
    refine and_have (vL (c := 1) hi (by omega)) (fun _ => ?_)
    refine and_have (vL (c := 2) hi (by omega)) (fun _ => ?_)
    refine and_have (vL (c := 3) hi (by omega)) (fun _ => ?_)
    refine ⟨fun _ => ?_, fun _ => ?_⟩
    · skip
      unfold j_L_law_1240
      refine c_i (p_X11_bear R1) ?_
      rintro s h2 g2 b
      have vv := step_put (j := 0) v (by omega) k a b
      exact done _ _ vv
    · skip
      unfold j_L_law_1240
      refine c_i (p_X11_bear R1) ?_
      rintro s h2 g2 b
      have vv := step_put (j := 0) v (by omega) k a b
      exact done _ _ vv
theorem lc_29 {xs : Nat → Int32} {L i : Nat} (hi : i + 6 ≤ L ∧ L ≤ 3072) {K : Int32 → HI → HL → Prop} {h : HI} {g : HL} (v : INV h) (done : ∀ (h2 : HI) (g2 : HL), INV h2 → j_L_law_1451 xs L () K (nI i) h2 g2) : vp_in ((nI i) + (1 : Int32)) L ∧ (∃ P_1253 : Int32 → HI → HL → Prop, w_X10_along (xs ((nI i) + (1 : Int32)).toNatClampNeg) h g P_1253 ∧ ∀ (r_1253 : Int32) (h_1253 : HI) (g_1253 : HL), P_1253 r_1253 h_1253 g_1253 → (vp_in ((nI i) + (1 : Int32)) L ∧ (∃ P_1263 : Int32 → HI → HL → Prop, w_X11_along (xs ((nI i) + (1 : Int32)).toNatClampNeg) h_1253 g_1253 P_1263 ∧ ∀ (r_1263 : Int32) (h_1263 : HI) (g_1263 : HL), P_1263 r_1263 h_1263 g_1263 → j_L_law_1451 xs L () K (nI i) h_1263 g_1263))) := by
  have C := v.1.ci
  have cn := v.2.2.2.1
  have v0 : vp_in (nI i) L := vp_in_nI (by omega) (by omega)
  have n0 : h 2 3 = h 136 0 := by
    obtain ⟨m, T, k⟩ := cn 0 (by omega)
    exact T.2.2.1.trans (Eq.symm k)
  refine and_have (vL (c := 1) hi (by omega)) (fun _ => ?_)
  refine c_i (p_X10_along C) ?_
  rintro r h1 g1 J
  have R1 : RG (h1 136) := by rw [J 136 (by unfold SC; omega)]; exact v.2.1
  have W1 : WI h1 := v.2.2.1.jj J (by unfold SC; omega)
  refine and_have (vL (c := 1) hi (by omega)) (fun _ => ?_)
  refine c_i (p_X11_along R1.ri) ?_
  rintro s h2 g2 ⟨e3, e4⟩
  have vv := step_ask v J (e3 ▸ KJ.rf) (e3 ▸ W1)
  exact done _ _ vv
theorem lc_30 {xs : Nat → Int32} {L i : Nat} (hi : i + 6 ≤ L ∧ L ≤ 3072) {K : Int32 → HI → HL → Prop} {h : HI} {g : HL} (v : INV h) (done : ∀ (h2 : HI) (g2 : HL), INV h2 → j_L_law_1451 xs L () K (nI i) h2 g2) : vp_in ((nI i) + (1 : Int32)) L ∧ (vp_in ((nI i) + (2 : Int32)) L ∧ (∃ P_1281 : Int32 → HI → HL → Prop, w_X10_hand (xs ((nI i) + (1 : Int32)).toNatClampNeg) (xs ((nI i) + (2 : Int32)).toNatClampNeg) h g P_1281 ∧ ∀ (r_1281 : Int32) (h_1281 : HI) (g_1281 : HL), P_1281 r_1281 h_1281 g_1281 → (vp_in ((nI i) + (1 : Int32)) L ∧ (vp_in ((nI i) + (2 : Int32)) L ∧ (∃ P_1296 : Int32 → HI → HL → Prop, w_X11_hand (xs ((nI i) + (1 : Int32)).toNatClampNeg) (xs ((nI i) + (2 : Int32)).toNatClampNeg) h_1281 g_1281 P_1296 ∧ ∀ (r_1296 : Int32) (h_1296 : HI) (g_1296 : HL), P_1296 r_1296 h_1296 g_1296 → j_L_law_1451 xs L () K (nI i) h_1296 g_1296))))) := by
  have C := v.1.ci
  have cn := v.2.2.2.1
  have v0 : vp_in (nI i) L := vp_in_nI (by omega) (by omega)
  have n0 : h 2 3 = h 136 0 := by
    obtain ⟨m, T, k⟩ := cn 0 (by omega)
    exact T.2.2.1.trans (Eq.symm k)
  refine and_have (vL (c := 1) hi (by omega)) (fun _ => ?_)
  refine and_have (vL (c := 2) hi (by omega)) (fun _ => ?_)
  obtain ⟨m, T, k⟩ := cn 9 (by omega)
  refine c_i (p_X10_hand T) ?_
  rintro r h1 g1 a
  have up := a.up (by omega)
  have em : h1 136 7 = nI m := by rw [up 136 (by omega)]; exact k
  have R1 : RG (h1 136) := by rw [up 136 (by omega)]; exact v.2.1
  refine and_have (vL (c := 1) hi (by omega)) (fun _ => ?_)
  refine and_have (vL (c := 2) hi (by omega)) (fun _ => ?_)
  refine c_i (p_X11_hand R1 em T.2.2.2.1) ?_
  rintro s h2 g2 b
  obtain ⟨st, vv⟩ := step_add (j := 9) v (by omega) (by decide) a b
  exact done _ _ vv
theorem lc_31 {xs : Nat → Int32} {L i : Nat} (hi : i + 6 ≤ L ∧ L ≤ 3072) {K : Int32 → HI → HL → Prop} {h : HI} {g : HL} (v : INV h) (done : ∀ (h2 : HI) (g2 : HL), INV h2 → j_L_law_1451 xs L () K (nI i) h2 g2) : vp_in ((nI i) + (1 : Int32)) L ∧ (vp_in ((nI i) + (2 : Int32)) L ∧ (∃ P_1314 : Int32 → HI → HL → Prop, w_X10_need (xs ((nI i) + (1 : Int32)).toNatClampNeg) (xs ((nI i) + (2 : Int32)).toNatClampNeg) h g P_1314 ∧ ∀ (r_1314 : Int32) (h_1314 : HI) (g_1314 : HL), P_1314 r_1314 h_1314 g_1314 → (vp_in ((nI i) + (1 : Int32)) L ∧ (vp_in ((nI i) + (2 : Int32)) L ∧ (∃ P_1329 : Int32 → HI → HL → Prop, w_X11_need (xs ((nI i) + (1 : Int32)).toNatClampNeg) (xs ((nI i) + (2 : Int32)).toNatClampNeg) h_1314 g_1314 P_1329 ∧ ∀ (r_1329 : Int32) (h_1329 : HI) (g_1329 : HL), P_1329 r_1329 h_1329 g_1329 → j_L_law_1451 xs L () K (nI i) h_1329 g_1329))))) := by
  have C := v.1.ci
  have cn := v.2.2.2.1
  have v0 : vp_in (nI i) L := vp_in_nI (by omega) (by omega)
  have n0 : h 2 3 = h 136 0 := by
    obtain ⟨m, T, k⟩ := cn 0 (by omega)
    exact T.2.2.1.trans (Eq.symm k)
  refine and_have (vL (c := 1) hi (by omega)) (fun _ => ?_)
  refine and_have (vL (c := 2) hi (by omega)) (fun _ => ?_)
  obtain ⟨m, T, k⟩ := cn 10 (by omega)
  have km : m = 4 := k
  subst km
  refine c_i (p_X10_need C T) ?_
  rintro r h1 g1 a
  have R1 : RG (h1 136) := by rw [a.up (by omega) 136 (by omega)]; exact v.2.1
  refine and_have (vL (c := 1) hi (by omega)) (fun _ => ?_)
  refine and_have (vL (c := 2) hi (by omega)) (fun _ => ?_)
  refine c_i (p_X11_need R1) ?_
  rintro s h2 g2 b
  have vv := step_put (j := 10) v (by omega) k a b
  exact done _ _ vv
theorem lc_32 {xs : Nat → Int32} {L i : Nat} (hi : i + 6 ≤ L ∧ L ≤ 3072) {K : Int32 → HI → HL → Prop} {h : HI} {g : HL} (v : INV h) (done : ∀ (h2 : HI) (g2 : HL), INV h2 → j_L_law_1451 xs L () K (nI i) h2 g2) : vp_in ((nI i) + (1 : Int32)) L ∧ (vp_in ((nI i) + (2 : Int32)) L ∧ (∃ P_1347 : Int32 → HI → HL → Prop, w_X10_plan (xs ((nI i) + (1 : Int32)).toNatClampNeg) (xs ((nI i) + (2 : Int32)).toNatClampNeg) h g P_1347 ∧ ∀ (r_1347 : Int32) (h_1347 : HI) (g_1347 : HL), P_1347 r_1347 h_1347 g_1347 → (vp_in ((nI i) + (1 : Int32)) L ∧ (vp_in ((nI i) + (2 : Int32)) L ∧ (∃ P_1362 : Int32 → HI → HL → Prop, w_X11_plan (xs ((nI i) + (1 : Int32)).toNatClampNeg) (xs ((nI i) + (2 : Int32)).toNatClampNeg) h_1347 g_1347 P_1362 ∧ ∀ (r_1362 : Int32) (h_1362 : HI) (g_1362 : HL), P_1362 r_1362 h_1362 g_1362 → j_L_law_1451 xs L () K (nI i) h_1362 g_1362))))) := by
  have C := v.1.ci
  have cn := v.2.2.2.1
  have v0 : vp_in (nI i) L := vp_in_nI (by omega) (by omega)
  have n0 : h 2 3 = h 136 0 := by
    obtain ⟨m, T, k⟩ := cn 0 (by omega)
    exact T.2.2.1.trans (Eq.symm k)
  refine and_have (vL (c := 1) hi (by omega)) (fun _ => ?_)
  refine and_have (vL (c := 2) hi (by omega)) (fun _ => ?_)
  refine c_i (p_X10_plan C) ?_
  rintro r h1 g1 J
  have R1 : RG (h1 136) := by rw [J 136 (by unfold SC; omega)]; exact v.2.1
  have W1 : WI h1 := v.2.2.1.jj J (by unfold SC; omega)
  refine and_have (vL (c := 1) hi (by omega)) (fun _ => ?_)
  refine and_have (vL (c := 2) hi (by omega)) (fun _ => ?_)
  refine c_i (p_X11_plan R1.ri) ?_
  rintro s h2 g2 K1
  have vv := step_ask v J (K1.mo (fun o k hq => by unfold SPm at hq; unfold SRef; omega)) (W1.kj K1 (fun k => by unfold SPm; omega))
  exact done _ _ vv
theorem lc_33 {xs : Nat → Int32} {L i : Nat} (hi : i + 6 ≤ L ∧ L ≤ 3072) {K : Int32 → HI → HL → Prop} {h : HI} {g : HL} (v : INV h) (done : ∀ (h2 : HI) (g2 : HL), INV h2 → j_L_law_1451 xs L () K (nI i) h2 g2) : vp_in ((nI i) + (1 : Int32)) L ∧ (∃ P_1375 : Int32 → HI → HL → Prop, w_X10_image (xs ((nI i) + (1 : Int32)).toNatClampNeg) h g P_1375 ∧ ∀ (r_1375 : Int32) (h_1375 : HI) (g_1375 : HL), P_1375 r_1375 h_1375 g_1375 → (vp_in ((nI i) + (1 : Int32)) L ∧ (∃ P_1385 : Int32 → HI → HL → Prop, w_X11_image (xs ((nI i) + (1 : Int32)).toNatClampNeg) h_1375 g_1375 P_1385 ∧ ∀ (r_1385 : Int32) (h_1385 : HI) (g_1385 : HL), P_1385 r_1385 h_1385 g_1385 → j_L_law_1451 xs L () K (nI i) h_1385 g_1385))) := by
  have C := v.1.ci
  have cn := v.2.2.2.1
  have v0 : vp_in (nI i) L := vp_in_nI (by omega) (by omega)
  have n0 : h 2 3 = h 136 0 := by
    obtain ⟨m, T, k⟩ := cn 0 (by omega)
    exact T.2.2.1.trans (Eq.symm k)
  refine and_have (vL (c := 1) hi (by omega)) (fun _ => ?_)
  refine c_i (p_X10_image v.1) ?_
  rintro r h1 g1 a
  refine and_have (vL (c := 1) hi (by omega)) (fun _ => ?_)
  refine c_i p_X11_image ?_
  rintro s h2 g2 b
  obtain ⟨st, vv⟩ := step_image v a b
  exact done _ _ vv
theorem lc_34 {xs : Nat → Int32} {L i : Nat} (hi : i + 6 ≤ L ∧ L ≤ 3072) {K : Int32 → HI → HL → Prop} {h : HI} {g : HL} (v : INV h) (done : ∀ (h2 : HI) (g2 : HL), INV h2 → j_L_law_1451 xs L () K (nI i) h2 g2) : vp_in ((nI i) + (1 : Int32)) L ∧ (∃ P_1398 : Int32 → HI → HL → Prop, w_X10_from (xs ((nI i) + (1 : Int32)).toNatClampNeg) h g P_1398 ∧ ∀ (r_1398 : Int32) (h_1398 : HI) (g_1398 : HL), P_1398 r_1398 h_1398 g_1398 → (vp_in ((nI i) + (1 : Int32)) L ∧ (∃ P_1407 : Int32 → HI → HL → Prop, w_X11_from (xs ((nI i) + (1 : Int32)).toNatClampNeg) h_1398 g_1398 P_1407 ∧ ∀ (r_1407 : Int32) (h_1407 : HI) (g_1407 : HL), P_1407 r_1407 h_1407 g_1407 → ((r_1398 = r_1407 → j_L_law_1451 xs L () K (nI i) h_1407 g_1407) ∧ (¬ r_1398 = r_1407 → False))))) := by
  have C := v.1.ci
  have cn := v.2.2.2.1
  have v0 : vp_in (nI i) L := vp_in_nI (by omega) (by omega)
  have n0 : h 2 3 = h 136 0 := by
    obtain ⟨m, T, k⟩ := cn 0 (by omega)
    exact T.2.2.1.trans (Eq.symm k)
  refine and_have (vL (c := 1) hi (by omega)) (fun _ => ?_)
  refine c_i (p_X10_from v.1) ?_
  rintro r h1 g1 a
  refine and_have (vL (c := 1) hi (by omega)) (fun _ => ?_)
  refine c_i p_X11_from ?_
  rintro s h2 g2 b
  obtain ⟨st, vv⟩ := step_from v a b
  refine ⟨fun _ => ?_, fun c => absurd st c⟩
  exact done _ _ vv
theorem lc_35 {xs : Nat → Int32} {L i : Nat} (hi : i + 6 ≤ L ∧ L ≤ 3072) {K : Int32 → HI → HL → Prop} {h : HI} {g : HL} (v : INV h) (done : ∀ (h2 : HI) (g2 : HL), INV h2 → j_L_law_1451 xs L () K (nI i) h2 g2) : vp_in ((nI i) + (1 : Int32)) L ∧ (∃ P_1421 : Int32 → HI → HL → Prop, w_X10_count (xs ((nI i) + (1 : Int32)).toNatClampNeg) h g P_1421 ∧ ∀ (r_1421 : Int32) (h_1421 : HI) (g_1421 : HL), P_1421 r_1421 h_1421 g_1421 → (vp_in ((nI i) + (1 : Int32)) L ∧ (∃ P_1431 : Int32 → HI → HL → Prop, w_X11_count (xs ((nI i) + (1 : Int32)).toNatClampNeg) h_1421 g_1421 P_1431 ∧ ∀ (r_1431 : Int32) (h_1431 : HI) (g_1431 : HL), P_1431 r_1431 h_1431 g_1431 → j_L_law_1451 xs L () K (nI i) h_1431 g_1431))) := by
  have C := v.1.ci
  have cn := v.2.2.2.1
  have v0 : vp_in (nI i) L := vp_in_nI (by omega) (by omega)
  have n0 : h 2 3 = h 136 0 := by
    obtain ⟨m, T, k⟩ := cn 0 (by omega)
    exact T.2.2.1.trans (Eq.symm k)
  refine and_have (vL (c := 1) hi (by omega)) (fun _ => ?_)
  refine c_i (p_X10_count C) ?_
  rintro r h1 g1 ⟨e1, e2⟩
  have J : JJ SC h h1 := e1 ▸ JJ.rf
  have R1 : RG (h1 136) := by rw [J 136 (by unfold SC; omega)]; exact v.2.1
  have W1 : WI h1 := v.2.2.1.jj J (by unfold SC; omega)
  refine and_have (vL (c := 1) hi (by omega)) (fun _ => ?_)
  refine c_i (p_X11_count R1.ri) ?_
  rintro s h2 g2 ⟨e3, e4⟩
  have vv := step_ask v J (e3 ▸ KJ.rf) (e3 ▸ W1)
  exact done _ _ vv
theorem lc_36 {xs : Nat → Int32} {L i : Nat} (hi : i + 6 ≤ L ∧ L ≤ 3072) {K : Int32 → HI → HL → Prop} {h : HI} {g : HL} (v : INV h) (done : ∀ (h2 : HI) (g2 : HL), INV h2 → j_L_law_1451 xs L () K (nI i) h2 g2) : ∃ P_1439 : Int64 → HI → HL → Prop, w_X10_digest h g P_1439 ∧ ∀ (r_1439 : Int64) (h_1439 : HI) (g_1439 : HL), P_1439 r_1439 h_1439 g_1439 → (∃ P_1444 : Int64 → HI → HL → Prop, w_X11_digest h_1439 g_1439 P_1444 ∧ ∀ (r_1444 : Int64) (h_1444 : HI) (g_1444 : HL), P_1444 r_1444 h_1444 g_1444 → j_L_law_1451 xs L () K (nI i) h_1444 g_1444) := by
  have C := v.1.ci
  have cn := v.2.2.2.1
  have v0 : vp_in (nI i) L := vp_in_nI (by omega) (by omega)
  have n0 : h 2 3 = h 136 0 := by
    obtain ⟨m, T, k⟩ := cn 0 (by omega)
    exact T.2.2.1.trans (Eq.symm k)
  refine c_l (p_X10_digest C) ?_
  rintro r h1 g1 J
  have R1 : RG (h1 136) := by rw [J 136 (by unfold SC; omega)]; exact v.2.1
  have W1 : WI h1 := v.2.2.1.jj J (by unfold SC; omega)
  refine c_l (p_X11_digest R1.ri) ?_
  rintro s h2 g2 K1
  have vv := step_ask v J (K1.mo (fun o k hq => by unfold SFf at hq; unfold SRef; omega)) (W1.kj K1 (fun k => by unfold SFf; omega))
  exact done _ _ vv
set_option maxHeartbeats 4000000 in
theorem law_pure (xs : Nat → Int32) (L : Nat) (hL : L ≤ 3072) {h : HI} {g : HL} (v : INV h) : w_law xs L h g := by
  unfold w_law
  refine lpE_intro (fun ⟨a_q, h_q, _⟩ => ∃ i : Nat, i ≤ 4000 ∧ nI i = a_q ∧ INV h_q) (fun ⟨a_q, _, _⟩ => dif (nI 8000) a_q) ?_ _ ⟨0, by omega, nI_0, v⟩
  rintro ⟨y, h1, g1⟩ K ⟨i, hi, rfl, v1⟩ hK
  unfold F_L_law_18; dsimp only; unfold b_L_law_18
  refine ⟨fun _ => trivial, fun c => ?_⟩
  have hi2 : i + 6 ≤ L ∧ L ≤ 3072 := by
    have e : (Int32.ofNat L - (6 : Int32)).toInt = (L : Int) - 6 := by
      rw [Int32.toInt_sub, show (6 : Int32).toInt = 6 by decide, show Int32.ofNat L = nI L from rfl, nI_toInt (by omega)]
      exact bm (by omega) (by omega)
    rw [Int32.lt_iff_toInt_lt, e, nI_toInt (by omega)] at c
    omega
  have done : ∀ (h2 : HI) (g2 : HL), INV h2 → j_L_law_1451 xs L () (fun x3 h g => K (x3, h, g)) (nI i) h2 g2 := by
    intro h2 g2 v2
    unfold j_L_law_1451
    rintro _ rfl
    refine hK _ ⟨i + 6, by omega, (nI_add i 6).symm, v2⟩ ?_
    rw [show nI i + (6 : Int32) = nI (i + 6) from nI_add i 6]
    dsimp only
    rw [dif_nI (by omega) (by omega), dif_nI (by omega) (by omega)]
    omega
  refine ⟨vp_in_nI (by omega) (by omega), fun _ => lc_0 hi2 v1 done, fun _ => lc_1 hi2 v1 done, fun _ => lc_2 hi2 v1 done, fun _ => lc_3 hi2 v1 done, fun _ => lc_4 hi2 v1 done, fun _ => lc_5 hi2 v1 done, fun _ => lc_6 hi2 v1 done, fun _ => lc_7 hi2 v1 done, fun _ => lc_8 hi2 v1 done, fun _ => lc_9 hi2 v1 done, fun _ => lc_10 hi2 v1 done, fun _ => lc_11 hi2 v1 done, fun _ => lc_12 hi2 v1 done, fun _ => lc_13 hi2 v1 done, fun _ => lc_14 hi2 v1 done, fun _ => lc_15 hi2 v1 done, fun _ => lc_16 hi2 v1 done, fun _ => lc_17 hi2 v1 done, fun _ => lc_18 hi2 v1 done, fun _ => lc_19 hi2 v1 done, fun _ => lc_20 hi2 v1 done, fun _ => lc_21 hi2 v1 done, fun _ => lc_22 hi2 v1 done, fun _ => lc_23 hi2 v1 done, fun _ => lc_24 hi2 v1 done, fun _ => lc_25 hi2 v1 done, fun _ => lc_26 hi2 v1 done, fun _ => lc_27 hi2 v1 done, fun _ => lc_28 hi2 v1 done, fun _ => lc_29 hi2 v1 done, fun _ => lc_30 hi2 v1 done, fun _ => lc_31 hi2 v1 done, fun _ => lc_32 hi2 v1 done, fun _ => lc_33 hi2 v1 done, fun _ => lc_34 hi2 v1 done, fun _ => lc_35 hi2 v1 done, fun _ => lc_36 hi2 v1 done, ?_⟩
  intros
  exact done _ _ v1
theorem pure_all (xs : Nat → Int32) (L : Nat) (hL : L ≤ 3072) : w_all xs L := by
  unfold w_all
  exact p_X10_init (fun h1 g1 a => p_X11_init (fun h2 g2 b => law_pure xs L hL (INV_start a b)))

