section
-- 65.lawref2
theorem flw_b {i b d : Nat} (h : ¬ b = 2) : flw i b d = (10 : Int32) * nI i + nI b := by
  rw [show (10 : Int32) = nI 10 from rfl, pk_mul, nI_add]; exact if_neg h
set_option maxHeartbeats 4000000 in
theorem q_X11_reads {h : HI} {g : HL} {N : Nat} (eN : h 136 8 = nI N) (hN : N ≤ 60) : w_X11_reads h g (fun r h' _ => QRl h (fun k => h 136 (827 + k)) N r h') := by
  generalize ef : (fun k => h 136 (827 + k)) = f
  have fe : ∀ k, h 136 (827 + k) = f k := fun k => by rw [← ef]
  unfold w_X11_reads
  refine and_have (vp_in_iff.mpr (by decide)) (fun _ => ?_)
  rintro _ rfl
  rw [cl8, eN]
  intro h1 e1
  intro h2 e2
  have J2 : KJ SRd h h2 := (KJ.rf.hu e1 (by unfold SRd; omega)).hu e2 (by unfold SRd; omega)
  have r2 : RTl h2 [] [] 1 := RTl.o.mpr ⟨by rw [e2, hu_eq, pk_un (by decide), e1, hu_eq, pk_us]; exact nI_0.symm, trivial, trivial, by rw [e2, hu_eq, pk_us]; exact nI_0.symm, trivial⟩
  refine lpE_intro (fun ⟨a_q, b_q, c_q, d_q, h_q, _⟩ => ∃ (i nn d u : Nat) (o w : List Int32), i ≤ N ∧ nI N = a_q ∧ nI nn = b_q ∧ nI (1 - u) = c_q ∧ nI i = d_q ∧ AR f i = (o, w, nn, d, u) ∧ okp f i ∧ KJ SRd h h_q ∧ RTl h_q o w u ∧ (0 < d → i < N → ¬ dgt (f i))) (fun ⟨_, _, _, d_q, _, _⟩ => dif (nI N) d_q) ?_ _ ⟨0, 0, 0, 1, [], [], by omega, rfl, nI_0, nI_0, nI_0, rfl, fun k hk => absurd hk (Nat.not_lt_zero k), J2, r2, fun q => absurd q (Nat.lt_irrefl 0)⟩
  clear e1 e2 J2 r2
  rintro ⟨x1, x2, x3, x4, h3, g3⟩ K ⟨i, nn, d, u, o, w, hi, rfl, rfl, rfl, rfl, eA, ok, J, R, nd⟩ hK
  have I := SIl.at ok
  rw [eA] at I
  obtain ⟨a1, a2, a3, a4, a5, a6, a7, a8, a9⟩ := id I
  have go : ∀ (i' nn' d' u' : Nat) (o' w' : List Int32) (h4 : HI) (g4 : HL), i < i' → i' ≤ N → AR f i' = (o', w', nn', d', u') → okp f i' → KJ SRd h h4 → RTl h4 o' w' u' → (0 < d' → i' < N → ¬ dgt (f i')) → K (nI N, nI nn', nI (1 - u'), nI i', h4, g4) := by
    intro i' nn' d' u' o' w' h4 g4 b1 b2 b3 b4 b5 b6 b7
    refine hK _ ⟨i', nn', d', u', o', w', b2, rfl, rfl, rfl, rfl, b3, b4, b5, b6, b7⟩ ?_
    dsimp only
    rw [dif_nI (by omega) (by omega), dif_nI (by omega) (by omega)]
    omega
  clear hK
  have bad : ∀ (b : Nat) (x : Int32) (h4 : HI), i < N → KJ SRd h h4 → badL (f i) (o, w, nn, d, u) = b → (b = 1 ∨ b = 3) → x = (10 : Int32) * nI i + nI b → QRl h f N x h4 := by
    intro b x h4 hiN J4 eb b13 ex
    refine ⟨J4, [], .inl ⟨i, hiN, ok, by rw [eA, eb]; omega, by rw [eA, eb, ex, flw_b (by omega)], ?_⟩, fun q => ?_⟩
    · rw [ex, ← flw_b (d := 0) (by omega)]; exact flw_n (by omega) (by omega)
    · rw [ex, ← flw_b (d := 0) (by omega)] at q; exact absurd q (flw_n (by omega) (by omega))
  have step : ∀ (s' : LSt), badL (f i) (o, w, nn, d, u) = 0 → nxL (f i) (o, w, nn, d, u) = s' → AR f (i + 1) = s' ∧ okp f (i + 1) := by
    intro s' b0 en
    refine ⟨?_, fun k hk => ?_⟩
    · show nxL (f i) (AR f i) = s'
      rw [eA]; exact en
    · by_cases q : k = i
      · subst q; rw [eA]; exact b0
      · exact ok k (by omega)
  unfold F_X11_reads_25; dsimp only; unfold b_X11_reads_25
  refine ⟨fun c => ?_, fun c => ?_⟩
  · rw [nI_leI (by omega) (by omega)] at c
    have : i = N := by omega
    subst this
    have S : ∃ o1 w1, RTK h3 o1 w1 ∧ (∀ x, x ∈ w1 → x ∈ wcL) ∧ o1.length + w1.length ≤ 60 ∧ (u = 0 → stl 1 w1 o1 = stl 1 w o) := by
      by_cases u0 : u = 0
      · subst u0
        have l6 := stl_len (r := 6) (w := w) (o := o)
        exact ⟨_, _, RTl.z.mp R, fun x hx => a8 x (stl_w x hx), by omega, fun _ => stl_6 (by omega)⟩
      · have u1 : u = 1 := by omega
        subst u1
        exact ⟨o, w, RTl.o.mp R, a8, by omega, fun q => absurd q u0⟩
    obtain ⟨o1, w1, S1, V1, B1, e1⟩ := S
    refine c_v (q_X11_settles (r := 1) S1 V1 B1 (by omega)) ?_
    rintro h4 g4 ⟨J4, S4⟩
    have q388 : ¬ (u = 0 ∧ nn = 0) → j_X11_reads_388 (fun r h' _ => QRl h f i r h') (nI i) h4 g4 := by
      intro en
      unfold j_X11_reads_388
      have e10 : (10 : Int32) * nI i + (1 : Int32) = nI (10 * i + 1) := by
        rw [show (10 : Int32) = nI 10 from rfl, pk_mul, nI_1]
      rw [e10]
      exact ⟨J.tr J4, [], .inr (.inl ⟨ok, by rw [eA]; exact en, rfl, n10 (by omega) (by omega)⟩), fun q => absurd q (n10 (by omega) (by omega))⟩
    refine ⟨fun q => q388 ?_, fun q => ⟨fun q2 => q388 ?_, fun q2 => ?_⟩⟩
    · rw [nI_z (by omega)] at q; omega
    · rw [nI_z (by omega)] at q2; exact fun k => q2 k.2
    · rw [nI_z (by omega)] at q q2
      have u0 : u = 0 := by omega
      rw [e1 u0] at S4
      exact ⟨J.tr J4, (stl 1 w o).2, .inr (.inr ⟨ok, by rw [eA]; exact fun k => k ⟨u0, q2⟩, rfl, by rw [eA]; rfl⟩), fun _ => ⟨S4.1, S4.2.1, S4.2.2.1⟩⟩
  · have hiN : i < N := by
      rw [nI_leI (by omega) (by omega)] at c; omega
    have hv : ∀ k : Nat, k < N → vp_in ((827 : Int32) + nI k) 887 := by
      intro k hk
      rw [show (827 : Int32) + nI k = nI (827 + k) from nI_add 827 k]
      exact vp_in_nI (by omega) (by omega)
    have h36 : h3 136 = h 136 := funext fun k => J 136 k (by unfold SRd; omega)
    have ix : ∀ k : Nat, k < N → h3 136 ((827 : Int32) + nI k).toNatClampNeg = f k := by
      intro k hk
      rw [show (827 : Int32) + nI k = nI (827 + k) from nI_add 827 k, nI_clamp (by omega), h36]; exact fe k
    refine and_have (hv i hiN) (fun _ => ?_)
    intro x5 e5
    rw [ix i hiN] at e5
    subst e5
    generalize ec : f i = ch
    rw [ec] at bad step nd
    refine ⟨fun c32 => ?_, fun c32 => ?_⟩
    · refine ⟨fun c0 => ?_, fun c0 => ?_⟩
      · have u1 : u = 1 := by
          rw [nI_z (by omega)] at c0; omega
        subst u1
        have d0 : d = 0 := by
          by_cases q : 0 < d
          · have := (a3 q).1; omega
          · omega
        subst d0
        have S := RTl.o.mp R
        refine c_in3 (fun q => ?_) (fun q => ?_)
        · have cd : dgt ch := dg_bd.mp q
          refine ⟨fun c => absI c, fun _ => ?_⟩
          refine lpE_intro (fun ⟨a_q, b_q, d_q, e_q, v_q, h_q, _⟩ => ∃ k : Nat, i ≤ k ∧ k ≤ N ∧ nI N = a_q ∧ nI nn = b_q ∧ nI k = d_q ∧ nI i = e_q ∧ h3 = h_q ∧ okp f k ∧ k ≤ i + 6 ∧ ((k = i ∧ v_q = 0) ∨ (i < k ∧ AR f k = (v_q :: o, w, nn, k - i, 0) ∧ ∃ v : Nat, v < 1000000 ∧ v_q = nI v))) (fun ⟨_, _, d_q, _, _, _, _⟩ => dif (nI N) d_q) ?_ _ ⟨i, by omega, by omega, rfl, rfl, rfl, rfl, rfl, ok, by omega, .inl ⟨rfl, rfl⟩⟩
          rintro ⟨y1, y2, y4, y6, y7, h4, g4⟩ K2 ⟨k, hik, hkN, rfl, rfl, rfl, rfl, rfl, okk, k6, st⟩ hK2
          unfold F_X11_reads_161; dsimp only; unfold b_X11_reads_161
          have out : i < k → (k < N → ¬ dgt (f k)) → j_X11_reads_237 (fun r h' _ => QRl h f N r h') (fun x1 x2 x3 x4 h g => K (x1, x2, x3, x4, h, g)) (nI N) (nI nn) (nI k) y7 h3 g4 := by
            intro hk ndk
            rcases st with ⟨q, -⟩ | ⟨-, eAk, v, hv, rfl⟩
            · omega
            have Ik := SIl.at okk
            rw [eAk] at Ik
            have l1 : (nI v :: o).length + w.length ≤ k := Ik.1
            rw [List.length_cons] at l1
            unfold j_X11_reads_237
            refine c_v (p_X11_emits S.1 (by omega)) ?_
            rintro h5 g5 ⟨rfl, J5, t3, t6, t139, t140, t141⟩
            have S5 := S.emit (t := nI v) t3 t6 (by rw [(tc_n (by omega)).1]; exact t139) (by rw [(tc_n (by omega)).2]; exact t140) t141
            refine c_v (q_X11_settles (r := 6) S5 a8 (by rw [List.length_cons]; omega) (by omega)) ?_
            rintro h6 g6 ⟨J6, S6⟩
            unfold j_X11_reads_368
            exact go k nn (k - i) 0 (nI v :: o) w h6 g6 hk hkN eAk okk ((J.tr J5).tr J6) (RTl.z.mpr S6) (fun _ hk2 => ndk hk2)
          have first : k = i → dgt (f k) := fun q => by rw [q, ec]; exact cd
          refine ⟨fun c => out ?_ ?_, fun c => ?_⟩
          · rw [nI_leI (by omega) (by omega)] at c; omega
          · rw [nI_leI (by omega) (by omega)] at c; omega
          · have hd := dif_lt c
            have hk2 : k < N := by
              rw [nI_leI (by omega) (by omega)] at c; omega
            refine and_have (hv k hk2) (fun _ => ?_)
            rw [ix k hk2]
            refine c_in3 (fun q2 => ?_) (fun q2 => ?_)
            · have cdk : dgt (f k) := dg_bd.mp q2
              obtain ⟨dv, hdv, ev, ecv⟩ := dg_nI cdk
              have eki : nI k - nI i = nI (k - i) := nI_subN hik
              rw [eki]
              refine ⟨fun c => absI c, fun _ => ⟨fun c6 => ?_, fun c6 => ?_⟩⟩
              · have k7 : k < i + 6 := by
                  have : ¬ k - i = 6 := fun q => c6 (by rw [q]; rfl)
                  omega
                refine and_have (hv k hk2) (fun _ => ?_)
                rw [ix k hk2]
                rintro _ rfl
                rintro _ rfl
                refine hK2 _ ⟨k + 1, by omega, by omega, rfl, rfl, (nI_1 k).symm, rfl, rfl, fun j hj => ?_, by omega, .inr ⟨by omega, ?_⟩⟩ hd
                · by_cases qj : j = k
                  · subst qj
                    rcases st with ⟨q, -⟩ | ⟨hlt, eAk, -⟩
                    · subst q
                      rw [eA, bad_dg cdk]
                      exact (if_neg (fun q => absurd q.2 (by decide))).trans (if_neg (by omega))
                    · rw [eAk, bad_dg cdk]
                      exact (if_neg (fun q => absurd q.1 (by omega))).trans (if_neg (by omega))
                  · exact okk j (by omega)
                · have eS : AR f (k + 1) = nxL (f k) (AR f k) := rfl
                  rcases st with ⟨q, rfl⟩ | ⟨hlt, eAk, v, hv, rfl⟩
                  · subst q
                    rw [eS, eA, nx_d0 cdk]
                    have e0 : (10 : Int32) * 0 + f k - 48 = f k - 48 := by rw [Int32.mul_zero, Int32.zero_add]
                    rw [e0]
                    refine ⟨by rw [Nat.add_sub_cancel_left], dv, by omega, ev⟩
                  · have Ik := SIl.at okk
                    rw [eAk] at Ik
                    obtain ⟨-, v1, xs, ex, hv1⟩ := Ik.2.2.1 (by omega)
                    rw [List.cons.injEq] at ex
                    have p5 : 10 ^ (k - i) ≤ 10 ^ 5 := Nat.pow_le_pow_right (by decide) (by omega)
                    have v10 : v < 100000 := by
                      have := (nI_eq (a := v) (b := v1) (by omega) (by omega)).mp ex.1
                      omega
                    rw [eS, eAk, nx_d1 cdk (by omega)]
                    have e0 : (10 : Int32) * nI v + f k - 48 = nI (10 * v + dv) := by
                      rw [ecv, show (10 : Int32) = nI 10 from rfl, pk_mul, nI_add, show 10 * v + (48 + dv) = 10 * v + dv + 48 by omega, ← nI_add, show (48 : Int32) = nI 48 from rfl, Int32.add_sub_cancel]
                    have e1 : (10 : Int32) * hd0 (nI v :: o) + (f k - 48) = nI (10 * v + dv) := by
                      rw [ev, show hd0 (nI v :: o) = nI v from rfl, show (10 : Int32) = nI 10 from rfl, pk_mul, nI_add]
                    rw [e0, e1]
                    refine ⟨by rw [List.tail_cons, show k - i + 1 = k + 1 - i by omega], 10 * v + dv, by omega, rfl⟩
              · have k7 : k - i = 6 := (nI_eq (b := 6) (by omega) (by omega)).mp c6
                rcases st with ⟨q, -⟩ | ⟨hlt, eAk, -⟩
                · omega
                have eb : badL (f k) (AR f k) = 2 := by
                  rw [eAk, bad_dg cdk]
                  exact (if_neg (fun q => absurd q.1 (by omega))).trans (if_pos (by omega))
                have ex : (10 : Int32) * nI i + 2 = nI (10 * i + 2) := by
                  rw [show (10 : Int32) = nI 10 from rfl, show (2 : Int32) = nI 2 from rfl, pk_mul, nI_add]
                rw [ex]
                refine ⟨J, [], .inl ⟨k, hk2, okk, by rw [eb]; decide, ?_, n10 (by omega) (by omega)⟩, fun q => absurd q (n10 (by omega) (by omega))⟩
                rw [eb, eAk]
                show nI (10 * i + 2) = nI (10 * (k - (k - i)) + 2)
                rw [show k - (k - i) = i by omega]
            · have ndk : ¬ dgt (f k) := fun q => q2 (dg_bd.mpr q)
              refine ⟨fun _ => out ?_ (fun _ => ndk), fun c => absN c⟩
              by_cases qk : k = i
              · exact absurd (first qk) ndk
              · omega
        · have cd : ¬ dgt ch := fun k => q (dg_bd.mpr k)
          have bu : badL ch (o, w, nn, 0, 1) = (if ch = 40 then (if nn < 8 then 0 else 3) else if ch = 121 ∨ ch = 108 ∨ ch = 104 ∨ ch = 33 ∨ ch = 45 then 0 else 1) := bad_u cd c32 (by decide)
          have nu : nxL ch (o, w, nn, 0, 1) = (if ch = 40 then (o, 40 :: w, nn + 1, 0, 1) else if ch = 33 then (o, 33 :: w, nn, 0, 1) else if ch = 45 then (o, 126 :: w, nn, 0, 1) else (-ch :: o, w, nn, 0, 0)) := nx_u cd c32 (by decide)
          refine ⟨fun _ => ?_, fun c => absN c⟩
          refine c_i p_X11_nameOf ?_
          rintro _ _ _ ⟨rfl, rfl, rfl⟩
          refine ⟨fun cn => ?_, fun cn => ?_⟩
          · obtain ⟨n1, n2, n3⟩ := nof_n cn
            refine ⟨fun c40 => ?_, fun c40 => ?_⟩
            · rw [if_neg c40] at bu nu
              have s351 : ∀ (a x : Int32), a = opc x → badL ch (o, w, nn, 0, 1) = 0 → nxL ch (o, w, nn, 0, 1) = (o, x :: w, nn, 0, 1) → j_X11_reads_351 (fun r h' _ => QRl h f N r h') (fun x1 x2 x3 x4 h g => K (x1, x2, x3, x4, h, g)) (nI N) (nI nn) (nI (1 - 1)) (nI i) a h3 g3 := by
                intro a x ea b0 en
                subst ea
                unfold j_X11_reads_351
                refine c_v (p_X11_waitsWith S.2.2.2.1 (by omega)) ?_
                rintro h5 g5 ⟨rfl, J5, t6, t3, t141, t139, t140⟩
                rintro _ rfl
                unfold j_X11_reads_368
                rw [nI_1]
                obtain ⟨s1, s2⟩ := step _ b0 en
                exact go (i + 1) nn 0 1 o (x :: w) h5 g3 (by omega) (by omega) s1 s2 (J.tr J5) (RTl.o.mpr (S.wait t6 t3 t141 t139 t140)) (fun q => absurd q (Nat.lt_irrefl 0))
              have s338 : ch = 45 ∨ ch = 33 → j_X11_reads_338 (fun r h' _ => QRl h f N r h') (fun x1 x2 x3 x4 h g => K (x1, x2, x3, x4, h, g)) (nI N) (nI nn) (nI (1 - 1)) (nI i) ch h3 g3 := by
                intro o2
                unfold j_X11_reads_338
                refine ⟨fun q => ?_, fun q => ?_⟩
                · have c33 : ch = 33 := o2.resolve_left q
                  exact s351 2 33 (by decide) (by rw [bu, if_pos (.inr (.inr (.inr (.inl c33))))]) (by rw [nu, if_pos c33])
                · have c33 : ¬ ch = 33 := fun e => absurd (e.symm.trans q) (by decide)
                  exact s351 3 126 (by decide) (by rw [bu, if_pos (.inr (.inr (.inr (.inr q))))]) (by rw [nu, if_neg c33, if_pos q])
              refine ⟨fun q => s338 (.inl q), fun q45 => ⟨fun q33 => ?_, fun q => s338 (.inr q)⟩⟩
              exact bad 1 _ h3 hiN J (by rw [bu, if_neg (fun q => q.elim n1 (fun q => q.elim n2 (fun q => q.elim n3 (fun q => q.elim q33 q45))))]) (.inl rfl) rfl
            · rw [if_pos c40] at bu nu
              refine ⟨fun c8 => ?_, fun c8 => ?_⟩
              · have n8 : nn < 8 := by
                  have : nn ≠ 8 := fun q => c8 (by rw [q]; rfl)
                  omega
                rintro _ rfl
                refine c_v (p_X11_waitsWith S.2.2.2.1 (by omega)) ?_
                rintro h5 g5 ⟨rfl, J5, t6, t3, t141, t139, t140⟩
                rintro _ rfl
                unfold j_X11_reads_368
                rw [nI_1, nI_1]
                obtain ⟨s1, s2⟩ := step _ (by rw [bu, if_pos n8]) nu
                exact go (i + 1) (nn + 1) 0 1 o (40 :: w) h5 g3 (by omega) (by omega) s1 s2 (J.tr J5) (RTl.o.mpr (S.wait t6 t3 t141 t139 t140)) (fun q => absurd q (Nat.lt_irrefl 0))
              · have n8 : nn = 8 := (nI_eq (b := 8) (by omega) (by omega)).mp c8
                exact bad 3 _ h3 hiN J (by rw [bu, if_neg (by omega)]) (.inr rfl) rfl
          · obtain ⟨cu, w1, w2⟩ := nof_y cn
            have k40 : ¬ ch = 40 := fun e => by rw [e] at cu; exact absurd cu (by decide)
            have k33 : ¬ ch = 33 := fun e => by rw [e] at cu; exact absurd cu (by decide)
            have k45 : ¬ ch = 45 := fun e => by rw [e] at cu; exact absurd cu (by decide)
            refine c_i p_X11_nameOf ?_
            rintro _ _ _ ⟨rfl, rfl, rfl⟩
            refine c_v (p_X11_emits S.1 (by omega)) ?_
            rintro h5 g5 ⟨rfl, J5, t3, t6, t139, t140, t141⟩
            have S5 := S.emit (t := -ch) t3 t6 (by rw [w1]; exact t139) (by rw [w2]; exact t140) t141
            refine c_v (q_X11_settles (r := 6) S5 a8 (by rw [List.length_cons]; omega) (by omega)) ?_
            rintro h6 g6 ⟨J6, S6⟩
            rintro _ rfl
            unfold j_X11_reads_368
            rw [nI_1]
            obtain ⟨s1, s2⟩ := step _ (by rw [bu, if_neg k40, if_pos (cu.elim .inl (fun q => .inr (q.elim .inl (fun q => .inr (.inl q)))))]) (by rw [nu, if_neg k40, if_neg k33, if_neg k45])
            exact go (i + 1) nn 0 0 (-ch :: o) w h6 g6 (by omega) (by omega) s1 s2 ((J.tr J5).tr J6) (RTl.z.mpr S6) (fun q => absurd q (Nat.lt_irrefl 0))
      · have u0 : u = 0 := by
          rw [nI_z (by omega)] at c0; omega
        subst u0
        have S := RTl.z.mp R
        have d0 : dgt ch → d = 0 := fun q => by
          by_cases k : 0 < d
          · exact absurd q (nd k hiN)
          · omega
        have s125 : ∀ (h4 : HI) (g4 : HL), KJ SRd h h4 → badL ch (o, w, nn, d, 0) = 1 → j_X11_reads_125 (fun r h' _ => QRl h f N r h') (nI i) h4 g4 := by
          intro h4 g4 J4 b1
          unfold j_X11_reads_125
          exact bad 1 _ h4 hiN J4 b1 (.inl rfl) rfl
        have bf : ¬ dgt ch → badL ch (o, w, nn, d, 0) = (if ch = 41 then (if nn = 0 then 1 else 0) else if rk ch < 1 ∨ 6 ≤ rk ch then 1 else if rk ch = 3 ∧ tp (stl (rr ch) w o).1 = 3 then 1 else 0) := fun cd => bad_f cd c32
        have nf : ¬ dgt ch → nxL ch (o, w, nn, d, 0) = (if ch = 41 then ((stl 1 w o).2, (stl 1 w o).1.tail, nn - 1, 0, 0) else ((stl (rr ch) w o).2, ch :: (stl (rr ch) w o).1, nn, 0, 1)) := fun cd => nx_f cd c32
        have s99 : (ch = 41 → nn = 0) → j_X11_reads_99 (fun r h' _ => QRl h f N r h') (fun x1 x2 x3 x4 h g => K (x1, x2, x3, x4, h, g)) (nI N) (nI nn) (nI i) ch h3 g3 := by
          intro k41
          unfold j_X11_reads_99
          refine c_i p_X11_signOf ?_
          rintro _ _ _ ⟨rfl, rfl, rfl⟩
          refine ⟨fun cs => s125 _ _ J ?_, fun cs => ?_⟩
          · by_cases cd : dgt ch
            · rw [bad_dg cd, if_pos ⟨d0 cd, rfl⟩]
            · rw [bf cd]
              by_cases q : ch = 41
              · rw [if_pos q, if_pos (k41 q)]
              · rw [if_neg q, if_pos (sof_n cs)]
          obtain ⟨es, r1, r6⟩ := sof_y cs
          have cd : ¬ dgt ch := fun q => by
            obtain ⟨v, hv, -, ev⟩ := dg_nI q
            have : v = 0 ∨ v = 1 ∨ v = 2 ∨ v = 3 ∨ v = 4 ∨ v = 5 ∨ v = 6 ∨ v = 7 ∨ v = 8 ∨ v = 9 := by omega
            rw [ev] at r1
            rcases this with rfl | rfl | rfl | rfl | rfl | rfl | rfl | rfl | rfl | rfl <;> exact absurd r1 (by decide)
          have q41 : ¬ ch = 41 := fun q => by rw [q] at r1; exact absurd r1 (by decide)
          have b := bf cd
          rw [if_neg q41, if_neg (fun q => q.elim (fun q => by omega) (fun q => by omega))] at b
          have n := nf cd
          rw [if_neg q41] at n
          refine c_i p_X11_signOf ?_
          rintro _ _ _ ⟨rfl, rfl, rfl⟩
          rw [es]
          refine c_z (q_X11_goesOn S a8 (by omega) ⟨r1, r6⟩) ?_
          rintro r4 h5 g5 ⟨J5, o5⟩
          rcases o5 with ⟨rfl, k3, t3⟩ | ⟨rfl, n3, S5⟩
          · exact ⟨fun _ => s125 _ _ (J.tr J5) (by rw [b, if_pos ⟨k3, t3⟩]), fun q => absurd rfl q⟩
          · refine ⟨fun q => absurd q (by decide), fun _ => ?_⟩
            unfold j_X11_reads_133
            rintro _ rfl
            unfold j_X11_reads_368
            rw [nI_1]
            obtain ⟨s1, s2⟩ := step _ (by rw [b, if_neg n3]) n
            exact go (i + 1) nn 0 1 _ _ h5 g5 (by omega) (by omega) s1 s2 (J.tr J5) (RTl.o.mpr S5) (fun q => absurd q (Nat.lt_irrefl 0))
        refine ⟨fun q => s99 (fun k => absurd k q), fun q41 => ⟨fun q => s99 (fun _ => ?_), fun q => ?_⟩⟩
        · rw [show (0 : Int32) = nI 0 from rfl, nI_leI (by omega) (by omega)] at q; omega
        have cd : ¬ dgt ch := dgt_of (.inr (.inr (.inl q41)))
        have n0 : ¬ nn = 0 := fun k => q (by rw [k]; decide)
        have b := bf cd
        rw [if_pos q41, if_neg n0] at b
        have n := nf cd
        rw [if_pos q41] at n
        have l6 := stl_len (r := 6) (w := w) (o := o)
        have l1 := stl_len (r := 1) (w := w) (o := o)
        have k1 := stl_c40 (r := 1) (Nat.le_refl _) (w := w) (o := o)
        have v1 := stl_w (r := 1) (w := w) (o := o)
        refine c_v (q_X11_settles (r := 1) S (fun x hx => a8 x (stl_w x hx)) (by omega) (by omega)) ?_
        rintro h5 g5 ⟨J5, S5⟩
        rw [stl_6 (by omega)] at S5
        generalize stl 1 w o = s at l1 k1 v1 n S5
        obtain ⟨w', o'⟩ := s
        cases w' with
        | nil =>
          have k1 : (0 : Nat) = c40 w := k1
          omega
        | cons y ys =>
          obtain ⟨t3, t9, t0, t6, t1⟩ := S5
          have t6 : h5 135 6 = nI (ys.length + 1) := t6
          have l1 : ys.length + 1 + o'.length = w.length + o.length := l1
          intro h6 e6
          rw [t6, nI_pred] at e6
          have S6 : RTK h6 o' ys := ⟨by rw [e6, hu_eq, pk_un (by decide)]; exact t3, by rw [e6, hu_ne (by decide)]; exact t9, by rw [e6, hu_ne (by decide)]; exact t0, by rw [e6, hu_eq, pk_us], by rw [e6, hu_ne (by decide)]; exact t1.hm.2⟩
          rintro _ rfl
          refine c_v (q_X11_settles (r := 6) S6 (fun x hx => a8 x (v1 x (List.mem_cons_of_mem _ hx))) (by omega) (by omega)) ?_
          rintro h7 g7 ⟨J7, S7⟩
          unfold j_X11_reads_133
          rintro _ rfl
          unfold j_X11_reads_368
          obtain ⟨p, rfl⟩ : ∃ p, nn = p + 1 := ⟨nn - 1, by omega⟩
          rw [nI_1, pk_m1]
          obtain ⟨s1, s2⟩ := step _ b n
          exact go (i + 1) p 0 0 o' ys h7 g7 (by omega) (by omega) s1 s2 (((J.tr J5).hu e6 (by unfold SRd; omega)).tr J7) (RTl.z.mpr S7) (fun q => absurd q (Nat.lt_irrefl 0))
    · rintro _ rfl
      unfold j_X11_reads_368
      rw [nI_1]
      have cd : ¬ dgt ch := dgt_of (.inr (.inr (.inr (.inr (.inl c32)))))
      obtain ⟨s1, s2⟩ := step _ (bad_sp cd c32) (nx_sp cd c32)
      exact go (i + 1) nn 0 u o w h3 g3 (by omega) (by omega) s1 s2 J R (fun q => absurd q (Nat.lt_irrefl 0))
end
section
-- 66.tells
/-! WHAT THE LAW TELLS -/
/-- two numbers joined, by the sign -/
def jn (c : Int32) (a b : Int64) : Int64 :=
  if c = 38 then (if lg_cmp a 0 = 0 then 0 else if lg_cmp b 0 = 0 then 0 else 1)
  else if c = 42 then a * b
  else if c = 43 then a + b
  else if c = 45 then a - b
  else if c = 47 then (if ¬ lg_cmp b 0 = 0 then a / b else 0)
  else if c = 60 then (if 0 ≤ lg_cmp a b then 0 else 1)
  else if c = 61 then (if ¬ lg_cmp a b = 0 then 0 else 1)
  else if c = 62 then (if lg_cmp a b ≤ 0 then 0 else 1)
  else if c = 124 then (if ¬ lg_cmp a 0 = 0 then 1 else if lg_cmp b 0 = 0 then 0 else 1)
  else 0
def u1L (t : Int32) (a : Int64) : Int64 := if t = -126 then -a else if ¬ lg_cmp a 0 = 0 then 0 else 1
def psL (y l hh : Int64) (t : Int32) : Int64 := if ¬ t < 0 then t.toInt64 else if t = -121 then y else if t = -108 then l else hh
def apT (y l hh : Int64) (t : Int32) (s : List Int64) : List Int64 :=
  if kdT t = 1 then psL y l hh t :: s
  else if kdT t = 2 then u1L t (s.headD 0) :: s.tail
  else jn (-t) (s.tail.headD 0) (s.headD 0) :: s.tail.tail
def evL (y l hh : Int64) : List Int32 → List Int64
  | [] => []
  | t :: ts => apT y l hh t (evL y l hh ts)
theorem gdl_len {y l hh : Int64} : ∀ {p : List Int32} {d : Nat}, gdl p d → (evL y l hh p).length = d
  | [], d, h => h.symm
  | t :: ts, d, h => by
    have h1 := h.1
    have e := gdl_len (y := y) (l := l) (hh := hh) h.2
    show (apT y l hh t (evL y l hh ts)).length = d
    unfold apT
    by_cases k1 : kdT t = 1
    · rw [if_pos k1] at e ⊢
      rw [List.length_cons]; omega
    · rw [if_neg k1] at e ⊢
      by_cases k2 : kdT t = 2
      · rw [if_pos k2] at e ⊢
        rw [List.length_cons, List.length_tail]; omega
      · rw [if_neg k2] at e ⊢
        rw [List.length_cons, List.length_tail, List.length_tail]; omega
theorem gdl_suf : ∀ {a b : List Int32} {d : Nat}, gdl (a ++ b) d → ∃ d', gdl b d'
  | [], b, d, h => ⟨d, h⟩
  | x :: xs, b, d, h => gdl_suf (a := xs) h.2
theorem gdl_pos : ∀ {p : List Int32} {d : Nat}, gdl p d → d ≤ p.length
  | [], d, h => Nat.le_of_eq h
  | t :: ts, d, h => by
    have e := gdl_pos h.2
    rw [List.length_cons]
    by_cases k1 : kdT t = 1
    · rw [if_pos k1] at e; omega
    · rw [if_neg k1] at e
      by_cases k2 : kdT t = 2
      · rw [if_pos k2] at e; omega
      · rw [if_neg k2] at e; omega
theorem nil_or : ∀ (a : List Int32), a = [] ∨ ∃ a' t, a = a' ++ [t]
  | [] => .inl rfl
  | x :: xs => by
    rcases nil_or xs with rfl | ⟨a', t, rfl⟩
    · exact .inr ⟨[], x, rfl⟩
    · exact .inr ⟨x :: a', t, rfl⟩
theorem SK.mid {f : Nat → Int32} : ∀ {a b : List Int32} {x : Int32}, SK f (a ++ x :: b) → f b.length = x
  | [], b, x, h => h.1
  | y :: ys, b, x, h => SK.mid (a := ys) h.2
def SKL (f : Nat → Int64) : List Int64 → Prop
  | [] => True
  | x :: xs => f xs.length = x ∧ SKL f xs
theorem SKL.cg {f f' : Nat → Int64} : ∀ {l : List Int64}, (∀ k, k < l.length → f' k = f k) → SKL f l → SKL f' l
  | [], _, _ => trivial
  | x :: xs, e, h => by
    rw [List.length_cons] at e
    exact ⟨(e _ (by omega)).trans h.1, SKL.cg (fun k hk => e k (by omega)) h.2⟩
theorem SKL.push {f : Nat → Int64} {l : List Int64} {x : Int64} (h : SKL f l) : SKL (vp_updL f l.length x) (x :: l) := ⟨pk_uLs, h.cg (fun k hk => pk_uLn (by omega))⟩
theorem q_X4_joined {h : HI} {g : HL} {c : Int32} {a b : Int64} : w_X4_joined c a b h g (fun r h' g' => r = jn c a b ∧ h = h' ∧ g = g') := by
  have j : jn c a b = 1 → j_X4_joined_96 (fun r h' g' => r = jn c a b ∧ h = h' ∧ g = g') h g := fun e => by
    unfold j_X4_joined_96; exact ⟨e.symm, rfl, rfl⟩
  unfold w_X4_joined
  refine ⟨fun k => ?_, fun k => ?_, fun k => ?_, fun k => ?_, fun k => ?_, fun k => ?_, fun k => ?_, fun k => ?_, fun k => ?_, fun c1 c2 c3 c4 c5 c6 c7 c8 c9 => ?_⟩
  · subst k
    refine ⟨fun q => ⟨?_, rfl, rfl⟩, fun q => ⟨fun q2 => ⟨?_, rfl, rfl⟩, fun q2 => ⟨?_, rfl, rfl⟩⟩⟩
    · exact ((if_pos rfl).trans (if_pos q)).symm
    · exact ((if_pos rfl).trans ((if_neg q).trans (if_pos q2))).symm
    · exact ((if_pos rfl).trans ((if_neg q).trans (if_neg q2))).symm
  · subst k; exact ⟨rfl, rfl, rfl⟩
  · subst k; exact ⟨rfl, rfl, rfl⟩
  · subst k; exact ⟨rfl, rfl, rfl⟩
  · subst k
    have e : jn 47 a b = (if ¬ lg_cmp b 0 = 0 then a / b else 0) := rfl
    rw [e]
    exact ⟨fun q => ⟨lgne q, (if_pos q).symm, rfl, rfl⟩, fun q => ⟨(if_neg (fun k => k q)).symm, rfl, rfl⟩⟩
  · subst k
    have e : jn 60 a b = (if 0 ≤ lg_cmp a b then 0 else 1) := rfl
    rw [e]
    exact ⟨fun q => ⟨(if_pos q).symm, rfl, rfl⟩, fun q => ⟨(if_neg q).symm, rfl, rfl⟩⟩
  · subst k
    have e : jn 61 a b = (if ¬ lg_cmp a b = 0 then 0 else 1) := rfl
    rw [e]
    exact ⟨fun q => ⟨(if_pos q).symm, rfl, rfl⟩, fun q => ⟨(if_neg (fun k => k q)).symm, rfl, rfl⟩⟩
  · subst k
    have e : jn 62 a b = (if lg_cmp a b ≤ 0 then 0 else 1) := rfl
    rw [e]
    exact ⟨fun q => ⟨(if_pos q).symm, rfl, rfl⟩, fun q => ⟨(if_neg q).symm, rfl, rfl⟩⟩
  · subst k
    have e : jn 124 a b = (if ¬ lg_cmp a 0 = 0 then 1 else if lg_cmp b 0 = 0 then 0 else 1) := rfl
    rw [e] at j ⊢
    refine ⟨fun q => j (if_pos q), fun q => ⟨fun q2 => ⟨?_, rfl, rfl⟩, fun q2 => j ?_⟩⟩
    · exact ((if_neg (fun k => k q)).trans (if_pos q2)).symm
    · exact (if_neg (fun k => k q)).trans (if_neg q2)
  · have e : jn c a b = 0 := by
      unfold jn
      rw [if_neg c1, if_neg c2, if_neg c3, if_neg c4, if_neg c5, if_neg c6, if_neg c7, if_neg c8, if_neg c9]
    exact ⟨e.symm, rfl, rfl⟩
theorem q_X11_twoOf {h : HI} {g : HL} {c : Int32} {a b : Int64} (hc : c ∈ wcL) (h1 : 1 ≤ rk c ∧ rk c < 6) : w_X11_twoOf (opc c) a b h g (fun r h' g' => r = jn c a b ∧ h = h' ∧ g = g') := by
  have cs : c = 42 ∨ c = 47 ∨ c = 43 ∨ c = 45 ∨ c = 60 ∨ c = 61 ∨ c = 62 ∨ c = 38 ∨ c = 124 := (by decide : ∀ c ∈ wcL, 1 ≤ rk c → rk c < 6 → c = 42 ∨ c = 47 ∨ c = 43 ∨ c = 45 ∨ c = 60 ∨ c = 61 ∨ c = 62 ∨ c = 38 ∨ c = 124) c hc h1.1 h1.2
  have j : jn c a b = 1 → j_X11_twoOf_140 (fun r h' g' => r = jn c a b ∧ h = h' ∧ g = g') h g := fun e => by
    unfold j_X11_twoOf_140; exact ⟨e.symm, rfl, rfl⟩
  unfold w_X11_twoOf
  refine ⟨fun k => ?_, fun k => ?_, fun k => ?_, fun k => ?_, fun k => ?_, fun k => ?_, fun k => ?_, fun k => ?_, fun c1 c2 c3 c4 c5 c6 c7 c8 => ?_⟩
  · have ec : c = 42 := by rcases cs with rfl | rfl | rfl | rfl | rfl | rfl | rfl | rfl | rfl <;> first | rfl | exact absurd k (by decide)
    subst ec; exact ⟨rfl, rfl, rfl⟩
  · have ec : c = 47 := by rcases cs with rfl | rfl | rfl | rfl | rfl | rfl | rfl | rfl | rfl <;> first | rfl | exact absurd k (by decide)
    subst ec
    have e : jn 47 a b = (if ¬ lg_cmp b 0 = 0 then a / b else 0) := rfl
    rw [e]
    exact ⟨fun q => ⟨lgne q, (if_pos q).symm, rfl, rfl⟩, fun q => ⟨(if_neg (fun k => k q)).symm, rfl, rfl⟩⟩
  · have ec : c = 43 := by rcases cs with rfl | rfl | rfl | rfl | rfl | rfl | rfl | rfl | rfl <;> first | rfl | exact absurd k (by decide)
    subst ec; exact ⟨rfl, rfl, rfl⟩
  · have ec : c = 45 := by rcases cs with rfl | rfl | rfl | rfl | rfl | rfl | rfl | rfl | rfl <;> first | rfl | exact absurd k (by decide)
    subst ec; exact ⟨rfl, rfl, rfl⟩
  · have ec : c = 60 := by rcases cs with rfl | rfl | rfl | rfl | rfl | rfl | rfl | rfl | rfl <;> first | rfl | exact absurd k (by decide)
    subst ec
    have e : jn 60 a b = (if 0 ≤ lg_cmp a b then 0 else 1) := rfl
    rw [e]
    exact ⟨fun q => ⟨(if_pos q).symm, rfl, rfl⟩, fun q => ⟨(if_neg q).symm, rfl, rfl⟩⟩
  · have ec : c = 62 := by rcases cs with rfl | rfl | rfl | rfl | rfl | rfl | rfl | rfl | rfl <;> first | rfl | exact absurd k (by decide)
    subst ec
    have e : jn 62 a b = (if lg_cmp a b ≤ 0 then 0 else 1) := rfl
    rw [e]
    exact ⟨fun q => ⟨(if_pos q).symm, rfl, rfl⟩, fun q => ⟨(if_neg q).symm, rfl, rfl⟩⟩
  · have ec : c = 61 := by rcases cs with rfl | rfl | rfl | rfl | rfl | rfl | rfl | rfl | rfl <;> first | rfl | exact absurd k (by decide)
    subst ec
    have e : jn 61 a b = (if ¬ lg_cmp a b = 0 then 0 else 1) := rfl
    rw [e]
    exact ⟨fun q => ⟨(if_pos q).symm, rfl, rfl⟩, fun q => ⟨(if_neg (fun k => k q)).symm, rfl, rfl⟩⟩
  · have ec : c = 38 := by rcases cs with rfl | rfl | rfl | rfl | rfl | rfl | rfl | rfl | rfl <;> first | rfl | exact absurd k (by decide)
    subst ec
    have e : jn 38 a b = (if lg_cmp a 0 = 0 then 0 else if lg_cmp b 0 = 0 then 0 else 1) := rfl
    rw [e]
    refine ⟨fun q => ⟨(if_pos q).symm, rfl, rfl⟩, fun q => ⟨fun q2 => ⟨?_, rfl, rfl⟩, fun q2 => ⟨?_, rfl, rfl⟩⟩⟩
    · exact ((if_neg q).trans (if_pos q2)).symm
    · exact ((if_neg q).trans (if_neg q2)).symm
  · have ec : c = 124 := by
      rcases cs with rfl | rfl | rfl | rfl | rfl | rfl | rfl | rfl | rfl
      · exact absurd (by decide) c1
      · exact absurd (by decide) c2
      · exact absurd (by decide) c3
      · exact absurd (by decide) c4
      · exact absurd (by decide) c5
      · exact absurd (by decide) c7
      · exact absurd (by decide) c6
      · exact absurd (by decide) c8
      · rfl
    subst ec
    have e : jn 124 a b = (if ¬ lg_cmp a 0 = 0 then 1 else if lg_cmp b 0 = 0 then 0 else 1) := rfl
    rw [e] at j ⊢
    refine ⟨fun q => j (if_pos q), fun q => ⟨fun q2 => ⟨?_, rfl, rfl⟩, fun q2 => j ?_⟩⟩
    · exact ((if_neg (fun k => k q)).trans (if_pos q2)).symm
    · exact (if_neg (fun k => k q)).trans (if_neg q2)
/-- a step t of a program p, after the steps b -/
theorem gd_at {p a b : List Int32} {t : Int32} {d : Nat} (h : gdl p d) (e : p = a ++ t :: b) : ∃ d', 1 ≤ d' ∧ gdl b (if kdT t = 1 then d' - 1 else if kdT t = 2 then d' else d' + 1) := by
  subst e
  obtain ⟨d', h'⟩ := gdl_suf h
  exact ⟨d', h'.1, h'.2⟩
theorem q_X4_tells {h : HI} {g : HL} {p : List Int32} (e4 : h 77 4 = nI p.length) (S : SK (h 78) p) (hl : p.length ≤ 60) (G : gdl p 1) {y l hh : Int32} : w_X4_tells y l hh h g (fun r h' _ => h = h' ∧ evL y.toInt64 l.toInt64 hh.toInt64 p = [r]) := by
  unfold w_X4_tells
  refine lpE_intro (fun ⟨a_q, b_q, c_q, d_q, e_q, h_q, g_q⟩ => ∃ a b : List Int32, p = a ++ b ∧ y = a_q ∧ l = b_q ∧ hh = c_q ∧ nI (evL y.toInt64 l.toInt64 hh.toInt64 b).length = d_q ∧ nI b.length = e_q ∧ h = h_q ∧ SKL (g_q 80) (evL y.toInt64 l.toInt64 hh.toInt64 b)) (fun ⟨_, _, _, _, e_q, _, _⟩ => dif (nI p.length) e_q) ?_ _ ⟨p, [], (List.append_nil p).symm, rfl, rfl, rfl, nI_0, nI_0, rfl, trivial⟩
  rintro ⟨y1, y2, y3, y4, y5, h1, g1⟩ K ⟨a, b, ep, rfl, rfl, rfl, rfl, rfl, rfl, SL⟩ hK
  unfold F_X4_tells_6; dsimp only; unfold b_X4_tells_6
  rw [e4]
  have lp : p.length = a.length + b.length := by rw [ep, List.length_append]
  have fin : a = [] → j_X4_tells_243 (fun r h' _ => h = h' ∧ evL y.toInt64 l.toInt64 hh.toInt64 p = [r]) (nI (evL y.toInt64 l.toInt64 hh.toInt64 b).length) h g1 := by
    intro ea
    subst ea
    have ep : p = b := ep
    subst ep
    have l1 := gdl_len (y := y.toInt64) (l := l.toInt64) (hh := hh.toInt64) G
    generalize evL y.toInt64 l.toInt64 hh.toInt64 p = s at l1 SL ⊢
    match s, l1, SL with
    | [v], _, SL =>
      unfold j_X4_tells_243
      have e1 : nI ([v] : List Int64).length - (1 : Int32) = nI 0 := nI_pred 0
      refine ⟨fun c => absurd (show nI 1 ≤ 0 from c) (by decide), fun _ => ?_⟩
      rw [e1, nI_clamp (by decide)]
      refine ⟨vp_in_nI (by decide) (by decide), rfl, ?_⟩
      rw [show g1 80 0 = v from SL.1]
  refine ⟨fun c => fin ?_, fun c => ⟨fun c2 => ?_, fun c2 => ?_⟩⟩
  · rw [nI_leI (by omega) (by omega)] at c
    exact List.eq_nil_of_length_eq_zero (by omega)
  · rw [nI_leI (by omega) (by omega)] at c
    rw [show (60 : Int32) = nI 60 from rfl, nI_leI (by omega) (by omega)] at c2; omega
  have hd := dif_lt c
  rw [nI_leI (by omega) (by omega)] at c
  rcases nil_or a with rfl | ⟨a', t, rfl⟩
  · rw [List.length_nil] at lp; omega
  have ep : p = a' ++ t :: b := by rw [ep, List.append_assoc]; rfl
  have hb : b.length < 60 := by omega
  refine and_have (vp_in_nI hb (by omega)) (fun _ => ?_)
  rw [nI_clamp (n := b.length) (by omega), show h 78 b.length = t by rw [ep] at S; exact S.mid]
  intro x6 ex
  replace ex := ex.symm
  subst ex
  obtain ⟨d', d1, gb⟩ := gd_at G ep
  have lb := gdl_len (y := y.toInt64) (l := l.toInt64) (hh := hh.toInt64) gb
  have pb := gdl_pos gb
  have ev1 : evL y.toInt64 l.toInt64 hh.toInt64 (t :: b) = apT y.toInt64 l.toInt64 hh.toInt64 t (evL y.toInt64 l.toInt64 hh.toInt64 b) := rfl
  generalize eb : evL y.toInt64 l.toInt64 hh.toInt64 b = s at SL lb ev1 fin ⊢
  have j237 : ∀ (s' : List Int64) (g2 : HL), evL y.toInt64 l.toInt64 hh.toInt64 (t :: b) = s' → SKL (g2 80) s' → j_X4_tells_237 (fun r h' _ => h = h' ∧ evL y.toInt64 l.toInt64 hh.toInt64 p = [r]) (fun x1 x2 x3 x4 x5 h g => K (x1, x2, x3, x4, x5, h, g)) y l hh (nI s'.length) (nI b.length) h g2 := by
    intro s' g2 es S2
    unfold j_X4_tells_237
    rintro _ rfl
    subst es
    exact hK _ ⟨a', t :: b, ep, rfl, rfl, rfl, rfl, (nI_1 b.length).symm, rfl, S2⟩ hd
  have push : kdT t = 1 → j_X4_tells_60 (fun r h' _ => h = h' ∧ evL y.toInt64 l.toInt64 hh.toInt64 p = [r]) (fun x1 x2 x3 x4 x5 h g => K (x1, x2, x3, x4, x5, h, g)) y l hh (nI s.length) (nI b.length) t h g1 := by
    intro k1
    rw [if_pos k1] at lb pb
    have ea : apT y.toInt64 l.toInt64 hh.toInt64 t s = psL y.toInt64 l.toInt64 hh.toInt64 t :: s := if_pos k1
    have j115 : ∀ v : Int64, psL y.toInt64 l.toInt64 hh.toInt64 t = v → j_X4_tells_115 (fun r h' _ => h = h' ∧ evL y.toInt64 l.toInt64 hh.toInt64 p = [r]) (fun x1 x2 x3 x4 x5 h g => K (x1, x2, x3, x4, x5, h, g)) y l hh (nI s.length) (nI b.length) (nI s.length) v h g1 := by
      rintro _ rfl
      unfold j_X4_tells_115
      refine and_have (vp_in_nI (by omega) (by omega)) (fun _ => ?_)
      intro g2 e2
      rw [nI_clamp (by omega)] at e2
      rintro _ rfl
      rw [nI_1]
      refine j237 (psL y.toInt64 l.toInt64 hh.toInt64 t :: s) g2 (ev1.trans ea) ?_
      rw [e2, hul_eq]; exact SL.push
    unfold j_X4_tells_60
    refine ⟨fun _ => ⟨fun n0 => ⟨fun n1 => ⟨fun n2 => j115 _ ?_, fun n2 => j115 _ ?_⟩, fun n1 => j115 _ ?_⟩, fun n0 => j115 _ ?_⟩, fun q => ?_⟩
    · exact (if_neg (fun k => k n0)).trans ((if_neg n1).trans (if_neg n2))
    · exact (if_neg (fun k => k n0)).trans ((if_neg n1).trans (if_pos n2))
    · exact (if_neg (fun k => k n0)).trans (if_pos n1)
    · exact if_pos n0
    · exact absurd ((nI_ltI (b := 60) (by omega) (by omega)).mpr (by omega)) q
  have un : kdT t = 2 → j_X4_tells_136 (fun r h' _ => h = h' ∧ evL y.toInt64 l.toInt64 hh.toInt64 p = [r]) (fun x1 x2 x3 x4 x5 h g => K (x1, x2, x3, x4, x5, h, g)) y l hh (nI s.length) (nI b.length) t h g1 := by
    intro k2
    rw [if_neg (by omega), if_pos k2] at lb pb
    have ea : apT y.toInt64 l.toInt64 hh.toInt64 t s = u1L t (s.headD 0) :: s.tail := (if_neg (by omega)).trans (if_pos k2)
    cases s with
    | nil => rw [List.length_nil] at lb; omega
    | cons x xs =>
      have ea : apT y.toInt64 l.toInt64 hh.toInt64 t (x :: xs) = u1L t x :: xs := ea
      rw [List.length_cons] at lb ⊢
      have v : vp_in (nI xs.length) 60 := vp_in_nI (by omega) (by omega)
      have j191 : ∀ w : Int64, u1L t x = w → j_X4_tells_191 (fun r h' _ => h = h' ∧ evL y.toInt64 l.toInt64 hh.toInt64 p = [r]) (fun x1 x2 x3 x4 x5 h g => K (x1, x2, x3, x4, x5, h, g)) y l hh (nI (xs.length + 1)) (nI b.length) (nI xs.length) w h g1 := by
        rintro _ rfl
        unfold j_X4_tells_191
        refine and_have v (fun _ => ?_)
        intro g2 e2
        rw [nI_clamp (by omega)] at e2
        refine j237 (u1L t x :: xs) g2 (ev1.trans ea) ?_
        rw [e2, hul_eq]; exact SKL.push SL.2
      unfold j_X4_tells_136
      rw [nI_pred, nI_clamp (n := xs.length) (by omega), SL.1]
      refine ⟨fun _ => ⟨fun n6 => and_have v (fun _ => ⟨fun q => j191 _ ?_, fun q => j191 _ ?_⟩), fun n6 => and_have v (fun _ => j191 _ ?_)⟩, fun q => ?_⟩
      · exact (if_neg n6).trans (if_pos q)
      · exact (if_neg n6).trans (if_neg (fun k => k q))
      · exact if_pos n6
      · exact absurd ((nI_leI (a := 1) (by omega) (by omega)).mpr (by omega)) q
  refine ⟨fun q => push (if_pos (.inl (Int32.not_lt.mpr q))), fun q => ⟨fun q1 => push (if_pos (.inr (.inl q1))), fun q1 => ⟨fun q2 => push (if_pos (.inr (.inr (.inl q2)))), fun q2 => ⟨fun q3 => ?_, fun q3 => push (if_pos (.inr (.inr (.inr q3))))⟩⟩⟩⟩
  have nk1 : ¬ (¬ t < 0 ∨ t = -121 ∨ t = -108 ∨ t = -104) := fun k => k.elim (fun k => q (Int32.not_lt.mp k)) (fun k => k.elim q1 (fun k => k.elim q2 q3))
  refine ⟨fun q4 => un ((if_neg nk1).trans (if_pos (.inl q4))), fun q4 => ⟨fun q5 => ?_, fun q5 => un ((if_neg nk1).trans (if_pos (.inr q5)))⟩⟩
  have k3 : kdT t = 3 := (if_neg nk1).trans (if_neg (fun k => k.elim q4 q5))
  rw [if_neg (by omega), if_neg (by omega)] at lb pb
  have ea : apT y.toInt64 l.toInt64 hh.toInt64 t s = jn (-t) (s.tail.headD 0) (s.headD 0) :: s.tail.tail := (if_neg (by omega)).trans (if_neg (by omega))
  cases s with
  | nil => rw [List.length_nil] at lb; omega
  | cons x xs =>
    cases xs with
    | nil =>
      rw [List.length_cons, List.length_nil] at lb; omega
    | cons x2 xs =>
      have ea : apT y.toInt64 l.toInt64 hh.toInt64 t (x :: x2 :: xs) = jn (-t) x2 x :: xs := ea
      rw [List.length_cons, List.length_cons] at lb ⊢
      refine ⟨fun _ => ?_, fun k => absurd ((nI_leI (a := 2) (by omega) (by omega)).mpr (by omega)) k⟩
      rw [pk_m1]
      rintro _ rfl
      have sx : g1 80 (xs.length + 1) = x := SL.1
      have sx2 : g1 80 xs.length = x2 := SL.2.1
      rw [nI_pred, nI_clamp (n := xs.length) (by omega), nI_clamp (n := xs.length + 1) (by omega), sx, sx2]
      have v : vp_in (nI xs.length) 60 := vp_in_nI (by omega) (by omega)
      refine and_have v (fun _ => and_have (vp_in_nI (by omega) (by omega)) (fun _ => ?_))
      refine c_l q_X4_joined ?_
      rintro _ _ _ ⟨rfl, rfl, rfl⟩
      refine and_have v (fun _ => ?_)
      intro g2 e2
      refine j237 (jn (-t) x2 x :: xs) g2 (ev1.trans ea) ?_
      rw [e2, hul_eq]; exact SKL.push SL.2.2
end
section
-- 67.worn
theorem tc_kd {t : Int32} (h : okT t) : (kdT t = 1 ∧ ((tc1 t = 0 ∧ ¬ t < 0 ∧ tc2 t = t) ∨ (tc1 t = 1 ∧ t < 0 ∧ ((t = -121 ∧ tc2 t = 0) ∨ (t = -108 ∧ tc2 t = 1) ∨ (t = -104 ∧ tc2 t = 2))))) ∨ (kdT t = 2 ∧ ((t = -126 ∧ tc1 t = 3) ∨ (t = -33 ∧ tc1 t = 2))) ∨ (kdT t = 3 ∧ ∃ c, c ∈ wcL ∧ 1 ≤ rk c ∧ rk c < 6 ∧ t = -c ∧ tc1 t = opc c ∧ ¬ opc c = 0 ∧ ¬ opc c = 1 ∧ ¬ opc c = 2 ∧ ¬ opc c = 3) := by
  rcases h with ⟨v, hv, rfl⟩ | rfl | rfl | rfl | ⟨c, hc, h1, rfl⟩
  · obtain ⟨a, b⟩ := tc_n (v := v) (by omega)
    exact .inl ⟨kd_n (by omega), .inl ⟨a, nI_pos (by omega), b⟩⟩
  · exact .inl ⟨by decide, .inr ⟨by decide, by decide, .inl ⟨rfl, by decide⟩⟩⟩
  · exact .inl ⟨by decide, .inr ⟨by decide, by decide, .inr (.inl ⟨rfl, by decide⟩)⟩⟩
  · exact .inl ⟨by decide, .inr ⟨by decide, by decide, .inr (.inr ⟨rfl, by decide⟩)⟩⟩
  · have k : (c = 126 ∨ c = 33) ∨ (rk c < 6 ∧ kdT (-c) = 3 ∧ ¬ opc c = 0 ∧ ¬ opc c = 1 ∧ ¬ opc c = 2 ∧ ¬ opc c = 3) := (by decide : ∀ c ∈ wcL, 1 ≤ rk c → (c = 126 ∨ c = 33) ∨ (rk c < 6 ∧ kdT (-c) = 3 ∧ ¬ opc c = 0 ∧ ¬ opc c = 1 ∧ ¬ opc c = 2 ∧ ¬ opc c = 3)) c hc h1
    rcases k with (rfl | rfl) | ⟨a, b, d⟩
    · exact .inr (.inl ⟨by decide, .inl ⟨by decide, by decide⟩⟩)
    · exact .inr (.inl ⟨by decide, .inr ⟨by decide, by decide⟩⟩)
    · exact .inr (.inr ⟨b, c, hc, h1, a, rfl, (tc_w hc h1).1, d⟩)
theorem SK.mm {f : Nat → Int32} {k : Int32 → Int32} {a b : List Int32} {x : Int32} (h : SK f ((a ++ x :: b).map k)) : f b.length = k x := by
  rw [List.map_append, List.map_cons] at h
  have e := h.mid
  rw [List.length_map] at e
  exact e
theorem q_X11_tells {h : HI} {g : HL} (hR : RI (h 136)) {p : List Int32} (P : PRr h p) (hl : p.length ≤ 60) (G : gdl p 1) (OK : ∀ t, t ∈ p → okT t) {a0 : Nat} (ha0 : a0 < 24) {y l hh : Int32} (el : h 136 (20 + 5 * a0 + 0) = l) (eh : h 136 (20 + 5 * a0 + 1) = hh) : w_X11_tells (nI a0) y h g (fun r h' _ => h = h' ∧ evL y.toInt64 l.toInt64 hh.toInt64 p = [r]) := by
  obtain ⟨e3, S1, S2⟩ := P
  unfold w_X11_tells
  refine lpE_intro (fun ⟨a_q, b_q, c_q, d_q, h_q, g_q⟩ => ∃ a b : List Int32, p = a ++ b ∧ nI a0 = a_q ∧ y = b_q ∧ nI (evL y.toInt64 l.toInt64 hh.toInt64 b).length = c_q ∧ nI b.length = d_q ∧ h = h_q ∧ SKL (g_q 142) (evL y.toInt64 l.toInt64 hh.toInt64 b)) (fun ⟨_, _, _, d_q, _, _⟩ => dif (nI p.length) d_q) ?_ _ ⟨p, [], (List.append_nil p).symm, rfl, rfl, nI_0, nI_0, rfl, trivial⟩
  rintro ⟨y1, y2, y3, y4, h1, g1⟩ K ⟨a, b, ep, rfl, rfl, rfl, rfl, rfl, SL⟩ hK
  unfold F_X11_tells_5; dsimp only; unfold b_X11_tells_5
  rw [e3]
  have lp : p.length = a.length + b.length := by rw [ep, List.length_append]
  refine ⟨fun c => ?_, fun c => ?_⟩
  · rw [nI_leI (by omega) (by omega)] at c
    have ea : a = [] := List.eq_nil_of_length_eq_zero (by omega)
    subst ea
    have ep : p = b := ep
    subst ep
    have l1 := gdl_len (y := y.toInt64) (l := l.toInt64) (hh := hh.toInt64) G
    generalize evL y.toInt64 l.toInt64 hh.toInt64 p = s at l1 SL ⊢
    match s, l1, SL with
    | [v], _, SL =>
      rw [cl0]
      refine ⟨vp_in_iff.mpr (by decide), rfl, ?_⟩
      rw [show g1 142 0 = v from SL.1]
  have hd := dif_lt c
  rw [nI_leI (by omega) (by omega)] at c
  rcases nil_or a with rfl | ⟨a', t, rfl⟩
  · rw [List.length_nil] at lp; omega
  have ep : p = a' ++ t :: b := by rw [ep, List.append_assoc]; rfl
  have vb : vp_in (nI b.length) 70 := vp_in_nI (by omega) (by omega)
  have ht : okT t := OK t (by rw [ep]; exact List.mem_append_right _ (List.mem_cons_self ..))
  have k1 : h 139 b.length = tc1 t := by rw [ep] at S1; exact S1.mm
  have k2 : h 140 b.length = tc2 t := by rw [ep] at S2; exact S2.mm
  refine and_have vb (fun _ => ?_)
  rw [nI_clamp (n := b.length) (by omega), k1]
  rintro _ rfl
  obtain ⟨d', d1, gb⟩ := gd_at G ep
  have lb := gdl_len (y := y.toInt64) (l := l.toInt64) (hh := hh.toInt64) gb
  have pb := gdl_pos gb
  have ev1 : evL y.toInt64 l.toInt64 hh.toInt64 (t :: b) = apT y.toInt64 l.toInt64 hh.toInt64 t (evL y.toInt64 l.toInt64 hh.toInt64 b) := rfl
  generalize eb : evL y.toInt64 l.toInt64 hh.toInt64 b = s at SL lb ev1 ⊢
  have j196 : ∀ (s' : List Int64) (g2 : HL), evL y.toInt64 l.toInt64 hh.toInt64 (t :: b) = s' → SKL (g2 142) s' → j_X11_tells_196 (fun r h' _ => h = h' ∧ evL y.toInt64 l.toInt64 hh.toInt64 p = [r]) (fun x1 x2 x3 x4 h g => K (x1, x2, x3, x4, h, g)) (nI a0) y (nI s'.length) (nI b.length) h g2 := by
    intro s' g2 es T2
    unfold j_X11_tells_196
    rintro _ rfl
    subst es
    exact hK _ ⟨a', t :: b, ep, rfl, rfl, rfl, (nI_1 b.length).symm, rfl, T2⟩ hd
  have ix : ∀ k : Nat, k < 5 → (((20 : Int32) + ((5 : Int32) * nI a0)) + nI k).toNatClampNeg = 20 + 5 * a0 + k := fun k hk => by
    rw [show ((20 : Int32) + ((5 : Int32) * nI a0)) + nI k = nI (20 + 5 * a0 + k) from ix3 20 5 a0 k, nI_clamp (by omega)]
  have push : kdT t = 1 → ((tc1 t = 0 ∧ ¬ t < 0 ∧ tc2 t = t) ∨ (tc1 t = 1 ∧ t < 0 ∧ ((t = -121 ∧ tc2 t = 0) ∨ (t = -108 ∧ tc2 t = 1) ∨ (t = -104 ∧ tc2 t = 2)))) → j_X11_tells_34 (fun r h' _ => h = h' ∧ evL y.toInt64 l.toInt64 hh.toInt64 p = [r]) (fun x1 x2 x3 x4 h g => K (x1, x2, x3, x4, h, g)) (nI a0) y (nI s.length) (nI b.length) (tc1 t) h g1 := by
    intro q1 o
    rw [if_pos q1] at lb pb
    have ea : apT y.toInt64 l.toInt64 hh.toInt64 t s = psL y.toInt64 l.toInt64 hh.toInt64 t :: s := if_pos q1
    have j98 : ∀ v : Int64, psL y.toInt64 l.toInt64 hh.toInt64 t = v → j_X11_tells_98 (fun r h' _ => h = h' ∧ evL y.toInt64 l.toInt64 hh.toInt64 p = [r]) (fun x1 x2 x3 x4 h g => K (x1, x2, x3, x4, h, g)) (nI a0) y (nI s.length) (nI b.length) (nI s.length) v h g1 := by
      rintro _ rfl
      unfold j_X11_tells_98
      refine and_have (vp_in_nI (by omega) (by omega)) (fun _ => ?_)
      intro g2 e2
      rw [nI_clamp (by omega)] at e2
      rintro _ rfl
      rw [nI_1]
      refine j196 (psL y.toInt64 l.toInt64 hh.toInt64 t :: s) g2 (ev1.trans ea) ?_
      rw [e2, hul_eq]; exact SKL.push SL
    unfold j_X11_tells_34
    rw [nI_clamp (n := b.length) (by omega), k2]
    rcases o with ⟨z1, z2, z3⟩ | ⟨z1, z2, z3⟩
    · rw [z1, z3]
      exact ⟨fun q => absurd rfl q, fun _ => and_have vb (fun _ => j98 _ (if_pos z2))⟩
    · rw [z1]
      refine ⟨fun _ => and_have vb (fun _ => ⟨fun n0 => and_have vb (fun _ => ⟨fun n1 => ?_, fun n1 => ?_⟩), fun n0 => ?_⟩), fun q => absurd q (by decide)⟩
      · refine c_i (p_X11_partOf hR (bd_of (by omega) (by omega) (by omega)) ((bd_lit (n := 1) (by decide)).mo (by decide) (by decide))) ?_
        rintro _ _ _ ⟨rfl, rfl, rfl⟩
        rw [show (((20 : Int32) + ((5 : Int32) * nI a0)) + (1 : Int32)).toNatClampNeg = 20 + 5 * a0 + 1 from ix 1 (by omega), eh]
        refine j98 _ ?_
        rcases z3 with ⟨rfl, w⟩ | ⟨rfl, w⟩ | ⟨rfl, w⟩
        · exact absurd w n0
        · exact absurd w n1
        · rfl
      · refine c_i (p_X11_partOf hR (bd_of (by omega) (by omega) (by omega)) ((bd_lit (n := 0) (by decide)).mo (by decide) (by decide))) ?_
        rintro _ _ _ ⟨rfl, rfl, rfl⟩
        rw [show (((20 : Int32) + ((5 : Int32) * nI a0)) + (0 : Int32)).toNatClampNeg = 20 + 5 * a0 + 0 from ix 0 (by omega), el]
        refine j98 _ ?_
        rcases z3 with ⟨rfl, w⟩ | ⟨rfl, w⟩ | ⟨rfl, w⟩
        · exact absurd w n0
        · rfl
        · exact absurd n1 (by decide)
      · refine j98 _ ?_
        rcases z3 with ⟨rfl, w⟩ | ⟨rfl, w⟩ | ⟨rfl, w⟩
        · rfl
        · exact absurd n0 (by decide)
        · exact absurd n0 (by decide)
  rcases tc_kd ht with ⟨q1, o⟩ | ⟨q2, o⟩ | ⟨q3, c', hc', r1, r6, et, ec, z0, z1, z2, z3⟩
  · refine ⟨fun _ => push q1 o, fun n0 => ⟨fun n1 => ?_, fun _ => push q1 o⟩⟩
    rcases o with o | o
    · exact absurd o.1 n0
    · exact absurd o.1 n1
  · rw [if_neg (by omega), if_pos q2] at lb pb
    have ea : apT y.toInt64 l.toInt64 hh.toInt64 t s = u1L t (s.headD 0) :: s.tail := (if_neg (by omega)).trans (if_pos q2)
    cases s with
    | nil => rw [List.length_nil] at lb; omega
    | cons x xs =>
      have ea : apT y.toInt64 l.toInt64 hh.toInt64 t (x :: xs) = u1L t x :: xs := ea
      rw [List.length_cons] at lb ⊢
      have v : vp_in (nI xs.length) 70 := vp_in_nI (by omega) (by omega)
      have fin : ∀ (w : Int64) (g2 : HL), u1L t x = w → g2 = hul g1 142 xs.length w → j_X11_tells_196 (fun r h' _ => h = h' ∧ evL y.toInt64 l.toInt64 hh.toInt64 p = [r]) (fun x1 x2 x3 x4 h g => K (x1, x2, x3, x4, h, g)) (nI a0) y (nI (xs.length + 1)) (nI b.length) h g2 := by
        rintro _ g2 rfl e2
        refine j196 (u1L t x :: xs) g2 (ev1.trans ea) ?_
        rw [e2, hul_eq]; exact SKL.push SL.2
      rw [nI_pred, nI_clamp (n := xs.length) (by omega), SL.1]
      rcases o with ⟨rfl, w⟩ | ⟨rfl, w⟩
      · rw [w]
        refine ⟨fun q => absurd q (by decide), fun _ => ⟨fun _ => ⟨fun q => absurd rfl q, fun _ => and_have v (fun _ => and_have v (fun _ => ?_))⟩, fun q => absurd q (by decide)⟩⟩
        intro g2 e2
        exact fin _ g2 rfl e2
      · rw [w]
        have j162 : ∀ z : Int64, u1L (-33) x = z → j_X11_tells_162 (fun r h' _ => h = h' ∧ evL y.toInt64 l.toInt64 hh.toInt64 p = [r]) (fun x1 x2 x3 x4 h g => K (x1, x2, x3, x4, h, g)) (nI a0) y (nI (xs.length + 1)) (nI b.length) (nI xs.length) z h g1 := by
          intro z ez
          unfold j_X11_tells_162
          refine and_have v (fun _ => ?_)
          intro g2 e2
          rw [nI_clamp (by omega)] at e2
          exact fin _ g2 ez e2
        refine ⟨fun q => absurd q (by decide), fun _ => ⟨fun _ => ⟨fun _ => ⟨fun q => absurd rfl q, fun _ => and_have v (fun _ => ⟨fun q => j162 _ ?_, fun q => j162 _ ?_⟩)⟩, fun q => absurd q (by decide)⟩, fun q => absurd q (by decide)⟩⟩
        · exact (if_neg (by decide)).trans (if_pos q)
        · exact (if_neg (by decide)).trans (if_neg (fun k => k q))
  · rw [if_neg (by omega), if_neg (by omega)] at lb pb
    have ea : apT y.toInt64 l.toInt64 hh.toInt64 t s = jn (-t) (s.tail.headD 0) (s.headD 0) :: s.tail.tail := (if_neg (by omega)).trans (if_neg (by omega))
    rw [et, Int32.neg_neg] at ea
    rw [ec]
    refine ⟨fun q => absurd q z0, fun _ => ⟨fun _ => ⟨fun _ => ⟨fun _ => ?_, fun q => absurd q z2⟩, fun q => absurd q z3⟩, fun q => absurd q z1⟩⟩
    cases s with
    | nil => rw [List.length_nil] at lb; omega
    | cons x xs =>
      cases xs with
      | nil => rw [List.length_cons, List.length_nil] at lb; omega
      | cons x2 xs =>
        rw [← et] at ea
        have ea : apT y.toInt64 l.toInt64 hh.toInt64 t (x :: x2 :: xs) = jn c' x2 x :: xs := ea
        rw [List.length_cons, List.length_cons] at lb ⊢
        rw [pk_m1]
        rintro _ rfl
        have sx : g1 142 (xs.length + 1) = x := SL.1
        have sx2 : g1 142 xs.length = x2 := SL.2.1
        rw [nI_pred, nI_clamp (n := xs.length) (by omega), nI_clamp (n := xs.length + 1) (by omega), sx, sx2]
        have v : vp_in (nI xs.length) 70 := vp_in_nI (by omega) (by omega)
        refine and_have v (fun _ => and_have (vp_in_nI (by omega) (by omega)) (fun _ => ?_))
        refine c_l (q_X11_twoOf hc' ⟨r1, r6⟩) ?_
        rintro _ _ _ ⟨rfl, rfl, rfl⟩
        refine and_have v (fun _ => ?_)
        intro g2 e2
        refine j196 (jn c' x2 x :: xs) g2 (ev1.trans ea) ?_
        rw [e2, hul_eq]; exact SKL.push SL.2.2
/-! WORN -/
theorem lgc_lt {a b : Int64} : lg_cmp a b < 0 ↔ a.toInt < b.toInt := by
  unfold lg_cmp
  by_cases q : a > b
  · rw [if_pos q]
    have q' : b < a := q
    rw [Int64.lt_iff_toInt_lt] at q'
    exact ⟨fun x => absurd x (by decide), fun x => by omega⟩
  · rw [if_neg q]
    have q' : ¬ b < a := q
    rw [Int64.lt_iff_toInt_lt] at q'
    by_cases r : a = b
    · subst r; rw [if_pos rfl]; exact ⟨fun x => absurd x (by decide), fun x => by omega⟩
    · rw [if_neg r]
      have r' : a.toInt ≠ b.toInt := fun e => r (Int64.toInt_inj.mp e)
      exact ⟨fun _ => by omega, fun _ => by decide⟩
theorem lgc_gt {a c : Int64} : 0 < lg_cmp a c ↔ c.toInt < a.toInt := by
  unfold lg_cmp
  by_cases q : a > c
  · rw [if_pos q]
    have q' : c < a := q
    rw [Int64.lt_iff_toInt_lt] at q'
    exact ⟨fun _ => q', fun x => by decide⟩
  · rw [if_neg q]
    have q' : ¬ c < a := q
    rw [Int64.lt_iff_toInt_lt] at q'
    by_cases r : a = c
    · subst r; rw [if_pos rfl]; exact ⟨fun x => absurd x (by decide), fun x => by omega⟩
    · rw [if_neg r]; exact ⟨fun x => absurd x (by decide), fun x => by omega⟩
def clC (v : Int64) : Int32 := (if (if v < (10000 : Int64) then v else (10000 : Int64)) < (0 : Int64) then (0 : Int64) else (if v < (10000 : Int64) then v else (10000 : Int64))).toInt32
/-- between 0 and 10000, in the reference's words -/
theorem cl_ref {v : Int64} : (0 ≤ lg_cmp v 0 → (lg_cmp v 10000 ≤ 0 → clC v = v.toInt32) ∧ (¬ lg_cmp v 10000 ≤ 0 → clC v = 10000)) ∧ (¬ 0 ≤ lg_cmp v 0 → clC v = 0) := by
  have e0 : (0 : Int64).toInt = 0 := by decide
  have e1 : (10000 : Int64).toInt = 10000 := by decide
  have k0 : 0 ≤ lg_cmp v 0 ↔ ¬ v < 0 := by
    rw [← Int32.not_lt, lgc_lt, Int64.lt_iff_toInt_lt]
  have k1 : lg_cmp v 10000 ≤ 0 ↔ ¬ (10000 : Int64) < v := by
    rw [← Int32.not_lt, lgc_gt, Int64.lt_iff_toInt_lt]
  rw [k0, k1]
  unfold clC
  refine ⟨fun a => ⟨fun b => ?_, fun b => ?_⟩, fun a => ?_⟩
  · by_cases q : v < 10000
    · rw [if_pos q, if_neg a]
    · have : v = 10000 := by
        rw [Int64.lt_iff_toInt_lt] at q b
        exact Int64.toInt_inj.mp (by omega)
      subst this; decide
  · have q : ¬ v < 10000 := fun q => by
      rw [Int64.lt_iff_toInt_lt] at q b
      omega
    rw [if_neg q, if_neg (by decide)]; decide
  · have a : v < 0 := Decidable.byContradiction a
    have q : v < 10000 := by
      rw [Int64.lt_iff_toInt_lt] at a ⊢
      omega
    rw [if_pos q, if_pos a]; decide
/-- WORN by the fault, the program, the years, LOAD and HARDNESS -/
def wvl (fl : Int32) (p : List Int32) (y l hh : Int32) : Int32 := if fl = -1 then clC ((evL y.toInt64 l.toInt64 hh.toInt64 p).headD 0) else y
theorem wvl_un {f : Nat → Int32} {n : Nat} {a b : Int32} {p q : List Int32} {y l hh : Int32} (x : RSl f n a p) (z : RSl f n b q) : wvl a p y l hh = wvl b q y l hh := by
  obtain ⟨e, k⟩ := x.un z
  subst e
  by_cases c : a = -1
  · rw [k c]
  · unfold wvl; rw [if_neg c, if_neg c]
theorem yr_c {a b : Nat} (ha : a ≤ 99) (hb : b ≤ 99) : (if (0 : Int32) < nI a - nI b then nI a - nI b else 0) = nI (a - b) := by
  by_cases c : b ≤ a
  · rw [nI_subN c]
    by_cases q : (0 : Int32) < nI (a - b)
    · rw [if_pos q]
    · rw [if_neg q]
      rw [show (0 : Int32) = nI 0 from rfl, nI_ltI (by omega) (by omega)] at q
      rw [show a - b = 0 by omega, nI_0]
  · have e := pk_sub_toInt (a := a) (b := b) (by omega) (by omega)
    rw [if_neg (fun q => by rw [Int32.lt_iff_toInt_lt, e, show (0 : Int32).toInt = 0 by decide] at q; omega), show a - b = 0 by omega, nI_0]
theorem q_X4_wornOf {h : HI} {g : HL} {m n : Nat} {f : Nat → Int32} (T : TT h 2 m 5 24) (L : LWC h f n) {a0 a b : Nat} (ha0 : a0 < m) (ha : a ≤ 99) (hb : b ≤ 99) (ey : h 3 (a0 * 5 + 2) = nI b) : w_X4_wornOf (nI a0) (nI a) h g (fun r h' _ => h = h' ∧ ∃ p, RSl f n (h 77 9) p ∧ r = wvl (h 77 9) p (nI (a - b)) (h 3 (a0 * 5 + 0)) (h 3 (a0 * 5 + 1))) := by
  obtain ⟨p, rs, k⟩ := L
  unfold w_X4_wornOf
  refine c_i (p_atT T) ?_
  rintro _ _ _ ⟨rfl, rfl, rfl⟩
  rw [show tat h 2 (nI a0) (2 : Int32) = nI b from (tat_nI T (b := 2) ha0 (by omega)).trans ey, yr_c ha hb]
  rintro _ rfl
  refine ⟨fun c => ?_, fun c => ⟨rfl, p, rs, (if_neg c).symm⟩⟩
  obtain ⟨e4, e8, hl, -⟩ := k c
  have w := (by rw [c] at rs; exact rs.wf : gdl p 1 ∧ p.length ≤ n ∧ ∀ t, t ∈ p → okT t)
  refine c_i (p_atT T) ?_
  rintro _ _ _ ⟨rfl, rfl, rfl⟩
  refine c_i (p_atT T) ?_
  rintro _ _ _ ⟨rfl, rfl, rfl⟩
  rw [show tat h 2 (nI a0) (0 : Int32) = h 3 (a0 * 5 + 0) from tat_nI T (b := 0) ha0 (by omega), show tat h 2 (nI a0) (1 : Int32) = h 3 (a0 * 5 + 1) from tat_nI T (b := 1) ha0 (by omega)]
  refine c_l (q_X4_tells e4 e8 hl w.1) ?_
  rintro r _ g1 ⟨rfl, er⟩
  refine ⟨rfl, p, rs, ?_⟩
  unfold wvl
  rw [if_pos c, er]; rfl
theorem q_X11_wornOf {h : HI} {g : HL} (hR : RI (h 136)) {n : Nat} (en : h 136 8 = nI n) (hn : n ≤ 60) {a0 a b : Nat} (ha0 : a0 < 24) (ha : a ≤ 99) (hb : b ≤ 99) (ey : h 136 (20 + 5 * a0 + 2) = nI b) : w_X11_wornOf (nI a0) (nI a) h g (fun r h' _ => KJ SRd h h' ∧ ∃ fl p, RSl (fun k => h 136 (827 + k)) n fl p ∧ r = wvl fl p (nI (a - b)) (h 136 (20 + 5 * a0 + 0)) (h 136 (20 + 5 * a0 + 1))) := by
  have b0 : bd 0 23 (nI a0) := bd_of (by omega) (by omega) (by omega)
  have b2 : bd 0 4 (2 : Int32) := (bd_lit (n := 2) (by decide)).mo (by decide) (by decide)
  have ix : (((20 : Int32) + ((5 : Int32) * nI a0)) + (2 : Int32)).toNatClampNeg = 20 + 5 * a0 + 2 := by
    rw [show ((20 : Int32) + ((5 : Int32) * nI a0)) + (2 : Int32) = nI (20 + 5 * a0 + 2) from ix3 20 5 a0 2, nI_clamp (by omega)]
  have j42 : ∀ (s : Int64) (h1 : HI) (g1 : HL) (fl : Int32) (p : List Int32), KJ SRd h h1 → RSl (fun k => h 136 (827 + k)) n fl p → clC s = wvl fl p (nI (a - b)) (h 136 (20 + 5 * a0 + 0)) (h 136 (20 + 5 * a0 + 1)) → j_X11_wornOf_42 (fun r h' _ => KJ SRd h h' ∧ ∃ fl p, RSl (fun k => h 136 (827 + k)) n fl p ∧ r = wvl fl p (nI (a - b)) (h 136 (20 + 5 * a0 + 0)) (h 136 (20 + 5 * a0 + 1))) s h1 g1 := by
    intro s h1 g1 fl p J rs e
    have k := cl_ref (v := s)
    unfold j_X11_wornOf_42
    exact ⟨fun q => ⟨fun q2 => ⟨J, fl, p, rs, ((k.1 q).1 q2).symm.trans e⟩, fun q2 => ⟨J, fl, p, rs, ((k.1 q).2 q2).symm.trans e⟩⟩, fun q => ⟨J, fl, p, rs, (k.2 q).symm.trans e⟩⟩
  have j22 : ∀ (s : Int32) (g1 : HL), s = nI (a - b) → j_X11_wornOf_22 (fun r h' _ => KJ SRd h h' ∧ ∃ fl p, RSl (fun k => h 136 (827 + k)) n fl p ∧ r = wvl fl p (nI (a - b)) (h 136 (20 + 5 * a0 + 0)) (h 136 (20 + 5 * a0 + 1))) (nI a0) s h g1 := by
    rintro _ g1 rfl
    unfold j_X11_wornOf_22
    refine c_i (q_X11_reads en hn) ?_
    rintro r h2 g2 ⟨J2, p, rs, hP⟩
    refine ⟨fun q => j42 _ _ _ r p J2 rs ?_, fun q => ?_⟩
    · unfold wvl
      rw [if_neg q]
      have k := cl_ref (v := (nI (a - b)).toInt64)
      have e : (nI (a - b)).toInt64.toInt = ((a - b : Nat) : Int) := by rw [Int32.toInt_toInt64, nI_toInt (by omega)]
      have c0 : 0 ≤ lg_cmp (nI (a - b)).toInt64 0 := by
        rw [← Int32.not_lt, lgc_lt, e, show (0 : Int64).toInt = 0 by decide]; omega
      have c1 : lg_cmp (nI (a - b)).toInt64 10000 ≤ 0 := by
        rw [← Int32.not_lt, lgc_gt, e, show (10000 : Int64).toInt = 10000 by decide]; omega
      rw [(k.1 c0).1 c1, Int32.toInt32_toInt64]
    · have rs' := rs
      rw [q] at rs'
      obtain ⟨w1, w2, w3⟩ := rs'.wf
      have h36 : h2 136 = h 136 := funext fun k => J2 136 k (by unfold SRd; omega)
      refine c_l (q_X11_tells (hR.kj J2 (fun k => by unfold SRd; omega)) (hP q) (by omega) w1 w3 ha0 rfl rfl) ?_
      rintro r3 _ g3 ⟨rfl, er⟩
      refine j42 _ _ _ r p J2 rs ?_
      unfold wvl
      rw [if_pos q, ← h36, er]; rfl
  unfold w_X11_wornOf
  refine c_i (p_X11_partOf hR b0 b2) ?_
  rintro _ _ _ ⟨rfl, rfl, rfl⟩
  rw [ix, ey, nI_leI (by omega) (by omega)]
  refine ⟨fun c => ?_, fun c => j22 _ _ (by rw [show a - b = 0 by omega, nI_0])⟩
  refine c_i (p_X11_partOf hR b0 b2) ?_
  rintro _ _ _ ⟨rfl, rfl, rfl⟩
  rw [ix, ey]
  exact j22 _ _ (nI_subN c)
end
section
-- 68.vr
/-! EVERY NUMBER OF THE REFERENCE IN ITS RANGE -/
def vP (c : Nat) : Int × Int := if c = 0 then (0, 100) else if c = 1 then (0, 100) else if c = 2 then (0, 99) else if c = 3 then (-1, 3) else dfl
def vS (c : Nat) : Int × Int := if c = 0 then (0, 23) else if c = 1 then (0, 3) else if c = 2 then (-10000, 100000) else if c = 3 then (0, 10000) else if c = 4 then (0, 99) else if c = 5 then (0, 1) else dfl
def vC (c : Nat) : Int × Int := if c = 0 then (-100000, 100000) else if c = 1 then (-100000, 100000) else if c = 2 then (0, 6) else if c ≤ 8 then (0, 23) else dfl
def vW (c : Nat) : Int × Int := if c = 0 then (-500, 500) else if c = 1 then (0, 1000) else (0, 3000)
def vX (c : Nat) : Int × Int := if c = 0 then (0, 3) else if c = 1 then (0, 50) else (-1, 3)
def vT (c : Nat) : Int × Int := if c = 0 then (0, 100) else (0, 1)
def vH (c : Nat) : Int × Int := if c = 0 then (0, 15) else (0, 9)
def vg (k : Nat) : Int × Int := if k < 20 then dfl else if k < 140 then vP ((k - 20) % 5) else if k < 152 then (1, 100000) else if k < 512 then vS ((k - 152) % 6) else if k < 672 then vC ((k - 512) % 10) else if k < 704 then vW ((k - 672) % 4) else if k < 710 then (0, 3) else if k < 737 then vX ((k - 710) % 3) else if k < 817 then vT ((k - 737) % 2) else if k < 823 then vH ((k - 817) % 2) else if k < 827 then (0, 9) else if k < 887 then (0, 127) else dfl
def okV (k : Nat) (x : Int32) : Prop := bd (vg k).1 (vg k).2 x
/-- a family ends at 100000 -/
def FRl (f : Nat → Int32) : Prop := ∀ j, j < 4 → (f (140 + 3 * j)).toInt + ((f (140 + 3 * j + 2)).toInt - 1) * (f (140 + 3 * j + 1)).toInt ≤ 100000
def VR (f : Nat → Int32) : Prop := (∀ k, okV k (f k)) ∧ FRl f
theorem vg_0 {k : Nat} (h : k < 20) : vg k = dfl := if_pos h
theorem vg_P {m c : Nat} (hm : m < 24) (hc : c < 5) : vg (20 + 5 * m + c) = vP c := by
  unfold vg
  rw [if_neg (by omega), if_pos (by omega), show (20 + 5 * m + c - 20) % 5 = c by omega]
theorem vg_F {k : Nat} (h : 140 ≤ k) (h2 : k < 152) : vg k = (1, 100000) := by
  unfold vg
  rw [if_neg (by omega), if_neg (by omega), if_pos h2]
theorem vg_S {m c : Nat} (hm : m < 60) (hc : c < 6) : vg (152 + 6 * m + c) = vS c := by
  unfold vg
  rw [if_neg (by omega), if_neg (by omega), if_neg (by omega), if_pos (by omega), show (152 + 6 * m + c - 152) % 6 = c by omega]
theorem vg_C {m c : Nat} (hm : m < 16) (hc : c < 10) : vg (512 + 10 * m + c) = vC c := by
  unfold vg
  rw [if_neg (by omega), if_neg (by omega), if_neg (by omega), if_neg (by omega), if_pos (by omega), show (512 + 10 * m + c - 512) % 10 = c by omega]
theorem vg_W {m c : Nat} (hm : m < 8) (hc : c < 4) : vg (672 + 4 * m + c) = vW c := by
  unfold vg
  rw [if_neg (by omega), if_neg (by omega), if_neg (by omega), if_neg (by omega), if_neg (by omega), if_pos (by omega), show (672 + 4 * m + c - 672) % 4 = c by omega]
theorem vg_M {m : Nat} (hm : m < 6) : vg (704 + m) = (0, 3) := by
  unfold vg
  rw [if_neg (by omega), if_neg (by omega), if_neg (by omega), if_neg (by omega), if_neg (by omega), if_neg (by omega), if_pos (by omega)]
theorem vg_X {m c : Nat} (hm : m < 9) (hc : c < 3) : vg (710 + 3 * m + c) = vX c := by
  unfold vg
  rw [if_neg (by omega), if_neg (by omega), if_neg (by omega), if_neg (by omega), if_neg (by omega), if_neg (by omega), if_neg (by omega), if_pos (by omega), show (710 + 3 * m + c - 710) % 3 = c by omega]
theorem vg_T {m c : Nat} (hm : m < 40) (hc : c < 2) : vg (737 + 2 * m + c) = vT c := by
  unfold vg
  rw [if_neg (by omega), if_neg (by omega), if_neg (by omega), if_neg (by omega), if_neg (by omega), if_neg (by omega), if_neg (by omega), if_neg (by omega), if_pos (by omega), show (737 + 2 * m + c - 737) % 2 = c by omega]
theorem vg_H {m c : Nat} (hm : m < 3) (hc : c < 2) : vg (817 + 2 * m + c) = vH c := by
  unfold vg
  rw [if_neg (by omega), if_neg (by omega), if_neg (by omega), if_neg (by omega), if_neg (by omega), if_neg (by omega), if_neg (by omega), if_neg (by omega), if_neg (by omega), if_pos (by omega), show (817 + 2 * m + c - 817) % 2 = c by omega]
theorem vg_N {m : Nat} (hm : m < 4) : vg (823 + m) = (0, 9) := by
  unfold vg
  rw [if_neg (by omega), if_neg (by omega), if_neg (by omega), if_neg (by omega), if_neg (by omega), if_neg (by omega), if_neg (by omega), if_neg (by omega), if_neg (by omega), if_neg (by omega), if_pos (by omega)]
theorem vg_Z {m : Nat} (hm : m < 60) : vg (827 + m) = (0, 127) := by
  unfold vg
  rw [if_neg (by omega), if_neg (by omega), if_neg (by omega), if_neg (by omega), if_neg (by omega), if_neg (by omega), if_neg (by omega), if_neg (by omega), if_neg (by omega), if_neg (by omega), if_neg (by omega), if_pos (by omega)]
theorem vg_E {k : Nat} (h : 887 ≤ k) : vg k = dfl := by
  unfold vg
  rw [if_neg (by omega), if_neg (by omega), if_neg (by omega), if_neg (by omega), if_neg (by omega), if_neg (by omega), if_neg (by omega), if_neg (by omega), if_neg (by omega), if_neg (by omega), if_neg (by omega), if_neg (by omega)]
theorem VR.set {f : Nat → Int32} {k : Nat} {x : Int32} (v : VR f) (ok : okV k x) (hk : k < 140 ∨ 152 ≤ k) : VR (upd f k x) := by
  refine ⟨fun i => ?_, fun j hj => ?_⟩
  · by_cases e : i = k
    · subst e; rw [pk_us]; exact ok
    · rw [pk_un e]; exact v.1 i
  · rw [pk_un (by omega), pk_un (by omega), pk_un (by omega)]; exact v.2 j hj
/-- as VR.set, the range by its column -/
theorem VR.up {f : Nat → Int32} {k : Nat} {x : Int32} {r : Int × Int} (v : VR f) (e : vg k = r) (b : bd r.1 r.2 x) (hk : k < 140 ∨ 152 ≤ k) : VR (upd f k x) := v.set (by unfold okV; rw [e]; exact b) hk
theorem VR.at {f : Nat → Int32} {k : Nat} {r : Int × Int} (v : VR f) (e : vg k = r) : bd r.1 r.2 (f k) := by
  have := v.1 k
  unfold okV at this
  rw [e] at this
  exact this
theorem VR.cg {f f' : Nat → Int32} (v : VR f) (e : ∀ k, k < 887 → f' k = f k) : VR f' := by
  refine ⟨fun k => ?_, fun j hj => ?_⟩
  · by_cases h : k < 887
    · rw [e k h]; exact v.1 k
    · unfold okV; rw [vg_E (by omega)]; exact bd_all _
  · rw [e _ (by omega), e _ (by omega), e _ (by omega)]; exact v.2 j hj
theorem vr_part {f f' : Nat → Int32} {m : Nat} {x1 x2 x3 x4 : Int32} (v : VR f) (hm : m < 24) (c : K_part x1 x2 x3 x4) (e : f' = upd (upd (upd (upd (upd (upd f (20 + 5 * m) x1) (20 + 5 * m + 1) x2) (20 + 5 * m + 2) x3) (20 + 5 * m + 3) x4) (20 + 5 * m + 4) 0) 0 (nI (m + 1))) : VR f' := by
  subst e
  obtain ⟨c1, c2, c3, c4⟩ := c
  exact (((((v.up (vg_P (c := 0) hm (by omega)) c1 (by omega)).up (vg_P (c := 1) hm (by omega)) (c2.mo (by decide) (by decide)) (by omega)).up (vg_P (c := 2) hm (by omega)) c3 (by omega)).up (vg_P (c := 3) hm (by omega)) c4 (by omega)).up (vg_P (c := 4) hm (by omega)) (bd_all _) (by omega)).up (vg_0 (by omega)) (bd_all _) (by omega)
theorem vr_machine {f f' : Nat → Int32} {m : Nat} {x1 : Int32} (v : VR f) (hm : m < 6) (c : K_machine x1) (e : f' = upd (upd f (704 + m) x1) 4 (nI (m + 1))) : VR f' := by
  subst e
  exact (v.up (vg_M hm) c (by omega)).up (vg_0 (by omega)) (bd_all _) (by omega)
theorem vr_spare {f f' : Nat → Int32} {m : Nat} {x1 x2 x3 : Int32} (v : VR f) (hm : m < 9) (c : K_spare x1 x2 x3) (e : f' = upd (upd (upd (upd f (710 + 3 * m) x1) (710 + 3 * m + 1) x2) (710 + 3 * m + 2) x3) 5 (nI (m + 1))) : VR f' := by
  subst e
  obtain ⟨c1, c2, c3⟩ := c
  exact (((v.up (vg_X (c := 0) hm (by omega)) c1 (by omega)).up (vg_X (c := 1) hm (by omega)) (c2.mo (by decide) (by decide)) (by omega)).up (vg_X (c := 2) hm (by omega)) c3 (by omega)).up (vg_0 (by omega)) (bd_all _) (by omega)
theorem vr_hand {f f' : Nat → Int32} {m : Nat} {x1 x2 : Int32} (v : VR f) (hm : m < 3) (c : K_hand x1 x2) (e : f' = upd (upd (upd f (817 + 2 * m) x1) (817 + 2 * m + 1) x2) 7 (nI (m + 1))) : VR f' := by
  subst e
  obtain ⟨c1, c2⟩ := c
  exact ((v.up (vg_H (c := 0) hm (by omega)) c1 (by omega)).up (vg_H (c := 1) hm (by omega)) c2 (by omega)).up (vg_0 (by omega)) (bd_all _) (by omega)
theorem bd_01 {c : Prop} [Decidable c] : bd 0 1 (if c then (0 : Int32) else 1) := by
  by_cases q : c
  · rw [if_pos q]; unfold bd; decide
  · rw [if_neg q]; unfold bd; decide
theorem vr_told {f f' : Nat → Int32} {m : Nat} {x1 x2 : Int32} (v : VR f) (hm : m < 40) (c : K_told x1) (e : f' = upd (upd (upd f (737 + 2 * m) x1) (737 + 2 * m + 1) (if x2 = 0 then 0 else 1)) 6 (nI (m + 1))) : VR f' := by
  subst e
  exact ((v.up (vg_T (c := 0) hm (by omega)) c (by omega)).up (vg_T (c := 1) hm (by omega)) bd_01 (by omega)).up (vg_0 (by omega)) (bd_all _) (by omega)
theorem vr_write {f f' : Nat → Int32} {m : Nat} {x1 : Int32} (v : VR f) (hm : m < 60) (c : K_write x1) (e : f' = upd (upd f (827 + m) x1) 8 (nI (m + 1))) : VR f' := by
  subst e
  exact (v.up (vg_Z hm) c (by omega)).up (vg_0 (by omega)) (bd_all _) (by omega)
theorem vr_work {f f' : Nat → Int32} {m : Nat} {x1 x2 x3 x4 : Int32} (v : VR f) (hm : m < 8) (c : K_work x1 x2 x3 x4) (e : f' = upd (upd (upd (upd (upd f (672 + 4 * m) x1) (672 + 4 * m + 1) x2) (672 + 4 * m + 2) x3) (672 + 4 * m + 3) x4) 3 (nI (m + 1))) : VR f' := by
  subst e
  obtain ⟨-, c1, c2, c3, c4⟩ := c
  have c5 : bd 0 3000 x4 := ⟨Int.le_trans (Int.le_trans (by decide) c3.1) c4.1, c4.2⟩
  exact ((((v.up (vg_W (c := 0) hm (by omega)) c1 (by omega)).up (vg_W (c := 1) hm (by omega)) (c2.mo (by decide) (by decide)) (by omega)).up (vg_W (c := 2) hm (by omega)) (c3.mo (by decide) (by decide)) (by omega)).up (vg_W (c := 3) hm (by omega)) c5 (by omega)).up (vg_0 (by omega)) (bd_all _) (by omega)
theorem bd_if {c : Prop} [Decidable c] {a b : Int} {x : Int32} (h : c → bd a b x) (ha : a ≤ 0) (hb : 0 ≤ b) : bd a b (if c then x else 0) := by
  by_cases q : c
  · rw [if_pos q]; exact h q
  · rw [if_neg q]; unfold bd; exact ⟨ha, hb⟩
theorem vr_say {f f' : Nat → Int32} {m : Nat} {x1 x2 x3 x4 x5 : Int32} (v : VR f) (hm : m < 60) (h0 : (f 0).toInt ≤ 24) (c : K_say (f 0) x1 x2 x3 x4 x5) (e : f' = upd (upd (upd (upd (upd (upd (upd f (152 + 6 * m) x1) (152 + 6 * m + 1) x2) (152 + 6 * m + 2) x3) (152 + 6 * m + 3) (if x2 = 0 ∨ x2 = 1 then x4 else 0)) (152 + 6 * m + 4) (if x2 = 0 then x5 else 0)) (152 + 6 * m + 5) 0) 1 (nI (m + 1))) : VR f' := by
  subst e
  obtain ⟨c1, c2, c3, c4, c5⟩ := c
  have b1 : bd 0 23 x1 := ⟨c1.1, by have := c1.2; omega⟩
  have z : bd 0 1 (0 : Int32) := by unfold bd; decide
  exact ((((((v.up (vg_S (c := 0) hm (by omega)) b1 (by omega)).up (vg_S (c := 1) hm (by omega)) c2 (by omega)).up (vg_S (c := 2) hm (by omega)) c3 (by omega)).up (vg_S (c := 3) hm (by omega)) (bd_if c4 (by decide) (by decide)) (by omega)).up (vg_S (c := 4) hm (by omega)) (bd_if c5 (by decide) (by decide)) (by omega)).up (vg_S (c := 5) hm (by omega)) z (by omega)).up (vg_0 (by omega)) (bd_all _) (by omega)
theorem vr_chain {f f' : Nat → Int32} {m : Nat} {x1 x2 : Int32} (v : VR f) (hm : m < 16) (c : K_chain x1 x2) (e : (∀ i, i ≠ 2 → (i < 512 + 10 * m ∨ 512 + 10 * m + 10 ≤ i) → f' i = f i) ∧ ∀ c, c < 10 → f' (512 + 10 * m + c) = rowc x1 x2 0 0 c) : VR f' := by
  obtain ⟨c1, c2⟩ := c
  have c2 : bd (-100000) 100000 x2 := ⟨Int.le_trans c1.1 c2.1, c2.2⟩
  refine ⟨fun k => ?_, fun j hj => ?_⟩
  · by_cases q : k < 512 + 10 * m ∨ 512 + 10 * m + 10 ≤ k
    · by_cases k2 : k = 2
      · subst k2; unfold okV; rw [vg_0 (by omega)]; exact bd_all _
      · rw [e.1 k k2 q]; exact v.1 k
    · obtain ⟨i, rfl⟩ : ∃ i, k = 512 + 10 * m + i := ⟨k - (512 + 10 * m), by omega⟩
      have hi : i < 10 := by omega
      unfold okV
      rw [vg_C hm hi, e.2 i hi]
      have z : ∀ a b : Int, a ≤ 0 → 0 ≤ b → bd a b (0 : Int32) := fun a b h1 h2 => ⟨h1, h2⟩
      have : i = 0 ∨ i = 1 ∨ i = 2 ∨ i = 3 ∨ i = 4 ∨ i = 5 ∨ i = 6 ∨ i = 7 ∨ i = 8 ∨ i = 9 := by omega
      rcases this with rfl | rfl | rfl | rfl | rfl | rfl | rfl | rfl | rfl | rfl
      · exact c1
      · exact c2
      · exact z 0 6 (by decide) (by decide)
      · exact z 0 23 (by decide) (by decide)
      · exact z 0 23 (by decide) (by decide)
      · exact z 0 23 (by decide) (by decide)
      · exact z 0 23 (by decide) (by decide)
      · exact z 0 23 (by decide) (by decide)
      · exact z 0 23 (by decide) (by decide)
      · exact bd_all _
  · rw [e.1 _ (by omega) (by omega), e.1 _ (by omega) (by omega), e.1 _ (by omega) (by omega)]; exact v.2 j hj
theorem bm64 {z : Int} (h1 : -9223372036854775808 ≤ z) (h2 : z < 9223372036854775808) : z.bmod (2 ^ 64) = z := by
  unfold Int.bmod
  have e : ((2 ^ 64 : Nat) : Int) = 18446744073709551616 := rfl
  dsimp only
  rw [e]
  by_cases c : z % 18446744073709551616 < (18446744073709551616 + 1) / 2
  · rw [if_pos c]; omega
  · rw [if_neg c]; omega
theorem fam_le {x2 x3 x4 : Int32} (c2 : bd 1 100000 x2) (c3 : bd 1 100000 x3) (c4 : bd 1 100000 x4) (c : lg_cmp (x2.toInt64 + (x4.toInt64 - 1) * x3.toInt64) 100000 ≤ 0) : x2.toInt + (x4.toInt - 1) * x3.toInt ≤ 100000 := by
  rw [← Int32.not_lt, lgc_gt] at c
  obtain ⟨a1, a2⟩ := c2
  obtain ⟨b1, b2⟩ := c3
  obtain ⟨d1, d2⟩ := c4
  have m0 : 0 ≤ (x4.toInt - 1) * x3.toInt := Int.mul_nonneg (by omega) (by omega)
  have m1 : (x4.toInt - 1) * x3.toInt ≤ 100000 * 100000 := Int.mul_le_mul (by omega) b2 (by omega) (by decide)
  have e1 : (x4.toInt64 - 1).toInt = x4.toInt - 1 := by
    rw [Int64.toInt_sub, Int32.toInt_toInt64, show (1 : Int64).toInt = 1 by decide]
    exact bm64 (by omega) (by omega)
  have e2 : ((x4.toInt64 - 1) * x3.toInt64).toInt = (x4.toInt - 1) * x3.toInt := by
    rw [Int64.toInt_mul, e1, Int32.toInt_toInt64]
    exact bm64 (by omega) (by omega)
  have e3 : (x2.toInt64 + (x4.toInt64 - 1) * x3.toInt64).toInt = x2.toInt + (x4.toInt - 1) * x3.toInt := by
    rw [Int64.toInt_add, e2, Int32.toInt_toInt64]
    exact bm64 (by omega) (by omega)
  rw [e3, show (100000 : Int64).toInt = 100000 by decide] at c
  omega
theorem vr_fam {f f' : Nat → Int32} {n : Nat} {x1 x2 x3 x4 : Int32} (v : VR f) (hn : n < 4) (c : K_fam x1 x2 x3 x4) (e : f' = upd (upd (upd f (140 + 3 * n) x2) (140 + 3 * n + 1) x3) (140 + 3 * n + 2) x4) : VR f' := by
  subst e
  obtain ⟨-, c2, c3, c4, c5⟩ := c
  have le := fam_le c2 c3 c4 c5
  have st : ∀ {f : Nat → Int32} {k : Nat} {x : Int32}, (∀ i, okV i (f i)) → 140 ≤ k → k < 152 → bd 1 100000 x → ∀ i, okV i (upd f k x i) := fun {f k x} w h1 h2 b i => by
    by_cases q : i = k
    · subst q; rw [pk_us]; unfold okV; rw [vg_F h1 h2]; exact b
    · rw [pk_un q]; exact w i
  refine ⟨st (st (st v.1 (by omega) (by omega) c2) (by omega) (by omega) c3) (by omega) (by omega) c4, fun j hj => ?_⟩
  by_cases q : j = n
  · subst q
    have e0 : upd (upd (upd f (140 + 3 * j) x2) (140 + 3 * j + 1) x3) (140 + 3 * j + 2) x4 (140 + 3 * j) = x2 := by rw [pk_un (by omega), pk_un (by omega), pk_us]
    have e1 : upd (upd (upd f (140 + 3 * j) x2) (140 + 3 * j + 1) x3) (140 + 3 * j + 2) x4 (140 + 3 * j + 1) = x3 := by rw [pk_un (by omega), pk_us]
    have e2 : upd (upd (upd f (140 + 3 * j) x2) (140 + 3 * j + 1) x3) (140 + 3 * j + 2) x4 (140 + 3 * j + 2) = x4 := pk_us
    rw [e0, e1, e2]; exact le
  · rw [pk_un (by omega), pk_un (by omega), pk_un (by omega), pk_un (by omega), pk_un (by omega), pk_un (by omega), pk_un (by omega), pk_un (by omega), pk_un (by omega)]
    exact v.2 j hj
end
section
-- 69.inv3
/-! WHAT HOLDS BETWEEN CALLS, with the law of wear read and every number in its range -/
def LW (h : HI) : Prop := ∀ m, TT h 24 m 1 60 → LWC h (h 25) m
theorem LW.cg {h h' : HI} (L : LW h) (e4 : h' 24 = h 24) (e5 : h' 25 = h 25) (e7 : h' 77 = h 77) (e8 : h' 78 = h 78) : LW h' := fun m T => by
  have := L m (T.cg e4.symm)
  exact this.cg e7 e8 (fun k _ => by rw [e5])
theorem LW.un {h : HI} {m : Nat} (T : TT h 24 m 1 60) (x : LWC h (h 25) m) : LW h := fun n U => by
  have : n = m := U.un T rfl
  subst this; exact x
def VRI (h : HI) : Prop := VR (h 136) ∧ ∀ i, i < 2 → ¬ h 138 i = 0 → VR (IMG h i)
theorem VRI.cg {h h' : HI} (v : VRI h) (e6 : VR (h' 136)) (e7 : h' 137 = h 137) (e8 : h' 138 = h 138) : VRI h' := by
  refine ⟨e6, fun i hi hn => ?_⟩
  rw [e8] at hn
  have eI : IMG h' i = IMG h i := by unfold IMG; rw [e7]
  rw [eI]; exact v.2 i hi hn
def INV3 (h : HI) : Prop := INV2 h ∧ LW h ∧ VRI h
/-- the class's calls, but for write, erase and from -/
theorem lw_add {C : Prop} {h h' : HI} {r : Int32} {o m w M k : Nat} {row : Nat → Int32} (L : LW h) (a : ADc C h r h' o m w M k row) (ho : o ≤ 22) : LW h' := by
  rcases a with ⟨-, -, rfl⟩ | ⟨-, -, -, rfl⟩ | ⟨-, -, -, J, -⟩
  · exact L
  · exact L
  · exact L.cg (J 24 (by unfold SM; omega)) (J 25 (by unfold SM; omega)) (J 77 (by unfold SM; omega)) (J 78 (by unfold SM; omega))
theorem lw_put {A : Prop} {h h' : HI} {o m w M : Nat} (L : LW h) (a : PTc A h h' o m w M) (ho : o ≤ 22) : LW h' :=
  L.cg (a.2.1 24 (by unfold SM; omega)) (a.2.1 25 (by unfold SM; omega)) (a.2.1 77 (by unfold SM; omega)) (a.2.1 78 (by unfold SM; omega))
theorem lw_jj {S : Nat → Prop} {h h' : HI} (L : LW h) (J : JJ S h h') (n : ∀ q, q ≤ 80 → ¬ S q) : LW h' :=
  L.cg (J 24 (n _ (by omega))) (J 25 (n _ (by omega))) (J 77 (n _ (by omega))) (J 78 (n _ (by omega)))
/-- the reference's -/
theorem lw_ref {h h' : HI} (L : LW h) (e : ∀ o, o ≤ 80 → h' o = h o) : LW h' := L.cg (e _ (by omega)) (e _ (by omega)) (e _ (by omega)) (e _ (by omega))
theorem adr_lo {C : Prop} {h h' : HI} {s : Int32} {c m M k : Nat} {F : (Nat → Int32) → Prop} (b : ADr C h s h' c m M k F) (o : Nat) (ho : o ≠ 136) : h' o = h o := by
  rcases b with ⟨-, -, rfl⟩ | ⟨-, -, -, rfl⟩ | ⟨-, -, -, e, -⟩
  · rfl
  · rfl
  · exact e o ho
theorem vr_add {C : Prop} {h h' : HI} {s : Int32} {c m M k : Nat} {F : (Nat → Int32) → Prop} (v : VRI h) (b : ADr C h s h' c m M k F) (n : C → m < M → ∀ f', F f' → VR f') : VRI h' := by
  refine v.cg ?_ (adr_lo b 137 (by decide)) (adr_lo b 138 (by decide))
  rcases b with ⟨-, -, rfl⟩ | ⟨-, -, -, rfl⟩ | ⟨b1, b3, -, -, -, -, -, hF⟩
  · exact v.1
  · exact v.1
  · exact n b1 b3 _ hF
theorem ptr_lo {A : Prop} {h h' : HI} (b : PTr A h h') (o : Nat) (ho : o ≠ 136) : h' o = h o := b.get.2.1 o ho
theorem vri_h1 {h h1 : HI} (v : VRI h) (e : ∀ q, 135 ≤ q → h1 q = h q) : VRI h1 := v.cg (by rw [e 136 (by omega)]; exact v.1) (e 137 (by omega)) (e 138 (by omega))
theorem vr_family {h h' : HI} {s x1 x2 x3 x4 : Int32} (v : VRI h) (b : PTr (EFr x1 x2 x3 x4 h s h') h h') : VRI h' := by
  refine v.cg ?_ (ptr_lo b 137 (by decide)) (ptr_lo b 138 (by decide))
  rcases b.1 with ⟨-, -, rfl⟩ | ⟨c, -, n, hn, -, e⟩
  · exact v.1
  · exact vr_fam v.1 hn c e
theorem vr_odds {h h' : HI} {s x1 x2 : Int32} (v : VRI h) (b : PTr (EOr x1 x2 h s h') h h') : VRI h' := by
  refine v.cg ?_ (ptr_lo b 137 (by decide)) (ptr_lo b 138 (by decide))
  rcases b.1 with ⟨-, -, rfl⟩ | ⟨c, -, e⟩
  · exact v.1
  · rw [e]; exact (v.1.up (vg_0 (by omega)) (bd_all _) (by omega)).up (vg_0 (by omega)) (bd_all _) (by omega)
theorem vr_need {h h' : HI} {s x1 x2 : Int32} (v : VRI h) (b : PTr (ENr x1 x2 h s h') h h') : VRI h' := by
  refine v.cg ?_ (ptr_lo b 137 (by decide)) (ptr_lo b 138 (by decide))
  rcases b.1 with ⟨-, -, rfl⟩ | ⟨c, n, hn, -, -, e⟩
  · exact v.1
  · rw [e]; exact v.1.up (vg_N hn) c.2 (by omega)
theorem vr_deny {h h' : HI} {s x1 x2 : Int32} (v : VRI h) (b : PTr (EDr x1 x2 h s h') h h') : VRI h' := by
  refine v.cg ?_ (ptr_lo b 137 (by decide)) (ptr_lo b 138 (by decide))
  rcases b.1 with ⟨-, -, rfl⟩ | ⟨c, n, hn, -, ⟨-, -, rfl⟩ | ⟨-, -, e⟩⟩
  · exact v.1
  · exact v.1
  · rw [e]; exact v.1.up (vg_S (c := 5) hn (by omega)) (by unfold zf; exact bd_01) (by omega)
theorem vr_bear {h h' : HI} {s x1 x2 x3 : Int32} (v : VRI h) (b : PTr (EBr x1 x2 x3 h s h') h h') : VRI h' := by
  refine v.cg ?_ (ptr_lo b 137 (by decide)) (ptr_lo b 138 (by decide))
  rcases b.1 with ⟨-, -, rfl⟩ | ⟨c, p, q, hp, hq, -, -, ⟨-, -, rfl⟩ | ⟨-, -, e⟩⟩
  · exact v.1
  · exact v.1
  · rw [e]; exact v.1.up (vg_P (c := 4) hp (by omega)) (bd_all _) (by omega)
theorem vr_link {h h' : HI} {s x1 x2 x3 : Int32} (v : VRI h) (h0 : (h 136 0).toInt ≤ 24) (b : PTr (ELr x1 x2 x3 h s h') h h') : VRI h' := by
  refine v.cg ?_ (ptr_lo b 137 (by decide)) (ptr_lo b 138 (by decide))
  rcases b.1 with ⟨-, -, rfl⟩ | ⟨c, p, n, hp, hn, -, -, ⟨-, -, rfl⟩ | ⟨-, ⟨-, -, rfl⟩ | ⟨n6, -, e⟩⟩⟩
  · exact v.1
  · exact v.1
  · exact v.1
  · have b1 : bd 0 23 x2 := ⟨c.2.1, by have := c.2.2; omega⟩
    have e3 : vg (512 + 10 * p + 3 + n) = (0, 23) := by
      rw [show 512 + 10 * p + 3 + n = 512 + 10 * p + (3 + n) by omega, vg_C hp (by omega)]
      exact (by decide : ∀ n, n < 6 → vC (3 + n) = (0, 23)) n n6
    rw [e]
    exact ((v.1.up e3 b1 (by omega)).up (vg_C (c := 9) hp (by omega)) (bd_all _) (by omega)).up (vg_C (c := 2) hp (by omega)) (bd_of (n := n + 1) (a := 0) (b := 6) (by omega) (by omega) (by omega)) (by omega)
theorem cls_from_hi {h h' : HI} {r x1 : Int32} (a : (¬ bd 0 1 x1 ∧ r = -2 ∧ h' = h) ∨ ∃ i, i < 2 ∧ x1 = nI i ∧ ((h 76 i = 0 ∧ r = -3 ∧ h' = h) ∨ (¬ h 76 i = 0 ∧ r = 1 ∧ ∃ h1, CPK h h1 1 (26 + 25 * i) 12 ∧ JJ SLaw h1 h'))) (o : Nat) (ho : 80 ≤ o) : h' o = h o := by
  rcases a with ⟨-, -, rfl⟩ | ⟨i, hi, -, ⟨-, -, rfl⟩ | ⟨-, -, h1, I, J⟩⟩
  · rfl
  · rfl
  · exact (J o (by unfold SLaw; omega)).trans (I.1 o (by omega))
theorem VRI.rf {h h' : HI} (v : VRI h) (F : ∀ o, o ≠ 136 → h' o = h o) (r : VR (h' 136)) : VRI h' := v.cg r (F 137 (by decide)) (F 138 (by decide))
theorem vr_erase {h h' : HI} (v : VRI h) (b : ST h h' (upd (h 136) 8 0)) : VRI h' := v.rf b.1 (by rw [b.2.1]; exact v.1.up (vg_0 (by omega)) (bd_all _) (by omega))
theorem vr_scrap {h h' : HI} (v : VRI h) (b : ST h h' (upd (upd (h 136) 4 0) 5 0)) : VRI h' := v.rf b.1 (by rw [b.2.1]; exact (v.1.up (vg_0 (by omega)) (bd_all _) (by omega)).up (vg_0 (by omega)) (bd_all _) (by omega))
theorem vr_ask {h h' : HI} (v : VRI h) (b : KJ SRef h h') : VRI h' :=
  have e : ∀ o, (∀ k, ¬ SRef o k) → h' o = h o := fun o m => funext fun k => b o k (m k)
  v.cg (by rw [e 136 (fun k => by unfold SRef; omega)]; exact v.1) (e 137 (fun k => by unfold SRef; omega)) (e 138 (fun k => by unfold SRef; omega))
theorem lw_ask {h h' : HI} (L : LW h) (b : KJ SRef h h') : LW h' := lw_ref L (fun o ho => funext fun k => b o k (by unfold SRef; omega))
theorem vr_image {h h' : HI} {s x1 : Int32} (v : VRI h) (b : (¬ bd 0 1 x1 ∧ s = -2 ∧ h' = h) ∨ ∃ i, i < 2 ∧ x1 = nI i ∧ s = 1 ∧ (∀ o, o ≠ 137 → o ≠ 138 → h' o = h o) ∧ h' 138 = upd (h 138) i 1 ∧ (∀ k, k < 887 → h' 137 (887 * i + k) = h 136 k) ∧ ∀ k, k < 887 * i ∨ 887 * i + 887 ≤ k → h' 137 k = h 137 k) : VRI h' := by
  rcases b with ⟨-, -, rfl⟩ | ⟨i, hi, -, -, F, F8, F7, F7'⟩
  · exact v
  · refine ⟨by rw [F 136 (by decide) (by decide)]; exact v.1, fun i' hi' hn => ?_⟩
    by_cases q : i' = i
    · subst q; exact v.1.cg (fun k hk => F7 k hk)
    · rw [F8, pk_un q] at hn
      exact (v.2 i' hi' hn).cg (fun k hk => F7' _ (by omega))
theorem vr_from {h h' : HI} {s x1 : Int32} (v : VRI h) (b : (¬ bd 0 1 x1 ∧ s = -2 ∧ h' = h) ∨ ∃ i, i < 2 ∧ x1 = nI i ∧ ((h 138 i = 0 ∧ s = -3 ∧ h' = h) ∨ (¬ h 138 i = 0 ∧ s = 1 ∧ (∀ o, o ≠ 136 → h' o = h o) ∧ (∀ k, k < 887 → h' 136 k = h 137 (887 * i + k)) ∧ ∀ k, 887 ≤ k → h' 136 k = h 136 k))) : VRI h' := by
  rcases b with ⟨-, -, rfl⟩ | ⟨i, hi, -, ⟨-, -, rfl⟩ | ⟨hn, -, F, F6, -⟩⟩
  · exact v
  · exact v
  · exact v.rf F ((v.2 i hi hn).cg (fun k hk => F6 k hk))
theorem ref_from_lo {h h' : HI} {s x1 : Int32} (b : (¬ bd 0 1 x1 ∧ s = -2 ∧ h' = h) ∨ ∃ i, i < 2 ∧ x1 = nI i ∧ ((h 138 i = 0 ∧ s = -3 ∧ h' = h) ∨ (¬ h 138 i = 0 ∧ s = 1 ∧ (∀ o, o ≠ 136 → h' o = h o) ∧ (∀ k, k < 887 → h' 136 k = h 137 (887 * i + k)) ∧ ∀ k, 887 ≤ k → h' 136 k = h 136 k))) (o : Nat) (ho : o ≠ 136) : h' o = h o := by
  rcases b with ⟨-, -, rfl⟩ | ⟨i, hi, -, ⟨-, -, rfl⟩ | ⟨hn, -, F, F6, -⟩⟩
  · rfl
  · rfl
  · exact F o ho
theorem ref_image_lo {h h' : HI} {s x1 : Int32} (b : (¬ bd 0 1 x1 ∧ s = -2 ∧ h' = h) ∨ ∃ i, i < 2 ∧ x1 = nI i ∧ s = 1 ∧ (∀ o, o ≠ 137 → o ≠ 138 → h' o = h o) ∧ h' 138 = upd (h 138) i 1 ∧ (∀ k, k < 887 → h' 137 (887 * i + k) = h 136 k) ∧ ∀ k, k < 887 * i ∨ 887 * i + 887 ≤ k → h' 137 k = h 137 k) (o : Nat) (ho : o ≤ 136) : h' o = h o := by
  rcases b with ⟨-, -, rfl⟩ | ⟨i, hi, -, -, F, -⟩
  · rfl
  · exact F o (by omega) (by omega)
theorem cls_image_lo {h h' : HI} {r x1 : Int32} (a : (¬ bd 0 1 x1 ∧ r = -2 ∧ h' = h) ∨ ∃ i, i < 2 ∧ x1 = nI i ∧ r = 1 ∧ ∃ h0, CPK h h0 (26 + 25 * i) 1 12 ∧ h' = hu h0 76 i 1) (o : Nat) (ho : o ≤ 26 ∨ 77 ≤ o) : h' o = h o := by
  rcases a with ⟨-, -, rfl⟩ | ⟨i, hi, -, -, h0, I0, rfl⟩
  · rfl
  · rw [hu_ne (by omega)]; exact I0.1 o (by omega)
/-- write, erase and from read the law anew -/
theorem q_X10_write {h : HI} {g : HL} (L : LW h) {m : Nat} (T : TT h 24 m 1 60) {x1 : Int32} : w_X10_write x1 h g (fun r h' _ => ADc (K_write x1) h r h' 24 m 1 60 1 (rowc x1 0 0 0) ∧ LW h') := by
  unfold w_X10_write
  refine c_wb (fun q0 => ⟨fun _ => ?_, fun c => absI c⟩) (fun q0 => ⟨fun c => absurd rfl c, fun _ => ⟨.inl ⟨fun hc => q0 (bd.mo hc (by decide) (by decide)), rfl, rfl⟩, L⟩⟩)
  have hC : K_write x1 := bd.mo q0 (by decide) (by decide)
  by_cases hm : m = 60
  · refine c_i (p_addF T hm) ?_
    rintro _ _ _ ⟨rfl, rfl, rfl⟩
    exact ⟨fun c => absurd rfl c, fun _ => ⟨.inr (.inl ⟨hC, hm, rfl, rfl⟩), L⟩⟩
  · have hlt : m < 60 := by have := T.2.2.2.1; omega
    refine c_i (p_add T hlt) ?_
    rintro _ h1 g1 ⟨rfl, -, J, T1, ho, hr⟩
    refine ⟨fun _ => ?_, fun c => absurd c (nI_m4 (by omega))⟩
    refine c_v (q_X4_read T1) ?_
    rintro h2 g2 ⟨J2, L2⟩
    refine c_i p_rows ?_
    rintro _ _ _ ⟨rfl, rfl, rfl⟩
    have e24 : h2 24 = h1 24 := J2 24 (by unfold SLaw; omega)
    have e25 : h2 25 = h1 25 := J2 25 (by unfold SLaw; omega)
    have T2 := T1.cg e24
    refine ⟨.inr (.inr ⟨hC, hlt, ?_, (J.mo SB.sm).tr (J2.mo SLaw.sm), T2, fun i hi => by rw [e25]; exact ho i (.inl hi), fun c hc => by rw [e25]; exact hr c hc⟩), LW.un T2 (by rw [e25]; exact L2)⟩
    rw [e24]; exact T1.2.2.1
theorem q_X10_erase {h : HI} {g : HL} {m : Nat} (T : TT h 24 m 1 60) : w_X10_erase h g (fun r h' _ => PTc (r = nI m) h h' 24 0 1 60 ∧ LW h') := by
  unfold w_X10_erase
  refine c_i p_rows ?_
  rintro _ _ _ ⟨rfl, rfl, rfl⟩
  refine c_v (p_empty T) ?_
  rintro h1 g1 ⟨-, J, T1⟩
  refine c_v (q_X4_read T1) ?_
  rintro h2 g2 ⟨J2, L2⟩
  have T2 := T1.cg (J2 24 (by unfold SLaw; omega))
  exact ⟨⟨T.2.2.1, (J.mo (fun q hq => by unfold SO at hq; unfold SM; omega)).tr (J2.mo SLaw.sm), T2⟩, LW.un T2 (by rw [J2 25 (by unfold SLaw; omega)]; exact L2)⟩
theorem q_X10_from {h : HI} {g : HL} (L : LW h) (c : CJ h) {x1 : Int32} : w_X10_from x1 h g (fun r h' _ => ((¬ bd 0 1 x1 ∧ r = -2 ∧ h' = h) ∨ ∃ i, i < 2 ∧ x1 = nI i ∧ ((h 76 i = 0 ∧ r = -3 ∧ h' = h) ∨ (¬ h 76 i = 0 ∧ r = 1 ∧ ∃ h1, CPK h h1 1 (26 + 25 * i) 12 ∧ JJ SLaw h1 h'))) ∧ LW h') := by
  unfold w_X10_from
  refine c_wb (fun q0 => ⟨fun _ => ?_, fun c => absI c⟩) (fun q0 => ⟨fun c => absurd rfl c, fun _ => ⟨.inl ⟨fun hc => q0 (bd.mo hc (by decide) (by decide)), rfl, rfl⟩, L⟩⟩)
  obtain ⟨i, i1, i2, rfl⟩ := bd_nI (bd.mo q0 (c := 0) (d := 1) (by decide) (by decide))
  rw [nI_clamp (n := i) (by omega)]
  refine and_have (vp_in_nI (by omega) (by omega)) (fun _ => ⟨fun ck => ?_, fun ck => ⟨.inr ⟨i, by omega, rfl, .inl ⟨ck, rfl, rfl⟩⟩, L⟩⟩)
  refine c_n (p_X10_imageAt (by omega)) ?_
  rintro _ _ _ ⟨rfl, rfl, rfl⟩
  have hs := isS26 (i := i) (by omega)
  refine and_have hs (fun _ => ?_)
  refine c_v (p_X6_copy (by omega) (c _ isS1) (c _ hs)) ?_
  intro h1 g1 I1
  obtain ⟨m1, -, T1, -⟩ := I1.2 11 (by omega)
  refine c_v (q_X4_read T1) ?_
  rintro h2 g2 ⟨J2, L2⟩
  exact ⟨.inr ⟨i, by omega, rfl, .inr ⟨ck, rfl, h1, I1, J2⟩⟩, LW.un (T1.cg (J2 24 (by unfold SLaw; omega))) (by rw [J2 25 (by unfold SLaw; omega)]; exact L2)⟩
theorem LW_start {h : HI} (T : TT h 24 0 1 60) (e : h 77 9 = 1) : LW h := LW.un T ⟨[], by
  rw [e]
  exact .inr (.inl ⟨fun k hk => absurd hk (Nat.not_lt_zero k), fun q => absurd q.1 (by decide), rfl, by decide⟩), fun q => by rw [e] at q; exact absurd q (by decide)⟩
theorem VR_start {f : Nat → Int32} (fr : ∀ i, i < 12 → f (140 + i) = fam i) (zr : ∀ i, i < 140 ∨ 152 ≤ i → f i = 0) : VR f := by
  have z : ∀ k, k < 20 ∨ 140 ≤ k ∧ k < 152 ∨ 887 ≤ k ∨ (vg k).1 ≤ 0 ∧ 0 ≤ (vg k).2 := fun k => by
    have w : ∀ (c : Nat) (r : Nat → Int × Int) (n : Nat), (∀ c, c < n → (r c).1 ≤ 0 ∧ 0 ≤ (r c).2) → c < n → (r c).1 ≤ 0 ∧ 0 ≤ (r c).2 := fun c r n h hc => h c hc
    by_cases k1 : k < 20
    · exact .inl k1
    by_cases k2 : k < 140
    · obtain ⟨m, c, rfl, hm, hc⟩ : ∃ m c, k = 20 + 5 * m + c ∧ m < 24 ∧ c < 5 := ⟨(k - 20) / 5, (k - 20) % 5, by omega, by omega, by omega⟩
      rw [vg_P hm hc]; exact .inr (.inr (.inr ((by decide : ∀ c, c < 5 → (vP c).1 ≤ 0 ∧ 0 ≤ (vP c).2) c hc)))
    by_cases k3 : k < 152
    · exact .inr (.inl ⟨by omega, k3⟩)
    by_cases k4 : k < 512
    · obtain ⟨m, c, rfl, hm, hc⟩ : ∃ m c, k = 152 + 6 * m + c ∧ m < 60 ∧ c < 6 := ⟨(k - 152) / 6, (k - 152) % 6, by omega, by omega, by omega⟩
      rw [vg_S hm hc]; exact .inr (.inr (.inr ((by decide : ∀ c, c < 6 → (vS c).1 ≤ 0 ∧ 0 ≤ (vS c).2) c hc)))
    by_cases k5 : k < 672
    · obtain ⟨m, c, rfl, hm, hc⟩ : ∃ m c, k = 512 + 10 * m + c ∧ m < 16 ∧ c < 10 := ⟨(k - 512) / 10, (k - 512) % 10, by omega, by omega, by omega⟩
      rw [vg_C hm hc]; exact .inr (.inr (.inr ((by decide : ∀ c, c < 10 → (vC c).1 ≤ 0 ∧ 0 ≤ (vC c).2) c hc)))
    by_cases k6 : k < 704
    · obtain ⟨m, c, rfl, hm, hc⟩ : ∃ m c, k = 672 + 4 * m + c ∧ m < 8 ∧ c < 4 := ⟨(k - 672) / 4, (k - 672) % 4, by omega, by omega, by omega⟩
      rw [vg_W hm hc]; exact .inr (.inr (.inr ((by decide : ∀ c, c < 4 → (vW c).1 ≤ 0 ∧ 0 ≤ (vW c).2) c hc)))
    by_cases k7 : k < 710
    · obtain ⟨m, rfl, hm⟩ : ∃ m, k = 704 + m ∧ m < 6 := ⟨k - 704, by omega, by omega⟩
      rw [vg_M hm]; exact .inr (.inr (.inr (by decide)))
    by_cases k8 : k < 737
    · obtain ⟨m, c, rfl, hm, hc⟩ : ∃ m c, k = 710 + 3 * m + c ∧ m < 9 ∧ c < 3 := ⟨(k - 710) / 3, (k - 710) % 3, by omega, by omega, by omega⟩
      rw [vg_X hm hc]; exact .inr (.inr (.inr ((by decide : ∀ c, c < 3 → (vX c).1 ≤ 0 ∧ 0 ≤ (vX c).2) c hc)))
    by_cases k9 : k < 817
    · obtain ⟨m, c, rfl, hm, hc⟩ : ∃ m c, k = 737 + 2 * m + c ∧ m < 40 ∧ c < 2 := ⟨(k - 737) / 2, (k - 737) % 2, by omega, by omega, by omega⟩
      rw [vg_T hm hc]; exact .inr (.inr (.inr ((by decide : ∀ c, c < 2 → (vT c).1 ≤ 0 ∧ 0 ≤ (vT c).2) c hc)))
    by_cases k10 : k < 823
    · obtain ⟨m, c, rfl, hm, hc⟩ : ∃ m c, k = 817 + 2 * m + c ∧ m < 3 ∧ c < 2 := ⟨(k - 817) / 2, (k - 817) % 2, by omega, by omega, by omega⟩
      rw [vg_H hm hc]; exact .inr (.inr (.inr ((by decide : ∀ c, c < 2 → (vH c).1 ≤ 0 ∧ 0 ≤ (vH c).2) c hc)))
    by_cases k11 : k < 827
    · obtain ⟨m, rfl, hm⟩ : ∃ m, k = 823 + m ∧ m < 4 := ⟨k - 823, by omega, by omega⟩
      rw [vg_N hm]; exact .inr (.inr (.inr (by decide)))
    by_cases k12 : k < 887
    · obtain ⟨m, rfl, hm⟩ : ∃ m, k = 827 + m ∧ m < 60 := ⟨k - 827, by omega, by omega⟩
      rw [vg_Z hm]; exact .inr (.inr (.inr (by decide)))
    exact .inr (.inr (.inl (by omega)))
  refine ⟨fun k => ?_, fun j hj => ?_⟩
  · rcases z k with c | ⟨c, d⟩ | c | c
    · unfold okV; rw [vg_0 c]; exact bd_all _
    · obtain ⟨i, rfl⟩ : ∃ i, k = 140 + i := ⟨k - 140, by omega⟩
      unfold okV; rw [vg_F c d, fr i (by omega)]
      unfold fam bd
      by_cases q : i % 3 = 2
      · rw [if_pos q]; decide
      · rw [if_neg q]; decide
    · unfold okV; rw [vg_E c]; exact bd_all _
    · by_cases q : 140 ≤ k ∧ k < 152
      · obtain ⟨i, rfl⟩ : ∃ i, k = 140 + i := ⟨k - 140, by omega⟩
        unfold okV; rw [vg_F q.1 q.2, fr i (by omega)]
        unfold fam bd
        by_cases q : i % 3 = 2
        · rw [if_pos q]; decide
        · rw [if_neg q]; decide
      · unfold okV bd
        rw [zr k (by omega)]; exact c
  · rw [fr (3 * j) (by omega), show 140 + 3 * j + 2 = 140 + (3 * j + 2) by omega, fr (3 * j + 2) (by omega), show 140 + 3 * j + 1 = 140 + (3 * j + 1) by omega, fr (3 * j + 1) (by omega)]
    unfold fam
    rw [if_neg (by omega), if_pos (by omega), if_neg (by omega)]
    decide
theorem INV3_start {h1 h2 : HI} (a : (∀ s, isS s → ∀ j, j < 12 → TT h1 (s + (1 + 2 * j)) (m0 j) (wJ j) (MJ j)) ∧ h1 76 = (fun _ => 0) ∧ (∀ i, i < 12 → h1 5 i = fam i) ∧ (∀ i, i < 4 → h1 23 i = 0) ∧ (∀ i, i < 2 → h1 17 i = 0) ∧ h1 77 9 = 1) (b : (∀ o, o < 135 → h2 o = h1 o) ∧ RG (h2 136) ∧ (∀ i, i < 9 → h2 136 i = 0) ∧ h2 138 = (fun _ => 0) ∧ h2 147 0 = 0 ∧ h2 147 1 = 1 ∧ (∀ i, i < 12 → h2 136 (140 + i) = fam i) ∧ ∀ i, i < 140 ∨ 152 ≤ i → h2 136 i = 0) : INV3 h2 :=
  ⟨⟨INV_start a b, RL_start a b⟩, LW_start ((a.1 1 isS1 11 (by omega)).cg (b.1 24 (by omega))) (by rw [b.1 77 (by omega)]; exact a.2.2.2.2.2), VR_start b.2.2.2.2.2.2.1 b.2.2.2.2.2.2.2, fun i hi hn => by rw [b.2.2.2.1] at hn; exact absurd rfl hn⟩
end
section
-- 70.cx
/-! WHAT A QUESTION MAY REST ON: the class's tables against the reference's numbers f -/
def CX (h : HI) (f : Nat → Int32) : Prop := CN h 1 f ∧ RL1 h 1 f ∧ LW h ∧ VR f ∧ RG f
theorem CX.of {h : HI} (v : INV3 h) : CX h (h 136) := ⟨v.1.1.2.2.2.1, v.1.2.1, v.2.1, v.2.2.1, v.1.1.2.1⟩
theorem CX.jj {S : Nat → Prop} {h h' : HI} {f : Nat → Int32} (c : CX h f) (J : JJ S h h') (n : ∀ q, q ≤ 80 → ¬ S q) : CX h' f :=
  ⟨c.1.cg (fun o _ ho => J o (n o (by omega))) (fun _ _ => rfl), c.2.1.cg (fun o _ ho => J o (n o (by omega))) (fun _ _ => rfl), lw_jj c.2.2.1 J n, c.2.2.2⟩
theorem CX.tP {h : HI} {f : Nat → Int32} (c : CX h f) : ∃ m, TT h 2 m 5 24 ∧ f 0 = nI m := c.1 0 (by omega)
theorem CX.tF {h : HI} {f : Nat → Int32} (c : CX h f) : TT h 4 4 3 4 := by
  obtain ⟨m, T, k⟩ := c.1 1 (by omega)
  have k : m = 4 := k
  subst k; exact T
theorem CX.tS {h : HI} {f : Nat → Int32} (c : CX h f) : ∃ m, TT h 6 m 6 60 ∧ f 1 = nI m := c.1 2 (by omega)
theorem CX.tC {h : HI} {f : Nat → Int32} (c : CX h f) : ∃ m, TT h 8 m 15 16 ∧ f 2 = nI m := c.1 3 (by omega)
theorem CX.tZ {h : HI} {f : Nat → Int32} (c : CX h f) : ∃ m, TT h 24 m 1 60 ∧ f 8 = nI m := c.1 11 (by omega)
theorem CX.ci {h : HI} {f : Nat → Int32} (c : CX h f) {j : Nat} (hj : j < 12) {m : Nat} (T : TT h (1 + (1 + 2 * j)) m (wJ j) (MJ j)) : CE h 1 f j m := c.2.1.1 j m hj T.2.2.2.1 T.2.2.1
theorem CX.cp {h : HI} {f : Nat → Int32} (c : CX h f) {m p k : Nat} (T : TT h 2 m 5 24) (hp : p < m) (hk : k < 4) : h 3 (p * 5 + k) = f (20 + 5 * p + k) := by
  have := (CE.e0.mp (c.ci (j := 0) (by omega) T)).1 p hp k hk
  rw [show 20 + 5 * p + k = 20 + (p * 5 + k) by omega]; exact this
theorem CX.cf {h : HI} {f : Nat → Int32} (c : CX h f) {p k : Nat} (hp : p < 4) (hk : k < 3) : h 5 (p * 3 + k) = f (140 + 3 * p + k) := by
  have := (CE.es (by decide) (by decide)).mp (c.ci (j := 1) (by omega) c.tF) (p * 3 + k) (by show p * 3 + k < 4 * 3; omega)
  rw [show 140 + 3 * p + k = 140 + (p * 3 + k) by omega]; exact this
theorem CX.cs {h : HI} {f : Nat → Int32} (c : CX h f) {m p k : Nat} (T : TT h 6 m 6 60) (hp : p < m) (hk : k < 6) : h 7 (p * 6 + k) = f (152 + 6 * p + k) := by
  have := (CE.es (by decide) (by decide)).mp (c.ci (j := 2) (by omega) T) (p * 6 + k) (by show p * 6 + k < m * 6; omega)
  rw [show 152 + 6 * p + k = 152 + (p * 6 + k) by omega]; exact this
theorem CX.cz {h : HI} {f : Nat → Int32} (c : CX h f) {m k : Nat} (T : TT h 24 m 1 60) (hk : k < m) : h 25 k = f (827 + k) := by
  exact (CE.es (by decide) (by decide)).mp (c.ci (j := 11) (by omega) T) k (by show k < m * 1; omega)
theorem VR.yr {f : Nat → Int32} (v : VR f) {a : Nat} (ha : a < 24) : ∃ b : Nat, b ≤ 99 ∧ f (20 + 5 * a + 2) = nI b := by
  obtain ⟨b, h1, -, e⟩ := bd_nI (v.at (vg_P (c := 2) ha (by omega)))
  have h1 : (b : Int) ≤ 99 := h1
  exact ⟨b, by omega, e⟩
theorem RG.z8 {f : Nat → Int32} (r : RG f) : ∃ n : Nat, n ≤ 60 ∧ f 8 = nI n := by
  obtain ⟨n, h1, -, e⟩ := bd_nI (r 8)
  have h1 : (n : Int) ≤ 60 := h1
  exact ⟨n, by omega, e⟩
/-- WORN of part a in the year y, by the reference's numbers -/
noncomputable def wvN (f : Nat → Int32) (a y : Nat) : Int32 := Classical.epsilon (fun v => ∃ (n b : Nat) (fl : Int32) (p : List Int32), f 8 = nI n ∧ n ≤ 60 ∧ f (20 + 5 * a + 2) = nI b ∧ b ≤ 99 ∧ RSl (fun k => f (827 + k)) n fl p ∧ v = wvl fl p (nI (y - b)) (f (20 + 5 * a + 0)) (f (20 + 5 * a + 1)))
theorem wvN_eq {f : Nat → Int32} {a y n b : Nat} {fl : Int32} {p : List Int32} (en : f 8 = nI n) (hn : n ≤ 60) (eb : f (20 + 5 * a + 2) = nI b) (hb : b ≤ 99) (r : RSl (fun k => f (827 + k)) n fl p) : wvl fl p (nI (y - b)) (f (20 + 5 * a + 0)) (f (20 + 5 * a + 1)) = wvN f a y := by
  have ex : ∃ v : Int32, ∃ (n b : Nat) (fl : Int32) (p : List Int32), f 8 = nI n ∧ n ≤ 60 ∧ f (20 + 5 * a + 2) = nI b ∧ b ≤ 99 ∧ RSl (fun k => f (827 + k)) n fl p ∧ v = wvl fl p (nI (y - b)) (f (20 + 5 * a + 0)) (f (20 + 5 * a + 1)) := ⟨_, n, b, fl, p, en, hn, eb, hb, r, rfl⟩
  obtain ⟨n', b', fl', p', en', hn', eb', hb', r', e⟩ := Classical.epsilon_spec ex
  have e1 : n = n' := (nI_eq (by omega) (by omega)).mp (en.symm.trans en')
  subst e1
  have e2 : b = b' := (nI_eq (by omega) (by omega)).mp (eb.symm.trans eb')
  subst e2
  exact (wvl_un r r').trans e.symm
theorem clC_bd (v : Int64) : bd 0 10000 (clC v) := by
  have e0 : (0 : Int64).toInt = 0 := by decide
  have e1 : (10000 : Int64).toInt = 10000 := by decide
  have key : ∀ w : Int64, 0 ≤ w.toInt ∧ w.toInt ≤ 10000 → bd 0 10000 w.toInt32 := fun w h => by
    unfold bd
    rw [Int64.toInt_toInt32, bm (by omega) (by omega)]; exact h
  unfold clC
  refine key _ ?_
  by_cases q : v < 10000
  · rw [if_pos q]
    by_cases q2 : v < 0
    · rw [if_pos q2, e0]; decide
    · rw [if_neg q2]
      rw [Int64.lt_iff_toInt_lt, e0] at q2
      rw [Int64.lt_iff_toInt_lt, e1] at q; omega
  · rw [if_neg q, if_neg (by decide), e1]; decide
theorem wvl_bd {fl : Int32} {p : List Int32} {d : Nat} {l hh : Int32} (hd : d ≤ 99) : bd 0 10000 (wvl fl p (nI d) l hh) := by
  unfold wvl
  by_cases q : fl = -1
  · rw [if_pos q]; exact clC_bd _
  · rw [if_neg q]; exact bd_of (by omega) (by omega) (by omega)
theorem CX.wv {h : HI} {f : Nat → Int32} (c : CX h f) {a y : Nat} (ha : a < 24) (hy : y ≤ 99) : bd 0 10000 (wvN f a y) := by
  obtain ⟨n, T, en⟩ := c.tZ
  obtain ⟨p, rs, -⟩ := c.2.2.1 n T
  obtain ⟨b, hb, eb⟩ := c.2.2.2.1.yr ha
  have hn := T.2.2.2.1
  rw [← wvN_eq (y := y) en hn eb hb (rs.cg (f' := fun k => f (827 + k)) (fun k hk => (c.cz T hk).symm))]
  exact wvl_bd (by omega)
theorem c_worn {h : HI} {g : HL} {f : Nat → Int32} (c : CX h f) {m a y : Nat} (T : TT h 2 m 5 24) (ha : a < m) (hy : y ≤ 99) {body : Int32 → HI → HL → Prop} (k : ∀ g', body (wvN f a y) h g') : ∃ P : Int32 → HI → HL → Prop, w_X4_wornOf (nI a) (nI y) h g P ∧ ∀ (r : Int32) (h : HI) (g : HL), P r h g → body r h g := by
  obtain ⟨n, T2, en⟩ := c.tZ
  have hm := T.2.2.2.1
  obtain ⟨b, hb, eb⟩ := c.2.2.2.1.yr (a := a) (by omega)
  refine c_i (q_X4_wornOf T (c.2.2.1 n T2) ha hy hb ((c.cp T ha (by omega)).trans eb)) ?_
  rintro r _ g' ⟨rfl, p, rs, rfl⟩
  rw [c.cp T ha (by omega), c.cp T ha (by omega), wvN_eq en T2.2.2.2.1 eb hb (rs.cg (f' := fun k => f (827 + k)) (fun k hk => (c.cz T2 hk).symm))]
  exact k g'
/-- the reference's side -/
theorem c_wornR {h : HI} {g : HL} (r : RG (h 136)) (v : VR (h 136)) {a y : Nat} (ha : a < 24) (hy : y ≤ 99) {body : Int32 → HI → HL → Prop} (k : ∀ h' g', KJ SRd h h' → body (wvN (h 136) a y) h' g') : ∃ P : Int32 → HI → HL → Prop, w_X11_wornOf (nI a) (nI y) h g P ∧ ∀ (r : Int32) (h : HI) (g : HL), P r h g → body r h g := by
  obtain ⟨n, hn, en⟩ := r.z8
  obtain ⟨b, hb, eb⟩ := v.yr ha
  refine c_i (q_X11_wornOf r.ri en hn ha hy hb eb) ?_
  rintro s h' g' ⟨J, fl, p, rs, rfl⟩
  rw [wvN_eq en hn eb hb rs]
  exact k h' g' J
/-! FAULT and WORN -/
/-- the answer of a question about a part and a year -/
def AWN (f : Nat → Int32) (m : Nat) (x1 x2 r : Int32) : Prop := (¬ (isRow (nI m) x1 ∧ bd 0 99 x2) ∧ r = -2) ∨ ∃ a y : Nat, a < m ∧ y ≤ 99 ∧ x1 = nI a ∧ x2 = nI y ∧ r = wvN f a y
theorem AWN.un {f : Nat → Int32} {m : Nat} (hm : m ≤ 24) {x1 x2 r s : Int32} (a : AWN f m x1 x2 r) (b : AWN f m x1 x2 s) : r = s := by
  rcases a with ⟨a1, rfl⟩ | ⟨p, y, hp, hy, rfl, rfl, rfl⟩
  · rcases b with ⟨-, rfl⟩ | ⟨p, y, hp, hy, rfl, rfl, -⟩
    · rfl
    · exact absurd ⟨row_of hp (by omega), bd_of (by omega) (by omega) (by omega)⟩ a1
  · rcases b with ⟨b1, -⟩ | ⟨p', y', hp', hy', e1, e2, rfl⟩
    · exact absurd ⟨row_of hp (by omega), bd_of (by omega) (by omega) (by omega)⟩ b1
    · have q1 : p = p' := (nI_eq (by omega) (by omega)).mp e1
      have q2 : y = y' := (nI_eq (by omega) (by omega)).mp e2
      rw [q1, q2]
end
section
-- 71.first
/-! NUMBERS WITH A SIGN -/
def i32 (z : Int) : Int32 := Int32.ofInt z
theorem i32_t {z : Int} (h : -2147483648 ≤ z ∧ z < 2147483648) : (i32 z).toInt = z := Int32.toInt_ofInt_of_le (by omega) (by omega)
theorem i32_e {x : Int32} {z : Int} (h : x.toInt = z) : x = i32 z := by rw [← h]; exact (Int32.ofInt_toInt x).symm
theorem i_add {a b : Int32} {x y : Int} (ha : a.toInt = x) (hb : b.toInt = y) (h : -2147483648 ≤ x + y ∧ x + y < 2147483648) : (a + b).toInt = x + y := by
  rw [Int32.toInt_add, ha, hb]; exact bm h.1 h.2
theorem i_sub {a b : Int32} {x y : Int} (ha : a.toInt = x) (hb : b.toInt = y) (h : -2147483648 ≤ x - y ∧ x - y < 2147483648) : (a - b).toInt = x - y := by
  rw [Int32.toInt_sub, ha, hb]; exact bm h.1 h.2
theorem i_mul {a b : Int32} {x y : Int} (ha : a.toInt = x) (hb : b.toInt = y) (h : -2147483648 ≤ x * y ∧ x * y < 2147483648) : (a * b).toInt = x * y := by
  rw [Int32.toInt_mul, ha, hb]; exact bm h.1 h.2
theorem i_div {a b : Int32} {x y : Int} (ha : a.toInt = x) (hb : b.toInt = y) (hx : 0 ≤ x) (hy : 1 ≤ y) : (a / b).toInt = x / y := by
  have h0 := Int32.toInt_lt a
  have h1 : 0 ≤ x / y := Int.ediv_nonneg hx (by omega)
  have h2 : x / y ≤ x := Int.ediv_le_self y hx
  rw [Int32.toInt_div, ha, hb, Int.tdiv_eq_ediv_of_nonneg hx]
  exact bm (by omega) (by omega)
theorem i_lt {a b : Int32} {x y : Int} (ha : a.toInt = x) (hb : b.toInt = y) : a < b ↔ x < y := by rw [Int32.lt_iff_toInt_lt, ha, hb]
theorem i_le {a b : Int32} {x y : Int} (ha : a.toInt = x) (hb : b.toInt = y) : a ≤ b ↔ x ≤ y := by rw [Int32.le_iff_toInt_le, ha, hb]
theorem i_eq {a b : Int32} {x y : Int} (ha : a.toInt = x) (hb : b.toInt = y) : a = b ↔ x = y := by rw [← Int32.toInt_inj, ha, hb]
/-- the greater of two, as written -/
theorem i_mx {a b : Int32} {x y : Int} (ha : a.toInt = x) (hb : b.toInt = y) : (if a < b then b else a).toInt = (if x < y then y else x) := by
  by_cases c : a < b
  · rw [if_pos c, if_pos ((i_lt ha hb).mp c)]; exact hb
  · rw [if_neg c, if_neg (fun q => c ((i_lt ha hb).mpr q))]; exact ha
theorem i0 : (0 : Int32).toInt = 0 := by decide
theorem i1 : (1 : Int32).toInt = 1 := by decide
theorem im1 : (-1 : Int32).toInt = -1 := by decide
theorem nI_nm {j : Nat} (h : j < 2 ^ 31) : ¬ nI j = -1 := fun e => by
  have := nI_toInt h
  rw [e, im1] at this
  omega
/-! PLACES IN A FAMILY: the first not below a bound, the last not above it -/
def pfN (b d z : Int) : Int := if z ≤ b then 0 else (z - b + d - 1) / d
def qfN (b d z : Int) : Int := if z < b then -1 else (z - b) / d
theorem pfN_le {b d z i : Int} (hd : 1 ≤ d) (hi : 0 ≤ i) : pfN b d z ≤ i ↔ z ≤ b + d * i := by
  unfold pfN
  have m0 : 0 ≤ d * i := Int.mul_nonneg (by omega) hi
  by_cases c : z ≤ b
  · rw [if_pos c]; omega
  · rw [if_neg c]
    have h := Int.ediv_lt_iff_lt_mul (a := z - b + d - 1) (b := i + 1) (c := d) (by omega)
    rw [Int.add_mul, Int.one_mul, Int.mul_comm i d] at h
    generalize (z - b + d - 1) / d = q at h ⊢
    omega
theorem le_qfN {b d z i : Int} (hd : 1 ≤ d) (hi : 0 ≤ i) : i ≤ qfN b d z ↔ b + d * i ≤ z := by
  unfold qfN
  have m0 : 0 ≤ d * i := Int.mul_nonneg (by omega) hi
  by_cases c : z < b
  · rw [if_pos c]; omega
  · rw [if_neg c]
    have h := Int.le_ediv_iff_mul_le (a := i) (b := z - b) (c := d) (by omega)
    rw [Int.mul_comm i d] at h
    generalize (z - b) / d = q at h ⊢
    omega
theorem pfN_bd {b d z : Int} (hb : 1 ≤ b) (hd : 1 ≤ d) (hd2 : d ≤ 100000) (hz : z ≤ 1000000) : 0 ≤ pfN b d z ∧ pfN b d z ≤ 1100000 := by
  unfold pfN
  by_cases c : z ≤ b
  · rw [if_pos c]; omega
  · rw [if_neg c]
    have h1 : 0 ≤ (z - b + d - 1) / d := Int.ediv_nonneg (by omega) (by omega)
    have h2 : (z - b + d - 1) / d ≤ z - b + d - 1 := Int.ediv_le_self d (by omega)
    omega
theorem qfN_bd {b d z : Int} (hb : 1 ≤ b) (hd : 1 ≤ d) (hz : z ≤ 1000000) : -1 ≤ qfN b d z ∧ qfN b d z ≤ 1000000 := by
  unfold qfN
  by_cases c : z < b
  · rw [if_pos c]; omega
  · rw [if_neg c]
    have h1 : 0 ≤ (z - b) / d := Int.ediv_nonneg (by omega) (by omega)
    have h2 : (z - b) / d ≤ z - b := Int.ediv_le_self d (by omega)
    omega
/-! THE FAMILY of part p -/
def fB (f : Nat → Int32) (p : Nat) : Int := if f (20 + 5 * p + 3) = -1 then 1 else (f (140 + 3 * (f (20 + 5 * p + 3)).toNatClampNeg)).toInt
def fD (f : Nat → Int32) (p : Nat) : Int := if f (20 + 5 * p + 3) = -1 then 1 else (f (140 + 3 * (f (20 + 5 * p + 3)).toNatClampNeg + 1)).toInt
def fM (f : Nat → Int32) (p : Nat) : Int := if f (20 + 5 * p + 3) = -1 then 100000 else (f (140 + 3 * (f (20 + 5 * p + 3)).toNatClampNeg + 2)).toInt
theorem VR.fam {f : Nat → Int32} (v : VR f) {p : Nat} (hp : p < 24) : f (20 + 5 * p + 3) = -1 ∨ ∃ j : Nat, j < 4 ∧ f (20 + 5 * p + 3) = nI j := by
  have b : bd (-1) 3 (f (20 + 5 * p + 3)) := v.at (vg_P (c := 3) hp (by omega))
  by_cases q : f (20 + 5 * p + 3) = -1
  · exact .inl q
  · have : ¬ (f (20 + 5 * p + 3)).toInt = -1 := fun e => q (Int32.toInt_inj.mp (e.trans im1.symm))
    obtain ⟨j, h1, -, e⟩ := bd_nI (x := f (20 + 5 * p + 3)) (b := 3) ⟨by have := b.1; omega, b.2⟩
    exact .inr ⟨j, by omega, e⟩
theorem fam_n {f : Nat → Int32} {p : Nat} (e : f (20 + 5 * p + 3) = -1) : fB f p = 1 ∧ fD f p = 1 ∧ fM f p = 100000 := ⟨if_pos e, if_pos e, if_pos e⟩
theorem fam_j {f : Nat → Int32} {p j : Nat} (hj : j < 4) (e : f (20 + 5 * p + 3) = nI j) : fB f p = (f (140 + 3 * j)).toInt ∧ fD f p = (f (140 + 3 * j + 1)).toInt ∧ fM f p = (f (140 + 3 * j + 2)).toInt := by
  have n : ¬ f (20 + 5 * p + 3) = -1 := by rw [e]; exact nI_nm (by omega)
  unfold fB fD fM
  rw [if_neg n, if_neg n, if_neg n, e, nI_clamp (by omega)]
  exact ⟨rfl, rfl, rfl⟩
def FOK (f : Nat → Int32) (p : Nat) : Prop := 1 ≤ fB f p ∧ 1 ≤ fD f p ∧ fD f p ≤ 100000 ∧ 1 ≤ fM f p ∧ fM f p ≤ 100000 ∧ fB f p + (fM f p - 1) * fD f p ≤ 100000
theorem VR.fok {f : Nat → Int32} (v : VR f) {p : Nat} (hp : p < 24) : FOK f p := by
  unfold FOK
  rcases v.fam hp with e | ⟨j, hj, e⟩
  · obtain ⟨a, b, c⟩ := fam_n e
    rw [a, b, c]; omega
  · obtain ⟨a, b, c⟩ := fam_j hj e
    rw [a, b, c]
    have h0 : bd 1 100000 (f (140 + 3 * j)) := v.at (vg_F (by omega) (by omega))
    have h1 : bd 1 100000 (f (140 + 3 * j + 1)) := v.at (vg_F (by omega) (by omega))
    have h2 : bd 1 100000 (f (140 + 3 * j + 2)) := v.at (vg_F (by omega) (by omega))
    exact ⟨h0.1, h1.1, h1.2, h2.1, h2.2, v.2 j hj⟩
/-- a size of the family, by its place -/
theorem FOK.sz {f : Nat → Int32} {p : Nat} (k : FOK f p) {i : Int} (h0 : 0 ≤ i) (h1 : i ≤ fM f p - 1) : 1 ≤ fB f p + fD f p * i ∧ fB f p + fD f p * i ≤ 100000 ∧ 0 ≤ fD f p * i := by
  obtain ⟨a, b, -, c, -, e⟩ := k
  have m0 : 0 ≤ fD f p * i := Int.mul_nonneg (by omega) h0
  have m1 : fD f p * i ≤ fD f p * (fM f p - 1) := Int.mul_le_mul_of_nonneg_left h1 (by omega)
  rw [Int.mul_comm (fD f p) (fM f p - 1)] at m1
  omega
/-! SAYINGS -/
def WB (f : Nat → Int32) : Prop := ∀ a y : Nat, a < 24 → y ≤ 99 → bd 0 10000 (wvN f a y)
theorem CX.wb {h : HI} {f : Nat → Int32} (c : CX h f) : WB f := fun _ _ ha hy => c.wv ha hy
noncomputable def sW (f : Nat → Int32) (s : Nat) : Int := if f (152 + 6 * s + 1) = 0 then (wvN f (f (152 + 6 * s + 0)).toNatClampNeg (f (152 + 6 * s + 4)).toNatClampNeg).toInt else 0
noncomputable def sL (f : Nat → Int32) (s : Nat) : Int := (f (152 + 6 * s + 2)).toInt - (f (152 + 6 * s + 3)).toInt + sW f s
noncomputable def sH (f : Nat → Int32) (s : Nat) : Int := (f (152 + 6 * s + 2)).toInt + (f (152 + 6 * s + 3)).toInt + sW f s
/-- a saying allows a size -/
def alw (f : Nat → Int32) (s : Nat) (z : Int) : Prop := (¬ f (152 + 6 * s + 1) = 2 → sL f s ≤ z) ∧ (¬ f (152 + 6 * s + 1) = 3 → z ≤ sH f s)
abbrev isO (f : Nat → Int32) (p s : Nat) : Prop := f (152 + 6 * s + 0) = nI p ∧ f (152 + 6 * s + 5) = 0
theorem VR.sp {f : Nat → Int32} (v : VR f) {s : Nat} (hs : s < 60) : ∃ a y : Nat, a < 24 ∧ y ≤ 99 ∧ f (152 + 6 * s + 0) = nI a ∧ f (152 + 6 * s + 4) = nI y := by
  obtain ⟨a, h1, -, e1⟩ := bd_nI (v.at (vg_S (c := 0) hs (by omega)))
  obtain ⟨y, h2, -, e2⟩ := bd_nI (v.at (vg_S (c := 4) hs (by omega)))
  have h1 : (a : Int) ≤ 23 := h1
  have h2 : (y : Int) ≤ 99 := h2
  exact ⟨a, y, by omega, by omega, e1, e2⟩
theorem s_bd {f : Nat → Int32} (v : VR f) (w : WB f) {s : Nat} (hs : s < 60) : 0 ≤ sW f s ∧ sW f s ≤ 10000 ∧ -10000 ≤ (f (152 + 6 * s + 2)).toInt ∧ (f (152 + 6 * s + 2)).toInt ≤ 100000 ∧ 0 ≤ (f (152 + 6 * s + 3)).toInt ∧ (f (152 + 6 * s + 3)).toInt ≤ 10000 := by
  have b2 : bd (-10000) 100000 (f (152 + 6 * s + 2)) := v.at (vg_S (c := 2) hs (by omega))
  have b3 : bd 0 10000 (f (152 + 6 * s + 3)) := v.at (vg_S (c := 3) hs (by omega))
  have b : 0 ≤ sW f s ∧ sW f s ≤ 10000 := by
    unfold sW
    by_cases q : f (152 + 6 * s + 1) = 0
    · rw [if_pos q]
      obtain ⟨a, y, ha, hy, e1, e2⟩ := v.sp hs
      rw [e1, e2, nI_clamp (by omega), nI_clamp (by omega)]
      exact w a y ha hy
    · rw [if_neg q]; omega
  exact ⟨b.1, b.2, b2.1, b2.2, b3.1, b3.2⟩
theorem sLH {f : Nat → Int32} (v : VR f) (w : WB f) {s : Nat} (hs : s < 60) : -20000 ≤ sL f s ∧ sL f s ≤ 110000 ∧ -20000 ≤ sH f s ∧ sH f s ≤ 120000 := by
  obtain ⟨a, b, c, d, e, g⟩ := s_bd v w hs
  unfold sL sH; omega
/-- the sizes of p's family that all its sayings among the first n allow -/
def okZs (f : Nat → Int32) (p n : Nat) (z : Int) : Prop := ∀ s, s < n → isO f p s → alw f s z
def FSp (f : Nat → Int32) (p n : Nat) (a b : Int) : Prop := 0 ≤ a ∧ b ≤ fM f p - 1 ∧ ∀ i, 0 ≤ i → i ≤ fM f p - 1 → ((a ≤ i ∧ i ≤ b) ↔ okZs f p n (fB f p + fD f p * i))
def FA (f : Nat → Int32) (p n : Nat) (lo hi m : Int) : Prop := ∃ a b, FSp f p n a b ∧ m = (if b < a then 0 else b - a + 1) ∧ lo = (if b < a then -1 else fB f p + fD f p * a) ∧ hi = (if b < a then -1 else fB f p + fD f p * b)
theorem FA.un {f : Nat → Int32} {p n : Nat} {lo hi m lo' hi' m' : Int} (x : FA f p n lo hi m) (y : FA f p n lo' hi' m') : lo = lo' ∧ hi = hi' ∧ m = m' := by
  obtain ⟨a, b, ⟨a0, b0, k⟩, rfl, rfl, rfl⟩ := x
  obtain ⟨a', b', ⟨a0', b0', k'⟩, rfl, rfl, rfl⟩ := y
  by_cases c : b < a
  · by_cases c' : b' < a'
    · rw [if_pos c, if_pos c, if_pos c, if_pos c', if_pos c', if_pos c']; exact ⟨rfl, rfl, rfl⟩
    · have h1 := (k a' a0' (by omega)).mpr ((k' a' a0' (by omega)).mp (by omega))
      omega
  · by_cases c' : b' < a'
    · have h1 := (k' a a0 (by omega)).mpr ((k a a0 (by omega)).mp (by omega))
      omega
    · have h1 := (k a' a0' (by omega)).mpr ((k' a' a0' (by omega)).mp (by omega))
      have h2 := (k' a a0 (by omega)).mpr ((k a a0 (by omega)).mp (by omega))
      have h3 := (k b' (by omega) b0').mpr ((k' b' (by omega) b0').mp (by omega))
      have h4 := (k' b (by omega) b0).mpr ((k b (by omega) b0).mp (by omega))
      have e1 : a = a' := by omega
      have e2 : b = b' := by omega
      subst e1; subst e2
      exact ⟨rfl, rfl, rfl⟩
noncomputable def f3 (f : Nat → Int32) (p : Nat) : Int × Int × Int := Classical.epsilon (fun t => ∃ n : Nat, f 1 = nI n ∧ n ≤ 60 ∧ FA f p n t.1 t.2.1 t.2.2)
theorem f3_eq {f : Nat → Int32} {p n : Nat} {lo hi m : Int} (en : f 1 = nI n) (hn : n ≤ 60) (x : FA f p n lo hi m) : f3 f p = (lo, hi, m) := by
  have ex : ∃ t : Int × Int × Int, ∃ n : Nat, f 1 = nI n ∧ n ≤ 60 ∧ FA f p n t.1 t.2.1 t.2.2 := ⟨(lo, hi, m), n, en, hn, x⟩
  obtain ⟨n', en', hn', x'⟩ := Classical.epsilon_spec ex
  have e : n = n' := (nI_eq (by omega) (by omega)).mp (en.symm.trans en')
  subst e
  obtain ⟨e1, e2, e3⟩ := x.un x'
  show Classical.epsilon _ = _
  generalize Classical.epsilon (fun t : Int × Int × Int => ∃ n : Nat, f 1 = nI n ∧ n ≤ 60 ∧ FA f p n t.1 t.2.1 t.2.2) = t at e1 e2 e3 ⊢
  obtain ⟨t1, t2, t3⟩ := t
  rw [e1, e2, e3]
noncomputable def fLo (f : Nat → Int32) (p : Nat) : Int32 := i32 (f3 f p).1
noncomputable def fHi (f : Nat → Int32) (p : Nat) : Int32 := i32 (f3 f p).2.1
noncomputable def fMn (f : Nat → Int32) (p : Nat) : Int32 := i32 (f3 f p).2.2
theorem f3_vals {f : Nat → Int32} {p n : Nat} {x y z : Int32} (en : f 1 = nI n) (hn : n ≤ 60) (a : FA f p n x.toInt y.toInt z.toInt) : x = fLo f p ∧ y = fHi f p ∧ z = fMn f p := by
  unfold fLo fHi fMn
  rw [f3_eq en hn a]
  exact ⟨i32_e rfl, i32_e rfl, i32_e rfl⟩
end
section
-- 72.find
/-! THE CLASS FINDS FIRST -/
def ofL (f : Nat → Int32) (p : Nat) : Nat → List Nat
  | 0 => []
  | k + 1 => if isO f p k then ofL f p k ++ [k] else ofL f p k
theorem ofL_y {f : Nat → Int32} {p k : Nat} (h : isO f p k) : ofL f p (k + 1) = ofL f p k ++ [k] := if_pos h
theorem ofL_n {f : Nat → Int32} {p k : Nat} (h : ¬ isO f p k) : ofL f p (k + 1) = ofL f p k := if_neg h
theorem ofL_mem {f : Nat → Int32} {p s : Nat} : ∀ {k : Nat}, s ∈ ofL f p k ↔ s < k ∧ isO f p s
  | 0 => ⟨fun h => absurd h List.not_mem_nil, fun h => absurd h.1 (Nat.not_lt_zero s)⟩
  | k + 1 => by
    have ih := ofL_mem (f := f) (p := p) (s := s) (k := k)
    by_cases q : isO f p k
    · rw [ofL_y q, List.mem_append, List.mem_singleton, ih]
      refine ⟨fun h => ?_, fun h => ?_⟩
      · rcases h with h | h
        · exact ⟨by omega, h.2⟩
        · exact ⟨by omega, by rw [h]; exact q⟩
      · by_cases e : s = k
        · exact .inr e
        · exact .inl ⟨by omega, h.2⟩
    · rw [ofL_n q, ih]
      refine ⟨fun h => ⟨by omega, h.2⟩, fun h => ⟨?_, h.2⟩⟩
      have : s ≠ k := fun e => q (by rw [← e]; exact h.2)
      omega
theorem ofL_len {f : Nat → Int32} {p : Nat} : ∀ {k : Nat}, (ofL f p k).length ≤ k
  | 0 => Nat.le_refl _
  | k + 1 => by
    have ih := ofL_len (f := f) (p := p) (k := k)
    by_cases q : isO f p k
    · rw [ofL_y q, List.length_append, List.length_singleton]; omega
    · rw [ofL_n q]; omega
noncomputable def cLo (f : Nat → Int32) (s : Nat) : Int := if f (152 + 6 * s + 1) = 2 then -1000000 else sL f s
noncomputable def cHi (f : Nat → Int32) (s : Nat) : Int := if f (152 + 6 * s + 1) = 3 then 1000000 else sH f s
theorem cLH {f : Nat → Int32} (v : VR f) (w : WB f) {s : Nat} (hs : s < 60) : -1000000 ≤ cLo f s ∧ cLo f s ≤ 110000 ∧ -20000 ≤ cHi f s ∧ cHi f s ≤ 1000000 := by
  obtain ⟨a, b, c, d⟩ := sLH v w hs
  unfold cLo cHi
  by_cases q : f (152 + 6 * s + 1) = 2
  · rw [if_pos q]
    by_cases q2 : f (152 + 6 * s + 1) = 3
    · rw [if_pos q2]; omega
    · rw [if_neg q2]; omega
  · rw [if_neg q]
    by_cases q2 : f (152 + 6 * s + 1) = 3
    · rw [if_pos q2]; omega
    · rw [if_neg q2]; omega
theorem alw_c {f : Nat → Int32} {s : Nat} {z : Int} (h1 : -1000000 ≤ z) (h2 : z ≤ 1000000) : alw f s z ↔ cLo f s ≤ z ∧ z ≤ cHi f s := by
  unfold alw cLo cHi
  by_cases q : f (152 + 6 * s + 1) = 2
  · rw [if_pos q]
    have q2 : ¬ f (152 + 6 * s + 1) = 3 := by rw [q]; decide
    rw [if_neg q2]
    exact ⟨fun x => ⟨h1, x.2 q2⟩, fun x => ⟨fun n => absurd q n, fun _ => x.2⟩⟩
  · rw [if_neg q]
    by_cases q2 : f (152 + 6 * s + 1) = 3
    · rw [if_pos q2]
      exact ⟨fun x => ⟨x.1 q, h2⟩, fun x => ⟨fun _ => x.1, fun n => absurd q2 n⟩⟩
    · rw [if_neg q2]
      exact ⟨fun x => ⟨x.1 q, x.2 q2⟩, fun x => ⟨fun _ => x.1, fun _ => x.2⟩⟩
/-- the sayings that count, in the class's rows -/
def ARR (h : HI) (f : Nat → Int32) (p k : Nat) : Prop := ∀ i s, (ofL f p k)[i]? = some s → h 82 i = i32 (cLo f s) ∧ h 83 i = i32 (cHi f s) ∧ h 84 i = nI s
def SZ (h : HI) (f : Nat → Int32) (p n : Nat) : Prop := h 81 9 = fLo f p ∧ h 81 10 = fHi f p ∧ h 81 11 = fMn f p ∧ (h 81 6).toInt = fB f p ∧ (h 81 7).toInt = fD f p ∧ (h 81 8).toInt = fM f p - 1 ∧ h 81 5 = nI (ofL f p n).length ∧ ARR h f p n
theorem q_X7_chooseFamily {h : HI} {g : HL} {f : Nat → Int32} (c : CX h f) {p : Nat} (hp : p < 24) : w_X7_chooseFamily (f (20 + 5 * p + 3)) h g (fun h' _ => JJ SSz h h' ∧ (h' 81 6).toInt = fB f p ∧ (h' 81 7).toInt = fD f p ∧ (h' 81 8).toInt = fM f p - 1) := by
  have T := c.tF
  have v := c.2.2.2.1
  have k := v.fok hp
  have S81 : SSz 81 := by unfold SSz; omega
  have j33 : ∀ (x s1 : Int32) (g1 : HL), (f (20 + 5 * p + 3) = -1 ∧ x = 0 ∨ ¬ f (20 + 5 * p + 3) = -1 ∧ ¬ x = 0) → s1.toInt = fB f p → j_X7_chooseFamily_33 (fun h' _ => JJ SSz h h' ∧ (h' 81 6).toInt = fB f p ∧ (h' 81 7).toInt = fD f p ∧ (h' 81 8).toInt = fM f p - 1) (f (20 + 5 * p + 3)) x s1 h g1 := by
    intro x s1 g1 o es
    unfold j_X7_chooseFamily_33
    intro h1 e1
    have J1 : JJ SSz h h1 := JJ.rf.hu e1 S81
    have T1 : TT h1 4 4 3 4 := T.cg (J1 4 (by unfold SSz; omega))
    have e5 : h1 5 = h 5 := J1 5 (by unfold SSz; omega)
    have j61 : ∀ (s2 : Int32) (g2 : HL), s2.toInt = fD f p → j_X7_chooseFamily_61 (fun h' _ => JJ SSz h h' ∧ (h' 81 6).toInt = fB f p ∧ (h' 81 7).toInt = fD f p ∧ (h' 81 8).toInt = fM f p - 1) (f (20 + 5 * p + 3)) x s2 h1 g2 := by
      intro s2 g2 es2
      unfold j_X7_chooseFamily_61
      intro h2 e2
      have J2 : JJ SSz h h2 := J1.hu e2 S81
      have T2 : TT h2 4 4 3 4 := T.cg (J2 4 (by unfold SSz; omega))
      have j86 : ∀ (s3 : Int32) (g3 : HL), s3.toInt = fM f p → j_X7_chooseFamily_86 (fun h' _ => JJ SSz h h' ∧ (h' 81 6).toInt = fB f p ∧ (h' 81 7).toInt = fD f p ∧ (h' 81 8).toInt = fM f p - 1) s3 h2 g3 := by
        intro s3 g3 es3
        unfold j_X7_chooseFamily_86
        intro h3 e3
        obtain ⟨k1, k2, k3, k4, k5, k6⟩ := k
        refine ⟨J2.hu e3 S81, ?_, ?_, ?_⟩
        · rw [e3, hu_eq, pk_un (by decide), e2, hu_eq, pk_un (by decide), e1, hu_eq, pk_us]; exact es
        · rw [e3, hu_eq, pk_un (by decide), e2, hu_eq, pk_us]; exact es2
        · rw [e3, hu_eq, pk_us]; exact i_sub es3 i1 (by omega)
      rcases o with ⟨o1, o2⟩ | ⟨o1, o2⟩
      · exact ⟨fun _ => j86 _ _ (by rw [(fam_n o1).2.2]; decide), fun q => absurd o2 q⟩
      · refine ⟨fun q => absurd q o2, fun _ => ?_⟩
        obtain ⟨j, hj, ej⟩ := (v.fam hp).resolve_left o1
        rw [ej]
        refine c_i (p_atT T2) ?_
        rintro _ _ _ ⟨rfl, rfl, rfl⟩
        refine j86 _ _ ?_
        rw [(fam_j hj ej).2.2, show tat h2 4 (nI j) (2 : Int32) = h2 5 (j * 3 + 2) from tat_nI T2 (b := 2) hj (by omega), J2 5 (by unfold SSz; omega), c.cf hj (by omega)]
    rcases o with ⟨o1, o2⟩ | ⟨o1, o2⟩
    · exact ⟨fun _ => j61 _ _ (by rw [(fam_n o1).2.1]; decide), fun q => absurd o2 q⟩
    · refine ⟨fun q => absurd q o2, fun _ => ?_⟩
      obtain ⟨j, hj, ej⟩ := (v.fam hp).resolve_left o1
      have d1 : 1 ≤ fD f p := k.2.1
      rw [ej] at j61 ⊢
      refine c_i (p_atT T1) ?_
      rintro _ _ _ ⟨rfl, rfl, rfl⟩
      refine j61 _ _ ?_
      have ed : (tat h1 4 (nI j) (1 : Int32)).toInt = fD f p := by
        rw [(fam_j hj ej).2.1, show tat h1 4 (nI j) (1 : Int32) = h1 5 (j * 3 + 1) from tat_nI T1 (b := 1) hj (by omega), e5, c.cf hj (by omega)]
      rw [i_mx i1 ed]
      by_cases q : 1 < fD f p
      · rw [if_pos q]
      · rw [if_neg q]; omega
  unfold w_X7_chooseFamily
  refine c_hb (fun q0 => ⟨fun q => absI q, fun _ => ?_⟩) (fun q0 => ⟨fun _ => ?_, fun q => absN q⟩)
  · obtain ⟨j, hj, ej⟩ := row_n q0 T.2.2.1 (by omega)
    rw [ej] at j33 ⊢
    refine c_i (p_atT T) ?_
    rintro _ _ _ ⟨rfl, rfl, rfl⟩
    refine j33 1 _ _ (.inr ⟨nI_nm (by omega), by decide⟩) ?_
    rw [(fam_j hj ej).1, show tat h 4 (nI j) (0 : Int32) = h 5 (j * 3 + 0) from tat_nI T (b := 0) hj (by omega), c.cf hj (by omega), Nat.add_zero]
  · have o1 : f (20 + 5 * p + 3) = -1 := by
      rcases v.fam hp with e | ⟨j, hj, e⟩
      · exact e
      · exact absurd (by rw [e, T.2.2.1]; exact row_of hj (by omega)) q0
    exact j33 0 1 g (.inl ⟨o1, rfl⟩) (by rw [(fam_n o1).1]; decide)
theorem CX.at6 {h : HI} {f : Nat → Int32} (c : CX h f) {m s k : Nat} (S : TT h 6 m 6 60) (hs : s < m) (hk : k < 6) : tat h 6 (nI s) (nI k) = f (152 + 6 * s + k) := (tat_nI S hs hk).trans (c.cs S hs hk)
theorem q_X7_allow {h : HI} {g : HL} {f : Nat → Int32} (c : CX h f) {m n p s i : Nat} (T : TT h 2 m 5 24) (S : TT h 6 n 6 60) (hp : p < m) (hs : s < n) (hi : i < 60) (o : isO f p s) : w_X7_allow (nI p) (nI s) (nI i) h g (fun h' _ => JJ SSz h h' ∧ h' 81 = h 81 ∧ h' 82 = upd (h 82) i (i32 (cLo f s)) ∧ h' 83 = upd (h 83) i (i32 (cHi f s)) ∧ h' 84 = upd (h 84) i (nI s)) := by
  have hn := S.2.2.2.1
  have hm := T.2.2.2.1
  have v := c.2.2.2.1
  have w := c.wb
  obtain ⟨b1, b2, b3, b4, b5, b6⟩ := s_bd v w (s := s) (by omega)
  have vi : vp_in (nI i) 60 := vp_in_nI hi (by omega)
  have j104 : ∀ (x5 : Int32) (g1 : HL), x5.toInt = (f (152 + 6 * s + 2)).toInt + sW f s → j_X7_allow_104 (fun h' _ => JJ SSz h h' ∧ h' 81 = h 81 ∧ h' 82 = upd (h 82) i (i32 (cLo f s)) ∧ h' 83 = upd (h 83) i (i32 (cHi f s)) ∧ h' 84 = upd (h 84) i (nI s)) (nI s) (nI i) (f (152 + 6 * s + 1)) x5 (f (152 + 6 * s + 3)) h g1 := by
    intro x5 g1 e5
    have j125 : ∀ s2 : Int32, s2 = i32 (cLo f s) → j_X7_allow_125 (fun h' _ => JJ SSz h h' ∧ h' 81 = h 81 ∧ h' 82 = upd (h 82) i (i32 (cLo f s)) ∧ h' 83 = upd (h 83) i (i32 (cHi f s)) ∧ h' 84 = upd (h 84) i (nI s)) (nI s) (nI i) (f (152 + 6 * s + 1)) x5 (f (152 + 6 * s + 3)) (nI i) s2 h g1 := by
      rintro _ rfl
      unfold j_X7_allow_125
      refine and_have vi (fun _ => ?_)
      intro h1 e1
      rw [nI_clamp (by omega)] at e1
      have j147 : ∀ s2 : Int32, s2 = i32 (cHi f s) → j_X7_allow_147 (fun h' _ => JJ SSz h h' ∧ h' 81 = h 81 ∧ h' 82 = upd (h 82) i (i32 (cLo f s)) ∧ h' 83 = upd (h 83) i (i32 (cHi f s)) ∧ h' 84 = upd (h 84) i (nI s)) (nI s) (nI i) (nI i) s2 h1 g1 := by
        rintro _ rfl
        unfold j_X7_allow_147
        refine and_have vi (fun _ => ?_)
        intro h2 e2
        rw [nI_clamp (by omega)] at e2
        refine and_have vi (fun _ => ?_)
        intro h3 e3
        rw [nI_clamp (by omega)] at e3
        refine ⟨((JJ.rf.hu e1 (by unfold SSz; omega)).hu e2 (by unfold SSz; omega)).hu e3 (by unfold SSz; omega), ?_, ?_, ?_, ?_⟩
        · rw [e3, hu_ne (by decide), e2, hu_ne (by decide), e1, hu_ne (by decide)]
        · rw [e3, hu_ne (by decide), e2, hu_ne (by decide), e1, hu_eq]
        · rw [e3, hu_ne (by decide), e2, hu_eq, e1, hu_ne (by decide)]
        · rw [e3, hu_eq, e2, hu_ne (by decide), e1, hu_ne (by decide)]
      refine ⟨fun q => j147 _ ?_, fun q => j147 _ ?_⟩
      · have e : (x5 + f (152 + 6 * s + 3)).toInt = cHi f s := by
          unfold cHi
          rw [if_neg q, i_add e5 rfl (by omega)]
          unfold sH; omega
        exact i32_e e
      · skip
        have e : (1000000 : Int32).toInt = cHi f s := by
          unfold cHi
          rw [if_pos q]; decide
        exact i32_e e
    unfold j_X7_allow_104
    refine ⟨fun q => j125 _ ?_, fun q => j125 _ ?_⟩
    · have e : (x5 - f (152 + 6 * s + 3)).toInt = cLo f s := by
        unfold cLo
        rw [if_neg q, i_sub e5 rfl (by omega)]
        unfold sL; omega
      exact i32_e e
    · skip
      have e : (-1000000 : Int32).toInt = cLo f s := by
        unfold cLo
        rw [if_pos q]; decide
      exact i32_e e
  have i60 : ¬ (60 : Int32) ≤ nI i := fun q => by
    rw [show (60 : Int32) = nI 60 from rfl, nI_leI (by omega) (by omega)] at q; omega
  unfold w_X7_allow
  refine ⟨fun q => absurd q (nI_pos (by omega)), fun _ => ⟨fun q => absurd q i60, fun _ => ⟨fun q => absurd q i60, fun _ => ⟨fun _ => ?_, fun q => absurd ((nI_ltI (b := 60) (by omega) (by omega)).mpr hi) q⟩⟩⟩⟩
  refine c_i (p_atT S) ?_
  rintro _ _ _ ⟨rfl, rfl, rfl⟩
  refine c_i (p_atT S) ?_
  rintro _ _ _ ⟨rfl, rfl, rfl⟩
  refine c_i (p_atT S) ?_
  rintro _ _ _ ⟨rfl, rfl, rfl⟩
  rw [show tat h 6 (nI s) (1 : Int32) = f (152 + 6 * s + 1) from c.at6 S (k := 1) hs (by omega), show tat h 6 (nI s) (2 : Int32) = f (152 + 6 * s + 2) from c.at6 S (k := 2) hs (by omega), show tat h 6 (nI s) (3 : Int32) = f (152 + 6 * s + 3) from c.at6 S (k := 3) hs (by omega)]
  refine ⟨fun q => j104 _ _ ?_, fun q => ?_⟩
  · unfold sW
    rw [if_neg q]; omega
  · skip
    refine c_i (p_atT S) ?_
    rintro _ _ _ ⟨rfl, rfl, rfl⟩
    obtain ⟨a, y, ha, hy, ea, ey⟩ := v.sp (s := s) (by omega)
    rw [show tat h 6 (nI s) (4 : Int32) = nI y from (c.at6 S (k := 4) hs (by omega)).trans ey]
    refine c_worn c T hp hy (fun g2 => ?_)
    rintro _ rfl
    refine j104 _ _ ?_
    have eW : (wvN f p y).toInt = sW f s := by
      unfold sW
      rw [if_pos q, o.1, ey, nI_clamp (by omega), nI_clamp (by omega)]
    exact i_add rfl eW (by omega)
theorem q_X7_placeFrom {h : HI} {g : HL} {x : Int32} {b d z : Int} (ex : x.toInt = z) (b6 : (h 81 6).toInt = b) (b7 : (h 81 7).toInt = d) (hb : 1 ≤ b ∧ b ≤ 100000) (hd : 1 ≤ d ∧ d ≤ 100000) (hz : -1000000 ≤ z ∧ z ≤ 1000000) : w_X7_placeFrom x h g (fun r h' g' => r.toInt = pfN b d z ∧ h = h' ∧ g = g') := by
  unfold w_X7_placeFrom
  refine ⟨fun q => ?_, fun q => ⟨fun _ => ⟨fun e => ?_, ?_, rfl, rfl⟩, fun q1 => absurd ((i_le i1 b7).mpr hd.1) q1⟩⟩
  · unfold j_X7_placeFrom_16
    rw [i_le ex b6] at q
    exact ⟨by unfold pfN; rw [if_pos q]; exact i0, rfl, rfl⟩
  · rw [e, i0] at b7; omega
  · rw [i_le ex b6] at q
    unfold pfN; rw [if_neg q]
    exact i_div (i_sub (i_add (i_sub ex b6 (by omega)) b7 (by omega)) i1 (by omega)) b7 (by omega) (by omega)
def S81 (q : Nat) : Prop := q = 81
theorem q_X7_chooseSizes {h : HI} {g : HL} {f : Nat → Int32} {p n : Nat} (v : VR f) (w : WB f) (k : FOK f p) (hn : n ≤ 60) (b6 : (h 81 6).toInt = fB f p) (b7 : (h 81 7).toInt = fD f p) (b8 : (h 81 8).toInt = fM f p - 1) (e5 : h 81 5 = nI (ofL f p n).length) (A : ARR h f p n) : w_X7_chooseSizes h g (fun h' _ => JJ S81 h h' ∧ (∀ i, i < 9 → h' 81 i = h 81 i) ∧ FA f p n (h' 81 9).toInt (h' 81 10).toInt (h' 81 11).toInt) := by
  have hl : (ofL f p n).length ≤ 60 := Nat.le_trans ofL_len hn
  have k0 := k
  obtain ⟨k1, k2, k3, k4, k5, k6⟩ := k
  have kB : fB f p ≤ 100000 := by
    have := Int.mul_nonneg (a := fM f p - 1) (b := fD f p) (by omega) (by omega)
    omega
  have fin : ∀ (x3 s0 : Int32) (g1 : HL), FSp f p n x3.toInt s0.toInt → x3.toInt ≤ 1100000 → -1 ≤ s0.toInt → j_X7_chooseSizes_106 (fun h' _ => JJ S81 h h' ∧ (∀ i, i < 9 → h' 81 i = h 81 i) ∧ FA f p n (h' 81 9).toInt (h' 81 10).toInt (h' 81 11).toInt) x3 s0 h g1 := by
    intro x3 s0 g1 fs hx hs
    obtain ⟨a0, b0, -⟩ := id fs
    have em : ((s0 - x3) + 1).toInt = s0.toInt - x3.toInt + 1 := i_add (i_sub rfl rfl (by omega)) i1 (by omega)
    have sza : ¬ s0.toInt < x3.toInt → 1 ≤ fB f p + fD f p * x3.toInt ∧ fB f p + fD f p * x3.toInt ≤ 100000 ∧ 0 ≤ fD f p * x3.toInt := fun q => k0.sz a0 (by omega)
    have szb : ¬ s0.toInt < x3.toInt → 1 ≤ fB f p + fD f p * s0.toInt ∧ fB f p + fD f p * s0.toInt ≤ 100000 ∧ 0 ≤ fD f p * s0.toInt := fun q => k0.sz (by omega) b0
    unfold j_X7_chooseSizes_106
    intro h1 e1
    have c11 : (h1 81 11).toInt = (if s0.toInt < x3.toInt then 0 else s0.toInt - x3.toInt + 1) := by
      rw [e1, hu_eq, pk_us, i_mx i0 em]
      by_cases q : s0.toInt < x3.toInt
      · rw [if_pos q, if_neg (by omega)]
      · rw [if_neg q, if_pos (by omega)]
    have c6 : (h1 81 6).toInt = fB f p := by rw [e1, hu_eq, pk_un (by decide)]; exact b6
    have c7 : (h1 81 7).toInt = fD f p := by rw [e1, hu_eq, pk_un (by decide)]; exact b7
    have le0 : h1 81 11 ≤ 0 ↔ s0.toInt < x3.toInt := by
      rw [i_le c11 i0]
      by_cases q : s0.toInt < x3.toInt
      · rw [if_pos q]; omega
      · rw [if_neg q]; omega
    have j145 : ∀ s1 : Int32, s1.toInt = (if s0.toInt < x3.toInt then -1 else fB f p + fD f p * x3.toInt) → j_X7_chooseSizes_145 (fun h' _ => JJ S81 h h' ∧ (∀ i, i < 9 → h' 81 i = h 81 i) ∧ FA f p n (h' 81 9).toInt (h' 81 10).toInt (h' 81 11).toInt) s0 s1 h1 g1 := by
      intro s1 es1
      unfold j_X7_chooseSizes_145
      intro h2 e2
      have d11 : h2 81 11 = h1 81 11 := by rw [e2, hu_eq, pk_un (by decide)]
      have d6 : (h2 81 6).toInt = fB f p := by rw [e2, hu_eq, pk_un (by decide)]; exact c6
      have d7 : (h2 81 7).toInt = fD f p := by rw [e2, hu_eq, pk_un (by decide)]; exact c7
      have j172 : ∀ s2 : Int32, s2.toInt = (if s0.toInt < x3.toInt then -1 else fB f p + fD f p * s0.toInt) → j_X7_chooseSizes_172 (fun h' _ => JJ S81 h h' ∧ (∀ i, i < 9 → h' 81 i = h 81 i) ∧ FA f p n (h' 81 9).toInt (h' 81 10).toInt (h' 81 11).toInt) s2 h2 g1 := by
        intro s2 es2
        unfold j_X7_chooseSizes_172
        intro h3 e3
        refine ⟨((JJ.rf.hu e1 (by unfold S81; omega)).hu e2 (by unfold S81; omega)).hu e3 (by unfold S81; omega), fun i hi => ?_, x3.toInt, s0.toInt, fs, ?_, ?_, ?_⟩
        · rw [e3, hu_eq, pk_un (by omega), e2, hu_eq, pk_un (by omega), e1, hu_eq, pk_un (by omega)]
        · rw [e3, hu_eq, pk_un (by decide), d11]; exact c11
        · rw [e3, hu_eq, pk_un (by decide), e2, hu_eq, pk_us]; exact es1
        · rw [e3, hu_eq, pk_us]; exact es2
      rw [d11]
      refine ⟨fun q => j172 _ ?_, fun q => j172 _ ?_⟩
      · rw [if_pos (le0.mp q)]; exact im1
      · have q : ¬ s0.toInt < x3.toInt := fun z => q (le0.mpr z)
        have := szb q
        rw [if_neg q, i_add d6 (i_mul rfl d7 (by rw [Int.mul_comm]; omega)) (by rw [Int.mul_comm s0.toInt]; omega), Int.mul_comm s0.toInt]
    refine ⟨fun q => j145 _ ?_, fun q => j145 _ ?_⟩
    · rw [if_pos (le0.mp q)]; exact im1
    · have q : ¬ s0.toInt < x3.toInt := fun z => q (le0.mpr z)
      have := sza q
      rw [if_neg q, i_add c6 (i_mul rfl c7 (by rw [Int.mul_comm]; omega)) (by rw [Int.mul_comm x3.toInt]; omega), Int.mul_comm x3.toInt]
  have j62 : ∀ (x1 x2 : Int32) (g1 : HL), -1000000 ≤ x1.toInt → x1.toInt ≤ 120000 → -20000 ≤ x2.toInt → x2.toInt ≤ 1000000 → (∀ z : Int, x1.toInt ≤ z ↔ (-1000000 ≤ z ∧ ∀ j s, j < (ofL f p n).length → (ofL f p n)[j]? = some s → cLo f s ≤ z)) → (∀ z : Int, z ≤ x2.toInt ↔ (z ≤ 1000000 ∧ ∀ j s, j < (ofL f p n).length → (ofL f p n)[j]? = some s → z ≤ cHi f s)) → j_X7_chooseSizes_62 (fun h' _ => JJ S81 h h' ∧ (∀ i, i < 9 → h' 81 i = h 81 i) ∧ FA f p n (h' 81 9).toInt (h' 81 10).toInt (h' 81 11).toInt) x1 x2 h g1 := by
    intro x1 x2 g1 l1 l2 l3 l4 kL kH
    have both : ∀ z : Int, 1 ≤ z → z ≤ 100000 → ((x1.toInt ≤ z ∧ z ≤ x2.toInt) ↔ okZs f p n z) := by
      intro z z1 z2
      rw [kL, kH]
      refine ⟨fun q s hs o => ?_, fun q => ⟨⟨by omega, fun j s _ e => ?_⟩, by omega, fun j s _ e => ?_⟩⟩
      · obtain ⟨j, e⟩ := List.mem_iff_getElem?.mp (ofL_mem.mpr ⟨hs, o⟩)
        have hj : j < (ofL f p n).length := (List.getElem?_eq_some_iff.mp e).1
        exact (alw_c (by omega) (by omega)).mpr ⟨q.1.2 j s hj e, q.2.2 j s hj e⟩
      · have m := ofL_mem.mp (List.mem_iff_getElem?.mpr ⟨j, e⟩)
        exact ((alw_c (by omega) (by omega)).mp (q s m.1 m.2)).1
      · have m := ofL_mem.mp (List.mem_iff_getElem?.mpr ⟨j, e⟩)
        exact ((alw_c (by omega) (by omega)).mp (q s m.1 m.2)).2
    have pb := pfN_bd (b := fB f p) (d := fD f p) (z := x1.toInt) k1 k2 k3 (by omega)
    unfold j_X7_chooseSizes_62
    refine c_i (q_X7_placeFrom (x := x1) rfl b6 b7 (by omega) (by omega) (by omega)) ?_
    rintro r _ _ ⟨er, rfl, rfl⟩
    have low : x2.toInt < fB f p → j_X7_chooseSizes_84 (fun h' _ => JJ S81 h h' ∧ (∀ i, i < 9 → h' 81 i = h 81 i) ∧ FA f p n (h' 81 9).toInt (h' 81 10).toInt (h' 81 11).toInt) r h g1 := by
      intro q
      unfold j_X7_chooseSizes_84
      refine fin r (-1) g1 ⟨by omega, by rw [im1]; omega, fun i h0 h1 => ?_⟩ (by omega) (by rw [im1]; omega)
      have s := k0.sz h0 h1
      rw [im1, ← both _ s.1 s.2.1]
      omega
    refine ⟨fun q => low ((i_lt rfl b6).mp q), fun q => ⟨fun _ => ⟨fun e => ?_, ?_⟩, fun q1 => absurd ((i_le i1 b7).mpr k2) q1⟩⟩
    · rw [e, i0] at b7; omega
    · rw [i_lt rfl b6] at q
      have qb := qfN_bd (b := fB f p) (d := fD f p) (z := x2.toInt) k1 k2 l4
      have eq : ((x2 - h 81 6) / h 81 7).toInt = qfN (fB f p) (fD f p) x2.toInt := by
        rw [i_div (i_sub rfl b6 (by omega)) b7 (by omega) k2]
        unfold qfN; rw [if_neg q]
      have es : (if (x2 - h 81 6) / h 81 7 < h 81 8 then (x2 - h 81 6) / h 81 7 else h 81 8).toInt = (if qfN (fB f p) (fD f p) x2.toInt < fM f p - 1 then qfN (fB f p) (fD f p) x2.toInt else fM f p - 1) := by
        by_cases c : (x2 - h 81 6) / h 81 7 < h 81 8
        · rw [if_pos c, if_pos ((i_lt eq b8).mp c)]; exact eq
        · rw [if_neg c, if_neg (fun z => c ((i_lt eq b8).mpr z))]; exact b8
      refine fin r _ g1 ?_ (by omega) ?_
      · rw [es, er]
        refine ⟨pb.1, ?_, fun i h0 h1 => ?_⟩
        · by_cases c : qfN (fB f p) (fD f p) x2.toInt < fM f p - 1
          · rw [if_pos c]; omega
          · rw [if_neg c]; omega
        · have s := k0.sz h0 h1
          rw [← both _ s.1 s.2.1, ← pfN_le k2 h0, ← le_qfN k2 h0]
          by_cases c : qfN (fB f p) (fD f p) x2.toInt < fM f p - 1
          · rw [if_pos c]
          · rw [if_neg c]; omega
      · rw [es]
        by_cases c : qfN (fB f p) (fD f p) x2.toInt < fM f p - 1
        · rw [if_pos c]; omega
        · rw [if_neg c]; omega
  unfold w_X7_chooseSizes
  refine lpE_intro (fun ⟨a_q, b_q, c_q, h_q, _⟩ => ∃ i : Nat, i ≤ (ofL f p n).length ∧ nI i = c_q ∧ h = h_q ∧ -1000000 ≤ a_q.toInt ∧ a_q.toInt ≤ 120000 ∧ -20000 ≤ b_q.toInt ∧ b_q.toInt ≤ 1000000 ∧ (∀ z : Int, a_q.toInt ≤ z ↔ (-1000000 ≤ z ∧ ∀ j s, j < i → (ofL f p n)[j]? = some s → cLo f s ≤ z)) ∧ (∀ z : Int, z ≤ b_q.toInt ↔ (z ≤ 1000000 ∧ ∀ j s, j < i → (ofL f p n)[j]? = some s → z ≤ cHi f s))) (fun ⟨_, _, c_q, _, _⟩ => dif (nI (ofL f p n).length) c_q) ?_ _ ⟨0, by omega, nI_0, rfl, by decide, by decide, by decide, by decide, fun z => ?_, fun z => ?_⟩
  rotate_left
  · rw [show (-1000000 : Int32).toInt = -1000000 by decide]
    exact ⟨fun q => ⟨q, fun j s hj => absurd hj (Nat.not_lt_zero j)⟩, fun q => q.1⟩
  · rw [show (1000000 : Int32).toInt = 1000000 by decide]
    exact ⟨fun q => ⟨q, fun j s hj => absurd hj (Nat.not_lt_zero j)⟩, fun q => q.1⟩
  rintro ⟨y1, y2, y3, h1, g1⟩ K ⟨i, hi, rfl, rfl, l1, l2, l3, l4, kL, kH⟩ hK
  unfold F_X7_chooseSizes_8; dsimp only; unfold b_X7_chooseSizes_8
  rw [e5]
  refine ⟨fun c => ?_, fun c => ?_⟩
  · rw [nI_leI (by omega) (by omega)] at c
    have : i = (ofL f p n).length := by omega
    subst this
    exact j62 y1 y2 g1 l1 l2 l3 l4 kL kH
  · have hd := dif_lt c
    rw [nI_leI (by omega) (by omega)] at c
    have i60 : ¬ (60 : Int32) ≤ nI i := fun q => by
      rw [show (60 : Int32) = nI 60 from rfl, nI_leI (by omega) (by omega)] at q; omega
    have vi : vp_in (nI i) 60 := vp_in_nI (by omega) (by omega)
    refine ⟨fun q => absurd q i60, fun _ => ⟨fun q => absurd q i60, fun _ => and_have vi (fun _ => ?_)⟩⟩
    have es : (ofL f p n)[i]? = some ((ofL f p n)[i]'(by omega)) := List.getElem?_eq_getElem (by omega)
    generalize (ofL f p n)[i]'(by omega) = s at es
    have ms := ofL_mem.mp (List.mem_iff_getElem?.mpr ⟨i, es⟩)
    obtain ⟨a2, a3, -⟩ := A i s es
    obtain ⟨c1, c2, c3, c4⟩ := cLH v w (s := s) (by omega)
    rw [nI_clamp (by omega), a2]
    intro x1 ex1
    refine and_have vi (fun _ => ?_)
    intro x2 ex2
    rw [a3] at ex2
    rintro _ rfl
    have f1 : x1.toInt = (if y1.toInt < cLo f s then cLo f s else y1.toInt) := by rw [ex1]; exact i_mx rfl (i32_t (by omega))
    have f2 : x2.toInt = (if cHi f s < y2.toInt then cHi f s else y2.toInt) := by
      rw [ex2]
      have eh := i32_t (z := cHi f s) (by omega)
      by_cases q : i32 (cHi f s) < y2
      · rw [if_pos q, if_pos ((i_lt eh rfl).mp q)]; exact eh
      · rw [if_neg q, if_neg (fun z => q ((i_lt eh rfl).mpr z))]
    refine hK _ ⟨i + 1, by omega, (nI_1 i).symm, rfl, ?_, ?_, ?_, ?_, fun z => ?_, fun z => ?_⟩ hd
    · rw [f1]
      by_cases q : y1.toInt < cLo f s
      · rw [if_pos q]; exact c1
      · rw [if_neg q]; exact l1
    · rw [f1]
      by_cases q : y1.toInt < cLo f s
      · rw [if_pos q]; omega
      · rw [if_neg q]; exact l2
    · rw [f2]
      by_cases q : cHi f s < y2.toInt
      · rw [if_pos q]; exact c3
      · rw [if_neg q]; exact l3
    · rw [f2]
      by_cases q : cHi f s < y2.toInt
      · rw [if_pos q]; exact c4
      · rw [if_neg q]; exact l4
    · have e : x1.toInt ≤ z ↔ y1.toInt ≤ z ∧ cLo f s ≤ z := by
        rw [f1]
        by_cases q : y1.toInt < cLo f s
        · rw [if_pos q]; omega
        · rw [if_neg q]; omega
      rw [e, kL]
      refine ⟨fun q => ⟨q.1.1, fun j t hj et => ?_⟩, fun q => ⟨⟨q.1, fun j t hj et => q.2 j t (by omega) et⟩, q.2 i s (by omega) es⟩⟩
      by_cases ej : j = i
      · subst ej
        rw [es, Option.some.injEq] at et
        rw [← et]; exact q.2
      · exact q.1.2 j t (by omega) et
    · have e : z ≤ x2.toInt ↔ z ≤ y2.toInt ∧ z ≤ cHi f s := by
        rw [f2]
        by_cases q : cHi f s < y2.toInt
        · rw [if_pos q]; omega
        · rw [if_neg q]; omega
      rw [e, kH]
      refine ⟨fun q => ⟨q.1.1, fun j t hj et => ?_⟩, fun q => ⟨⟨q.1, fun j t hj et => q.2 j t (by omega) et⟩, q.2 i s (by omega) es⟩⟩
      by_cases ej : j = i
      · subst ej
        rw [es, Option.some.injEq] at et
        rw [← et]; exact q.2
      · exact q.1.2 j t (by omega) et
theorem q_X7_find {h : HI} {g : HL} {f : Nat → Int32} (c : CX h f) {m n p : Nat} (T : TT h 2 m 5 24) (S : TT h 6 n 6 60) (en : f 1 = nI n) (hp : p < m) : w_X7_find (nI p) h g (fun h' _ => JJ SSz h h' ∧ SZ h' f p n) := by
  have hm := T.2.2.2.1
  have hn := S.2.2.2.1
  have v := c.2.2.2.1
  have w := c.wb
  have k := v.fok (p := p) (by omega)
  unfold w_X7_find
  refine c_i (p_atT T) ?_
  rintro _ _ _ ⟨rfl, rfl, rfl⟩
  rw [show tat h 2 (nI p) (3 : Int32) = f (20 + 5 * p + 3) from (tat_nI T (b := 3) hp (by omega)).trans (c.cp T hp (by omega))]
  refine c_v (q_X7_chooseFamily c (by omega)) ?_
  rintro h1 g1 ⟨J1, b6, b7, b8⟩
  intro h2 e2
  have J2 : JJ SSz h h2 := J1.hu e2 (by unfold SSz; omega)
  refine lpE_intro (fun ⟨a_q, b_q, h_q, _⟩ => ∃ i : Nat, i ≤ n ∧ nI p = a_q ∧ nI i = b_q ∧ JJ SSz h h_q ∧ (h_q 81 6).toInt = fB f p ∧ (h_q 81 7).toInt = fD f p ∧ (h_q 81 8).toInt = fM f p - 1 ∧ h_q 81 5 = nI (ofL f p i).length ∧ ARR h_q f p i) (fun ⟨_, b_q, _, _⟩ => dif (nI n) b_q) ?_ _ ⟨0, by omega, rfl, nI_0, J2, by rw [e2, hu_eq, pk_un (by decide)]; exact b6, by rw [e2, hu_eq, pk_un (by decide)]; exact b7, by rw [e2, hu_eq, pk_un (by decide)]; exact b8, by rw [e2, hu_eq, pk_us]; exact nI_0.symm, fun i s e => by cases e⟩
  rintro ⟨y1, y2, h3, g3⟩ K ⟨i, hi, rfl, rfl, J3, d6, d7, d8, d5, A⟩ hK
  have c3 : CX h3 f := c.jj J3 (fun q hq => by unfold SSz; omega)
  have S3 : TT h3 6 n 6 60 := S.cg (J3 6 (by unfold SSz; omega))
  have T3 : TT h3 2 m 5 24 := T.cg (J3 2 (by unfold SSz; omega))
  have hl : (ofL f p i).length ≤ i := ofL_len
  unfold F_X7_find_23; dsimp only; unfold b_X7_find_23
  refine c_i p_rows ?_
  rintro _ _ _ ⟨rfl, rfl, rfl⟩
  rw [S3.2.2.1]
  refine ⟨fun q => ?_, fun q => ?_⟩
  · rw [nI_leI (by omega) (by omega)] at q
    have : i = n := by omega
    subst this
    refine c_v (q_X7_chooseSizes v w k hn d6 d7 d8 d5 A) ?_
    rintro h4 g4 ⟨J4, lo, fa⟩
    obtain ⟨u1, u2, u3⟩ := f3_vals en hn fa
    have n4 : ∀ q, ¬ q = 81 → h4 q = h3 q := fun q hq => J4 q hq
    refine ⟨J3.tr (J4.mo (fun q hq => by unfold S81 at hq; unfold SSz; omega)), u1, u2, u3, ?_, ?_, ?_, ?_, fun j s e => ?_⟩
    · rw [lo 6 (by omega)]; exact d6
    · rw [lo 7 (by omega)]; exact d7
    · rw [lo 8 (by omega)]; exact d8
    · rw [lo 5 (by omega)]; exact d5
    · rw [n4 82 (by decide), n4 83 (by decide), n4 84 (by decide)]; exact A j s e
  · have hd := dif_lt q
    rw [nI_leI (by omega) (by omega)] at q
    have nxt : ∀ (h4 : HI) (g4 : HL), JJ SSz h h4 → (h4 81 6).toInt = fB f p → (h4 81 7).toInt = fD f p → (h4 81 8).toInt = fM f p - 1 → h4 81 5 = nI (ofL f p (i + 1)).length → ARR h4 f p (i + 1) → j_X7_find_110 (fun h' _ => JJ SSz h h' ∧ SZ h' f p n) (fun x1 x2 h g => K (x1, x2, h, g)) (nI p) (nI i) h4 g4 := by
      intro h4 g4 J4 r6 r7 r8 r5 A4
      unfold j_X7_find_110
      rintro _ rfl
      exact hK _ ⟨i + 1, by omega, rfl, (nI_1 i).symm, J4, r6, r7, r8, r5, A4⟩ hd
    have skip : ∀ g4 : HL, ¬ isO f p i → j_X7_find_72 (fun h' _ => JJ SSz h h' ∧ SZ h' f p n) (fun x1 x2 h g => K (x1, x2, h, g)) (nI p) (nI i) h3 g4 := by
      intro g4 no
      unfold j_X7_find_72 j_X7_find_73
      exact ⟨fun _ => nxt h3 g4 J3 d6 d7 d8 (by rw [ofL_n no]; exact d5) (by unfold ARR; rw [ofL_n no]; exact A), fun q => absurd rfl q⟩
    refine c_i (p_atT S3) ?_
    rintro _ _ _ ⟨rfl, rfl, rfl⟩
    rw [show tat h3 6 (nI i) (0 : Int32) = f (152 + 6 * i + 0) from c3.at6 S3 (k := 0) (by omega) (by omega)]
    refine ⟨fun q0 => skip _ (fun o => q0 o.1), fun q0 => ?_⟩
    refine c_i (p_atT S3) ?_
    rintro _ _ _ ⟨rfl, rfl, rfl⟩
    rw [show tat h3 6 (nI i) (5 : Int32) = f (152 + 6 * i + 5) from c3.at6 S3 (k := 5) (by omega) (by omega)]
    refine ⟨fun q1 => skip _ (fun o => q1 o.2), fun q1 => ?_⟩
    have o : isO f p i := ⟨q0, q1⟩
    unfold j_X7_find_73
    refine ⟨fun z => absurd z (by decide), fun _ => ?_⟩
    rw [d5]
    refine ⟨fun z => ?_, fun _ => ?_⟩
    · rw [show (60 : Int32) = nI 60 from rfl, nI_leI (by omega) (by omega)] at z; omega
    refine c_v (q_X7_allow c3 T3 S3 hp (by omega) (by omega) o) ?_
    rintro h4 g4 ⟨J4, a81, a82, a83, a84⟩
    intro h5 e5
    rw [a81, d5, show nI (ofL f p i).length + (1 : Int32) = nI ((ofL f p i).length + 1) from nI_1 _] at e5
    have n5 : ∀ q, ¬ q = 81 → h5 q = h4 q := fun q hq => by rw [e5, hu_ne hq]
    refine nxt h5 g4 ((J3.tr J4).hu e5 (by unfold SSz; omega)) ?_ ?_ ?_ ?_ (fun j s e => ?_)
    · rw [e5, hu_eq, pk_un (by decide), a81]; exact d6
    · rw [e5, hu_eq, pk_un (by decide), a81]; exact d7
    · rw [e5, hu_eq, pk_un (by decide), a81]; exact d8
    · rw [e5, hu_eq, pk_us, ofL_y o, List.length_append, List.length_singleton]
    · rw [n5 82 (by decide), n5 83 (by decide), n5 84 (by decide), a82, a83, a84]
      rw [ofL_y o] at e
      by_cases hj : j < (ofL f p i).length
      · rw [List.getElem?_append_left hj] at e
        rw [pk_un (by omega), pk_un (by omega), pk_un (by omega)]
        exact A j s e
      · rw [List.getElem?_append_right (by omega)] at e
        by_cases hj2 : j = (ofL f p i).length
        · subst hj2
          rw [Nat.sub_self] at e
          have e : some i = some s := e
          rw [Option.some.injEq] at e
          subst e
          rw [pk_us, pk_us, pk_us]; exact ⟨rfl, rfl, rfl⟩
        · have hlt := (List.getElem?_eq_some_iff.mp e).1
          rw [List.length_singleton] at hlt; omega
end
