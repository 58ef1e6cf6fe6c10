theorem flw_b {i b d : Nat} (h : ¬ b = 2) : flw i b d = (10 : Int32) * nI i + nI b := by
  rw [show (10 : Int32) = nI 10 from rfl, pk_mul, nI_add]; exact if_neg h
set_option maxHeartbeats 4000000 in
theorem q_X11_reads {h : HI} {g : HL} {N : Nat} (eN : h 136 8 = nI N) (hN : N ≤ 60) : w_X11_reads h g (fun r h' _ => QRl h (fun k => h 136 (827 + k)) N r h') := by
  generalize ef : (fun k => h 136 (827 + k)) = f
  have fe : ∀ k, h 136 (827 + k) = f k := fun k => by rw [← ef]
  unfold w_X11_reads
  refine and_have (vp_in_iff.mpr (by decide)) (fun _ => ?_)
  rintro _ rfl
  rw [cl8, eN]
  intro h1 e1
  intro h2 e2
  have J2 : KJ SRd h h2 := (KJ.rf.hu e1 (by unfold SRd; omega)).hu e2 (by unfold SRd; omega)
  have r2 : RTl h2 [] [] 1 := RTl.o.mpr ⟨by rw [e2, hu_eq, pk_un (by decide), e1, hu_eq, pk_us]; exact nI_0.symm, trivial, trivial, by rw [e2, hu_eq, pk_us]; exact nI_0.symm, trivial⟩
  refine lpE_intro (fun ⟨a_q, b_q, c_q, d_q, h_q, _⟩ => ∃ (i nn d u : Nat) (o w : List Int32), i ≤ N ∧ nI N = a_q ∧ nI nn = b_q ∧ nI (1 - u) = c_q ∧ nI i = d_q ∧ AR f i = (o, w, nn, d, u) ∧ okp f i ∧ KJ SRd h h_q ∧ RTl h_q o w u ∧ (0 < d → i < N → ¬ dgt (f i))) (fun ⟨_, _, _, d_q, _, _⟩ => dif (nI N) d_q) ?_ _ ⟨0, 0, 0, 1, [], [], by omega, rfl, nI_0, nI_0, nI_0, rfl, fun k hk => absurd hk (Nat.not_lt_zero k), J2, r2, fun q => absurd q (Nat.lt_irrefl 0)⟩
  clear e1 e2 J2 r2
  rintro ⟨x1, x2, x3, x4, h3, g3⟩ K ⟨i, nn, d, u, o, w, hi, rfl, rfl, rfl, rfl, eA, ok, J, R, nd⟩ hK
  have I := SIl.at ok
  rw [eA] at I
  obtain ⟨a1, a2, a3, a4, a5, a6, a7, a8, a9⟩ := id I
  have go : ∀ (i' nn' d' u' : Nat) (o' w' : List Int32) (h4 : HI) (g4 : HL), i < i' → i' ≤ N → AR f i' = (o', w', nn', d', u') → okp f i' → KJ SRd h h4 → RTl h4 o' w' u' → (0 < d' → i' < N → ¬ dgt (f i')) → K (nI N, nI nn', nI (1 - u'), nI i', h4, g4) := by
    intro i' nn' d' u' o' w' h4 g4 b1 b2 b3 b4 b5 b6 b7
    refine hK _ ⟨i', nn', d', u', o', w', b2, rfl, rfl, rfl, rfl, b3, b4, b5, b6, b7⟩ ?_
    dsimp only
    rw [dif_nI (by omega) (by omega), dif_nI (by omega) (by omega)]
    omega
  clear hK
  have bad : ∀ (b : Nat) (x : Int32) (h4 : HI), i < N → KJ SRd h h4 → badL (f i) (o, w, nn, d, u) = b → (b = 1 ∨ b = 3) → x = (10 : Int32) * nI i + nI b → QRl h f N x h4 := by
    intro b x h4 hiN J4 eb b13 ex
    refine ⟨J4, [], .inl ⟨i, hiN, ok, by rw [eA, eb]; omega, by rw [eA, eb, ex, flw_b (by omega)], ?_⟩, fun q => ?_⟩
    · rw [ex, ← flw_b (d := 0) (by omega)]; exact flw_n (by omega) (by omega)
    · rw [ex, ← flw_b (d := 0) (by omega)] at q; exact absurd q (flw_n (by omega) (by omega))
  have step : ∀ (s' : LSt), badL (f i) (o, w, nn, d, u) = 0 → nxL (f i) (o, w, nn, d, u) = s' → AR f (i + 1) = s' ∧ okp f (i + 1) := by
    intro s' b0 en
    refine ⟨?_, fun k hk => ?_⟩
    · show nxL (f i) (AR f i) = s'
      rw [eA]; exact en
    · by_cases q : k = i
      · subst q; rw [eA]; exact b0
      · exact ok k (by omega)
  unfold F_X11_reads_25; dsimp only; unfold b_X11_reads_25
  refine ⟨fun c => ?_, fun c => ?_⟩
  · rw [nI_leI (by omega) (by omega)] at c
    have : i = N := by omega
    subst this
    have S : ∃ o1 w1, RTK h3 o1 w1 ∧ (∀ x, x ∈ w1 → x ∈ wcL) ∧ o1.length + w1.length ≤ 60 ∧ (u = 0 → stl 1 w1 o1 = stl 1 w o) := by
      by_cases u0 : u = 0
      · subst u0
        have l6 := stl_len (r := 6) (w := w) (o := o)
        exact ⟨_, _, RTl.z.mp R, fun x hx => a8 x (stl_w x hx), by omega, fun _ => stl_6 (by omega)⟩
      · have u1 : u = 1 := by omega
        subst u1
        exact ⟨o, w, RTl.o.mp R, a8, by omega, fun q => absurd q u0⟩
    obtain ⟨o1, w1, S1, V1, B1, e1⟩ := S
    refine c_v (q_X11_settles (r := 1) S1 V1 B1 (by omega)) ?_
    rintro h4 g4 ⟨J4, S4⟩
    have q388 : ¬ (u = 0 ∧ nn = 0) → j_X11_reads_388 (fun r h' _ => QRl h f i r h') (nI i) h4 g4 := by
      intro en
      unfold j_X11_reads_388
      have e10 : (10 : Int32) * nI i + (1 : Int32) = nI (10 * i + 1) := by
        rw [show (10 : Int32) = nI 10 from rfl, pk_mul, nI_1]
      rw [e10]
      exact ⟨J.tr J4, [], .inr (.inl ⟨ok, by rw [eA]; exact en, rfl, n10 (by omega) (by omega)⟩), fun q => absurd q (n10 (by omega) (by omega))⟩
    refine ⟨fun q => q388 ?_, fun q => ⟨fun q2 => q388 ?_, fun q2 => ?_⟩⟩
    · rw [nI_z (by omega)] at q; omega
    · rw [nI_z (by omega)] at q2; exact fun k => q2 k.2
    · rw [nI_z (by omega)] at q q2
      have u0 : u = 0 := by omega
      rw [e1 u0] at S4
      exact ⟨J.tr J4, (stl 1 w o).2, .inr (.inr ⟨ok, by rw [eA]; exact fun k => k ⟨u0, q2⟩, rfl, by rw [eA]; rfl⟩), fun _ => ⟨S4.1, S4.2.1, S4.2.2.1⟩⟩
  · have hiN : i < N := by
      rw [nI_leI (by omega) (by omega)] at c; omega
    have hv : ∀ k : Nat, k < N → vp_in ((827 : Int32) + nI k) 887 := by
      intro k hk
      rw [show (827 : Int32) + nI k = nI (827 + k) from nI_add 827 k]
      exact vp_in_nI (by omega) (by omega)
    have h36 : h3 136 = h 136 := funext fun k => J 136 k (by unfold SRd; omega)
    have ix : ∀ k : Nat, k < N → h3 136 ((827 : Int32) + nI k).toNatClampNeg = f k := by
      intro k hk
      rw [show (827 : Int32) + nI k = nI (827 + k) from nI_add 827 k, nI_clamp (by omega), h36]; exact fe k
    refine and_have (hv i hiN) (fun _ => ?_)
    intro x5 e5
    rw [ix i hiN] at e5
    subst e5
    generalize ec : f i = ch
    rw [ec] at bad step nd
    refine ⟨fun c32 => ?_, fun c32 => ?_⟩
    · refine ⟨fun c0 => ?_, fun c0 => ?_⟩
      · have u1 : u = 1 := by
          rw [nI_z (by omega)] at c0; omega
        subst u1
        have d0 : d = 0 := by
          by_cases q : 0 < d
          · have := (a3 q).1; omega
          · omega
        subst d0
        have S := RTl.o.mp R
        refine c_in3 (fun q => ?_) (fun q => ?_)
        · have cd : dgt ch := dg_bd.mp q
          refine ⟨fun c => absI c, fun _ => ?_⟩
          refine lpE_intro (fun ⟨a_q, b_q, d_q, e_q, v_q, h_q, _⟩ => ∃ k : Nat, i ≤ k ∧ k ≤ N ∧ nI N = a_q ∧ nI nn = b_q ∧ nI k = d_q ∧ nI i = e_q ∧ h3 = h_q ∧ okp f k ∧ k ≤ i + 6 ∧ ((k = i ∧ v_q = 0) ∨ (i < k ∧ AR f k = (v_q :: o, w, nn, k - i, 0) ∧ ∃ v : Nat, v < 1000000 ∧ v_q = nI v))) (fun ⟨_, _, d_q, _, _, _, _⟩ => dif (nI N) d_q) ?_ _ ⟨i, by omega, by omega, rfl, rfl, rfl, rfl, rfl, ok, by omega, .inl ⟨rfl, rfl⟩⟩
          rintro ⟨y1, y2, y4, y6, y7, h4, g4⟩ K2 ⟨k, hik, hkN, rfl, rfl, rfl, rfl, rfl, okk, k6, st⟩ hK2
          unfold F_X11_reads_161; dsimp only; unfold b_X11_reads_161
          have out : i < k → (k < N → ¬ dgt (f k)) → j_X11_reads_237 (fun r h' _ => QRl h f N r h') (fun x1 x2 x3 x4 h g => K (x1, x2, x3, x4, h, g)) (nI N) (nI nn) (nI k) y7 h3 g4 := by
            intro hk ndk
            rcases st with ⟨q, -⟩ | ⟨-, eAk, v, hv, rfl⟩
            · omega
            have Ik := SIl.at okk
            rw [eAk] at Ik
            have l1 : (nI v :: o).length + w.length ≤ k := Ik.1
            rw [List.length_cons] at l1
            unfold j_X11_reads_237
            refine c_v (p_X11_emits S.1 (by omega)) ?_
            rintro h5 g5 ⟨rfl, J5, t3, t6, t139, t140, t141⟩
            have S5 := S.emit (t := nI v) t3 t6 (by rw [(tc_n (by omega)).1]; exact t139) (by rw [(tc_n (by omega)).2]; exact t140) t141
            refine c_v (q_X11_settles (r := 6) S5 a8 (by rw [List.length_cons]; omega) (by omega)) ?_
            rintro h6 g6 ⟨J6, S6⟩
            unfold j_X11_reads_368
            exact go k nn (k - i) 0 (nI v :: o) w h6 g6 hk hkN eAk okk ((J.tr J5).tr J6) (RTl.z.mpr S6) (fun _ hk2 => ndk hk2)
          have first : k = i → dgt (f k) := fun q => by rw [q, ec]; exact cd
          refine ⟨fun c => out ?_ ?_, fun c => ?_⟩
          · rw [nI_leI (by omega) (by omega)] at c; omega
          · rw [nI_leI (by omega) (by omega)] at c; omega
          · have hd := dif_lt c
            have hk2 : k < N := by
              rw [nI_leI (by omega) (by omega)] at c; omega
            refine and_have (hv k hk2) (fun _ => ?_)
            rw [ix k hk2]
            refine c_in3 (fun q2 => ?_) (fun q2 => ?_)
            · have cdk : dgt (f k) := dg_bd.mp q2
              obtain ⟨dv, hdv, ev, ecv⟩ := dg_nI cdk
              have eki : nI k - nI i = nI (k - i) := nI_subN hik
              rw [eki]
              refine ⟨fun c => absI c, fun _ => ⟨fun c6 => ?_, fun c6 => ?_⟩⟩
              · have k7 : k < i + 6 := by
                  have : ¬ k - i = 6 := fun q => c6 (by rw [q]; rfl)
                  omega
                refine and_have (hv k hk2) (fun _ => ?_)
                rw [ix k hk2]
                rintro _ rfl
                rintro _ rfl
                refine hK2 _ ⟨k + 1, by omega, by omega, rfl, rfl, (nI_1 k).symm, rfl, rfl, fun j hj => ?_, by omega, .inr ⟨by omega, ?_⟩⟩ hd
                · by_cases qj : j = k
                  · subst qj
                    rcases st with ⟨q, -⟩ | ⟨hlt, eAk, -⟩
                    · subst q
                      rw [eA, bad_dg cdk]
                      exact (if_neg (fun q => absurd q.2 (by decide))).trans (if_neg (by omega))
                    · rw [eAk, bad_dg cdk]
                      exact (if_neg (fun q => absurd q.1 (by omega))).trans (if_neg (by omega))
                  · exact okk j (by omega)
                · have eS : AR f (k + 1) = nxL (f k) (AR f k) := rfl
                  rcases st with ⟨q, rfl⟩ | ⟨hlt, eAk, v, hv, rfl⟩
                  · subst q
                    rw [eS, eA, nx_d0 cdk]
                    have e0 : (10 : Int32) * 0 + f k - 48 = f k - 48 := by rw [Int32.mul_zero, Int32.zero_add]
                    rw [e0]
                    refine ⟨by rw [Nat.add_sub_cancel_left], dv, by omega, ev⟩
                  · have Ik := SIl.at okk
                    rw [eAk] at Ik
                    obtain ⟨-, v1, xs, ex, hv1⟩ := Ik.2.2.1 (by omega)
                    rw [List.cons.injEq] at ex
                    have p5 : 10 ^ (k - i) ≤ 10 ^ 5 := Nat.pow_le_pow_right (by decide) (by omega)
                    have v10 : v < 100000 := by
                      have := (nI_eq (a := v) (b := v1) (by omega) (by omega)).mp ex.1
                      omega
                    rw [eS, eAk, nx_d1 cdk (by omega)]
                    have e0 : (10 : Int32) * nI v + f k - 48 = nI (10 * v + dv) := by
                      rw [ecv, show (10 : Int32) = nI 10 from rfl, pk_mul, nI_add, show 10 * v + (48 + dv) = 10 * v + dv + 48 by omega, ← nI_add, show (48 : Int32) = nI 48 from rfl, Int32.add_sub_cancel]
                    have e1 : (10 : Int32) * hd0 (nI v :: o) + (f k - 48) = nI (10 * v + dv) := by
                      rw [ev, show hd0 (nI v :: o) = nI v from rfl, show (10 : Int32) = nI 10 from rfl, pk_mul, nI_add]
                    rw [e0, e1]
                    refine ⟨by rw [List.tail_cons, show k - i + 1 = k + 1 - i by omega], 10 * v + dv, by omega, rfl⟩
              · have k7 : k - i = 6 := (nI_eq (b := 6) (by omega) (by omega)).mp c6
                rcases st with ⟨q, -⟩ | ⟨hlt, eAk, -⟩
                · omega
                have eb : badL (f k) (AR f k) = 2 := by
                  rw [eAk, bad_dg cdk]
                  exact (if_neg (fun q => absurd q.1 (by omega))).trans (if_pos (by omega))
                have ex : (10 : Int32) * nI i + 2 = nI (10 * i + 2) := by
                  rw [show (10 : Int32) = nI 10 from rfl, show (2 : Int32) = nI 2 from rfl, pk_mul, nI_add]
                rw [ex]
                refine ⟨J, [], .inl ⟨k, hk2, okk, by rw [eb]; decide, ?_, n10 (by omega) (by omega)⟩, fun q => absurd q (n10 (by omega) (by omega))⟩
                rw [eb, eAk]
                show nI (10 * i + 2) = nI (10 * (k - (k - i)) + 2)
                rw [show k - (k - i) = i by omega]
            · have ndk : ¬ dgt (f k) := fun q => q2 (dg_bd.mpr q)
              refine ⟨fun _ => out ?_ (fun _ => ndk), fun c => absN c⟩
              by_cases qk : k = i
              · exact absurd (first qk) ndk
              · omega
        · have cd : ¬ dgt ch := fun k => q (dg_bd.mpr k)
          have bu : badL ch (o, w, nn, 0, 1) = (if ch = 40 then (if nn < 8 then 0 else 3) else if ch = 121 ∨ ch = 108 ∨ ch = 104 ∨ ch = 33 ∨ ch = 45 then 0 else 1) := bad_u cd c32 (by decide)
          have nu : nxL ch (o, w, nn, 0, 1) = (if ch = 40 then (o, 40 :: w, nn + 1, 0, 1) else if ch = 33 then (o, 33 :: w, nn, 0, 1) else if ch = 45 then (o, 126 :: w, nn, 0, 1) else (-ch :: o, w, nn, 0, 0)) := nx_u cd c32 (by decide)
          refine ⟨fun _ => ?_, fun c => absN c⟩
          refine c_i p_X11_nameOf ?_
          rintro _ _ _ ⟨rfl, rfl, rfl⟩
          refine ⟨fun cn => ?_, fun cn => ?_⟩
          · obtain ⟨n1, n2, n3⟩ := nof_n cn
            refine ⟨fun c40 => ?_, fun c40 => ?_⟩
            · rw [if_neg c40] at bu nu
              have s351 : ∀ (a x : Int32), a = opc x → badL ch (o, w, nn, 0, 1) = 0 → nxL ch (o, w, nn, 0, 1) = (o, x :: w, nn, 0, 1) → j_X11_reads_351 (fun r h' _ => QRl h f N r h') (fun x1 x2 x3 x4 h g => K (x1, x2, x3, x4, h, g)) (nI N) (nI nn) (nI (1 - 1)) (nI i) a h3 g3 := by
                intro a x ea b0 en
                subst ea
                unfold j_X11_reads_351
                refine c_v (p_X11_waitsWith S.2.2.2.1 (by omega)) ?_
                rintro h5 g5 ⟨rfl, J5, t6, t3, t141, t139, t140⟩
                rintro _ rfl
                unfold j_X11_reads_368
                rw [nI_1]
                obtain ⟨s1, s2⟩ := step _ b0 en
                exact go (i + 1) nn 0 1 o (x :: w) h5 g3 (by omega) (by omega) s1 s2 (J.tr J5) (RTl.o.mpr (S.wait t6 t3 t141 t139 t140)) (fun q => absurd q (Nat.lt_irrefl 0))
              have s338 : ch = 45 ∨ ch = 33 → j_X11_reads_338 (fun r h' _ => QRl h f N r h') (fun x1 x2 x3 x4 h g => K (x1, x2, x3, x4, h, g)) (nI N) (nI nn) (nI (1 - 1)) (nI i) ch h3 g3 := by
                intro o2
                unfold j_X11_reads_338
                refine ⟨fun q => ?_, fun q => ?_⟩
                · have c33 : ch = 33 := o2.resolve_left q
                  exact s351 2 33 (by decide) (by rw [bu, if_pos (.inr (.inr (.inr (.inl c33))))]) (by rw [nu, if_pos c33])
                · have c33 : ¬ ch = 33 := fun e => absurd (e.symm.trans q) (by decide)
                  exact s351 3 126 (by decide) (by rw [bu, if_pos (.inr (.inr (.inr (.inr q))))]) (by rw [nu, if_neg c33, if_pos q])
              refine ⟨fun q => s338 (.inl q), fun q45 => ⟨fun q33 => ?_, fun q => s338 (.inr q)⟩⟩
              exact bad 1 _ h3 hiN J (by rw [bu, if_neg (fun q => q.elim n1 (fun q => q.elim n2 (fun q => q.elim n3 (fun q => q.elim q33 q45))))]) (.inl rfl) rfl
            · rw [if_pos c40] at bu nu
              refine ⟨fun c8 => ?_, fun c8 => ?_⟩
              · have n8 : nn < 8 := by
                  have : nn ≠ 8 := fun q => c8 (by rw [q]; rfl)
                  omega
                rintro _ rfl
                refine c_v (p_X11_waitsWith S.2.2.2.1 (by omega)) ?_
                rintro h5 g5 ⟨rfl, J5, t6, t3, t141, t139, t140⟩
                rintro _ rfl
                unfold j_X11_reads_368
                rw [nI_1, nI_1]
                obtain ⟨s1, s2⟩ := step _ (by rw [bu, if_pos n8]) nu
                exact go (i + 1) (nn + 1) 0 1 o (40 :: w) h5 g3 (by omega) (by omega) s1 s2 (J.tr J5) (RTl.o.mpr (S.wait t6 t3 t141 t139 t140)) (fun q => absurd q (Nat.lt_irrefl 0))
              · have n8 : nn = 8 := (nI_eq (b := 8) (by omega) (by omega)).mp c8
                exact bad 3 _ h3 hiN J (by rw [bu, if_neg (by omega)]) (.inr rfl) rfl
          · obtain ⟨cu, w1, w2⟩ := nof_y cn
            have k40 : ¬ ch = 40 := fun e => by rw [e] at cu; exact absurd cu (by decide)
            have k33 : ¬ ch = 33 := fun e => by rw [e] at cu; exact absurd cu (by decide)
            have k45 : ¬ ch = 45 := fun e => by rw [e] at cu; exact absurd cu (by decide)
            refine c_i p_X11_nameOf ?_
            rintro _ _ _ ⟨rfl, rfl, rfl⟩
            refine c_v (p_X11_emits S.1 (by omega)) ?_
            rintro h5 g5 ⟨rfl, J5, t3, t6, t139, t140, t141⟩
            have S5 := S.emit (t := -ch) t3 t6 (by rw [w1]; exact t139) (by rw [w2]; exact t140) t141
            refine c_v (q_X11_settles (r := 6) S5 a8 (by rw [List.length_cons]; omega) (by omega)) ?_
            rintro h6 g6 ⟨J6, S6⟩
            rintro _ rfl
            unfold j_X11_reads_368
            rw [nI_1]
            obtain ⟨s1, s2⟩ := step _ (by rw [bu, if_neg k40, if_pos (cu.elim .inl (fun q => .inr (q.elim .inl (fun q => .inr (.inl q)))))]) (by rw [nu, if_neg k40, if_neg k33, if_neg k45])
            exact go (i + 1) nn 0 0 (-ch :: o) w h6 g6 (by omega) (by omega) s1 s2 ((J.tr J5).tr J6) (RTl.z.mpr S6) (fun q => absurd q (Nat.lt_irrefl 0))
      · have u0 : u = 0 := by
          rw [nI_z (by omega)] at c0; omega
        subst u0
        have S := RTl.z.mp R
        have d0 : dgt ch → d = 0 := fun q => by
          by_cases k : 0 < d
          · exact absurd q (nd k hiN)
          · omega
        have s125 : ∀ (h4 : HI) (g4 : HL), KJ SRd h h4 → badL ch (o, w, nn, d, 0) = 1 → j_X11_reads_125 (fun r h' _ => QRl h f N r h') (nI i) h4 g4 := by
          intro h4 g4 J4 b1
          unfold j_X11_reads_125
          exact bad 1 _ h4 hiN J4 b1 (.inl rfl) rfl
        have bf : ¬ dgt ch → badL ch (o, w, nn, d, 0) = (if ch = 41 then (if nn = 0 then 1 else 0) else if rk ch < 1 ∨ 6 ≤ rk ch then 1 else if rk ch = 3 ∧ tp (stl (rr ch) w o).1 = 3 then 1 else 0) := fun cd => bad_f cd c32
        have nf : ¬ dgt ch → nxL ch (o, w, nn, d, 0) = (if ch = 41 then ((stl 1 w o).2, (stl 1 w o).1.tail, nn - 1, 0, 0) else ((stl (rr ch) w o).2, ch :: (stl (rr ch) w o).1, nn, 0, 1)) := fun cd => nx_f cd c32
        have s99 : (ch = 41 → nn = 0) → j_X11_reads_99 (fun r h' _ => QRl h f N r h') (fun x1 x2 x3 x4 h g => K (x1, x2, x3, x4, h, g)) (nI N) (nI nn) (nI i) ch h3 g3 := by
          intro k41
          unfold j_X11_reads_99
          refine c_i p_X11_signOf ?_
          rintro _ _ _ ⟨rfl, rfl, rfl⟩
          refine ⟨fun cs => s125 _ _ J ?_, fun cs => ?_⟩
          · by_cases cd : dgt ch
            · rw [bad_dg cd, if_pos ⟨d0 cd, rfl⟩]
            · rw [bf cd]
              by_cases q : ch = 41
              · rw [if_pos q, if_pos (k41 q)]
              · rw [if_neg q, if_pos (sof_n cs)]
          obtain ⟨es, r1, r6⟩ := sof_y cs
          have cd : ¬ dgt ch := fun q => by
            obtain ⟨v, hv, -, ev⟩ := dg_nI q
            have : v = 0 ∨ v = 1 ∨ v = 2 ∨ v = 3 ∨ v = 4 ∨ v = 5 ∨ v = 6 ∨ v = 7 ∨ v = 8 ∨ v = 9 := by omega
            rw [ev] at r1
            rcases this with rfl | rfl | rfl | rfl | rfl | rfl | rfl | rfl | rfl | rfl <;> exact absurd r1 (by decide)
          have q41 : ¬ ch = 41 := fun q => by rw [q] at r1; exact absurd r1 (by decide)
          have b := bf cd
          rw [if_neg q41, if_neg (fun q => q.elim (fun q => by omega) (fun q => by omega))] at b
          have n := nf cd
          rw [if_neg q41] at n
          refine c_i p_X11_signOf ?_
          rintro _ _ _ ⟨rfl, rfl, rfl⟩
          rw [es]
          refine c_z (q_X11_goesOn S a8 (by omega) ⟨r1, r6⟩) ?_
          rintro r4 h5 g5 ⟨J5, o5⟩
          rcases o5 with ⟨rfl, k3, t3⟩ | ⟨rfl, n3, S5⟩
          · exact ⟨fun _ => s125 _ _ (J.tr J5) (by rw [b, if_pos ⟨k3, t3⟩]), fun q => absurd rfl q⟩
          · refine ⟨fun q => absurd q (by decide), fun _ => ?_⟩
            unfold j_X11_reads_133
            rintro _ rfl
            unfold j_X11_reads_368
            rw [nI_1]
            obtain ⟨s1, s2⟩ := step _ (by rw [b, if_neg n3]) n
            exact go (i + 1) nn 0 1 _ _ h5 g5 (by omega) (by omega) s1 s2 (J.tr J5) (RTl.o.mpr S5) (fun q => absurd q (Nat.lt_irrefl 0))
        refine ⟨fun q => s99 (fun k => absurd k q), fun q41 => ⟨fun q => s99 (fun _ => ?_), fun q => ?_⟩⟩
        · rw [show (0 : Int32) = nI 0 from rfl, nI_leI (by omega) (by omega)] at q; omega
        have cd : ¬ dgt ch := dgt_of (.inr (.inr (.inl q41)))
        have n0 : ¬ nn = 0 := fun k => q (by rw [k]; decide)
        have b := bf cd
        rw [if_pos q41, if_neg n0] at b
        have n := nf cd
        rw [if_pos q41] at n
        have l6 := stl_len (r := 6) (w := w) (o := o)
        have l1 := stl_len (r := 1) (w := w) (o := o)
        have k1 := stl_c40 (r := 1) (Nat.le_refl _) (w := w) (o := o)
        have v1 := stl_w (r := 1) (w := w) (o := o)
        refine c_v (q_X11_settles (r := 1) S (fun x hx => a8 x (stl_w x hx)) (by omega) (by omega)) ?_
        rintro h5 g5 ⟨J5, S5⟩
        rw [stl_6 (by omega)] at S5
        generalize stl 1 w o = s at l1 k1 v1 n S5
        obtain ⟨w', o'⟩ := s
        cases w' with
        | nil =>
          have k1 : (0 : Nat) = c40 w := k1
          omega
        | cons y ys =>
          obtain ⟨t3, t9, t0, t6, t1⟩ := S5
          have t6 : h5 135 6 = nI (ys.length + 1) := t6
          have l1 : ys.length + 1 + o'.length = w.length + o.length := l1
          intro h6 e6
          rw [t6, nI_pred] at e6
          have S6 : RTK h6 o' ys := ⟨by rw [e6, hu_eq, pk_un (by decide)]; exact t3, by rw [e6, hu_ne (by decide)]; exact t9, by rw [e6, hu_ne (by decide)]; exact t0, by rw [e6, hu_eq, pk_us], by rw [e6, hu_ne (by decide)]; exact t1.hm.2⟩
          rintro _ rfl
          refine c_v (q_X11_settles (r := 6) S6 (fun x hx => a8 x (v1 x (List.mem_cons_of_mem _ hx))) (by omega) (by omega)) ?_
          rintro h7 g7 ⟨J7, S7⟩
          unfold j_X11_reads_133
          rintro _ rfl
          unfold j_X11_reads_368
          obtain ⟨p, rfl⟩ : ∃ p, nn = p + 1 := ⟨nn - 1, by omega⟩
          rw [nI_1, pk_m1]
          obtain ⟨s1, s2⟩ := step _ b n
          exact go (i + 1) p 0 0 o' ys h7 g7 (by omega) (by omega) s1 s2 (((J.tr J5).hu e6 (by unfold SRd; omega)).tr J7) (RTl.z.mpr S7) (fun q => absurd q (Nat.lt_irrefl 0))
    · rintro _ rfl
      unfold j_X11_reads_368
      rw [nI_1]
      have cd : ¬ dgt ch := dgt_of (.inr (.inr (.inr (.inr (.inl c32)))))
      obtain ⟨s1, s2⟩ := step _ (bad_sp cd c32) (nx_sp cd c32)
      exact go (i + 1) nn 0 u o w h3 g3 (by omega) (by omega) s1 s2 J R (fun q => absurd q (Nat.lt_irrefl 0))
