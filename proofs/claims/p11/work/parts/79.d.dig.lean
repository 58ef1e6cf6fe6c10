/-! DIGEST -/
def mx (e : Nat → Int32) : Nat → Int64 → Int64
  | 0, x => x
  | n + 1, x => (31 : Int64) * mx e n x + (e n).toInt64
theorem mx_cg {e e' : Nat → Int32} {x : Int64} : ∀ {n : Nat}, (∀ k, k < n → e k = e' k) → mx e n x = mx e' n x
  | 0, _ => rfl
  | n + 1, h => by
    unfold mx
    rw [mx_cg (n := n) (fun k hk => h k (by omega)), h n (by omega)]
theorem mx_add {e : Nat → Int32} {a : Nat} {x : Int64} : ∀ {b : Nat}, mx e (a + b) x = mx (fun k => e (a + k)) b (mx e a x)
  | 0 => rfl
  | b + 1 => by
    show (31 : Int64) * mx e (a + b) x + (e (a + b)).toInt64 = (31 : Int64) * mx (fun k => e (a + k)) b (mx e a x) + (e (a + b)).toInt64
    rw [mx_add (b := b)]
noncomputable def alN (B : Nat → Nat) (p : Nat) : Nat := Classical.epsilon (fun S => S < 2 ^ 24 ∧ LCl B p S)
theorem alN_eq {B : Nat → Nat} {p S : Nat} (h : S < 2 ^ 24) (l : LCl B p S) : alN B p = S := by
  have ex : ∃ S, S < 2 ^ 24 ∧ LCl B p S := ⟨S, h, l⟩
  obtain ⟨-, l'⟩ := Classical.epsilon_spec ex
  show Classical.epsilon _ = S
  generalize Classical.epsilon (fun S => S < 2 ^ 24 ∧ LCl B p S) = T at l'
  refine Nat.eq_of_testBit_eq (fun i => ?_)
  cases a : T.testBit i
  · cases b : S.testBit i
    · rfl
    · rw [l.2 T l'.1 i b] at a; exact absurd a (by decide)
  · cases b : S.testBit i
    · rw [l'.2 S l.1 i a] at b; exact absurd b (by decide)
    · rfl
noncomputable def pDg (f : Nat → Int32) (B : Nat → Nat) : Nat → Int64 → Int64
  | 0, x => x
  | p + 1, x => (31 : Int64) * mx (fun k => fsel f p (nI k)) 3 (mx (fun c => f (20 + 5 * p + c)) 4 (pDg f B p x)) + (nI (alN B p)).toInt64
def lDg (f : Nat → Int32) (c : Nat) : Nat → Int64 → Int64
  | 0, x => x
  | k + 1, x => (31 : Int64) * ((31 : Int64) * lDg f c k x + (f (512 + 10 * c + (3 + k))).toInt64) + ((f (512 + 10 * c + 9) >>> (nI k &&& 31)) &&& 1).toInt64
def cDg (f : Nat → Int32) : Nat → Int64 → Int64
  | 0, x => x
  | c + 1, x => lDg f c (nCh f c) (mx (fun k => f (512 + 10 * c + k)) 3 (cDg f c x))
theorem bit_v {n a : Nat} (hn : n < 2 ^ 31) (ha : a < 32) : (nI n >>> (nI a &&& 31)) &&& 1 = (if n.testBit a = true then 1 else 0) := by
  have e : (nI n >>> (nI a &&& 31)) &&& 1 = nI (n / 2 ^ a % 2) := by
    rw [pk_shrN hn _ a (sl_t a ha), show (1 : Int32) = nI 1 from rfl, nI_and, Nat.and_one_is_mod]
  rw [e]
  by_cases q : n.testBit a = true
  · rw [if_pos q]
    rw [Nat.testBit_eq_decide_div_mod_eq, decide_eq_true_iff] at q
    rw [q]; rfl
  · rw [if_neg q]
    rw [Nat.testBit_eq_decide_div_mod_eq, decide_eq_true_iff] at q
    have := Nat.mod_lt (n / 2 ^ a) (y := 2) (by omega)
    rw [show n / 2 ^ a % 2 = 0 by omega]; rfl
theorem q_X10_withRow {h : HI} {g : HL} {o m w M i n : Nat} {x : Int64} (T : TT h o m w M) (hi : i < m) (hn : n ≤ w) : w_X10_withRow x o (nI i) (nI n) h g (fun r h' g' => h = h' ∧ r = mx (fun k => h (o + 1) (i * w + k)) n x) := by
  have hw := T.2.2.2.2.2.2.1
  unfold w_X10_withRow
  refine lpE_intro (fun ⟨a_q, b_q, c_q, d_q, h_q, _⟩ => ∃ k : Nat, k ≤ n ∧ nI i = a_q ∧ nI n = b_q ∧ mx (fun k => h (o + 1) (i * w + k)) k x = c_q ∧ nI k = d_q ∧ h = h_q) (fun ⟨_, _, _, d_q, _, _⟩ => dif (nI n) d_q) ?_ _ ⟨0, by omega, rfl, rfl, rfl, nI_0, rfl⟩
  rintro ⟨y1, y2, y3, y4, h1, g1⟩ K ⟨k, hk, rfl, rfl, rfl, rfl, rfl⟩ hK
  unfold F_X10_withRow_6; dsimp only; unfold b_X10_withRow_6
  refine ⟨fun c => ?_, fun c => ?_⟩
  · rw [nI_leI (by omega) (by omega)] at c
    rw [show n = k by omega]; exact ⟨rfl, rfl⟩
  · have hd := dif_lt c
    rw [nI_leI (by omega) (by omega)] at c
    refine c_i (p_atT T) ?_
    rintro _ _ _ ⟨rfl, rfl, rfl⟩
    rw [tat_nI T hi (by omega)]
    rintro _ rfl
    rintro _ rfl
    exact hK _ ⟨k + 1, by omega, rfl, rfl, rfl, (nI_1 k).symm, rfl⟩ hd
theorem q_X10_withTable {h : HI} {g : HL} {o m w M : Nat} {x : Int64} (T : TT h o m w M) : w_X10_withTable x o (nI w) h g (fun r h' g' => h = h' ∧ r = mx (fun k => h (o + 1) k) (m * w) x) := by
  have hm := T.2.2.2.1
  have hM := T.2.2.2.2.2.2.2.2
  unfold w_X10_withTable
  refine lpE_intro (fun ⟨a_q, b_q, c_q, h_q, _⟩ => ∃ k : Nat, k ≤ m ∧ nI w = a_q ∧ mx (fun k => h (o + 1) k) (k * w) x = b_q ∧ nI k = c_q ∧ h = h_q) (fun ⟨_, _, c_q, _, _⟩ => dif (nI m) c_q) ?_ _ ⟨0, by omega, rfl, by rw [Nat.zero_mul]; rfl, nI_0, rfl⟩
  rintro ⟨y1, y2, y3, h1, g1⟩ K ⟨k, hk, rfl, rfl, rfl, rfl⟩ hK
  unfold F_X10_withTable_6; dsimp only; unfold b_X10_withTable_6
  refine c_i p_rows ?_
  rintro _ _ _ ⟨rfl, rfl, rfl⟩
  rw [T.2.2.1]
  refine ⟨fun c => ?_, fun c => ?_⟩
  · rw [nI_leI (by omega) (by omega)] at c
    rw [show m = k by omega]; exact ⟨rfl, rfl⟩
  · have hd := dif_lt c
    rw [nI_leI (by omega) (by omega)] at c
    refine c_l (q_X10_withRow T (i := k) (n := w) (by omega) (Nat.le_refl _)) ?_
    rintro _ _ g2 ⟨rfl, rfl⟩
    rintro _ rfl
    refine hK _ ⟨k + 1, by omega, rfl, ?_, (nI_1 k).symm, rfl⟩ hd
    rw [Nat.add_mul, Nat.one_mul, mx_add]
theorem SZ.an {h : HI} {f : Nat → Int32} {p n : Nat} (Z : SZ h f p n) {g : HL} {k : Nat} (hk : k < 3) {body : Int32 → HI → HL → Prop} (b : ∀ g', body (fsel f p (nI k)) h g') : ∃ P : Int32 → HI → HL → Prop, w_X7_answer (nI k) h g P ∧ ∀ (r : Int32) (h : HI) (g : HL), P r h g → body r h g := by
  obtain ⟨z9, z10, z11, -⟩ := Z
  refine ⟨fun r h' g' => body r h' g', ?_, fun _ _ _ x => x⟩
  unfold w_X7_answer
  have : k = 0 ∨ k = 1 ∨ k = 2 := by omega
  rcases this with rfl | rfl | rfl
  · refine ⟨fun n0 => absurd nI_0 n0, fun _ => ?_⟩
    have e : fsel f p (nI 0) = fLo f p := fsel0
    rw [z9, ← e]; exact b g
  · refine ⟨fun _ => ⟨fun n1 => absurd rfl n1, fun _ => ?_⟩, fun z => absurd z (by decide)⟩
    have e : fsel f p (nI 1) = fHi f p := fsel1
    rw [z10, ← e]; exact b g
  · refine ⟨fun _ => ⟨fun _ => ?_, fun z => absurd z (by decide)⟩, fun z => absurd z (by decide)⟩
    have e : fsel f p (nI 2) = fMn f p := by unfold fsel; exact if_pos rfl
    rw [z11, ← e]; exact b g
theorem BRc.jj {S : Nat → Prop} {h h' : HI} {m : Nat} {B : Nat → Nat} (x : BRc h m B) (J : JJ S h h') (n : ¬ S 3) : BRc h' m B := by
  refine ⟨fun p hp => ?_, x.2⟩
  rw [J 3 n]; exact x.1 p hp
theorem q_X10_withParts {h : HI} {g : HL} {f : Nat → Int32} (c : CX h f) {m n : Nat} (T : TT h 2 m 5 24) (S : TT h 6 n 6 60) (en : f 1 = nI n) {B : Nat → Nat} (R : BRc h m B) {x : Int64} : w_X10_withParts x h g (fun r h' _ => JJ SSz h h' ∧ r = pDg f B m x) := by
  have hm := T.2.2.2.1
  unfold w_X10_withParts
  refine lpE_intro (fun ⟨a_q, b_q, h_q, _⟩ => ∃ p : Nat, p ≤ m ∧ pDg f B p x = a_q ∧ nI p = b_q ∧ JJ SSz h h_q) (fun ⟨_, b_q, _, _⟩ => dif (nI m) b_q) ?_ _ ⟨0, by omega, rfl, nI_0, JJ.rf⟩
  rintro ⟨y1, y2, h1, g1⟩ K ⟨p, hp, rfl, rfl, J1⟩ hK
  have T1 : TT h1 2 m 5 24 := T.cg (J1 2 (by unfold SSz; omega))
  have S1 : TT h1 6 n 6 60 := S.cg (J1 6 (by unfold SSz; omega))
  have c1 : CX h1 f := c.jj J1 (fun q hq => by unfold SSz; omega)
  unfold F_X10_withParts_5; dsimp only; unfold b_X10_withParts_5
  refine c_i p_rows ?_
  rintro _ _ _ ⟨rfl, rfl, rfl⟩
  rw [T1.2.2.1]
  refine ⟨fun q => ?_, fun q => ?_⟩
  · rw [nI_leI (by omega) (by omega)] at q
    rw [show m = p by omega]; exact ⟨J1, rfl⟩
  · have hd := dif_lt q
    rw [nI_leI (by omega) (by omega)] at q
    refine c_l (q_X10_withRow T1 (i := p) (n := 4) (by omega) (by omega)) ?_
    rintro _ _ g2 ⟨rfl, rfl⟩
    rw [mx_cg (e' := fun c => f (20 + 5 * p + c)) (fun k hk => c1.cp T1 (by omega) hk)]
    refine c_v (q_X7_find c1 T1 S1 en (p := p) (by omega)) ?_
    rintro h2 g3 ⟨J2, Z⟩
    have J2' := J1.tr J2
    refine lpE_intro (fun ⟨a_q, b_q, c_q, h_q, _⟩ => ∃ k : Nat, k ≤ 3 ∧ mx (fun k => fsel f p (nI k)) k (mx (fun c => f (20 + 5 * p + c)) 4 (pDg f B p x)) = a_q ∧ nI p = b_q ∧ nI k = c_q ∧ h2 = h_q) (fun ⟨_, _, c_q, _, _⟩ => dif (nI 3) c_q) ?_ _ ⟨0, by omega, rfl, rfl, nI_0, rfl⟩
    rintro ⟨z1, z2, z3, h3, g4⟩ K2 ⟨k, hk, rfl, rfl, rfl, rfl⟩ hK2
    unfold F_X10_withParts_47; dsimp only; unfold b_X10_withParts_47
    refine ⟨fun q2 => ?_, fun q2 => ?_⟩
    · rw [show (3 : Int32) = nI 3 from rfl, nI_leI (by omega) (by omega)] at q2
      have : k = 3 := by omega
      subst this
      refine c_i (q_X1_reached (T1.cg (J2 2 (by unfold SSz; omega))) ((R.jj J1 (by unfold SSz; omega)).jj J2 (by unfold SSz; omega)) (p := p) (by omega)) ?_
      rintro _ _ _ ⟨rfl, rfl, s, hs, rfl, l⟩
      rw [← alN_eq hs l]
      rintro _ rfl
      rintro _ rfl
      exact hK _ ⟨p + 1, by omega, rfl, (nI_1 p).symm, J2'⟩ hd
    · have hd2 := dif_lt (a := nI 3) q2
      rw [show (3 : Int32) = nI 3 from rfl, nI_leI (by omega) (by omega)] at q2
      refine Z.an (by omega) (fun g5 => ?_)
      rintro _ rfl
      rintro _ rfl
      exact hK2 _ ⟨k + 1, by omega, rfl, rfl, (nI_1 k).symm, rfl⟩ hd2
theorem q_X10_withChains {h : HI} {g : HL} {f : Nat → Int32} (c : CX h f) {m mc : Nat} (T : TT h 2 m 5 24) (em : f 0 = nI m) (U : TT h 8 mc 15 16) (ec : f 2 = nI mc) {x : Int64} : w_X10_withChains x h g (fun r h' _ => h = h' ∧ r = cDg f mc x) := by
  have hmc := U.2.2.2.1
  unfold w_X10_withChains
  refine lpE_intro (fun ⟨a_q, b_q, h_q, _⟩ => ∃ i : Nat, i ≤ mc ∧ cDg f i x = a_q ∧ nI i = b_q ∧ h = h_q) (fun ⟨_, b_q, _, _⟩ => dif (nI mc) b_q) ?_ _ ⟨0, by omega, rfl, nI_0, rfl⟩
  rintro ⟨y1, y2, h1, g1⟩ K ⟨i, hi, rfl, rfl, rfl⟩ hK
  unfold F_X10_withChains_5; dsimp only; unfold b_X10_withChains_5
  refine c_i p_rows ?_
  rintro _ _ _ ⟨rfl, rfl, rfl⟩
  rw [U.2.2.1]
  refine ⟨fun q => ?_, fun q => ?_⟩
  · rw [nI_leI (by omega) (by omega)] at q
    rw [show mc = i by omega]; exact ⟨rfl, rfl⟩
  · have hd := dif_lt q
    rw [nI_leI (by omega) (by omega)] at q
    obtain ⟨C, D⟩ := c.ch T em U ec (c := i) (by omega)
    obtain ⟨C1, C2, C3, C4, C5⟩ := C
    refine c_i (p_atT U) ?_
    rintro _ _ _ ⟨rfl, rfl, rfl⟩
    rw [show tat h 8 (nI i) (2 : Int32) = nI (nCh f i) from (tat_nI U (b := 2) (by omega) (by omega)).trans D.2.2.1, show (3 : Int32) + ((2 : Int32) * nI (nCh f i)) = nI (3 + 2 * nCh f i) from ix2 3 2 _]
    refine c_l (q_X10_withRow U (i := i) (n := 3 + 2 * nCh f i) (by omega) (by omega)) ?_
    rintro _ _ g2 ⟨rfl, rfl⟩
    rintro _ rfl
    refine hK _ ⟨i + 1, by omega, ?_, (nI_1 i).symm, rfl⟩ hd
    show lDg f i (nCh f i) (mx (fun k => f (512 + 10 * i + k)) 3 (cDg f i x)) = mx (fun k => h 9 (i * 15 + k)) (3 + 2 * nCh f i) (cDg f i x)
    have st : ∀ k, k ≤ nCh f i → lDg f i k (mx (fun k => f (512 + 10 * i + k)) 3 (cDg f i x)) = mx (fun k => h 9 (i * 15 + k)) (3 + 2 * k) (cDg f i x) := by
      intro k
      induction k with
      | zero =>
        intro _
        show mx (fun k => f (512 + 10 * i + k)) 3 (cDg f i x) = mx (fun k => h 9 (i * 15 + k)) 3 (cDg f i x)
        refine mx_cg (fun k hk => ?_)
        have : k = 0 ∨ k = 1 ∨ k = 2 := by omega
        rcases this with rfl | rfl | rfl
        · exact D.1.symm
        · exact D.2.1.symm
        · exact C2.trans D.2.2.1.symm
      | succ k ih =>
        intro hk
        have e1 := (D.2.2.2 k (by omega)).1
        have e2 := (D.2.2.2 k (by omega)).2
        show (31 : Int64) * ((31 : Int64) * lDg f i k (mx (fun k => f (512 + 10 * i + k)) 3 (cDg f i x)) + (f (512 + 10 * i + (3 + k))).toInt64) + ((f (512 + 10 * i + 9) >>> (nI k &&& 31)) &&& 1).toInt64 = (31 : Int64) * ((31 : Int64) * mx (fun k => h 9 (i * 15 + k)) (3 + 2 * k) (cDg f i x) + (h 9 (i * 15 + (3 + 2 * k))).toInt64) + (h 9 (i * 15 + (3 + 2 * k + 1))).toInt64
        rw [ih (by omega), e1, show 3 + 2 * k + 1 = 4 + 2 * k by omega, e2, (C5 k (by omega)).2.1, C3, bit_v (by omega) (by omega)]
    exact st (nCh f i) (Nat.le_refl _)
/-- how many there are of all -/
def NB (f : Nat → Int32) (nw nm ns nt nh nz : Nat) : Prop := f 3 = nI nw ∧ f 4 = nI nm ∧ f 5 = nI ns ∧ f 6 = nI nt ∧ f 7 = nI nh ∧ f 8 = nI nz ∧ nw ≤ 8 ∧ nm ≤ 6 ∧ ns ≤ 9 ∧ nt ≤ 40 ∧ nh ≤ 3 ∧ nz ≤ 60
noncomputable def DGN (f : Nat → Int32) (B : Nat → Nat) (m n mc nw nm ns nt nh nz : Nat) : Int64 :=
  mx (fun k => f (827 + k)) (nz * 1) (mx (fun k => f (823 + k)) (4 * 1) (mx (fun k => f (817 + k)) (nh * 2) (mx (fun k => f (737 + k)) (nt * 2) (mx (fun k => f (9 + k)) (1 * 2) (mx (fun k => f (710 + k)) (ns * 3) (mx (fun k => f (704 + k)) (nm * 1) (mx (fun k => f (672 + k)) (nw * 4) (cDg f mc (mx (fun k => f (152 + k)) (n * 6) (mx (fun k => f (140 + k)) (4 * 3) (pDg f B m (mx (fun k => cvR f n k) 10 383))))))))))))
theorem CX.tab {h : HI} {f : Nat → Int32} (c : CX h f) {j m : Nat} (hj : j < 12) (j0 : ¬ j = 0) (j3 : ¬ j = 3) (T : TT h (1 + (1 + 2 * j)) m (wJ j) (MJ j)) {x : Int64} : mx (fun k => h (1 + (1 + 2 * j) + 1) k) (m * wJ j) x = mx (fun k => f (bsJ j + k)) (m * wJ j) x :=
  mx_cg (fun k hk => (CE.es j0 j3).mp (c.ci hj T) k hk)
theorem q_X10_digest {h : HI} {g : HL} {f : Nat → Int32} (c : CX h f) {m n mc nw nm ns nt nh nz : Nat} (T : TT h 2 m 5 24) (em : f 0 = nI m) (S : TT h 6 n 6 60) (en : f 1 = nI n) (U : TT h 8 mc 15 16) (ec : f 2 = nI mc) (Tw : TT h 10 nw 4 8) (Tm : TT h 12 nm 1 6) (Ts : TT h 14 ns 3 9) (Tt : TT h 18 nt 2 40) (Th : TT h 20 nh 2 3) (Tz : TT h 24 nz 1 60) (To : TT h 16 1 2 1) (Tn : TT h 22 4 1 4) {B : Nat → Nat} (R : BRc h m B) (cv : ∀ k, k ≤ 9 → cvC h n k = cvR f n k) : w_X10_digest h g (fun r h' _ => JJ SC h h' ∧ r = DGN f B m n mc nw nm ns nt nh nz) := by
  unfold w_X10_digest
  refine lpE_intro (fun ⟨a_q, b_q, h_q, _⟩ => ∃ k : Nat, k ≤ 10 ∧ mx (fun k => cvR f n k) k 383 = a_q ∧ nI k = b_q ∧ h = h_q) (fun ⟨_, b_q, _, _⟩ => dif (nI 10) b_q) ?_ _ ⟨0, by omega, rfl, nI_0, rfl⟩
  rintro ⟨y1, y2, h1, g1⟩ K ⟨k, hk, rfl, rfl, rfl⟩ hK
  unfold F_X10_digest_6; dsimp only; unfold b_X10_digest_6
  refine ⟨fun q => ?_, fun q => ?_⟩
  rotate_left
  · have hd := dif_lt (a := nI 10) q
    rw [show (10 : Int32) = nI 10 from rfl, nI_leI (by omega) (by omega)] at q
    refine c_i (q_X10_count S) ?_
    rintro r _ _ ⟨rfl, rfl, ⟨nb, -⟩ | ⟨k', hk', e, rfl⟩⟩
    · exact absurd (bd_of (by omega) (by omega) (by omega)) nb
    · have : k = k' := (nI_eq (by omega) (by omega)).mp e
      subst this
      rw [cv k hk']
      rintro _ rfl
      rintro _ rfl
      exact hK _ ⟨k + 1, by omega, rfl, (nI_1 k).symm, rfl⟩ hd
  · rw [show (10 : Int32) = nI 10 from rfl, nI_leI (by omega) (by omega)] at q
    have : k = 10 := by omega
    subst this
    refine c_l (q_X10_withParts c T S en R) ?_
    rintro _ h2 g2 ⟨J, rfl⟩
    have c2 : CX h2 f := c.jj J (fun q hq => by unfold SSz; omega)
    have tt : ∀ {o m w M : Nat}, TT h o m w M → o ≤ 75 → TT h2 o m w M := fun t ho => t.cg (J _ (by unfold SSz; omega))
    have J2 : JJ SC h h2 := J.mo (fun q hq => by unfold SSz at hq; unfold SC; omega)
    refine c_l (q_X10_withTable (tt c.tF (by omega))) ?_
    rintro _ _ g3 ⟨rfl, rfl⟩
    refine c_l (q_X10_withTable (tt S (by omega))) ?_
    rintro _ _ g4 ⟨rfl, rfl⟩
    refine c_l (q_X10_withChains c2 (tt T (by omega)) em (tt U (by omega)) ec) ?_
    rintro _ _ g5 ⟨rfl, rfl⟩
    refine c_l (q_X10_withTable (tt Tw (by omega))) ?_
    rintro _ _ g6 ⟨rfl, rfl⟩
    refine c_l (q_X10_withTable (tt Tm (by omega))) ?_
    rintro _ _ g7 ⟨rfl, rfl⟩
    refine c_l (q_X10_withTable (tt Ts (by omega))) ?_
    rintro _ _ g8 ⟨rfl, rfl⟩
    refine c_l (q_X10_withTable (tt To (by omega))) ?_
    rintro _ _ g9 ⟨rfl, rfl⟩
    refine c_l (q_X10_withTable (tt Tt (by omega))) ?_
    rintro _ _ g10 ⟨rfl, rfl⟩
    refine c_l (q_X10_withTable (tt Th (by omega))) ?_
    rintro _ _ g11 ⟨rfl, rfl⟩
    refine c_l (q_X10_withTable (tt Tn (by omega))) ?_
    rintro _ _ g12 ⟨rfl, rfl⟩
    refine c_l (q_X10_withTable (tt Tz (by omega))) ?_
    rintro _ _ g13 ⟨rfl, rfl⟩
    refine ⟨J2, ?_⟩
    unfold DGN
    rw [show mx (fun k => h2 (4 + 1) k) (4 * 3) (pDg f B m (mx (fun k => cvR f n k) 10 383)) = mx (fun k => f (140 + k)) (4 * 3) (pDg f B m (mx (fun k => cvR f n k) 10 383)) from c2.tab (j := 1) (by omega) (by decide) (by decide) (tt c.tF (by omega))]
    generalize mx (fun k => f (140 + k)) (4 * 3) (pDg f B m (mx (fun k => cvR f n k) 10 383)) = x1
    rw [show mx (fun k => h2 (6 + 1) k) (n * 6) x1 = mx (fun k => f (152 + k)) (n * 6) x1 from c2.tab (j := 2) (by omega) (by decide) (by decide) (tt S (by omega))]
    generalize cDg f mc (mx (fun k => f (152 + k)) (n * 6) x1) = x2
    rw [show mx (fun k => h2 (10 + 1) k) (nw * 4) x2 = mx (fun k => f (672 + k)) (nw * 4) x2 from c2.tab (j := 4) (by omega) (by decide) (by decide) (tt Tw (by omega))]
    generalize mx (fun k => f (672 + k)) (nw * 4) x2 = x3
    rw [show mx (fun k => h2 (12 + 1) k) (nm * 1) x3 = mx (fun k => f (704 + k)) (nm * 1) x3 from c2.tab (j := 5) (by omega) (by decide) (by decide) (tt Tm (by omega))]
    generalize mx (fun k => f (704 + k)) (nm * 1) x3 = x4
    rw [show mx (fun k => h2 (14 + 1) k) (ns * 3) x4 = mx (fun k => f (710 + k)) (ns * 3) x4 from c2.tab (j := 6) (by omega) (by decide) (by decide) (tt Ts (by omega))]
    generalize mx (fun k => f (710 + k)) (ns * 3) x4 = x5
    rw [show mx (fun k => h2 (16 + 1) k) (1 * 2) x5 = mx (fun k => f (9 + k)) (1 * 2) x5 from c2.tab (j := 7) (by omega) (by decide) (by decide) (tt To (by omega))]
    generalize mx (fun k => f (9 + k)) (1 * 2) x5 = x6
    rw [show mx (fun k => h2 (18 + 1) k) (nt * 2) x6 = mx (fun k => f (737 + k)) (nt * 2) x6 from c2.tab (j := 8) (by omega) (by decide) (by decide) (tt Tt (by omega))]
    generalize mx (fun k => f (737 + k)) (nt * 2) x6 = x7
    rw [show mx (fun k => h2 (20 + 1) k) (nh * 2) x7 = mx (fun k => f (817 + k)) (nh * 2) x7 from c2.tab (j := 9) (by omega) (by decide) (by decide) (tt Th (by omega))]
    generalize mx (fun k => f (817 + k)) (nh * 2) x7 = x8
    rw [show mx (fun k => h2 (22 + 1) k) (4 * 1) x8 = mx (fun k => f (823 + k)) (4 * 1) x8 from c2.tab (j := 10) (by omega) (by decide) (by decide) (tt Tn (by omega))]
    generalize mx (fun k => f (823 + k)) (4 * 1) x8 = x9
    exact c2.tab (j := 11) (by omega) (by decide) (by decide) (tt Tz (by omega))
/-! the reference -/
theorem q_X11_mixed {h : HI} {g : HL} {x1 : Int64} {a n : Nat} (ha : a + n ≤ 887) : w_X11_mixed x1 (nI a) (nI n) h g (fun r h' _ => h = h' ∧ r = mx (fun k => h 136 (a + k)) n x1) := by
  unfold w_X11_mixed
  refine lpE_intro (fun ⟨a_q, b_q, c_q, d_q, h_q, _⟩ => ∃ k : Nat, k ≤ n ∧ nI a = a_q ∧ nI n = b_q ∧ mx (fun k => h 136 (a + k)) k x1 = c_q ∧ nI k = d_q ∧ h = h_q) (fun ⟨_, _, _, d_q, _, _⟩ => dif (nI n) d_q) ?_ _ ⟨0, Nat.zero_le _, rfl, rfl, rfl, nI_0, rfl⟩
  rintro ⟨y1, y2, y3, y4, h1, g1⟩ K ⟨k, hk, rfl, rfl, rfl, rfl, rfl⟩ hK
  unfold F_X11_mixed_6; dsimp only; unfold b_X11_mixed_6
  refine ⟨fun c => ?_, fun c => ?_⟩
  · rw [nI_leI (by omega) (by omega)] at c
    rw [show n = k by omega]; exact ⟨rfl, rfl⟩
  · have hd := dif_lt c
    rw [nI_leI (by omega) (by omega)] at c
    rw [nI_add, nI_clamp (by omega)]
    refine and_have (vp_in_nI (by omega) (by omega)) (fun _ => ?_)
    rintro _ rfl
    rintro _ rfl
    exact hK _ ⟨k + 1, by omega, rfl, rfl, rfl, (nI_1 k).symm, rfl⟩ hd
set_option maxHeartbeats 1000000 in
theorem q_X11_digest {h : HI} {g : HL} {f : Nat → Int32} (ef : h 136 = f) {m n mc nw nm ns nt nh nz : Nat} (X : FX f m n mc) (N : NB f nw nm ns nt nh nz) {B : Nat → Nat} (R : BRr f m B) : w_X11_digest h g (fun r h' _ => KJ SFf h h' ∧ r = DGN f B m n mc nw nm ns nt nh nz) := by
  obtain ⟨rg, v, w, em, hm, en, hn, ec, hmc, CH, -⟩ := X
  obtain ⟨e3, e4, e5, e6, e7, e8, b3, b4, b5, b6, b7, b8⟩ := N
  have v0 : vp_in (0 : Int32) 887 := vp_in_iff.mpr (by decide)
  have v1 : vp_in (1 : Int32) 887 := vp_in_iff.mpr (by decide)
  have v2 : vp_in (2 : Int32) 887 := vp_in_iff.mpr (by decide)
  have v3 : vp_in (3 : Int32) 887 := vp_in_iff.mpr (by decide)
  have v4 : vp_in (4 : Int32) 887 := vp_in_iff.mpr (by decide)
  have v5 : vp_in (5 : Int32) 887 := vp_in_iff.mpr (by decide)
  have v6 : vp_in (6 : Int32) 887 := vp_in_iff.mpr (by decide)
  have v7 : vp_in (7 : Int32) 887 := vp_in_iff.mpr (by decide)
  have v8 : vp_in (8 : Int32) 887 := vp_in_iff.mpr (by decide)
  have d3 : (3 : Int32).toNatClampNeg = 3 := by decide
  have d5 : (5 : Int32).toNatClampNeg = 5 := by decide
  have d6 : (6 : Int32).toNatClampNeg = 6 := by decide
  have d7 : (7 : Int32).toNatClampNeg = 7 := by decide
  have d8 : (8 : Int32).toNatClampNeg = 8 := by decide
  unfold w_X11_digest
  refine lpE_intro (fun ⟨a_q, b_q, h_q, _⟩ => ∃ k : Nat, k ≤ 10 ∧ mx (fun k => cvR f n k) k 383 = a_q ∧ nI k = b_q ∧ h = h_q) (fun ⟨_, b_q, _, _⟩ => dif (nI 10) b_q) ?_ _ ⟨0, by omega, rfl, nI_0, rfl⟩
  rintro ⟨y1, y3, h1, g1⟩ K ⟨k, hk, rfl, rfl, rfl⟩ hK
  unfold F_X11_digest_6; dsimp only; unfold b_X11_digest_6
  refine ⟨fun c => ?_, fun c => ?_⟩
  rotate_left
  · have hd := dif_lt (a := nI 10) c
    rw [show (10 : Int32) = nI 10 from rfl, nI_leI (by omega) (by omega)] at c
    refine c_i (q_X11_countOf (by rw [ef]; exact rg.ri) (by rw [ef]; exact en) hn (k := k) (by omega)) ?_
    rintro _ _ _ ⟨rfl, rfl, rfl⟩
    rw [ef]
    rintro _ rfl
    rintro _ rfl
    exact hK _ ⟨k + 1, by omega, rfl, (nI_1 k).symm, rfl⟩ hd
  rw [show (10 : Int32) = nI 10 from rfl, nI_leI (by omega) (by omega)] at c
  have : k = 10 := by omega
  subst this
  clear hK c hk
  refine lpE_intro (fun ⟨a_q, b_q, h_q, _⟩ => ∃ p : Nat, p ≤ m ∧ pDg f B p (mx (fun k => cvR f n k) 10 383) = a_q ∧ nI p = b_q ∧ KJ SFf h h_q) (fun ⟨_, b_q, _, _⟩ => dif (nI m) b_q) ?_ _ ⟨0, by omega, rfl, nI_0, KJ.rf⟩
  generalize ex0 : mx (fun k => cvR f n k) 10 383 = x0
  rintro ⟨z1, z3, h2, g2⟩ K2 ⟨p, hp, rfl, rfl, J2⟩ hK2
  have f2 : h2 136 = f := (J2.f6 (fun k => by unfold SFf; omega)).trans ef
  unfold F_X11_digest_33; dsimp only; unfold b_X11_digest_33
  rw [cl0, f2, em]
  refine and_have v0 (fun _ => ⟨fun c => ?_, fun c => ?_⟩)
  · rw [nI_leI (by omega) (by omega)] at c
    have : p = m := by omega
    subst this
    clear hK2 c hp
    refine c_l (q_X11_mixed (a := 140) (n := 12) (by omega)) ?_
    rintro _ _ g3 ⟨rfl, rfl⟩
    refine and_have v1 (fun _ => ?_)
    rw [cl1, f2, en, show (6 : Int32) * nI n = nI (6 * n) from pk_mul 6 n]
    refine c_l (q_X11_mixed (a := 152) (n := 6 * n) (by omega)) ?_
    rintro _ _ g4 ⟨rfl, rfl⟩
    rw [f2]
    refine lpE_intro (fun ⟨a_q, b_q, h_q, _⟩ => ∃ q : Nat, q ≤ mc ∧ cDg f q (mx (fun k => f (152 + k)) (6 * n) (mx (fun k => f (140 + k)) 12 (pDg f B p x0))) = a_q ∧ nI q = b_q ∧ h2 = h_q) (fun ⟨_, b_q, _, _⟩ => dif (nI mc) b_q) ?_ _ ⟨0, by omega, rfl, nI_0, rfl⟩
    rintro ⟨w1, w3, h3, g5⟩ K3 ⟨q, hq, rfl, rfl, rfl⟩ hK3
    unfold F_X11_digest_134; dsimp only; unfold b_X11_digest_134
    rw [cl2, f2, ec]
    refine and_have v2 (fun _ => ⟨fun c => ?_, fun c => ?_⟩)
    · rw [nI_leI (by omega) (by omega)] at c
      have : q = mc := by omega
      subst this
      refine and_have v3 (fun _ => ?_)
      rw [d3, e3, show (4 : Int32) * nI nw = nI (4 * nw) from pk_mul 4 nw]
      refine c_l (q_X11_mixed (a := 672) (n := 4 * nw) (by omega)) ?_
      rintro _ _ g6 ⟨rfl, rfl⟩
      refine and_have v4 (fun _ => ?_)
      rw [cl4, f2, e4]
      refine c_l (q_X11_mixed (a := 704) (n := nm) (by omega)) ?_
      rintro _ _ g7 ⟨rfl, rfl⟩
      refine and_have v5 (fun _ => ?_)
      rw [d5, f2, e5, show (3 : Int32) * nI ns = nI (3 * ns) from pk_mul 3 ns]
      refine c_l (q_X11_mixed (a := 710) (n := 3 * ns) (by omega)) ?_
      rintro _ _ g8 ⟨rfl, rfl⟩
      refine c_l (q_X11_mixed (a := 9) (n := 2) (by omega)) ?_
      rintro _ _ g9 ⟨rfl, rfl⟩
      refine and_have v6 (fun _ => ?_)
      rw [d6, f2, e6, show (2 : Int32) * nI nt = nI (2 * nt) from pk_mul 2 nt]
      refine c_l (q_X11_mixed (a := 737) (n := 2 * nt) (by omega)) ?_
      rintro _ _ g10 ⟨rfl, rfl⟩
      refine and_have v7 (fun _ => ?_)
      rw [d7, f2, e7, show (2 : Int32) * nI nh = nI (2 * nh) from pk_mul 2 nh]
      refine c_l (q_X11_mixed (a := 817) (n := 2 * nh) (by omega)) ?_
      rintro _ _ g11 ⟨rfl, rfl⟩
      refine c_l (q_X11_mixed (a := 823) (n := 4) (by omega)) ?_
      rintro _ _ g12 ⟨rfl, rfl⟩
      refine and_have v8 (fun _ => ?_)
      rw [d8, f2, e8]
      refine c_l (q_X11_mixed (a := 827) (n := nz) (by omega)) ?_
      rintro _ _ g13 ⟨rfl, rfl⟩
      refine ⟨J2, ?_⟩
      unfold DGN
      rw [f2, ex0, Nat.mul_comm nz 1, Nat.one_mul nz, Nat.mul_comm nh 2, Nat.mul_comm nt 2, Nat.mul_comm ns 3, Nat.mul_comm nm 1, Nat.one_mul nm, Nat.mul_comm nw 4, Nat.mul_comm n 6]
    · have hd := dif_lt c
      rw [nI_leI (by omega) (by omega)] at c
      obtain ⟨C1, C2, C3, C4, C5⟩ := CH q (by omega)
      rw [show (512 : Int32) + ((10 : Int32) * nI q) = nI (512 + 10 * q) from ix2 512 10 q]
      refine c_l (q_X11_mixed (a := 512 + 10 * q) (n := 3) (by omega)) ?_
      rintro _ _ g6 ⟨rfl, rfl⟩
      rw [f2]
      generalize ex1 : mx (fun k => f (512 + 10 * q + k)) 3 (cDg f q (mx (fun k => f (152 + k)) (6 * n) (mx (fun k => f (140 + k)) 12 (pDg f B p x0)))) = x1
      refine lpE_intro (fun ⟨a_q, b_q, c_q, h_q, _⟩ => ∃ k : Nat, k ≤ nCh f q ∧ lDg f q k x1 = a_q ∧ nI q = b_q ∧ nI k = c_q ∧ h2 = h_q) (fun ⟨_, _, c_q, _, _⟩ => dif (nI (nCh f q)) c_q) ?_ _ ⟨0, by omega, rfl, rfl, nI_0, rfl⟩
      rintro ⟨s1, s2, s3, h4, g7⟩ K4 ⟨k, hk, rfl, rfl, rfl, rfl⟩ hK4
      unfold F_X11_digest_162; dsimp only; unfold b_X11_digest_162
      refine c_cO (k := 2) (by omega) (by omega) ?_
      rw [f2, C2]
      refine ⟨fun z => ?_, fun z => ?_⟩
      · rw [nI_leI (by omega) (by omega)] at z
        have : k = nCh f q := by omega
        subst this
        rintro _ rfl
        refine hK3 _ ⟨q + 1, by omega, ?_, (nI_1 q).symm, rfl⟩ hd
        show lDg f q (nCh f q) (mx (fun k => f (512 + 10 * q + k)) 3 (cDg f q (mx (fun k => f (152 + k)) (6 * n) (mx (fun k => f (140 + k)) 12 (pDg f B p x0))))) = _
        rw [ex1]
      · have hd4 := dif_lt z
        rw [nI_leI (by omega) (by omega)] at z
        rw [show (3 : Int32) + nI k = nI (3 + k) from nI_add 3 k]
        refine c_cO (k := 3 + k) (by omega) (by omega) (c_cO (k := 9) (by omega) (by omega) ?_)
        rw [f2]
        rintro _ rfl
        rintro _ rfl
        exact hK4 _ ⟨k + 1, by omega, rfl, rfl, (nI_1 k).symm, rfl⟩ hd4
  · have hd := dif_lt c
    rw [nI_leI (by omega) (by omega)] at c
    rw [show (20 : Int32) + ((5 : Int32) * nI p) = nI (20 + 5 * p) from ix2 20 5 p]
    refine c_l (q_X11_mixed (a := 20 + 5 * p) (n := 4) (by omega)) ?_
    rintro _ _ g3 ⟨rfl, rfl⟩
    rw [f2]
    generalize ex1 : mx (fun k => f (20 + 5 * p + k)) 4 (pDg f B p x0) = x1
    refine lpE_intro (fun ⟨a_q, b_q, c_q, h_q, _⟩ => ∃ k : Nat, k ≤ 3 ∧ mx (fun k => fsel f p (nI k)) k x1 = a_q ∧ nI p = b_q ∧ nI k = c_q ∧ KJ SFf h h_q) (fun ⟨_, _, c_q, _, _⟩ => dif (nI 3) c_q) ?_ _ ⟨0, by omega, rfl, rfl, nI_0, J2⟩
    rintro ⟨s1, s2, s3, h4, g7⟩ K4 ⟨k, hk, rfl, rfl, rfl, J4⟩ hK4
    have f4 : h4 136 = f := (J4.f6 (fun k => by unfold SFf; omega)).trans ef
    unfold F_X11_digest_59; dsimp only; unfold b_X11_digest_59
    refine ⟨fun z => ?_, fun z => ?_⟩
    · rw [show (3 : Int32) = nI 3 from rfl, nI_leI (by omega) (by omega)] at z
      have : k = 3 := by omega
      subst this
      refine c_i (q_X11_alongOf (by rw [f4]; exact rg.ri) (by rw [f4]; exact em) hm (by rw [f4]; exact R) (p := p) (by omega)) ?_
      rintro _ _ _ ⟨rfl, rfl, s, hs, rfl, l⟩
      rw [← alN_eq hs l]
      rintro _ rfl
      rintro _ rfl
      refine hK2 _ ⟨p + 1, by omega, ?_, (nI_1 p).symm, J4⟩ hd
      show (31 : Int64) * mx (fun k => fsel f p (nI k)) 3 (mx (fun c => f (20 + 5 * p + c)) 4 (pDg f B p x0)) + (nI (alN B p)).toInt64 = _
      rw [ex1]
    · have hd4 := dif_lt (a := nI 3) z
      rw [show (3 : Int32) = nI 3 from rfl, nI_leI (by omega) (by omega)] at z
      refine c_i (q_X11_firstOf f4 rg v w (p := p) (by omega) en hn) ?_
      rintro _ h5 g8 ⟨J5, rfl⟩
      rintro _ rfl
      rintro _ rfl
      exact hK4 _ ⟨k + 1, by omega, rfl, rfl, (nI_1 k).symm, J4.tr J5⟩ hd4
