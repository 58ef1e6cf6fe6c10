/-! DECODING by the bytes that stand there -/
def by1 (c : ByteArray) (p a : Nat) : Bool := match c.data.toList.drop p with
  | x :: _ => Nat.beq x.toNat a
  | _ => false
def by2 (c : ByteArray) (p a b : Nat) : Bool := match c.data.toList.drop p with
  | x :: y :: _ => Nat.beq x.toNat a && Nat.beq y.toNat b
  | _ => false
def by3 (c : ByteArray) (p a b d : Nat) : Bool := match c.data.toList.drop p with
  | x :: y :: z :: _ => Nat.beq x.toNat a && (Nat.beq y.toNat b && Nat.beq z.toNat d)
  | _ => false
theorem u1_of {c : ByteArray} {p : Nat} {v : UInt8} (h : c.data.toList[p]? = some v) : (Jvm.ClassFile.Reader.u1 : Decoder Nat) c p = .ok (v.toNat, p + 1) := by
  obtain ⟨hlt, e⟩ := List.getElem?_eq_some_iff.mp h
  have hs : p < c.size := hlt
  unfold Jvm.ClassFile.Reader.u1
  show (dite (p < c.size) _ _ : Decoder Nat) c p = _
  rw [dif_pos hs]
  show Except.ok ((c[p]'hs).toNat, p + 1) = _
  have e2 : c[p]'hs = v := e
  rw [e2]
theorem dr_at {l : List UInt8} : ∀ {p : Nat} {a : UInt8} {t : List UInt8}, l.drop p = a :: t → l[p]? = some a ∧ l.drop (p + 1) = t := by
  intro p a t h
  have h0 : (l.drop p)[0]? = some a := by rw [h]; rfl
  rw [List.getElem?_drop, Nat.add_zero] at h0
  refine ⟨h0, ?_⟩
  rw [← List.drop_drop, h]; rfl
theorem by1_u {c : ByteArray} {p a : Nat} (h : by1 c p a = true) : (Jvm.ClassFile.Reader.u1 : Decoder Nat) c p = .ok (a, p + 1) := by
  unfold by1 at h
  match e : c.data.toList.drop p, h with
  | x :: t, h =>
    have h : Nat.beq x.toNat a = true := h
    rw [u1_of (dr_at e).1, Nat.eq_of_beq_eq_true h]
theorem by2_u {c : ByteArray} {p a b : Nat} (h : by2 c p a b = true) : (Jvm.ClassFile.Reader.u1 : Decoder Nat) c p = .ok (a, p + 1) ∧ (Jvm.ClassFile.Reader.u1 : Decoder Nat) c (p + 1) = .ok (b, p + 1 + 1) := by
  unfold by2 at h
  match e : c.data.toList.drop p, h with
  | x :: y :: t, h =>
    have h : (Nat.beq x.toNat a && Nat.beq y.toNat b) = true := h
    rw [Bool.and_eq_true] at h
    rw [u1_of (dr_at e).1, u1_of (dr_at (dr_at e).2).1, Nat.eq_of_beq_eq_true h.1, Nat.eq_of_beq_eq_true h.2]; exact ⟨rfl, rfl⟩
theorem by3_u {c : ByteArray} {p a b d : Nat} (h : by3 c p a b d = true) : (Jvm.ClassFile.Reader.u1 : Decoder Nat) c p = .ok (a, p + 1) ∧ (Jvm.ClassFile.Reader.u1 : Decoder Nat) c (p + 1) = .ok (b, p + 1 + 1) ∧ (Jvm.ClassFile.Reader.u1 : Decoder Nat) c (p + 1 + 1) = .ok (d, p + 1 + 1 + 1) := by
  unfold by3 at h
  match e : c.data.toList.drop p, h with
  | x :: y :: z :: t, h =>
    have h : (Nat.beq x.toNat a && (Nat.beq y.toNat b && Nat.beq z.toNat d)) = true := h
    rw [Bool.and_eq_true, Bool.and_eq_true] at h
    rw [u1_of (dr_at e).1, u1_of (dr_at (dr_at e).2).1, u1_of (dr_at (dr_at (dr_at e).2).2).1, Nat.eq_of_beq_eq_true h.1, Nat.eq_of_beq_eq_true h.2.1, Nat.eq_of_beq_eq_true h.2.2]; exact ⟨rfl, rfl, rfl⟩
theorem dr_pre {l k : List UInt8} {a n b : Nat} (E : (l.drop a).take n = k) : k.drop b = (l.drop (a + b)).take (n - b) := by
  rw [← E, List.drop_take, List.drop_drop]
theorem tk_pre {m t : List UInt8} {q : Nat} (h : m.take q = t) : ∃ t', m = t ++ t' := ⟨m.drop q, by rw [← h, List.take_append_drop]⟩
def ly1 (k : List UInt8) (b A : Nat) : Bool := match k.drop b with
  | x :: _ => Nat.beq x.toNat A
  | _ => false
def ly2 (k : List UInt8) (b A B : Nat) : Bool := match k.drop b with
  | x :: y :: _ => Nat.beq x.toNat A && Nat.beq y.toNat B
  | _ => false
def ly3 (k : List UInt8) (b A B D : Nat) : Bool := match k.drop b with
  | x :: y :: z :: _ => Nat.beq x.toNat A && (Nat.beq y.toNat B && Nat.beq z.toNat D)
  | _ => false
theorem by1_k {c : ByteArray} {k : List UInt8} {a n b p A : Nat} (E : (c.data.toList.drop a).take n = k) (hp : p = a + b) (h : ly1 k b A = true) : by1 c p A = true := by
  subst hp
  unfold ly1 at h
  match e : k.drop b, h with
  | x :: t, h =>
    rw [dr_pre E] at e
    obtain ⟨t', e'⟩ := tk_pre e
    unfold by1
    rw [e']; exact h
theorem by2_k {c : ByteArray} {k : List UInt8} {a n b p A B : Nat} (E : (c.data.toList.drop a).take n = k) (hp : p = a + b) (h : ly2 k b A B = true) : by2 c p A B = true := by
  subst hp
  unfold ly2 at h
  match e : k.drop b, h with
  | x :: y :: t, h =>
    rw [dr_pre E] at e
    obtain ⟨t', e'⟩ := tk_pre e
    unfold by2
    rw [e']; exact h
theorem by3_k {c : ByteArray} {k : List UInt8} {a n b p A B D : Nat} (E : (c.data.toList.drop a).take n = k) (hp : p = a + b) (h : ly3 k b A B D = true) : by3 c p A B D = true := by
  subst hp
  unfold ly3 at h
  match e : k.drop b, h with
  | x :: y :: z :: t, h =>
    rw [dr_pre E] at e
    obtain ⟨t', e'⟩ := tk_pre e
    unfold by3
    rw [e']; exact h
theorem dk_s1 {p : Nat} : p + 1 - p = 1 := Nat.add_sub_cancel_left p 1
theorem dk_s2 {p : Nat} : p + 1 + 1 - p = 2 := by omega
theorem dk_s3 {p : Nat} : p + 1 + 1 + 1 - p = 3 := by omega
theorem eb_ok {α β : Type} {e : Except DecodeError α} {k : α → Except DecodeError β} {a : α} (h : e = .ok a) : Except.bind e k = k a := by rw [h]; rfl
set_option maxRecDepth 100000 in
theorem dk_2 {c : ByteArray} {p : Nat} (h : by1 c p 2 = true) : decode c p = .ok ((Instr.iconst (-1)), 1) := by
  show Except.bind (Except.bind ((Jvm.ClassFile.Reader.u1 : Decoder Nat) c p) _) _ = _
  rw [eb_ok (by1_u h)]
  show Except.ok ((Instr.iconst (-1)), p + 1 - p) = _
  rw [dk_s1]
set_option maxRecDepth 100000 in
theorem dk_3 {c : ByteArray} {p : Nat} (h : by1 c p 3 = true) : decode c p = .ok ((Instr.iconst 0), 1) := by
  show Except.bind (Except.bind ((Jvm.ClassFile.Reader.u1 : Decoder Nat) c p) _) _ = _
  rw [eb_ok (by1_u h)]
  show Except.ok ((Instr.iconst 0), p + 1 - p) = _
  rw [dk_s1]
set_option maxRecDepth 100000 in
theorem dk_4 {c : ByteArray} {p : Nat} (h : by1 c p 4 = true) : decode c p = .ok ((Instr.iconst 1), 1) := by
  show Except.bind (Except.bind ((Jvm.ClassFile.Reader.u1 : Decoder Nat) c p) _) _ = _
  rw [eb_ok (by1_u h)]
  show Except.ok ((Instr.iconst 1), p + 1 - p) = _
  rw [dk_s1]
set_option maxRecDepth 100000 in
theorem dk_5 {c : ByteArray} {p : Nat} (h : by1 c p 5 = true) : decode c p = .ok ((Instr.iconst 2), 1) := by
  show Except.bind (Except.bind ((Jvm.ClassFile.Reader.u1 : Decoder Nat) c p) _) _ = _
  rw [eb_ok (by1_u h)]
  show Except.ok ((Instr.iconst 2), p + 1 - p) = _
  rw [dk_s1]
set_option maxRecDepth 100000 in
theorem dk_6 {c : ByteArray} {p : Nat} (h : by1 c p 6 = true) : decode c p = .ok ((Instr.iconst 3), 1) := by
  show Except.bind (Except.bind ((Jvm.ClassFile.Reader.u1 : Decoder Nat) c p) _) _ = _
  rw [eb_ok (by1_u h)]
  show Except.ok ((Instr.iconst 3), p + 1 - p) = _
  rw [dk_s1]
set_option maxRecDepth 100000 in
theorem dk_7 {c : ByteArray} {p : Nat} (h : by1 c p 7 = true) : decode c p = .ok ((Instr.iconst 4), 1) := by
  show Except.bind (Except.bind ((Jvm.ClassFile.Reader.u1 : Decoder Nat) c p) _) _ = _
  rw [eb_ok (by1_u h)]
  show Except.ok ((Instr.iconst 4), p + 1 - p) = _
  rw [dk_s1]
set_option maxRecDepth 100000 in
theorem dk_8 {c : ByteArray} {p : Nat} (h : by1 c p 8 = true) : decode c p = .ok ((Instr.iconst 5), 1) := by
  show Except.bind (Except.bind ((Jvm.ClassFile.Reader.u1 : Decoder Nat) c p) _) _ = _
  rw [eb_ok (by1_u h)]
  show Except.ok ((Instr.iconst 5), p + 1 - p) = _
  rw [dk_s1]
set_option maxRecDepth 100000 in
theorem dk_9 {c : ByteArray} {p : Nat} (h : by1 c p 9 = true) : decode c p = .ok ((Instr.lconst 0), 1) := by
  show Except.bind (Except.bind ((Jvm.ClassFile.Reader.u1 : Decoder Nat) c p) _) _ = _
  rw [eb_ok (by1_u h)]
  show Except.ok ((Instr.lconst 0), p + 1 - p) = _
  rw [dk_s1]
set_option maxRecDepth 100000 in
theorem dk_10 {c : ByteArray} {p : Nat} (h : by1 c p 10 = true) : decode c p = .ok ((Instr.lconst 1), 1) := by
  show Except.bind (Except.bind ((Jvm.ClassFile.Reader.u1 : Decoder Nat) c p) _) _ = _
  rw [eb_ok (by1_u h)]
  show Except.ok ((Instr.lconst 1), p + 1 - p) = _
  rw [dk_s1]
set_option maxRecDepth 100000 in
theorem dk_16 {c : ByteArray} {p x : Nat} {v : Int} (h : by2 c p 16 x = true) (hv : Jvm.ClassFile.Reader.signed 8 x = v) : decode c p = .ok ((Instr.bipush v), 2) := by
  obtain ⟨h1, h2⟩ := by2_u h
  show Except.bind (Except.bind ((Jvm.ClassFile.Reader.u1 : Decoder Nat) c p) _) _ = _
  rw [eb_ok h1]
  show Except.bind (Except.bind (Except.bind ((Jvm.ClassFile.Reader.u1 : Decoder Nat) c (p + 1)) _) _) _ = _
  rw [eb_ok h2]
  show Except.ok ((Instr.bipush (Jvm.ClassFile.Reader.signed 8 x)), p + 1 + 1 - p) = _
  rw [dk_s2, hv]
set_option maxRecDepth 100000 in
theorem dk_17 {c : ByteArray} {p x y : Nat} {v : Int} (h : by3 c p 17 x y = true) (hv : Jvm.ClassFile.Reader.signed 16 (x * 256 + y) = v) : decode c p = .ok ((Instr.sipush v), 3) := by
  obtain ⟨h1, h2, h3⟩ := by3_u h
  show Except.bind (Except.bind ((Jvm.ClassFile.Reader.u1 : Decoder Nat) c p) _) _ = _
  rw [eb_ok h1]
  show Except.bind (Except.bind (Except.bind (Except.bind ((Jvm.ClassFile.Reader.u1 : Decoder Nat) c (p + 1)) _) _) _) _ = _
  rw [eb_ok h2]
  show Except.bind (Except.bind (Except.bind (Except.bind ((Jvm.ClassFile.Reader.u1 : Decoder Nat) c (p + 1 + 1)) _) _) _) _ = _
  rw [eb_ok h3]
  show Except.ok ((Instr.sipush (Jvm.ClassFile.Reader.signed 16 (x * 256 + y))), p + 1 + 1 + 1 - p) = _
  rw [dk_s3, hv]
set_option maxRecDepth 100000 in
theorem dk_18 {c : ByteArray} {p x : Nat} (h : by2 c p 18 x = true) : decode c p = .ok ((Instr.ldc x), 2) := by
  obtain ⟨h1, h2⟩ := by2_u h
  show Except.bind (Except.bind ((Jvm.ClassFile.Reader.u1 : Decoder Nat) c p) _) _ = _
  rw [eb_ok h1]
  show Except.bind (Except.bind ((Jvm.ClassFile.Reader.u1 : Decoder Nat) c (p + 1)) _) _ = _
  rw [eb_ok h2]
  show Except.ok ((Instr.ldc x), p + 1 + 1 - p) = _
  rw [dk_s2]
set_option maxRecDepth 100000 in
theorem dk_19 {c : ByteArray} {p x y : Nat} (h : by3 c p 19 x y = true) : decode c p = .ok ((Instr.ldc_w (x * 256 + y)), 3) := by
  obtain ⟨h1, h2, h3⟩ := by3_u h
  show Except.bind (Except.bind ((Jvm.ClassFile.Reader.u1 : Decoder Nat) c p) _) _ = _
  rw [eb_ok h1]
  show Except.bind (Except.bind (Except.bind ((Jvm.ClassFile.Reader.u1 : Decoder Nat) c (p + 1)) _) _) _ = _
  rw [eb_ok h2]
  show Except.bind (Except.bind (Except.bind ((Jvm.ClassFile.Reader.u1 : Decoder Nat) c (p + 1 + 1)) _) _) _ = _
  rw [eb_ok h3]
  show Except.ok ((Instr.ldc_w (x * 256 + y)), p + 1 + 1 + 1 - p) = _
  rw [dk_s3]
set_option maxRecDepth 100000 in
theorem dk_20 {c : ByteArray} {p x y : Nat} (h : by3 c p 20 x y = true) : decode c p = .ok ((Instr.ldc2_w (x * 256 + y)), 3) := by
  obtain ⟨h1, h2, h3⟩ := by3_u h
  show Except.bind (Except.bind ((Jvm.ClassFile.Reader.u1 : Decoder Nat) c p) _) _ = _
  rw [eb_ok h1]
  show Except.bind (Except.bind (Except.bind ((Jvm.ClassFile.Reader.u1 : Decoder Nat) c (p + 1)) _) _) _ = _
  rw [eb_ok h2]
  show Except.bind (Except.bind (Except.bind ((Jvm.ClassFile.Reader.u1 : Decoder Nat) c (p + 1 + 1)) _) _) _ = _
  rw [eb_ok h3]
  show Except.ok ((Instr.ldc2_w (x * 256 + y)), p + 1 + 1 + 1 - p) = _
  rw [dk_s3]
set_option maxRecDepth 100000 in
theorem dk_21 {c : ByteArray} {p x : Nat} (h : by2 c p 21 x = true) : decode c p = .ok ((Instr.iload x), 2) := by
  obtain ⟨h1, h2⟩ := by2_u h
  show Except.bind (Except.bind ((Jvm.ClassFile.Reader.u1 : Decoder Nat) c p) _) _ = _
  rw [eb_ok h1]
  show Except.bind (Except.bind ((Jvm.ClassFile.Reader.u1 : Decoder Nat) c (p + 1)) _) _ = _
  rw [eb_ok h2]
  show Except.ok ((Instr.iload x), p + 1 + 1 - p) = _
  rw [dk_s2]
set_option maxRecDepth 100000 in
theorem dk_22 {c : ByteArray} {p x : Nat} (h : by2 c p 22 x = true) : decode c p = .ok ((Instr.lload x), 2) := by
  obtain ⟨h1, h2⟩ := by2_u h
  show Except.bind (Except.bind ((Jvm.ClassFile.Reader.u1 : Decoder Nat) c p) _) _ = _
  rw [eb_ok h1]
  show Except.bind (Except.bind ((Jvm.ClassFile.Reader.u1 : Decoder Nat) c (p + 1)) _) _ = _
  rw [eb_ok h2]
  show Except.ok ((Instr.lload x), p + 1 + 1 - p) = _
  rw [dk_s2]
set_option maxRecDepth 100000 in
theorem dk_26 {c : ByteArray} {p : Nat} (h : by1 c p 26 = true) : decode c p = .ok ((Instr.iload_n 0), 1) := by
  show Except.bind (Except.bind ((Jvm.ClassFile.Reader.u1 : Decoder Nat) c p) _) _ = _
  rw [eb_ok (by1_u h)]
  show Except.ok ((Instr.iload_n 0), p + 1 - p) = _
  rw [dk_s1]
set_option maxRecDepth 100000 in
theorem dk_27 {c : ByteArray} {p : Nat} (h : by1 c p 27 = true) : decode c p = .ok ((Instr.iload_n 1), 1) := by
  show Except.bind (Except.bind ((Jvm.ClassFile.Reader.u1 : Decoder Nat) c p) _) _ = _
  rw [eb_ok (by1_u h)]
  show Except.ok ((Instr.iload_n 1), p + 1 - p) = _
  rw [dk_s1]
set_option maxRecDepth 100000 in
theorem dk_28 {c : ByteArray} {p : Nat} (h : by1 c p 28 = true) : decode c p = .ok ((Instr.iload_n 2), 1) := by
  show Except.bind (Except.bind ((Jvm.ClassFile.Reader.u1 : Decoder Nat) c p) _) _ = _
  rw [eb_ok (by1_u h)]
  show Except.ok ((Instr.iload_n 2), p + 1 - p) = _
  rw [dk_s1]
set_option maxRecDepth 100000 in
theorem dk_29 {c : ByteArray} {p : Nat} (h : by1 c p 29 = true) : decode c p = .ok ((Instr.iload_n 3), 1) := by
  show Except.bind (Except.bind ((Jvm.ClassFile.Reader.u1 : Decoder Nat) c p) _) _ = _
  rw [eb_ok (by1_u h)]
  show Except.ok ((Instr.iload_n 3), p + 1 - p) = _
  rw [dk_s1]
set_option maxRecDepth 100000 in
theorem dk_30 {c : ByteArray} {p : Nat} (h : by1 c p 30 = true) : decode c p = .ok ((Instr.lload_n 0), 1) := by
  show Except.bind (Except.bind ((Jvm.ClassFile.Reader.u1 : Decoder Nat) c p) _) _ = _
  rw [eb_ok (by1_u h)]
  show Except.ok ((Instr.lload_n 0), p + 1 - p) = _
  rw [dk_s1]
set_option maxRecDepth 100000 in
theorem dk_31 {c : ByteArray} {p : Nat} (h : by1 c p 31 = true) : decode c p = .ok ((Instr.lload_n 1), 1) := by
  show Except.bind (Except.bind ((Jvm.ClassFile.Reader.u1 : Decoder Nat) c p) _) _ = _
  rw [eb_ok (by1_u h)]
  show Except.ok ((Instr.lload_n 1), p + 1 - p) = _
  rw [dk_s1]
set_option maxRecDepth 100000 in
theorem dk_32 {c : ByteArray} {p : Nat} (h : by1 c p 32 = true) : decode c p = .ok ((Instr.lload_n 2), 1) := by
  show Except.bind (Except.bind ((Jvm.ClassFile.Reader.u1 : Decoder Nat) c p) _) _ = _
  rw [eb_ok (by1_u h)]
  show Except.ok ((Instr.lload_n 2), p + 1 - p) = _
  rw [dk_s1]
set_option maxRecDepth 100000 in
theorem dk_33 {c : ByteArray} {p : Nat} (h : by1 c p 33 = true) : decode c p = .ok ((Instr.lload_n 3), 1) := by
  show Except.bind (Except.bind ((Jvm.ClassFile.Reader.u1 : Decoder Nat) c p) _) _ = _
  rw [eb_ok (by1_u h)]
  show Except.ok ((Instr.lload_n 3), p + 1 - p) = _
  rw [dk_s1]
set_option maxRecDepth 100000 in
theorem dk_42 {c : ByteArray} {p : Nat} (h : by1 c p 42 = true) : decode c p = .ok ((Instr.aload_n 0), 1) := by
  show Except.bind (Except.bind ((Jvm.ClassFile.Reader.u1 : Decoder Nat) c p) _) _ = _
  rw [eb_ok (by1_u h)]
  show Except.ok ((Instr.aload_n 0), p + 1 - p) = _
  rw [dk_s1]
set_option maxRecDepth 100000 in
theorem dk_43 {c : ByteArray} {p : Nat} (h : by1 c p 43 = true) : decode c p = .ok ((Instr.aload_n 1), 1) := by
  show Except.bind (Except.bind ((Jvm.ClassFile.Reader.u1 : Decoder Nat) c p) _) _ = _
  rw [eb_ok (by1_u h)]
  show Except.ok ((Instr.aload_n 1), p + 1 - p) = _
  rw [dk_s1]
set_option maxRecDepth 100000 in
theorem dk_44 {c : ByteArray} {p : Nat} (h : by1 c p 44 = true) : decode c p = .ok ((Instr.aload_n 2), 1) := by
  show Except.bind (Except.bind ((Jvm.ClassFile.Reader.u1 : Decoder Nat) c p) _) _ = _
  rw [eb_ok (by1_u h)]
  show Except.ok ((Instr.aload_n 2), p + 1 - p) = _
  rw [dk_s1]
set_option maxRecDepth 100000 in
theorem dk_45 {c : ByteArray} {p : Nat} (h : by1 c p 45 = true) : decode c p = .ok ((Instr.aload_n 3), 1) := by
  show Except.bind (Except.bind ((Jvm.ClassFile.Reader.u1 : Decoder Nat) c p) _) _ = _
  rw [eb_ok (by1_u h)]
  show Except.ok ((Instr.aload_n 3), p + 1 - p) = _
  rw [dk_s1]
set_option maxRecDepth 100000 in
theorem dk_46 {c : ByteArray} {p : Nat} (h : by1 c p 46 = true) : decode c p = .ok ((Instr.iaload), 1) := by
  show Except.bind (Except.bind ((Jvm.ClassFile.Reader.u1 : Decoder Nat) c p) _) _ = _
  rw [eb_ok (by1_u h)]
  show Except.ok ((Instr.iaload), p + 1 - p) = _
  rw [dk_s1]
set_option maxRecDepth 100000 in
theorem dk_47 {c : ByteArray} {p : Nat} (h : by1 c p 47 = true) : decode c p = .ok ((Instr.laload), 1) := by
  show Except.bind (Except.bind ((Jvm.ClassFile.Reader.u1 : Decoder Nat) c p) _) _ = _
  rw [eb_ok (by1_u h)]
  show Except.ok ((Instr.laload), p + 1 - p) = _
  rw [dk_s1]
set_option maxRecDepth 100000 in
theorem dk_50 {c : ByteArray} {p : Nat} (h : by1 c p 50 = true) : decode c p = .ok ((Instr.aaload), 1) := by
  show Except.bind (Except.bind ((Jvm.ClassFile.Reader.u1 : Decoder Nat) c p) _) _ = _
  rw [eb_ok (by1_u h)]
  show Except.ok ((Instr.aaload), p + 1 - p) = _
  rw [dk_s1]
set_option maxRecDepth 100000 in
theorem dk_51 {c : ByteArray} {p : Nat} (h : by1 c p 51 = true) : decode c p = .ok ((Instr.baload), 1) := by
  show Except.bind (Except.bind ((Jvm.ClassFile.Reader.u1 : Decoder Nat) c p) _) _ = _
  rw [eb_ok (by1_u h)]
  show Except.ok ((Instr.baload), p + 1 - p) = _
  rw [dk_s1]
set_option maxRecDepth 100000 in
theorem dk_54 {c : ByteArray} {p x : Nat} (h : by2 c p 54 x = true) : decode c p = .ok ((Instr.istore x), 2) := by
  obtain ⟨h1, h2⟩ := by2_u h
  show Except.bind (Except.bind ((Jvm.ClassFile.Reader.u1 : Decoder Nat) c p) _) _ = _
  rw [eb_ok h1]
  show Except.bind (Except.bind ((Jvm.ClassFile.Reader.u1 : Decoder Nat) c (p + 1)) _) _ = _
  rw [eb_ok h2]
  show Except.ok ((Instr.istore x), p + 1 + 1 - p) = _
  rw [dk_s2]
set_option maxRecDepth 100000 in
theorem dk_55 {c : ByteArray} {p x : Nat} (h : by2 c p 55 x = true) : decode c p = .ok ((Instr.lstore x), 2) := by
  obtain ⟨h1, h2⟩ := by2_u h
  show Except.bind (Except.bind ((Jvm.ClassFile.Reader.u1 : Decoder Nat) c p) _) _ = _
  rw [eb_ok h1]
  show Except.bind (Except.bind ((Jvm.ClassFile.Reader.u1 : Decoder Nat) c (p + 1)) _) _ = _
  rw [eb_ok h2]
  show Except.ok ((Instr.lstore x), p + 1 + 1 - p) = _
  rw [dk_s2]
set_option maxRecDepth 100000 in
theorem dk_59 {c : ByteArray} {p : Nat} (h : by1 c p 59 = true) : decode c p = .ok ((Instr.istore_n 0), 1) := by
  show Except.bind (Except.bind ((Jvm.ClassFile.Reader.u1 : Decoder Nat) c p) _) _ = _
  rw [eb_ok (by1_u h)]
  show Except.ok ((Instr.istore_n 0), p + 1 - p) = _
  rw [dk_s1]
set_option maxRecDepth 100000 in
theorem dk_60 {c : ByteArray} {p : Nat} (h : by1 c p 60 = true) : decode c p = .ok ((Instr.istore_n 1), 1) := by
  show Except.bind (Except.bind ((Jvm.ClassFile.Reader.u1 : Decoder Nat) c p) _) _ = _
  rw [eb_ok (by1_u h)]
  show Except.ok ((Instr.istore_n 1), p + 1 - p) = _
  rw [dk_s1]
set_option maxRecDepth 100000 in
theorem dk_61 {c : ByteArray} {p : Nat} (h : by1 c p 61 = true) : decode c p = .ok ((Instr.istore_n 2), 1) := by
  show Except.bind (Except.bind ((Jvm.ClassFile.Reader.u1 : Decoder Nat) c p) _) _ = _
  rw [eb_ok (by1_u h)]
  show Except.ok ((Instr.istore_n 2), p + 1 - p) = _
  rw [dk_s1]
set_option maxRecDepth 100000 in
theorem dk_62 {c : ByteArray} {p : Nat} (h : by1 c p 62 = true) : decode c p = .ok ((Instr.istore_n 3), 1) := by
  show Except.bind (Except.bind ((Jvm.ClassFile.Reader.u1 : Decoder Nat) c p) _) _ = _
  rw [eb_ok (by1_u h)]
  show Except.ok ((Instr.istore_n 3), p + 1 - p) = _
  rw [dk_s1]
set_option maxRecDepth 100000 in
theorem dk_64 {c : ByteArray} {p : Nat} (h : by1 c p 64 = true) : decode c p = .ok ((Instr.lstore_n 1), 1) := by
  show Except.bind (Except.bind ((Jvm.ClassFile.Reader.u1 : Decoder Nat) c p) _) _ = _
  rw [eb_ok (by1_u h)]
  show Except.ok ((Instr.lstore_n 1), p + 1 - p) = _
  rw [dk_s1]
set_option maxRecDepth 100000 in
theorem dk_65 {c : ByteArray} {p : Nat} (h : by1 c p 65 = true) : decode c p = .ok ((Instr.lstore_n 2), 1) := by
  show Except.bind (Except.bind ((Jvm.ClassFile.Reader.u1 : Decoder Nat) c p) _) _ = _
  rw [eb_ok (by1_u h)]
  show Except.ok ((Instr.lstore_n 2), p + 1 - p) = _
  rw [dk_s1]
set_option maxRecDepth 100000 in
theorem dk_66 {c : ByteArray} {p : Nat} (h : by1 c p 66 = true) : decode c p = .ok ((Instr.lstore_n 3), 1) := by
  show Except.bind (Except.bind ((Jvm.ClassFile.Reader.u1 : Decoder Nat) c p) _) _ = _
  rw [eb_ok (by1_u h)]
  show Except.ok ((Instr.lstore_n 3), p + 1 - p) = _
  rw [dk_s1]
set_option maxRecDepth 100000 in
theorem dk_76 {c : ByteArray} {p : Nat} (h : by1 c p 76 = true) : decode c p = .ok ((Instr.astore_n 1), 1) := by
  show Except.bind (Except.bind ((Jvm.ClassFile.Reader.u1 : Decoder Nat) c p) _) _ = _
  rw [eb_ok (by1_u h)]
  show Except.ok ((Instr.astore_n 1), p + 1 - p) = _
  rw [dk_s1]
set_option maxRecDepth 100000 in
theorem dk_77 {c : ByteArray} {p : Nat} (h : by1 c p 77 = true) : decode c p = .ok ((Instr.astore_n 2), 1) := by
  show Except.bind (Except.bind ((Jvm.ClassFile.Reader.u1 : Decoder Nat) c p) _) _ = _
  rw [eb_ok (by1_u h)]
  show Except.ok ((Instr.astore_n 2), p + 1 - p) = _
  rw [dk_s1]
set_option maxRecDepth 100000 in
theorem dk_79 {c : ByteArray} {p : Nat} (h : by1 c p 79 = true) : decode c p = .ok ((Instr.iastore), 1) := by
  show Except.bind (Except.bind ((Jvm.ClassFile.Reader.u1 : Decoder Nat) c p) _) _ = _
  rw [eb_ok (by1_u h)]
  show Except.ok ((Instr.iastore), p + 1 - p) = _
  rw [dk_s1]
set_option maxRecDepth 100000 in
theorem dk_80 {c : ByteArray} {p : Nat} (h : by1 c p 80 = true) : decode c p = .ok ((Instr.lastore), 1) := by
  show Except.bind (Except.bind ((Jvm.ClassFile.Reader.u1 : Decoder Nat) c p) _) _ = _
  rw [eb_ok (by1_u h)]
  show Except.ok ((Instr.lastore), p + 1 - p) = _
  rw [dk_s1]
set_option maxRecDepth 100000 in
theorem dk_84 {c : ByteArray} {p : Nat} (h : by1 c p 84 = true) : decode c p = .ok ((Instr.bastore), 1) := by
  show Except.bind (Except.bind ((Jvm.ClassFile.Reader.u1 : Decoder Nat) c p) _) _ = _
  rw [eb_ok (by1_u h)]
  show Except.ok ((Instr.bastore), p + 1 - p) = _
  rw [dk_s1]
set_option maxRecDepth 100000 in
theorem dk_87 {c : ByteArray} {p : Nat} (h : by1 c p 87 = true) : decode c p = .ok ((Instr.pop), 1) := by
  show Except.bind (Except.bind ((Jvm.ClassFile.Reader.u1 : Decoder Nat) c p) _) _ = _
  rw [eb_ok (by1_u h)]
  show Except.ok ((Instr.pop), p + 1 - p) = _
  rw [dk_s1]
set_option maxRecDepth 100000 in
theorem dk_88 {c : ByteArray} {p : Nat} (h : by1 c p 88 = true) : decode c p = .ok ((Instr.pop2), 1) := by
  show Except.bind (Except.bind ((Jvm.ClassFile.Reader.u1 : Decoder Nat) c p) _) _ = _
  rw [eb_ok (by1_u h)]
  show Except.ok ((Instr.pop2), p + 1 - p) = _
  rw [dk_s1]
set_option maxRecDepth 100000 in
theorem dk_89 {c : ByteArray} {p : Nat} (h : by1 c p 89 = true) : decode c p = .ok ((Instr.dup), 1) := by
  show Except.bind (Except.bind ((Jvm.ClassFile.Reader.u1 : Decoder Nat) c p) _) _ = _
  rw [eb_ok (by1_u h)]
  show Except.ok ((Instr.dup), p + 1 - p) = _
  rw [dk_s1]
set_option maxRecDepth 100000 in
theorem dk_92 {c : ByteArray} {p : Nat} (h : by1 c p 92 = true) : decode c p = .ok ((Instr.dup2), 1) := by
  show Except.bind (Except.bind ((Jvm.ClassFile.Reader.u1 : Decoder Nat) c p) _) _ = _
  rw [eb_ok (by1_u h)]
  show Except.ok ((Instr.dup2), p + 1 - p) = _
  rw [dk_s1]
set_option maxRecDepth 100000 in
theorem dk_96 {c : ByteArray} {p : Nat} (h : by1 c p 96 = true) : decode c p = .ok ((Instr.iadd), 1) := by
  show Except.bind (Except.bind ((Jvm.ClassFile.Reader.u1 : Decoder Nat) c p) _) _ = _
  rw [eb_ok (by1_u h)]
  show Except.ok ((Instr.iadd), p + 1 - p) = _
  rw [dk_s1]
set_option maxRecDepth 100000 in
theorem dk_97 {c : ByteArray} {p : Nat} (h : by1 c p 97 = true) : decode c p = .ok ((Instr.ladd), 1) := by
  show Except.bind (Except.bind ((Jvm.ClassFile.Reader.u1 : Decoder Nat) c p) _) _ = _
  rw [eb_ok (by1_u h)]
  show Except.ok ((Instr.ladd), p + 1 - p) = _
  rw [dk_s1]
set_option maxRecDepth 100000 in
theorem dk_100 {c : ByteArray} {p : Nat} (h : by1 c p 100 = true) : decode c p = .ok ((Instr.isub), 1) := by
  show Except.bind (Except.bind ((Jvm.ClassFile.Reader.u1 : Decoder Nat) c p) _) _ = _
  rw [eb_ok (by1_u h)]
  show Except.ok ((Instr.isub), p + 1 - p) = _
  rw [dk_s1]
set_option maxRecDepth 100000 in
theorem dk_101 {c : ByteArray} {p : Nat} (h : by1 c p 101 = true) : decode c p = .ok ((Instr.lsub), 1) := by
  show Except.bind (Except.bind ((Jvm.ClassFile.Reader.u1 : Decoder Nat) c p) _) _ = _
  rw [eb_ok (by1_u h)]
  show Except.ok ((Instr.lsub), p + 1 - p) = _
  rw [dk_s1]
set_option maxRecDepth 100000 in
theorem dk_104 {c : ByteArray} {p : Nat} (h : by1 c p 104 = true) : decode c p = .ok ((Instr.imul), 1) := by
  show Except.bind (Except.bind ((Jvm.ClassFile.Reader.u1 : Decoder Nat) c p) _) _ = _
  rw [eb_ok (by1_u h)]
  show Except.ok ((Instr.imul), p + 1 - p) = _
  rw [dk_s1]
set_option maxRecDepth 100000 in
theorem dk_105 {c : ByteArray} {p : Nat} (h : by1 c p 105 = true) : decode c p = .ok ((Instr.lmul), 1) := by
  show Except.bind (Except.bind ((Jvm.ClassFile.Reader.u1 : Decoder Nat) c p) _) _ = _
  rw [eb_ok (by1_u h)]
  show Except.ok ((Instr.lmul), p + 1 - p) = _
  rw [dk_s1]
set_option maxRecDepth 100000 in
theorem dk_108 {c : ByteArray} {p : Nat} (h : by1 c p 108 = true) : decode c p = .ok ((Instr.idiv), 1) := by
  show Except.bind (Except.bind ((Jvm.ClassFile.Reader.u1 : Decoder Nat) c p) _) _ = _
  rw [eb_ok (by1_u h)]
  show Except.ok ((Instr.idiv), p + 1 - p) = _
  rw [dk_s1]
set_option maxRecDepth 100000 in
theorem dk_109 {c : ByteArray} {p : Nat} (h : by1 c p 109 = true) : decode c p = .ok ((Instr.ldiv), 1) := by
  show Except.bind (Except.bind ((Jvm.ClassFile.Reader.u1 : Decoder Nat) c p) _) _ = _
  rw [eb_ok (by1_u h)]
  show Except.ok ((Instr.ldiv), p + 1 - p) = _
  rw [dk_s1]
set_option maxRecDepth 100000 in
theorem dk_112 {c : ByteArray} {p : Nat} (h : by1 c p 112 = true) : decode c p = .ok ((Instr.irem), 1) := by
  show Except.bind (Except.bind ((Jvm.ClassFile.Reader.u1 : Decoder Nat) c p) _) _ = _
  rw [eb_ok (by1_u h)]
  show Except.ok ((Instr.irem), p + 1 - p) = _
  rw [dk_s1]
set_option maxRecDepth 100000 in
theorem dk_113 {c : ByteArray} {p : Nat} (h : by1 c p 113 = true) : decode c p = .ok ((Instr.lrem), 1) := by
  show Except.bind (Except.bind ((Jvm.ClassFile.Reader.u1 : Decoder Nat) c p) _) _ = _
  rw [eb_ok (by1_u h)]
  show Except.ok ((Instr.lrem), p + 1 - p) = _
  rw [dk_s1]
set_option maxRecDepth 100000 in
theorem dk_116 {c : ByteArray} {p : Nat} (h : by1 c p 116 = true) : decode c p = .ok ((Instr.ineg), 1) := by
  show Except.bind (Except.bind ((Jvm.ClassFile.Reader.u1 : Decoder Nat) c p) _) _ = _
  rw [eb_ok (by1_u h)]
  show Except.ok ((Instr.ineg), p + 1 - p) = _
  rw [dk_s1]
set_option maxRecDepth 100000 in
theorem dk_117 {c : ByteArray} {p : Nat} (h : by1 c p 117 = true) : decode c p = .ok ((Instr.lneg), 1) := by
  show Except.bind (Except.bind ((Jvm.ClassFile.Reader.u1 : Decoder Nat) c p) _) _ = _
  rw [eb_ok (by1_u h)]
  show Except.ok ((Instr.lneg), p + 1 - p) = _
  rw [dk_s1]
set_option maxRecDepth 100000 in
theorem dk_120 {c : ByteArray} {p : Nat} (h : by1 c p 120 = true) : decode c p = .ok ((Instr.ishl), 1) := by
  show Except.bind (Except.bind ((Jvm.ClassFile.Reader.u1 : Decoder Nat) c p) _) _ = _
  rw [eb_ok (by1_u h)]
  show Except.ok ((Instr.ishl), p + 1 - p) = _
  rw [dk_s1]
set_option maxRecDepth 100000 in
theorem dk_122 {c : ByteArray} {p : Nat} (h : by1 c p 122 = true) : decode c p = .ok ((Instr.ishr), 1) := by
  show Except.bind (Except.bind ((Jvm.ClassFile.Reader.u1 : Decoder Nat) c p) _) _ = _
  rw [eb_ok (by1_u h)]
  show Except.ok ((Instr.ishr), p + 1 - p) = _
  rw [dk_s1]
set_option maxRecDepth 100000 in
theorem dk_123 {c : ByteArray} {p : Nat} (h : by1 c p 123 = true) : decode c p = .ok ((Instr.lshr), 1) := by
  show Except.bind (Except.bind ((Jvm.ClassFile.Reader.u1 : Decoder Nat) c p) _) _ = _
  rw [eb_ok (by1_u h)]
  show Except.ok ((Instr.lshr), p + 1 - p) = _
  rw [dk_s1]
set_option maxRecDepth 100000 in
theorem dk_124 {c : ByteArray} {p : Nat} (h : by1 c p 124 = true) : decode c p = .ok ((Instr.iushr), 1) := by
  show Except.bind (Except.bind ((Jvm.ClassFile.Reader.u1 : Decoder Nat) c p) _) _ = _
  rw [eb_ok (by1_u h)]
  show Except.ok ((Instr.iushr), p + 1 - p) = _
  rw [dk_s1]
set_option maxRecDepth 100000 in
theorem dk_126 {c : ByteArray} {p : Nat} (h : by1 c p 126 = true) : decode c p = .ok ((Instr.iand), 1) := by
  show Except.bind (Except.bind ((Jvm.ClassFile.Reader.u1 : Decoder Nat) c p) _) _ = _
  rw [eb_ok (by1_u h)]
  show Except.ok ((Instr.iand), p + 1 - p) = _
  rw [dk_s1]
set_option maxRecDepth 100000 in
theorem dk_127 {c : ByteArray} {p : Nat} (h : by1 c p 127 = true) : decode c p = .ok ((Instr.land), 1) := by
  show Except.bind (Except.bind ((Jvm.ClassFile.Reader.u1 : Decoder Nat) c p) _) _ = _
  rw [eb_ok (by1_u h)]
  show Except.ok ((Instr.land), p + 1 - p) = _
  rw [dk_s1]
set_option maxRecDepth 100000 in
theorem dk_128 {c : ByteArray} {p : Nat} (h : by1 c p 128 = true) : decode c p = .ok ((Instr.ior), 1) := by
  show Except.bind (Except.bind ((Jvm.ClassFile.Reader.u1 : Decoder Nat) c p) _) _ = _
  rw [eb_ok (by1_u h)]
  show Except.ok ((Instr.ior), p + 1 - p) = _
  rw [dk_s1]
set_option maxRecDepth 100000 in
theorem dk_130 {c : ByteArray} {p : Nat} (h : by1 c p 130 = true) : decode c p = .ok ((Instr.ixor), 1) := by
  show Except.bind (Except.bind ((Jvm.ClassFile.Reader.u1 : Decoder Nat) c p) _) _ = _
  rw [eb_ok (by1_u h)]
  show Except.ok ((Instr.ixor), p + 1 - p) = _
  rw [dk_s1]
set_option maxRecDepth 100000 in
theorem dk_132 {c : ByteArray} {p x y : Nat} {v : Int} (h : by3 c p 132 x y = true) (hv : Jvm.ClassFile.Reader.signed 8 y = v) : decode c p = .ok ((Instr.iinc x v), 3) := by
  obtain ⟨h1, h2, h3⟩ := by3_u h
  show Except.bind (Except.bind ((Jvm.ClassFile.Reader.u1 : Decoder Nat) c p) _) _ = _
  rw [eb_ok h1]
  show Except.bind (Except.bind ((Jvm.ClassFile.Reader.u1 : Decoder Nat) c (p + 1)) _) _ = _
  rw [eb_ok h2]
  show Except.bind (Except.bind (Except.bind ((Jvm.ClassFile.Reader.u1 : Decoder Nat) c (p + 1 + 1)) _) _) _ = _
  rw [eb_ok h3]
  show Except.ok ((Instr.iinc x (Jvm.ClassFile.Reader.signed 8 y)), p + 1 + 1 + 1 - p) = _
  rw [dk_s3, hv]
set_option maxRecDepth 100000 in
theorem dk_133 {c : ByteArray} {p : Nat} (h : by1 c p 133 = true) : decode c p = .ok ((Instr.i2l), 1) := by
  show Except.bind (Except.bind ((Jvm.ClassFile.Reader.u1 : Decoder Nat) c p) _) _ = _
  rw [eb_ok (by1_u h)]
  show Except.ok ((Instr.i2l), p + 1 - p) = _
  rw [dk_s1]
set_option maxRecDepth 100000 in
theorem dk_136 {c : ByteArray} {p : Nat} (h : by1 c p 136 = true) : decode c p = .ok ((Instr.l2i), 1) := by
  show Except.bind (Except.bind ((Jvm.ClassFile.Reader.u1 : Decoder Nat) c p) _) _ = _
  rw [eb_ok (by1_u h)]
  show Except.ok ((Instr.l2i), p + 1 - p) = _
  rw [dk_s1]
set_option maxRecDepth 100000 in
theorem dk_148 {c : ByteArray} {p : Nat} (h : by1 c p 148 = true) : decode c p = .ok ((Instr.lcmp), 1) := by
  show Except.bind (Except.bind ((Jvm.ClassFile.Reader.u1 : Decoder Nat) c p) _) _ = _
  rw [eb_ok (by1_u h)]
  show Except.ok ((Instr.lcmp), p + 1 - p) = _
  rw [dk_s1]
set_option maxRecDepth 100000 in
theorem dk_153 {c : ByteArray} {p x y : Nat} {v : Int} (h : by3 c p 153 x y = true) (hv : Jvm.ClassFile.Reader.signed 16 (x * 256 + y) = v) : decode c p = .ok ((Instr.ifCond .eq v), 3) := by
  obtain ⟨h1, h2, h3⟩ := by3_u h
  show Except.bind (Except.bind ((Jvm.ClassFile.Reader.u1 : Decoder Nat) c p) _) _ = _
  rw [eb_ok h1]
  show Except.bind (Except.bind (Except.bind (Except.bind ((Jvm.ClassFile.Reader.u1 : Decoder Nat) c (p + 1)) _) _) _) _ = _
  rw [eb_ok h2]
  show Except.bind (Except.bind (Except.bind (Except.bind ((Jvm.ClassFile.Reader.u1 : Decoder Nat) c (p + 1 + 1)) _) _) _) _ = _
  rw [eb_ok h3]
  show Except.ok ((Instr.ifCond .eq (Jvm.ClassFile.Reader.signed 16 (x * 256 + y))), p + 1 + 1 + 1 - p) = _
  rw [dk_s3, hv]
set_option maxRecDepth 100000 in
theorem dk_154 {c : ByteArray} {p x y : Nat} {v : Int} (h : by3 c p 154 x y = true) (hv : Jvm.ClassFile.Reader.signed 16 (x * 256 + y) = v) : decode c p = .ok ((Instr.ifCond .ne v), 3) := by
  obtain ⟨h1, h2, h3⟩ := by3_u h
  show Except.bind (Except.bind ((Jvm.ClassFile.Reader.u1 : Decoder Nat) c p) _) _ = _
  rw [eb_ok h1]
  show Except.bind (Except.bind (Except.bind (Except.bind ((Jvm.ClassFile.Reader.u1 : Decoder Nat) c (p + 1)) _) _) _) _ = _
  rw [eb_ok h2]
  show Except.bind (Except.bind (Except.bind (Except.bind ((Jvm.ClassFile.Reader.u1 : Decoder Nat) c (p + 1 + 1)) _) _) _) _ = _
  rw [eb_ok h3]
  show Except.ok ((Instr.ifCond .ne (Jvm.ClassFile.Reader.signed 16 (x * 256 + y))), p + 1 + 1 + 1 - p) = _
  rw [dk_s3, hv]
set_option maxRecDepth 100000 in
theorem dk_155 {c : ByteArray} {p x y : Nat} {v : Int} (h : by3 c p 155 x y = true) (hv : Jvm.ClassFile.Reader.signed 16 (x * 256 + y) = v) : decode c p = .ok ((Instr.ifCond .lt v), 3) := by
  obtain ⟨h1, h2, h3⟩ := by3_u h
  show Except.bind (Except.bind ((Jvm.ClassFile.Reader.u1 : Decoder Nat) c p) _) _ = _
  rw [eb_ok h1]
  show Except.bind (Except.bind (Except.bind (Except.bind ((Jvm.ClassFile.Reader.u1 : Decoder Nat) c (p + 1)) _) _) _) _ = _
  rw [eb_ok h2]
  show Except.bind (Except.bind (Except.bind (Except.bind ((Jvm.ClassFile.Reader.u1 : Decoder Nat) c (p + 1 + 1)) _) _) _) _ = _
  rw [eb_ok h3]
  show Except.ok ((Instr.ifCond .lt (Jvm.ClassFile.Reader.signed 16 (x * 256 + y))), p + 1 + 1 + 1 - p) = _
  rw [dk_s3, hv]
set_option maxRecDepth 100000 in
theorem dk_156 {c : ByteArray} {p x y : Nat} {v : Int} (h : by3 c p 156 x y = true) (hv : Jvm.ClassFile.Reader.signed 16 (x * 256 + y) = v) : decode c p = .ok ((Instr.ifCond .ge v), 3) := by
  obtain ⟨h1, h2, h3⟩ := by3_u h
  show Except.bind (Except.bind ((Jvm.ClassFile.Reader.u1 : Decoder Nat) c p) _) _ = _
  rw [eb_ok h1]
  show Except.bind (Except.bind (Except.bind (Except.bind ((Jvm.ClassFile.Reader.u1 : Decoder Nat) c (p + 1)) _) _) _) _ = _
  rw [eb_ok h2]
  show Except.bind (Except.bind (Except.bind (Except.bind ((Jvm.ClassFile.Reader.u1 : Decoder Nat) c (p + 1 + 1)) _) _) _) _ = _
  rw [eb_ok h3]
  show Except.ok ((Instr.ifCond .ge (Jvm.ClassFile.Reader.signed 16 (x * 256 + y))), p + 1 + 1 + 1 - p) = _
  rw [dk_s3, hv]
set_option maxRecDepth 100000 in
theorem dk_157 {c : ByteArray} {p x y : Nat} {v : Int} (h : by3 c p 157 x y = true) (hv : Jvm.ClassFile.Reader.signed 16 (x * 256 + y) = v) : decode c p = .ok ((Instr.ifCond .gt v), 3) := by
  obtain ⟨h1, h2, h3⟩ := by3_u h
  show Except.bind (Except.bind ((Jvm.ClassFile.Reader.u1 : Decoder Nat) c p) _) _ = _
  rw [eb_ok h1]
  show Except.bind (Except.bind (Except.bind (Except.bind ((Jvm.ClassFile.Reader.u1 : Decoder Nat) c (p + 1)) _) _) _) _ = _
  rw [eb_ok h2]
  show Except.bind (Except.bind (Except.bind (Except.bind ((Jvm.ClassFile.Reader.u1 : Decoder Nat) c (p + 1 + 1)) _) _) _) _ = _
  rw [eb_ok h3]
  show Except.ok ((Instr.ifCond .gt (Jvm.ClassFile.Reader.signed 16 (x * 256 + y))), p + 1 + 1 + 1 - p) = _
  rw [dk_s3, hv]
set_option maxRecDepth 100000 in
theorem dk_158 {c : ByteArray} {p x y : Nat} {v : Int} (h : by3 c p 158 x y = true) (hv : Jvm.ClassFile.Reader.signed 16 (x * 256 + y) = v) : decode c p = .ok ((Instr.ifCond .le v), 3) := by
  obtain ⟨h1, h2, h3⟩ := by3_u h
  show Except.bind (Except.bind ((Jvm.ClassFile.Reader.u1 : Decoder Nat) c p) _) _ = _
  rw [eb_ok h1]
  show Except.bind (Except.bind (Except.bind (Except.bind ((Jvm.ClassFile.Reader.u1 : Decoder Nat) c (p + 1)) _) _) _) _ = _
  rw [eb_ok h2]
  show Except.bind (Except.bind (Except.bind (Except.bind ((Jvm.ClassFile.Reader.u1 : Decoder Nat) c (p + 1 + 1)) _) _) _) _ = _
  rw [eb_ok h3]
  show Except.ok ((Instr.ifCond .le (Jvm.ClassFile.Reader.signed 16 (x * 256 + y))), p + 1 + 1 + 1 - p) = _
  rw [dk_s3, hv]
set_option maxRecDepth 100000 in
theorem dk_159 {c : ByteArray} {p x y : Nat} {v : Int} (h : by3 c p 159 x y = true) (hv : Jvm.ClassFile.Reader.signed 16 (x * 256 + y) = v) : decode c p = .ok ((Instr.if_icmp .eq v), 3) := by
  obtain ⟨h1, h2, h3⟩ := by3_u h
  show Except.bind (Except.bind ((Jvm.ClassFile.Reader.u1 : Decoder Nat) c p) _) _ = _
  rw [eb_ok h1]
  show Except.bind (Except.bind (Except.bind (Except.bind ((Jvm.ClassFile.Reader.u1 : Decoder Nat) c (p + 1)) _) _) _) _ = _
  rw [eb_ok h2]
  show Except.bind (Except.bind (Except.bind (Except.bind ((Jvm.ClassFile.Reader.u1 : Decoder Nat) c (p + 1 + 1)) _) _) _) _ = _
  rw [eb_ok h3]
  show Except.ok ((Instr.if_icmp .eq (Jvm.ClassFile.Reader.signed 16 (x * 256 + y))), p + 1 + 1 + 1 - p) = _
  rw [dk_s3, hv]
set_option maxRecDepth 100000 in
theorem dk_160 {c : ByteArray} {p x y : Nat} {v : Int} (h : by3 c p 160 x y = true) (hv : Jvm.ClassFile.Reader.signed 16 (x * 256 + y) = v) : decode c p = .ok ((Instr.if_icmp .ne v), 3) := by
  obtain ⟨h1, h2, h3⟩ := by3_u h
  show Except.bind (Except.bind ((Jvm.ClassFile.Reader.u1 : Decoder Nat) c p) _) _ = _
  rw [eb_ok h1]
  show Except.bind (Except.bind (Except.bind (Except.bind ((Jvm.ClassFile.Reader.u1 : Decoder Nat) c (p + 1)) _) _) _) _ = _
  rw [eb_ok h2]
  show Except.bind (Except.bind (Except.bind (Except.bind ((Jvm.ClassFile.Reader.u1 : Decoder Nat) c (p + 1 + 1)) _) _) _) _ = _
  rw [eb_ok h3]
  show Except.ok ((Instr.if_icmp .ne (Jvm.ClassFile.Reader.signed 16 (x * 256 + y))), p + 1 + 1 + 1 - p) = _
  rw [dk_s3, hv]
set_option maxRecDepth 100000 in
theorem dk_161 {c : ByteArray} {p x y : Nat} {v : Int} (h : by3 c p 161 x y = true) (hv : Jvm.ClassFile.Reader.signed 16 (x * 256 + y) = v) : decode c p = .ok ((Instr.if_icmp .lt v), 3) := by
  obtain ⟨h1, h2, h3⟩ := by3_u h
  show Except.bind (Except.bind ((Jvm.ClassFile.Reader.u1 : Decoder Nat) c p) _) _ = _
  rw [eb_ok h1]
  show Except.bind (Except.bind (Except.bind (Except.bind ((Jvm.ClassFile.Reader.u1 : Decoder Nat) c (p + 1)) _) _) _) _ = _
  rw [eb_ok h2]
  show Except.bind (Except.bind (Except.bind (Except.bind ((Jvm.ClassFile.Reader.u1 : Decoder Nat) c (p + 1 + 1)) _) _) _) _ = _
  rw [eb_ok h3]
  show Except.ok ((Instr.if_icmp .lt (Jvm.ClassFile.Reader.signed 16 (x * 256 + y))), p + 1 + 1 + 1 - p) = _
  rw [dk_s3, hv]
set_option maxRecDepth 100000 in
theorem dk_162 {c : ByteArray} {p x y : Nat} {v : Int} (h : by3 c p 162 x y = true) (hv : Jvm.ClassFile.Reader.signed 16 (x * 256 + y) = v) : decode c p = .ok ((Instr.if_icmp .ge v), 3) := by
  obtain ⟨h1, h2, h3⟩ := by3_u h
  show Except.bind (Except.bind ((Jvm.ClassFile.Reader.u1 : Decoder Nat) c p) _) _ = _
  rw [eb_ok h1]
  show Except.bind (Except.bind (Except.bind (Except.bind ((Jvm.ClassFile.Reader.u1 : Decoder Nat) c (p + 1)) _) _) _) _ = _
  rw [eb_ok h2]
  show Except.bind (Except.bind (Except.bind (Except.bind ((Jvm.ClassFile.Reader.u1 : Decoder Nat) c (p + 1 + 1)) _) _) _) _ = _
  rw [eb_ok h3]
  show Except.ok ((Instr.if_icmp .ge (Jvm.ClassFile.Reader.signed 16 (x * 256 + y))), p + 1 + 1 + 1 - p) = _
  rw [dk_s3, hv]
set_option maxRecDepth 100000 in
theorem dk_163 {c : ByteArray} {p x y : Nat} {v : Int} (h : by3 c p 163 x y = true) (hv : Jvm.ClassFile.Reader.signed 16 (x * 256 + y) = v) : decode c p = .ok ((Instr.if_icmp .gt v), 3) := by
  obtain ⟨h1, h2, h3⟩ := by3_u h
  show Except.bind (Except.bind ((Jvm.ClassFile.Reader.u1 : Decoder Nat) c p) _) _ = _
  rw [eb_ok h1]
  show Except.bind (Except.bind (Except.bind (Except.bind ((Jvm.ClassFile.Reader.u1 : Decoder Nat) c (p + 1)) _) _) _) _ = _
  rw [eb_ok h2]
  show Except.bind (Except.bind (Except.bind (Except.bind ((Jvm.ClassFile.Reader.u1 : Decoder Nat) c (p + 1 + 1)) _) _) _) _ = _
  rw [eb_ok h3]
  show Except.ok ((Instr.if_icmp .gt (Jvm.ClassFile.Reader.signed 16 (x * 256 + y))), p + 1 + 1 + 1 - p) = _
  rw [dk_s3, hv]
set_option maxRecDepth 100000 in
theorem dk_164 {c : ByteArray} {p x y : Nat} {v : Int} (h : by3 c p 164 x y = true) (hv : Jvm.ClassFile.Reader.signed 16 (x * 256 + y) = v) : decode c p = .ok ((Instr.if_icmp .le v), 3) := by
  obtain ⟨h1, h2, h3⟩ := by3_u h
  show Except.bind (Except.bind ((Jvm.ClassFile.Reader.u1 : Decoder Nat) c p) _) _ = _
  rw [eb_ok h1]
  show Except.bind (Except.bind (Except.bind (Except.bind ((Jvm.ClassFile.Reader.u1 : Decoder Nat) c (p + 1)) _) _) _) _ = _
  rw [eb_ok h2]
  show Except.bind (Except.bind (Except.bind (Except.bind ((Jvm.ClassFile.Reader.u1 : Decoder Nat) c (p + 1 + 1)) _) _) _) _ = _
  rw [eb_ok h3]
  show Except.ok ((Instr.if_icmp .le (Jvm.ClassFile.Reader.signed 16 (x * 256 + y))), p + 1 + 1 + 1 - p) = _
  rw [dk_s3, hv]
set_option maxRecDepth 100000 in
theorem dk_167 {c : ByteArray} {p x y : Nat} {v : Int} (h : by3 c p 167 x y = true) (hv : Jvm.ClassFile.Reader.signed 16 (x * 256 + y) = v) : decode c p = .ok ((Instr.goto v), 3) := by
  obtain ⟨h1, h2, h3⟩ := by3_u h
  show Except.bind (Except.bind ((Jvm.ClassFile.Reader.u1 : Decoder Nat) c p) _) _ = _
  rw [eb_ok h1]
  show Except.bind (Except.bind (Except.bind (Except.bind ((Jvm.ClassFile.Reader.u1 : Decoder Nat) c (p + 1)) _) _) _) _ = _
  rw [eb_ok h2]
  show Except.bind (Except.bind (Except.bind (Except.bind ((Jvm.ClassFile.Reader.u1 : Decoder Nat) c (p + 1 + 1)) _) _) _) _ = _
  rw [eb_ok h3]
  show Except.ok ((Instr.goto (Jvm.ClassFile.Reader.signed 16 (x * 256 + y))), p + 1 + 1 + 1 - p) = _
  rw [dk_s3, hv]
set_option maxRecDepth 100000 in
theorem dk_172 {c : ByteArray} {p : Nat} (h : by1 c p 172 = true) : decode c p = .ok ((Instr.ireturn), 1) := by
  show Except.bind (Except.bind ((Jvm.ClassFile.Reader.u1 : Decoder Nat) c p) _) _ = _
  rw [eb_ok (by1_u h)]
  show Except.ok ((Instr.ireturn), p + 1 - p) = _
  rw [dk_s1]
set_option maxRecDepth 100000 in
theorem dk_173 {c : ByteArray} {p : Nat} (h : by1 c p 173 = true) : decode c p = .ok ((Instr.lreturn), 1) := by
  show Except.bind (Except.bind ((Jvm.ClassFile.Reader.u1 : Decoder Nat) c p) _) _ = _
  rw [eb_ok (by1_u h)]
  show Except.ok ((Instr.lreturn), p + 1 - p) = _
  rw [dk_s1]
set_option maxRecDepth 100000 in
theorem dk_176 {c : ByteArray} {p : Nat} (h : by1 c p 176 = true) : decode c p = .ok ((Instr.areturn), 1) := by
  show Except.bind (Except.bind ((Jvm.ClassFile.Reader.u1 : Decoder Nat) c p) _) _ = _
  rw [eb_ok (by1_u h)]
  show Except.ok ((Instr.areturn), p + 1 - p) = _
  rw [dk_s1]
set_option maxRecDepth 100000 in
theorem dk_177 {c : ByteArray} {p : Nat} (h : by1 c p 177 = true) : decode c p = .ok ((Instr.return_), 1) := by
  show Except.bind (Except.bind ((Jvm.ClassFile.Reader.u1 : Decoder Nat) c p) _) _ = _
  rw [eb_ok (by1_u h)]
  show Except.ok ((Instr.return_), p + 1 - p) = _
  rw [dk_s1]
set_option maxRecDepth 100000 in
theorem dk_180 {c : ByteArray} {p x y : Nat} (h : by3 c p 180 x y = true) : decode c p = .ok ((Instr.getfield (x * 256 + y)), 3) := by
  obtain ⟨h1, h2, h3⟩ := by3_u h
  show Except.bind (Except.bind ((Jvm.ClassFile.Reader.u1 : Decoder Nat) c p) _) _ = _
  rw [eb_ok h1]
  show Except.bind (Except.bind (Except.bind ((Jvm.ClassFile.Reader.u1 : Decoder Nat) c (p + 1)) _) _) _ = _
  rw [eb_ok h2]
  show Except.bind (Except.bind (Except.bind ((Jvm.ClassFile.Reader.u1 : Decoder Nat) c (p + 1 + 1)) _) _) _ = _
  rw [eb_ok h3]
  show Except.ok ((Instr.getfield (x * 256 + y)), p + 1 + 1 + 1 - p) = _
  rw [dk_s3]
set_option maxRecDepth 100000 in
theorem dk_181 {c : ByteArray} {p x y : Nat} (h : by3 c p 181 x y = true) : decode c p = .ok ((Instr.putfield (x * 256 + y)), 3) := by
  obtain ⟨h1, h2, h3⟩ := by3_u h
  show Except.bind (Except.bind ((Jvm.ClassFile.Reader.u1 : Decoder Nat) c p) _) _ = _
  rw [eb_ok h1]
  show Except.bind (Except.bind (Except.bind ((Jvm.ClassFile.Reader.u1 : Decoder Nat) c (p + 1)) _) _) _ = _
  rw [eb_ok h2]
  show Except.bind (Except.bind (Except.bind ((Jvm.ClassFile.Reader.u1 : Decoder Nat) c (p + 1 + 1)) _) _) _ = _
  rw [eb_ok h3]
  show Except.ok ((Instr.putfield (x * 256 + y)), p + 1 + 1 + 1 - p) = _
  rw [dk_s3]
set_option maxRecDepth 100000 in
theorem dk_182 {c : ByteArray} {p x y : Nat} (h : by3 c p 182 x y = true) : decode c p = .ok ((Instr.invokevirtual (x * 256 + y)), 3) := by
  obtain ⟨h1, h2, h3⟩ := by3_u h
  show Except.bind (Except.bind ((Jvm.ClassFile.Reader.u1 : Decoder Nat) c p) _) _ = _
  rw [eb_ok h1]
  show Except.bind (Except.bind (Except.bind ((Jvm.ClassFile.Reader.u1 : Decoder Nat) c (p + 1)) _) _) _ = _
  rw [eb_ok h2]
  show Except.bind (Except.bind (Except.bind ((Jvm.ClassFile.Reader.u1 : Decoder Nat) c (p + 1 + 1)) _) _) _ = _
  rw [eb_ok h3]
  show Except.ok ((Instr.invokevirtual (x * 256 + y)), p + 1 + 1 + 1 - p) = _
  rw [dk_s3]
set_option maxRecDepth 100000 in
theorem dk_183 {c : ByteArray} {p x y : Nat} (h : by3 c p 183 x y = true) : decode c p = .ok ((Instr.invokespecial (x * 256 + y)), 3) := by
  obtain ⟨h1, h2, h3⟩ := by3_u h
  show Except.bind (Except.bind ((Jvm.ClassFile.Reader.u1 : Decoder Nat) c p) _) _ = _
  rw [eb_ok h1]
  show Except.bind (Except.bind (Except.bind ((Jvm.ClassFile.Reader.u1 : Decoder Nat) c (p + 1)) _) _) _ = _
  rw [eb_ok h2]
  show Except.bind (Except.bind (Except.bind ((Jvm.ClassFile.Reader.u1 : Decoder Nat) c (p + 1 + 1)) _) _) _ = _
  rw [eb_ok h3]
  show Except.ok ((Instr.invokespecial (x * 256 + y)), p + 1 + 1 + 1 - p) = _
  rw [dk_s3]
set_option maxRecDepth 100000 in
theorem dk_184 {c : ByteArray} {p x y : Nat} (h : by3 c p 184 x y = true) : decode c p = .ok ((Instr.invokestatic (x * 256 + y)), 3) := by
  obtain ⟨h1, h2, h3⟩ := by3_u h
  show Except.bind (Except.bind ((Jvm.ClassFile.Reader.u1 : Decoder Nat) c p) _) _ = _
  rw [eb_ok h1]
  show Except.bind (Except.bind (Except.bind ((Jvm.ClassFile.Reader.u1 : Decoder Nat) c (p + 1)) _) _) _ = _
  rw [eb_ok h2]
  show Except.bind (Except.bind (Except.bind ((Jvm.ClassFile.Reader.u1 : Decoder Nat) c (p + 1 + 1)) _) _) _ = _
  rw [eb_ok h3]
  show Except.ok ((Instr.invokestatic (x * 256 + y)), p + 1 + 1 + 1 - p) = _
  rw [dk_s3]
set_option maxRecDepth 100000 in
theorem dk_187 {c : ByteArray} {p x y : Nat} (h : by3 c p 187 x y = true) : decode c p = .ok ((Instr.new (x * 256 + y)), 3) := by
  obtain ⟨h1, h2, h3⟩ := by3_u h
  show Except.bind (Except.bind ((Jvm.ClassFile.Reader.u1 : Decoder Nat) c p) _) _ = _
  rw [eb_ok h1]
  show Except.bind (Except.bind (Except.bind ((Jvm.ClassFile.Reader.u1 : Decoder Nat) c (p + 1)) _) _) _ = _
  rw [eb_ok h2]
  show Except.bind (Except.bind (Except.bind ((Jvm.ClassFile.Reader.u1 : Decoder Nat) c (p + 1 + 1)) _) _) _ = _
  rw [eb_ok h3]
  show Except.ok ((Instr.new (x * 256 + y)), p + 1 + 1 + 1 - p) = _
  rw [dk_s3]
set_option maxRecDepth 100000 in
theorem dk_190 {c : ByteArray} {p : Nat} (h : by1 c p 190 = true) : decode c p = .ok ((Instr.arraylength), 1) := by
  show Except.bind (Except.bind ((Jvm.ClassFile.Reader.u1 : Decoder Nat) c p) _) _ = _
  rw [eb_ok (by1_u h)]
  show Except.ok ((Instr.arraylength), p + 1 - p) = _
  rw [dk_s1]
