/-! THE REFERENCE READS IT SO -/
def opc (x : Int32) : Int32 := if x = 33 then 2 else if x = 126 then 3 else if x = 42 then 4 else if x = 47 then 5 else if x = 43 then 6 else if x = 45 then 7 else if x = 60 then 8 else if x = 62 then 9 else if x = 61 then 10 else if x = 38 then 11 else if x = 124 then 12 else 13
def tc1 (t : Int32) : Int32 := if ¬ t < 0 then 0 else if t = -121 ∨ t = -108 ∨ t = -104 then 1 else opc (-t)
def tc2 (t : Int32) : Int32 := if ¬ t < 0 then t else if t = -108 then 1 else if t = -104 then 2 else 0
def RTK (h : HI) (o w : List Int32) : Prop := h 135 3 = nI o.length ∧ SK (h 139) (o.map tc1) ∧ SK (h 140) (o.map tc2) ∧ h 135 6 = nI w.length ∧ SK (h 141) (w.map opc)
theorem SK.pm {f : Nat → Int32} {k : Int32 → Int32} {l : List Int32} {t : Int32} (h : SK f (l.map k)) : SK (upd f l.length (k t)) ((t :: l).map k) := by
  have e := SK.push (x := k t) h
  rw [List.length_map] at e
  exact e
theorem SK.hm {f : Nat → Int32} {k : Int32 → Int32} {l : List Int32} {t : Int32} (h : SK f ((t :: l).map k)) : f l.length = k t ∧ SK f (l.map k) := by
  have e : f (l.map k).length = k t ∧ SK f (l.map k) := h
  rw [List.length_map] at e
  exact e
theorem RTK.emit {h h' : HI} {o w : List Int32} {t : Int32} (S : RTK h o w) (t3 : h' 135 3 = nI (o.length + 1)) (t6 : h' 135 6 = h 135 6) (t139 : h' 139 = upd (h 139) o.length (tc1 t)) (t140 : h' 140 = upd (h 140) o.length (tc2 t)) (t141 : h' 141 = h 141) : RTK h' (t :: o) w := by
  obtain ⟨s3, s9, s0, s6, s1⟩ := S
  exact ⟨t3, by rw [t139]; exact s9.pm, by rw [t140]; exact s0.pm, t6.trans s6, by rw [t141]; exact s1⟩
theorem RTK.wait {h h' : HI} {o w : List Int32} {c : Int32} (S : RTK h o w) (t6 : h' 135 6 = nI (w.length + 1)) (t3 : h' 135 3 = h 135 3) (t141 : h' 141 = upd (h 141) w.length (opc c)) (t139 : h' 139 = h 139) (t140 : h' 140 = h 140) : RTK h' o (c :: w) := by
  obtain ⟨s3, s9, s0, s6, s1⟩ := S
  exact ⟨t3.trans s3, by rw [t139]; exact s9, by rw [t140]; exact s0, t6, by rw [t141]; exact s1.pm⟩
/-- the state between two signs: a UNIT read is told at once -/
def RTl (h : HI) (o w : List Int32) (u : Nat) : Prop := if u = 0 then RTK h (stl 6 w o).2 (stl 6 w o).1 else RTK h o w
theorem RTl.z {h : HI} {o w : List Int32} : RTl h o w 0 ↔ RTK h (stl 6 w o).2 (stl 6 w o).1 := by unfold RTl; rw [if_pos rfl]
theorem RTl.o {h : HI} {o w : List Int32} : RTl h o w 1 ↔ RTK h o w := by unfold RTl; rw [if_neg (by decide)]
