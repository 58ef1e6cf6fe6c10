theorem SK.mm {f : Nat → Int32} {k : Int32 → Int32} {a b : List Int32} {x : Int32} (h : SK f ((a ++ x :: b).map k)) : f b.length = k x := by
  rw [List.map_append, List.map_cons] at h
  have e := h.mid
  rw [List.length_map] at e
  exact e
/-! WORN -/
theorem lgc_gt {a c : Int64} : 0 < lg_cmp a c ↔ c.toInt < a.toInt := by
  unfold lg_cmp
  by_cases q : a > c
  · rw [if_pos q]
    have q' : c < a := q
    rw [Int64.lt_iff_toInt_lt] at q'
    exact ⟨fun _ => q', fun x => by decide⟩
  · rw [if_neg q]
    have q' : ¬ c < a := q
    rw [Int64.lt_iff_toInt_lt] at q'
    by_cases r : a = c
    · subst r; rw [if_pos rfl]; exact ⟨fun x => absurd x (by decide), fun x => by omega⟩
    · rw [if_neg r]; exact ⟨fun x => absurd x (by decide), fun x => by omega⟩
def clC (v : Int64) : Int32 := (if (if v < (10000 : Int64) then v else (10000 : Int64)) < (0 : Int64) then (0 : Int64) else (if v < (10000 : Int64) then v else (10000 : Int64))).toInt32
/-- WORN by the fault, the program, the years, LOAD and HARDNESS -/
def wvl (fl : Int32) (p : List Int32) (y l hh : Int32) : Int32 := if fl = -1 then clC ((evL y.toInt64 l.toInt64 hh.toInt64 p).headD 0) else y
theorem wvl_un {f : Nat → Int32} {n : Nat} {a b : Int32} {p q : List Int32} {y l hh : Int32} (x : RSl f n a p) (z : RSl f n b q) : wvl a p y l hh = wvl b q y l hh := by
  obtain ⟨e, k⟩ := x.un z
  subst e
  by_cases c : a = -1
  · rw [k c]
  · unfold wvl; rw [if_neg c, if_neg c]
