/-! WHAT THE LAW TELLS -/
/-- two numbers joined, by the sign -/
def jn (c : Int32) (a b : Int64) : Int64 :=
  if c = 38 then (if lg_cmp a 0 = 0 then 0 else if lg_cmp b 0 = 0 then 0 else 1)
  else if c = 42 then a * b
  else if c = 43 then a + b
  else if c = 45 then a - b
  else if c = 47 then (if ¬ lg_cmp b 0 = 0 then a / b else 0)
  else if c = 60 then (if 0 ≤ lg_cmp a b then 0 else 1)
  else if c = 61 then (if ¬ lg_cmp a b = 0 then 0 else 1)
  else if c = 62 then (if lg_cmp a b ≤ 0 then 0 else 1)
  else if c = 124 then (if ¬ lg_cmp a 0 = 0 then 1 else if lg_cmp b 0 = 0 then 0 else 1)
  else 0
def u1L (t : Int32) (a : Int64) : Int64 := if t = -126 then -a else if ¬ lg_cmp a 0 = 0 then 0 else 1
def psL (y l hh : Int64) (t : Int32) : Int64 := if ¬ t < 0 then t.toInt64 else if t = -121 then y else if t = -108 then l else hh
def apT (y l hh : Int64) (t : Int32) (s : List Int64) : List Int64 :=
  if kdT t = 1 then psL y l hh t :: s
  else if kdT t = 2 then u1L t (s.headD 0) :: s.tail
  else jn (-t) (s.tail.headD 0) (s.headD 0) :: s.tail.tail
def evL (y l hh : Int64) : List Int32 → List Int64
  | [] => []
  | t :: ts => apT y l hh t (evL y l hh ts)
theorem SK.mid {f : Nat → Int32} : ∀ {a b : List Int32} {x : Int32}, SK f (a ++ x :: b) → f b.length = x
  | [], b, x, h => h.1
  | y :: ys, b, x, h => SK.mid (a := ys) h.2
def SKL (f : Nat → Int64) : List Int64 → Prop
  | [] => True
  | x :: xs => f xs.length = x ∧ SKL f xs
theorem SKL.cg {f f' : Nat → Int64} : ∀ {l : List Int64}, (∀ k, k < l.length → f' k = f k) → SKL f l → SKL f' l
  | [], _, _ => trivial
  | x :: xs, e, h => by
    rw [List.length_cons] at e
    exact ⟨(e _ (by omega)).trans h.1, SKL.cg (fun k hk => e k (by omega)) h.2⟩
theorem SKL.push {f : Nat → Int64} {l : List Int64} {x : Int64} (h : SKL f l) : SKL (vp_updL f l.length x) (x :: l) := ⟨pk_uLs, h.cg (fun k hk => pk_uLn (by omega))⟩
