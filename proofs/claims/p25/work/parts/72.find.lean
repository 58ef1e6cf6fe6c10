/-! THE CLASS FINDS FIRST -/
def ofL (f : Nat → Int32) (p : Nat) : Nat → List Nat
  | 0 => []
  | k + 1 => if isO f p k then ofL f p k ++ [k] else ofL f p k
theorem ofL_y {f : Nat → Int32} {p k : Nat} (h : isO f p k) : ofL f p (k + 1) = ofL f p k ++ [k] := if_pos h
theorem ofL_n {f : Nat → Int32} {p k : Nat} (h : ¬ isO f p k) : ofL f p (k + 1) = ofL f p k := if_neg h
theorem ofL_mem {f : Nat → Int32} {p s : Nat} : ∀ {k : Nat}, s ∈ ofL f p k ↔ s < k ∧ isO f p s
  | 0 => ⟨fun h => absurd h List.not_mem_nil, fun h => absurd h.1 (Nat.not_lt_zero s)⟩
  | k + 1 => by
    have ih := ofL_mem (f := f) (p := p) (s := s) (k := k)
    by_cases q : isO f p k
    · rw [ofL_y q, List.mem_append, List.mem_singleton, ih]
      refine ⟨fun h => ?_, fun h => ?_⟩
      · rcases h with h | h
        · exact ⟨by omega, h.2⟩
        · exact ⟨by omega, by rw [h]; exact q⟩
      · by_cases e : s = k
        · exact .inr e
        · exact .inl ⟨by omega, h.2⟩
    · rw [ofL_n q, ih]
      refine ⟨fun h => ⟨by omega, h.2⟩, fun h => ⟨?_, h.2⟩⟩
      have : s ≠ k := fun e => q (by rw [← e]; exact h.2)
      omega
theorem ofL_len {f : Nat → Int32} {p : Nat} : ∀ {k : Nat}, (ofL f p k).length ≤ k
  | 0 => Nat.le_refl _
  | k + 1 => by
    have ih := ofL_len (f := f) (p := p) (k := k)
    by_cases q : isO f p k
    · rw [ofL_y q, List.length_append, List.length_singleton]; omega
    · rw [ofL_n q]; omega
noncomputable def cLo (f : Nat → Int32) (s : Nat) : Int := if f (152 + 6 * s + 1) = 2 then -1000000 else sL f s
noncomputable def cHi (f : Nat → Int32) (s : Nat) : Int := if f (152 + 6 * s + 1) = 3 then 1000000 else sH f s
/-- the sayings that count, in the class's rows -/
def ARR (h : HI) (f : Nat → Int32) (p k : Nat) : Prop := ∀ i s, (ofL f p k)[i]? = some s → h 82 i = i32 (cLo f s) ∧ h 83 i = i32 (cHi f s) ∧ h 84 i = nI s
def SZ (h : HI) (f : Nat → Int32) (p n : Nat) : Prop := h 81 9 = fLo f p ∧ h 81 10 = fHi f p ∧ h 81 11 = fMn f p ∧ (h 81 6).toInt = fB f p ∧ (h 81 7).toInt = fD f p ∧ (h 81 8).toInt = fM f p - 1 ∧ h 81 5 = nI (ofL f p n).length ∧ ARR h f p n
