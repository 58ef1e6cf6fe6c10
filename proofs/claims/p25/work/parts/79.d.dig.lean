/-! DIGEST -/
def mx (e : Nat → Int32) : Nat → Int64 → Int64
  | 0, x => x
  | n + 1, x => (31 : Int64) * mx e n x + (e n).toInt64
theorem SZ.an {h : HI} {f : Nat → Int32} {p n : Nat} (Z : SZ h f p n) {g : HL} {k : Nat} (hk : k < 3) {body : Int32 → HI → HL → Prop} (b : ∀ g', body (fsel f p (nI k)) h g') : ∃ P : Int32 → HI → HL → Prop, w_X7_answer (nI k) h g P ∧ ∀ (r : Int32) (h : HI) (g : HL), P r h g → body r h g := by
  obtain ⟨z9, z10, z11, -⟩ := Z
  refine ⟨fun r h' g' => body r h' g', ?_, fun _ _ _ x => x⟩
  unfold w_X7_answer
  have : k = 0 ∨ k = 1 ∨ k = 2 := by omega
  rcases this with rfl | rfl | rfl
  · refine ⟨fun n0 => absurd nI_0 n0, fun _ => ?_⟩
    have e : fsel f p (nI 0) = fLo f p := fsel0
    rw [z9, ← e]; exact b g
  · refine ⟨fun _ => ⟨fun n1 => absurd rfl n1, fun _ => ?_⟩, fun z => absurd z (by decide)⟩
    have e : fsel f p (nI 1) = fHi f p := fsel1
    rw [z10, ← e]; exact b g
  · refine ⟨fun _ => ⟨fun _ => ?_, fun z => absurd z (by decide)⟩, fun z => absurd z (by decide)⟩
    have e : fsel f p (nI 2) = fMn f p := by unfold fsel; exact if_pos rfl
    rw [z11, ← e]; exact b g
theorem BRc.jj {S : Nat → Prop} {h h' : HI} {m : Nat} {B : Nat → Nat} (x : BRc h m B) (J : JJ S h h') (n : ¬ S 3) : BRc h' m B := by
  refine ⟨fun p hp => ?_, x.2⟩
  rw [J 3 n]; exact x.1 p hp
/-- how many there are of all -/
def NB (f : Nat → Int32) (nw nm ns nt nh nz : Nat) : Prop := f 3 = nI nw ∧ f 4 = nI nm ∧ f 5 = nI ns ∧ f 6 = nI nt ∧ f 7 = nI nh ∧ f 8 = nI nz ∧ nw ≤ 8 ∧ nm ≤ 6 ∧ ns ≤ 9 ∧ nt ≤ 40 ∧ nh ≤ 3 ∧ nz ≤ 60
/-! the reference -/
