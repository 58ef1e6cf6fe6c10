def j_L_law_1451 (xs : Nat → Int32) (L : Nat) (Q : Unit) (K18 : Int32 → HI → HL → Prop) (x3 : Int32) (h : HI) (g : HL) : Prop :=
  (∀ x3_1451 : Int32, x3_1451 = (x3 + 6) → K18 x3_1451 h g)
def j_L_law_489 (xs : Nat → Int32) (L : Nat) (Q : Unit) (K18 : Int32 → HI → HL → Prop) (x3 : Int32) (s1 : Int32) (s2 : Int32) (h : HI) (g : HL) : Prop :=
  (∃ P_489 : Int32 → HI → HL → Prop, w_X11_deny s1 s2 h g P_489 ∧ ∀ (r_489 : Int32) (h_489 : HI) (g_489 : HL), P_489 r_489 h_489 g_489 → j_L_law_1451 xs L Q K18 x3 h_489 g_489)
def j_L_law_466 (xs : Nat → Int32) (L : Nat) (Q : Unit) (K18 : Int32 → HI → HL → Prop) (x3 : Int32) (s1 : Int32) (s2 : Int32) (h : HI) (g : HL) : Prop :=
  (∃ P_466 : Int32 → HI → HL → Prop, w_X10_deny s1 s2 h g P_466 ∧ ∀ (r_466 : Int32) (h_466 : HI) (g_466 : HL), P_466 r_466 h_466 g_466 → (vp_in (x3 + (1 : Int32)) L ∧ (vp_in (x3 + (2 : Int32)) L ∧ (((xs (x3 + (2 : Int32)).toNatClampNeg) = 0 → j_L_law_489 xs L Q K18 x3 (xs (x3 + (1 : Int32)).toNatClampNeg) (0 : Int32) h_466 g_466) ∧ (¬ (xs (x3 + (2 : Int32)).toNatClampNeg) = 0 → j_L_law_489 xs L Q K18 x3 (xs (x3 + (1 : Int32)).toNatClampNeg) (1 : Int32) h_466 g_466)))))
def j_L_law_647 (xs : Nat → Int32) (L : Nat) (Q : Unit) (K18 : Int32 → HI → HL → Prop) (x3 : Int32) (s1 : Int32) (s2 : Int32) (s3 : Int32) (h : HI) (g : HL) : Prop :=
  (∃ P_647 : Int32 → HI → HL → Prop, w_X11_link s1 s2 s3 h g P_647 ∧ ∀ (r_647 : Int32) (h_647 : HI) (g_647 : HL), P_647 r_647 h_647 g_647 → j_L_law_1451 xs L Q K18 x3 h_647 g_647)
def j_L_law_619 (xs : Nat → Int32) (L : Nat) (Q : Unit) (K18 : Int32 → HI → HL → Prop) (x3 : Int32) (s1 : Int32) (s2 : Int32) (s3 : Int32) (h : HI) (g : HL) : Prop :=
  (∃ P_619 : Int32 → HI → HL → Prop, w_X10_link s1 s2 s3 h g P_619 ∧ ∀ (r_619 : Int32) (h_619 : HI) (g_619 : HL), P_619 r_619 h_619 g_619 → (vp_in (x3 + (1 : Int32)) L ∧ (vp_in (x3 + (2 : Int32)) L ∧ (vp_in (x3 + (3 : Int32)) L ∧ (((xs (x3 + (3 : Int32)).toNatClampNeg) = 0 → j_L_law_647 xs L Q K18 x3 (xs (x3 + (1 : Int32)).toNatClampNeg) (xs (x3 + (2 : Int32)).toNatClampNeg) (0 : Int32) h_619 g_619) ∧ (¬ (xs (x3 + (3 : Int32)).toNatClampNeg) = 0 → j_L_law_647 xs L Q K18 x3 (xs (x3 + (1 : Int32)).toNatClampNeg) (xs (x3 + (2 : Int32)).toNatClampNeg) (1 : Int32) h_619 g_619))))))
def j_L_law_1168 (xs : Nat → Int32) (L : Nat) (Q : Unit) (K18 : Int32 → HI → HL → Prop) (x3 : Int32) (s1 : Int32) (s2 : Int32) (h : HI) (g : HL) : Prop :=
  (∃ P_1168 : Int32 → HI → HL → Prop, w_X11_told s1 s2 h g P_1168 ∧ ∀ (r_1168 : Int32) (h_1168 : HI) (g_1168 : HL), P_1168 r_1168 h_1168 g_1168 → j_L_law_1451 xs L Q K18 x3 h_1168 g_1168)
def j_L_law_1145 (xs : Nat → Int32) (L : Nat) (Q : Unit) (K18 : Int32 → HI → HL → Prop) (x3 : Int32) (s1 : Int32) (s2 : Int32) (h : HI) (g : HL) : Prop :=
  (∃ P_1145 : Int32 → HI → HL → Prop, w_X10_told s1 s2 h g P_1145 ∧ ∀ (r_1145 : Int32) (h_1145 : HI) (g_1145 : HL), P_1145 r_1145 h_1145 g_1145 → (vp_in (x3 + (1 : Int32)) L ∧ (vp_in (x3 + (2 : Int32)) L ∧ (((xs (x3 + (2 : Int32)).toNatClampNeg) = 0 → j_L_law_1168 xs L Q K18 x3 (xs (x3 + (1 : Int32)).toNatClampNeg) (0 : Int32) h_1145 g_1145) ∧ (¬ (xs (x3 + (2 : Int32)).toNatClampNeg) = 0 → j_L_law_1168 xs L Q K18 x3 (xs (x3 + (1 : Int32)).toNatClampNeg) (1 : Int32) h_1145 g_1145)))))
def j_L_law_1240 (xs : Nat → Int32) (L : Nat) (Q : Unit) (K18 : Int32 → HI → HL → Prop) (x3 : Int32) (s1 : Int32) (s2 : Int32) (s3 : Int32) (h : HI) (g : HL) : Prop :=
  (∃ P_1240 : Int32 → HI → HL → Prop, w_X11_bear s1 s2 s3 h g P_1240 ∧ ∀ (r_1240 : Int32) (h_1240 : HI) (g_1240 : HL), P_1240 r_1240 h_1240 g_1240 → j_L_law_1451 xs L Q K18 x3 h_1240 g_1240)
def j_L_law_1212 (xs : Nat → Int32) (L : Nat) (Q : Unit) (K18 : Int32 → HI → HL → Prop) (x3 : Int32) (s1 : Int32) (s2 : Int32) (s3 : Int32) (h : HI) (g : HL) : Prop :=
  (∃ P_1212 : Int32 → HI → HL → Prop, w_X10_bear s1 s2 s3 h g P_1212 ∧ ∀ (r_1212 : Int32) (h_1212 : HI) (g_1212 : HL), P_1212 r_1212 h_1212 g_1212 → (vp_in (x3 + (1 : Int32)) L ∧ (vp_in (x3 + (2 : Int32)) L ∧ (vp_in (x3 + (3 : Int32)) L ∧ (((xs (x3 + (3 : Int32)).toNatClampNeg) = 0 → j_L_law_1240 xs L Q K18 x3 (xs (x3 + (1 : Int32)).toNatClampNeg) (xs (x3 + (2 : Int32)).toNatClampNeg) (0 : Int32) h_1212 g_1212) ∧ (¬ (xs (x3 + (3 : Int32)).toNatClampNeg) = 0 → j_L_law_1240 xs L Q K18 x3 (xs (x3 + (1 : Int32)).toNatClampNeg) (xs (x3 + (2 : Int32)).toNatClampNeg) (1 : Int32) h_1212 g_1212))))))
def b_L_law_18 (xs : Nat → Int32) (L : Nat) (Q : Unit) (K18 : Int32 → HI → HL → Prop) (x3 : Int32) (h : HI) (g : HL) : Prop :=
  ((((Int32.ofNat L) - (6 : Int32)) < x3 → True) ∧ (¬ ((Int32.ofNat L) - (6 : Int32)) < x3 → (vp_in x3 L ∧ ((((xs x3.toNatClampNeg) &&& (63 : Int32)) = 0 → (vp_in (x3 + (1 : Int32)) L ∧ (vp_in (x3 + (2 : Int32)) L ∧ (vp_in (x3 + (3 : Int32)) L ∧ (vp_in (x3 + (4 : Int32)) L ∧ (∃ P_217 : Int32 → HI → HL → Prop, w_X10_part (xs (x3 + (1 : Int32)).toNatClampNeg) (xs (x3 + (2 : Int32)).toNatClampNeg) (xs (x3 + (3 : Int32)).toNatClampNeg) (xs (x3 + (4 : Int32)).toNatClampNeg) h g P_217 ∧ ∀ (r_217 : Int32) (h_217 : HI) (g_217 : HL), P_217 r_217 h_217 g_217 → (vp_in (x3 + (1 : Int32)) L ∧ (vp_in (x3 + (2 : Int32)) L ∧ (vp_in (x3 + (3 : Int32)) L ∧ (vp_in (x3 + (4 : Int32)) L ∧ (∃ P_242 : Int32 → HI → HL → Prop, w_X11_part (xs (x3 + (1 : Int32)).toNatClampNeg) (xs (x3 + (2 : Int32)).toNatClampNeg) (xs (x3 + (3 : Int32)).toNatClampNeg) (xs (x3 + (4 : Int32)).toNatClampNeg) h_217 g_217 P_242 ∧ ∀ (r_242 : Int32) (h_242 : HI) (g_242 : HL), P_242 r_242 h_242 g_242 → j_L_law_1451 xs L Q K18 x3 h_242 g_242))))))))))) ∧ (((xs x3.toNatClampNeg) &&& (63 : Int32)) = 1 → (vp_in (x3 + (1 : Int32)) L ∧ (vp_in (x3 + (2 : Int32)) L ∧ (vp_in (x3 + (3 : Int32)) L ∧ (vp_in (x3 + (4 : Int32)) L ∧ (∃ P_270 : Int32 → HI → HL → Prop, w_X10_family (xs (x3 + (1 : Int32)).toNatClampNeg) (xs (x3 + (2 : Int32)).toNatClampNeg) (xs (x3 + (3 : Int32)).toNatClampNeg) (xs (x3 + (4 : Int32)).toNatClampNeg) h g P_270 ∧ ∀ (r_270 : Int32) (h_270 : HI) (g_270 : HL), P_270 r_270 h_270 g_270 → (vp_in (x3 + (1 : Int32)) L ∧ (vp_in (x3 + (2 : Int32)) L ∧ (vp_in (x3 + (3 : Int32)) L ∧ (vp_in (x3 + (4 : Int32)) L ∧ (∃ P_295 : Int32 → HI → HL → Prop, w_X11_family (xs (x3 + (1 : Int32)).toNatClampNeg) (xs (x3 + (2 : Int32)).toNatClampNeg) (xs (x3 + (3 : Int32)).toNatClampNeg) (xs (x3 + (4 : Int32)).toNatClampNeg) h_270 g_270 P_295 ∧ ∀ (r_295 : Int32) (h_295 : HI) (g_295 : HL), P_295 r_295 h_295 g_295 → j_L_law_1451 xs L Q K18 x3 h_295 g_295))))))))))) ∧ (((xs x3.toNatClampNeg) &&& (63 : Int32)) = 2 → (vp_in (x3 + (1 : Int32)) L ∧ (∃ P_308 : Int32 → HI → HL → Prop, w_X10_write (xs (x3 + (1 : Int32)).toNatClampNeg) h g P_308 ∧ ∀ (r_308 : Int32) (h_308 : HI) (g_308 : HL), P_308 r_308 h_308 g_308 → (vp_in (x3 + (1 : Int32)) L ∧ (∃ P_318 : Int32 → HI → HL → Prop, w_X11_write (xs (x3 + (1 : Int32)).toNatClampNeg) h_308 g_308 P_318 ∧ ∀ (r_318 : Int32) (h_318 : HI) (g_318 : HL), P_318 r_318 h_318 g_318 → j_L_law_1451 xs L Q K18 x3 h_318 g_318))))) ∧ (((xs x3.toNatClampNeg) &&& (63 : Int32)) = 3 → (∃ P_326 : Int32 → HI → HL → Prop, w_X10_erase h g P_326 ∧ ∀ (r_326 : Int32) (h_326 : HI) (g_326 : HL), P_326 r_326 h_326 g_326 → (∃ P_331 : Int32 → HI → HL → Prop, w_X11_erase h_326 g_326 P_331 ∧ ∀ (r_331 : Int32) (h_331 : HI) (g_331 : HL), P_331 r_331 h_331 g_331 → j_L_law_1451 xs L Q K18 x3 h_331 g_331))) ∧ (((xs x3.toNatClampNeg) &&& (63 : Int32)) = 4 → (∃ P_339 : Int32 → HI → HL → Prop, w_X10_fault h g P_339 ∧ ∀ (r_339 : Int32) (h_339 : HI) (g_339 : HL), P_339 r_339 h_339 g_339 → (∃ P_344 : Int32 → HI → HL → Prop, w_X11_fault h_339 g_339 P_344 ∧ ∀ (r_344 : Int32) (h_344 : HI) (g_344 : HL), P_344 r_344 h_344 g_344 → j_L_law_1451 xs L Q K18 x3 h_344 g_344))) ∧ (((xs x3.toNatClampNeg) &&& (63 : Int32)) = 5 → (vp_in (x3 + (1 : Int32)) L ∧ (vp_in (x3 + (2 : Int32)) L ∧ (∃ P_362 : Int32 → HI → HL → Prop, w_X10_worn (xs (x3 + (1 : Int32)).toNatClampNeg) (xs (x3 + (2 : Int32)).toNatClampNeg) h g P_362 ∧ ∀ (r_362 : Int32) (h_362 : HI) (g_362 : HL), P_362 r_362 h_362 g_362 → (vp_in (x3 + (1 : Int32)) L ∧ (vp_in (x3 + (2 : Int32)) L ∧ (∃ P_377 : Int32 → HI → HL → Prop, w_X11_worn (xs (x3 + (1 : Int32)).toNatClampNeg) (xs (x3 + (2 : Int32)).toNatClampNeg) h_362 g_362 P_377 ∧ ∀ (r_377 : Int32) (h_377 : HI) (g_377 : HL), P_377 r_377 h_377 g_377 → j_L_law_1451 xs L Q K18 x3 h_377 g_377))))))) ∧ (((xs x3.toNatClampNeg) &&& (63 : Int32)) = 6 → (vp_in (x3 + (1 : Int32)) L ∧ (vp_in (x3 + (2 : Int32)) L ∧ (vp_in (x3 + (3 : Int32)) L ∧ (vp_in (x3 + (4 : Int32)) L ∧ (vp_in (x3 + (5 : Int32)) L ∧ (∃ P_410 : Int32 → HI → HL → Prop, w_X10_say (xs (x3 + (1 : Int32)).toNatClampNeg) (xs (x3 + (2 : Int32)).toNatClampNeg) (xs (x3 + (3 : Int32)).toNatClampNeg) (xs (x3 + (4 : Int32)).toNatClampNeg) (xs (x3 + (5 : Int32)).toNatClampNeg) h g P_410 ∧ ∀ (r_410 : Int32) (h_410 : HI) (g_410 : HL), P_410 r_410 h_410 g_410 → (vp_in (x3 + (1 : Int32)) L ∧ (vp_in (x3 + (2 : Int32)) L ∧ (vp_in (x3 + (3 : Int32)) L ∧ (vp_in (x3 + (4 : Int32)) L ∧ (vp_in (x3 + (5 : Int32)) L ∧ (∃ P_440 : Int32 → HI → HL → Prop, w_X11_say (xs (x3 + (1 : Int32)).toNatClampNeg) (xs (x3 + (2 : Int32)).toNatClampNeg) (xs (x3 + (3 : Int32)).toNatClampNeg) (xs (x3 + (4 : Int32)).toNatClampNeg) (xs (x3 + (5 : Int32)).toNatClampNeg) h_410 g_410 P_440 ∧ ∀ (r_440 : Int32) (h_440 : HI) (g_440 : HL), P_440 r_440 h_440 g_440 → j_L_law_1451 xs L Q K18 x3 h_440 g_440))))))))))))) ∧ (((xs x3.toNatClampNeg) &&& (63 : Int32)) = 7 → (vp_in (x3 + (1 : Int32)) L ∧ (vp_in (x3 + (2 : Int32)) L ∧ (((xs (x3 + (2 : Int32)).toNatClampNeg) = 0 → j_L_law_466 xs L Q K18 x3 (xs (x3 + (1 : Int32)).toNatClampNeg) (0 : Int32) h g) ∧ (¬ (xs (x3 + (2 : Int32)).toNatClampNeg) = 0 → j_L_law_466 xs L Q K18 x3 (xs (x3 + (1 : Int32)).toNatClampNeg) (1 : Int32) h g))))) ∧ (((xs x3.toNatClampNeg) &&& (63 : Int32)) = 8 → (vp_in (x3 + (1 : Int32)) L ∧ (vp_in (x3 + (2 : Int32)) L ∧ (∃ P_507 : Int32 → HI → HL → Prop, w_X10_first (xs (x3 + (1 : Int32)).toNatClampNeg) (xs (x3 + (2 : Int32)).toNatClampNeg) h g P_507 ∧ ∀ (r_507 : Int32) (h_507 : HI) (g_507 : HL), P_507 r_507 h_507 g_507 → (vp_in (x3 + (1 : Int32)) L ∧ (vp_in (x3 + (2 : Int32)) L ∧ (∃ P_522 : Int32 → HI → HL → Prop, w_X11_first (xs (x3 + (1 : Int32)).toNatClampNeg) (xs (x3 + (2 : Int32)).toNatClampNeg) h_507 g_507 P_522 ∧ ∀ (r_522 : Int32) (h_522 : HI) (g_522 : HL), P_522 r_522 h_522 g_522 → j_L_law_1451 xs L Q K18 x3 h_522 g_522))))))) ∧ (((xs x3.toNatClampNeg) &&& (63 : Int32)) = 9 → (vp_in (x3 + (1 : Int32)) L ∧ (vp_in (x3 + (2 : Int32)) L ∧ (∃ P_540 : Int32 → HI → HL → Prop, w_X10_quarrel (xs (x3 + (1 : Int32)).toNatClampNeg) (xs (x3 + (2 : Int32)).toNatClampNeg) h g P_540 ∧ ∀ (r_540 : Int32) (h_540 : HI) (g_540 : HL), P_540 r_540 h_540 g_540 → (vp_in (x3 + (1 : Int32)) L ∧ (vp_in (x3 + (2 : Int32)) L ∧ (∃ P_555 : Int32 → HI → HL → Prop, w_X11_quarrel (xs (x3 + (1 : Int32)).toNatClampNeg) (xs (x3 + (2 : Int32)).toNatClampNeg) h_540 g_540 P_555 ∧ ∀ (r_555 : Int32) (h_555 : HI) (g_555 : HL), P_555 r_555 h_555 g_555 → j_L_law_1451 xs L Q K18 x3 h_555 g_555))))))) ∧ (((xs x3.toNatClampNeg) &&& (63 : Int32)) = 10 → (vp_in (x3 + (1 : Int32)) L ∧ (vp_in (x3 + (2 : Int32)) L ∧ (∃ P_573 : Int32 → HI → HL → Prop, w_X10_chain (xs (x3 + (1 : Int32)).toNatClampNeg) (xs (x3 + (2 : Int32)).toNatClampNeg) h g P_573 ∧ ∀ (r_573 : Int32) (h_573 : HI) (g_573 : HL), P_573 r_573 h_573 g_573 → (vp_in (x3 + (1 : Int32)) L ∧ (vp_in (x3 + (2 : Int32)) L ∧ (∃ P_588 : Int32 → HI → HL → Prop, w_X11_chain (xs (x3 + (1 : Int32)).toNatClampNeg) (xs (x3 + (2 : Int32)).toNatClampNeg) h_573 g_573 P_588 ∧ ∀ (r_588 : Int32) (h_588 : HI) (g_588 : HL), P_588 r_588 h_588 g_588 → j_L_law_1451 xs L Q K18 x3 h_588 g_588))))))) ∧ (((xs x3.toNatClampNeg) &&& (63 : Int32)) = 11 → (vp_in (x3 + (1 : Int32)) L ∧ (vp_in (x3 + (2 : Int32)) L ∧ (vp_in (x3 + (3 : Int32)) L ∧ (((xs (x3 + (3 : Int32)).toNatClampNeg) = 0 → j_L_law_619 xs L Q K18 x3 (xs (x3 + (1 : Int32)).toNatClampNeg) (xs (x3 + (2 : Int32)).toNatClampNeg) (0 : Int32) h g) ∧ (¬ (xs (x3 + (3 : Int32)).toNatClampNeg) = 0 → j_L_law_619 xs L Q K18 x3 (xs (x3 + (1 : Int32)).toNatClampNeg) (xs (x3 + (2 : Int32)).toNatClampNeg) (1 : Int32) h g)))))) ∧ (((xs x3.toNatClampNeg) &&& (63 : Int32)) = 12 → (vp_in (x3 + (1 : Int32)) L ∧ (vp_in (x3 + (2 : Int32)) L ∧ (vp_in (x3 + (3 : Int32)) L ∧ (∃ P_670 : Int32 → HI → HL → Prop, w_X10_sum (xs (x3 + (1 : Int32)).toNatClampNeg) (xs (x3 + (2 : Int32)).toNatClampNeg) (xs (x3 + (3 : Int32)).toNatClampNeg) h g P_670 ∧ ∀ (r_670 : Int32) (h_670 : HI) (g_670 : HL), P_670 r_670 h_670 g_670 → (vp_in (x3 + (1 : Int32)) L ∧ (vp_in (x3 + (2 : Int32)) L ∧ (vp_in (x3 + (3 : Int32)) L ∧ (∃ P_690 : Int32 → HI → HL → Prop, w_X11_sum (xs (x3 + (1 : Int32)).toNatClampNeg) (xs (x3 + (2 : Int32)).toNatClampNeg) (xs (x3 + (3 : Int32)).toNatClampNeg) h_670 g_670 P_690 ∧ ∀ (r_690 : Int32) (h_690 : HI) (g_690 : HL), P_690 r_690 h_690 g_690 → j_L_law_1451 xs L Q K18 x3 h_690 g_690))))))))) ∧ (((xs x3.toNatClampNeg) &&& (63 : Int32)) = 13 → (vp_in (x3 + (1 : Int32)) L ∧ (vp_in (x3 + (2 : Int32)) L ∧ (vp_in (x3 + (3 : Int32)) L ∧ (∃ P_713 : Int32 → HI → HL → Prop, w_X10_stands (xs (x3 + (1 : Int32)).toNatClampNeg) (xs (x3 + (2 : Int32)).toNatClampNeg) (xs (x3 + (3 : Int32)).toNatClampNeg) h g P_713 ∧ ∀ (r_713 : Int32) (h_713 : HI) (g_713 : HL), P_713 r_713 h_713 g_713 → (vp_in (x3 + (1 : Int32)) L ∧ (vp_in (x3 + (2 : Int32)) L ∧ (vp_in (x3 + (3 : Int32)) L ∧ (∃ P_733 : Int32 → HI → HL → Prop, w_X11_stands (xs (x3 + (1 : Int32)).toNatClampNeg) (xs (x3 + (2 : Int32)).toNatClampNeg) (xs (x3 + (3 : Int32)).toNatClampNeg) h_713 g_713 P_733 ∧ ∀ (r_733 : Int32) (h_733 : HI) (g_733 : HL), P_733 r_733 h_733 g_733 → j_L_law_1451 xs L Q K18 x3 h_733 g_733))))))))) ∧ (((xs x3.toNatClampNeg) &&& (63 : Int32)) = 14 → (vp_in (x3 + (1 : Int32)) L ∧ (vp_in (x3 + (2 : Int32)) L ∧ (∃ P_751 : Int32 → HI → HL → Prop, w_X10_life (xs (x3 + (1 : Int32)).toNatClampNeg) (xs (x3 + (2 : Int32)).toNatClampNeg) h g P_751 ∧ ∀ (r_751 : Int32) (h_751 : HI) (g_751 : HL), P_751 r_751 h_751 g_751 → (vp_in (x3 + (1 : Int32)) L ∧ (vp_in (x3 + (2 : Int32)) L ∧ (∃ P_766 : Int32 → HI → HL → Prop, w_X11_life (xs (x3 + (1 : Int32)).toNatClampNeg) (xs (x3 + (2 : Int32)).toNatClampNeg) h_751 g_751 P_766 ∧ ∀ (r_766 : Int32) (h_766 : HI) (g_766 : HL), P_766 r_766 h_766 g_766 → j_L_law_1451 xs L Q K18 x3 h_766 g_766))))))) ∧ (((xs x3.toNatClampNeg) &&& (63 : Int32)) = 15 → (vp_in (x3 + (1 : Int32)) L ∧ (vp_in (x3 + (2 : Int32)) L ∧ (vp_in (x3 + (3 : Int32)) L ∧ (vp_in (x3 + (4 : Int32)) L ∧ (∃ P_794 : Int32 → HI → HL → Prop, w_X10_work (xs (x3 + (1 : Int32)).toNatClampNeg) (xs (x3 + (2 : Int32)).toNatClampNeg) (xs (x3 + (3 : Int32)).toNatClampNeg) (xs (x3 + (4 : Int32)).toNatClampNeg) h g P_794 ∧ ∀ (r_794 : Int32) (h_794 : HI) (g_794 : HL), P_794 r_794 h_794 g_794 → (vp_in (x3 + (1 : Int32)) L ∧ (vp_in (x3 + (2 : Int32)) L ∧ (vp_in (x3 + (3 : Int32)) L ∧ (vp_in (x3 + (4 : Int32)) L ∧ (∃ P_819 : Int32 → HI → HL → Prop, w_X11_work (xs (x3 + (1 : Int32)).toNatClampNeg) (xs (x3 + (2 : Int32)).toNatClampNeg) (xs (x3 + (3 : Int32)).toNatClampNeg) (xs (x3 + (4 : Int32)).toNatClampNeg) h_794 g_794 P_819 ∧ ∀ (r_819 : Int32) (h_819 : HI) (g_819 : HL), P_819 r_819 h_819 g_819 → j_L_law_1451 xs L Q K18 x3 h_819 g_819))))))))))) ∧ (((xs x3.toNatClampNeg) &&& (63 : Int32)) = 16 → (vp_in (x3 + (1 : Int32)) L ∧ (vp_in (x3 + (2 : Int32)) L ∧ (vp_in (x3 + (3 : Int32)) L ∧ (vp_in (x3 + (4 : Int32)) L ∧ (∃ P_847 : Int32 → HI → HL → Prop, w_X10_way (xs (x3 + (1 : Int32)).toNatClampNeg) (xs (x3 + (2 : Int32)).toNatClampNeg) (xs (x3 + (3 : Int32)).toNatClampNeg) (xs (x3 + (4 : Int32)).toNatClampNeg) h g P_847 ∧ ∀ (r_847 : Int32) (h_847 : HI) (g_847 : HL), P_847 r_847 h_847 g_847 → (vp_in (x3 + (1 : Int32)) L ∧ (vp_in (x3 + (2 : Int32)) L ∧ (vp_in (x3 + (3 : Int32)) L ∧ (vp_in (x3 + (4 : Int32)) L ∧ (∃ P_872 : Int32 → HI → HL → Prop, w_X11_way (xs (x3 + (1 : Int32)).toNatClampNeg) (xs (x3 + (2 : Int32)).toNatClampNeg) (xs (x3 + (3 : Int32)).toNatClampNeg) (xs (x3 + (4 : Int32)).toNatClampNeg) h_847 g_847 P_872 ∧ ∀ (r_872 : Int32) (h_872 : HI) (g_872 : HL), P_872 r_872 h_872 g_872 → j_L_law_1451 xs L Q K18 x3 h_872 g_872))))))))))) ∧ (((xs x3.toNatClampNeg) &&& (63 : Int32)) = 17 → (vp_in (x3 + (1 : Int32)) L ∧ (∃ P_885 : Int32 → HI → HL → Prop, w_X10_machine (xs (x3 + (1 : Int32)).toNatClampNeg) h g P_885 ∧ ∀ (r_885 : Int32) (h_885 : HI) (g_885 : HL), P_885 r_885 h_885 g_885 → (vp_in (x3 + (1 : Int32)) L ∧ (∃ P_895 : Int32 → HI → HL → Prop, w_X11_machine (xs (x3 + (1 : Int32)).toNatClampNeg) h_885 g_885 P_895 ∧ ∀ (r_895 : Int32) (h_895 : HI) (g_895 : HL), P_895 r_895 h_895 g_895 → j_L_law_1451 xs L Q K18 x3 h_895 g_895))))) ∧ (((xs x3.toNatClampNeg) &&& (63 : Int32)) = 18 → (vp_in (x3 + (1 : Int32)) L ∧ (vp_in (x3 + (2 : Int32)) L ∧ (vp_in (x3 + (3 : Int32)) L ∧ (∃ P_918 : Int32 → HI → HL → Prop, w_X10_spare (xs (x3 + (1 : Int32)).toNatClampNeg) (xs (x3 + (2 : Int32)).toNatClampNeg) (xs (x3 + (3 : Int32)).toNatClampNeg) h g P_918 ∧ ∀ (r_918 : Int32) (h_918 : HI) (g_918 : HL), P_918 r_918 h_918 g_918 → (vp_in (x3 + (1 : Int32)) L ∧ (vp_in (x3 + (2 : Int32)) L ∧ (vp_in (x3 + (3 : Int32)) L ∧ (∃ P_938 : Int32 → HI → HL → Prop, w_X11_spare (xs (x3 + (1 : Int32)).toNatClampNeg) (xs (x3 + (2 : Int32)).toNatClampNeg) (xs (x3 + (3 : Int32)).toNatClampNeg) h_918 g_918 P_938 ∧ ∀ (r_938 : Int32) (h_938 : HI) (g_938 : HL), P_938 r_938 h_938 g_938 → j_L_law_1451 xs L Q K18 x3 h_938 g_938))))))))) ∧ (((xs x3.toNatClampNeg) &&& (63 : Int32)) = 19 → (∃ P_946 : Int32 → HI → HL → Prop, w_X10_scrap h g P_946 ∧ ∀ (r_946 : Int32) (h_946 : HI) (g_946 : HL), P_946 r_946 h_946 g_946 → (∃ P_951 : Int32 → HI → HL → Prop, w_X11_scrap h_946 g_946 P_951 ∧ ∀ (r_951 : Int32) (h_951 : HI) (g_951 : HL), P_951 r_951 h_951 g_951 → j_L_law_1451 xs L Q K18 x3 h_951 g_951))) ∧ (((xs x3.toNatClampNeg) &&& (63 : Int32)) = 20 → (vp_in (x3 + (1 : Int32)) L ∧ (∃ P_964 : Int32 → HI → HL → Prop, w_X10_taking (xs (x3 + (1 : Int32)).toNatClampNeg) h g P_964 ∧ ∀ (r_964 : Int32) (h_964 : HI) (g_964 : HL), P_964 r_964 h_964 g_964 → (vp_in (x3 + (1 : Int32)) L ∧ (∃ P_974 : Int32 → HI → HL → Prop, w_X11_taking (xs (x3 + (1 : Int32)).toNatClampNeg) h_964 g_964 P_974 ∧ ∀ (r_974 : Int32) (h_974 : HI) (g_974 : HL), P_974 r_974 h_974 g_974 → j_L_law_1451 xs L Q K18 x3 h_974 g_974))))) ∧ (((xs x3.toNatClampNeg) &&& (63 : Int32)) = 21 → (vp_in (x3 + (1 : Int32)) L ∧ (vp_in (x3 + (2 : Int32)) L ∧ (∃ P_992 : Int32 → HI → HL → Prop, w_X10_odds (xs (x3 + (1 : Int32)).toNatClampNeg) (xs (x3 + (2 : Int32)).toNatClampNeg) h g P_992 ∧ ∀ (r_992 : Int32) (h_992 : HI) (g_992 : HL), P_992 r_992 h_992 g_992 → (vp_in (x3 + (1 : Int32)) L ∧ (vp_in (x3 + (2 : Int32)) L ∧ (∃ P_1007 : Int32 → HI → HL → Prop, w_X11_odds (xs (x3 + (1 : Int32)).toNatClampNeg) (xs (x3 + (2 : Int32)).toNatClampNeg) h_992 g_992 P_1007 ∧ ∀ (r_1007 : Int32) (h_1007 : HI) (g_1007 : HL), P_1007 r_1007 h_1007 g_1007 → j_L_law_1451 xs L Q K18 x3 h_1007 g_1007))))))) ∧ (((xs x3.toNatClampNeg) &&& (63 : Int32)) = 22 → (vp_in (x3 + (1 : Int32)) L ∧ (vp_in (x3 + (2 : Int32)) L ∧ (∃ P_1025 : Int32 → HI → HL → Prop, w_X10_lasts (xs (x3 + (1 : Int32)).toNatClampNeg) (xs (x3 + (2 : Int32)).toNatClampNeg) h g P_1025 ∧ ∀ (r_1025 : Int32) (h_1025 : HI) (g_1025 : HL), P_1025 r_1025 h_1025 g_1025 → (vp_in (x3 + (1 : Int32)) L ∧ (vp_in (x3 + (2 : Int32)) L ∧ (∃ P_1040 : Int32 → HI → HL → Prop, w_X11_lasts (xs (x3 + (1 : Int32)).toNatClampNeg) (xs (x3 + (2 : Int32)).toNatClampNeg) h_1025 g_1025 P_1040 ∧ ∀ (r_1040 : Int32) (h_1040 : HI) (g_1040 : HL), P_1040 r_1040 h_1040 g_1040 → j_L_law_1451 xs L Q K18 x3 h_1040 g_1040))))))) ∧ (((xs x3.toNatClampNeg) &&& (63 : Int32)) = 23 → (vp_in (x3 + (1 : Int32)) L ∧ (∃ P_1053 : Int32 → HI → HL → Prop, w_X10_half (xs (x3 + (1 : Int32)).toNatClampNeg) h g P_1053 ∧ ∀ (r_1053 : Int32) (h_1053 : HI) (g_1053 : HL), P_1053 r_1053 h_1053 g_1053 → (vp_in (x3 + (1 : Int32)) L ∧ (∃ P_1063 : Int32 → HI → HL → Prop, w_X11_half (xs (x3 + (1 : Int32)).toNatClampNeg) h_1053 g_1053 P_1063 ∧ ∀ (r_1063 : Int32) (h_1063 : HI) (g_1063 : HL), P_1063 r_1063 h_1063 g_1063 → j_L_law_1451 xs L Q K18 x3 h_1063 g_1063))))) ∧ (((xs x3.toNatClampNeg) &&& (63 : Int32)) = 24 → (vp_in (x3 + (1 : Int32)) L ∧ (∃ P_1076 : Int32 → HI → HL → Prop, w_X10_limbs (xs (x3 + (1 : Int32)).toNatClampNeg) h g P_1076 ∧ ∀ (r_1076 : Int32) (h_1076 : HI) (g_1076 : HL), P_1076 r_1076 h_1076 g_1076 → (vp_in (x3 + (1 : Int32)) L ∧ (∃ P_1086 : Int32 → HI → HL → Prop, w_X11_limbs (xs (x3 + (1 : Int32)).toNatClampNeg) h_1076 g_1076 P_1086 ∧ ∀ (r_1086 : Int32) (h_1086 : HI) (g_1086 : HL), P_1086 r_1086 h_1086 g_1086 → j_L_law_1451 xs L Q K18 x3 h_1086 g_1086))))) ∧ (((xs x3.toNatClampNeg) &&& (63 : Int32)) = 25 → (vp_in (x3 + (1 : Int32)) L ∧ (vp_in (x3 + (2 : Int32)) L ∧ (∃ P_1104 : Int32 → HI → HL → Prop, w_X10_limb (xs (x3 + (1 : Int32)).toNatClampNeg) (xs (x3 + (2 : Int32)).toNatClampNeg) h g P_1104 ∧ ∀ (r_1104 : Int32) (h_1104 : HI) (g_1104 : HL), P_1104 r_1104 h_1104 g_1104 → (vp_in (x3 + (1 : Int32)) L ∧ (vp_in (x3 + (2 : Int32)) L ∧ (∃ P_1119 : Int32 → HI → HL → Prop, w_X11_limb (xs (x3 + (1 : Int32)).toNatClampNeg) (xs (x3 + (2 : Int32)).toNatClampNeg) h_1104 g_1104 P_1119 ∧ ∀ (r_1119 : Int32) (h_1119 : HI) (g_1119 : HL), P_1119 r_1119 h_1119 g_1119 → j_L_law_1451 xs L Q K18 x3 h_1119 g_1119))))))) ∧ (((xs x3.toNatClampNeg) &&& (63 : Int32)) = 26 → (vp_in (x3 + (1 : Int32)) L ∧ (vp_in (x3 + (2 : Int32)) L ∧ (((xs (x3 + (2 : Int32)).toNatClampNeg) = 0 → j_L_law_1145 xs L Q K18 x3 (xs (x3 + (1 : Int32)).toNatClampNeg) (0 : Int32) h g) ∧ (¬ (xs (x3 + (2 : Int32)).toNatClampNeg) = 0 → j_L_law_1145 xs L Q K18 x3 (xs (x3 + (1 : Int32)).toNatClampNeg) (1 : Int32) h g))))) ∧ (((xs x3.toNatClampNeg) &&& (63 : Int32)) = 27 → (∃ P_1176 : Int32 → HI → HL → Prop, w_X10_fitted h g P_1176 ∧ ∀ (r_1176 : Int32) (h_1176 : HI) (g_1176 : HL), P_1176 r_1176 h_1176 g_1176 → (∃ P_1181 : Int32 → HI → HL → Prop, w_X11_fitted h_1176 g_1176 P_1181 ∧ ∀ (r_1181 : Int32) (h_1181 : HI) (g_1181 : HL), P_1181 r_1181 h_1181 g_1181 → j_L_law_1451 xs L Q K18 x3 h_1181 g_1181))) ∧ (((xs x3.toNatClampNeg) &&& (63 : Int32)) = 28 → (vp_in (x3 + (1 : Int32)) L ∧ (vp_in (x3 + (2 : Int32)) L ∧ (vp_in (x3 + (3 : Int32)) L ∧ (((xs (x3 + (3 : Int32)).toNatClampNeg) = 0 → j_L_law_1212 xs L Q K18 x3 (xs (x3 + (1 : Int32)).toNatClampNeg) (xs (x3 + (2 : Int32)).toNatClampNeg) (0 : Int32) h g) ∧ (¬ (xs (x3 + (3 : Int32)).toNatClampNeg) = 0 → j_L_law_1212 xs L Q K18 x3 (xs (x3 + (1 : Int32)).toNatClampNeg) (xs (x3 + (2 : Int32)).toNatClampNeg) (1 : Int32) h g)))))) ∧ (((xs x3.toNatClampNeg) &&& (63 : Int32)) = 29 → (vp_in (x3 + (1 : Int32)) L ∧ (∃ P_1253 : Int32 → HI → HL → Prop, w_X10_along (xs (x3 + (1 : Int32)).toNatClampNeg) h g P_1253 ∧ ∀ (r_1253 : Int32) (h_1253 : HI) (g_1253 : HL), P_1253 r_1253 h_1253 g_1253 → (vp_in (x3 + (1 : Int32)) L ∧ (∃ P_1263 : Int32 → HI → HL → Prop, w_X11_along (xs (x3 + (1 : Int32)).toNatClampNeg) h_1253 g_1253 P_1263 ∧ ∀ (r_1263 : Int32) (h_1263 : HI) (g_1263 : HL), P_1263 r_1263 h_1263 g_1263 → j_L_law_1451 xs L Q K18 x3 h_1263 g_1263))))) ∧ (((xs x3.toNatClampNeg) &&& (63 : Int32)) = 30 → (vp_in (x3 + (1 : Int32)) L ∧ (vp_in (x3 + (2 : Int32)) L ∧ (∃ P_1281 : Int32 → HI → HL → Prop, w_X10_hand (xs (x3 + (1 : Int32)).toNatClampNeg) (xs (x3 + (2 : Int32)).toNatClampNeg) h g P_1281 ∧ ∀ (r_1281 : Int32) (h_1281 : HI) (g_1281 : HL), P_1281 r_1281 h_1281 g_1281 → (vp_in (x3 + (1 : Int32)) L ∧ (vp_in (x3 + (2 : Int32)) L ∧ (∃ P_1296 : Int32 → HI → HL → Prop, w_X11_hand (xs (x3 + (1 : Int32)).toNatClampNeg) (xs (x3 + (2 : Int32)).toNatClampNeg) h_1281 g_1281 P_1296 ∧ ∀ (r_1296 : Int32) (h_1296 : HI) (g_1296 : HL), P_1296 r_1296 h_1296 g_1296 → j_L_law_1451 xs L Q K18 x3 h_1296 g_1296))))))) ∧ (((xs x3.toNatClampNeg) &&& (63 : Int32)) = 31 → (vp_in (x3 + (1 : Int32)) L ∧ (vp_in (x3 + (2 : Int32)) L ∧ (∃ P_1314 : Int32 → HI → HL → Prop, w_X10_need (xs (x3 + (1 : Int32)).toNatClampNeg) (xs (x3 + (2 : Int32)).toNatClampNeg) h g P_1314 ∧ ∀ (r_1314 : Int32) (h_1314 : HI) (g_1314 : HL), P_1314 r_1314 h_1314 g_1314 → (vp_in (x3 + (1 : Int32)) L ∧ (vp_in (x3 + (2 : Int32)) L ∧ (∃ P_1329 : Int32 → HI → HL → Prop, w_X11_need (xs (x3 + (1 : Int32)).toNatClampNeg) (xs (x3 + (2 : Int32)).toNatClampNeg) h_1314 g_1314 P_1329 ∧ ∀ (r_1329 : Int32) (h_1329 : HI) (g_1329 : HL), P_1329 r_1329 h_1329 g_1329 → j_L_law_1451 xs L Q K18 x3 h_1329 g_1329))))))) ∧ (((xs x3.toNatClampNeg) &&& (63 : Int32)) = 32 → (vp_in (x3 + (1 : Int32)) L ∧ (vp_in (x3 + (2 : Int32)) L ∧ (∃ P_1347 : Int32 → HI → HL → Prop, w_X10_plan (xs (x3 + (1 : Int32)).toNatClampNeg) (xs (x3 + (2 : Int32)).toNatClampNeg) h g P_1347 ∧ ∀ (r_1347 : Int32) (h_1347 : HI) (g_1347 : HL), P_1347 r_1347 h_1347 g_1347 → (vp_in (x3 + (1 : Int32)) L ∧ (vp_in (x3 + (2 : Int32)) L ∧ (∃ P_1362 : Int32 → HI → HL → Prop, w_X11_plan (xs (x3 + (1 : Int32)).toNatClampNeg) (xs (x3 + (2 : Int32)).toNatClampNeg) h_1347 g_1347 P_1362 ∧ ∀ (r_1362 : Int32) (h_1362 : HI) (g_1362 : HL), P_1362 r_1362 h_1362 g_1362 → j_L_law_1451 xs L Q K18 x3 h_1362 g_1362))))))) ∧ (((xs x3.toNatClampNeg) &&& (63 : Int32)) = 33 → (vp_in (x3 + (1 : Int32)) L ∧ (∃ P_1375 : Int32 → HI → HL → Prop, w_X10_image (xs (x3 + (1 : Int32)).toNatClampNeg) h g P_1375 ∧ ∀ (r_1375 : Int32) (h_1375 : HI) (g_1375 : HL), P_1375 r_1375 h_1375 g_1375 → (vp_in (x3 + (1 : Int32)) L ∧ (∃ P_1385 : Int32 → HI → HL → Prop, w_X11_image (xs (x3 + (1 : Int32)).toNatClampNeg) h_1375 g_1375 P_1385 ∧ ∀ (r_1385 : Int32) (h_1385 : HI) (g_1385 : HL), P_1385 r_1385 h_1385 g_1385 → j_L_law_1451 xs L Q K18 x3 h_1385 g_1385))))) ∧ (((xs x3.toNatClampNeg) &&& (63 : Int32)) = 34 → (vp_in (x3 + (1 : Int32)) L ∧ (∃ P_1398 : Int32 → HI → HL → Prop, w_X10_from (xs (x3 + (1 : Int32)).toNatClampNeg) h g P_1398 ∧ ∀ (r_1398 : Int32) (h_1398 : HI) (g_1398 : HL), P_1398 r_1398 h_1398 g_1398 → (vp_in (x3 + (1 : Int32)) L ∧ (∃ P_1407 : Int32 → HI → HL → Prop, w_X11_from (xs (x3 + (1 : Int32)).toNatClampNeg) h_1398 g_1398 P_1407 ∧ ∀ (r_1407 : Int32) (h_1407 : HI) (g_1407 : HL), P_1407 r_1407 h_1407 g_1407 → ((r_1398 = r_1407 → j_L_law_1451 xs L Q K18 x3 h_1407 g_1407) ∧ (¬ r_1398 = r_1407 → False))))))) ∧ (((xs x3.toNatClampNeg) &&& (63 : Int32)) = 35 → (vp_in (x3 + (1 : Int32)) L ∧ (∃ P_1421 : Int32 → HI → HL → Prop, w_X10_count (xs (x3 + (1 : Int32)).toNatClampNeg) h g P_1421 ∧ ∀ (r_1421 : Int32) (h_1421 : HI) (g_1421 : HL), P_1421 r_1421 h_1421 g_1421 → (vp_in (x3 + (1 : Int32)) L ∧ (∃ P_1431 : Int32 → HI → HL → Prop, w_X11_count (xs (x3 + (1 : Int32)).toNatClampNeg) h_1421 g_1421 P_1431 ∧ ∀ (r_1431 : Int32) (h_1431 : HI) (g_1431 : HL), P_1431 r_1431 h_1431 g_1431 → j_L_law_1451 xs L Q K18 x3 h_1431 g_1431))))) ∧ (((xs x3.toNatClampNeg) &&& (63 : Int32)) = 36 → (∃ P_1439 : Int64 → HI → HL → Prop, w_X10_digest h g P_1439 ∧ ∀ (r_1439 : Int64) (h_1439 : HI) (g_1439 : HL), P_1439 r_1439 h_1439 g_1439 → (∃ P_1444 : Int64 → HI → HL → Prop, w_X11_digest h_1439 g_1439 P_1444 ∧ ∀ (r_1444 : Int64) (h_1444 : HI) (g_1444 : HL), P_1444 r_1444 h_1444 g_1444 → j_L_law_1451 xs L Q K18 x3 h_1444 g_1444))) ∧ (¬ ((xs x3.toNatClampNeg) &&& (63 : Int32)) = 0 → ¬ ((xs x3.toNatClampNeg) &&& (63 : Int32)) = 1 → ¬ ((xs x3.toNatClampNeg) &&& (63 : Int32)) = 2 → ¬ ((xs x3.toNatClampNeg) &&& (63 : Int32)) = 3 → ¬ ((xs x3.toNatClampNeg) &&& (63 : Int32)) = 4 → ¬ ((xs x3.toNatClampNeg) &&& (63 : Int32)) = 5 → ¬ ((xs x3.toNatClampNeg) &&& (63 : Int32)) = 6 → ¬ ((xs x3.toNatClampNeg) &&& (63 : Int32)) = 7 → ¬ ((xs x3.toNatClampNeg) &&& (63 : Int32)) = 8 → ¬ ((xs x3.toNatClampNeg) &&& (63 : Int32)) = 9 → ¬ ((xs x3.toNatClampNeg) &&& (63 : Int32)) = 10 → ¬ ((xs x3.toNatClampNeg) &&& (63 : Int32)) = 11 → ¬ ((xs x3.toNatClampNeg) &&& (63 : Int32)) = 12 → ¬ ((xs x3.toNatClampNeg) &&& (63 : Int32)) = 13 → ¬ ((xs x3.toNatClampNeg) &&& (63 : Int32)) = 14 → ¬ ((xs x3.toNatClampNeg) &&& (63 : Int32)) = 15 → ¬ ((xs x3.toNatClampNeg) &&& (63 : Int32)) = 16 → ¬ ((xs x3.toNatClampNeg) &&& (63 : Int32)) = 17 → ¬ ((xs x3.toNatClampNeg) &&& (63 : Int32)) = 18 → ¬ ((xs x3.toNatClampNeg) &&& (63 : Int32)) = 19 → ¬ ((xs x3.toNatClampNeg) &&& (63 : Int32)) = 20 → ¬ ((xs x3.toNatClampNeg) &&& (63 : Int32)) = 21 → ¬ ((xs x3.toNatClampNeg) &&& (63 : Int32)) = 22 → ¬ ((xs x3.toNatClampNeg) &&& (63 : Int32)) = 23 → ¬ ((xs x3.toNatClampNeg) &&& (63 : Int32)) = 24 → ¬ ((xs x3.toNatClampNeg) &&& (63 : Int32)) = 25 → ¬ ((xs x3.toNatClampNeg) &&& (63 : Int32)) = 26 → ¬ ((xs x3.toNatClampNeg) &&& (63 : Int32)) = 27 → ¬ ((xs x3.toNatClampNeg) &&& (63 : Int32)) = 28 → ¬ ((xs x3.toNatClampNeg) &&& (63 : Int32)) = 29 → ¬ ((xs x3.toNatClampNeg) &&& (63 : Int32)) = 30 → ¬ ((xs x3.toNatClampNeg) &&& (63 : Int32)) = 31 → ¬ ((xs x3.toNatClampNeg) &&& (63 : Int32)) = 32 → ¬ ((xs x3.toNatClampNeg) &&& (63 : Int32)) = 33 → ¬ ((xs x3.toNatClampNeg) &&& (63 : Int32)) = 34 → ¬ ((xs x3.toNatClampNeg) &&& (63 : Int32)) = 35 → ¬ ((xs x3.toNatClampNeg) &&& (63 : Int32)) = 36 → j_L_law_1451 xs L Q K18 x3 h g)))))
def F_L_law_18 (xs : Nat → Int32) (L : Nat) (Q : Unit) (K : Int32 × HI × HL → Prop) (q : Int32 × HI × HL) : Prop := b_L_law_18 xs L Q (fun x3 h g => K (x3, h, g)) q.1 q.2.1 q.2.2
/-- what the law asks of the two, over the pure heap, from its loop on -/
def w_law (xs : Nat → Int32) (L : Nat) (h : HI) (g : HL) : Prop := lpE (F_L_law_18 xs L ()) (0, h, g)
set_option maxHeartbeats 40000000 in
set_option maxRecDepth 100000 in
theorem law_loop {p : Program} {l : Launch} {e : Env} {s : State} {m : MethodId} {below : List Frame} {meth : Method} {c : Code} {D : va_G} {cy : Nat → ClassId} {ad : Nat → Nat} {b L C0 S0 : Nat} {xs : Nat → Int32} (hA : lw_At p s m meth c b L xs) (hK : va_K D vwCl (gtys cy) s) (hNw : gNw s) (had : ∀ q, gA ad s.heap.size q → s.heap.size ≤ q) (hC0 : C0 ≤ 600000) (hS0 : S0 ≤ 7302250) {h : HI} {g : HL} (HW : w_law xs L h g) {H : Heap} {locs : List Loc} {ls : Array Slot} (hG : gG D cy ad (gA ad s.heap.size) s.heap h g H locs) (hl : lv_has ls 4 [(0, .ref b), (1, .ref (ad 0)), (2, .ref (ad 135)), (3, .int 0)]) : W p l e room_1 s m #[Value.ref b] below meth c H locs C0 S0 (lw_Z below #[Value.ref b] s) (F0 m 18 ls []) := by
  obtain ⟨hx, hb, hr, hml, hown, hts, hX, hbl, hlocks, hgv⟩ := hA
  have hw : ∀ w ∈ wsG, w.before #[Value.ref b] s = true := fun w h => hts w (wsG_in w h)
  have hbA : ¬ gA ad s.heap.size b := fun q => absurd (had b q) (Nat.not_le.mpr hbl)
  have hown : s.vm.findClass RL = some m.cls := hown
  generalize hQ : () = Q
  have B1451 : ∀ (K18 : Int32 → HI → HL → Prop) (hK18 : ∀ (x3 : Int32) (h : HI) (g : HL) (H : Heap) (locs : List Loc) (ls : Array Slot), K18 x3 h g → gG D cy ad (gA ad s.heap.size) s.heap h g H locs → lv_has ls 4 [(0, .ref b), (1, .ref (ad 0)), (2, .ref (ad 135)), (3, .int x3)] → W p l e room_1 s m #[Value.ref b] below meth c H locs C0 S0 (lw_Z below #[Value.ref b] s) (F0 m 18 ls [])) (x3 : Int32) (h : HI) (g : HL) (H : Heap) (locs : List Loc) (ls : Array Slot), j_L_law_1451 xs L Q K18 x3 h g → gG D cy ad (gA ad s.heap.size) s.heap h g H locs → lv_has ls 4 [(0, .ref b), (1, .ref (ad 0)), (2, .ref (ad 135)), (3, .int x3)] → W p l e room_1 s m #[Value.ref b] below meth c H locs C0 S0 (lw_Z below #[Value.ref b] s) (F0 m 1451 ls []) := by
    intro K18 hK18 x3 h g H locs ls HW hG hl
    unfold j_L_law_1451 at HW
    obtain ⟨x3_1451, ex3_1451⟩ : ∃ y : Int32, y = (x3 + 6) := ⟨_, rfl⟩
    replace HW := HW x3_1451 ex3_1451
    refine lv_iinc (v := x3_1451) (lv' := [(3, .int x3_1451), (0, .ref b), (1, .ref (ad 0)), (2, .ref (ad 135))]) hx hb dL_law_1451 hl (k := 3) rfl (by rw [ex3_1451]; rfl) (by decide) rfl (fun ls hl => ?_)
    refine lv_goto (tgt := 18) hx hb dL_law_1454 (by decide) ?_
    exact hK18 x3_1451 h g _ _ _ HW hG (lv_sub hl [1, 2, 3, 0] rfl)
  have B489 : ∀ (K18 : Int32 → HI → HL → Prop) (hK18 : ∀ (x3 : Int32) (h : HI) (g : HL) (H : Heap) (locs : List Loc) (ls : Array Slot), K18 x3 h g → gG D cy ad (gA ad s.heap.size) s.heap h g H locs → lv_has ls 4 [(0, .ref b), (1, .ref (ad 0)), (2, .ref (ad 135)), (3, .int x3)] → W p l e room_1 s m #[Value.ref b] below meth c H locs C0 S0 (lw_Z below #[Value.ref b] s) (F0 m 18 ls [])) (x3 : Int32) (s1 : Int32) (s2 : Int32) (h : HI) (g : HL) (H : Heap) (locs : List Loc) (ls : Array Slot), j_L_law_489 xs L Q K18 x3 s1 s2 h g → gG D cy ad (gA ad s.heap.size) s.heap h g H locs → lv_has ls 4 [(0, .ref b), (1, .ref (ad 0)), (2, .ref (ad 135)), (3, .int x3)] → W p l e room_1 s m #[Value.ref b] below meth c H locs C0 S0 (lw_Z below #[Value.ref b] s) (F0 m 489 ls [.int s2, .int s1, .ref (ad 135)]) := by
    intro K18 hK18 x3 s1 s2 h g H locs ls HW hG hl
    unfold j_L_law_489 at HW
    obtain ⟨P_489, HC_489, HW⟩ := HW
    refine g_calli (g_runV (As := [.int s1, .int s2]) (rest := []) ⟨hx, hb, hml, hown, hw⟩ (m_X11_deny l D cy ad h g H.size s1 s2 P_489 HC_489) (cwV 2 hw (gd_VL (wm5 209 rfl rfl) (wm5 210 rfl rfl) (wm5 211 rfl rfl) (wm1 13 rfl rfl) (wm5 212 rfl rfl)) rfl rfl rfl (by decide +kernel) ⟨Nat.le_of_ble_eq_true rfl, Nat.le_of_ble_eq_true rfl⟩) hK hNw hG gl_135 rfl gk_135 (by decide) rfl rfl hl.1 rfl (lv_room (Nat.le_of_ble_eq_true rfl)) dL_law_489 ⟨hC0, hS0⟩) hG (fun r_489 h_489 g_489 H locs hq hG => ?_)
    replace HW := HW r_489 h_489 g_489 hq
    refine lv_pop hx hb dL_law_492 rfl ?_
    refine lv_goto (tgt := 1451) hx hb dL_law_493 (by decide) ?_
    exact B1451 K18 hK18 x3 h_489 g_489 _ _ _ HW hG (lv_sub hl [0, 1, 2, 3] rfl)
  have B466 : ∀ (K18 : Int32 → HI → HL → Prop) (hK18 : ∀ (x3 : Int32) (h : HI) (g : HL) (H : Heap) (locs : List Loc) (ls : Array Slot), K18 x3 h g → gG D cy ad (gA ad s.heap.size) s.heap h g H locs → lv_has ls 4 [(0, .ref b), (1, .ref (ad 0)), (2, .ref (ad 135)), (3, .int x3)] → W p l e room_1 s m #[Value.ref b] below meth c H locs C0 S0 (lw_Z below #[Value.ref b] s) (F0 m 18 ls [])) (x3 : Int32) (s1 : Int32) (s2 : Int32) (h : HI) (g : HL) (H : Heap) (locs : List Loc) (ls : Array Slot), j_L_law_466 xs L Q K18 x3 s1 s2 h g → gG D cy ad (gA ad s.heap.size) s.heap h g H locs → lv_has ls 4 [(0, .ref b), (1, .ref (ad 0)), (2, .ref (ad 135)), (3, .int x3)] → W p l e room_1 s m #[Value.ref b] below meth c H locs C0 S0 (lw_Z below #[Value.ref b] s) (F0 m 466 ls [.int s2, .int s1, .ref (ad 0)]) := by
    intro K18 hK18 x3 s1 s2 h g H locs ls HW hG hl
    unfold j_L_law_466 at HW
    obtain ⟨P_466, HC_466, HW⟩ := HW
    refine g_calli (g_runV (As := [.int s1, .int s2]) (rest := []) ⟨hx, hb, hml, hown, hw⟩ (m_X10_deny l D cy ad h g H.size s1 s2 P_466 HC_466) (cwV 2 hw (gd_VL (wm3 65 rfl rfl) (wm3 66 rfl rfl) (wm3 67 rfl rfl) (wm1 1 rfl rfl) (wm3 68 rfl rfl)) rfl rfl rfl (by decide +kernel) ⟨Nat.le_of_ble_eq_true rfl, Nat.le_of_ble_eq_true rfl⟩) hK hNw hG gl_0 rfl gk_0 (by decide) rfl rfl hl.1 rfl (lv_room (Nat.le_of_ble_eq_true rfl)) dL_law_466 ⟨hC0, hS0⟩) hG (fun r_466 h_466 g_466 H locs hq hG => ?_)
    replace HW := HW r_466 h_466 g_466 hq
    refine lv_pop hx hb dL_law_469 rfl ?_
    refine lv_aload_n hx hb dL_law_470 rfl (lv_at hl 2 rfl) ?_
    refine lv_aload_n hx hb dL_law_471 rfl (lv_at hl 0 rfl) ?_
    refine lv_iload_n hx hb dL_law_472 rfl (lv_at hl 3 rfl) ?_
    refine lv_iconst (v := 1) hx hb dL_law_473 (by decide) ?_
    refine lv_iadd hx hb dL_law_474 ?_
    refine va_sld hx hb hX hbl hbA hG.2.2 HW.1 dL_law_475 ?_
    replace HW := HW.2
    refine lv_aload_n hx hb dL_law_476 rfl (lv_at hl 0 rfl) ?_
    refine lv_iload_n hx hb dL_law_477 rfl (lv_at hl 3 rfl) ?_
    refine lv_iconst (v := 2) hx hb dL_law_478 (by decide) ?_
    refine lv_iadd hx hb dL_law_479 ?_
    refine va_sld hx hb hX hbl hbA hG.2.2 HW.1 dL_law_480 ?_
    replace HW := HW.2
    refine lv_if_eq (tgt := 488) hx hb dL_law_481 (by decide) (fun c_481 => ?_) (fun c_481 => ?_)
    · replace HW := HW.1 c_481
      refine lv_iconst (v := 0) hx hb dL_law_488 (by decide) ?_
      exact B489 K18 hK18 x3 (xs (x3 + (1 : Int32)).toNatClampNeg) (0 : Int32) h_466 g_466 _ _ _ HW hG (lv_sub hl [0, 1, 2, 3] rfl)
    · replace HW := HW.2 c_481
      refine lv_iconst (v := 1) hx hb dL_law_484 (by decide) ?_
      refine lv_goto (tgt := 489) hx hb dL_law_485 (by decide) ?_
      exact B489 K18 hK18 x3 (xs (x3 + (1 : Int32)).toNatClampNeg) (1 : Int32) h_466 g_466 _ _ _ HW hG (lv_sub hl [0, 1, 2, 3] rfl)
  have B647 : ∀ (K18 : Int32 → HI → HL → Prop) (hK18 : ∀ (x3 : Int32) (h : HI) (g : HL) (H : Heap) (locs : List Loc) (ls : Array Slot), K18 x3 h g → gG D cy ad (gA ad s.heap.size) s.heap h g H locs → lv_has ls 4 [(0, .ref b), (1, .ref (ad 0)), (2, .ref (ad 135)), (3, .int x3)] → W p l e room_1 s m #[Value.ref b] below meth c H locs C0 S0 (lw_Z below #[Value.ref b] s) (F0 m 18 ls [])) (x3 : Int32) (s1 : Int32) (s2 : Int32) (s3 : Int32) (h : HI) (g : HL) (H : Heap) (locs : List Loc) (ls : Array Slot), j_L_law_647 xs L Q K18 x3 s1 s2 s3 h g → gG D cy ad (gA ad s.heap.size) s.heap h g H locs → lv_has ls 4 [(0, .ref b), (1, .ref (ad 0)), (2, .ref (ad 135)), (3, .int x3)] → W p l e room_1 s m #[Value.ref b] below meth c H locs C0 S0 (lw_Z below #[Value.ref b] s) (F0 m 647 ls [.int s3, .int s2, .int s1, .ref (ad 135)]) := by
    intro K18 hK18 x3 s1 s2 s3 h g H locs ls HW hG hl
    unfold j_L_law_647 at HW
    obtain ⟨P_647, HC_647, HW⟩ := HW
    refine g_calli (g_runV (As := [.int s1, .int s2, .int s3]) (rest := []) ⟨hx, hb, hml, hown, hw⟩ (m_X11_link l D cy ad h g H.size s1 s2 s3 P_647 HC_647) (cwV 3 hw (gd_VL (wm6 25 rfl rfl) (wm6 26 rfl rfl) (wm6 27 rfl rfl) (wm1 13 rfl rfl) (wm6 28 rfl rfl)) rfl rfl rfl (by decide +kernel) ⟨Nat.le_of_ble_eq_true rfl, Nat.le_of_ble_eq_true rfl⟩) hK hNw hG gl_135 rfl gk_135 (by decide) rfl rfl hl.1 rfl (lv_room (Nat.le_of_ble_eq_true rfl)) dL_law_647 ⟨hC0, hS0⟩) hG (fun r_647 h_647 g_647 H locs hq hG => ?_)
    replace HW := HW r_647 h_647 g_647 hq
    refine lv_pop hx hb dL_law_650 rfl ?_
    refine lv_goto (tgt := 1451) hx hb dL_law_651 (by decide) ?_
    exact B1451 K18 hK18 x3 h_647 g_647 _ _ _ HW hG (lv_sub hl [0, 1, 2, 3] rfl)
  have B619 : ∀ (K18 : Int32 → HI → HL → Prop) (hK18 : ∀ (x3 : Int32) (h : HI) (g : HL) (H : Heap) (locs : List Loc) (ls : Array Slot), K18 x3 h g → gG D cy ad (gA ad s.heap.size) s.heap h g H locs → lv_has ls 4 [(0, .ref b), (1, .ref (ad 0)), (2, .ref (ad 135)), (3, .int x3)] → W p l e room_1 s m #[Value.ref b] below meth c H locs C0 S0 (lw_Z below #[Value.ref b] s) (F0 m 18 ls [])) (x3 : Int32) (s1 : Int32) (s2 : Int32) (s3 : Int32) (h : HI) (g : HL) (H : Heap) (locs : List Loc) (ls : Array Slot), j_L_law_619 xs L Q K18 x3 s1 s2 s3 h g → gG D cy ad (gA ad s.heap.size) s.heap h g H locs → lv_has ls 4 [(0, .ref b), (1, .ref (ad 0)), (2, .ref (ad 135)), (3, .int x3)] → W p l e room_1 s m #[Value.ref b] below meth c H locs C0 S0 (lw_Z below #[Value.ref b] s) (F0 m 619 ls [.int s3, .int s2, .int s1, .ref (ad 0)]) := by
    intro K18 hK18 x3 s1 s2 s3 h g H locs ls HW hG hl
    unfold j_L_law_619 at HW
    obtain ⟨P_619, HC_619, HW⟩ := HW
    refine g_calli (g_runV (As := [.int s1, .int s2, .int s3]) (rest := []) ⟨hx, hb, hml, hown, hw⟩ (m_X10_link l D cy ad h g H.size s1 s2 s3 P_619 HC_619) (cwV 3 hw (gd_VL (wm3 135 rfl rfl) (wm3 136 rfl rfl) (wm3 137 rfl rfl) (wm1 1 rfl rfl) (wm3 138 rfl rfl)) rfl rfl rfl (by decide +kernel) ⟨Nat.le_of_ble_eq_true rfl, Nat.le_of_ble_eq_true rfl⟩) hK hNw hG gl_0 rfl gk_0 (by decide) rfl rfl hl.1 rfl (lv_room (Nat.le_of_ble_eq_true rfl)) dL_law_619 ⟨hC0, hS0⟩) hG (fun r_619 h_619 g_619 H locs hq hG => ?_)
    replace HW := HW r_619 h_619 g_619 hq
    refine lv_pop hx hb dL_law_622 rfl ?_
    refine lv_aload_n hx hb dL_law_623 rfl (lv_at hl 2 rfl) ?_
    refine lv_aload_n hx hb dL_law_624 rfl (lv_at hl 0 rfl) ?_
    refine lv_iload_n hx hb dL_law_625 rfl (lv_at hl 3 rfl) ?_
    refine lv_iconst (v := 1) hx hb dL_law_626 (by decide) ?_
    refine lv_iadd hx hb dL_law_627 ?_
    refine va_sld hx hb hX hbl hbA hG.2.2 HW.1 dL_law_628 ?_
    replace HW := HW.2
    refine lv_aload_n hx hb dL_law_629 rfl (lv_at hl 0 rfl) ?_
    refine lv_iload_n hx hb dL_law_630 rfl (lv_at hl 3 rfl) ?_
    refine lv_iconst (v := 2) hx hb dL_law_631 (by decide) ?_
    refine lv_iadd hx hb dL_law_632 ?_
    refine va_sld hx hb hX hbl hbA hG.2.2 HW.1 dL_law_633 ?_
    replace HW := HW.2
    refine lv_aload_n hx hb dL_law_634 rfl (lv_at hl 0 rfl) ?_
    refine lv_iload_n hx hb dL_law_635 rfl (lv_at hl 3 rfl) ?_
    refine lv_iconst (v := 3) hx hb dL_law_636 (by decide) ?_
    refine lv_iadd hx hb dL_law_637 ?_
    refine va_sld hx hb hX hbl hbA hG.2.2 HW.1 dL_law_638 ?_
    replace HW := HW.2
    refine lv_if_eq (tgt := 646) hx hb dL_law_639 (by decide) (fun c_639 => ?_) (fun c_639 => ?_)
    · replace HW := HW.1 c_639
      refine lv_iconst (v := 0) hx hb dL_law_646 (by decide) ?_
      exact B647 K18 hK18 x3 (xs (x3 + (1 : Int32)).toNatClampNeg) (xs (x3 + (2 : Int32)).toNatClampNeg) (0 : Int32) h_619 g_619 _ _ _ HW hG (lv_sub hl [0, 1, 2, 3] rfl)
    · replace HW := HW.2 c_639
      refine lv_iconst (v := 1) hx hb dL_law_642 (by decide) ?_
      refine lv_goto (tgt := 647) hx hb dL_law_643 (by decide) ?_
      exact B647 K18 hK18 x3 (xs (x3 + (1 : Int32)).toNatClampNeg) (xs (x3 + (2 : Int32)).toNatClampNeg) (1 : Int32) h_619 g_619 _ _ _ HW hG (lv_sub hl [0, 1, 2, 3] rfl)
  have B1168 : ∀ (K18 : Int32 → HI → HL → Prop) (hK18 : ∀ (x3 : Int32) (h : HI) (g : HL) (H : Heap) (locs : List Loc) (ls : Array Slot), K18 x3 h g → gG D cy ad (gA ad s.heap.size) s.heap h g H locs → lv_has ls 4 [(0, .ref b), (1, .ref (ad 0)), (2, .ref (ad 135)), (3, .int x3)] → W p l e room_1 s m #[Value.ref b] below meth c H locs C0 S0 (lw_Z below #[Value.ref b] s) (F0 m 18 ls [])) (x3 : Int32) (s1 : Int32) (s2 : Int32) (h : HI) (g : HL) (H : Heap) (locs : List Loc) (ls : Array Slot), j_L_law_1168 xs L Q K18 x3 s1 s2 h g → gG D cy ad (gA ad s.heap.size) s.heap h g H locs → lv_has ls 4 [(0, .ref b), (1, .ref (ad 0)), (2, .ref (ad 135)), (3, .int x3)] → W p l e room_1 s m #[Value.ref b] below meth c H locs C0 S0 (lw_Z below #[Value.ref b] s) (F0 m 1168 ls [.int s2, .int s1, .ref (ad 135)]) := by
    intro K18 hK18 x3 s1 s2 h g H locs ls HW hG hl
    unfold j_L_law_1168 at HW
    obtain ⟨P_1168, HC_1168, HW⟩ := HW
    refine g_calli (g_runV (As := [.int s1, .int s2]) (rest := []) ⟨hx, hb, hml, hown, hw⟩ (m_X11_told l D cy ad h g H.size s1 s2 P_1168 HC_1168) (cwV 2 hw (gd_VL (wm6 162 rfl rfl) (wm6 163 rfl rfl) (wm6 164 rfl rfl) (wm1 13 rfl rfl) (wm6 165 rfl rfl)) rfl rfl rfl (by decide +kernel) ⟨Nat.le_of_ble_eq_true rfl, Nat.le_of_ble_eq_true rfl⟩) hK hNw hG gl_135 rfl gk_135 (by decide) rfl rfl hl.1 rfl (lv_room (Nat.le_of_ble_eq_true rfl)) dL_law_1168 ⟨hC0, hS0⟩) hG (fun r_1168 h_1168 g_1168 H locs hq hG => ?_)
    replace HW := HW r_1168 h_1168 g_1168 hq
    refine lv_pop hx hb dL_law_1171 rfl ?_
    refine lv_goto (tgt := 1451) hx hb dL_law_1172 (by decide) ?_
    exact B1451 K18 hK18 x3 h_1168 g_1168 _ _ _ HW hG (lv_sub hl [0, 1, 2, 3] rfl)
  have B1145 : ∀ (K18 : Int32 → HI → HL → Prop) (hK18 : ∀ (x3 : Int32) (h : HI) (g : HL) (H : Heap) (locs : List Loc) (ls : Array Slot), K18 x3 h g → gG D cy ad (gA ad s.heap.size) s.heap h g H locs → lv_has ls 4 [(0, .ref b), (1, .ref (ad 0)), (2, .ref (ad 135)), (3, .int x3)] → W p l e room_1 s m #[Value.ref b] below meth c H locs C0 S0 (lw_Z below #[Value.ref b] s) (F0 m 18 ls [])) (x3 : Int32) (s1 : Int32) (s2 : Int32) (h : HI) (g : HL) (H : Heap) (locs : List Loc) (ls : Array Slot), j_L_law_1145 xs L Q K18 x3 s1 s2 h g → gG D cy ad (gA ad s.heap.size) s.heap h g H locs → lv_has ls 4 [(0, .ref b), (1, .ref (ad 0)), (2, .ref (ad 135)), (3, .int x3)] → W p l e room_1 s m #[Value.ref b] below meth c H locs C0 S0 (lw_Z below #[Value.ref b] s) (F0 m 1145 ls [.int s2, .int s1, .ref (ad 0)]) := by
    intro K18 hK18 x3 s1 s2 h g H locs ls HW hG hl
    unfold j_L_law_1145 at HW
    obtain ⟨P_1145, HC_1145, HW⟩ := HW
    refine g_calli (g_runV (As := [.int s1, .int s2]) (rest := []) ⟨hx, hb, hml, hown, hw⟩ (m_X10_told l D cy ad h g H.size s1 s2 P_1145 HC_1145) (cwV 2 hw (gd_VL (wm4 100 rfl rfl) (wm4 101 rfl rfl) (wm4 102 rfl rfl) (wm1 1 rfl rfl) (wm4 103 rfl rfl)) rfl rfl rfl (by decide +kernel) ⟨Nat.le_of_ble_eq_true rfl, Nat.le_of_ble_eq_true rfl⟩) hK hNw hG gl_0 rfl gk_0 (by decide) rfl rfl hl.1 rfl (lv_room (Nat.le_of_ble_eq_true rfl)) dL_law_1145 ⟨hC0, hS0⟩) hG (fun r_1145 h_1145 g_1145 H locs hq hG => ?_)
    replace HW := HW r_1145 h_1145 g_1145 hq
    refine lv_pop hx hb dL_law_1148 rfl ?_
    refine lv_aload_n hx hb dL_law_1149 rfl (lv_at hl 2 rfl) ?_
    refine lv_aload_n hx hb dL_law_1150 rfl (lv_at hl 0 rfl) ?_
    refine lv_iload_n hx hb dL_law_1151 rfl (lv_at hl 3 rfl) ?_
    refine lv_iconst (v := 1) hx hb dL_law_1152 (by decide) ?_
    refine lv_iadd hx hb dL_law_1153 ?_
    refine va_sld hx hb hX hbl hbA hG.2.2 HW.1 dL_law_1154 ?_
    replace HW := HW.2
    refine lv_aload_n hx hb dL_law_1155 rfl (lv_at hl 0 rfl) ?_
    refine lv_iload_n hx hb dL_law_1156 rfl (lv_at hl 3 rfl) ?_
    refine lv_iconst (v := 2) hx hb dL_law_1157 (by decide) ?_
    refine lv_iadd hx hb dL_law_1158 ?_
    refine va_sld hx hb hX hbl hbA hG.2.2 HW.1 dL_law_1159 ?_
    replace HW := HW.2
    refine lv_if_eq (tgt := 1167) hx hb dL_law_1160 (by decide) (fun c_1160 => ?_) (fun c_1160 => ?_)
    · replace HW := HW.1 c_1160
      refine lv_iconst (v := 0) hx hb dL_law_1167 (by decide) ?_
      exact B1168 K18 hK18 x3 (xs (x3 + (1 : Int32)).toNatClampNeg) (0 : Int32) h_1145 g_1145 _ _ _ HW hG (lv_sub hl [0, 1, 2, 3] rfl)
    · replace HW := HW.2 c_1160
      refine lv_iconst (v := 1) hx hb dL_law_1163 (by decide) ?_
      refine lv_goto (tgt := 1168) hx hb dL_law_1164 (by decide) ?_
      exact B1168 K18 hK18 x3 (xs (x3 + (1 : Int32)).toNatClampNeg) (1 : Int32) h_1145 g_1145 _ _ _ HW hG (lv_sub hl [0, 1, 2, 3] rfl)
  have B1240 : ∀ (K18 : Int32 → HI → HL → Prop) (hK18 : ∀ (x3 : Int32) (h : HI) (g : HL) (H : Heap) (locs : List Loc) (ls : Array Slot), K18 x3 h g → gG D cy ad (gA ad s.heap.size) s.heap h g H locs → lv_has ls 4 [(0, .ref b), (1, .ref (ad 0)), (2, .ref (ad 135)), (3, .int x3)] → W p l e room_1 s m #[Value.ref b] below meth c H locs C0 S0 (lw_Z below #[Value.ref b] s) (F0 m 18 ls [])) (x3 : Int32) (s1 : Int32) (s2 : Int32) (s3 : Int32) (h : HI) (g : HL) (H : Heap) (locs : List Loc) (ls : Array Slot), j_L_law_1240 xs L Q K18 x3 s1 s2 s3 h g → gG D cy ad (gA ad s.heap.size) s.heap h g H locs → lv_has ls 4 [(0, .ref b), (1, .ref (ad 0)), (2, .ref (ad 135)), (3, .int x3)] → W p l e room_1 s m #[Value.ref b] below meth c H locs C0 S0 (lw_Z below #[Value.ref b] s) (F0 m 1240 ls [.int s3, .int s2, .int s1, .ref (ad 135)]) := by
    intro K18 hK18 x3 s1 s2 s3 h g H locs ls HW hG hl
    unfold j_L_law_1240 at HW
    obtain ⟨P_1240, HC_1240, HW⟩ := HW
    refine g_calli (g_runV (As := [.int s1, .int s2, .int s3]) (rest := []) ⟨hx, hb, hml, hown, hw⟩ (m_X11_bear l D cy ad h g H.size s1 s2 s3 P_1240 HC_1240) (cwV 3 hw (gd_VL (wm6 175 rfl rfl) (wm6 176 rfl rfl) (wm6 177 rfl rfl) (wm1 13 rfl rfl) (wm6 178 rfl rfl)) rfl rfl rfl (by decide +kernel) ⟨Nat.le_of_ble_eq_true rfl, Nat.le_of_ble_eq_true rfl⟩) hK hNw hG gl_135 rfl gk_135 (by decide) rfl rfl hl.1 rfl (lv_room (Nat.le_of_ble_eq_true rfl)) dL_law_1240 ⟨hC0, hS0⟩) hG (fun r_1240 h_1240 g_1240 H locs hq hG => ?_)
    replace HW := HW r_1240 h_1240 g_1240 hq
    refine lv_pop hx hb dL_law_1243 rfl ?_
    refine lv_goto (tgt := 1451) hx hb dL_law_1244 (by decide) ?_
    exact B1451 K18 hK18 x3 h_1240 g_1240 _ _ _ HW hG (lv_sub hl [0, 1, 2, 3] rfl)
  have B1212 : ∀ (K18 : Int32 → HI → HL → Prop) (hK18 : ∀ (x3 : Int32) (h : HI) (g : HL) (H : Heap) (locs : List Loc) (ls : Array Slot), K18 x3 h g → gG D cy ad (gA ad s.heap.size) s.heap h g H locs → lv_has ls 4 [(0, .ref b), (1, .ref (ad 0)), (2, .ref (ad 135)), (3, .int x3)] → W p l e room_1 s m #[Value.ref b] below meth c H locs C0 S0 (lw_Z below #[Value.ref b] s) (F0 m 18 ls [])) (x3 : Int32) (s1 : Int32) (s2 : Int32) (s3 : Int32) (h : HI) (g : HL) (H : Heap) (locs : List Loc) (ls : Array Slot), j_L_law_1212 xs L Q K18 x3 s1 s2 s3 h g → gG D cy ad (gA ad s.heap.size) s.heap h g H locs → lv_has ls 4 [(0, .ref b), (1, .ref (ad 0)), (2, .ref (ad 135)), (3, .int x3)] → W p l e room_1 s m #[Value.ref b] below meth c H locs C0 S0 (lw_Z below #[Value.ref b] s) (F0 m 1212 ls [.int s3, .int s2, .int s1, .ref (ad 0)]) := by
    intro K18 hK18 x3 s1 s2 s3 h g H locs ls HW hG hl
    unfold j_L_law_1212 at HW
    obtain ⟨P_1212, HC_1212, HW⟩ := HW
    refine g_calli (g_runV (As := [.int s1, .int s2, .int s3]) (rest := []) ⟨hx, hb, hml, hown, hw⟩ (m_X10_bear l D cy ad h g H.size s1 s2 s3 P_1212 HC_1212) (cwV 3 hw (gd_VL (wm4 126 rfl rfl) (wm4 127 rfl rfl) (wm4 128 rfl rfl) (wm1 1 rfl rfl) (wm4 129 rfl rfl)) rfl rfl rfl (by decide +kernel) ⟨Nat.le_of_ble_eq_true rfl, Nat.le_of_ble_eq_true rfl⟩) hK hNw hG gl_0 rfl gk_0 (by decide) rfl rfl hl.1 rfl (lv_room (Nat.le_of_ble_eq_true rfl)) dL_law_1212 ⟨hC0, hS0⟩) hG (fun r_1212 h_1212 g_1212 H locs hq hG => ?_)
    replace HW := HW r_1212 h_1212 g_1212 hq
    refine lv_pop hx hb dL_law_1215 rfl ?_
    refine lv_aload_n hx hb dL_law_1216 rfl (lv_at hl 2 rfl) ?_
    refine lv_aload_n hx hb dL_law_1217 rfl (lv_at hl 0 rfl) ?_
    refine lv_iload_n hx hb dL_law_1218 rfl (lv_at hl 3 rfl) ?_
    refine lv_iconst (v := 1) hx hb dL_law_1219 (by decide) ?_
    refine lv_iadd hx hb dL_law_1220 ?_
    refine va_sld hx hb hX hbl hbA hG.2.2 HW.1 dL_law_1221 ?_
    replace HW := HW.2
    refine lv_aload_n hx hb dL_law_1222 rfl (lv_at hl 0 rfl) ?_
    refine lv_iload_n hx hb dL_law_1223 rfl (lv_at hl 3 rfl) ?_
    refine lv_iconst (v := 2) hx hb dL_law_1224 (by decide) ?_
    refine lv_iadd hx hb dL_law_1225 ?_
    refine va_sld hx hb hX hbl hbA hG.2.2 HW.1 dL_law_1226 ?_
    replace HW := HW.2
    refine lv_aload_n hx hb dL_law_1227 rfl (lv_at hl 0 rfl) ?_
    refine lv_iload_n hx hb dL_law_1228 rfl (lv_at hl 3 rfl) ?_
    refine lv_iconst (v := 3) hx hb dL_law_1229 (by decide) ?_
    refine lv_iadd hx hb dL_law_1230 ?_
    refine va_sld hx hb hX hbl hbA hG.2.2 HW.1 dL_law_1231 ?_
    replace HW := HW.2
    refine lv_if_eq (tgt := 1239) hx hb dL_law_1232 (by decide) (fun c_1232 => ?_) (fun c_1232 => ?_)
    · replace HW := HW.1 c_1232
      refine lv_iconst (v := 0) hx hb dL_law_1239 (by decide) ?_
      exact B1240 K18 hK18 x3 (xs (x3 + (1 : Int32)).toNatClampNeg) (xs (x3 + (2 : Int32)).toNatClampNeg) (0 : Int32) h_1212 g_1212 _ _ _ HW hG (lv_sub hl [0, 1, 2, 3] rfl)
    · replace HW := HW.2 c_1232
      refine lv_iconst (v := 1) hx hb dL_law_1235 (by decide) ?_
      refine lv_goto (tgt := 1240) hx hb dL_law_1236 (by decide) ?_
      exact B1240 K18 hK18 x3 (xs (x3 + (1 : Int32)).toNatClampNeg) (xs (x3 + (2 : Int32)).toNatClampNeg) (1 : Int32) h_1212 g_1212 _ _ _ HW hG (lv_sub hl [0, 1, 2, 3] rfl)
  have L18 : ∀ (n : Nat) (x3 : Int32) (h : HI) (g : HL) (H : Heap) (locs : List Loc) (ls : Array Slot), lpN (F_L_law_18 xs L Q) n (x3, h, g) → gG D cy ad (gA ad s.heap.size) s.heap h g H locs → lv_has ls 4 [(0, .ref b), (1, .ref (ad 0)), (2, .ref (ad 135)), (3, .int x3)] → W p l e room_1 s m #[Value.ref b] below meth c H locs C0 S0 (lw_Z below #[Value.ref b] s) (F0 m 18 ls []) := by
    intro n
    induction n with
    | zero => intro x3 h g H locs ls HW; exact HW.elim
    | succ n ih =>
      intro x3 h g H locs ls HW hG hl
      have HW : b_L_law_18 xs L Q (fun x3 h g => lpN (F_L_law_18 xs L Q) n (x3, h, g)) x3 h g := HW
      generalize hKe : (fun (x3 : Int32) (h : HI) (g : HL) => lpN (F_L_law_18 xs L Q) n (x3, h, g)) = K18 at HW
      have hK18 : ∀ (x3 : Int32) (h : HI) (g : HL) (H : Heap) (locs : List Loc) (ls : Array Slot), K18 x3 h g → gG D cy ad (gA ad s.heap.size) s.heap h g H locs → lv_has ls 4 [(0, .ref b), (1, .ref (ad 0)), (2, .ref (ad 135)), (3, .int x3)] → W p l e room_1 s m #[Value.ref b] below meth c H locs C0 S0 (lw_Z below #[Value.ref b] s) (F0 m 18 ls []) := by subst hKe; exact ih
      clear ih
      clear hKe
      unfold b_L_law_18 at HW
      refine lv_iload_n hx hb dL_law_18 rfl (lv_at hl 3 rfl) ?_
      refine lv_aload_n hx hb dL_law_19 rfl (lv_at hl 0 rfl) ?_
      refine va_slen hx hb hX hbl hbA hG.2.2 dL_law_20 ?_
      refine lv_bipush (v := 6) hx hb dL_law_21 (by decide) ?_
      refine lv_isub hx hb dL_law_23 ?_
      refine lv_icmp_gt (tgt := 1457) hx hb dL_law_24 (by decide) (fun c_24 => ?_) (fun c_24 => ?_)
      · replace HW := HW.1 c_24
        refine lv_iconst (v := 1) hx hb dL_law_1457 (by decide) ?_
        refine va_forget (fun q hq => had q.base (hG.2.2.2.2 q hq)) ?_
        refine W.widen (k := 600000) (n := 7302250) hC0 hS0 ?_
        exact lw_ret hx hb hr hlocks dL_law_1458
      · replace HW := HW.2 c_24
        refine lv_aload_n hx hb dL_law_27 rfl (lv_at hl 0 rfl) ?_
        refine lv_iload_n hx hb dL_law_28 rfl (lv_at hl 3 rfl) ?_
        refine va_sld hx hb hX hbl hbA hG.2.2 HW.1 dL_law_29 ?_
        replace HW := HW.2
        refine lv_bipush (v := 63) hx hb dL_law_30 (by decide) ?_
        refine lv_iand hx hb dL_law_32 ?_
        by_cases c_33_0 : ((xs x3.toNatClampNeg) &&& (63 : Int32)) = 0
        · replace HW := HW.1 c_33_0
          refine lv_tableIn (tgt := 196) (off := 163) hx hb dL_law_33 (by rw [c_33_0]; first | done | decide) (by rw [c_33_0]; first | done | decide) (by rw [c_33_0]; first | done | rfl) (by decide) ?_
          refine lv_aload_n hx hb dL_law_196 rfl (lv_at hl 1 rfl) ?_
          refine lv_aload_n hx hb dL_law_197 rfl (lv_at hl 0 rfl) ?_
          refine lv_iload_n hx hb dL_law_198 rfl (lv_at hl 3 rfl) ?_
          refine lv_iconst (v := 1) hx hb dL_law_199 (by decide) ?_
          refine lv_iadd hx hb dL_law_200 ?_
          refine va_sld hx hb hX hbl hbA hG.2.2 HW.1 dL_law_201 ?_
          replace HW := HW.2
          refine lv_aload_n hx hb dL_law_202 rfl (lv_at hl 0 rfl) ?_
          refine lv_iload_n hx hb dL_law_203 rfl (lv_at hl 3 rfl) ?_
          refine lv_iconst (v := 2) hx hb dL_law_204 (by decide) ?_
          refine lv_iadd hx hb dL_law_205 ?_
          refine va_sld hx hb hX hbl hbA hG.2.2 HW.1 dL_law_206 ?_
          replace HW := HW.2
          refine lv_aload_n hx hb dL_law_207 rfl (lv_at hl 0 rfl) ?_
          refine lv_iload_n hx hb dL_law_208 rfl (lv_at hl 3 rfl) ?_
          refine lv_iconst (v := 3) hx hb dL_law_209 (by decide) ?_
          refine lv_iadd hx hb dL_law_210 ?_
          refine va_sld hx hb hX hbl hbA hG.2.2 HW.1 dL_law_211 ?_
          replace HW := HW.2
          refine lv_aload_n hx hb dL_law_212 rfl (lv_at hl 0 rfl) ?_
          refine lv_iload_n hx hb dL_law_213 rfl (lv_at hl 3 rfl) ?_
          refine lv_iconst (v := 4) hx hb dL_law_214 (by decide) ?_
          refine lv_iadd hx hb dL_law_215 ?_
          refine va_sld hx hb hX hbl hbA hG.2.2 HW.1 dL_law_216 ?_
          replace HW := HW.2
          obtain ⟨P_217, HC_217, HW⟩ := HW
          refine g_calli (g_runV (As := [.int (xs (x3 + (1 : Int32)).toNatClampNeg), .int (xs (x3 + (2 : Int32)).toNatClampNeg), .int (xs (x3 + (3 : Int32)).toNatClampNeg), .int (xs (x3 + (4 : Int32)).toNatClampNeg)]) (rest := []) ⟨hx, hb, hml, hown, hw⟩ (m_X10_part l D cy ad h g H.size (xs (x3 + (1 : Int32)).toNatClampNeg) (xs (x3 + (2 : Int32)).toNatClampNeg) (xs (x3 + (3 : Int32)).toNatClampNeg) (xs (x3 + (4 : Int32)).toNatClampNeg) P_217 HC_217) (cwV 4 hw (gd_VL (wm2 189 rfl rfl) (wm2 190 rfl rfl) (wm2 191 rfl rfl) (wm1 1 rfl rfl) (wm2 192 rfl rfl)) rfl rfl rfl (by decide +kernel) ⟨Nat.le_of_ble_eq_true rfl, Nat.le_of_ble_eq_true rfl⟩) hK hNw hG gl_0 rfl gk_0 (by decide) rfl rfl hl.1 rfl (lv_room (Nat.le_of_ble_eq_true rfl)) dL_law_217 ⟨hC0, hS0⟩) hG (fun r_217 h_217 g_217 H locs hq hG => ?_)
          replace HW := HW r_217 h_217 g_217 hq
          refine lv_pop hx hb dL_law_220 rfl ?_
          refine lv_aload_n hx hb dL_law_221 rfl (lv_at hl 2 rfl) ?_
          refine lv_aload_n hx hb dL_law_222 rfl (lv_at hl 0 rfl) ?_
          refine lv_iload_n hx hb dL_law_223 rfl (lv_at hl 3 rfl) ?_
          refine lv_iconst (v := 1) hx hb dL_law_224 (by decide) ?_
          refine lv_iadd hx hb dL_law_225 ?_
          refine va_sld hx hb hX hbl hbA hG.2.2 HW.1 dL_law_226 ?_
          replace HW := HW.2
          refine lv_aload_n hx hb dL_law_227 rfl (lv_at hl 0 rfl) ?_
          refine lv_iload_n hx hb dL_law_228 rfl (lv_at hl 3 rfl) ?_
          refine lv_iconst (v := 2) hx hb dL_law_229 (by decide) ?_
          refine lv_iadd hx hb dL_law_230 ?_
          refine va_sld hx hb hX hbl hbA hG.2.2 HW.1 dL_law_231 ?_
          replace HW := HW.2
          refine lv_aload_n hx hb dL_law_232 rfl (lv_at hl 0 rfl) ?_
          refine lv_iload_n hx hb dL_law_233 rfl (lv_at hl 3 rfl) ?_
          refine lv_iconst (v := 3) hx hb dL_law_234 (by decide) ?_
          refine lv_iadd hx hb dL_law_235 ?_
          refine va_sld hx hb hX hbl hbA hG.2.2 HW.1 dL_law_236 ?_
          replace HW := HW.2
          refine lv_aload_n hx hb dL_law_237 rfl (lv_at hl 0 rfl) ?_
          refine lv_iload_n hx hb dL_law_238 rfl (lv_at hl 3 rfl) ?_
          refine lv_iconst (v := 4) hx hb dL_law_239 (by decide) ?_
          refine lv_iadd hx hb dL_law_240 ?_
          refine va_sld hx hb hX hbl hbA hG.2.2 HW.1 dL_law_241 ?_
          replace HW := HW.2
          obtain ⟨P_242, HC_242, HW⟩ := HW
          refine g_calli (g_runV (As := [.int (xs (x3 + (1 : Int32)).toNatClampNeg), .int (xs (x3 + (2 : Int32)).toNatClampNeg), .int (xs (x3 + (3 : Int32)).toNatClampNeg), .int (xs (x3 + (4 : Int32)).toNatClampNeg)]) (rest := []) ⟨hx, hb, hml, hown, hw⟩ (m_X11_part l D cy ad h_217 g_217 H.size (xs (x3 + (1 : Int32)).toNatClampNeg) (xs (x3 + (2 : Int32)).toNatClampNeg) (xs (x3 + (3 : Int32)).toNatClampNeg) (xs (x3 + (4 : Int32)).toNatClampNeg) P_242 HC_242) (cwV 4 hw (gd_VL (wm5 106 rfl rfl) (wm5 107 rfl rfl) (wm5 108 rfl rfl) (wm1 13 rfl rfl) (wm5 109 rfl rfl)) rfl rfl rfl (by decide +kernel) ⟨Nat.le_of_ble_eq_true rfl, Nat.le_of_ble_eq_true rfl⟩) hK hNw hG gl_135 rfl gk_135 (by decide) rfl rfl hl.1 rfl (lv_room (Nat.le_of_ble_eq_true rfl)) dL_law_242 ⟨hC0, hS0⟩) hG (fun r_242 h_242 g_242 H locs hq hG => ?_)
          replace HW := HW r_242 h_242 g_242 hq
          refine lv_pop hx hb dL_law_245 rfl ?_
          refine lv_goto (tgt := 1451) hx hb dL_law_246 (by decide) ?_
          exact B1451 K18 hK18 x3 h_242 g_242 _ _ _ HW hG (lv_sub hl [0, 1, 2, 3] rfl)
        · by_cases c_33_1 : ((xs x3.toNatClampNeg) &&& (63 : Int32)) = 1
          · replace HW := HW.2.1 c_33_1
            refine lv_tableIn (tgt := 249) (off := 216) hx hb dL_law_33 (by rw [c_33_1]; first | done | decide) (by rw [c_33_1]; first | done | decide) (by rw [c_33_1]; first | done | rfl) (by decide) ?_
            refine lv_aload_n hx hb dL_law_249 rfl (lv_at hl 1 rfl) ?_
            refine lv_aload_n hx hb dL_law_250 rfl (lv_at hl 0 rfl) ?_
            refine lv_iload_n hx hb dL_law_251 rfl (lv_at hl 3 rfl) ?_
            refine lv_iconst (v := 1) hx hb dL_law_252 (by decide) ?_
            refine lv_iadd hx hb dL_law_253 ?_
            refine va_sld hx hb hX hbl hbA hG.2.2 HW.1 dL_law_254 ?_
            replace HW := HW.2
            refine lv_aload_n hx hb dL_law_255 rfl (lv_at hl 0 rfl) ?_
            refine lv_iload_n hx hb dL_law_256 rfl (lv_at hl 3 rfl) ?_
            refine lv_iconst (v := 2) hx hb dL_law_257 (by decide) ?_
            refine lv_iadd hx hb dL_law_258 ?_
            refine va_sld hx hb hX hbl hbA hG.2.2 HW.1 dL_law_259 ?_
            replace HW := HW.2
            refine lv_aload_n hx hb dL_law_260 rfl (lv_at hl 0 rfl) ?_
            refine lv_iload_n hx hb dL_law_261 rfl (lv_at hl 3 rfl) ?_
            refine lv_iconst (v := 3) hx hb dL_law_262 (by decide) ?_
            refine lv_iadd hx hb dL_law_263 ?_
            refine va_sld hx hb hX hbl hbA hG.2.2 HW.1 dL_law_264 ?_
            replace HW := HW.2
            refine lv_aload_n hx hb dL_law_265 rfl (lv_at hl 0 rfl) ?_
            refine lv_iload_n hx hb dL_law_266 rfl (lv_at hl 3 rfl) ?_
            refine lv_iconst (v := 4) hx hb dL_law_267 (by decide) ?_
            refine lv_iadd hx hb dL_law_268 ?_
            refine va_sld hx hb hX hbl hbA hG.2.2 HW.1 dL_law_269 ?_
            replace HW := HW.2
            obtain ⟨P_270, HC_270, HW⟩ := HW
            refine g_calli (g_runV (As := [.int (xs (x3 + (1 : Int32)).toNatClampNeg), .int (xs (x3 + (2 : Int32)).toNatClampNeg), .int (xs (x3 + (3 : Int32)).toNatClampNeg), .int (xs (x3 + (4 : Int32)).toNatClampNeg)]) (rest := []) ⟨hx, hb, hml, hown, hw⟩ (m_X10_family l D cy ad h g H.size (xs (x3 + (1 : Int32)).toNatClampNeg) (xs (x3 + (2 : Int32)).toNatClampNeg) (xs (x3 + (3 : Int32)).toNatClampNeg) (xs (x3 + (4 : Int32)).toNatClampNeg) P_270 HC_270) (cwV 4 hw (gd_VL (wm2 197 rfl rfl) (wm2 198 rfl rfl) (wm2 199 rfl rfl) (wm1 1 rfl rfl) (wm2 200 rfl rfl)) rfl rfl rfl (by decide +kernel) ⟨Nat.le_of_ble_eq_true rfl, Nat.le_of_ble_eq_true rfl⟩) hK hNw hG gl_0 rfl gk_0 (by decide) rfl rfl hl.1 rfl (lv_room (Nat.le_of_ble_eq_true rfl)) dL_law_270 ⟨hC0, hS0⟩) hG (fun r_270 h_270 g_270 H locs hq hG => ?_)
            replace HW := HW r_270 h_270 g_270 hq
            refine lv_pop hx hb dL_law_273 rfl ?_
            refine lv_aload_n hx hb dL_law_274 rfl (lv_at hl 2 rfl) ?_
            refine lv_aload_n hx hb dL_law_275 rfl (lv_at hl 0 rfl) ?_
            refine lv_iload_n hx hb dL_law_276 rfl (lv_at hl 3 rfl) ?_
            refine lv_iconst (v := 1) hx hb dL_law_277 (by decide) ?_
            refine lv_iadd hx hb dL_law_278 ?_
            refine va_sld hx hb hX hbl hbA hG.2.2 HW.1 dL_law_279 ?_
            replace HW := HW.2
            refine lv_aload_n hx hb dL_law_280 rfl (lv_at hl 0 rfl) ?_
            refine lv_iload_n hx hb dL_law_281 rfl (lv_at hl 3 rfl) ?_
            refine lv_iconst (v := 2) hx hb dL_law_282 (by decide) ?_
            refine lv_iadd hx hb dL_law_283 ?_
            refine va_sld hx hb hX hbl hbA hG.2.2 HW.1 dL_law_284 ?_
            replace HW := HW.2
            refine lv_aload_n hx hb dL_law_285 rfl (lv_at hl 0 rfl) ?_
            refine lv_iload_n hx hb dL_law_286 rfl (lv_at hl 3 rfl) ?_
            refine lv_iconst (v := 3) hx hb dL_law_287 (by decide) ?_
            refine lv_iadd hx hb dL_law_288 ?_
            refine va_sld hx hb hX hbl hbA hG.2.2 HW.1 dL_law_289 ?_
            replace HW := HW.2
            refine lv_aload_n hx hb dL_law_290 rfl (lv_at hl 0 rfl) ?_
            refine lv_iload_n hx hb dL_law_291 rfl (lv_at hl 3 rfl) ?_
            refine lv_iconst (v := 4) hx hb dL_law_292 (by decide) ?_
            refine lv_iadd hx hb dL_law_293 ?_
            refine va_sld hx hb hX hbl hbA hG.2.2 HW.1 dL_law_294 ?_
            replace HW := HW.2
            obtain ⟨P_295, HC_295, HW⟩ := HW
            refine g_calli (g_runV (As := [.int (xs (x3 + (1 : Int32)).toNatClampNeg), .int (xs (x3 + (2 : Int32)).toNatClampNeg), .int (xs (x3 + (3 : Int32)).toNatClampNeg), .int (xs (x3 + (4 : Int32)).toNatClampNeg)]) (rest := []) ⟨hx, hb, hml, hown, hw⟩ (m_X11_family l D cy ad h_270 g_270 H.size (xs (x3 + (1 : Int32)).toNatClampNeg) (xs (x3 + (2 : Int32)).toNatClampNeg) (xs (x3 + (3 : Int32)).toNatClampNeg) (xs (x3 + (4 : Int32)).toNatClampNeg) P_295 HC_295) (cwV 4 hw (gd_VL (wm5 124 rfl rfl) (wm5 125 rfl rfl) (wm5 126 rfl rfl) (wm1 13 rfl rfl) (wm5 127 rfl rfl)) rfl rfl rfl (by decide +kernel) ⟨Nat.le_of_ble_eq_true rfl, Nat.le_of_ble_eq_true rfl⟩) hK hNw hG gl_135 rfl gk_135 (by decide) rfl rfl hl.1 rfl (lv_room (Nat.le_of_ble_eq_true rfl)) dL_law_295 ⟨hC0, hS0⟩) hG (fun r_295 h_295 g_295 H locs hq hG => ?_)
            replace HW := HW r_295 h_295 g_295 hq
            refine lv_pop hx hb dL_law_298 rfl ?_
            refine lv_goto (tgt := 1451) hx hb dL_law_299 (by decide) ?_
            exact B1451 K18 hK18 x3 h_295 g_295 _ _ _ HW hG (lv_sub hl [0, 1, 2, 3] rfl)
          · by_cases c_33_2 : ((xs x3.toNatClampNeg) &&& (63 : Int32)) = 2
            · replace HW := HW.2.2.1 c_33_2
              refine lv_tableIn (tgt := 302) (off := 269) hx hb dL_law_33 (by rw [c_33_2]; first | done | decide) (by rw [c_33_2]; first | done | decide) (by rw [c_33_2]; first | done | rfl) (by decide) ?_
              refine lv_aload_n hx hb dL_law_302 rfl (lv_at hl 1 rfl) ?_
              refine lv_aload_n hx hb dL_law_303 rfl (lv_at hl 0 rfl) ?_
              refine lv_iload_n hx hb dL_law_304 rfl (lv_at hl 3 rfl) ?_
              refine lv_iconst (v := 1) hx hb dL_law_305 (by decide) ?_
              refine lv_iadd hx hb dL_law_306 ?_
              refine va_sld hx hb hX hbl hbA hG.2.2 HW.1 dL_law_307 ?_
              replace HW := HW.2
              obtain ⟨P_308, HC_308, HW⟩ := HW
              refine g_calli (g_runV (As := [.int (xs (x3 + (1 : Int32)).toNatClampNeg)]) (rest := []) ⟨hx, hb, hml, hown, hw⟩ (m_X10_write l D cy ad h g H.size (xs (x3 + (1 : Int32)).toNatClampNeg) P_308 HC_308) (cwV 1 hw (gd_VL (wm2 208 rfl rfl) (wm2 209 rfl rfl) (wm2 210 rfl rfl) (wm1 1 rfl rfl) (wm2 211 rfl rfl)) rfl rfl rfl (by decide +kernel) ⟨Nat.le_of_ble_eq_true rfl, Nat.le_of_ble_eq_true rfl⟩) hK hNw hG gl_0 rfl gk_0 (by decide) rfl rfl hl.1 rfl (lv_room (Nat.le_of_ble_eq_true rfl)) dL_law_308 ⟨hC0, hS0⟩) hG (fun r_308 h_308 g_308 H locs hq hG => ?_)
              replace HW := HW r_308 h_308 g_308 hq
              refine lv_pop hx hb dL_law_311 rfl ?_
              refine lv_aload_n hx hb dL_law_312 rfl (lv_at hl 2 rfl) ?_
              refine lv_aload_n hx hb dL_law_313 rfl (lv_at hl 0 rfl) ?_
              refine lv_iload_n hx hb dL_law_314 rfl (lv_at hl 3 rfl) ?_
              refine lv_iconst (v := 1) hx hb dL_law_315 (by decide) ?_
              refine lv_iadd hx hb dL_law_316 ?_
              refine va_sld hx hb hX hbl hbA hG.2.2 HW.1 dL_law_317 ?_
              replace HW := HW.2
              obtain ⟨P_318, HC_318, HW⟩ := HW
              refine g_calli (g_runV (As := [.int (xs (x3 + (1 : Int32)).toNatClampNeg)]) (rest := []) ⟨hx, hb, hml, hown, hw⟩ (m_X11_write l D cy ad h_308 g_308 H.size (xs (x3 + (1 : Int32)).toNatClampNeg) P_318 HC_318) (cwV 1 hw (gd_VL (wm5 132 rfl rfl) (wm5 133 rfl rfl) (wm5 134 rfl rfl) (wm1 13 rfl rfl) (wm5 135 rfl rfl)) rfl rfl rfl (by decide +kernel) ⟨Nat.le_of_ble_eq_true rfl, Nat.le_of_ble_eq_true rfl⟩) hK hNw hG gl_135 rfl gk_135 (by decide) rfl rfl hl.1 rfl (lv_room (Nat.le_of_ble_eq_true rfl)) dL_law_318 ⟨hC0, hS0⟩) hG (fun r_318 h_318 g_318 H locs hq hG => ?_)
              replace HW := HW r_318 h_318 g_318 hq
              refine lv_pop hx hb dL_law_321 rfl ?_
              refine lv_goto (tgt := 1451) hx hb dL_law_322 (by decide) ?_
              exact B1451 K18 hK18 x3 h_318 g_318 _ _ _ HW hG (lv_sub hl [0, 1, 2, 3] rfl)
            · by_cases c_33_3 : ((xs x3.toNatClampNeg) &&& (63 : Int32)) = 3
              · replace HW := HW.2.2.2.1 c_33_3
                refine lv_tableIn (tgt := 325) (off := 292) hx hb dL_law_33 (by rw [c_33_3]; first | done | decide) (by rw [c_33_3]; first | done | decide) (by rw [c_33_3]; first | done | rfl) (by decide) ?_
                refine lv_aload_n hx hb dL_law_325 rfl (lv_at hl 1 rfl) ?_
                obtain ⟨P_326, HC_326, HW⟩ := HW
                refine g_calli (g_runV (As := []) (rest := []) ⟨hx, hb, hml, hown, hw⟩ (m_X10_erase l D cy ad h g H.size  P_326 HC_326) (cwV 0 hw (gd_VL (wm3 20 rfl rfl) (wm3 21 rfl rfl) (wm3 22 rfl rfl) (wm1 1 rfl rfl) (wm3 23 rfl rfl)) rfl rfl rfl (by decide +kernel) ⟨Nat.le_of_ble_eq_true rfl, Nat.le_of_ble_eq_true rfl⟩) hK hNw hG gl_0 rfl gk_0 (by decide) rfl rfl hl.1 rfl (lv_room (Nat.le_of_ble_eq_true rfl)) dL_law_326 ⟨hC0, hS0⟩) hG (fun r_326 h_326 g_326 H locs hq hG => ?_)
                replace HW := HW r_326 h_326 g_326 hq
                refine lv_pop hx hb dL_law_329 rfl ?_
                refine lv_aload_n hx hb dL_law_330 rfl (lv_at hl 2 rfl) ?_
                obtain ⟨P_331, HC_331, HW⟩ := HW
                refine g_calli (g_runV (As := []) (rest := []) ⟨hx, hb, hml, hown, hw⟩ (m_X11_erase l D cy ad h_326 g_326 H.size  P_331 HC_331) (cwV 0 hw (gd_VL (wm5 137 rfl rfl) (wm5 138 rfl rfl) (wm5 139 rfl rfl) (wm1 13 rfl rfl) (wm5 140 rfl rfl)) rfl rfl rfl (by decide +kernel) ⟨Nat.le_of_ble_eq_true rfl, Nat.le_of_ble_eq_true rfl⟩) hK hNw hG gl_135 rfl gk_135 (by decide) rfl rfl hl.1 rfl (lv_room (Nat.le_of_ble_eq_true rfl)) dL_law_331 ⟨hC0, hS0⟩) hG (fun r_331 h_331 g_331 H locs hq hG => ?_)
                replace HW := HW r_331 h_331 g_331 hq
                refine lv_pop hx hb dL_law_334 rfl ?_
                refine lv_goto (tgt := 1451) hx hb dL_law_335 (by decide) ?_
                exact B1451 K18 hK18 x3 h_331 g_331 _ _ _ HW hG (lv_sub hl [0, 1, 2, 3] rfl)
              · by_cases c_33_4 : ((xs x3.toNatClampNeg) &&& (63 : Int32)) = 4
                · replace HW := HW.2.2.2.2.1 c_33_4
                  refine lv_tableIn (tgt := 338) (off := 305) hx hb dL_law_33 (by rw [c_33_4]; first | done | decide) (by rw [c_33_4]; first | done | decide) (by rw [c_33_4]; first | done | rfl) (by decide) ?_
                  refine lv_aload_n hx hb dL_law_338 rfl (lv_at hl 1 rfl) ?_
                  obtain ⟨P_339, HC_339, HW⟩ := HW
                  refine g_calli (g_runV (As := []) (rest := []) ⟨hx, hb, hml, hown, hw⟩ (m_X10_fault l D cy ad h g H.size  P_339 HC_339) (cwV 0 hw (gd_VL (wm3 28 rfl rfl) (wm3 29 rfl rfl) (wm3 30 rfl rfl) (wm1 1 rfl rfl) (wm3 31 rfl rfl)) rfl rfl rfl (by decide +kernel) ⟨Nat.le_of_ble_eq_true rfl, Nat.le_of_ble_eq_true rfl⟩) hK hNw hG gl_0 rfl gk_0 (by decide) rfl rfl hl.1 rfl (lv_room (Nat.le_of_ble_eq_true rfl)) dL_law_339 ⟨hC0, hS0⟩) hG (fun r_339 h_339 g_339 H locs hq hG => ?_)
                  replace HW := HW r_339 h_339 g_339 hq
                  refine lv_pop hx hb dL_law_342 rfl ?_
                  refine lv_aload_n hx hb dL_law_343 rfl (lv_at hl 2 rfl) ?_
                  obtain ⟨P_344, HC_344, HW⟩ := HW
                  refine g_calli (g_runV (As := []) (rest := []) ⟨hx, hb, hml, hown, hw⟩ (m_X11_fault l D cy ad h_339 g_339 H.size  P_344 HC_344) (cwV 0 hw (gd_VL (wm5 145 rfl rfl) (wm5 146 rfl rfl) (wm5 147 rfl rfl) (wm1 13 rfl rfl) (wm5 148 rfl rfl)) rfl rfl rfl (by decide +kernel) ⟨Nat.le_of_ble_eq_true rfl, Nat.le_of_ble_eq_true rfl⟩) hK hNw hG gl_135 rfl gk_135 (by decide) rfl rfl hl.1 rfl (lv_room (Nat.le_of_ble_eq_true rfl)) dL_law_344 ⟨hC0, hS0⟩) hG (fun r_344 h_344 g_344 H locs hq hG => ?_)
                  replace HW := HW r_344 h_344 g_344 hq
                  refine lv_pop hx hb dL_law_347 rfl ?_
                  refine lv_goto (tgt := 1451) hx hb dL_law_348 (by decide) ?_
                  exact B1451 K18 hK18 x3 h_344 g_344 _ _ _ HW hG (lv_sub hl [0, 1, 2, 3] rfl)
                · by_cases c_33_5 : ((xs x3.toNatClampNeg) &&& (63 : Int32)) = 5
                  · replace HW := HW.2.2.2.2.2.1 c_33_5
                    refine lv_tableIn (tgt := 351) (off := 318) hx hb dL_law_33 (by rw [c_33_5]; first | done | decide) (by rw [c_33_5]; first | done | decide) (by rw [c_33_5]; first | done | rfl) (by decide) ?_
                    refine lv_aload_n hx hb dL_law_351 rfl (lv_at hl 1 rfl) ?_
                    refine lv_aload_n hx hb dL_law_352 rfl (lv_at hl 0 rfl) ?_
                    refine lv_iload_n hx hb dL_law_353 rfl (lv_at hl 3 rfl) ?_
                    refine lv_iconst (v := 1) hx hb dL_law_354 (by decide) ?_
                    refine lv_iadd hx hb dL_law_355 ?_
                    refine va_sld hx hb hX hbl hbA hG.2.2 HW.1 dL_law_356 ?_
                    replace HW := HW.2
                    refine lv_aload_n hx hb dL_law_357 rfl (lv_at hl 0 rfl) ?_
                    refine lv_iload_n hx hb dL_law_358 rfl (lv_at hl 3 rfl) ?_
                    refine lv_iconst (v := 2) hx hb dL_law_359 (by decide) ?_
                    refine lv_iadd hx hb dL_law_360 ?_
                    refine va_sld hx hb hX hbl hbA hG.2.2 HW.1 dL_law_361 ?_
                    replace HW := HW.2
                    obtain ⟨P_362, HC_362, HW⟩ := HW
                    refine g_calli (g_runV (As := [.int (xs (x3 + (1 : Int32)).toNatClampNeg), .int (xs (x3 + (2 : Int32)).toNatClampNeg)]) (rest := []) ⟨hx, hb, hml, hown, hw⟩ (m_X10_worn l D cy ad h g H.size (xs (x3 + (1 : Int32)).toNatClampNeg) (xs (x3 + (2 : Int32)).toNatClampNeg) P_362 HC_362) (cwV 2 hw (gd_VL (wm3 36 rfl rfl) (wm3 37 rfl rfl) (wm3 38 rfl rfl) (wm1 1 rfl rfl) (wm3 39 rfl rfl)) rfl rfl rfl (by decide +kernel) ⟨Nat.le_of_ble_eq_true rfl, Nat.le_of_ble_eq_true rfl⟩) hK hNw hG gl_0 rfl gk_0 (by decide) rfl rfl hl.1 rfl (lv_room (Nat.le_of_ble_eq_true rfl)) dL_law_362 ⟨hC0, hS0⟩) hG (fun r_362 h_362 g_362 H locs hq hG => ?_)
                    replace HW := HW r_362 h_362 g_362 hq
                    refine lv_pop hx hb dL_law_365 rfl ?_
                    refine lv_aload_n hx hb dL_law_366 rfl (lv_at hl 2 rfl) ?_
                    refine lv_aload_n hx hb dL_law_367 rfl (lv_at hl 0 rfl) ?_
                    refine lv_iload_n hx hb dL_law_368 rfl (lv_at hl 3 rfl) ?_
                    refine lv_iconst (v := 1) hx hb dL_law_369 (by decide) ?_
                    refine lv_iadd hx hb dL_law_370 ?_
                    refine va_sld hx hb hX hbl hbA hG.2.2 HW.1 dL_law_371 ?_
                    replace HW := HW.2
                    refine lv_aload_n hx hb dL_law_372 rfl (lv_at hl 0 rfl) ?_
                    refine lv_iload_n hx hb dL_law_373 rfl (lv_at hl 3 rfl) ?_
                    refine lv_iconst (v := 2) hx hb dL_law_374 (by decide) ?_
                    refine lv_iadd hx hb dL_law_375 ?_
                    refine va_sld hx hb hX hbl hbA hG.2.2 HW.1 dL_law_376 ?_
                    replace HW := HW.2
                    obtain ⟨P_377, HC_377, HW⟩ := HW
                    refine g_calli (g_runV (As := [.int (xs (x3 + (1 : Int32)).toNatClampNeg), .int (xs (x3 + (2 : Int32)).toNatClampNeg)]) (rest := []) ⟨hx, hb, hml, hown, hw⟩ (m_X11_worn l D cy ad h_362 g_362 H.size (xs (x3 + (1 : Int32)).toNatClampNeg) (xs (x3 + (2 : Int32)).toNatClampNeg) P_377 HC_377) (cwV 2 hw (gd_VL (wm5 180 rfl rfl) (wm5 181 rfl rfl) (wm5 182 rfl rfl) (wm1 13 rfl rfl) (wm5 183 rfl rfl)) rfl rfl rfl (by decide +kernel) ⟨Nat.le_of_ble_eq_true rfl, Nat.le_of_ble_eq_true rfl⟩) hK hNw hG gl_135 rfl gk_135 (by decide) rfl rfl hl.1 rfl (lv_room (Nat.le_of_ble_eq_true rfl)) dL_law_377 ⟨hC0, hS0⟩) hG (fun r_377 h_377 g_377 H locs hq hG => ?_)
                    replace HW := HW r_377 h_377 g_377 hq
                    refine lv_pop hx hb dL_law_380 rfl ?_
                    refine lv_goto (tgt := 1451) hx hb dL_law_381 (by decide) ?_
                    exact B1451 K18 hK18 x3 h_377 g_377 _ _ _ HW hG (lv_sub hl [0, 1, 2, 3] rfl)
                  · by_cases c_33_6 : ((xs x3.toNatClampNeg) &&& (63 : Int32)) = 6
                    · replace HW := HW.2.2.2.2.2.2.1 c_33_6
                      refine lv_tableIn (tgt := 384) (off := 351) hx hb dL_law_33 (by rw [c_33_6]; first | done | decide) (by rw [c_33_6]; first | done | decide) (by rw [c_33_6]; first | done | rfl) (by decide) ?_
                      refine lv_aload_n hx hb dL_law_384 rfl (lv_at hl 1 rfl) ?_
                      refine lv_aload_n hx hb dL_law_385 rfl (lv_at hl 0 rfl) ?_
                      refine lv_iload_n hx hb dL_law_386 rfl (lv_at hl 3 rfl) ?_
                      refine lv_iconst (v := 1) hx hb dL_law_387 (by decide) ?_
                      refine lv_iadd hx hb dL_law_388 ?_
                      refine va_sld hx hb hX hbl hbA hG.2.2 HW.1 dL_law_389 ?_
                      replace HW := HW.2
                      refine lv_aload_n hx hb dL_law_390 rfl (lv_at hl 0 rfl) ?_
                      refine lv_iload_n hx hb dL_law_391 rfl (lv_at hl 3 rfl) ?_
                      refine lv_iconst (v := 2) hx hb dL_law_392 (by decide) ?_
                      refine lv_iadd hx hb dL_law_393 ?_
                      refine va_sld hx hb hX hbl hbA hG.2.2 HW.1 dL_law_394 ?_
                      replace HW := HW.2
                      refine lv_aload_n hx hb dL_law_395 rfl (lv_at hl 0 rfl) ?_
                      refine lv_iload_n hx hb dL_law_396 rfl (lv_at hl 3 rfl) ?_
                      refine lv_iconst (v := 3) hx hb dL_law_397 (by decide) ?_
                      refine lv_iadd hx hb dL_law_398 ?_
                      refine va_sld hx hb hX hbl hbA hG.2.2 HW.1 dL_law_399 ?_
                      replace HW := HW.2
                      refine lv_aload_n hx hb dL_law_400 rfl (lv_at hl 0 rfl) ?_
                      refine lv_iload_n hx hb dL_law_401 rfl (lv_at hl 3 rfl) ?_
                      refine lv_iconst (v := 4) hx hb dL_law_402 (by decide) ?_
                      refine lv_iadd hx hb dL_law_403 ?_
                      refine va_sld hx hb hX hbl hbA hG.2.2 HW.1 dL_law_404 ?_
                      replace HW := HW.2
                      refine lv_aload_n hx hb dL_law_405 rfl (lv_at hl 0 rfl) ?_
                      refine lv_iload_n hx hb dL_law_406 rfl (lv_at hl 3 rfl) ?_
                      refine lv_iconst (v := 5) hx hb dL_law_407 (by decide) ?_
                      refine lv_iadd hx hb dL_law_408 ?_
                      refine va_sld hx hb hX hbl hbA hG.2.2 HW.1 dL_law_409 ?_
                      replace HW := HW.2
                      obtain ⟨P_410, HC_410, HW⟩ := HW
                      refine g_calli (g_runV (As := [.int (xs (x3 + (1 : Int32)).toNatClampNeg), .int (xs (x3 + (2 : Int32)).toNatClampNeg), .int (xs (x3 + (3 : Int32)).toNatClampNeg), .int (xs (x3 + (4 : Int32)).toNatClampNeg), .int (xs (x3 + (5 : Int32)).toNatClampNeg)]) (rest := []) ⟨hx, hb, hml, hown, hw⟩ (m_X10_say l D cy ad h g H.size (xs (x3 + (1 : Int32)).toNatClampNeg) (xs (x3 + (2 : Int32)).toNatClampNeg) (xs (x3 + (3 : Int32)).toNatClampNeg) (xs (x3 + (4 : Int32)).toNatClampNeg) (xs (x3 + (5 : Int32)).toNatClampNeg) P_410 HC_410) (cwV 5 hw (gd_VL (wm3 61 rfl rfl) (wm3 62 rfl rfl) (wm3 63 rfl rfl) (wm1 1 rfl rfl) (wm3 64 rfl rfl)) rfl rfl rfl (by decide +kernel) ⟨Nat.le_of_ble_eq_true rfl, Nat.le_of_ble_eq_true rfl⟩) hK hNw hG gl_0 rfl gk_0 (by decide) rfl rfl hl.1 rfl (lv_room (Nat.le_of_ble_eq_true rfl)) dL_law_410 ⟨hC0, hS0⟩) hG (fun r_410 h_410 g_410 H locs hq hG => ?_)
                      replace HW := HW r_410 h_410 g_410 hq
                      refine lv_pop hx hb dL_law_413 rfl ?_
                      refine lv_aload_n hx hb dL_law_414 rfl (lv_at hl 2 rfl) ?_
                      refine lv_aload_n hx hb dL_law_415 rfl (lv_at hl 0 rfl) ?_
                      refine lv_iload_n hx hb dL_law_416 rfl (lv_at hl 3 rfl) ?_
                      refine lv_iconst (v := 1) hx hb dL_law_417 (by decide) ?_
                      refine lv_iadd hx hb dL_law_418 ?_
                      refine va_sld hx hb hX hbl hbA hG.2.2 HW.1 dL_law_419 ?_
                      replace HW := HW.2
                      refine lv_aload_n hx hb dL_law_420 rfl (lv_at hl 0 rfl) ?_
                      refine lv_iload_n hx hb dL_law_421 rfl (lv_at hl 3 rfl) ?_
                      refine lv_iconst (v := 2) hx hb dL_law_422 (by decide) ?_
                      refine lv_iadd hx hb dL_law_423 ?_
                      refine va_sld hx hb hX hbl hbA hG.2.2 HW.1 dL_law_424 ?_
                      replace HW := HW.2
                      refine lv_aload_n hx hb dL_law_425 rfl (lv_at hl 0 rfl) ?_
                      refine lv_iload_n hx hb dL_law_426 rfl (lv_at hl 3 rfl) ?_
                      refine lv_iconst (v := 3) hx hb dL_law_427 (by decide) ?_
                      refine lv_iadd hx hb dL_law_428 ?_
                      refine va_sld hx hb hX hbl hbA hG.2.2 HW.1 dL_law_429 ?_
                      replace HW := HW.2
                      refine lv_aload_n hx hb dL_law_430 rfl (lv_at hl 0 rfl) ?_
                      refine lv_iload_n hx hb dL_law_431 rfl (lv_at hl 3 rfl) ?_
                      refine lv_iconst (v := 4) hx hb dL_law_432 (by decide) ?_
                      refine lv_iadd hx hb dL_law_433 ?_
                      refine va_sld hx hb hX hbl hbA hG.2.2 HW.1 dL_law_434 ?_
                      replace HW := HW.2
                      refine lv_aload_n hx hb dL_law_435 rfl (lv_at hl 0 rfl) ?_
                      refine lv_iload_n hx hb dL_law_436 rfl (lv_at hl 3 rfl) ?_
                      refine lv_iconst (v := 5) hx hb dL_law_437 (by decide) ?_
                      refine lv_iadd hx hb dL_law_438 ?_
                      refine va_sld hx hb hX hbl hbA hG.2.2 HW.1 dL_law_439 ?_
                      replace HW := HW.2
                      obtain ⟨P_440, HC_440, HW⟩ := HW
                      refine g_calli (g_runV (As := [.int (xs (x3 + (1 : Int32)).toNatClampNeg), .int (xs (x3 + (2 : Int32)).toNatClampNeg), .int (xs (x3 + (3 : Int32)).toNatClampNeg), .int (xs (x3 + (4 : Int32)).toNatClampNeg), .int (xs (x3 + (5 : Int32)).toNatClampNeg)]) (rest := []) ⟨hx, hb, hml, hown, hw⟩ (m_X11_say l D cy ad h_410 g_410 H.size (xs (x3 + (1 : Int32)).toNatClampNeg) (xs (x3 + (2 : Int32)).toNatClampNeg) (xs (x3 + (3 : Int32)).toNatClampNeg) (xs (x3 + (4 : Int32)).toNatClampNeg) (xs (x3 + (5 : Int32)).toNatClampNeg) P_440 HC_440) (cwV 5 hw (gd_VL (wm5 204 rfl rfl) (wm5 205 rfl rfl) (wm5 206 rfl rfl) (wm1 13 rfl rfl) (wm5 207 rfl rfl)) rfl rfl rfl (by decide +kernel) ⟨Nat.le_of_ble_eq_true rfl, Nat.le_of_ble_eq_true rfl⟩) hK hNw hG gl_135 rfl gk_135 (by decide) rfl rfl hl.1 rfl (lv_room (Nat.le_of_ble_eq_true rfl)) dL_law_440 ⟨hC0, hS0⟩) hG (fun r_440 h_440 g_440 H locs hq hG => ?_)
                      replace HW := HW r_440 h_440 g_440 hq
                      refine lv_pop hx hb dL_law_443 rfl ?_
                      refine lv_goto (tgt := 1451) hx hb dL_law_444 (by decide) ?_
                      exact B1451 K18 hK18 x3 h_440 g_440 _ _ _ HW hG (lv_sub hl [0, 1, 2, 3] rfl)
                    · by_cases c_33_7 : ((xs x3.toNatClampNeg) &&& (63 : Int32)) = 7
                      · replace HW := HW.2.2.2.2.2.2.2.1 c_33_7
                        refine lv_tableIn (tgt := 447) (off := 414) hx hb dL_law_33 (by rw [c_33_7]; first | done | decide) (by rw [c_33_7]; first | done | decide) (by rw [c_33_7]; first | done | rfl) (by decide) ?_
                        refine lv_aload_n hx hb dL_law_447 rfl (lv_at hl 1 rfl) ?_
                        refine lv_aload_n hx hb dL_law_448 rfl (lv_at hl 0 rfl) ?_
                        refine lv_iload_n hx hb dL_law_449 rfl (lv_at hl 3 rfl) ?_
                        refine lv_iconst (v := 1) hx hb dL_law_450 (by decide) ?_
                        refine lv_iadd hx hb dL_law_451 ?_
                        refine va_sld hx hb hX hbl hbA hG.2.2 HW.1 dL_law_452 ?_
                        replace HW := HW.2
                        refine lv_aload_n hx hb dL_law_453 rfl (lv_at hl 0 rfl) ?_
                        refine lv_iload_n hx hb dL_law_454 rfl (lv_at hl 3 rfl) ?_
                        refine lv_iconst (v := 2) hx hb dL_law_455 (by decide) ?_
                        refine lv_iadd hx hb dL_law_456 ?_
                        refine va_sld hx hb hX hbl hbA hG.2.2 HW.1 dL_law_457 ?_
                        replace HW := HW.2
                        refine lv_if_eq (tgt := 465) hx hb dL_law_458 (by decide) (fun c_458 => ?_) (fun c_458 => ?_)
                        · replace HW := HW.1 c_458
                          refine lv_iconst (v := 0) hx hb dL_law_465 (by decide) ?_
                          exact B466 K18 hK18 x3 (xs (x3 + (1 : Int32)).toNatClampNeg) (0 : Int32) h g _ _ _ HW hG (lv_sub hl [0, 1, 2, 3] rfl)
                        · replace HW := HW.2 c_458
                          refine lv_iconst (v := 1) hx hb dL_law_461 (by decide) ?_
                          refine lv_goto (tgt := 466) hx hb dL_law_462 (by decide) ?_
                          exact B466 K18 hK18 x3 (xs (x3 + (1 : Int32)).toNatClampNeg) (1 : Int32) h g _ _ _ HW hG (lv_sub hl [0, 1, 2, 3] rfl)
                      · by_cases c_33_8 : ((xs x3.toNatClampNeg) &&& (63 : Int32)) = 8
                        · replace HW := HW.2.2.2.2.2.2.2.2.1 c_33_8
                          refine lv_tableIn (tgt := 496) (off := 463) hx hb dL_law_33 (by rw [c_33_8]; first | done | decide) (by rw [c_33_8]; first | done | decide) (by rw [c_33_8]; first | done | rfl) (by decide) ?_
                          refine lv_aload_n hx hb dL_law_496 rfl (lv_at hl 1 rfl) ?_
                          refine lv_aload_n hx hb dL_law_497 rfl (lv_at hl 0 rfl) ?_
                          refine lv_iload_n hx hb dL_law_498 rfl (lv_at hl 3 rfl) ?_
                          refine lv_iconst (v := 1) hx hb dL_law_499 (by decide) ?_
                          refine lv_iadd hx hb dL_law_500 ?_
                          refine va_sld hx hb hX hbl hbA hG.2.2 HW.1 dL_law_501 ?_
                          replace HW := HW.2
                          refine lv_aload_n hx hb dL_law_502 rfl (lv_at hl 0 rfl) ?_
                          refine lv_iload_n hx hb dL_law_503 rfl (lv_at hl 3 rfl) ?_
                          refine lv_iconst (v := 2) hx hb dL_law_504 (by decide) ?_
                          refine lv_iadd hx hb dL_law_505 ?_
                          refine va_sld hx hb hX hbl hbA hG.2.2 HW.1 dL_law_506 ?_
                          replace HW := HW.2
                          obtain ⟨P_507, HC_507, HW⟩ := HW
                          refine g_calli (g_runV (As := [.int (xs (x3 + (1 : Int32)).toNatClampNeg), .int (xs (x3 + (2 : Int32)).toNatClampNeg)]) (rest := []) ⟨hx, hb, hml, hown, hw⟩ (m_X10_first l D cy ad h g H.size (xs (x3 + (1 : Int32)).toNatClampNeg) (xs (x3 + (2 : Int32)).toNatClampNeg) P_507 HC_507) (cwV 2 hw (gd_VL (wm3 70 rfl rfl) (wm3 71 rfl rfl) (wm3 72 rfl rfl) (wm1 1 rfl rfl) (wm3 73 rfl rfl)) rfl rfl rfl (by decide +kernel) ⟨Nat.le_of_ble_eq_true rfl, Nat.le_of_ble_eq_true rfl⟩) hK hNw hG gl_0 rfl gk_0 (by decide) rfl rfl hl.1 rfl (lv_room (Nat.le_of_ble_eq_true rfl)) dL_law_507 ⟨hC0, hS0⟩) hG (fun r_507 h_507 g_507 H locs hq hG => ?_)
                          replace HW := HW r_507 h_507 g_507 hq
                          refine lv_pop hx hb dL_law_510 rfl ?_
                          refine lv_aload_n hx hb dL_law_511 rfl (lv_at hl 2 rfl) ?_
                          refine lv_aload_n hx hb dL_law_512 rfl (lv_at hl 0 rfl) ?_
                          refine lv_iload_n hx hb dL_law_513 rfl (lv_at hl 3 rfl) ?_
                          refine lv_iconst (v := 1) hx hb dL_law_514 (by decide) ?_
                          refine lv_iadd hx hb dL_law_515 ?_
                          refine va_sld hx hb hX hbl hbA hG.2.2 HW.1 dL_law_516 ?_
                          replace HW := HW.2
                          refine lv_aload_n hx hb dL_law_517 rfl (lv_at hl 0 rfl) ?_
                          refine lv_iload_n hx hb dL_law_518 rfl (lv_at hl 3 rfl) ?_
                          refine lv_iconst (v := 2) hx hb dL_law_519 (by decide) ?_
                          refine lv_iadd hx hb dL_law_520 ?_
                          refine va_sld hx hb hX hbl hbA hG.2.2 HW.1 dL_law_521 ?_
                          replace HW := HW.2
                          obtain ⟨P_522, HC_522, HW⟩ := HW
                          refine g_calli (g_runV (As := [.int (xs (x3 + (1 : Int32)).toNatClampNeg), .int (xs (x3 + (2 : Int32)).toNatClampNeg)]) (rest := []) ⟨hx, hb, hml, hown, hw⟩ (m_X11_first l D cy ad h_507 g_507 H.size (xs (x3 + (1 : Int32)).toNatClampNeg) (xs (x3 + (2 : Int32)).toNatClampNeg) P_522 HC_522) (cwV 2 hw (gd_VL (wm5 217 rfl rfl) (wm5 218 rfl rfl) (wm5 219 rfl rfl) (wm1 13 rfl rfl) (wm5 220 rfl rfl)) rfl rfl rfl (by decide +kernel) ⟨Nat.le_of_ble_eq_true rfl, Nat.le_of_ble_eq_true rfl⟩) hK hNw hG gl_135 rfl gk_135 (by decide) rfl rfl hl.1 rfl (lv_room (Nat.le_of_ble_eq_true rfl)) dL_law_522 ⟨hC0, hS0⟩) hG (fun r_522 h_522 g_522 H locs hq hG => ?_)
                          replace HW := HW r_522 h_522 g_522 hq
                          refine lv_pop hx hb dL_law_525 rfl ?_
                          refine lv_goto (tgt := 1451) hx hb dL_law_526 (by decide) ?_
                          exact B1451 K18 hK18 x3 h_522 g_522 _ _ _ HW hG (lv_sub hl [0, 1, 2, 3] rfl)
                        · by_cases c_33_9 : ((xs x3.toNatClampNeg) &&& (63 : Int32)) = 9
                          · replace HW := HW.2.2.2.2.2.2.2.2.2.1 c_33_9
                            refine lv_tableIn (tgt := 529) (off := 496) hx hb dL_law_33 (by rw [c_33_9]; first | done | decide) (by rw [c_33_9]; first | done | decide) (by rw [c_33_9]; first | done | rfl) (by decide) ?_
                            refine lv_aload_n hx hb dL_law_529 rfl (lv_at hl 1 rfl) ?_
                            refine lv_aload_n hx hb dL_law_530 rfl (lv_at hl 0 rfl) ?_
                            refine lv_iload_n hx hb dL_law_531 rfl (lv_at hl 3 rfl) ?_
                            refine lv_iconst (v := 1) hx hb dL_law_532 (by decide) ?_
                            refine lv_iadd hx hb dL_law_533 ?_
                            refine va_sld hx hb hX hbl hbA hG.2.2 HW.1 dL_law_534 ?_
                            replace HW := HW.2
                            refine lv_aload_n hx hb dL_law_535 rfl (lv_at hl 0 rfl) ?_
                            refine lv_iload_n hx hb dL_law_536 rfl (lv_at hl 3 rfl) ?_
                            refine lv_iconst (v := 2) hx hb dL_law_537 (by decide) ?_
                            refine lv_iadd hx hb dL_law_538 ?_
                            refine va_sld hx hb hX hbl hbA hG.2.2 HW.1 dL_law_539 ?_
                            replace HW := HW.2
                            obtain ⟨P_540, HC_540, HW⟩ := HW
                            refine g_calli (g_runV (As := [.int (xs (x3 + (1 : Int32)).toNatClampNeg), .int (xs (x3 + (2 : Int32)).toNatClampNeg)]) (rest := []) ⟨hx, hb, hml, hown, hw⟩ (m_X10_quarrel l D cy ad h g H.size (xs (x3 + (1 : Int32)).toNatClampNeg) (xs (x3 + (2 : Int32)).toNatClampNeg) P_540 HC_540) (cwV 2 hw (gd_VL (wm3 109 rfl rfl) (wm3 110 rfl rfl) (wm3 111 rfl rfl) (wm1 1 rfl rfl) (wm3 112 rfl rfl)) rfl rfl rfl (by decide +kernel) ⟨Nat.le_of_ble_eq_true rfl, Nat.le_of_ble_eq_true rfl⟩) hK hNw hG gl_0 rfl gk_0 (by decide) rfl rfl hl.1 rfl (lv_room (Nat.le_of_ble_eq_true rfl)) dL_law_540 ⟨hC0, hS0⟩) hG (fun r_540 h_540 g_540 H locs hq hG => ?_)
                            replace HW := HW r_540 h_540 g_540 hq
                            refine lv_pop hx hb dL_law_543 rfl ?_
                            refine lv_aload_n hx hb dL_law_544 rfl (lv_at hl 2 rfl) ?_
                            refine lv_aload_n hx hb dL_law_545 rfl (lv_at hl 0 rfl) ?_
                            refine lv_iload_n hx hb dL_law_546 rfl (lv_at hl 3 rfl) ?_
                            refine lv_iconst (v := 1) hx hb dL_law_547 (by decide) ?_
                            refine lv_iadd hx hb dL_law_548 ?_
                            refine va_sld hx hb hX hbl hbA hG.2.2 HW.1 dL_law_549 ?_
                            replace HW := HW.2
                            refine lv_aload_n hx hb dL_law_550 rfl (lv_at hl 0 rfl) ?_
                            refine lv_iload_n hx hb dL_law_551 rfl (lv_at hl 3 rfl) ?_
                            refine lv_iconst (v := 2) hx hb dL_law_552 (by decide) ?_
                            refine lv_iadd hx hb dL_law_553 ?_
                            refine va_sld hx hb hX hbl hbA hG.2.2 HW.1 dL_law_554 ?_
                            replace HW := HW.2
                            obtain ⟨P_555, HC_555, HW⟩ := HW
                            refine g_calli (g_runV (As := [.int (xs (x3 + (1 : Int32)).toNatClampNeg), .int (xs (x3 + (2 : Int32)).toNatClampNeg)]) (rest := []) ⟨hx, hb, hml, hown, hw⟩ (m_X11_quarrel l D cy ad h_540 g_540 H.size (xs (x3 + (1 : Int32)).toNatClampNeg) (xs (x3 + (2 : Int32)).toNatClampNeg) P_555 HC_555) (cwV 2 hw (gd_VL (wm6 8 rfl rfl) (wm6 9 rfl rfl) (wm6 10 rfl rfl) (wm1 13 rfl rfl) (wm6 11 rfl rfl)) rfl rfl rfl (by decide +kernel) ⟨Nat.le_of_ble_eq_true rfl, Nat.le_of_ble_eq_true rfl⟩) hK hNw hG gl_135 rfl gk_135 (by decide) rfl rfl hl.1 rfl (lv_room (Nat.le_of_ble_eq_true rfl)) dL_law_555 ⟨hC0, hS0⟩) hG (fun r_555 h_555 g_555 H locs hq hG => ?_)
                            replace HW := HW r_555 h_555 g_555 hq
                            refine lv_pop hx hb dL_law_558 rfl ?_
                            refine lv_goto (tgt := 1451) hx hb dL_law_559 (by decide) ?_
                            exact B1451 K18 hK18 x3 h_555 g_555 _ _ _ HW hG (lv_sub hl [0, 1, 2, 3] rfl)
                          · by_cases c_33_10 : ((xs x3.toNatClampNeg) &&& (63 : Int32)) = 10
                            · replace HW := HW.2.2.2.2.2.2.2.2.2.2.1 c_33_10
                              refine lv_tableIn (tgt := 562) (off := 529) hx hb dL_law_33 (by rw [c_33_10]; first | done | decide) (by rw [c_33_10]; first | done | decide) (by rw [c_33_10]; first | done | rfl) (by decide) ?_
                              refine lv_aload_n hx hb dL_law_562 rfl (lv_at hl 1 rfl) ?_
                              refine lv_aload_n hx hb dL_law_563 rfl (lv_at hl 0 rfl) ?_
                              refine lv_iload_n hx hb dL_law_564 rfl (lv_at hl 3 rfl) ?_
                              refine lv_iconst (v := 1) hx hb dL_law_565 (by decide) ?_
                              refine lv_iadd hx hb dL_law_566 ?_
                              refine va_sld hx hb hX hbl hbA hG.2.2 HW.1 dL_law_567 ?_
                              replace HW := HW.2
                              refine lv_aload_n hx hb dL_law_568 rfl (lv_at hl 0 rfl) ?_
                              refine lv_iload_n hx hb dL_law_569 rfl (lv_at hl 3 rfl) ?_
                              refine lv_iconst (v := 2) hx hb dL_law_570 (by decide) ?_
                              refine lv_iadd hx hb dL_law_571 ?_
                              refine va_sld hx hb hX hbl hbA hG.2.2 HW.1 dL_law_572 ?_
                              replace HW := HW.2
                              obtain ⟨P_573, HC_573, HW⟩ := HW
                              refine g_calli (g_runV (As := [.int (xs (x3 + (1 : Int32)).toNatClampNeg), .int (xs (x3 + (2 : Int32)).toNatClampNeg)]) (rest := []) ⟨hx, hb, hml, hown, hw⟩ (m_X10_chain l D cy ad h g H.size (xs (x3 + (1 : Int32)).toNatClampNeg) (xs (x3 + (2 : Int32)).toNatClampNeg) P_573 HC_573) (cwV 2 hw (gd_VL (wm3 130 rfl rfl) (wm3 131 rfl rfl) (wm3 132 rfl rfl) (wm1 1 rfl rfl) (wm3 133 rfl rfl)) rfl rfl rfl (by decide +kernel) ⟨Nat.le_of_ble_eq_true rfl, Nat.le_of_ble_eq_true rfl⟩) hK hNw hG gl_0 rfl gk_0 (by decide) rfl rfl hl.1 rfl (lv_room (Nat.le_of_ble_eq_true rfl)) dL_law_573 ⟨hC0, hS0⟩) hG (fun r_573 h_573 g_573 H locs hq hG => ?_)
                              replace HW := HW r_573 h_573 g_573 hq
                              refine lv_pop hx hb dL_law_576 rfl ?_
                              refine lv_aload_n hx hb dL_law_577 rfl (lv_at hl 2 rfl) ?_
                              refine lv_aload_n hx hb dL_law_578 rfl (lv_at hl 0 rfl) ?_
                              refine lv_iload_n hx hb dL_law_579 rfl (lv_at hl 3 rfl) ?_
                              refine lv_iconst (v := 1) hx hb dL_law_580 (by decide) ?_
                              refine lv_iadd hx hb dL_law_581 ?_
                              refine va_sld hx hb hX hbl hbA hG.2.2 HW.1 dL_law_582 ?_
                              replace HW := HW.2
                              refine lv_aload_n hx hb dL_law_583 rfl (lv_at hl 0 rfl) ?_
                              refine lv_iload_n hx hb dL_law_584 rfl (lv_at hl 3 rfl) ?_
                              refine lv_iconst (v := 2) hx hb dL_law_585 (by decide) ?_
                              refine lv_iadd hx hb dL_law_586 ?_
                              refine va_sld hx hb hX hbl hbA hG.2.2 HW.1 dL_law_587 ?_
                              replace HW := HW.2
                              obtain ⟨P_588, HC_588, HW⟩ := HW
                              refine g_calli (g_runV (As := [.int (xs (x3 + (1 : Int32)).toNatClampNeg), .int (xs (x3 + (2 : Int32)).toNatClampNeg)]) (rest := []) ⟨hx, hb, hml, hown, hw⟩ (m_X11_chain l D cy ad h_573 g_573 H.size (xs (x3 + (1 : Int32)).toNatClampNeg) (xs (x3 + (2 : Int32)).toNatClampNeg) P_588 HC_588) (cwV 2 hw (gd_VL (wm6 20 rfl rfl) (wm6 21 rfl rfl) (wm6 22 rfl rfl) (wm1 13 rfl rfl) (wm6 23 rfl rfl)) rfl rfl rfl (by decide +kernel) ⟨Nat.le_of_ble_eq_true rfl, Nat.le_of_ble_eq_true rfl⟩) hK hNw hG gl_135 rfl gk_135 (by decide) rfl rfl hl.1 rfl (lv_room (Nat.le_of_ble_eq_true rfl)) dL_law_588 ⟨hC0, hS0⟩) hG (fun r_588 h_588 g_588 H locs hq hG => ?_)
                              replace HW := HW r_588 h_588 g_588 hq
                              refine lv_pop hx hb dL_law_591 rfl ?_
                              refine lv_goto (tgt := 1451) hx hb dL_law_592 (by decide) ?_
                              exact B1451 K18 hK18 x3 h_588 g_588 _ _ _ HW hG (lv_sub hl [0, 1, 2, 3] rfl)
                            · by_cases c_33_11 : ((xs x3.toNatClampNeg) &&& (63 : Int32)) = 11
                              · replace HW := HW.2.2.2.2.2.2.2.2.2.2.2.1 c_33_11
                                refine lv_tableIn (tgt := 595) (off := 562) hx hb dL_law_33 (by rw [c_33_11]; first | done | decide) (by rw [c_33_11]; first | done | decide) (by rw [c_33_11]; first | done | rfl) (by decide) ?_
                                refine lv_aload_n hx hb dL_law_595 rfl (lv_at hl 1 rfl) ?_
                                refine lv_aload_n hx hb dL_law_596 rfl (lv_at hl 0 rfl) ?_
                                refine lv_iload_n hx hb dL_law_597 rfl (lv_at hl 3 rfl) ?_
                                refine lv_iconst (v := 1) hx hb dL_law_598 (by decide) ?_
                                refine lv_iadd hx hb dL_law_599 ?_
                                refine va_sld hx hb hX hbl hbA hG.2.2 HW.1 dL_law_600 ?_
                                replace HW := HW.2
                                refine lv_aload_n hx hb dL_law_601 rfl (lv_at hl 0 rfl) ?_
                                refine lv_iload_n hx hb dL_law_602 rfl (lv_at hl 3 rfl) ?_
                                refine lv_iconst (v := 2) hx hb dL_law_603 (by decide) ?_
                                refine lv_iadd hx hb dL_law_604 ?_
                                refine va_sld hx hb hX hbl hbA hG.2.2 HW.1 dL_law_605 ?_
                                replace HW := HW.2
                                refine lv_aload_n hx hb dL_law_606 rfl (lv_at hl 0 rfl) ?_
                                refine lv_iload_n hx hb dL_law_607 rfl (lv_at hl 3 rfl) ?_
                                refine lv_iconst (v := 3) hx hb dL_law_608 (by decide) ?_
                                refine lv_iadd hx hb dL_law_609 ?_
                                refine va_sld hx hb hX hbl hbA hG.2.2 HW.1 dL_law_610 ?_
                                replace HW := HW.2
                                refine lv_if_eq (tgt := 618) hx hb dL_law_611 (by decide) (fun c_611 => ?_) (fun c_611 => ?_)
                                · replace HW := HW.1 c_611
                                  refine lv_iconst (v := 0) hx hb dL_law_618 (by decide) ?_
                                  exact B619 K18 hK18 x3 (xs (x3 + (1 : Int32)).toNatClampNeg) (xs (x3 + (2 : Int32)).toNatClampNeg) (0 : Int32) h g _ _ _ HW hG (lv_sub hl [0, 1, 2, 3] rfl)
                                · replace HW := HW.2 c_611
                                  refine lv_iconst (v := 1) hx hb dL_law_614 (by decide) ?_
                                  refine lv_goto (tgt := 619) hx hb dL_law_615 (by decide) ?_
                                  exact B619 K18 hK18 x3 (xs (x3 + (1 : Int32)).toNatClampNeg) (xs (x3 + (2 : Int32)).toNatClampNeg) (1 : Int32) h g _ _ _ HW hG (lv_sub hl [0, 1, 2, 3] rfl)
                              · by_cases c_33_12 : ((xs x3.toNatClampNeg) &&& (63 : Int32)) = 12
                                · replace HW := HW.2.2.2.2.2.2.2.2.2.2.2.2.1 c_33_12
                                  refine lv_tableIn (tgt := 654) (off := 621) hx hb dL_law_33 (by rw [c_33_12]; first | done | decide) (by rw [c_33_12]; first | done | decide) (by rw [c_33_12]; first | done | rfl) (by decide) ?_
                                  refine lv_aload_n hx hb dL_law_654 rfl (lv_at hl 1 rfl) ?_
                                  refine lv_aload_n hx hb dL_law_655 rfl (lv_at hl 0 rfl) ?_
                                  refine lv_iload_n hx hb dL_law_656 rfl (lv_at hl 3 rfl) ?_
                                  refine lv_iconst (v := 1) hx hb dL_law_657 (by decide) ?_
                                  refine lv_iadd hx hb dL_law_658 ?_
                                  refine va_sld hx hb hX hbl hbA hG.2.2 HW.1 dL_law_659 ?_
                                  replace HW := HW.2
                                  refine lv_aload_n hx hb dL_law_660 rfl (lv_at hl 0 rfl) ?_
                                  refine lv_iload_n hx hb dL_law_661 rfl (lv_at hl 3 rfl) ?_
                                  refine lv_iconst (v := 2) hx hb dL_law_662 (by decide) ?_
                                  refine lv_iadd hx hb dL_law_663 ?_
                                  refine va_sld hx hb hX hbl hbA hG.2.2 HW.1 dL_law_664 ?_
                                  replace HW := HW.2
                                  refine lv_aload_n hx hb dL_law_665 rfl (lv_at hl 0 rfl) ?_
                                  refine lv_iload_n hx hb dL_law_666 rfl (lv_at hl 3 rfl) ?_
                                  refine lv_iconst (v := 3) hx hb dL_law_667 (by decide) ?_
                                  refine lv_iadd hx hb dL_law_668 ?_
                                  refine va_sld hx hb hX hbl hbA hG.2.2 HW.1 dL_law_669 ?_
                                  replace HW := HW.2
                                  obtain ⟨P_670, HC_670, HW⟩ := HW
                                  refine g_calli (g_runV (As := [.int (xs (x3 + (1 : Int32)).toNatClampNeg), .int (xs (x3 + (2 : Int32)).toNatClampNeg), .int (xs (x3 + (3 : Int32)).toNatClampNeg)]) (rest := []) ⟨hx, hb, hml, hown, hw⟩ (m_X10_sum l D cy ad h g H.size (xs (x3 + (1 : Int32)).toNatClampNeg) (xs (x3 + (2 : Int32)).toNatClampNeg) (xs (x3 + (3 : Int32)).toNatClampNeg) P_670 HC_670) (cwV 3 hw (gd_VL (wm3 144 rfl rfl) (wm3 145 rfl rfl) (wm3 146 rfl rfl) (wm1 1 rfl rfl) (wm3 147 rfl rfl)) rfl rfl rfl (by decide +kernel) ⟨Nat.le_of_ble_eq_true rfl, Nat.le_of_ble_eq_true rfl⟩) hK hNw hG gl_0 rfl gk_0 (by decide) rfl rfl hl.1 rfl (lv_room (Nat.le_of_ble_eq_true rfl)) dL_law_670 ⟨hC0, hS0⟩) hG (fun r_670 h_670 g_670 H locs hq hG => ?_)
                                  replace HW := HW r_670 h_670 g_670 hq
                                  refine lv_pop hx hb dL_law_673 rfl ?_
                                  refine lv_aload_n hx hb dL_law_674 rfl (lv_at hl 2 rfl) ?_
                                  refine lv_aload_n hx hb dL_law_675 rfl (lv_at hl 0 rfl) ?_
                                  refine lv_iload_n hx hb dL_law_676 rfl (lv_at hl 3 rfl) ?_
                                  refine lv_iconst (v := 1) hx hb dL_law_677 (by decide) ?_
                                  refine lv_iadd hx hb dL_law_678 ?_
                                  refine va_sld hx hb hX hbl hbA hG.2.2 HW.1 dL_law_679 ?_
                                  replace HW := HW.2
                                  refine lv_aload_n hx hb dL_law_680 rfl (lv_at hl 0 rfl) ?_
                                  refine lv_iload_n hx hb dL_law_681 rfl (lv_at hl 3 rfl) ?_
                                  refine lv_iconst (v := 2) hx hb dL_law_682 (by decide) ?_
                                  refine lv_iadd hx hb dL_law_683 ?_
                                  refine va_sld hx hb hX hbl hbA hG.2.2 HW.1 dL_law_684 ?_
                                  replace HW := HW.2
                                  refine lv_aload_n hx hb dL_law_685 rfl (lv_at hl 0 rfl) ?_
                                  refine lv_iload_n hx hb dL_law_686 rfl (lv_at hl 3 rfl) ?_
                                  refine lv_iconst (v := 3) hx hb dL_law_687 (by decide) ?_
                                  refine lv_iadd hx hb dL_law_688 ?_
                                  refine va_sld hx hb hX hbl hbA hG.2.2 HW.1 dL_law_689 ?_
                                  replace HW := HW.2
                                  obtain ⟨P_690, HC_690, HW⟩ := HW
                                  refine g_calli (g_runV (As := [.int (xs (x3 + (1 : Int32)).toNatClampNeg), .int (xs (x3 + (2 : Int32)).toNatClampNeg), .int (xs (x3 + (3 : Int32)).toNatClampNeg)]) (rest := []) ⟨hx, hb, hml, hown, hw⟩ (m_X11_sum l D cy ad h_670 g_670 H.size (xs (x3 + (1 : Int32)).toNatClampNeg) (xs (x3 + (2 : Int32)).toNatClampNeg) (xs (x3 + (3 : Int32)).toNatClampNeg) P_690 HC_690) (cwV 3 hw (gd_VL (wm6 37 rfl rfl) (wm6 38 rfl rfl) (wm6 39 rfl rfl) (wm1 13 rfl rfl) (wm6 40 rfl rfl)) rfl rfl rfl (by decide +kernel) ⟨Nat.le_of_ble_eq_true rfl, Nat.le_of_ble_eq_true rfl⟩) hK hNw hG gl_135 rfl gk_135 (by decide) rfl rfl hl.1 rfl (lv_room (Nat.le_of_ble_eq_true rfl)) dL_law_690 ⟨hC0, hS0⟩) hG (fun r_690 h_690 g_690 H locs hq hG => ?_)
                                  replace HW := HW r_690 h_690 g_690 hq
                                  refine lv_pop hx hb dL_law_693 rfl ?_
                                  refine lv_goto (tgt := 1451) hx hb dL_law_694 (by decide) ?_
                                  exact B1451 K18 hK18 x3 h_690 g_690 _ _ _ HW hG (lv_sub hl [0, 1, 2, 3] rfl)
                                · by_cases c_33_13 : ((xs x3.toNatClampNeg) &&& (63 : Int32)) = 13
                                  · replace HW := HW.2.2.2.2.2.2.2.2.2.2.2.2.2.1 c_33_13
                                    refine lv_tableIn (tgt := 697) (off := 664) hx hb dL_law_33 (by rw [c_33_13]; first | done | decide) (by rw [c_33_13]; first | done | decide) (by rw [c_33_13]; first | done | rfl) (by decide) ?_
                                    refine lv_aload_n hx hb dL_law_697 rfl (lv_at hl 1 rfl) ?_
                                    refine lv_aload_n hx hb dL_law_698 rfl (lv_at hl 0 rfl) ?_
                                    refine lv_iload_n hx hb dL_law_699 rfl (lv_at hl 3 rfl) ?_
                                    refine lv_iconst (v := 1) hx hb dL_law_700 (by decide) ?_
                                    refine lv_iadd hx hb dL_law_701 ?_
                                    refine va_sld hx hb hX hbl hbA hG.2.2 HW.1 dL_law_702 ?_
                                    replace HW := HW.2
                                    refine lv_aload_n hx hb dL_law_703 rfl (lv_at hl 0 rfl) ?_
                                    refine lv_iload_n hx hb dL_law_704 rfl (lv_at hl 3 rfl) ?_
                                    refine lv_iconst (v := 2) hx hb dL_law_705 (by decide) ?_
                                    refine lv_iadd hx hb dL_law_706 ?_
                                    refine va_sld hx hb hX hbl hbA hG.2.2 HW.1 dL_law_707 ?_
                                    replace HW := HW.2
                                    refine lv_aload_n hx hb dL_law_708 rfl (lv_at hl 0 rfl) ?_
                                    refine lv_iload_n hx hb dL_law_709 rfl (lv_at hl 3 rfl) ?_
                                    refine lv_iconst (v := 3) hx hb dL_law_710 (by decide) ?_
                                    refine lv_iadd hx hb dL_law_711 ?_
                                    refine va_sld hx hb hX hbl hbA hG.2.2 HW.1 dL_law_712 ?_
                                    replace HW := HW.2
                                    obtain ⟨P_713, HC_713, HW⟩ := HW
                                    refine g_calli (g_runV (As := [.int (xs (x3 + (1 : Int32)).toNatClampNeg), .int (xs (x3 + (2 : Int32)).toNatClampNeg), .int (xs (x3 + (3 : Int32)).toNatClampNeg)]) (rest := []) ⟨hx, hb, hml, hown, hw⟩ (m_X10_stands l D cy ad h g H.size (xs (x3 + (1 : Int32)).toNatClampNeg) (xs (x3 + (2 : Int32)).toNatClampNeg) (xs (x3 + (3 : Int32)).toNatClampNeg) P_713 HC_713) (cwV 3 hw (gd_VL (wm3 166 rfl rfl) (wm3 167 rfl rfl) (wm3 168 rfl rfl) (wm1 1 rfl rfl) (wm3 169 rfl rfl)) rfl rfl rfl (by decide +kernel) ⟨Nat.le_of_ble_eq_true rfl, Nat.le_of_ble_eq_true rfl⟩) hK hNw hG gl_0 rfl gk_0 (by decide) rfl rfl hl.1 rfl (lv_room (Nat.le_of_ble_eq_true rfl)) dL_law_713 ⟨hC0, hS0⟩) hG (fun r_713 h_713 g_713 H locs hq hG => ?_)
                                    replace HW := HW r_713 h_713 g_713 hq
                                    refine lv_pop hx hb dL_law_716 rfl ?_
                                    refine lv_aload_n hx hb dL_law_717 rfl (lv_at hl 2 rfl) ?_
                                    refine lv_aload_n hx hb dL_law_718 rfl (lv_at hl 0 rfl) ?_
                                    refine lv_iload_n hx hb dL_law_719 rfl (lv_at hl 3 rfl) ?_
                                    refine lv_iconst (v := 1) hx hb dL_law_720 (by decide) ?_
                                    refine lv_iadd hx hb dL_law_721 ?_
                                    refine va_sld hx hb hX hbl hbA hG.2.2 HW.1 dL_law_722 ?_
                                    replace HW := HW.2
                                    refine lv_aload_n hx hb dL_law_723 rfl (lv_at hl 0 rfl) ?_
                                    refine lv_iload_n hx hb dL_law_724 rfl (lv_at hl 3 rfl) ?_
                                    refine lv_iconst (v := 2) hx hb dL_law_725 (by decide) ?_
                                    refine lv_iadd hx hb dL_law_726 ?_
                                    refine va_sld hx hb hX hbl hbA hG.2.2 HW.1 dL_law_727 ?_
                                    replace HW := HW.2
                                    refine lv_aload_n hx hb dL_law_728 rfl (lv_at hl 0 rfl) ?_
                                    refine lv_iload_n hx hb dL_law_729 rfl (lv_at hl 3 rfl) ?_
                                    refine lv_iconst (v := 3) hx hb dL_law_730 (by decide) ?_
                                    refine lv_iadd hx hb dL_law_731 ?_
                                    refine va_sld hx hb hX hbl hbA hG.2.2 HW.1 dL_law_732 ?_
                                    replace HW := HW.2
                                    obtain ⟨P_733, HC_733, HW⟩ := HW
                                    refine g_calli (g_runV (As := [.int (xs (x3 + (1 : Int32)).toNatClampNeg), .int (xs (x3 + (2 : Int32)).toNatClampNeg), .int (xs (x3 + (3 : Int32)).toNatClampNeg)]) (rest := []) ⟨hx, hb, hml, hown, hw⟩ (m_X11_stands l D cy ad h_713 g_713 H.size (xs (x3 + (1 : Int32)).toNatClampNeg) (xs (x3 + (2 : Int32)).toNatClampNeg) (xs (x3 + (3 : Int32)).toNatClampNeg) P_733 HC_733) (cwV 3 hw (gd_VL (wm6 51 rfl rfl) (wm6 52 rfl rfl) (wm6 53 rfl rfl) (wm1 13 rfl rfl) (wm6 54 rfl rfl)) rfl rfl rfl (by decide +kernel) ⟨Nat.le_of_ble_eq_true rfl, Nat.le_of_ble_eq_true rfl⟩) hK hNw hG gl_135 rfl gk_135 (by decide) rfl rfl hl.1 rfl (lv_room (Nat.le_of_ble_eq_true rfl)) dL_law_733 ⟨hC0, hS0⟩) hG (fun r_733 h_733 g_733 H locs hq hG => ?_)
                                    replace HW := HW r_733 h_733 g_733 hq
                                    refine lv_pop hx hb dL_law_736 rfl ?_
                                    refine lv_goto (tgt := 1451) hx hb dL_law_737 (by decide) ?_
                                    exact B1451 K18 hK18 x3 h_733 g_733 _ _ _ HW hG (lv_sub hl [0, 1, 2, 3] rfl)
                                  · by_cases c_33_14 : ((xs x3.toNatClampNeg) &&& (63 : Int32)) = 14
                                    · replace HW := HW.2.2.2.2.2.2.2.2.2.2.2.2.2.2.1 c_33_14
                                      refine lv_tableIn (tgt := 740) (off := 707) hx hb dL_law_33 (by rw [c_33_14]; first | done | decide) (by rw [c_33_14]; first | done | decide) (by rw [c_33_14]; first | done | rfl) (by decide) ?_
                                      refine lv_aload_n hx hb dL_law_740 rfl (lv_at hl 1 rfl) ?_
                                      refine lv_aload_n hx hb dL_law_741 rfl (lv_at hl 0 rfl) ?_
                                      refine lv_iload_n hx hb dL_law_742 rfl (lv_at hl 3 rfl) ?_
                                      refine lv_iconst (v := 1) hx hb dL_law_743 (by decide) ?_
                                      refine lv_iadd hx hb dL_law_744 ?_
                                      refine va_sld hx hb hX hbl hbA hG.2.2 HW.1 dL_law_745 ?_
                                      replace HW := HW.2
                                      refine lv_aload_n hx hb dL_law_746 rfl (lv_at hl 0 rfl) ?_
                                      refine lv_iload_n hx hb dL_law_747 rfl (lv_at hl 3 rfl) ?_
                                      refine lv_iconst (v := 2) hx hb dL_law_748 (by decide) ?_
                                      refine lv_iadd hx hb dL_law_749 ?_
                                      refine va_sld hx hb hX hbl hbA hG.2.2 HW.1 dL_law_750 ?_
                                      replace HW := HW.2
                                      obtain ⟨P_751, HC_751, HW⟩ := HW
                                      refine g_calli (g_runV (As := [.int (xs (x3 + (1 : Int32)).toNatClampNeg), .int (xs (x3 + (2 : Int32)).toNatClampNeg)]) (rest := []) ⟨hx, hb, hml, hown, hw⟩ (m_X10_life l D cy ad h g H.size (xs (x3 + (1 : Int32)).toNatClampNeg) (xs (x3 + (2 : Int32)).toNatClampNeg) P_751 HC_751) (cwV 2 hw (gd_VL (wm3 170 rfl rfl) (wm3 171 rfl rfl) (wm3 172 rfl rfl) (wm1 1 rfl rfl) (wm3 173 rfl rfl)) rfl rfl rfl (by decide +kernel) ⟨Nat.le_of_ble_eq_true rfl, Nat.le_of_ble_eq_true rfl⟩) hK hNw hG gl_0 rfl gk_0 (by decide) rfl rfl hl.1 rfl (lv_room (Nat.le_of_ble_eq_true rfl)) dL_law_751 ⟨hC0, hS0⟩) hG (fun r_751 h_751 g_751 H locs hq hG => ?_)
                                      replace HW := HW r_751 h_751 g_751 hq
                                      refine lv_pop hx hb dL_law_754 rfl ?_
                                      refine lv_aload_n hx hb dL_law_755 rfl (lv_at hl 2 rfl) ?_
                                      refine lv_aload_n hx hb dL_law_756 rfl (lv_at hl 0 rfl) ?_
                                      refine lv_iload_n hx hb dL_law_757 rfl (lv_at hl 3 rfl) ?_
                                      refine lv_iconst (v := 1) hx hb dL_law_758 (by decide) ?_
                                      refine lv_iadd hx hb dL_law_759 ?_
                                      refine va_sld hx hb hX hbl hbA hG.2.2 HW.1 dL_law_760 ?_
                                      replace HW := HW.2
                                      refine lv_aload_n hx hb dL_law_761 rfl (lv_at hl 0 rfl) ?_
                                      refine lv_iload_n hx hb dL_law_762 rfl (lv_at hl 3 rfl) ?_
                                      refine lv_iconst (v := 2) hx hb dL_law_763 (by decide) ?_
                                      refine lv_iadd hx hb dL_law_764 ?_
                                      refine va_sld hx hb hX hbl hbA hG.2.2 HW.1 dL_law_765 ?_
                                      replace HW := HW.2
                                      obtain ⟨P_766, HC_766, HW⟩ := HW
                                      refine g_calli (g_runV (As := [.int (xs (x3 + (1 : Int32)).toNatClampNeg), .int (xs (x3 + (2 : Int32)).toNatClampNeg)]) (rest := []) ⟨hx, hb, hml, hown, hw⟩ (m_X11_life l D cy ad h_751 g_751 H.size (xs (x3 + (1 : Int32)).toNatClampNeg) (xs (x3 + (2 : Int32)).toNatClampNeg) P_766 HC_766) (cwV 2 hw (gd_VL (wm6 55 rfl rfl) (wm6 56 rfl rfl) (wm6 57 rfl rfl) (wm1 13 rfl rfl) (wm6 58 rfl rfl)) rfl rfl rfl (by decide +kernel) ⟨Nat.le_of_ble_eq_true rfl, Nat.le_of_ble_eq_true rfl⟩) hK hNw hG gl_135 rfl gk_135 (by decide) rfl rfl hl.1 rfl (lv_room (Nat.le_of_ble_eq_true rfl)) dL_law_766 ⟨hC0, hS0⟩) hG (fun r_766 h_766 g_766 H locs hq hG => ?_)
                                      replace HW := HW r_766 h_766 g_766 hq
                                      refine lv_pop hx hb dL_law_769 rfl ?_
                                      refine lv_goto (tgt := 1451) hx hb dL_law_770 (by decide) ?_
                                      exact B1451 K18 hK18 x3 h_766 g_766 _ _ _ HW hG (lv_sub hl [0, 1, 2, 3] rfl)
                                    · by_cases c_33_15 : ((xs x3.toNatClampNeg) &&& (63 : Int32)) = 15
                                      · replace HW := HW.2.2.2.2.2.2.2.2.2.2.2.2.2.2.2.1 c_33_15
                                        refine lv_tableIn (tgt := 773) (off := 740) hx hb dL_law_33 (by rw [c_33_15]; first | done | decide) (by rw [c_33_15]; first | done | decide) (by rw [c_33_15]; first | done | rfl) (by decide) ?_
                                        refine lv_aload_n hx hb dL_law_773 rfl (lv_at hl 1 rfl) ?_
                                        refine lv_aload_n hx hb dL_law_774 rfl (lv_at hl 0 rfl) ?_
                                        refine lv_iload_n hx hb dL_law_775 rfl (lv_at hl 3 rfl) ?_
                                        refine lv_iconst (v := 1) hx hb dL_law_776 (by decide) ?_
                                        refine lv_iadd hx hb dL_law_777 ?_
                                        refine va_sld hx hb hX hbl hbA hG.2.2 HW.1 dL_law_778 ?_
                                        replace HW := HW.2
                                        refine lv_aload_n hx hb dL_law_779 rfl (lv_at hl 0 rfl) ?_
                                        refine lv_iload_n hx hb dL_law_780 rfl (lv_at hl 3 rfl) ?_
                                        refine lv_iconst (v := 2) hx hb dL_law_781 (by decide) ?_
                                        refine lv_iadd hx hb dL_law_782 ?_
                                        refine va_sld hx hb hX hbl hbA hG.2.2 HW.1 dL_law_783 ?_
                                        replace HW := HW.2
                                        refine lv_aload_n hx hb dL_law_784 rfl (lv_at hl 0 rfl) ?_
                                        refine lv_iload_n hx hb dL_law_785 rfl (lv_at hl 3 rfl) ?_
                                        refine lv_iconst (v := 3) hx hb dL_law_786 (by decide) ?_
                                        refine lv_iadd hx hb dL_law_787 ?_
                                        refine va_sld hx hb hX hbl hbA hG.2.2 HW.1 dL_law_788 ?_
                                        replace HW := HW.2
                                        refine lv_aload_n hx hb dL_law_789 rfl (lv_at hl 0 rfl) ?_
                                        refine lv_iload_n hx hb dL_law_790 rfl (lv_at hl 3 rfl) ?_
                                        refine lv_iconst (v := 4) hx hb dL_law_791 (by decide) ?_
                                        refine lv_iadd hx hb dL_law_792 ?_
                                        refine va_sld hx hb hX hbl hbA hG.2.2 HW.1 dL_law_793 ?_
                                        replace HW := HW.2
                                        obtain ⟨P_794, HC_794, HW⟩ := HW
                                        refine g_calli (g_runV (As := [.int (xs (x3 + (1 : Int32)).toNatClampNeg), .int (xs (x3 + (2 : Int32)).toNatClampNeg), .int (xs (x3 + (3 : Int32)).toNatClampNeg), .int (xs (x3 + (4 : Int32)).toNatClampNeg)]) (rest := []) ⟨hx, hb, hml, hown, hw⟩ (m_X10_work l D cy ad h g H.size (xs (x3 + (1 : Int32)).toNatClampNeg) (xs (x3 + (2 : Int32)).toNatClampNeg) (xs (x3 + (3 : Int32)).toNatClampNeg) (xs (x3 + (4 : Int32)).toNatClampNeg) P_794 HC_794) (cwV 4 hw (gd_VL (wm3 174 rfl rfl) (wm3 175 rfl rfl) (wm3 176 rfl rfl) (wm1 1 rfl rfl) (wm3 177 rfl rfl)) rfl rfl rfl (by decide +kernel) ⟨Nat.le_of_ble_eq_true rfl, Nat.le_of_ble_eq_true rfl⟩) hK hNw hG gl_0 rfl gk_0 (by decide) rfl rfl hl.1 rfl (lv_room (Nat.le_of_ble_eq_true rfl)) dL_law_794 ⟨hC0, hS0⟩) hG (fun r_794 h_794 g_794 H locs hq hG => ?_)
                                        replace HW := HW r_794 h_794 g_794 hq
                                        refine lv_pop hx hb dL_law_797 rfl ?_
                                        refine lv_aload_n hx hb dL_law_798 rfl (lv_at hl 2 rfl) ?_
                                        refine lv_aload_n hx hb dL_law_799 rfl (lv_at hl 0 rfl) ?_
                                        refine lv_iload_n hx hb dL_law_800 rfl (lv_at hl 3 rfl) ?_
                                        refine lv_iconst (v := 1) hx hb dL_law_801 (by decide) ?_
                                        refine lv_iadd hx hb dL_law_802 ?_
                                        refine va_sld hx hb hX hbl hbA hG.2.2 HW.1 dL_law_803 ?_
                                        replace HW := HW.2
                                        refine lv_aload_n hx hb dL_law_804 rfl (lv_at hl 0 rfl) ?_
                                        refine lv_iload_n hx hb dL_law_805 rfl (lv_at hl 3 rfl) ?_
                                        refine lv_iconst (v := 2) hx hb dL_law_806 (by decide) ?_
                                        refine lv_iadd hx hb dL_law_807 ?_
                                        refine va_sld hx hb hX hbl hbA hG.2.2 HW.1 dL_law_808 ?_
                                        replace HW := HW.2
                                        refine lv_aload_n hx hb dL_law_809 rfl (lv_at hl 0 rfl) ?_
                                        refine lv_iload_n hx hb dL_law_810 rfl (lv_at hl 3 rfl) ?_
                                        refine lv_iconst (v := 3) hx hb dL_law_811 (by decide) ?_
                                        refine lv_iadd hx hb dL_law_812 ?_
                                        refine va_sld hx hb hX hbl hbA hG.2.2 HW.1 dL_law_813 ?_
                                        replace HW := HW.2
                                        refine lv_aload_n hx hb dL_law_814 rfl (lv_at hl 0 rfl) ?_
                                        refine lv_iload_n hx hb dL_law_815 rfl (lv_at hl 3 rfl) ?_
                                        refine lv_iconst (v := 4) hx hb dL_law_816 (by decide) ?_
                                        refine lv_iadd hx hb dL_law_817 ?_
                                        refine va_sld hx hb hX hbl hbA hG.2.2 HW.1 dL_law_818 ?_
                                        replace HW := HW.2
                                        obtain ⟨P_819, HC_819, HW⟩ := HW
                                        refine g_calli (g_runV (As := [.int (xs (x3 + (1 : Int32)).toNatClampNeg), .int (xs (x3 + (2 : Int32)).toNatClampNeg), .int (xs (x3 + (3 : Int32)).toNatClampNeg), .int (xs (x3 + (4 : Int32)).toNatClampNeg)]) (rest := []) ⟨hx, hb, hml, hown, hw⟩ (m_X11_work l D cy ad h_794 g_794 H.size (xs (x3 + (1 : Int32)).toNatClampNeg) (xs (x3 + (2 : Int32)).toNatClampNeg) (xs (x3 + (3 : Int32)).toNatClampNeg) (xs (x3 + (4 : Int32)).toNatClampNeg) P_819 HC_819) (cwV 4 hw (gd_VL (wm6 59 rfl rfl) (wm6 60 rfl rfl) (wm6 61 rfl rfl) (wm1 13 rfl rfl) (wm6 62 rfl rfl)) rfl rfl rfl (by decide +kernel) ⟨Nat.le_of_ble_eq_true rfl, Nat.le_of_ble_eq_true rfl⟩) hK hNw hG gl_135 rfl gk_135 (by decide) rfl rfl hl.1 rfl (lv_room (Nat.le_of_ble_eq_true rfl)) dL_law_819 ⟨hC0, hS0⟩) hG (fun r_819 h_819 g_819 H locs hq hG => ?_)
                                        replace HW := HW r_819 h_819 g_819 hq
                                        refine lv_pop hx hb dL_law_822 rfl ?_
                                        refine lv_goto (tgt := 1451) hx hb dL_law_823 (by decide) ?_
                                        exact B1451 K18 hK18 x3 h_819 g_819 _ _ _ HW hG (lv_sub hl [0, 1, 2, 3] rfl)
                                      · by_cases c_33_16 : ((xs x3.toNatClampNeg) &&& (63 : Int32)) = 16
                                        · replace HW := HW.2.2.2.2.2.2.2.2.2.2.2.2.2.2.2.2.1 c_33_16
                                          refine lv_tableIn (tgt := 826) (off := 793) hx hb dL_law_33 (by rw [c_33_16]; first | done | decide) (by rw [c_33_16]; first | done | decide) (by rw [c_33_16]; first | done | rfl) (by decide) ?_
                                          refine lv_aload_n hx hb dL_law_826 rfl (lv_at hl 1 rfl) ?_
                                          refine lv_aload_n hx hb dL_law_827 rfl (lv_at hl 0 rfl) ?_
                                          refine lv_iload_n hx hb dL_law_828 rfl (lv_at hl 3 rfl) ?_
                                          refine lv_iconst (v := 1) hx hb dL_law_829 (by decide) ?_
                                          refine lv_iadd hx hb dL_law_830 ?_
                                          refine va_sld hx hb hX hbl hbA hG.2.2 HW.1 dL_law_831 ?_
                                          replace HW := HW.2
                                          refine lv_aload_n hx hb dL_law_832 rfl (lv_at hl 0 rfl) ?_
                                          refine lv_iload_n hx hb dL_law_833 rfl (lv_at hl 3 rfl) ?_
                                          refine lv_iconst (v := 2) hx hb dL_law_834 (by decide) ?_
                                          refine lv_iadd hx hb dL_law_835 ?_
                                          refine va_sld hx hb hX hbl hbA hG.2.2 HW.1 dL_law_836 ?_
                                          replace HW := HW.2
                                          refine lv_aload_n hx hb dL_law_837 rfl (lv_at hl 0 rfl) ?_
                                          refine lv_iload_n hx hb dL_law_838 rfl (lv_at hl 3 rfl) ?_
                                          refine lv_iconst (v := 3) hx hb dL_law_839 (by decide) ?_
                                          refine lv_iadd hx hb dL_law_840 ?_
                                          refine va_sld hx hb hX hbl hbA hG.2.2 HW.1 dL_law_841 ?_
                                          replace HW := HW.2
                                          refine lv_aload_n hx hb dL_law_842 rfl (lv_at hl 0 rfl) ?_
                                          refine lv_iload_n hx hb dL_law_843 rfl (lv_at hl 3 rfl) ?_
                                          refine lv_iconst (v := 4) hx hb dL_law_844 (by decide) ?_
                                          refine lv_iadd hx hb dL_law_845 ?_
                                          refine va_sld hx hb hX hbl hbA hG.2.2 HW.1 dL_law_846 ?_
                                          replace HW := HW.2
                                          obtain ⟨P_847, HC_847, HW⟩ := HW
                                          refine g_calli (g_runV (As := [.int (xs (x3 + (1 : Int32)).toNatClampNeg), .int (xs (x3 + (2 : Int32)).toNatClampNeg), .int (xs (x3 + (3 : Int32)).toNatClampNeg), .int (xs (x3 + (4 : Int32)).toNatClampNeg)]) (rest := []) ⟨hx, hb, hml, hown, hw⟩ (m_X10_way l D cy ad h g H.size (xs (x3 + (1 : Int32)).toNatClampNeg) (xs (x3 + (2 : Int32)).toNatClampNeg) (xs (x3 + (3 : Int32)).toNatClampNeg) (xs (x3 + (4 : Int32)).toNatClampNeg) P_847 HC_847) (cwV 4 hw (gd_VL (wm3 178 rfl rfl) (wm3 179 rfl rfl) (wm3 180 rfl rfl) (wm1 1 rfl rfl) (wm3 181 rfl rfl)) rfl rfl rfl (by decide +kernel) ⟨Nat.le_of_ble_eq_true rfl, Nat.le_of_ble_eq_true rfl⟩) hK hNw hG gl_0 rfl gk_0 (by decide) rfl rfl hl.1 rfl (lv_room (Nat.le_of_ble_eq_true rfl)) dL_law_847 ⟨hC0, hS0⟩) hG (fun r_847 h_847 g_847 H locs hq hG => ?_)
                                          replace HW := HW r_847 h_847 g_847 hq
                                          refine lv_pop hx hb dL_law_850 rfl ?_
                                          refine lv_aload_n hx hb dL_law_851 rfl (lv_at hl 2 rfl) ?_
                                          refine lv_aload_n hx hb dL_law_852 rfl (lv_at hl 0 rfl) ?_
                                          refine lv_iload_n hx hb dL_law_853 rfl (lv_at hl 3 rfl) ?_
                                          refine lv_iconst (v := 1) hx hb dL_law_854 (by decide) ?_
                                          refine lv_iadd hx hb dL_law_855 ?_
                                          refine va_sld hx hb hX hbl hbA hG.2.2 HW.1 dL_law_856 ?_
                                          replace HW := HW.2
                                          refine lv_aload_n hx hb dL_law_857 rfl (lv_at hl 0 rfl) ?_
                                          refine lv_iload_n hx hb dL_law_858 rfl (lv_at hl 3 rfl) ?_
                                          refine lv_iconst (v := 2) hx hb dL_law_859 (by decide) ?_
                                          refine lv_iadd hx hb dL_law_860 ?_
                                          refine va_sld hx hb hX hbl hbA hG.2.2 HW.1 dL_law_861 ?_
                                          replace HW := HW.2
                                          refine lv_aload_n hx hb dL_law_862 rfl (lv_at hl 0 rfl) ?_
                                          refine lv_iload_n hx hb dL_law_863 rfl (lv_at hl 3 rfl) ?_
                                          refine lv_iconst (v := 3) hx hb dL_law_864 (by decide) ?_
                                          refine lv_iadd hx hb dL_law_865 ?_
                                          refine va_sld hx hb hX hbl hbA hG.2.2 HW.1 dL_law_866 ?_
                                          replace HW := HW.2
                                          refine lv_aload_n hx hb dL_law_867 rfl (lv_at hl 0 rfl) ?_
                                          refine lv_iload_n hx hb dL_law_868 rfl (lv_at hl 3 rfl) ?_
                                          refine lv_iconst (v := 4) hx hb dL_law_869 (by decide) ?_
                                          refine lv_iadd hx hb dL_law_870 ?_
                                          refine va_sld hx hb hX hbl hbA hG.2.2 HW.1 dL_law_871 ?_
                                          replace HW := HW.2
                                          obtain ⟨P_872, HC_872, HW⟩ := HW
                                          refine g_calli (g_runV (As := [.int (xs (x3 + (1 : Int32)).toNatClampNeg), .int (xs (x3 + (2 : Int32)).toNatClampNeg), .int (xs (x3 + (3 : Int32)).toNatClampNeg), .int (xs (x3 + (4 : Int32)).toNatClampNeg)]) (rest := []) ⟨hx, hb, hml, hown, hw⟩ (m_X11_way l D cy ad h_847 g_847 H.size (xs (x3 + (1 : Int32)).toNatClampNeg) (xs (x3 + (2 : Int32)).toNatClampNeg) (xs (x3 + (3 : Int32)).toNatClampNeg) (xs (x3 + (4 : Int32)).toNatClampNeg) P_872 HC_872) (cwV 4 hw (gd_VL (wm6 67 rfl rfl) (wm6 68 rfl rfl) (wm6 69 rfl rfl) (wm1 13 rfl rfl) (wm6 70 rfl rfl)) rfl rfl rfl (by decide +kernel) ⟨Nat.le_of_ble_eq_true rfl, Nat.le_of_ble_eq_true rfl⟩) hK hNw hG gl_135 rfl gk_135 (by decide) rfl rfl hl.1 rfl (lv_room (Nat.le_of_ble_eq_true rfl)) dL_law_872 ⟨hC0, hS0⟩) hG (fun r_872 h_872 g_872 H locs hq hG => ?_)
                                          replace HW := HW r_872 h_872 g_872 hq
                                          refine lv_pop hx hb dL_law_875 rfl ?_
                                          refine lv_goto (tgt := 1451) hx hb dL_law_876 (by decide) ?_
                                          exact B1451 K18 hK18 x3 h_872 g_872 _ _ _ HW hG (lv_sub hl [0, 1, 2, 3] rfl)
                                        · by_cases c_33_17 : ((xs x3.toNatClampNeg) &&& (63 : Int32)) = 17
                                          · replace HW := HW.2.2.2.2.2.2.2.2.2.2.2.2.2.2.2.2.2.1 c_33_17
                                            refine lv_tableIn (tgt := 879) (off := 846) hx hb dL_law_33 (by rw [c_33_17]; first | done | decide) (by rw [c_33_17]; first | done | decide) (by rw [c_33_17]; first | done | rfl) (by decide) ?_
                                            refine lv_aload_n hx hb dL_law_879 rfl (lv_at hl 1 rfl) ?_
                                            refine lv_aload_n hx hb dL_law_880 rfl (lv_at hl 0 rfl) ?_
                                            refine lv_iload_n hx hb dL_law_881 rfl (lv_at hl 3 rfl) ?_
                                            refine lv_iconst (v := 1) hx hb dL_law_882 (by decide) ?_
                                            refine lv_iadd hx hb dL_law_883 ?_
                                            refine va_sld hx hb hX hbl hbA hG.2.2 HW.1 dL_law_884 ?_
                                            replace HW := HW.2
                                            obtain ⟨P_885, HC_885, HW⟩ := HW
                                            refine g_calli (g_runV (As := [.int (xs (x3 + (1 : Int32)).toNatClampNeg)]) (rest := []) ⟨hx, hb, hml, hown, hw⟩ (m_X10_machine l D cy ad h g H.size (xs (x3 + (1 : Int32)).toNatClampNeg) P_885 HC_885) (cwV 1 hw (gd_VL (wm3 212 rfl rfl) (wm3 213 rfl rfl) (wm3 214 rfl rfl) (wm1 1 rfl rfl) (wm3 215 rfl rfl)) rfl rfl rfl (by decide +kernel) ⟨Nat.le_of_ble_eq_true rfl, Nat.le_of_ble_eq_true rfl⟩) hK hNw hG gl_0 rfl gk_0 (by decide) rfl rfl hl.1 rfl (lv_room (Nat.le_of_ble_eq_true rfl)) dL_law_885 ⟨hC0, hS0⟩) hG (fun r_885 h_885 g_885 H locs hq hG => ?_)
                                            replace HW := HW r_885 h_885 g_885 hq
                                            refine lv_pop hx hb dL_law_888 rfl ?_
                                            refine lv_aload_n hx hb dL_law_889 rfl (lv_at hl 2 rfl) ?_
                                            refine lv_aload_n hx hb dL_law_890 rfl (lv_at hl 0 rfl) ?_
                                            refine lv_iload_n hx hb dL_law_891 rfl (lv_at hl 3 rfl) ?_
                                            refine lv_iconst (v := 1) hx hb dL_law_892 (by decide) ?_
                                            refine lv_iadd hx hb dL_law_893 ?_
                                            refine va_sld hx hb hX hbl hbA hG.2.2 HW.1 dL_law_894 ?_
                                            replace HW := HW.2
                                            obtain ⟨P_895, HC_895, HW⟩ := HW
                                            refine g_calli (g_runV (As := [.int (xs (x3 + (1 : Int32)).toNatClampNeg)]) (rest := []) ⟨hx, hb, hml, hown, hw⟩ (m_X11_machine l D cy ad h_885 g_885 H.size (xs (x3 + (1 : Int32)).toNatClampNeg) P_895 HC_895) (cwV 1 hw (gd_VL (wm6 80 rfl rfl) (wm6 81 rfl rfl) (wm6 82 rfl rfl) (wm1 13 rfl rfl) (wm6 83 rfl rfl)) rfl rfl rfl (by decide +kernel) ⟨Nat.le_of_ble_eq_true rfl, Nat.le_of_ble_eq_true rfl⟩) hK hNw hG gl_135 rfl gk_135 (by decide) rfl rfl hl.1 rfl (lv_room (Nat.le_of_ble_eq_true rfl)) dL_law_895 ⟨hC0, hS0⟩) hG (fun r_895 h_895 g_895 H locs hq hG => ?_)
                                            replace HW := HW r_895 h_895 g_895 hq
                                            refine lv_pop hx hb dL_law_898 rfl ?_
                                            refine lv_goto (tgt := 1451) hx hb dL_law_899 (by decide) ?_
                                            exact B1451 K18 hK18 x3 h_895 g_895 _ _ _ HW hG (lv_sub hl [0, 1, 2, 3] rfl)
                                          · by_cases c_33_18 : ((xs x3.toNatClampNeg) &&& (63 : Int32)) = 18
                                            · replace HW := HW.2.2.2.2.2.2.2.2.2.2.2.2.2.2.2.2.2.2.1 c_33_18
                                              refine lv_tableIn (tgt := 902) (off := 869) hx hb dL_law_33 (by rw [c_33_18]; first | done | decide) (by rw [c_33_18]; first | done | decide) (by rw [c_33_18]; first | done | rfl) (by decide) ?_
                                              refine lv_aload_n hx hb dL_law_902 rfl (lv_at hl 1 rfl) ?_
                                              refine lv_aload_n hx hb dL_law_903 rfl (lv_at hl 0 rfl) ?_
                                              refine lv_iload_n hx hb dL_law_904 rfl (lv_at hl 3 rfl) ?_
                                              refine lv_iconst (v := 1) hx hb dL_law_905 (by decide) ?_
                                              refine lv_iadd hx hb dL_law_906 ?_
                                              refine va_sld hx hb hX hbl hbA hG.2.2 HW.1 dL_law_907 ?_
                                              replace HW := HW.2
                                              refine lv_aload_n hx hb dL_law_908 rfl (lv_at hl 0 rfl) ?_
                                              refine lv_iload_n hx hb dL_law_909 rfl (lv_at hl 3 rfl) ?_
                                              refine lv_iconst (v := 2) hx hb dL_law_910 (by decide) ?_
                                              refine lv_iadd hx hb dL_law_911 ?_
                                              refine va_sld hx hb hX hbl hbA hG.2.2 HW.1 dL_law_912 ?_
                                              replace HW := HW.2
                                              refine lv_aload_n hx hb dL_law_913 rfl (lv_at hl 0 rfl) ?_
                                              refine lv_iload_n hx hb dL_law_914 rfl (lv_at hl 3 rfl) ?_
                                              refine lv_iconst (v := 3) hx hb dL_law_915 (by decide) ?_
                                              refine lv_iadd hx hb dL_law_916 ?_
                                              refine va_sld hx hb hX hbl hbA hG.2.2 HW.1 dL_law_917 ?_
                                              replace HW := HW.2
                                              obtain ⟨P_918, HC_918, HW⟩ := HW
                                              refine g_calli (g_runV (As := [.int (xs (x3 + (1 : Int32)).toNatClampNeg), .int (xs (x3 + (2 : Int32)).toNatClampNeg), .int (xs (x3 + (3 : Int32)).toNatClampNeg)]) (rest := []) ⟨hx, hb, hml, hown, hw⟩ (m_X10_spare l D cy ad h g H.size (xs (x3 + (1 : Int32)).toNatClampNeg) (xs (x3 + (2 : Int32)).toNatClampNeg) (xs (x3 + (3 : Int32)).toNatClampNeg) P_918 HC_918) (cwV 3 hw (gd_VL (wm3 216 rfl rfl) (wm3 217 rfl rfl) (wm3 218 rfl rfl) (wm1 1 rfl rfl) (wm3 219 rfl rfl)) rfl rfl rfl (by decide +kernel) ⟨Nat.le_of_ble_eq_true rfl, Nat.le_of_ble_eq_true rfl⟩) hK hNw hG gl_0 rfl gk_0 (by decide) rfl rfl hl.1 rfl (lv_room (Nat.le_of_ble_eq_true rfl)) dL_law_918 ⟨hC0, hS0⟩) hG (fun r_918 h_918 g_918 H locs hq hG => ?_)
                                              replace HW := HW r_918 h_918 g_918 hq
                                              refine lv_pop hx hb dL_law_921 rfl ?_
                                              refine lv_aload_n hx hb dL_law_922 rfl (lv_at hl 2 rfl) ?_
                                              refine lv_aload_n hx hb dL_law_923 rfl (lv_at hl 0 rfl) ?_
                                              refine lv_iload_n hx hb dL_law_924 rfl (lv_at hl 3 rfl) ?_
                                              refine lv_iconst (v := 1) hx hb dL_law_925 (by decide) ?_
                                              refine lv_iadd hx hb dL_law_926 ?_
                                              refine va_sld hx hb hX hbl hbA hG.2.2 HW.1 dL_law_927 ?_
                                              replace HW := HW.2
                                              refine lv_aload_n hx hb dL_law_928 rfl (lv_at hl 0 rfl) ?_
                                              refine lv_iload_n hx hb dL_law_929 rfl (lv_at hl 3 rfl) ?_
                                              refine lv_iconst (v := 2) hx hb dL_law_930 (by decide) ?_
                                              refine lv_iadd hx hb dL_law_931 ?_
                                              refine va_sld hx hb hX hbl hbA hG.2.2 HW.1 dL_law_932 ?_
                                              replace HW := HW.2
                                              refine lv_aload_n hx hb dL_law_933 rfl (lv_at hl 0 rfl) ?_
                                              refine lv_iload_n hx hb dL_law_934 rfl (lv_at hl 3 rfl) ?_
                                              refine lv_iconst (v := 3) hx hb dL_law_935 (by decide) ?_
                                              refine lv_iadd hx hb dL_law_936 ?_
                                              refine va_sld hx hb hX hbl hbA hG.2.2 HW.1 dL_law_937 ?_
                                              replace HW := HW.2
                                              obtain ⟨P_938, HC_938, HW⟩ := HW
                                              refine g_calli (g_runV (As := [.int (xs (x3 + (1 : Int32)).toNatClampNeg), .int (xs (x3 + (2 : Int32)).toNatClampNeg), .int (xs (x3 + (3 : Int32)).toNatClampNeg)]) (rest := []) ⟨hx, hb, hml, hown, hw⟩ (m_X11_spare l D cy ad h_918 g_918 H.size (xs (x3 + (1 : Int32)).toNatClampNeg) (xs (x3 + (2 : Int32)).toNatClampNeg) (xs (x3 + (3 : Int32)).toNatClampNeg) P_938 HC_938) (cwV 3 hw (gd_VL (wm6 84 rfl rfl) (wm6 85 rfl rfl) (wm6 86 rfl rfl) (wm1 13 rfl rfl) (wm6 87 rfl rfl)) rfl rfl rfl (by decide +kernel) ⟨Nat.le_of_ble_eq_true rfl, Nat.le_of_ble_eq_true rfl⟩) hK hNw hG gl_135 rfl gk_135 (by decide) rfl rfl hl.1 rfl (lv_room (Nat.le_of_ble_eq_true rfl)) dL_law_938 ⟨hC0, hS0⟩) hG (fun r_938 h_938 g_938 H locs hq hG => ?_)
                                              replace HW := HW r_938 h_938 g_938 hq
                                              refine lv_pop hx hb dL_law_941 rfl ?_
                                              refine lv_goto (tgt := 1451) hx hb dL_law_942 (by decide) ?_
                                              exact B1451 K18 hK18 x3 h_938 g_938 _ _ _ HW hG (lv_sub hl [0, 1, 2, 3] rfl)
                                            · by_cases c_33_19 : ((xs x3.toNatClampNeg) &&& (63 : Int32)) = 19
                                              · replace HW := HW.2.2.2.2.2.2.2.2.2.2.2.2.2.2.2.2.2.2.2.1 c_33_19
                                                refine lv_tableIn (tgt := 945) (off := 912) hx hb dL_law_33 (by rw [c_33_19]; first | done | decide) (by rw [c_33_19]; first | done | decide) (by rw [c_33_19]; first | done | rfl) (by decide) ?_
                                                refine lv_aload_n hx hb dL_law_945 rfl (lv_at hl 1 rfl) ?_
                                                obtain ⟨P_946, HC_946, HW⟩ := HW
                                                refine g_calli (g_runV (As := []) (rest := []) ⟨hx, hb, hml, hown, hw⟩ (m_X10_scrap l D cy ad h g H.size  P_946 HC_946) (cwV 0 hw (gd_VL (wm3 220 rfl rfl) (wm3 221 rfl rfl) (wm3 222 rfl rfl) (wm1 1 rfl rfl) (wm3 223 rfl rfl)) rfl rfl rfl (by decide +kernel) ⟨Nat.le_of_ble_eq_true rfl, Nat.le_of_ble_eq_true rfl⟩) hK hNw hG gl_0 rfl gk_0 (by decide) rfl rfl hl.1 rfl (lv_room (Nat.le_of_ble_eq_true rfl)) dL_law_946 ⟨hC0, hS0⟩) hG (fun r_946 h_946 g_946 H locs hq hG => ?_)
                                                replace HW := HW r_946 h_946 g_946 hq
                                                refine lv_pop hx hb dL_law_949 rfl ?_
                                                refine lv_aload_n hx hb dL_law_950 rfl (lv_at hl 2 rfl) ?_
                                                obtain ⟨P_951, HC_951, HW⟩ := HW
                                                refine g_calli (g_runV (As := []) (rest := []) ⟨hx, hb, hml, hown, hw⟩ (m_X11_scrap l D cy ad h_946 g_946 H.size  P_951 HC_951) (cwV 0 hw (gd_VL (wm6 89 rfl rfl) (wm6 90 rfl rfl) (wm6 91 rfl rfl) (wm1 13 rfl rfl) (wm6 92 rfl rfl)) rfl rfl rfl (by decide +kernel) ⟨Nat.le_of_ble_eq_true rfl, Nat.le_of_ble_eq_true rfl⟩) hK hNw hG gl_135 rfl gk_135 (by decide) rfl rfl hl.1 rfl (lv_room (Nat.le_of_ble_eq_true rfl)) dL_law_951 ⟨hC0, hS0⟩) hG (fun r_951 h_951 g_951 H locs hq hG => ?_)
                                                replace HW := HW r_951 h_951 g_951 hq
                                                refine lv_pop hx hb dL_law_954 rfl ?_
                                                refine lv_goto (tgt := 1451) hx hb dL_law_955 (by decide) ?_
                                                exact B1451 K18 hK18 x3 h_951 g_951 _ _ _ HW hG (lv_sub hl [0, 1, 2, 3] rfl)
                                              · by_cases c_33_20 : ((xs x3.toNatClampNeg) &&& (63 : Int32)) = 20
                                                · replace HW := HW.2.2.2.2.2.2.2.2.2.2.2.2.2.2.2.2.2.2.2.2.1 c_33_20
                                                  refine lv_tableIn (tgt := 958) (off := 925) hx hb dL_law_33 (by rw [c_33_20]; first | done | decide) (by rw [c_33_20]; first | done | decide) (by rw [c_33_20]; first | done | rfl) (by decide) ?_
                                                  refine lv_aload_n hx hb dL_law_958 rfl (lv_at hl 1 rfl) ?_
                                                  refine lv_aload_n hx hb dL_law_959 rfl (lv_at hl 0 rfl) ?_
                                                  refine lv_iload_n hx hb dL_law_960 rfl (lv_at hl 3 rfl) ?_
                                                  refine lv_iconst (v := 1) hx hb dL_law_961 (by decide) ?_
                                                  refine lv_iadd hx hb dL_law_962 ?_
                                                  refine va_sld hx hb hX hbl hbA hG.2.2 HW.1 dL_law_963 ?_
                                                  replace HW := HW.2
                                                  obtain ⟨P_964, HC_964, HW⟩ := HW
                                                  refine g_calli (g_runV (As := [.int (xs (x3 + (1 : Int32)).toNatClampNeg)]) (rest := []) ⟨hx, hb, hml, hown, hw⟩ (m_X10_taking l D cy ad h g H.size (xs (x3 + (1 : Int32)).toNatClampNeg) P_964 HC_964) (cwV 1 hw (gd_VL (wm3 224 rfl rfl) (wm3 225 rfl rfl) (wm3 226 rfl rfl) (wm1 1 rfl rfl) (wm3 227 rfl rfl)) rfl rfl rfl (by decide +kernel) ⟨Nat.le_of_ble_eq_true rfl, Nat.le_of_ble_eq_true rfl⟩) hK hNw hG gl_0 rfl gk_0 (by decide) rfl rfl hl.1 rfl (lv_room (Nat.le_of_ble_eq_true rfl)) dL_law_964 ⟨hC0, hS0⟩) hG (fun r_964 h_964 g_964 H locs hq hG => ?_)
                                                  replace HW := HW r_964 h_964 g_964 hq
                                                  refine lv_pop hx hb dL_law_967 rfl ?_
                                                  refine lv_aload_n hx hb dL_law_968 rfl (lv_at hl 2 rfl) ?_
                                                  refine lv_aload_n hx hb dL_law_969 rfl (lv_at hl 0 rfl) ?_
                                                  refine lv_iload_n hx hb dL_law_970 rfl (lv_at hl 3 rfl) ?_
                                                  refine lv_iconst (v := 1) hx hb dL_law_971 (by decide) ?_
                                                  refine lv_iadd hx hb dL_law_972 ?_
                                                  refine va_sld hx hb hX hbl hbA hG.2.2 HW.1 dL_law_973 ?_
                                                  replace HW := HW.2
                                                  obtain ⟨P_974, HC_974, HW⟩ := HW
                                                  refine g_calli (g_runV (As := [.int (xs (x3 + (1 : Int32)).toNatClampNeg)]) (rest := []) ⟨hx, hb, hml, hown, hw⟩ (m_X11_taking l D cy ad h_964 g_964 H.size (xs (x3 + (1 : Int32)).toNatClampNeg) P_974 HC_974) (cwV 1 hw (gd_VL (wm6 93 rfl rfl) (wm6 94 rfl rfl) (wm6 95 rfl rfl) (wm1 13 rfl rfl) (wm6 96 rfl rfl)) rfl rfl rfl (by decide +kernel) ⟨Nat.le_of_ble_eq_true rfl, Nat.le_of_ble_eq_true rfl⟩) hK hNw hG gl_135 rfl gk_135 (by decide) rfl rfl hl.1 rfl (lv_room (Nat.le_of_ble_eq_true rfl)) dL_law_974 ⟨hC0, hS0⟩) hG (fun r_974 h_974 g_974 H locs hq hG => ?_)
                                                  replace HW := HW r_974 h_974 g_974 hq
                                                  refine lv_pop hx hb dL_law_977 rfl ?_
                                                  refine lv_goto (tgt := 1451) hx hb dL_law_978 (by decide) ?_
                                                  exact B1451 K18 hK18 x3 h_974 g_974 _ _ _ HW hG (lv_sub hl [0, 1, 2, 3] rfl)
                                                · by_cases c_33_21 : ((xs x3.toNatClampNeg) &&& (63 : Int32)) = 21
                                                  · replace HW := HW.2.2.2.2.2.2.2.2.2.2.2.2.2.2.2.2.2.2.2.2.2.1 c_33_21
                                                    refine lv_tableIn (tgt := 981) (off := 948) hx hb dL_law_33 (by rw [c_33_21]; first | done | decide) (by rw [c_33_21]; first | done | decide) (by rw [c_33_21]; first | done | rfl) (by decide) ?_
                                                    refine lv_aload_n hx hb dL_law_981 rfl (lv_at hl 1 rfl) ?_
                                                    refine lv_aload_n hx hb dL_law_982 rfl (lv_at hl 0 rfl) ?_
                                                    refine lv_iload_n hx hb dL_law_983 rfl (lv_at hl 3 rfl) ?_
                                                    refine lv_iconst (v := 1) hx hb dL_law_984 (by decide) ?_
                                                    refine lv_iadd hx hb dL_law_985 ?_
                                                    refine va_sld hx hb hX hbl hbA hG.2.2 HW.1 dL_law_986 ?_
                                                    replace HW := HW.2
                                                    refine lv_aload_n hx hb dL_law_987 rfl (lv_at hl 0 rfl) ?_
                                                    refine lv_iload_n hx hb dL_law_988 rfl (lv_at hl 3 rfl) ?_
                                                    refine lv_iconst (v := 2) hx hb dL_law_989 (by decide) ?_
                                                    refine lv_iadd hx hb dL_law_990 ?_
                                                    refine va_sld hx hb hX hbl hbA hG.2.2 HW.1 dL_law_991 ?_
                                                    replace HW := HW.2
                                                    obtain ⟨P_992, HC_992, HW⟩ := HW
                                                    refine g_calli (g_runV (As := [.int (xs (x3 + (1 : Int32)).toNatClampNeg), .int (xs (x3 + (2 : Int32)).toNatClampNeg)]) (rest := []) ⟨hx, hb, hml, hown, hw⟩ (m_X10_odds l D cy ad h g H.size (xs (x3 + (1 : Int32)).toNatClampNeg) (xs (x3 + (2 : Int32)).toNatClampNeg) P_992 HC_992) (cwV 2 hw (gd_VL (wm4 37 rfl rfl) (wm4 38 rfl rfl) (wm4 39 rfl rfl) (wm1 1 rfl rfl) (wm4 40 rfl rfl)) rfl rfl rfl (by decide +kernel) ⟨Nat.le_of_ble_eq_true rfl, Nat.le_of_ble_eq_true rfl⟩) hK hNw hG gl_0 rfl gk_0 (by decide) rfl rfl hl.1 rfl (lv_room (Nat.le_of_ble_eq_true rfl)) dL_law_992 ⟨hC0, hS0⟩) hG (fun r_992 h_992 g_992 H locs hq hG => ?_)
                                                    replace HW := HW r_992 h_992 g_992 hq
                                                    refine lv_pop hx hb dL_law_995 rfl ?_
                                                    refine lv_aload_n hx hb dL_law_996 rfl (lv_at hl 2 rfl) ?_
                                                    refine lv_aload_n hx hb dL_law_997 rfl (lv_at hl 0 rfl) ?_
                                                    refine lv_iload_n hx hb dL_law_998 rfl (lv_at hl 3 rfl) ?_
                                                    refine lv_iconst (v := 1) hx hb dL_law_999 (by decide) ?_
                                                    refine lv_iadd hx hb dL_law_1000 ?_
                                                    refine va_sld hx hb hX hbl hbA hG.2.2 HW.1 dL_law_1001 ?_
                                                    replace HW := HW.2
                                                    refine lv_aload_n hx hb dL_law_1002 rfl (lv_at hl 0 rfl) ?_
                                                    refine lv_iload_n hx hb dL_law_1003 rfl (lv_at hl 3 rfl) ?_
                                                    refine lv_iconst (v := 2) hx hb dL_law_1004 (by decide) ?_
                                                    refine lv_iadd hx hb dL_law_1005 ?_
                                                    refine va_sld hx hb hX hbl hbA hG.2.2 HW.1 dL_law_1006 ?_
                                                    replace HW := HW.2
                                                    obtain ⟨P_1007, HC_1007, HW⟩ := HW
                                                    refine g_calli (g_runV (As := [.int (xs (x3 + (1 : Int32)).toNatClampNeg), .int (xs (x3 + (2 : Int32)).toNatClampNeg)]) (rest := []) ⟨hx, hb, hml, hown, hw⟩ (m_X11_odds l D cy ad h_992 g_992 H.size (xs (x3 + (1 : Int32)).toNatClampNeg) (xs (x3 + (2 : Int32)).toNatClampNeg) P_1007 HC_1007) (cwV 2 hw (gd_VL (wm6 113 rfl rfl) (wm6 114 rfl rfl) (wm6 115 rfl rfl) (wm1 13 rfl rfl) (wm6 116 rfl rfl)) rfl rfl rfl (by decide +kernel) ⟨Nat.le_of_ble_eq_true rfl, Nat.le_of_ble_eq_true rfl⟩) hK hNw hG gl_135 rfl gk_135 (by decide) rfl rfl hl.1 rfl (lv_room (Nat.le_of_ble_eq_true rfl)) dL_law_1007 ⟨hC0, hS0⟩) hG (fun r_1007 h_1007 g_1007 H locs hq hG => ?_)
                                                    replace HW := HW r_1007 h_1007 g_1007 hq
                                                    refine lv_pop hx hb dL_law_1010 rfl ?_
                                                    refine lv_goto (tgt := 1451) hx hb dL_law_1011 (by decide) ?_
                                                    exact B1451 K18 hK18 x3 h_1007 g_1007 _ _ _ HW hG (lv_sub hl [0, 1, 2, 3] rfl)
                                                  · by_cases c_33_22 : ((xs x3.toNatClampNeg) &&& (63 : Int32)) = 22
                                                    · replace HW := HW.2.2.2.2.2.2.2.2.2.2.2.2.2.2.2.2.2.2.2.2.2.2.1 c_33_22
                                                      refine lv_tableIn (tgt := 1014) (off := 981) hx hb dL_law_33 (by rw [c_33_22]; first | done | decide) (by rw [c_33_22]; first | done | decide) (by rw [c_33_22]; first | done | rfl) (by decide) ?_
                                                      refine lv_aload_n hx hb dL_law_1014 rfl (lv_at hl 1 rfl) ?_
                                                      refine lv_aload_n hx hb dL_law_1015 rfl (lv_at hl 0 rfl) ?_
                                                      refine lv_iload_n hx hb dL_law_1016 rfl (lv_at hl 3 rfl) ?_
                                                      refine lv_iconst (v := 1) hx hb dL_law_1017 (by decide) ?_
                                                      refine lv_iadd hx hb dL_law_1018 ?_
                                                      refine va_sld hx hb hX hbl hbA hG.2.2 HW.1 dL_law_1019 ?_
                                                      replace HW := HW.2
                                                      refine lv_aload_n hx hb dL_law_1020 rfl (lv_at hl 0 rfl) ?_
                                                      refine lv_iload_n hx hb dL_law_1021 rfl (lv_at hl 3 rfl) ?_
                                                      refine lv_iconst (v := 2) hx hb dL_law_1022 (by decide) ?_
                                                      refine lv_iadd hx hb dL_law_1023 ?_
                                                      refine va_sld hx hb hX hbl hbA hG.2.2 HW.1 dL_law_1024 ?_
                                                      replace HW := HW.2
                                                      obtain ⟨P_1025, HC_1025, HW⟩ := HW
                                                      refine g_calli (g_runV (As := [.int (xs (x3 + (1 : Int32)).toNatClampNeg), .int (xs (x3 + (2 : Int32)).toNatClampNeg)]) (rest := []) ⟨hx, hb, hml, hown, hw⟩ (m_X10_lasts l D cy ad h g H.size (xs (x3 + (1 : Int32)).toNatClampNeg) (xs (x3 + (2 : Int32)).toNatClampNeg) P_1025 HC_1025) (cwV 2 hw (gd_VL (wm4 41 rfl rfl) (wm4 42 rfl rfl) (wm4 43 rfl rfl) (wm1 1 rfl rfl) (wm4 44 rfl rfl)) rfl rfl rfl (by decide +kernel) ⟨Nat.le_of_ble_eq_true rfl, Nat.le_of_ble_eq_true rfl⟩) hK hNw hG gl_0 rfl gk_0 (by decide) rfl rfl hl.1 rfl (lv_room (Nat.le_of_ble_eq_true rfl)) dL_law_1025 ⟨hC0, hS0⟩) hG (fun r_1025 h_1025 g_1025 H locs hq hG => ?_)
                                                      replace HW := HW r_1025 h_1025 g_1025 hq
                                                      refine lv_pop hx hb dL_law_1028 rfl ?_
                                                      refine lv_aload_n hx hb dL_law_1029 rfl (lv_at hl 2 rfl) ?_
                                                      refine lv_aload_n hx hb dL_law_1030 rfl (lv_at hl 0 rfl) ?_
                                                      refine lv_iload_n hx hb dL_law_1031 rfl (lv_at hl 3 rfl) ?_
                                                      refine lv_iconst (v := 1) hx hb dL_law_1032 (by decide) ?_
                                                      refine lv_iadd hx hb dL_law_1033 ?_
                                                      refine va_sld hx hb hX hbl hbA hG.2.2 HW.1 dL_law_1034 ?_
                                                      replace HW := HW.2
                                                      refine lv_aload_n hx hb dL_law_1035 rfl (lv_at hl 0 rfl) ?_
                                                      refine lv_iload_n hx hb dL_law_1036 rfl (lv_at hl 3 rfl) ?_
                                                      refine lv_iconst (v := 2) hx hb dL_law_1037 (by decide) ?_
                                                      refine lv_iadd hx hb dL_law_1038 ?_
                                                      refine va_sld hx hb hX hbl hbA hG.2.2 HW.1 dL_law_1039 ?_
                                                      replace HW := HW.2
                                                      obtain ⟨P_1040, HC_1040, HW⟩ := HW
                                                      refine g_calli (g_runV (As := [.int (xs (x3 + (1 : Int32)).toNatClampNeg), .int (xs (x3 + (2 : Int32)).toNatClampNeg)]) (rest := []) ⟨hx, hb, hml, hown, hw⟩ (m_X11_lasts l D cy ad h_1025 g_1025 H.size (xs (x3 + (1 : Int32)).toNatClampNeg) (xs (x3 + (2 : Int32)).toNatClampNeg) P_1040 HC_1040) (cwV 2 hw (gd_VL (wm6 121 rfl rfl) (wm6 122 rfl rfl) (wm6 123 rfl rfl) (wm1 13 rfl rfl) (wm6 124 rfl rfl)) rfl rfl rfl (by decide +kernel) ⟨Nat.le_of_ble_eq_true rfl, Nat.le_of_ble_eq_true rfl⟩) hK hNw hG gl_135 rfl gk_135 (by decide) rfl rfl hl.1 rfl (lv_room (Nat.le_of_ble_eq_true rfl)) dL_law_1040 ⟨hC0, hS0⟩) hG (fun r_1040 h_1040 g_1040 H locs hq hG => ?_)
                                                      replace HW := HW r_1040 h_1040 g_1040 hq
                                                      refine lv_pop hx hb dL_law_1043 rfl ?_
                                                      refine lv_goto (tgt := 1451) hx hb dL_law_1044 (by decide) ?_
                                                      exact B1451 K18 hK18 x3 h_1040 g_1040 _ _ _ HW hG (lv_sub hl [0, 1, 2, 3] rfl)
                                                    · by_cases c_33_23 : ((xs x3.toNatClampNeg) &&& (63 : Int32)) = 23
                                                      · replace HW := HW.2.2.2.2.2.2.2.2.2.2.2.2.2.2.2.2.2.2.2.2.2.2.2.1 c_33_23
                                                        refine lv_tableIn (tgt := 1047) (off := 1014) hx hb dL_law_33 (by rw [c_33_23]; first | done | decide) (by rw [c_33_23]; first | done | decide) (by rw [c_33_23]; first | done | rfl) (by decide) ?_
                                                        refine lv_aload_n hx hb dL_law_1047 rfl (lv_at hl 1 rfl) ?_
                                                        refine lv_aload_n hx hb dL_law_1048 rfl (lv_at hl 0 rfl) ?_
                                                        refine lv_iload_n hx hb dL_law_1049 rfl (lv_at hl 3 rfl) ?_
                                                        refine lv_iconst (v := 1) hx hb dL_law_1050 (by decide) ?_
                                                        refine lv_iadd hx hb dL_law_1051 ?_
                                                        refine va_sld hx hb hX hbl hbA hG.2.2 HW.1 dL_law_1052 ?_
                                                        replace HW := HW.2
                                                        obtain ⟨P_1053, HC_1053, HW⟩ := HW
                                                        refine g_calli (g_runV (As := [.int (xs (x3 + (1 : Int32)).toNatClampNeg)]) (rest := []) ⟨hx, hb, hml, hown, hw⟩ (m_X10_half l D cy ad h g H.size (xs (x3 + (1 : Int32)).toNatClampNeg) P_1053 HC_1053) (cwV 1 hw (gd_VL (wm4 68 rfl rfl) (wm4 69 rfl rfl) (wm4 70 rfl rfl) (wm1 1 rfl rfl) (wm4 71 rfl rfl)) rfl rfl rfl (by decide +kernel) ⟨Nat.le_of_ble_eq_true rfl, Nat.le_of_ble_eq_true rfl⟩) hK hNw hG gl_0 rfl gk_0 (by decide) rfl rfl hl.1 rfl (lv_room (Nat.le_of_ble_eq_true rfl)) dL_law_1053 ⟨hC0, hS0⟩) hG (fun r_1053 h_1053 g_1053 H locs hq hG => ?_)
                                                        replace HW := HW r_1053 h_1053 g_1053 hq
                                                        refine lv_pop hx hb dL_law_1056 rfl ?_
                                                        refine lv_aload_n hx hb dL_law_1057 rfl (lv_at hl 2 rfl) ?_
                                                        refine lv_aload_n hx hb dL_law_1058 rfl (lv_at hl 0 rfl) ?_
                                                        refine lv_iload_n hx hb dL_law_1059 rfl (lv_at hl 3 rfl) ?_
                                                        refine lv_iconst (v := 1) hx hb dL_law_1060 (by decide) ?_
                                                        refine lv_iadd hx hb dL_law_1061 ?_
                                                        refine va_sld hx hb hX hbl hbA hG.2.2 HW.1 dL_law_1062 ?_
                                                        replace HW := HW.2
                                                        obtain ⟨P_1063, HC_1063, HW⟩ := HW
                                                        refine g_calli (g_runV (As := [.int (xs (x3 + (1 : Int32)).toNatClampNeg)]) (rest := []) ⟨hx, hb, hml, hown, hw⟩ (m_X11_half l D cy ad h_1053 g_1053 H.size (xs (x3 + (1 : Int32)).toNatClampNeg) P_1063 HC_1063) (cwV 1 hw (gd_VL (wm6 146 rfl rfl) (wm6 147 rfl rfl) (wm6 148 rfl rfl) (wm1 13 rfl rfl) (wm6 149 rfl rfl)) rfl rfl rfl (by decide +kernel) ⟨Nat.le_of_ble_eq_true rfl, Nat.le_of_ble_eq_true rfl⟩) hK hNw hG gl_135 rfl gk_135 (by decide) rfl rfl hl.1 rfl (lv_room (Nat.le_of_ble_eq_true rfl)) dL_law_1063 ⟨hC0, hS0⟩) hG (fun r_1063 h_1063 g_1063 H locs hq hG => ?_)
                                                        replace HW := HW r_1063 h_1063 g_1063 hq
                                                        refine lv_pop hx hb dL_law_1066 rfl ?_
                                                        refine lv_goto (tgt := 1451) hx hb dL_law_1067 (by decide) ?_
                                                        exact B1451 K18 hK18 x3 h_1063 g_1063 _ _ _ HW hG (lv_sub hl [0, 1, 2, 3] rfl)
                                                      · by_cases c_33_24 : ((xs x3.toNatClampNeg) &&& (63 : Int32)) = 24
                                                        · replace HW := HW.2.2.2.2.2.2.2.2.2.2.2.2.2.2.2.2.2.2.2.2.2.2.2.2.1 c_33_24
                                                          refine lv_tableIn (tgt := 1070) (off := 1037) hx hb dL_law_33 (by rw [c_33_24]; first | done | decide) (by rw [c_33_24]; first | done | decide) (by rw [c_33_24]; first | done | rfl) (by decide) ?_
                                                          refine lv_aload_n hx hb dL_law_1070 rfl (lv_at hl 1 rfl) ?_
                                                          refine lv_aload_n hx hb dL_law_1071 rfl (lv_at hl 0 rfl) ?_
                                                          refine lv_iload_n hx hb dL_law_1072 rfl (lv_at hl 3 rfl) ?_
                                                          refine lv_iconst (v := 1) hx hb dL_law_1073 (by decide) ?_
                                                          refine lv_iadd hx hb dL_law_1074 ?_
                                                          refine va_sld hx hb hX hbl hbA hG.2.2 HW.1 dL_law_1075 ?_
                                                          replace HW := HW.2
                                                          obtain ⟨P_1076, HC_1076, HW⟩ := HW
                                                          refine g_calli (g_runV (As := [.int (xs (x3 + (1 : Int32)).toNatClampNeg)]) (rest := []) ⟨hx, hb, hml, hown, hw⟩ (m_X10_limbs l D cy ad h g H.size (xs (x3 + (1 : Int32)).toNatClampNeg) P_1076 HC_1076) (cwV 1 hw (gd_VL (wm4 80 rfl rfl) (wm4 81 rfl rfl) (wm4 82 rfl rfl) (wm1 1 rfl rfl) (wm4 83 rfl rfl)) rfl rfl rfl (by decide +kernel) ⟨Nat.le_of_ble_eq_true rfl, Nat.le_of_ble_eq_true rfl⟩) hK hNw hG gl_0 rfl gk_0 (by decide) rfl rfl hl.1 rfl (lv_room (Nat.le_of_ble_eq_true rfl)) dL_law_1076 ⟨hC0, hS0⟩) hG (fun r_1076 h_1076 g_1076 H locs hq hG => ?_)
                                                          replace HW := HW r_1076 h_1076 g_1076 hq
                                                          refine lv_pop hx hb dL_law_1079 rfl ?_
                                                          refine lv_aload_n hx hb dL_law_1080 rfl (lv_at hl 2 rfl) ?_
                                                          refine lv_aload_n hx hb dL_law_1081 rfl (lv_at hl 0 rfl) ?_
                                                          refine lv_iload_n hx hb dL_law_1082 rfl (lv_at hl 3 rfl) ?_
                                                          refine lv_iconst (v := 1) hx hb dL_law_1083 (by decide) ?_
                                                          refine lv_iadd hx hb dL_law_1084 ?_
                                                          refine va_sld hx hb hX hbl hbA hG.2.2 HW.1 dL_law_1085 ?_
                                                          replace HW := HW.2
                                                          obtain ⟨P_1086, HC_1086, HW⟩ := HW
                                                          refine g_calli (g_runV (As := [.int (xs (x3 + (1 : Int32)).toNatClampNeg)]) (rest := []) ⟨hx, hb, hml, hown, hw⟩ (m_X11_limbs l D cy ad h_1076 g_1076 H.size (xs (x3 + (1 : Int32)).toNatClampNeg) P_1086 HC_1086) (cwV 1 hw (gd_VL (wm6 154 rfl rfl) (wm6 155 rfl rfl) (wm6 156 rfl rfl) (wm1 13 rfl rfl) (wm6 157 rfl rfl)) rfl rfl rfl (by decide +kernel) ⟨Nat.le_of_ble_eq_true rfl, Nat.le_of_ble_eq_true rfl⟩) hK hNw hG gl_135 rfl gk_135 (by decide) rfl rfl hl.1 rfl (lv_room (Nat.le_of_ble_eq_true rfl)) dL_law_1086 ⟨hC0, hS0⟩) hG (fun r_1086 h_1086 g_1086 H locs hq hG => ?_)
                                                          replace HW := HW r_1086 h_1086 g_1086 hq
                                                          refine lv_pop hx hb dL_law_1089 rfl ?_
                                                          refine lv_goto (tgt := 1451) hx hb dL_law_1090 (by decide) ?_
                                                          exact B1451 K18 hK18 x3 h_1086 g_1086 _ _ _ HW hG (lv_sub hl [0, 1, 2, 3] rfl)
                                                        · by_cases c_33_25 : ((xs x3.toNatClampNeg) &&& (63 : Int32)) = 25
                                                          · replace HW := HW.2.2.2.2.2.2.2.2.2.2.2.2.2.2.2.2.2.2.2.2.2.2.2.2.2.1 c_33_25
                                                            refine lv_tableIn (tgt := 1093) (off := 1060) hx hb dL_law_33 (by rw [c_33_25]; first | done | decide) (by rw [c_33_25]; first | done | decide) (by rw [c_33_25]; first | done | rfl) (by decide) ?_
                                                            refine lv_aload_n hx hb dL_law_1093 rfl (lv_at hl 1 rfl) ?_
                                                            refine lv_aload_n hx hb dL_law_1094 rfl (lv_at hl 0 rfl) ?_
                                                            refine lv_iload_n hx hb dL_law_1095 rfl (lv_at hl 3 rfl) ?_
                                                            refine lv_iconst (v := 1) hx hb dL_law_1096 (by decide) ?_
                                                            refine lv_iadd hx hb dL_law_1097 ?_
                                                            refine va_sld hx hb hX hbl hbA hG.2.2 HW.1 dL_law_1098 ?_
                                                            replace HW := HW.2
                                                            refine lv_aload_n hx hb dL_law_1099 rfl (lv_at hl 0 rfl) ?_
                                                            refine lv_iload_n hx hb dL_law_1100 rfl (lv_at hl 3 rfl) ?_
                                                            refine lv_iconst (v := 2) hx hb dL_law_1101 (by decide) ?_
                                                            refine lv_iadd hx hb dL_law_1102 ?_
                                                            refine va_sld hx hb hX hbl hbA hG.2.2 HW.1 dL_law_1103 ?_
                                                            replace HW := HW.2
                                                            obtain ⟨P_1104, HC_1104, HW⟩ := HW
                                                            refine g_calli (g_runV (As := [.int (xs (x3 + (1 : Int32)).toNatClampNeg), .int (xs (x3 + (2 : Int32)).toNatClampNeg)]) (rest := []) ⟨hx, hb, hml, hown, hw⟩ (m_X10_limb l D cy ad h g H.size (xs (x3 + (1 : Int32)).toNatClampNeg) (xs (x3 + (2 : Int32)).toNatClampNeg) P_1104 HC_1104) (cwV 2 hw (gd_VL (wm4 92 rfl rfl) (wm4 93 rfl rfl) (wm4 94 rfl rfl) (wm1 1 rfl rfl) (wm4 95 rfl rfl)) rfl rfl rfl (by decide +kernel) ⟨Nat.le_of_ble_eq_true rfl, Nat.le_of_ble_eq_true rfl⟩) hK hNw hG gl_0 rfl gk_0 (by decide) rfl rfl hl.1 rfl (lv_room (Nat.le_of_ble_eq_true rfl)) dL_law_1104 ⟨hC0, hS0⟩) hG (fun r_1104 h_1104 g_1104 H locs hq hG => ?_)
                                                            replace HW := HW r_1104 h_1104 g_1104 hq
                                                            refine lv_pop hx hb dL_law_1107 rfl ?_
                                                            refine lv_aload_n hx hb dL_law_1108 rfl (lv_at hl 2 rfl) ?_
                                                            refine lv_aload_n hx hb dL_law_1109 rfl (lv_at hl 0 rfl) ?_
                                                            refine lv_iload_n hx hb dL_law_1110 rfl (lv_at hl 3 rfl) ?_
                                                            refine lv_iconst (v := 1) hx hb dL_law_1111 (by decide) ?_
                                                            refine lv_iadd hx hb dL_law_1112 ?_
                                                            refine va_sld hx hb hX hbl hbA hG.2.2 HW.1 dL_law_1113 ?_
                                                            replace HW := HW.2
                                                            refine lv_aload_n hx hb dL_law_1114 rfl (lv_at hl 0 rfl) ?_
                                                            refine lv_iload_n hx hb dL_law_1115 rfl (lv_at hl 3 rfl) ?_
                                                            refine lv_iconst (v := 2) hx hb dL_law_1116 (by decide) ?_
                                                            refine lv_iadd hx hb dL_law_1117 ?_
                                                            refine va_sld hx hb hX hbl hbA hG.2.2 HW.1 dL_law_1118 ?_
                                                            replace HW := HW.2
                                                            obtain ⟨P_1119, HC_1119, HW⟩ := HW
                                                            refine g_calli (g_runV (As := [.int (xs (x3 + (1 : Int32)).toNatClampNeg), .int (xs (x3 + (2 : Int32)).toNatClampNeg)]) (rest := []) ⟨hx, hb, hml, hown, hw⟩ (m_X11_limb l D cy ad h_1104 g_1104 H.size (xs (x3 + (1 : Int32)).toNatClampNeg) (xs (x3 + (2 : Int32)).toNatClampNeg) P_1119 HC_1119) (cwV 2 hw (gd_VL (wm6 158 rfl rfl) (wm6 159 rfl rfl) (wm6 160 rfl rfl) (wm1 13 rfl rfl) (wm6 161 rfl rfl)) rfl rfl rfl (by decide +kernel) ⟨Nat.le_of_ble_eq_true rfl, Nat.le_of_ble_eq_true rfl⟩) hK hNw hG gl_135 rfl gk_135 (by decide) rfl rfl hl.1 rfl (lv_room (Nat.le_of_ble_eq_true rfl)) dL_law_1119 ⟨hC0, hS0⟩) hG (fun r_1119 h_1119 g_1119 H locs hq hG => ?_)
                                                            replace HW := HW r_1119 h_1119 g_1119 hq
                                                            refine lv_pop hx hb dL_law_1122 rfl ?_
                                                            refine lv_goto (tgt := 1451) hx hb dL_law_1123 (by decide) ?_
                                                            exact B1451 K18 hK18 x3 h_1119 g_1119 _ _ _ HW hG (lv_sub hl [0, 1, 2, 3] rfl)
                                                          · by_cases c_33_26 : ((xs x3.toNatClampNeg) &&& (63 : Int32)) = 26
                                                            · replace HW := HW.2.2.2.2.2.2.2.2.2.2.2.2.2.2.2.2.2.2.2.2.2.2.2.2.2.2.1 c_33_26
                                                              refine lv_tableIn (tgt := 1126) (off := 1093) hx hb dL_law_33 (by rw [c_33_26]; first | done | decide) (by rw [c_33_26]; first | done | decide) (by rw [c_33_26]; first | done | rfl) (by decide) ?_
                                                              refine lv_aload_n hx hb dL_law_1126 rfl (lv_at hl 1 rfl) ?_
                                                              refine lv_aload_n hx hb dL_law_1127 rfl (lv_at hl 0 rfl) ?_
                                                              refine lv_iload_n hx hb dL_law_1128 rfl (lv_at hl 3 rfl) ?_
                                                              refine lv_iconst (v := 1) hx hb dL_law_1129 (by decide) ?_
                                                              refine lv_iadd hx hb dL_law_1130 ?_
                                                              refine va_sld hx hb hX hbl hbA hG.2.2 HW.1 dL_law_1131 ?_
                                                              replace HW := HW.2
                                                              refine lv_aload_n hx hb dL_law_1132 rfl (lv_at hl 0 rfl) ?_
                                                              refine lv_iload_n hx hb dL_law_1133 rfl (lv_at hl 3 rfl) ?_
                                                              refine lv_iconst (v := 2) hx hb dL_law_1134 (by decide) ?_
                                                              refine lv_iadd hx hb dL_law_1135 ?_
                                                              refine va_sld hx hb hX hbl hbA hG.2.2 HW.1 dL_law_1136 ?_
                                                              replace HW := HW.2
                                                              refine lv_if_eq (tgt := 1144) hx hb dL_law_1137 (by decide) (fun c_1137 => ?_) (fun c_1137 => ?_)
                                                              · replace HW := HW.1 c_1137
                                                                refine lv_iconst (v := 0) hx hb dL_law_1144 (by decide) ?_
                                                                exact B1145 K18 hK18 x3 (xs (x3 + (1 : Int32)).toNatClampNeg) (0 : Int32) h g _ _ _ HW hG (lv_sub hl [0, 1, 2, 3] rfl)
                                                              · replace HW := HW.2 c_1137
                                                                refine lv_iconst (v := 1) hx hb dL_law_1140 (by decide) ?_
                                                                refine lv_goto (tgt := 1145) hx hb dL_law_1141 (by decide) ?_
                                                                exact B1145 K18 hK18 x3 (xs (x3 + (1 : Int32)).toNatClampNeg) (1 : Int32) h g _ _ _ HW hG (lv_sub hl [0, 1, 2, 3] rfl)
                                                            · by_cases c_33_27 : ((xs x3.toNatClampNeg) &&& (63 : Int32)) = 27
                                                              · replace HW := HW.2.2.2.2.2.2.2.2.2.2.2.2.2.2.2.2.2.2.2.2.2.2.2.2.2.2.2.1 c_33_27
                                                                refine lv_tableIn (tgt := 1175) (off := 1142) hx hb dL_law_33 (by rw [c_33_27]; first | done | decide) (by rw [c_33_27]; first | done | decide) (by rw [c_33_27]; first | done | rfl) (by decide) ?_
                                                                refine lv_aload_n hx hb dL_law_1175 rfl (lv_at hl 1 rfl) ?_
                                                                obtain ⟨P_1176, HC_1176, HW⟩ := HW
                                                                refine g_calli (g_runV (As := []) (rest := []) ⟨hx, hb, hml, hown, hw⟩ (m_X10_fitted l D cy ad h g H.size  P_1176 HC_1176) (cwV 0 hw (gd_VL (wm4 104 rfl rfl) (wm4 105 rfl rfl) (wm4 106 rfl rfl) (wm1 1 rfl rfl) (wm4 107 rfl rfl)) rfl rfl rfl (by decide +kernel) ⟨Nat.le_of_ble_eq_true rfl, Nat.le_of_ble_eq_true rfl⟩) hK hNw hG gl_0 rfl gk_0 (by decide) rfl rfl hl.1 rfl (lv_room (Nat.le_of_ble_eq_true rfl)) dL_law_1176 ⟨hC0, hS0⟩) hG (fun r_1176 h_1176 g_1176 H locs hq hG => ?_)
                                                                replace HW := HW r_1176 h_1176 g_1176 hq
                                                                refine lv_pop hx hb dL_law_1179 rfl ?_
                                                                refine lv_aload_n hx hb dL_law_1180 rfl (lv_at hl 2 rfl) ?_
                                                                obtain ⟨P_1181, HC_1181, HW⟩ := HW
                                                                refine g_calli (g_runV (As := []) (rest := []) ⟨hx, hb, hml, hown, hw⟩ (m_X11_fitted l D cy ad h_1176 g_1176 H.size  P_1181 HC_1181) (cwV 0 hw (gd_VL (wm6 166 rfl rfl) (wm6 167 rfl rfl) (wm6 168 rfl rfl) (wm1 13 rfl rfl) (wm6 169 rfl rfl)) rfl rfl rfl (by decide +kernel) ⟨Nat.le_of_ble_eq_true rfl, Nat.le_of_ble_eq_true rfl⟩) hK hNw hG gl_135 rfl gk_135 (by decide) rfl rfl hl.1 rfl (lv_room (Nat.le_of_ble_eq_true rfl)) dL_law_1181 ⟨hC0, hS0⟩) hG (fun r_1181 h_1181 g_1181 H locs hq hG => ?_)
                                                                replace HW := HW r_1181 h_1181 g_1181 hq
                                                                refine lv_pop hx hb dL_law_1184 rfl ?_
                                                                refine lv_goto (tgt := 1451) hx hb dL_law_1185 (by decide) ?_
                                                                exact B1451 K18 hK18 x3 h_1181 g_1181 _ _ _ HW hG (lv_sub hl [0, 1, 2, 3] rfl)
                                                              · by_cases c_33_28 : ((xs x3.toNatClampNeg) &&& (63 : Int32)) = 28
                                                                · replace HW := HW.2.2.2.2.2.2.2.2.2.2.2.2.2.2.2.2.2.2.2.2.2.2.2.2.2.2.2.2.1 c_33_28
                                                                  refine lv_tableIn (tgt := 1188) (off := 1155) hx hb dL_law_33 (by rw [c_33_28]; first | done | decide) (by rw [c_33_28]; first | done | decide) (by rw [c_33_28]; first | done | rfl) (by decide) ?_
                                                                  refine lv_aload_n hx hb dL_law_1188 rfl (lv_at hl 1 rfl) ?_
                                                                  refine lv_aload_n hx hb dL_law_1189 rfl (lv_at hl 0 rfl) ?_
                                                                  refine lv_iload_n hx hb dL_law_1190 rfl (lv_at hl 3 rfl) ?_
                                                                  refine lv_iconst (v := 1) hx hb dL_law_1191 (by decide) ?_
                                                                  refine lv_iadd hx hb dL_law_1192 ?_
                                                                  refine va_sld hx hb hX hbl hbA hG.2.2 HW.1 dL_law_1193 ?_
                                                                  replace HW := HW.2
                                                                  refine lv_aload_n hx hb dL_law_1194 rfl (lv_at hl 0 rfl) ?_
                                                                  refine lv_iload_n hx hb dL_law_1195 rfl (lv_at hl 3 rfl) ?_
                                                                  refine lv_iconst (v := 2) hx hb dL_law_1196 (by decide) ?_
                                                                  refine lv_iadd hx hb dL_law_1197 ?_
                                                                  refine va_sld hx hb hX hbl hbA hG.2.2 HW.1 dL_law_1198 ?_
                                                                  replace HW := HW.2
                                                                  refine lv_aload_n hx hb dL_law_1199 rfl (lv_at hl 0 rfl) ?_
                                                                  refine lv_iload_n hx hb dL_law_1200 rfl (lv_at hl 3 rfl) ?_
                                                                  refine lv_iconst (v := 3) hx hb dL_law_1201 (by decide) ?_
                                                                  refine lv_iadd hx hb dL_law_1202 ?_
                                                                  refine va_sld hx hb hX hbl hbA hG.2.2 HW.1 dL_law_1203 ?_
                                                                  replace HW := HW.2
                                                                  refine lv_if_eq (tgt := 1211) hx hb dL_law_1204 (by decide) (fun c_1204 => ?_) (fun c_1204 => ?_)
                                                                  · replace HW := HW.1 c_1204
                                                                    refine lv_iconst (v := 0) hx hb dL_law_1211 (by decide) ?_
                                                                    exact B1212 K18 hK18 x3 (xs (x3 + (1 : Int32)).toNatClampNeg) (xs (x3 + (2 : Int32)).toNatClampNeg) (0 : Int32) h g _ _ _ HW hG (lv_sub hl [0, 1, 2, 3] rfl)
                                                                  · replace HW := HW.2 c_1204
                                                                    refine lv_iconst (v := 1) hx hb dL_law_1207 (by decide) ?_
                                                                    refine lv_goto (tgt := 1212) hx hb dL_law_1208 (by decide) ?_
                                                                    exact B1212 K18 hK18 x3 (xs (x3 + (1 : Int32)).toNatClampNeg) (xs (x3 + (2 : Int32)).toNatClampNeg) (1 : Int32) h g _ _ _ HW hG (lv_sub hl [0, 1, 2, 3] rfl)
                                                                · by_cases c_33_29 : ((xs x3.toNatClampNeg) &&& (63 : Int32)) = 29
                                                                  · replace HW := HW.2.2.2.2.2.2.2.2.2.2.2.2.2.2.2.2.2.2.2.2.2.2.2.2.2.2.2.2.2.1 c_33_29
                                                                    refine lv_tableIn (tgt := 1247) (off := 1214) hx hb dL_law_33 (by rw [c_33_29]; first | done | decide) (by rw [c_33_29]; first | done | decide) (by rw [c_33_29]; first | done | rfl) (by decide) ?_
                                                                    refine lv_aload_n hx hb dL_law_1247 rfl (lv_at hl 1 rfl) ?_
                                                                    refine lv_aload_n hx hb dL_law_1248 rfl (lv_at hl 0 rfl) ?_
                                                                    refine lv_iload_n hx hb dL_law_1249 rfl (lv_at hl 3 rfl) ?_
                                                                    refine lv_iconst (v := 1) hx hb dL_law_1250 (by decide) ?_
                                                                    refine lv_iadd hx hb dL_law_1251 ?_
                                                                    refine va_sld hx hb hX hbl hbA hG.2.2 HW.1 dL_law_1252 ?_
                                                                    replace HW := HW.2
                                                                    obtain ⟨P_1253, HC_1253, HW⟩ := HW
                                                                    refine g_calli (g_runV (As := [.int (xs (x3 + (1 : Int32)).toNatClampNeg)]) (rest := []) ⟨hx, hb, hml, hown, hw⟩ (m_X10_along l D cy ad h g H.size (xs (x3 + (1 : Int32)).toNatClampNeg) P_1253 HC_1253) (cwV 1 hw (gd_VL (wm4 130 rfl rfl) (wm4 131 rfl rfl) (wm4 132 rfl rfl) (wm1 1 rfl rfl) (wm4 133 rfl rfl)) rfl rfl rfl (by decide +kernel) ⟨Nat.le_of_ble_eq_true rfl, Nat.le_of_ble_eq_true rfl⟩) hK hNw hG gl_0 rfl gk_0 (by decide) rfl rfl hl.1 rfl (lv_room (Nat.le_of_ble_eq_true rfl)) dL_law_1253 ⟨hC0, hS0⟩) hG (fun r_1253 h_1253 g_1253 H locs hq hG => ?_)
                                                                    replace HW := HW r_1253 h_1253 g_1253 hq
                                                                    refine lv_pop hx hb dL_law_1256 rfl ?_
                                                                    refine lv_aload_n hx hb dL_law_1257 rfl (lv_at hl 2 rfl) ?_
                                                                    refine lv_aload_n hx hb dL_law_1258 rfl (lv_at hl 0 rfl) ?_
                                                                    refine lv_iload_n hx hb dL_law_1259 rfl (lv_at hl 3 rfl) ?_
                                                                    refine lv_iconst (v := 1) hx hb dL_law_1260 (by decide) ?_
                                                                    refine lv_iadd hx hb dL_law_1261 ?_
                                                                    refine va_sld hx hb hX hbl hbA hG.2.2 HW.1 dL_law_1262 ?_
                                                                    replace HW := HW.2
                                                                    obtain ⟨P_1263, HC_1263, HW⟩ := HW
                                                                    refine g_calli (g_runV (As := [.int (xs (x3 + (1 : Int32)).toNatClampNeg)]) (rest := []) ⟨hx, hb, hml, hown, hw⟩ (m_X11_along l D cy ad h_1253 g_1253 H.size (xs (x3 + (1 : Int32)).toNatClampNeg) P_1263 HC_1263) (cwV 1 hw (gd_VL (wm6 179 rfl rfl) (wm6 180 rfl rfl) (wm6 181 rfl rfl) (wm1 13 rfl rfl) (wm6 182 rfl rfl)) rfl rfl rfl (by decide +kernel) ⟨Nat.le_of_ble_eq_true rfl, Nat.le_of_ble_eq_true rfl⟩) hK hNw hG gl_135 rfl gk_135 (by decide) rfl rfl hl.1 rfl (lv_room (Nat.le_of_ble_eq_true rfl)) dL_law_1263 ⟨hC0, hS0⟩) hG (fun r_1263 h_1263 g_1263 H locs hq hG => ?_)
                                                                    replace HW := HW r_1263 h_1263 g_1263 hq
                                                                    refine lv_pop hx hb dL_law_1266 rfl ?_
                                                                    refine lv_goto (tgt := 1451) hx hb dL_law_1267 (by decide) ?_
                                                                    exact B1451 K18 hK18 x3 h_1263 g_1263 _ _ _ HW hG (lv_sub hl [0, 1, 2, 3] rfl)
                                                                  · by_cases c_33_30 : ((xs x3.toNatClampNeg) &&& (63 : Int32)) = 30
                                                                    · replace HW := HW.2.2.2.2.2.2.2.2.2.2.2.2.2.2.2.2.2.2.2.2.2.2.2.2.2.2.2.2.2.2.1 c_33_30
                                                                      refine lv_tableIn (tgt := 1270) (off := 1237) hx hb dL_law_33 (by rw [c_33_30]; first | done | decide) (by rw [c_33_30]; first | done | decide) (by rw [c_33_30]; first | done | rfl) (by decide) ?_
                                                                      refine lv_aload_n hx hb dL_law_1270 rfl (lv_at hl 1 rfl) ?_
                                                                      refine lv_aload_n hx hb dL_law_1271 rfl (lv_at hl 0 rfl) ?_
                                                                      refine lv_iload_n hx hb dL_law_1272 rfl (lv_at hl 3 rfl) ?_
                                                                      refine lv_iconst (v := 1) hx hb dL_law_1273 (by decide) ?_
                                                                      refine lv_iadd hx hb dL_law_1274 ?_
                                                                      refine va_sld hx hb hX hbl hbA hG.2.2 HW.1 dL_law_1275 ?_
                                                                      replace HW := HW.2
                                                                      refine lv_aload_n hx hb dL_law_1276 rfl (lv_at hl 0 rfl) ?_
                                                                      refine lv_iload_n hx hb dL_law_1277 rfl (lv_at hl 3 rfl) ?_
                                                                      refine lv_iconst (v := 2) hx hb dL_law_1278 (by decide) ?_
                                                                      refine lv_iadd hx hb dL_law_1279 ?_
                                                                      refine va_sld hx hb hX hbl hbA hG.2.2 HW.1 dL_law_1280 ?_
                                                                      replace HW := HW.2
                                                                      obtain ⟨P_1281, HC_1281, HW⟩ := HW
                                                                      refine g_calli (g_runV (As := [.int (xs (x3 + (1 : Int32)).toNatClampNeg), .int (xs (x3 + (2 : Int32)).toNatClampNeg)]) (rest := []) ⟨hx, hb, hml, hown, hw⟩ (m_X10_hand l D cy ad h g H.size (xs (x3 + (1 : Int32)).toNatClampNeg) (xs (x3 + (2 : Int32)).toNatClampNeg) P_1281 HC_1281) (cwV 2 hw (gd_VL (wm4 138 rfl rfl) (wm4 139 rfl rfl) (wm4 140 rfl rfl) (wm1 1 rfl rfl) (wm4 141 rfl rfl)) rfl rfl rfl (by decide +kernel) ⟨Nat.le_of_ble_eq_true rfl, Nat.le_of_ble_eq_true rfl⟩) hK hNw hG gl_0 rfl gk_0 (by decide) rfl rfl hl.1 rfl (lv_room (Nat.le_of_ble_eq_true rfl)) dL_law_1281 ⟨hC0, hS0⟩) hG (fun r_1281 h_1281 g_1281 H locs hq hG => ?_)
                                                                      replace HW := HW r_1281 h_1281 g_1281 hq
                                                                      refine lv_pop hx hb dL_law_1284 rfl ?_
                                                                      refine lv_aload_n hx hb dL_law_1285 rfl (lv_at hl 2 rfl) ?_
                                                                      refine lv_aload_n hx hb dL_law_1286 rfl (lv_at hl 0 rfl) ?_
                                                                      refine lv_iload_n hx hb dL_law_1287 rfl (lv_at hl 3 rfl) ?_
                                                                      refine lv_iconst (v := 1) hx hb dL_law_1288 (by decide) ?_
                                                                      refine lv_iadd hx hb dL_law_1289 ?_
                                                                      refine va_sld hx hb hX hbl hbA hG.2.2 HW.1 dL_law_1290 ?_
                                                                      replace HW := HW.2
                                                                      refine lv_aload_n hx hb dL_law_1291 rfl (lv_at hl 0 rfl) ?_
                                                                      refine lv_iload_n hx hb dL_law_1292 rfl (lv_at hl 3 rfl) ?_
                                                                      refine lv_iconst (v := 2) hx hb dL_law_1293 (by decide) ?_
                                                                      refine lv_iadd hx hb dL_law_1294 ?_
                                                                      refine va_sld hx hb hX hbl hbA hG.2.2 HW.1 dL_law_1295 ?_
                                                                      replace HW := HW.2
                                                                      obtain ⟨P_1296, HC_1296, HW⟩ := HW
                                                                      refine g_calli (g_runV (As := [.int (xs (x3 + (1 : Int32)).toNatClampNeg), .int (xs (x3 + (2 : Int32)).toNatClampNeg)]) (rest := []) ⟨hx, hb, hml, hown, hw⟩ (m_X11_hand l D cy ad h_1281 g_1281 H.size (xs (x3 + (1 : Int32)).toNatClampNeg) (xs (x3 + (2 : Int32)).toNatClampNeg) P_1296 HC_1296) (cwV 2 hw (gd_VL (wm6 187 rfl rfl) (wm6 188 rfl rfl) (wm6 189 rfl rfl) (wm1 13 rfl rfl) (wm6 190 rfl rfl)) rfl rfl rfl (by decide +kernel) ⟨Nat.le_of_ble_eq_true rfl, Nat.le_of_ble_eq_true rfl⟩) hK hNw hG gl_135 rfl gk_135 (by decide) rfl rfl hl.1 rfl (lv_room (Nat.le_of_ble_eq_true rfl)) dL_law_1296 ⟨hC0, hS0⟩) hG (fun r_1296 h_1296 g_1296 H locs hq hG => ?_)
                                                                      replace HW := HW r_1296 h_1296 g_1296 hq
                                                                      refine lv_pop hx hb dL_law_1299 rfl ?_
                                                                      refine lv_goto (tgt := 1451) hx hb dL_law_1300 (by decide) ?_
                                                                      exact B1451 K18 hK18 x3 h_1296 g_1296 _ _ _ HW hG (lv_sub hl [0, 1, 2, 3] rfl)
                                                                    · by_cases c_33_31 : ((xs x3.toNatClampNeg) &&& (63 : Int32)) = 31
                                                                      · replace HW := HW.2.2.2.2.2.2.2.2.2.2.2.2.2.2.2.2.2.2.2.2.2.2.2.2.2.2.2.2.2.2.2.1 c_33_31
                                                                        refine lv_tableIn (tgt := 1303) (off := 1270) hx hb dL_law_33 (by rw [c_33_31]; first | done | decide) (by rw [c_33_31]; first | done | decide) (by rw [c_33_31]; first | done | rfl) (by decide) ?_
                                                                        refine lv_aload_n hx hb dL_law_1303 rfl (lv_at hl 1 rfl) ?_
                                                                        refine lv_aload_n hx hb dL_law_1304 rfl (lv_at hl 0 rfl) ?_
                                                                        refine lv_iload_n hx hb dL_law_1305 rfl (lv_at hl 3 rfl) ?_
                                                                        refine lv_iconst (v := 1) hx hb dL_law_1306 (by decide) ?_
                                                                        refine lv_iadd hx hb dL_law_1307 ?_
                                                                        refine va_sld hx hb hX hbl hbA hG.2.2 HW.1 dL_law_1308 ?_
                                                                        replace HW := HW.2
                                                                        refine lv_aload_n hx hb dL_law_1309 rfl (lv_at hl 0 rfl) ?_
                                                                        refine lv_iload_n hx hb dL_law_1310 rfl (lv_at hl 3 rfl) ?_
                                                                        refine lv_iconst (v := 2) hx hb dL_law_1311 (by decide) ?_
                                                                        refine lv_iadd hx hb dL_law_1312 ?_
                                                                        refine va_sld hx hb hX hbl hbA hG.2.2 HW.1 dL_law_1313 ?_
                                                                        replace HW := HW.2
                                                                        obtain ⟨P_1314, HC_1314, HW⟩ := HW
                                                                        refine g_calli (g_runV (As := [.int (xs (x3 + (1 : Int32)).toNatClampNeg), .int (xs (x3 + (2 : Int32)).toNatClampNeg)]) (rest := []) ⟨hx, hb, hml, hown, hw⟩ (m_X10_need l D cy ad h g H.size (xs (x3 + (1 : Int32)).toNatClampNeg) (xs (x3 + (2 : Int32)).toNatClampNeg) P_1314 HC_1314) (cwV 2 hw (gd_VL (wm4 142 rfl rfl) (wm4 143 rfl rfl) (wm4 144 rfl rfl) (wm1 1 rfl rfl) (wm4 145 rfl rfl)) rfl rfl rfl (by decide +kernel) ⟨Nat.le_of_ble_eq_true rfl, Nat.le_of_ble_eq_true rfl⟩) hK hNw hG gl_0 rfl gk_0 (by decide) rfl rfl hl.1 rfl (lv_room (Nat.le_of_ble_eq_true rfl)) dL_law_1314 ⟨hC0, hS0⟩) hG (fun r_1314 h_1314 g_1314 H locs hq hG => ?_)
                                                                        replace HW := HW r_1314 h_1314 g_1314 hq
                                                                        refine lv_pop hx hb dL_law_1317 rfl ?_
                                                                        refine lv_aload_n hx hb dL_law_1318 rfl (lv_at hl 2 rfl) ?_
                                                                        refine lv_aload_n hx hb dL_law_1319 rfl (lv_at hl 0 rfl) ?_
                                                                        refine lv_iload_n hx hb dL_law_1320 rfl (lv_at hl 3 rfl) ?_
                                                                        refine lv_iconst (v := 1) hx hb dL_law_1321 (by decide) ?_
                                                                        refine lv_iadd hx hb dL_law_1322 ?_
                                                                        refine va_sld hx hb hX hbl hbA hG.2.2 HW.1 dL_law_1323 ?_
                                                                        replace HW := HW.2
                                                                        refine lv_aload_n hx hb dL_law_1324 rfl (lv_at hl 0 rfl) ?_
                                                                        refine lv_iload_n hx hb dL_law_1325 rfl (lv_at hl 3 rfl) ?_
                                                                        refine lv_iconst (v := 2) hx hb dL_law_1326 (by decide) ?_
                                                                        refine lv_iadd hx hb dL_law_1327 ?_
                                                                        refine va_sld hx hb hX hbl hbA hG.2.2 HW.1 dL_law_1328 ?_
                                                                        replace HW := HW.2
                                                                        obtain ⟨P_1329, HC_1329, HW⟩ := HW
                                                                        refine g_calli (g_runV (As := [.int (xs (x3 + (1 : Int32)).toNatClampNeg), .int (xs (x3 + (2 : Int32)).toNatClampNeg)]) (rest := []) ⟨hx, hb, hml, hown, hw⟩ (m_X11_need l D cy ad h_1314 g_1314 H.size (xs (x3 + (1 : Int32)).toNatClampNeg) (xs (x3 + (2 : Int32)).toNatClampNeg) P_1329 HC_1329) (cwV 2 hw (gd_VL (wm6 192 rfl rfl) (wm6 193 rfl rfl) (wm6 194 rfl rfl) (wm1 13 rfl rfl) (wm6 195 rfl rfl)) rfl rfl rfl (by decide +kernel) ⟨Nat.le_of_ble_eq_true rfl, Nat.le_of_ble_eq_true rfl⟩) hK hNw hG gl_135 rfl gk_135 (by decide) rfl rfl hl.1 rfl (lv_room (Nat.le_of_ble_eq_true rfl)) dL_law_1329 ⟨hC0, hS0⟩) hG (fun r_1329 h_1329 g_1329 H locs hq hG => ?_)
                                                                        replace HW := HW r_1329 h_1329 g_1329 hq
                                                                        refine lv_pop hx hb dL_law_1332 rfl ?_
                                                                        refine lv_goto (tgt := 1451) hx hb dL_law_1333 (by decide) ?_
                                                                        exact B1451 K18 hK18 x3 h_1329 g_1329 _ _ _ HW hG (lv_sub hl [0, 1, 2, 3] rfl)
                                                                      · by_cases c_33_32 : ((xs x3.toNatClampNeg) &&& (63 : Int32)) = 32
                                                                        · replace HW := HW.2.2.2.2.2.2.2.2.2.2.2.2.2.2.2.2.2.2.2.2.2.2.2.2.2.2.2.2.2.2.2.2.1 c_33_32
                                                                          refine lv_tableIn (tgt := 1336) (off := 1303) hx hb dL_law_33 (by rw [c_33_32]; first | done | decide) (by rw [c_33_32]; first | done | decide) (by rw [c_33_32]; first | done | rfl) (by decide) ?_
                                                                          refine lv_aload_n hx hb dL_law_1336 rfl (lv_at hl 1 rfl) ?_
                                                                          refine lv_aload_n hx hb dL_law_1337 rfl (lv_at hl 0 rfl) ?_
                                                                          refine lv_iload_n hx hb dL_law_1338 rfl (lv_at hl 3 rfl) ?_
                                                                          refine lv_iconst (v := 1) hx hb dL_law_1339 (by decide) ?_
                                                                          refine lv_iadd hx hb dL_law_1340 ?_
                                                                          refine va_sld hx hb hX hbl hbA hG.2.2 HW.1 dL_law_1341 ?_
                                                                          replace HW := HW.2
                                                                          refine lv_aload_n hx hb dL_law_1342 rfl (lv_at hl 0 rfl) ?_
                                                                          refine lv_iload_n hx hb dL_law_1343 rfl (lv_at hl 3 rfl) ?_
                                                                          refine lv_iconst (v := 2) hx hb dL_law_1344 (by decide) ?_
                                                                          refine lv_iadd hx hb dL_law_1345 ?_
                                                                          refine va_sld hx hb hX hbl hbA hG.2.2 HW.1 dL_law_1346 ?_
                                                                          replace HW := HW.2
                                                                          obtain ⟨P_1347, HC_1347, HW⟩ := HW
                                                                          refine g_calli (g_runV (As := [.int (xs (x3 + (1 : Int32)).toNatClampNeg), .int (xs (x3 + (2 : Int32)).toNatClampNeg)]) (rest := []) ⟨hx, hb, hml, hown, hw⟩ (m_X10_plan l D cy ad h g H.size (xs (x3 + (1 : Int32)).toNatClampNeg) (xs (x3 + (2 : Int32)).toNatClampNeg) P_1347 HC_1347) (cwV 2 hw (gd_VL (wm4 146 rfl rfl) (wm4 147 rfl rfl) (wm4 148 rfl rfl) (wm1 1 rfl rfl) (wm4 149 rfl rfl)) rfl rfl rfl (by decide +kernel) ⟨Nat.le_of_ble_eq_true rfl, Nat.le_of_ble_eq_true rfl⟩) hK hNw hG gl_0 rfl gk_0 (by decide) rfl rfl hl.1 rfl (lv_room (Nat.le_of_ble_eq_true rfl)) dL_law_1347 ⟨hC0, hS0⟩) hG (fun r_1347 h_1347 g_1347 H locs hq hG => ?_)
                                                                          replace HW := HW r_1347 h_1347 g_1347 hq
                                                                          refine lv_pop hx hb dL_law_1350 rfl ?_
                                                                          refine lv_aload_n hx hb dL_law_1351 rfl (lv_at hl 2 rfl) ?_
                                                                          refine lv_aload_n hx hb dL_law_1352 rfl (lv_at hl 0 rfl) ?_
                                                                          refine lv_iload_n hx hb dL_law_1353 rfl (lv_at hl 3 rfl) ?_
                                                                          refine lv_iconst (v := 1) hx hb dL_law_1354 (by decide) ?_
                                                                          refine lv_iadd hx hb dL_law_1355 ?_
                                                                          refine va_sld hx hb hX hbl hbA hG.2.2 HW.1 dL_law_1356 ?_
                                                                          replace HW := HW.2
                                                                          refine lv_aload_n hx hb dL_law_1357 rfl (lv_at hl 0 rfl) ?_
                                                                          refine lv_iload_n hx hb dL_law_1358 rfl (lv_at hl 3 rfl) ?_
                                                                          refine lv_iconst (v := 2) hx hb dL_law_1359 (by decide) ?_
                                                                          refine lv_iadd hx hb dL_law_1360 ?_
                                                                          refine va_sld hx hb hX hbl hbA hG.2.2 HW.1 dL_law_1361 ?_
                                                                          replace HW := HW.2
                                                                          obtain ⟨P_1362, HC_1362, HW⟩ := HW
                                                                          refine g_calli (g_runV (As := [.int (xs (x3 + (1 : Int32)).toNatClampNeg), .int (xs (x3 + (2 : Int32)).toNatClampNeg)]) (rest := []) ⟨hx, hb, hml, hown, hw⟩ (m_X11_plan l D cy ad h_1347 g_1347 H.size (xs (x3 + (1 : Int32)).toNatClampNeg) (xs (x3 + (2 : Int32)).toNatClampNeg) P_1362 HC_1362) (cwV 2 hw (gd_VL (wm6 196 rfl rfl) (wm6 197 rfl rfl) (wm6 198 rfl rfl) (wm1 13 rfl rfl) (wm6 199 rfl rfl)) rfl rfl rfl (by decide +kernel) ⟨Nat.le_of_ble_eq_true rfl, Nat.le_of_ble_eq_true rfl⟩) hK hNw hG gl_135 rfl gk_135 (by decide) rfl rfl hl.1 rfl (lv_room (Nat.le_of_ble_eq_true rfl)) dL_law_1362 ⟨hC0, hS0⟩) hG (fun r_1362 h_1362 g_1362 H locs hq hG => ?_)
                                                                          replace HW := HW r_1362 h_1362 g_1362 hq
                                                                          refine lv_pop hx hb dL_law_1365 rfl ?_
                                                                          refine lv_goto (tgt := 1451) hx hb dL_law_1366 (by decide) ?_
                                                                          exact B1451 K18 hK18 x3 h_1362 g_1362 _ _ _ HW hG (lv_sub hl [0, 1, 2, 3] rfl)
                                                                        · by_cases c_33_33 : ((xs x3.toNatClampNeg) &&& (63 : Int32)) = 33
                                                                          · replace HW := HW.2.2.2.2.2.2.2.2.2.2.2.2.2.2.2.2.2.2.2.2.2.2.2.2.2.2.2.2.2.2.2.2.2.1 c_33_33
                                                                            refine lv_tableIn (tgt := 1369) (off := 1336) hx hb dL_law_33 (by rw [c_33_33]; first | done | decide) (by rw [c_33_33]; first | done | decide) (by rw [c_33_33]; first | done | rfl) (by decide) ?_
                                                                            refine lv_aload_n hx hb dL_law_1369 rfl (lv_at hl 1 rfl) ?_
                                                                            refine lv_aload_n hx hb dL_law_1370 rfl (lv_at hl 0 rfl) ?_
                                                                            refine lv_iload_n hx hb dL_law_1371 rfl (lv_at hl 3 rfl) ?_
                                                                            refine lv_iconst (v := 1) hx hb dL_law_1372 (by decide) ?_
                                                                            refine lv_iadd hx hb dL_law_1373 ?_
                                                                            refine va_sld hx hb hX hbl hbA hG.2.2 HW.1 dL_law_1374 ?_
                                                                            replace HW := HW.2
                                                                            obtain ⟨P_1375, HC_1375, HW⟩ := HW
                                                                            refine g_calli (g_runV (As := [.int (xs (x3 + (1 : Int32)).toNatClampNeg)]) (rest := []) ⟨hx, hb, hml, hown, hw⟩ (m_X10_image l D cy ad h g H.size (xs (x3 + (1 : Int32)).toNatClampNeg) P_1375 HC_1375) (cwV 1 hw (gd_VL (wm4 208 rfl rfl) (wm4 209 rfl rfl) (wm4 210 rfl rfl) (wm1 1 rfl rfl) (wm4 211 rfl rfl)) rfl rfl rfl (by decide +kernel) ⟨Nat.le_of_ble_eq_true rfl, Nat.le_of_ble_eq_true rfl⟩) hK hNw hG gl_0 rfl gk_0 (by decide) rfl rfl hl.1 rfl (lv_room (Nat.le_of_ble_eq_true rfl)) dL_law_1375 ⟨hC0, hS0⟩) hG (fun r_1375 h_1375 g_1375 H locs hq hG => ?_)
                                                                            replace HW := HW r_1375 h_1375 g_1375 hq
                                                                            refine lv_pop hx hb dL_law_1378 rfl ?_
                                                                            refine lv_aload_n hx hb dL_law_1379 rfl (lv_at hl 2 rfl) ?_
                                                                            refine lv_aload_n hx hb dL_law_1380 rfl (lv_at hl 0 rfl) ?_
                                                                            refine lv_iload_n hx hb dL_law_1381 rfl (lv_at hl 3 rfl) ?_
                                                                            refine lv_iconst (v := 1) hx hb dL_law_1382 (by decide) ?_
                                                                            refine lv_iadd hx hb dL_law_1383 ?_
                                                                            refine va_sld hx hb hX hbl hbA hG.2.2 HW.1 dL_law_1384 ?_
                                                                            replace HW := HW.2
                                                                            obtain ⟨P_1385, HC_1385, HW⟩ := HW
                                                                            refine g_calli (g_runV (As := [.int (xs (x3 + (1 : Int32)).toNatClampNeg)]) (rest := []) ⟨hx, hb, hml, hown, hw⟩ (m_X11_image l D cy ad h_1375 g_1375 H.size (xs (x3 + (1 : Int32)).toNatClampNeg) P_1385 HC_1385) (cwV 1 hw (gd_VL (wm6 220 rfl rfl) (wm6 221 rfl rfl) (wm6 222 rfl rfl) (wm1 13 rfl rfl) (wm6 223 rfl rfl)) rfl rfl rfl (by decide +kernel) ⟨Nat.le_of_ble_eq_true rfl, Nat.le_of_ble_eq_true rfl⟩) hK hNw hG gl_135 rfl gk_135 (by decide) rfl rfl hl.1 rfl (lv_room (Nat.le_of_ble_eq_true rfl)) dL_law_1385 ⟨hC0, hS0⟩) hG (fun r_1385 h_1385 g_1385 H locs hq hG => ?_)
                                                                            replace HW := HW r_1385 h_1385 g_1385 hq
                                                                            refine lv_pop hx hb dL_law_1388 rfl ?_
                                                                            refine lv_goto (tgt := 1451) hx hb dL_law_1389 (by decide) ?_
                                                                            exact B1451 K18 hK18 x3 h_1385 g_1385 _ _ _ HW hG (lv_sub hl [0, 1, 2, 3] rfl)
                                                                          · by_cases c_33_34 : ((xs x3.toNatClampNeg) &&& (63 : Int32)) = 34
                                                                            · replace HW := HW.2.2.2.2.2.2.2.2.2.2.2.2.2.2.2.2.2.2.2.2.2.2.2.2.2.2.2.2.2.2.2.2.2.2.1 c_33_34
                                                                              refine lv_tableIn (tgt := 1392) (off := 1359) hx hb dL_law_33 (by rw [c_33_34]; first | done | decide) (by rw [c_33_34]; first | done | decide) (by rw [c_33_34]; first | done | rfl) (by decide) ?_
                                                                              refine lv_aload_n hx hb dL_law_1392 rfl (lv_at hl 1 rfl) ?_
                                                                              refine lv_aload_n hx hb dL_law_1393 rfl (lv_at hl 0 rfl) ?_
                                                                              refine lv_iload_n hx hb dL_law_1394 rfl (lv_at hl 3 rfl) ?_
                                                                              refine lv_iconst (v := 1) hx hb dL_law_1395 (by decide) ?_
                                                                              refine lv_iadd hx hb dL_law_1396 ?_
                                                                              refine va_sld hx hb hX hbl hbA hG.2.2 HW.1 dL_law_1397 ?_
                                                                              replace HW := HW.2
                                                                              obtain ⟨P_1398, HC_1398, HW⟩ := HW
                                                                              refine g_calli (g_runV (As := [.int (xs (x3 + (1 : Int32)).toNatClampNeg)]) (rest := []) ⟨hx, hb, hml, hown, hw⟩ (m_X10_from l D cy ad h g H.size (xs (x3 + (1 : Int32)).toNatClampNeg) P_1398 HC_1398) (cwV 1 hw (gd_VL (wm4 225 rfl rfl) (wm4 226 rfl rfl) (wm4 227 rfl rfl) (wm1 1 rfl rfl) (wm4 228 rfl rfl)) rfl rfl rfl (by decide +kernel) ⟨Nat.le_of_ble_eq_true rfl, Nat.le_of_ble_eq_true rfl⟩) hK hNw hG gl_0 rfl gk_0 (by decide) rfl rfl hl.1 rfl (lv_room (Nat.le_of_ble_eq_true rfl)) dL_law_1398 ⟨hC0, hS0⟩) hG (fun r_1398 h_1398 g_1398 H locs hq hG => ?_)
                                                                              replace HW := HW r_1398 h_1398 g_1398 hq
                                                                              refine lv_aload_n hx hb dL_law_1401 rfl (lv_at hl 2 rfl) ?_
                                                                              refine lv_aload_n hx hb dL_law_1402 rfl (lv_at hl 0 rfl) ?_
                                                                              refine lv_iload_n hx hb dL_law_1403 rfl (lv_at hl 3 rfl) ?_
                                                                              refine lv_iconst (v := 1) hx hb dL_law_1404 (by decide) ?_
                                                                              refine lv_iadd hx hb dL_law_1405 ?_
                                                                              refine va_sld hx hb hX hbl hbA hG.2.2 HW.1 dL_law_1406 ?_
                                                                              replace HW := HW.2
                                                                              obtain ⟨P_1407, HC_1407, HW⟩ := HW
                                                                              refine g_calli (g_runV (As := [.int (xs (x3 + (1 : Int32)).toNatClampNeg)]) (rest := [.int r_1398]) ⟨hx, hb, hml, hown, hw⟩ (m_X11_from l D cy ad h_1398 g_1398 H.size (xs (x3 + (1 : Int32)).toNatClampNeg) P_1407 HC_1407) (cwV 1 hw (gd_VL (wm6 224 rfl rfl) (wm6 225 rfl rfl) (wm6 226 rfl rfl) (wm1 13 rfl rfl) (wm6 227 rfl rfl)) rfl rfl rfl (by decide +kernel) ⟨Nat.le_of_ble_eq_true rfl, Nat.le_of_ble_eq_true rfl⟩) hK hNw hG gl_135 rfl gk_135 (by decide) rfl rfl hl.1 rfl (lv_room (Nat.le_of_ble_eq_true rfl)) dL_law_1407 ⟨hC0, hS0⟩) hG (fun r_1407 h_1407 g_1407 H locs hq hG => ?_)
                                                                              replace HW := HW r_1407 h_1407 g_1407 hq
                                                                              refine lv_icmp_eq (tgt := 1451) hx hb dL_law_1410 (by decide) (fun c_1410 => ?_) (fun c_1410 => ?_)
                                                                              · replace HW := HW.1 c_1410
                                                                                exact B1451 K18 hK18 x3 h_1407 g_1407 _ _ _ HW hG (lv_sub hl [0, 1, 2, 3] rfl)
                                                                              · replace HW := HW.2 c_1410
                                                                                refine lv_iconst (v := 0) hx hb dL_law_1413 (by decide) ?_
                                                                                exact HW.elim
                                                                            · by_cases c_33_35 : ((xs x3.toNatClampNeg) &&& (63 : Int32)) = 35
                                                                              · replace HW := HW.2.2.2.2.2.2.2.2.2.2.2.2.2.2.2.2.2.2.2.2.2.2.2.2.2.2.2.2.2.2.2.2.2.2.2.1 c_33_35
                                                                                refine lv_tableIn (tgt := 1415) (off := 1382) hx hb dL_law_33 (by rw [c_33_35]; first | done | decide) (by rw [c_33_35]; first | done | decide) (by rw [c_33_35]; first | done | rfl) (by decide) ?_
                                                                                refine lv_aload_n hx hb dL_law_1415 rfl (lv_at hl 1 rfl) ?_
                                                                                refine lv_aload_n hx hb dL_law_1416 rfl (lv_at hl 0 rfl) ?_
                                                                                refine lv_iload_n hx hb dL_law_1417 rfl (lv_at hl 3 rfl) ?_
                                                                                refine lv_iconst (v := 1) hx hb dL_law_1418 (by decide) ?_
                                                                                refine lv_iadd hx hb dL_law_1419 ?_
                                                                                refine va_sld hx hb hX hbl hbA hG.2.2 HW.1 dL_law_1420 ?_
                                                                                replace HW := HW.2
                                                                                obtain ⟨P_1421, HC_1421, HW⟩ := HW
                                                                                refine g_calli (g_runV (As := [.int (xs (x3 + (1 : Int32)).toNatClampNeg)]) (rest := []) ⟨hx, hb, hml, hown, hw⟩ (m_X10_count l D cy ad h g H.size (xs (x3 + (1 : Int32)).toNatClampNeg) P_1421 HC_1421) (cwV 1 hw (gd_VL (wm4 229 rfl rfl) (wm4 230 rfl rfl) (wm4 231 rfl rfl) (wm1 1 rfl rfl) (wm4 232 rfl rfl)) rfl rfl rfl (by decide +kernel) ⟨Nat.le_of_ble_eq_true rfl, Nat.le_of_ble_eq_true rfl⟩) hK hNw hG gl_0 rfl gk_0 (by decide) rfl rfl hl.1 rfl (lv_room (Nat.le_of_ble_eq_true rfl)) dL_law_1421 ⟨hC0, hS0⟩) hG (fun r_1421 h_1421 g_1421 H locs hq hG => ?_)
                                                                                replace HW := HW r_1421 h_1421 g_1421 hq
                                                                                refine lv_pop hx hb dL_law_1424 rfl ?_
                                                                                refine lv_aload_n hx hb dL_law_1425 rfl (lv_at hl 2 rfl) ?_
                                                                                refine lv_aload_n hx hb dL_law_1426 rfl (lv_at hl 0 rfl) ?_
                                                                                refine lv_iload_n hx hb dL_law_1427 rfl (lv_at hl 3 rfl) ?_
                                                                                refine lv_iconst (v := 1) hx hb dL_law_1428 (by decide) ?_
                                                                                refine lv_iadd hx hb dL_law_1429 ?_
                                                                                refine va_sld hx hb hX hbl hbA hG.2.2 HW.1 dL_law_1430 ?_
                                                                                replace HW := HW.2
                                                                                obtain ⟨P_1431, HC_1431, HW⟩ := HW
                                                                                refine g_calli (g_runV (As := [.int (xs (x3 + (1 : Int32)).toNatClampNeg)]) (rest := []) ⟨hx, hb, hml, hown, hw⟩ (m_X11_count l D cy ad h_1421 g_1421 H.size (xs (x3 + (1 : Int32)).toNatClampNeg) P_1431 HC_1431) (cwV 1 hw (gd_VL (wm6 228 rfl rfl) (wm6 229 rfl rfl) (wm6 230 rfl rfl) (wm1 13 rfl rfl) (wm6 231 rfl rfl)) rfl rfl rfl (by decide +kernel) ⟨Nat.le_of_ble_eq_true rfl, Nat.le_of_ble_eq_true rfl⟩) hK hNw hG gl_135 rfl gk_135 (by decide) rfl rfl hl.1 rfl (lv_room (Nat.le_of_ble_eq_true rfl)) dL_law_1431 ⟨hC0, hS0⟩) hG (fun r_1431 h_1431 g_1431 H locs hq hG => ?_)
                                                                                replace HW := HW r_1431 h_1431 g_1431 hq
                                                                                refine lv_pop hx hb dL_law_1434 rfl ?_
                                                                                refine lv_goto (tgt := 1451) hx hb dL_law_1435 (by decide) ?_
                                                                                exact B1451 K18 hK18 x3 h_1431 g_1431 _ _ _ HW hG (lv_sub hl [0, 1, 2, 3] rfl)
                                                                              · by_cases c_33_36 : ((xs x3.toNatClampNeg) &&& (63 : Int32)) = 36
                                                                                · replace HW := HW.2.2.2.2.2.2.2.2.2.2.2.2.2.2.2.2.2.2.2.2.2.2.2.2.2.2.2.2.2.2.2.2.2.2.2.2.1 c_33_36
                                                                                  refine lv_tableIn (tgt := 1438) (off := 1405) hx hb dL_law_33 (by rw [c_33_36]; first | done | decide) (by rw [c_33_36]; first | done | decide) (by rw [c_33_36]; first | done | rfl) (by decide) ?_
                                                                                  refine lv_aload_n hx hb dL_law_1438 rfl (lv_at hl 1 rfl) ?_
                                                                                  obtain ⟨P_1439, HC_1439, HW⟩ := HW
                                                                                  refine g_calll (g_runV (As := []) (rest := []) ⟨hx, hb, hml, hown, hw⟩ (m_X10_digest l D cy ad h g H.size  P_1439 HC_1439) (cwV 0 hw (gd_VL (wm4 238 rfl rfl) (wm4 239 rfl rfl) (wm5 0 rfl rfl) (wm1 1 rfl rfl) (wm5 1 rfl rfl)) rfl rfl rfl (by decide +kernel) ⟨Nat.le_of_ble_eq_true rfl, Nat.le_of_ble_eq_true rfl⟩) hK hNw hG gl_0 rfl gk_0 (by decide) rfl rfl hl.1 rfl (lv_room (Nat.le_of_ble_eq_true rfl)) dL_law_1439 ⟨hC0, hS0⟩) hG (fun r_1439 h_1439 g_1439 H locs hq hG => ?_)
                                                                                  replace HW := HW r_1439 h_1439 g_1439 hq
                                                                                  refine lv_pop2_2 hx hb dL_law_1442 rfl ?_
                                                                                  refine lv_aload_n hx hb dL_law_1443 rfl (lv_at hl 2 rfl) ?_
                                                                                  obtain ⟨P_1444, HC_1444, HW⟩ := HW
                                                                                  refine g_calll (g_runV (As := []) (rest := []) ⟨hx, hb, hml, hown, hw⟩ (m_X11_digest l D cy ad h_1439 g_1439 H.size  P_1444 HC_1444) (cwV 0 hw (gd_VL (wm7 0 rfl rfl) (wm7 1 rfl rfl) (wm7 2 rfl rfl) (wm1 13 rfl rfl) (wm7 3 rfl rfl)) rfl rfl rfl (by decide +kernel) ⟨Nat.le_of_ble_eq_true rfl, Nat.le_of_ble_eq_true rfl⟩) hK hNw hG gl_135 rfl gk_135 (by decide) rfl rfl hl.1 rfl (lv_room (Nat.le_of_ble_eq_true rfl)) dL_law_1444 ⟨hC0, hS0⟩) hG (fun r_1444 h_1444 g_1444 H locs hq hG => ?_)
                                                                                  replace HW := HW r_1444 h_1444 g_1444 hq
                                                                                  refine lv_pop2_2 hx hb dL_law_1447 rfl ?_
                                                                                  refine lv_goto (tgt := 1451) hx hb dL_law_1448 (by decide) ?_
                                                                                  exact B1451 K18 hK18 x3 h_1444 g_1444 _ _ _ HW hG (lv_sub hl [0, 1, 2, 3] rfl)
                                                                                · replace HW := HW.2.2.2.2.2.2.2.2.2.2.2.2.2.2.2.2.2.2.2.2.2.2.2.2.2.2.2.2.2.2.2.2.2.2.2.2.2 c_33_0 c_33_1 c_33_2 c_33_3 c_33_4 c_33_5 c_33_6 c_33_7 c_33_8 c_33_9 c_33_10 c_33_11 c_33_12 c_33_13 c_33_14 c_33_15 c_33_16 c_33_17 c_33_18 c_33_19 c_33_20 c_33_21 c_33_22 c_33_23 c_33_24 c_33_25 c_33_26 c_33_27 c_33_28 c_33_29 c_33_30 c_33_31 c_33_32 c_33_33 c_33_34 c_33_35 c_33_36
                                                                                  have z_33_0 := g_ne c_33_0 (n := 0) (by decide)
                                                                                  have z_33_1 := g_ne c_33_1 (n := 1) (by decide)
                                                                                  have z_33_2 := g_ne c_33_2 (n := 2) (by decide)
                                                                                  have z_33_3 := g_ne c_33_3 (n := 3) (by decide)
                                                                                  have z_33_4 := g_ne c_33_4 (n := 4) (by decide)
                                                                                  have z_33_5 := g_ne c_33_5 (n := 5) (by decide)
                                                                                  have z_33_6 := g_ne c_33_6 (n := 6) (by decide)
                                                                                  have z_33_7 := g_ne c_33_7 (n := 7) (by decide)
                                                                                  have z_33_8 := g_ne c_33_8 (n := 8) (by decide)
                                                                                  have z_33_9 := g_ne c_33_9 (n := 9) (by decide)
                                                                                  have z_33_10 := g_ne c_33_10 (n := 10) (by decide)
                                                                                  have z_33_11 := g_ne c_33_11 (n := 11) (by decide)
                                                                                  have z_33_12 := g_ne c_33_12 (n := 12) (by decide)
                                                                                  have z_33_13 := g_ne c_33_13 (n := 13) (by decide)
                                                                                  have z_33_14 := g_ne c_33_14 (n := 14) (by decide)
                                                                                  have z_33_15 := g_ne c_33_15 (n := 15) (by decide)
                                                                                  have z_33_16 := g_ne c_33_16 (n := 16) (by decide)
                                                                                  have z_33_17 := g_ne c_33_17 (n := 17) (by decide)
                                                                                  have z_33_18 := g_ne c_33_18 (n := 18) (by decide)
                                                                                  have z_33_19 := g_ne c_33_19 (n := 19) (by decide)
                                                                                  have z_33_20 := g_ne c_33_20 (n := 20) (by decide)
                                                                                  have z_33_21 := g_ne c_33_21 (n := 21) (by decide)
                                                                                  have z_33_22 := g_ne c_33_22 (n := 22) (by decide)
                                                                                  have z_33_23 := g_ne c_33_23 (n := 23) (by decide)
                                                                                  have z_33_24 := g_ne c_33_24 (n := 24) (by decide)
                                                                                  have z_33_25 := g_ne c_33_25 (n := 25) (by decide)
                                                                                  have z_33_26 := g_ne c_33_26 (n := 26) (by decide)
                                                                                  have z_33_27 := g_ne c_33_27 (n := 27) (by decide)
                                                                                  have z_33_28 := g_ne c_33_28 (n := 28) (by decide)
                                                                                  have z_33_29 := g_ne c_33_29 (n := 29) (by decide)
                                                                                  have z_33_30 := g_ne c_33_30 (n := 30) (by decide)
                                                                                  have z_33_31 := g_ne c_33_31 (n := 31) (by decide)
                                                                                  have z_33_32 := g_ne c_33_32 (n := 32) (by decide)
                                                                                  have z_33_33 := g_ne c_33_33 (n := 33) (by decide)
                                                                                  have z_33_34 := g_ne c_33_34 (n := 34) (by decide)
                                                                                  have z_33_35 := g_ne c_33_35 (n := 35) (by decide)
                                                                                  have z_33_36 := g_ne c_33_36 (n := 36) (by decide)
                                                                                  refine lv_tableOut (tgt := 1451) hx hb dL_law_33 (by omega) (by decide) ?_
                                                                                  exact B1451 K18 hK18 x3 h g _ _ _ HW hG (lv_sub hl [0, 1, 2, 3] rfl)
  unfold w_law at HW
  rw [hQ] at HW
  obtain ⟨n, HW⟩ := HW
  exact L18 n 0 h g _ _ _ HW hG hl
