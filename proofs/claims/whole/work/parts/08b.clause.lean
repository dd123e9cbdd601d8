/-! clauses: what the class and the reference ask of one -/
def tru (p a r : Nat) : Nat := pc (p &&& r) + pc (a &&& (1023 ^^^ r))
def wid (p a : Nat) : Nat := pc (p ||| a)
def hvI (x0 x1 x2 : Int32) : Int32 := match fX2_holds x0 x1 x2 zk_z0 with | some (r, _) => r | none => 0
def hv9 (x0 x1 x2 : Int32) : Int32 := match fX9_holds x0 x1 x2 zk_z0 with | some (r, _) => r | none => 0
def wvI (x0 x1 x2 : Int32) : Int32 := match fX2_worth x0 x1 x2 zk_z0 with | some (r, _) => r | none => 0
def wv9 (x0 x1 x2 : Int32) : Int32 := match fX9_worth x0 x1 x2 zk_z0 with | some (r, _) => r | none => 0
theorem e2_holds (x0 x1 x2 : Int32) (z : zk_Z) : fX2_holds x0 x1 x2 z = some (hvI x0 x1 x2, z) := by
  unfold hvI fX2_holds
  repeat' split
  all_goals first | rfl | (simp_all; done)
theorem e9_holds (x0 x1 x2 : Int32) (z : zk_Z) : fX9_holds x0 x1 x2 z = some (hv9 x0 x1 x2, z) := by
  unfold hv9 fX9_holds
  repeat' split
  all_goals first | rfl | (simp_all; done)
theorem e2_worth (x0 x1 x2 : Int32) (z : zk_Z) : fX2_worth x0 x1 x2 z = some (wvI x0 x1 x2, z) := by
  unfold wvI fX2_worth
  rw [e2_holds, e2_holds, zb_some, zb_some]
  unfold fX2_worth_B14 fX2_worth_B28
  repeat' split
  all_goals first | rfl | (simp_all; done)
theorem e9_worth (x0 x1 x2 : Int32) (z : zk_Z) : fX9_worth x0 x1 x2 z = some (wv9 x0 x1 x2, z) := by
  unfold wv9 fX9_worth
  rw [e9_holds, e9_holds, zb_some, zb_some]
  unfold fX9_worth_B14 fX9_worth_B30
  repeat' split
  all_goals first | rfl | (simp_all; done)
set_option maxRecDepth 100000 in
theorem hv_fin : ∀ kd, kd < 6 → ∀ i, i < 21 → ∀ w, w < 11 → 1 ≤ w → hv9 (nI kd) (nI i) (nI w) = hvI (nI kd) (nI i) (nI w) := by decide +kernel
set_option maxRecDepth 100000 in
theorem wv_fin : ∀ kd, kd < 6 → ∀ i, i < 21 → ∀ w, w < 11 → 1 ≤ w → wv9 (nI kd) (nI i) (nI w) = wvI (nI kd) (nI i) (nI w) := by decide +kernel
set_option maxRecDepth 100000 in
theorem hv_bool : ∀ kd, kd < 6 → ∀ i, i < 21 → ∀ w, w < 11 → (hvI (nI kd) (nI i) (nI w) = 0 ∨ hvI (nI kd) (nI i) (nI w) = 1) := by decide +kernel
theorem bz_bool {v : Int32} (h : v = 0 ∨ v = 1) : zk_bz v = true := by rcases h with rfl | rfl <;> rfl
/-- a task, as the class has it at k, as the reference has it at t -/
def TC (z : zk_Z) (k kd n C : Nat) (P A : Nat → Nat) : Prop := (z.1 7 k 0 = nI kd ∧ z.1 7 k 1 = nI n ∧ z.1 7 k 2 = nI C) ∧ ∀ c, c < C → z.1 8 k c = nI (P c) ∧ z.1 9 k c = nI (A c)
def TM (z : zk_Z) (t kd n C : Nat) (P A : Nat → Nat) : Prop := (z.1 27 0 t = nI kd ∧ z.1 28 0 t = nI n ∧ z.1 29 0 t = nI C) ∧ ∀ c, c < C → z.1 33 0 (24 * t + c) = nI (P c) ∧ z.1 34 0 (24 * t + c) = nI (A c)
def TOK (kd n C : Nat) (P A : Nat → Nat) : Prop := (kd < 6 ∧ 1 ≤ n ∧ n ≤ 10 ∧ C ≤ 24) ∧ ∀ c, c < C → (P c < 2 ^ n ∧ A c < 2 ^ n) ∧ P c &&& A c = 0 ∧ 1 ≤ wid (P c) (A c) ∧ wid (P c) (A c) ≤ 3
theorem p2_le {n : Nat} (h : n ≤ 10) : 2 ^ n ≤ 1024 := Nat.pow_le_pow_right (by decide) h
def hC (kd : Nat) (P A : Nat → Nat) (c r : Nat) : Int32 := hvI (nI kd) (nI (tru (P c) (A c) r)) (nI (wid (P c) (A c)))
theorem tru_or {p a r : Nat} (hp : p < 1024) (ha : a < 1024) (hr : r < 1024) : pc ((p &&& r) ||| (a &&& (1023 ^^^ r))) = tru p a r := by
  refine pc_or (fun i hi => ?_)
  rw [Nat.testBit_and, Nat.testBit_and, Nat.testBit_xor, show (1023 : Nat) = 2 ^ 10 - 1 from rfl, Nat.testBit_two_pow_sub_one, decide_eq_true hi]
  cases p.testBit i <;> cases a.testBit i <;> cases r.testBit i <;> simp
theorem and_lt {a b N : Nat} (h : a < N) : a &&& b < N := Nat.lt_of_le_of_lt Nat.and_le_left h
theorem or_lt10 {a b : Nat} (h : a < 1024) (h' : b < 1024) : a ||| b < 1024 := Nat.or_lt_two_pow (n := 10) h h'
theorem e7_trueOnes {z : zk_Z} {k kd n C c r : Nat} {P A : Nat → Nat} (T : TC z k kd n C P A) (O : TOK kd n C P A) (hc : c < C) (hr : r < 1024) : fX7_trueOnes k (nI c) (nI r) z = some (nI (tru (P c) (A c) r), z) := by
  have hp := Nat.lt_of_lt_of_le (O.2 c hc).1.1 (p2_le O.1.2.2.1)
  have ha := Nat.lt_of_lt_of_le (O.2 c hc).1.2 (p2_le O.1.2.2.1)
  have h24 := O.1.2.2.2
  rw [fX7_trueOnes, zx_nI (by omega) (by decide), zg_t, zg_t, nI_clamp (by omega), (T.2 c hc).1, (T.2 c hc).2, nI_and, nI_not ha hr, nI_or, e_bc (or_lt10 (and_lt hp) (and_lt ha)), zb_some, tru_or hp ha hr]
theorem e7_width {z : zk_Z} {k kd n C c : Nat} {P A : Nat → Nat} (T : TC z k kd n C P A) (O : TOK kd n C P A) (hc : c < C) : fX7_width k (nI c) z = some (nI (wid (P c) (A c)), z) := by
  have hp := Nat.lt_of_lt_of_le (O.2 c hc).1.1 (p2_le O.1.2.2.1)
  have ha := Nat.lt_of_lt_of_le (O.2 c hc).1.2 (p2_le O.1.2.2.1)
  have h24 := O.1.2.2.2
  rw [fX7_width, zx_nI (by omega) (by decide), zg_t, zg_t, nI_clamp (by omega), (T.2 c hc).1, (T.2 c hc).2, nI_or, e_bc (or_lt10 hp ha), zb_some]; rfl
theorem tru_le (p a r : Nat) : tru p a r < 21 := by have := pc_le (p &&& r); have := pc_le (a &&& (1023 ^^^ r)); unfold tru; omega
theorem hC_bool {kd n C c r : Nat} {P A : Nat → Nat} (O : TOK kd n C P A) (hc : c < C) : hC kd P A c r = 0 ∨ hC kd P A c r = 1 :=
  hv_bool kd O.1.1 _ (tru_le _ _ _) _ (by have := (O.2 c hc).2.2.2; omega)
theorem e7_holds {z : zk_Z} {k kd n C c r : Nat} {P A : Nat → Nat} (T : TC z k kd n C P A) (O : TOK kd n C P A) (hc : c < C) (hr : r < 1024) : fX7_holds k (nI c) (nI r) z = some (hC kd P A c r, z) := by
  rw [fX7_holds, e7_trueOnes T O hc hr, zb_some, e7_width T O hc, zb_some, T.1.1, e2_holds, zb_some]
  show zk_gd (zk_bz (hC kd P A c r)) _ = _
  rw [bz_bool (hC_bool O hc), zg_t]; rfl
/-- the first clause that is broken, of the d from c on -/
def bkN (kd : Nat) (P A : Nat → Nat) (r : Nat) : Nat → Nat → Option Nat
  | 0, _ => none
  | d + 1, c => if hC kd P A c r = 0 then some c else bkN kd P A r d (c + 1)
def oi (o : Option Nat) : Int32 := match o with | none => -1 | some c => nI c
theorem e7_broken_L {z : zk_Z} {k kd n C r : Nat} {P A : Nat → Nat} (T : TC z k kd n C P A) (O : TOK kd n C P A) (hr : r < 1024) : ∀ d m c : Nat, c + d = C → d < m → fX7_brokenFrom_L2 k m (nI r) (nI c) z = some (oi (bkN kd P A r d c), z) := by
  have h24 := O.1.2.2.2
  intro d
  induction d with
  | zero =>
    intro m c h1 h2
    obtain ⟨m, rfl⟩ : ∃ j, m = j + 1 := ⟨m - 1, by omega⟩
    rw [fX7_brokenFrom_L2, T.1.2.2, if_pos (by rw [nI_leI (by omega) (by omega)]; omega)]; rfl
  | succ d ih =>
    intro m c h1 h2
    obtain ⟨m, rfl⟩ : ∃ j, m = j + 1 := ⟨m - 1, by omega⟩
    rw [fX7_brokenFrom_L2, T.1.2.2, if_neg (by rw [nI_leI (by omega) (by omega)]; omega), e7_holds T O (by omega) hr, zb_some, bkN]
    by_cases h : hC kd P A c r = 0
    · rw [if_pos h, if_pos h]; rfl
    · rw [if_neg h, if_neg h, nI_1]; exact ih m (c + 1) (by omega) (by omega)
theorem e7_broken {z : zk_Z} {k kd n C r c : Nat} {P A : Nat → Nat} (T : TC z k kd n C P A) (O : TOK kd n C P A) (hr : r < 1024) (hc : c ≤ C) : fX7_brokenFrom k (nI c) (nI r) z = some (oi (bkN kd P A r (C - c) c), z) := by
  have h24 := O.1.2.2.2
  exact e7_broken_L T O hr (C - c) zk_FU c (by omega) (by show C - c < 6000; omega)
def sol (kd C : Nat) (P A : Nat → Nat) (r : Nat) : Bool := (bkN kd P A r C 0).isNone
def bi (b : Bool) : Int32 := if b then 1 else 0
theorem bkN_lt {kd : Nat} {P A : Nat → Nat} {r : Nat} : ∀ d c j, bkN kd P A r d c = some j → c ≤ j ∧ j < c + d := by
  intro d
  induction d with
  | zero => intro c j h; cases h
  | succ d ih =>
    intro c j h
    rw [bkN] at h
    by_cases h0 : hC kd P A c r = 0
    · rw [if_pos h0] at h; cases h; omega
    · rw [if_neg h0] at h; have := ih _ _ h; omega
theorem e7_solved {z : zk_Z} {k kd n C r : Nat} {P A : Nat → Nat} (T : TC z k kd n C P A) (O : TOK kd n C P A) (hr : r < 1024) : fX7_isSolvedBy k (nI r) z = some (bi (sol kd C P A r), z) := by
  have h24 := O.1.2.2.2
  rw [fX7_isSolvedBy, show (0 : Int32) = nI 0 from rfl, e7_broken T O hr (Nat.zero_le _), zb_some, Nat.sub_zero]
  unfold sol
  cases h : bkN kd P A r C 0 with
  | none => rfl
  | some j =>
    have := bkN_lt _ _ _ h
    show (if nI 0 ≤ nI j then _ else _) = _
    rw [if_pos (by rw [nI_leI (by omega) (by omega)]; omega)]; rfl
/-! the reference's -/
theorem nI_24 (t c : Nat) : 24 * nI t + nI c = nI (24 * t + c) := by rw [show (24 : Int32) = nI 24 from rfl, pk_mul, nI_add]
theorem e9_is {z : zk_Z} {t kd n C c r : Nat} {P A : Nat → Nat} (T : TM z t kd n C P A) (O : TOK kd n C P A) (ht : t < 9) (hc : c < C) (hr : r < 1024) : fX9_is (nI (24 * t + c)) (nI r) z = some (nI (tru (P c) (A c) r), z) := by
  have hp := Nat.lt_of_lt_of_le (O.2 c hc).1.1 (p2_le O.1.2.2.1)
  have ha := Nat.lt_of_lt_of_le (O.2 c hc).1.2 (p2_le O.1.2.2.1)
  have h24 := O.1.2.2.2
  rw [fX9_is, zx_nI (by omega) (by decide), zg_t, nI_clamp (by omega), (T.2 c hc).1, nI_and, e_ones (and_lt hp), zb_some, zg_t, (T.2 c hc).2, nI_not ha hr, e_ones (and_lt ha), zb_some, nI_add]; rfl
theorem e9_wide {z : zk_Z} {t kd n C c : Nat} {P A : Nat → Nat} (T : TM z t kd n C P A) (O : TOK kd n C P A) (ht : t < 9) (hc : c < C) : fX9_wide (nI (24 * t + c)) z = some (nI (wid (P c) (A c)), z) := by
  have hp := Nat.lt_of_lt_of_le (O.2 c hc).1.1 (p2_le O.1.2.2.1)
  have ha := Nat.lt_of_lt_of_le (O.2 c hc).1.2 (p2_le O.1.2.2.1)
  have h24 := O.1.2.2.2
  rw [fX9_wide, zx_nI (by omega) (by decide), zg_t, zg_t, nI_clamp (by omega), (T.2 c hc).1, (T.2 c hc).2, nI_or, e_ones (or_lt10 hp ha), zb_some]; rfl
theorem hv9_C {kd n C c : Nat} {P A : Nat → Nat} (r : Nat) (O : TOK kd n C P A) (hc : c < C) : hv9 (nI kd) (nI (tru (P c) (A c) r)) (nI (wid (P c) (A c))) = hC kd P A c r :=
  hv_fin kd O.1.1 _ (tru_le _ _ _) _ (by have := (O.2 c hc).2.2.2; omega) (O.2 c hc).2.2.1
theorem e9_broken_L {z : zk_Z} {t kd n C r : Nat} {P A : Nat → Nat} (T : TM z t kd n C P A) (O : TOK kd n C P A) (ht : t < 9) (hr : r < 1024) : ∀ d m c : Nat, c + d = C → d < m → fX9_firstBroken_L2 m (nI t) (nI r) (nI c) z = some (oi (bkN kd P A r d c), z) := by
  have h24 := O.1.2.2.2
  intro d
  induction d with
  | zero =>
    intro m c h1 h2
    obtain ⟨m, rfl⟩ : ∃ j, m = j + 1 := ⟨m - 1, by omega⟩
    rw [fX9_firstBroken_L2, zx_nI ht (by decide), zg_t, nI_clamp (by omega), T.1.2.2, if_pos (by rw [nI_leI (by omega) (by omega)]; omega)]; rfl
  | succ d ih =>
    intro m c h1 h2
    obtain ⟨m, rfl⟩ : ∃ j, m = j + 1 := ⟨m - 1, by omega⟩
    rw [fX9_firstBroken_L2, zx_nI ht (by decide), zg_t, nI_clamp (by omega), T.1.2.2, if_neg (by rw [nI_leI (by omega) (by omega)]; omega), zg_t, nI_24, e9_is T O ht (by omega) hr, zb_some, e9_wide T O ht (by omega), zb_some, T.1.1, e9_holds, zb_some, hv9_C r O (by omega), bkN]
    by_cases h : hC kd P A c r = 0
    · rw [if_pos h, if_pos h]; rfl
    · rw [if_neg h, if_neg h, nI_1]; exact ih m (c + 1) (by omega) (by omega)
theorem e9_broken {z : zk_Z} {t kd n C r : Nat} {P A : Nat → Nat} (T : TM z t kd n C P A) (O : TOK kd n C P A) (ht : t < 9) (hr : r < 1024) : fX9_firstBroken (nI t) (nI r) z = some (oi (bkN kd P A r C 0), z) := by
  have h24 := O.1.2.2.2
  exact e9_broken_L T O ht hr C zk_FU 0 (by omega) (by show C < 6000; omega)
theorem oi_m1 {o : Option Nat} (h : ∀ j, o = some j → j < 2000) : (oi o = -1) ↔ o = none := by
  cases o with
  | none => exact ⟨fun _ => rfl, fun _ => rfl⟩
  | some j =>
    refine ⟨fun q => ?_, fun q => by cases q⟩
    exfalso
    have hj := h j rfl
    have h1 : nI j = nI 4294967295 := by rw [nI_m1]; exact q
    have := nI_inj (by omega) (by decide) h1
    omega
theorem e9_solve {z : zk_Z} {t kd n C r : Nat} {P A : Nat → Nat} (T : TM z t kd n C P A) (O : TOK kd n C P A) (ht : t < 9) (hr : r < 1024) : fX9_doesSolve (nI t) (nI r) z = some (bi (sol kd C P A r), z) := by
  have h24 := O.1.2.2.2
  have hj : ∀ j, bkN kd P A r C 0 = some j → j < 2000 := fun j h => by have := bkN_lt _ _ _ h; omega
  rw [fX9_doesSolve, e9_broken T O ht hr, zb_some]
  unfold sol
  by_cases h : bkN kd P A r C 0 = none
  · rw [if_pos ((oi_m1 hj).mpr h), h]; rfl
  · rw [if_neg (fun q => h ((oi_m1 hj).mp q))]
    cases h' : bkN kd P A r C 0 with
    | none => exact absurd h' h
    | some j => rfl
