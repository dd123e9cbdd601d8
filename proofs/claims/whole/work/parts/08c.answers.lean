/-! answers: how many, which, the nearest -/
def cn (f : Nat → Bool) : Nat → Nat → Nat | 0, _ => 0 | d + 1, r => (f r).toNat + cn f d (r + 1)
theorem cn_le (f : Nat → Bool) : ∀ d r, cn f d r ≤ d := by
  intro d
  induction d with
  | zero => intro r; exact Nat.le_refl 0
  | succ d ih =>
    intro r
    have := ih (r + 1)
    have h2 : (f r).toNat ≤ 1 := by cases f r <;> decide
    rw [cn]; omega
theorem cn_congr {f g : Nat → Bool} : ∀ d r, (∀ q, r ≤ q → q < r + d → f q = g q) → cn f d r = cn g d r := by
  intro d
  induction d with
  | zero => intro r _; rfl
  | succ d ih =>
    intro r h
    rw [cn, cn, h r (Nat.le_refl _) (by omega), ih (r + 1) (fun q h1 h2 => h q (by omega) (by omega))]
theorem bi_0 {b : Bool} : bi b = 0 ↔ b = false := by cases b <;> decide
theorem bi_n0 {b : Bool} (h : b = true) : ¬ bi b = 0 := by subst h; decide
def fAns (kd C : Nat) (P A : Nat → Nat) (fx as : Int32) (q : Nat) : Bool := decide ((nI q &&& fx) = as) && sol kd C P A q
theorem fAns_t {kd C : Nat} {P A : Nat → Nat} {fx as : Int32} {q : Nat} (h : (nI q &&& fx) = as) (s : sol kd C P A q = true) : fAns kd C P A fx as q = true := by unfold fAns; rw [decide_eq_true h, s]; rfl
theorem fAns_f1 {kd C : Nat} {P A : Nat → Nat} {fx as : Int32} {q : Nat} (h : ¬ (nI q &&& fx) = as) : fAns kd C P A fx as q = false := by unfold fAns; rw [decide_eq_false h]; rfl
theorem fAns_f2 {kd C : Nat} {P A : Nat → Nat} {fx as : Int32} {q : Nat} (s : sol kd C P A q = false) : fAns kd C P A fx as q = false := by unfold fAns; rw [s, Bool.and_false]
theorem e7_rows {z : zk_Z} {k kd n C : Nat} {P A : Nat → Nat} (T : TC z k kd n C P A) (O : TOK kd n C P A) : fX7_rows k z = some (nI (2 ^ n), z) := by
  rw [fX7_rows, T.1.2.1, nI_shl (by have := O.1.2.2.1; omega)]
theorem e7_count_L {z : zk_Z} {k kd n C : Nat} {P A : Nat → Nat} (T : TC z k kd n C P A) (O : TOK kd n C P A) (fx as : Int32) : ∀ d m r acc : Nat, r + d = 2 ^ n → d < m → fX7_countAnswers_L5 k m fx as (nI acc) (nI r) z = some (nI (acc + cn (fAns kd C P A fx as) d r), z) := by
  have hN := p2_le O.1.2.2.1
  intro d
  induction d with
  | zero =>
    intro m r acc h1 h2
    obtain ⟨m, rfl⟩ : ∃ j, m = j + 1 := ⟨m - 1, by omega⟩
    rw [fX7_countAnswers_L5, e7_rows T O, zb_some, if_pos (by rw [nI_leI (by omega) (by omega)]; omega)]; rfl
  | succ d ih =>
    intro m r acc h1 h2
    obtain ⟨m, rfl⟩ : ∃ j, m = j + 1 := ⟨m - 1, by omega⟩
    rw [fX7_countAnswers_L5, e7_rows T O, zb_some, if_neg (by rw [nI_leI (by omega) (by omega)]; omega), cn]
    by_cases h : (nI r &&& fx) = as
    · rw [if_pos h, e7_solved T O (by omega), zb_some]
      cases hs : sol kd C P A r with
      | false => rw [if_pos (bi_0.mpr rfl), fX7_countAnswers_B34, nI_1, ih m (r + 1) acc (by omega) (by omega), fAns_f2 hs]; congr 3; simp
      | true => rw [if_neg (bi_n0 rfl), fX7_countAnswers_B34, nI_1, nI_1, ih m (r + 1) (acc + 1) (by omega) (by omega), fAns_t h hs]; congr 3; simp; omega
    · rw [if_neg h, fX7_countAnswers_B34, nI_1, ih m (r + 1) acc (by omega) (by omega), fAns_f1 h]; congr 3; simp
theorem e7_count {z : zk_Z} {k kd n C : Nat} {P A : Nat → Nat} (T : TC z k kd n C P A) (O : TOK kd n C P A) (fx as : Int32) : fX7_countAnswers k fx as z = some (nI (cn (fAns kd C P A fx as) (2 ^ n) 0), z) := by
  have hN := p2_le O.1.2.2.1
  rw [fX7_countAnswers, show (0 : Int32) = nI 0 from rfl, e7_count_L T O fx as (2 ^ n) zk_FU 0 0 (by omega) (by show 2 ^ n < 6000; omega), Nat.zero_add]
theorem e9_rows {z : zk_Z} {t kd n C : Nat} {P A : Nat → Nat} (T : TM z t kd n C P A) (O : TOK kd n C P A) : (1 : Int32) <<< (z.1 28 0 t &&& 31) = nI (2 ^ n) := by
  rw [T.1.2.1, nI_shl (by have := O.1.2.2.1; omega)]
theorem e9_count_L {z : zk_Z} {t kd n C : Nat} {P A : Nat → Nat} (T : TM z t kd n C P A) (O : TOK kd n C P A) (ht : t < 9) (fx as : Int32) : ∀ d m r acc : Nat, r + d = 2 ^ n → d < m → fX9_answersOf_L6 m (nI t) fx as (nI acc) (nI r) z = some (nI (acc + cn (fAns kd C P A fx as) d r), z) := by
  have hN := p2_le O.1.2.2.1
  intro d
  induction d with
  | zero =>
    intro m r acc h1 h2
    obtain ⟨m, rfl⟩ : ∃ j, m = j + 1 := ⟨m - 1, by omega⟩
    rw [fX9_answersOf_L6, zx_nI ht (by decide), zg_t, nI_clamp (by omega), e9_rows T O, if_pos (by rw [nI_leI (by omega) (by omega)]; omega)]; rfl
  | succ d ih =>
    intro m r acc h1 h2
    obtain ⟨m, rfl⟩ : ∃ j, m = j + 1 := ⟨m - 1, by omega⟩
    rw [fX9_answersOf_L6, zx_nI ht (by decide), zg_t, nI_clamp (by omega), e9_rows T O, if_neg (by rw [nI_leI (by omega) (by omega)]; omega), cn]
    by_cases h : (nI r &&& fx) = as
    · rw [if_pos h, e9_solve T O ht (by omega), zb_some]
      cases hs : sol kd C P A r with
      | false => rw [if_pos (bi_0.mpr rfl), fX9_answersOf_B43, fX9_answersOf_B44, show nI acc + 0 = nI acc from by rw [show (0 : Int32) = nI 0 from rfl, nI_add]; rfl, nI_1, ih m (r + 1) acc (by omega) (by omega), fAns_f2 hs]; congr 3; simp
      | true => rw [if_neg (bi_n0 rfl), fX9_answersOf_B44, nI_1, nI_1, ih m (r + 1) (acc + 1) (by omega) (by omega), fAns_t h hs]; congr 3; simp; omega
    · rw [if_neg h, fX9_answersOf_B43, fX9_answersOf_B44, show nI acc + 0 = nI acc from by rw [show (0 : Int32) = nI 0 from rfl, nI_add]; rfl, nI_1, ih m (r + 1) acc (by omega) (by omega), fAns_f1 h]; congr 3; simp
theorem e9_count {z : zk_Z} {t kd n C : Nat} {P A : Nat → Nat} (T : TM z t kd n C P A) (O : TOK kd n C P A) (ht : t < 9) (fx as : Int32) : fX9_answersOf (nI t) fx as z = some (nI (cn (fAns kd C P A fx as) (2 ^ n) 0), z) := by
  have hN := p2_le O.1.2.2.1
  rw [fX9_answersOf, show (0 : Int32) = nI 0 from rfl, e9_count_L T O ht fx as (2 ^ n) zk_FU 0 0 (by omega) (by show 2 ^ n < 6000; omega), Nat.zero_add]
/-- the i-th answer -/
def anS (f : Nat → Bool) (i : Int32) : Nat → Nat → Nat → Int32
  | 0, _, _ => -1
  | d + 1, r, a => if f r = true then (if nI a = i then nI r else anS f i d (r + 1) (a + 1)) else anS f i d (r + 1) a
theorem e8_answer_L {z : zk_Z} {k kd n C : Nat} {P A : Nat → Nat} (T : TC z k kd n C P A) (O : TOK kd n C P A) (i : Int32) : ∀ d m r a : Nat, r + d = 2 ^ n → d < m → fX8_answer_L19 m i k (nI a) (nI r) z = some (anS (sol kd C P A) i d r a, z) := by
  have hN := p2_le O.1.2.2.1
  intro d
  induction d with
  | zero =>
    intro m r a h1 h2
    obtain ⟨m, rfl⟩ : ∃ j, m = j + 1 := ⟨m - 1, by omega⟩
    rw [fX8_answer_L19, e7_rows T O, zb_some, if_pos (by rw [nI_leI (by omega) (by omega)]; omega)]; rfl
  | succ d ih =>
    intro m r a h1 h2
    obtain ⟨m, rfl⟩ : ∃ j, m = j + 1 := ⟨m - 1, by omega⟩
    rw [fX8_answer_L19, e7_rows T O, zb_some, if_neg (by rw [nI_leI (by omega) (by omega)]; omega), e7_solved T O (by omega), zb_some, anS]
    cases hs : sol kd C P A r with
    | false => rw [if_pos (bi_0.mpr rfl), if_neg (by decide), fX8_answer_B49, nI_1, ih m (r + 1) a (by omega) (by omega)]
    | true =>
      rw [if_neg (bi_n0 rfl), if_pos rfl]
      by_cases h : nI a = i
      · rw [if_pos h, if_pos h]
      · rw [if_neg h, if_neg h, fX8_answer_B49, nI_1, nI_1, ih m (r + 1) (a + 1) (by omega) (by omega)]
theorem e9_answer_L {z : zk_Z} {t kd n C : Nat} {P A : Nat → Nat} (T : TM z t kd n C P A) (O : TOK kd n C P A) (ht : t < 9) (i : Int32) : ∀ d m r a : Nat, r + d = 2 ^ n → d < m → fX9_answer_L16 m (nI t) i (nI a) (nI r) z = some (anS (sol kd C P A) i d r a, z) := by
  have hN := p2_le O.1.2.2.1
  intro d
  induction d with
  | zero =>
    intro m r a h1 h2
    obtain ⟨m, rfl⟩ : ∃ j, m = j + 1 := ⟨m - 1, by omega⟩
    rw [fX9_answer_L16, zx_nI ht (by decide), zg_t, nI_clamp (by omega), e9_rows T O, if_pos (by rw [nI_leI (by omega) (by omega)]; omega)]; rfl
  | succ d ih =>
    intro m r a h1 h2
    obtain ⟨m, rfl⟩ : ∃ j, m = j + 1 := ⟨m - 1, by omega⟩
    rw [fX9_answer_L16, zx_nI ht (by decide), zg_t, nI_clamp (by omega), e9_rows T O, if_neg (by rw [nI_leI (by omega) (by omega)]; omega), e9_solve T O ht (by omega), zb_some, anS]
    cases hs : sol kd C P A r with
    | false => rw [if_pos (bi_0.mpr rfl), if_neg (by decide), fX9_answer_B50, nI_1, ih m (r + 1) a (by omega) (by omega)]
    | true =>
      rw [if_neg (bi_n0 rfl), if_pos rfl]
      by_cases h : nI a = i
      · rw [if_pos h, if_pos h]
      · rw [if_neg h, if_neg h, fX9_answer_B50, nI_1, nI_1, ih m (r + 1) (a + 1) (by omega) (by omega)]
/-- the nearest -/
def neS (f : Nat → Bool) (q : Nat) : Nat → Nat → Option Nat → Option Nat
  | 0, _, b => b
  | d + 1, r, b => neS f q d (r + 1) (if f r = true ∧ (∀ j, b = some j → pc (r ^^^ q) < pc (j ^^^ q)) then some r else b)
def leS (q : Nat) (b : Option Nat) : Nat := match b with | none => 11 | some j => pc (j ^^^ q)
theorem leS_iff {q v : Nat} {b : Option Nat} (hv : v ≤ 10) : (v < leS q b) ↔ ∀ j, b = some j → v < pc (j ^^^ q) := by
  cases b with
  | none => exact ⟨fun _ j h => (by cases h), fun _ => (by show v < 11; omega)⟩
  | some j => exact ⟨fun h j' e => by cases e; exact h, fun h => h j rfl⟩
theorem xor_lt10 {a b : Nat} (h : a < 1024) (h' : b < 1024) : a ^^^ b < 1024 := Nat.xor_lt_two_pow (n := 10) h h'
theorem e8_nearest_L {z : zk_Z} {k kd n C q : Nat} {P A : Nat → Nat} (T : TC z k kd n C P A) (O : TOK kd n C P A) (hq : q < 1024) : ∀ d m r (b : Option Nat), r + d = 2 ^ n → d < m → fX8_nearest_L37 m (nI q) k (oi b) (nI (leS q b)) (nI r) z = some (oi (neS (sol kd C P A) q d r b), z) := by
  have hN := p2_le O.1.2.2.1
  intro d
  induction d with
  | zero =>
    intro m r b h1 h2
    obtain ⟨m, rfl⟩ : ∃ j, m = j + 1 := ⟨m - 1, by omega⟩
    rw [fX8_nearest_L37, e7_rows T O, zb_some, if_pos (by rw [nI_leI (by omega) (by omega)]; omega)]; rfl
  | succ d ih =>
    intro m r b h1 h2
    obtain ⟨m, rfl⟩ : ∃ j, m = j + 1 := ⟨m - 1, by omega⟩
    have hl : leS q b ≤ 11 := by
      cases b with
      | none => exact Nat.le_refl _
      | some j => have := pc_le (j ^^^ q); show pc (j ^^^ q) ≤ 11; omega
    have hp := pc_le (r ^^^ q)
    rw [fX8_nearest_L37, e7_rows T O, zb_some, if_neg (by rw [nI_leI (by omega) (by omega)]; omega), nI_xor, e_bc (xor_lt10 (by omega) hq), zb_some, neS]
    by_cases h : pc (r ^^^ q) < leS q b
    · rw [if_neg (by rw [nI_leI (by omega) (by omega)]; omega), e7_solved T O (by omega), zb_some]
      cases hs : sol kd C P A r with
      | false => rw [if_pos (bi_0.mpr rfl), fX8_nearest_B79, nI_1, ih m (r + 1) b (by omega) (by omega), if_neg (by rintro ⟨h, -⟩; cases h)]
      | true =>
        rw [if_neg (bi_n0 rfl), fX8_nearest_B79, nI_1, if_pos ⟨rfl, (leS_iff hp).mp h⟩]
        exact ih m (r + 1) (some r) (by omega) (by omega)
    · rw [if_pos (by rw [nI_leI (by omega) (by omega)]; omega), fX8_nearest_B79, nI_1, ih m (r + 1) b (by omega) (by omega), if_neg (fun x => h ((leS_iff hp).mpr x.2))]
theorem e9_nearest_L {z : zk_Z} {t kd n C q : Nat} {P A : Nat → Nat} (T : TM z t kd n C P A) (O : TOK kd n C P A) (ht : t < 9) (hq : q < 1024) : ∀ d m r (b : Option Nat), (∀ j, b = some j → j < r) → r + d = 2 ^ n → d < m → fX9_nearest_L28 m (nI t) (nI q) (oi b) (nI r) z = some (oi (neS (sol kd C P A) q d r b), z) := by
  have hN := p2_le O.1.2.2.1
  intro d
  induction d with
  | zero =>
    intro m r b hb h1 h2
    obtain ⟨m, rfl⟩ : ∃ j, m = j + 1 := ⟨m - 1, by omega⟩
    rw [fX9_nearest_L28, zx_nI ht (by decide), zg_t, nI_clamp (by omega), e9_rows T O, if_pos (by rw [nI_leI (by omega) (by omega)]; omega)]; rfl
  | succ d ih =>
    intro m r b hb h1 h2
    obtain ⟨m, rfl⟩ : ∃ j, m = j + 1 := ⟨m - 1, by omega⟩
    rw [fX9_nearest_L28, zx_nI ht (by decide), zg_t, nI_clamp (by omega), e9_rows T O, if_neg (by rw [nI_leI (by omega) (by omega)]; omega), e9_solve T O ht (by omega), zb_some, neS]
    have hb' : ∀ j, b = some j → j < r + 1 := fun j h => by have := hb j h; omega
    cases hs : sol kd C P A r with
    | false => rw [if_pos (bi_0.mpr rfl), fX9_nearest_B75, nI_1, ih m (r + 1) b hb' (by omega) (by omega), if_neg (by rintro ⟨h, -⟩; cases h)]
    | true =>
      rw [if_neg (bi_n0 rfl)]
      cases hbb : b with
      | none =>
        rw [if_pos (show oi none = -1 from rfl), fX9_nearest_B72, fX9_nearest_B75, nI_1, if_pos ⟨rfl, fun j h => by cases h⟩]
        exact ih m (r + 1) (some r) (fun j h => by cases h; omega) (by omega) (by omega)
      | some j =>
        subst hbb
        have hj := hb j rfl
        have hp := pc_le (r ^^^ q)
        have hp' := pc_le (j ^^^ q)
        rw [if_neg (fun e => by have := (oi_m1 (o := some j) (fun i h => by cases h; omega)).mp e; cases this), nI_xor, e_ones (xor_lt10 (by omega) hq), zb_some]
        show zk_bd (fX9_ones (nI j ^^^ nI q) z) _ = _
        rw [nI_xor, e_ones (xor_lt10 (by omega) hq), zb_some]
        by_cases h : pc (r ^^^ q) < pc (j ^^^ q)
        · rw [if_neg (by rw [nI_leI (by omega) (by omega)]; omega), fX9_nearest_B72, fX9_nearest_B75, nI_1, if_pos ⟨rfl, fun i e => by cases e; exact h⟩]
          exact ih m (r + 1) (some r) (fun j h => by cases h; omega) (by omega) (by omega)
        · rw [if_pos (by rw [nI_leI (by omega) (by omega)]; omega), fX9_nearest_B75, nI_1, if_neg (fun x => h (x.2 j rfl))]
          exact ih m (r + 1) (some j) (fun i e => by cases e; omega) (by omega) (by omega)
