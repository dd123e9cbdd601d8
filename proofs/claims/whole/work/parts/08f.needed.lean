/-! which clauses are needed: the reference's -/
theorem nd9_36 {z : zk_Z} {t kd n C r : Nat} {P A : Nat → Nat} (T : TM z t kd n C P A) (O : TOK kd n C P A) (ht : t < 9) (hr : r < 1024) (s : Int32) (f : Int32 → Int32 → Int32 → zk_Z → Option (Int32 × zk_Z)) : ∀ d m c cnt o, c + d = C → d < m → cnt ≤ c → o < 24 → fX9_needed_L36 f m (nI t) s (nI r) (nI cnt) (nI o) (nI c) z = f (nI t) (s ||| (if cnt + bkc kd P A r d c = 1 then nI (2 ^ bkl kd P A r d c o) else 0)) (nI (r + 1)) z := by
  have h24 := O.1.2.2.2
  intro d
  induction d with
  | zero =>
    intro m c cnt o h1 h2 h3 h4
    obtain ⟨m, rfl⟩ : ∃ j, m = j + 1 := ⟨m - 1, by omega⟩
    rw [fX9_needed_L36, zx_nI ht (by decide), zg_t, nI_clamp (by omega), T.1.2.2, if_pos (by rw [nI_leI (by omega) (by omega)]; omega), bkc, bkl, Nat.add_zero]
    by_cases h : cnt = 1
    · rw [if_pos h, if_pos (by rw [h]; rfl), fX9_needed_B110, nI_1, nI_shl (by omega)]
    · rw [if_neg h, if_neg (show ¬ nI cnt = 1 from fun q => h (nI_inj (by omega) (by decide) (q.trans (show (1 : Int32) = nI 1 from rfl)))), fX9_needed_B110, nI_1]
  | succ d ih =>
    intro m c cnt o h1 h2 h3 h4
    obtain ⟨m, rfl⟩ : ∃ j, m = j + 1 := ⟨m - 1, by omega⟩
    rw [fX9_needed_L36, zx_nI ht (by decide), zg_t, nI_clamp (by omega), T.1.2.2, if_neg (by rw [nI_leI (by omega) (by omega)]; omega), zg_t, nI_24, e9_is T O ht (by omega) hr, zb_some, e9_wide T O ht (by omega), zb_some, T.1.1, e9_holds, zb_some, hv9_C r O (by omega), bkc, bkl]
    by_cases h : hC kd P A c r = 0
    · rw [if_pos h, if_pos h, if_pos h, fX9_needed_B89, nI_1, nI_1, ih m (c + 1) (cnt + 1) c (by omega) (by omega) (by omega) (by omega), show cnt + 1 + bkc kd P A r d (c + 1) = cnt + (1 + bkc kd P A r d (c + 1)) by omega]
    · rw [if_neg h, if_neg h, if_neg h, fX9_needed_B89, nI_1, ih m (c + 1) cnt o (by omega) (by omega) (by omega) h4, Nat.zero_add]
theorem nd1_bkc {kd C : Nat} {P A : Nat → Nat} {r : Nat} : (if 0 + bkc kd P A r C 0 = 1 then nI (2 ^ bkl kd P A r C 0 0) else 0) = nd1 kd C P A r := by
  rw [Nat.zero_add]
  have h := @bkc_1 kd P A r C 0 0
  rw [Nat.zero_add] at h
  unfold nd1
  by_cases h1 : bkc kd P A r C 0 = 1
  · obtain ⟨b, q1, q2⟩ := h.1.mp h1
    rw [if_pos h1, q1, h.2 b q1 q2]
    simp only [q2, Option.isNone_none, if_true]
  · rw [if_neg h1]
    cases q1 : bkN kd P A r C 0 with
    | none => rfl
    | some b =>
      show _ = if _ then _ else _
      rw [if_neg]
      intro q2
      exact h1 (h.1.mpr ⟨b, q1, Option.isNone_iff_eq_none.mp q2⟩)
theorem nd9_L {z : zk_Z} {t kd n C : Nat} {P A : Nat → Nat} (T : TM z t kd n C P A) (O : TOK kd n C P A) (ht : t < 9) : ∀ d m r (s : Int32), r + d = 2 ^ n → d < m → fX9_needed_L15 m (nI t) s (nI r) z = some (ndS kd C P A d r s, z) := by
  have h10 := O.1.2.2.1
  have hN := p2_le h10
  have h24 := O.1.2.2.2
  intro d
  induction d with
  | zero =>
    intro m r s h1 h2
    obtain ⟨m, rfl⟩ : ∃ j, m = j + 1 := ⟨m - 1, by omega⟩
    rw [fX9_needed_L15, zx_nI ht (by decide), zg_t, nI_clamp (by omega), T.1.2.1, nI_shl (by omega), if_pos (by rw [nI_leI (by omega) (by omega)]; omega)]; rfl
  | succ d ih =>
    intro m r s h1 h2
    obtain ⟨m, rfl⟩ : ∃ j, m = j + 1 := ⟨m - 1, by omega⟩
    rw [fX9_needed_L15, zx_nI ht (by decide), zg_t, nI_clamp (by omega), T.1.2.1, nI_shl (by omega), if_neg (by rw [nI_leI (by omega) (by omega)]; omega)]
    refine (nd9_36 T O ht (by omega) s _ C zk_FU 0 0 0 (by omega) (by show C < 6000; omega) (Nat.le_refl _) (by decide)).trans ?_
    rw [nd1_bkc, ndS]
    exact ih m (r + 1) _ (by omega) (by omega)
/-! what more: for less against -/
def exS (P A : Nat → Nat) (x : Int32) : Nat → Nat → Int32 → Int32
  | 0, _, s => s
  | d + 1, c, s => exS P A x d (c + 1) (s + (((nI (P c) >>> (x &&& 31)) &&& 1) - ((nI (A c) >>> (x &&& 31)) &&& 1)))
theorem ex7_L {z : zk_Z} {k kd n C : Nat} {P A : Nat → Nat} (T : TC z k kd n C P A) (O : TOK kd n C P A) (x : Int32) : ∀ d m c s, c + d = C → d < m → fX7_excess_L4 k m x s (nI c) z = some (exS P A x d c s, z) := by
  have h24 := O.1.2.2.2
  intro d
  induction d with
  | zero =>
    intro m c s h1 h2
    obtain ⟨m, rfl⟩ : ∃ j, m = j + 1 := ⟨m - 1, by omega⟩
    rw [fX7_excess_L4, T.1.2.2, if_pos (by rw [nI_leI (by omega) (by omega)]; omega)]; rfl
  | succ d ih =>
    intro m c s h1 h2
    obtain ⟨m, rfl⟩ : ∃ j, m = j + 1 := ⟨m - 1, by omega⟩
    rw [fX7_excess_L4, T.1.2.2, if_neg (by rw [nI_leI (by omega) (by omega)]; omega), zx_nI (by omega) (by decide), zg_t, zg_t, nI_clamp (by omega), (T.2 c (by omega)).1, (T.2 c (by omega)).2, nI_1, exS]
    exact ih m (c + 1) _ (by omega) (by omega)
theorem ex7 {z : zk_Z} {k kd n C : Nat} {P A : Nat → Nat} (T : TC z k kd n C P A) (O : TOK kd n C P A) (x : Int32) : fX7_excess k x z = some (exS P A x C 0 0, z) := by
  have h24 := O.1.2.2.2
  exact ex7_L T O x C zk_FU 0 0 (by omega) (by show C < 6000; omega)
theorem ex9_L {z : zk_Z} {t kd n C : Nat} {P A : Nat → Nat} (T : TM z t kd n C P A) (O : TOK kd n C P A) (ht : t < 9) (x : Int32) : ∀ d m c s, c + d = C → d < m → fX9_more_L5 m (nI t) x s (nI c) z = some (exS P A x d c s, z) := by
  have h24 := O.1.2.2.2
  intro d
  induction d with
  | zero =>
    intro m c s h1 h2
    obtain ⟨m, rfl⟩ : ∃ j, m = j + 1 := ⟨m - 1, by omega⟩
    rw [fX9_more_L5, zx_nI ht (by decide), zg_t, nI_clamp (by omega), T.1.2.2, if_pos (by rw [nI_leI (by omega) (by omega)]; omega)]; rfl
  | succ d ih =>
    intro m c s h1 h2
    obtain ⟨m, rfl⟩ : ∃ j, m = j + 1 := ⟨m - 1, by omega⟩
    rw [fX9_more_L5, zx_nI ht (by decide), zg_t, nI_clamp (by omega), T.1.2.2, if_neg (by rw [nI_leI (by omega) (by omega)]; omega), nI_24, zx_nI (by omega) (by decide), zg_t, zg_t, nI_clamp (by omega), (T.2 c (by omega)).1, (T.2 c (by omega)).2, nI_1, exS]
    exact ih m (c + 1) _ (by omega) (by omega)
theorem ex9 {z : zk_Z} {t kd n C : Nat} {P A : Nat → Nat} (T : TM z t kd n C P A) (O : TOK kd n C P A) (ht : t < 9) (x : Int32) : fX9_more (nI t) x z = some (exS P A x C 0 0, z) := by
  have h24 := O.1.2.2.2
  exact ex9_L T O ht x C zk_FU 0 0 (by omega) (by show C < 6000; omega)
