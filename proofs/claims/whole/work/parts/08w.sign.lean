/-! the sign of a task -/
def sgS (C : Nat) (P A : Nat → Nat) : Nat → Nat → Int32 → Int32
  | 0, _, s => s
  | d + 1, l, s => sgS C P A d (l + 1) (s + exS P A (nI l) C 0 0 * exS P A (nI l) C 0 0)
theorem sg7_L {z : zk_Z} {k kd n C : Nat} {P A : Nat → Nat} (T : TC z k kd n C P A) (O : TOK kd n C P A) : ∀ d m l s, l + d = n → d < m → fX7_sign_L4 k m s (nI l) z = some (sgS C P A d l s, z) := by
  have h10 := O.1.2.2.1
  intro d
  induction d with
  | zero =>
    intro m l s h1 h2
    obtain ⟨m, rfl⟩ : ∃ j, m = j + 1 := ⟨m - 1, by omega⟩
    rw [fX7_sign_L4, T.1.2.1, if_pos (by rw [nI_leI (by omega) (by omega)]; omega)]; rfl
  | succ d ih =>
    intro m l s h1 h2
    obtain ⟨m, rfl⟩ : ∃ j, m = j + 1 := ⟨m - 1, by omega⟩
    rw [fX7_sign_L4, T.1.2.1, if_neg (by rw [nI_leI (by omega) (by omega)]; omega), ex7 T O, zb_some, nI_1, sgS]
    exact ih m _ _ (by omega) (by omega)
theorem sg7 {z : zk_Z} {k kd n C : Nat} {P A : Nat → Nat} (T : TC z k kd n C P A) (O : TOK kd n C P A) : fX7_sign k z = some (sgS C P A n 0 0, z) := by
  have h10 := O.1.2.2.1
  exact sg7_L T O n zk_FU 0 0 (by omega) (by show n < 6000; omega)
theorem sg9_L {z : zk_Z} {kd n C : Nat} {P A : Nat → Nat} (T : TM z 8 kd n C P A) (O : TOK kd n C P A) : ∀ d m l s, l + d = n → d < m → fX9_signOf_L13 m s (nI l) z = some (sgS C P A d l s, z) := by
  have h10 := O.1.2.2.1
  have e8 : (8 : Int32) = nI 8 := rfl
  intro d
  induction d with
  | zero =>
    intro m l s h1 h2
    obtain ⟨m, rfl⟩ : ∃ j, m = j + 1 := ⟨m - 1, by omega⟩
    rw [fX9_signOf_L13, e8, zx_nI (by decide) (by decide), zg_t, nI_clamp (by decide), T.1.2.1, if_pos (by rw [nI_leI (by omega) (by omega)]; omega)]; rfl
  | succ d ih =>
    intro m l s h1 h2
    obtain ⟨m, rfl⟩ : ∃ j, m = j + 1 := ⟨m - 1, by omega⟩
    rw [fX9_signOf_L13, e8, zx_nI (by decide) (by decide), zg_t, nI_clamp (by decide), T.1.2.1, if_neg (by rw [nI_leI (by omega) (by omega)]; omega), ex9 T O (by decide), zb_some, ex9 T O (by decide), zb_some, nI_1, sgS]
    exact ih m _ _ (by omega) (by omega)
/-- the sign of the task by a recipe and a seed -/
def sgM (n C w : Nat) (W : Nat → Nat) (sd : Nat) : Int32 := sgS C (cl1 n w W (mkH n sd) (mkA n sd)) (cl2 n w W (mkH n sd) (mkA n sd)) n 0 0
theorem signOf9 {z : zk_Z} {k2 kd n C w sd : Nat} {W : Nat → Nat} (T : RM z k2 kd n C w W) (O : ROK kd n C w W) (hk : k2 < 6) (hA : 0 < alS W w (w + 1) 0 0) (hs : sd < 100000) : ∃ z', fX9_signOf (nI k2) (nI sd) z = some (sgM n C w W sd, z') ∧ (∀ g k i, ¬ (k = 0 ∧ (g = 42 ∨ ((27 ≤ g ∧ g ≤ 32) ∧ i = 8) ∨ ((g = 33 ∨ g = 34) ∧ 192 ≤ i ∧ i < 216))) → z'.1 g k i = z.1 g k i) ∧ ∀ j, j ≠ 1 → z'.2 j = z.2 j := by
  have h10 := O.1.2.2.1
  obtain ⟨z', q1, q2, _, q4, q5⟩ := makes9 (t := 8) T O (by decide) hk hA hs
  refine ⟨z', ?_, fun g k i h => q4 g k i (by omega), q5⟩
  rw [fX9_signOf, show (8 : Int32) = nI 8 from rfl, q1, zb_some, show (0 : Int32) = nI 0 from rfl]
  exact sg9_L q2 (tok_cl O hA) n zk_FU 0 _ (by omega) (by show n < 6000; omega)
