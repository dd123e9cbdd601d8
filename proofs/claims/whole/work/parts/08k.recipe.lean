/-! recipes: weights, ways, what they lean, what pairs -/
def RC (z : zk_Z) (k kd n C w : Nat) (W : Nat → Nat) : Prop := (z.1 4 k 0 = nI kd ∧ z.1 4 k 1 = nI n ∧ z.1 4 k 2 = nI C ∧ z.1 4 k 3 = nI w) ∧ ∀ i, i ≤ w → z.1 5 k i = nI (W i)
def RM (z : zk_Z) (k kd n C w : Nat) (W : Nat → Nat) : Prop := (z.1 22 0 k = nI kd ∧ z.1 23 0 k = nI n ∧ z.1 24 0 k = nI C ∧ z.1 25 0 k = nI w) ∧ ∀ i, i ≤ w → z.1 26 0 (4 * k + i) = nI (W i)
def ROK (kd n C w : Nat) (W : Nat → Nat) : Prop := (kd < 6 ∧ 1 ≤ n ∧ n ≤ 10 ∧ C ≤ 24 ∧ 1 ≤ w ∧ w ≤ 3 ∧ w ≤ n) ∧ ∀ i, i ≤ w → W i ≤ 99
def wy (w i : Nat) : Nat := if i = 0 ∨ i = w then 1 else w
theorem wy_le {w i : Nat} (h : w ≤ 3) (h1 : 1 ≤ w) : 1 ≤ wy w i ∧ wy w i ≤ 3 := by unfold wy; split <;> omega
theorem nI_4 (k i : Nat) : 4 * nI k + nI i = nI (4 * k + i) := by rw [show (4 : Int32) = nI 4 from rfl, pk_mul, nI_add]
theorem ways9 {w i : Nat} (hw : w ≤ 3) (hi : i ≤ w) (z : zk_Z) : fX9_ways (nI i) (nI w) z = some (nI (wy w i), z) := by
  rw [fX9_ways]
  unfold wy
  by_cases h0 : i = 0
  · subst h0; rw [if_pos (by rfl), if_pos (Or.inl rfl)]; rfl
  · rw [if_neg (fun q => h0 (nI_inj (by omega) (by decide) (q.trans (show (0 : Int32) = nI 0 from rfl))))]
    by_cases h1 : i = w
    · rw [if_pos (by rw [h1]), if_pos (Or.inr h1)]; rfl
    · rw [if_neg (fun q => h1 (nI_inj (by omega) (by omega) q)), if_neg (fun q => q.elim h0 h1)]
theorem share4 {z : zk_Z} {k kd n C w i : Nat} {W : Nat → Nat} (T : RC z k kd n C w W) (hw : w ≤ 3) (hi : i ≤ w) : fX4_share k (nI i) z = some (nI (W i * wy w i), z) := by
  rw [fX4_share, zx_nI (by omega) (by decide), zg_t, nI_clamp (by omega), T.2 i hi]
  have e : fX4_ways k (nI i) z = some (nI (wy w i), z) := by
    have := ways9 hw hi z
    rw [fX9_ways] at this
    rw [fX4_ways, T.1.2.2.2]
    exact this
  rw [e, zb_some, pk_mul]
def alS (W : Nat → Nat) (w : Nat) : Nat → Nat → Nat → Nat
  | 0, _, s => s
  | d + 1, i, s => alS W w d (i + 1) (s + W i * wy w i)
theorem all4_L {z : zk_Z} {k kd n C w : Nat} {W : Nat → Nat} (T : RC z k kd n C w W) (O : ROK kd n C w W) : ∀ d m i s, i + d = w + 1 → d < m → fX4_allWays_L4 k m (nI s) (nI i) z = some (nI (alS W w d i s), z) := by
  have hw := O.1.2.2.2.2.2.1
  intro d
  induction d with
  | zero =>
    intro m i s h1 h2
    obtain ⟨m, rfl⟩ : ∃ j, m = j + 1 := ⟨m - 1, by omega⟩
    rw [fX4_allWays_L4, T.1.2.2.2, if_pos (by rw [nI_ltI (by omega) (by omega)]; omega)]; rfl
  | succ d ih =>
    intro m i s h1 h2
    obtain ⟨m, rfl⟩ : ∃ j, m = j + 1 := ⟨m - 1, by omega⟩
    rw [fX4_allWays_L4, T.1.2.2.2, if_neg (by rw [nI_ltI (by omega) (by omega)]; omega), share4 T hw (by omega), zb_some, nI_add, nI_1, alS]
    exact ih m _ _ (by omega) (by omega)
theorem all4 {z : zk_Z} {k kd n C w : Nat} {W : Nat → Nat} (T : RC z k kd n C w W) (O : ROK kd n C w W) : fX4_allWays k z = some (nI (alS W w (w + 1) 0 0), z) := by
  have hw := O.1.2.2.2.2.2.1
  exact all4_L T O (w + 1) zk_FU 0 0 (by omega) (by show w + 1 < 6000; omega)
theorem all9_L {z : zk_Z} {k kd n C w : Nat} {W : Nat → Nat} (T : RM z k kd n C w W) (O : ROK kd n C w W) (hk : k < 6) : ∀ d m i s, i + d = w + 1 → d < m → fX9_all_L4 m (nI k) (nI s) (nI i) z = some (nI (alS W w d i s), z) := by
  have hw := O.1.2.2.2.2.2.1
  intro d
  induction d with
  | zero =>
    intro m i s h1 h2
    obtain ⟨m, rfl⟩ : ∃ j, m = j + 1 := ⟨m - 1, by omega⟩
    rw [fX9_all_L4, zx_nI hk (by decide), zg_t, nI_clamp (by omega), T.1.2.2.2, if_pos (by rw [nI_ltI (by omega) (by omega)]; omega)]; rfl
  | succ d ih =>
    intro m i s h1 h2
    obtain ⟨m, rfl⟩ : ∃ j, m = j + 1 := ⟨m - 1, by omega⟩
    rw [fX9_all_L4, zx_nI hk (by decide), zg_t, nI_clamp (by omega), T.1.2.2.2, if_neg (by rw [nI_ltI (by omega) (by omega)]; omega), nI_4, zx_nI (by omega) (by decide), zg_t, zg_t, ways9 hw (by omega), zb_some, nI_clamp (by omega), T.2 i (by omega), pk_mul, nI_add, nI_1, alS]
    exact ih m _ _ (by omega) (by omega)
theorem all9 {z : zk_Z} {k kd n C w : Nat} {W : Nat → Nat} (T : RM z k kd n C w W) (O : ROK kd n C w W) (hk : k < 6) : fX9_all (nI k) z = some (nI (alS W w (w + 1) 0 0), z) := by
  have hw := O.1.2.2.2.2.2.1
  exact all9_L T O hk (w + 1) zk_FU 0 0 (by omega) (by show w + 1 < 6000; omega)
/-- a sum over the ways, each with its own factor -/
def suS (W : Nat → Nat) (w : Nat) (g : Nat → Int32) : Nat → Nat → Int32 → Int32
  | 0, _, s => s
  | d + 1, i, s => suS W w g d (i + 1) (s + nI (W i * wy w i) * g i)
def gl (w i : Nat) : Int32 := 2 * nI i - nI w
def gp (w i : Nat) : Int32 := (nI w * (nI w - 1)) / 2 - 2 * (nI i * (nI w - nI i))
theorem gp_eq : ∀ w, w ≤ 3 → ∀ i, i ≤ w → ((nI i * (nI i - 1)) / 2 + ((nI w - nI i) * ((nI w - nI i) - 1)) / 2) - nI i * (nI w - nI i) = gp w i := by decide +kernel
theorem len4_L {z : zk_Z} {k kd n C w : Nat} {W : Nat → Nat} (T : RC z k kd n C w W) (O : ROK kd n C w W) : ∀ d m i s, i + d = w + 1 → d < m → fX4_leaning_L4 k m s (nI i) z = some (suS W w (gl w) d i s, z) := by
  have hw := O.1.2.2.2.2.2.1
  intro d
  induction d with
  | zero =>
    intro m i s h1 h2
    obtain ⟨m, rfl⟩ : ∃ j, m = j + 1 := ⟨m - 1, by omega⟩
    rw [fX4_leaning_L4, T.1.2.2.2, if_pos (by rw [nI_ltI (by omega) (by omega)]; omega)]; rfl
  | succ d ih =>
    intro m i s h1 h2
    obtain ⟨m, rfl⟩ : ∃ j, m = j + 1 := ⟨m - 1, by omega⟩
    rw [fX4_leaning_L4, T.1.2.2.2, if_neg (by rw [nI_ltI (by omega) (by omega)]; omega), share4 T hw (by omega), zb_some, T.1.2.2.2, nI_1, suS]
    exact ih m _ _ (by omega) (by omega)
theorem len4 {z : zk_Z} {k kd n C w : Nat} {W : Nat → Nat} (T : RC z k kd n C w W) (O : ROK kd n C w W) : fX4_leaning k z = some (suS W w (gl w) (w + 1) 0 0, z) := by
  have hw := O.1.2.2.2.2.2.1
  exact len4_L T O (w + 1) zk_FU 0 0 (by omega) (by show w + 1 < 6000; omega)
theorem len9_L {z : zk_Z} {k kd n C w : Nat} {W : Nat → Nat} (T : RM z k kd n C w W) (O : ROK kd n C w W) (hk : k < 6) : ∀ d m i s, i + d = w + 1 → d < m → fX9_leanSum_L4 m (nI k) s (nI i) z = some (suS W w (gl w) d i s, z) := by
  have hw := O.1.2.2.2.2.2.1
  intro d
  induction d with
  | zero =>
    intro m i s h1 h2
    obtain ⟨m, rfl⟩ : ∃ j, m = j + 1 := ⟨m - 1, by omega⟩
    rw [fX9_leanSum_L4, zx_nI hk (by decide), zg_t, nI_clamp (by omega), T.1.2.2.2, if_pos (by rw [nI_ltI (by omega) (by omega)]; omega)]; rfl
  | succ d ih =>
    intro m i s h1 h2
    obtain ⟨m, rfl⟩ : ∃ j, m = j + 1 := ⟨m - 1, by omega⟩
    rw [fX9_leanSum_L4, zx_nI hk (by decide), zg_t, nI_clamp (by omega), T.1.2.2.2, if_neg (by rw [nI_ltI (by omega) (by omega)]; omega), nI_4, zx_nI (by omega) (by decide), zg_t, zg_t, ways9 hw (by omega), zb_some, zg_t, nI_clamp (by omega), T.2 i (by omega), T.1.2.2.2, pk_mul, nI_1, suS]
    exact ih m _ _ (by omega) (by omega)
theorem len9 {z : zk_Z} {k kd n C w : Nat} {W : Nat → Nat} (T : RM z k kd n C w W) (O : ROK kd n C w W) (hk : k < 6) : fX9_leanSum (nI k) z = some (suS W w (gl w) (w + 1) 0 0, z) := by
  have hw := O.1.2.2.2.2.2.1
  exact len9_L T O hk (w + 1) zk_FU 0 0 (by omega) (by show w + 1 < 6000; omega)
theorem pai4_L {z : zk_Z} {k kd n C w : Nat} {W : Nat → Nat} (T : RC z k kd n C w W) (O : ROK kd n C w W) : ∀ d m i s, i + d = w + 1 → d < m → fX4_pairing_L4 k m s (nI i) z = some (suS W w (gp w) d i s, z) := by
  have hw := O.1.2.2.2.2.2.1
  intro d
  induction d with
  | zero =>
    intro m i s h1 h2
    obtain ⟨m, rfl⟩ : ∃ j, m = j + 1 := ⟨m - 1, by omega⟩
    rw [fX4_pairing_L4, T.1.2.2.2, if_pos (by rw [nI_ltI (by omega) (by omega)]; omega)]; rfl
  | succ d ih =>
    intro m i s h1 h2
    obtain ⟨m, rfl⟩ : ∃ j, m = j + 1 := ⟨m - 1, by omega⟩
    rw [fX4_pairing_L4, T.1.2.2.2, if_neg (by rw [nI_ltI (by omega) (by omega)]; omega), share4 T hw (by omega), zb_some, fX4_pairCount, zb_some, T.1.2.2.2, nI_1, suS]
    exact ih m _ _ (by omega) (by omega)
theorem pai4 {z : zk_Z} {k kd n C w : Nat} {W : Nat → Nat} (T : RC z k kd n C w W) (O : ROK kd n C w W) : fX4_pairing k z = some (suS W w (gp w) (w + 1) 0 0, z) := by
  have hw := O.1.2.2.2.2.2.1
  exact pai4_L T O (w + 1) zk_FU 0 0 (by omega) (by show w + 1 < 6000; omega)
/-- it stays small -/
theorem gl_s : ∀ w, w ≤ 3 → ∀ i, i ≤ w → ∃ p, p ≤ 9 ∧ ∃ q, q ≤ 9 ∧ gl w i = nI p - nI q := by decide +kernel
theorem gp_s : ∀ w, w ≤ 3 → ∀ i, i ≤ w → ∃ p, p ≤ 9 ∧ ∃ q, q ≤ 9 ∧ gp w i = nI p - nI q := by decide +kernel
theorem mul_s (a p q : Nat) : nI a * (nI p - nI q) = nI (a * p) - nI (a * q) := by
  rw [← pk_mul, ← pk_mul, Int32.mul_sub]
theorem suS_s {kd n C w : Nat} {W : Nat → Nat} {g : Nat → Int32} (O : ROK kd n C w W) (hg : ∀ i, i ≤ w → ∃ p, p ≤ 9 ∧ ∃ q, q ≤ 9 ∧ g i = nI p - nI q) : ∀ d i a b, i + d = w + 1 → ∃ a', a' ≤ a + 2673 * d ∧ ∃ b', b' ≤ b + 2673 * d ∧ suS W w g d i (nI a - nI b) = nI a' - nI b' := by
  have hw := O.1.2.2.2.2.2.1
  intro d
  induction d with
  | zero => intro i a b _; exact ⟨a, by omega, b, by omega, rfl⟩
  | succ d ih =>
    intro i a b h
    obtain ⟨p, hp, q, hq, e⟩ := hg i (by omega)
    have h1 := O.2 i (by omega)
    have h2 := (wy_le (i := i) hw O.1.2.2.2.2.1).2
    have h3 : W i * wy w i ≤ 99 * 3 := Nat.mul_le_mul h1 h2
    have h4 : W i * wy w i * p ≤ 99 * 3 * 9 := Nat.mul_le_mul h3 hp
    have h5 : W i * wy w i * q ≤ 99 * 3 * 9 := Nat.mul_le_mul h3 hq
    rw [suS, e, mul_s, sub_add4]
    obtain ⟨a', ha, b', hb, e'⟩ := ih (i + 1) _ _ (by omega)
    exact ⟨a', by omega, b', by omega, e'⟩
theorem alS_le {kd n C w : Nat} {W : Nat → Nat} (O : ROK kd n C w W) : ∀ d i s, i + d = w + 1 → s ≤ alS W w d i s ∧ alS W w d i s ≤ s + 297 * d := by
  have hw := O.1.2.2.2.2.2.1
  intro d
  induction d with
  | zero => intro i s _; exact ⟨Nat.le_refl _, Nat.le_refl _⟩
  | succ d ih =>
    intro i s h
    have h1 := O.2 i (by omega)
    have h2 := (wy_le (i := i) hw O.1.2.2.2.2.1).2
    have h3 : W i * wy w i ≤ 99 * 3 := Nat.mul_le_mul h1 h2
    have := ih (i + 1) (s + W i * wy w i) (by omega)
    rw [alS]; omega
