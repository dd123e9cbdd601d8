/-! a clause that is made: its plain and its against -/
def mkS (H : Nat) (L : Nat → Nat) (t : Nat → Bool) : Nat → Nat → Nat → Nat → Nat × Nat
  | 0, _, p, a => (p, a)
  | d + 1, j, p, a => if t j = H.testBit (L j) then mkS H L t d (j + 1) (p ||| 2 ^ L j) a else mkS H L t d (j + 1) p (a ||| 2 ^ L j)
theorem mk_ne {H : Nat} {L : Nat → Nat} {t : Nat → Bool} {b : Nat} : ∀ d j p a, (∀ i, j ≤ i → i < j + d → L i ≠ b) → (mkS H L t d j p a).1.testBit b = p.testBit b ∧ (mkS H L t d j p a).2.testBit b = a.testBit b := by
  intro d
  induction d with
  | zero => intro j p a _; exact ⟨rfl, rfl⟩
  | succ d ih =>
    intro j p a h
    have h0 := h j (Nat.le_refl _) (by omega)
    have hh : ∀ x : Nat, (x ||| 2 ^ L j).testBit b = x.testBit b := fun x => by rw [Nat.testBit_or, Nat.testBit_two_pow, decide_eq_false h0, Bool.or_false]
    rw [mkS]
    split
    · have := ih (j + 1) (p ||| 2 ^ L j) a (fun i h1 h2 => h i (by omega) (by omega)); rw [hh] at this; exact this
    · have := ih (j + 1) p (a ||| 2 ^ L j) (fun i h1 h2 => h i (by omega) (by omega)); rw [hh] at this; exact this
theorem mk_at {H w : Nat} {L : Nat → Nat} {t : Nat → Bool} (hL : ∀ i i', i < w → i' < w → L i = L i' → i = i') {i : Nat} : ∀ d j p a, j + d = w → j ≤ i → i < w → (mkS H L t d j p a).1.testBit (L i) = (p.testBit (L i) || decide (t i = H.testBit (L i))) ∧ (mkS H L t d j p a).2.testBit (L i) = (a.testBit (L i) || !decide (t i = H.testBit (L i))) := by
  intro d
  induction d with
  | zero => intro j p a h1 h2 h3; omega
  | succ d ih =>
    intro j p a h1 h2 h3
    rw [mkS]
    by_cases e : i = j
    · subst e
      have hne : ∀ x y, (mkS H L t d (i + 1) x y).1.testBit (L i) = x.testBit (L i) ∧ (mkS H L t d (i + 1) x y).2.testBit (L i) = y.testBit (L i) := fun x y => mk_ne d (i + 1) x y (fun i' h4 h5 q => by have := hL i' i (by omega) (by omega) q; omega)
      split
      · rename_i h
        rw [(hne _ _).1, (hne _ _).2, Nat.testBit_or, Nat.testBit_two_pow_self, decide_eq_true h]; simp
      · rename_i h
        rw [(hne _ _).1, (hne _ _).2, Nat.testBit_or, Nat.testBit_two_pow_self, decide_eq_false h]; simp
    · have hn : ∀ x : Nat, (x ||| 2 ^ L j).testBit (L i) = x.testBit (L i) := fun x => by rw [Nat.testBit_or, Nat.testBit_two_pow, decide_eq_false (fun q => e (hL i j (by omega) (by omega) q.symm)), Bool.or_false]
      split
      · have := ih (j + 1) (p ||| 2 ^ L j) a (by omega) (by omega) h3; rw [hn] at this; exact this
      · have := ih (j + 1) p (a ||| 2 ^ L j) (by omega) (by omega) h3; rw [hn] at this; exact this
/-- the letters of D in order -/
def Ls (n D : Nat) (j : Nat) : Nat := kP D.testBit n 0 j
theorem mk_cl {n D w H V : Nat} {t : Nat → Bool} (hn : n ≤ 10) (hD : inD n D w) (hV : ∀ j, j < w → V.testBit (Ls n D j) = t j) : D &&& (1023 ^^^ (D &&& (V ^^^ H))) = (mkS H (Ls n D) t w 0 0 0).1 ∧ D &&& (V ^^^ H) = (mkS H (Ls n D) t w 0 0 0).2 := by
  have hc := inD_c hD
  have hL : ∀ i i', i < w → i' < w → Ls n D i = Ls n D i' → i = i' := fun i i' h1 h2 q => kP_inj (P := D.testBit) n 0 i i' (by omega) (by omega) q
  have hb : ∀ b, (D &&& (1023 ^^^ (D &&& (V ^^^ H)))).testBit b = (mkS H (Ls n D) t w 0 0 0).1.testBit b ∧ (D &&& (V ^^^ H)).testBit b = (mkS H (Ls n D) t w 0 0 0).2.testBit b := by
    intro b
    cases h : D.testBit b with
    | true =>
      have hbn : b < n := by
        refine Nat.lt_of_not_le (fun q => ?_)
        have := Nat.testBit_lt_two_pow (Nat.lt_of_lt_of_le hD.1 (Nat.pow_le_pow_right (by decide) q))
        rw [this] at h; cases h
      obtain ⟨i, hi, e⟩ := kP_sur (P := D.testBit) n 0 b (Nat.zero_le _) (by omega) h
      have e' : Ls n D i = b := e
      have hiw : i < w := by omega
      have hm := mk_at (H := H) (t := t) hL (i := i) w 0 0 0 (by omega) (Nat.zero_le _) hiw
      have hv := hV i hiw
      rw [e'] at hm hv
      rw [hm.1, hm.2, Nat.testBit_and, Nat.testBit_and, Nat.testBit_xor, Nat.testBit_and, Nat.testBit_xor, h, hv, show (1023 : Nat) = 2 ^ 10 - 1 from rfl, Nat.testBit_two_pow_sub_one, decide_eq_true (show b < 10 by omega), Nat.zero_testBit]
      cases t i <;> cases H.testBit b <;> simp
    | false =>
      have hm := mk_ne (H := H) (L := Ls n D) (t := t) (b := b) w 0 0 0 (fun i h1 h2 q => by
        have := (kP_in (P := D.testBit) n 0 i (by omega)).2.2
        have q' : kP D.testBit n 0 i = b := q
        rw [q', h] at this; cases this)
      rw [hm.1, hm.2, Nat.testBit_and, Nat.testBit_and, h, Nat.zero_testBit]; simp
  exact ⟨Nat.eq_of_testBit_eq (fun b => (hb b).1), Nat.eq_of_testBit_eq (fun b => (hb b).2)⟩
/-- one clause, from the lot before it: letters, way, plain and against, the lot after it -/
def claD (n w a : Nat) : Nat := (dlS n w 0 0 a).1
def claL (n w a : Nat) : Nat := (dlS n w 0 0 a).2
def claT (W : Nat → Nat) (w a : Nat) (j : Nat) : Bool := tb w (trD W w a).1 (trD W w a).2 j
def claP (n w : Nat) (W : Nat → Nat) (H a : Nat) : Nat × Nat := mkS H (Ls n (claD n w a)) (claT W w (claL n w a)) w 0 0 0
def ltS (n w : Nat) (a : Nat) : Nat → Nat
  | 0 => a
  | c + 1 => lst (claL n w (ltS n w a c))
theorem lt_lt {n w a : Nat} (ha : a < 2 ^ 31) : ∀ c, ltS n w a c < 2 ^ 31 := by
  intro c
  cases c with
  | zero => exact ha
  | succ c => exact Nat.lt_trans (lst_lt _) (by decide)
/-- the hidden row -/
def hiS : Nat → Nat → Nat → Nat → Nat × Nat
  | 0, _, h, a => (h, a)
  | d + 1, l, h, a => hiS d (l + 1) (h ||| (lst a / 16 % 2) * 2 ^ l) (lst a)
theorem hi_ok {n : Nat} : ∀ d l h a, l + d = n → h < 2 ^ n → a < 2 ^ 31 → (hiS d l h a).1 < 2 ^ n ∧ (hiS d l h a).2 < 2 ^ 31 := by
  intro d
  induction d with
  | zero => intro l h a _ h2 h3; exact ⟨h2, h3⟩
  | succ d ih =>
    intro l h a h1 h2 h3
    refine ih _ _ _ (by omega) (Nat.or_lt_two_pow h2 ?_) (Nat.lt_trans (lst_lt _) (by decide))
    have h4 : lst a / 16 % 2 < 2 := Nat.mod_lt _ (by decide)
    have h5 : 2 ^ l < 2 ^ n := Nat.pow_lt_pow_right (by decide) (by omega)
    have h6 : lst a / 16 % 2 * 2 ^ l ≤ 1 * 2 ^ l := Nat.mul_le_mul_right _ (by omega)
    omega
theorem lz_i (z : zk_Z) (a g k i : Nat) : (lz z a).1 g k i = z.1 g k i := rfl
theorem hi3_L {z : zk_Z} {k1 k2 kd n C w : Nat} {W : Nat → Nat} (T : RC z k2 kd n C w W) (O : ROK kd n C w W) : ∀ d m l h a, l + d = n → d < m → h < 2 ^ n → a < 2 ^ 31 → fX3_fill_L26 k1 k2 m (nI h) (nI l) (lz z a) = fX3_fill_L63 k1 k2 zk_FU (nI (hiS d l h a).1) (nI 0) (zk_sI (lz z (hiS d l h a).2) 7 k1 3 (nI (hiS d l h a).1)) := by
  have h10 := O.1.2.2.1
  intro d
  induction d with
  | zero =>
    intro m l h a h1 h2 h3 h4
    obtain ⟨m, rfl⟩ : ∃ j, m = j + 1 := ⟨m - 1, by omega⟩
    rw [fX3_fill_L26, lz_i, T.1.2.1, if_pos (by rw [nI_leI (by omega) (by omega)]; omega)]; rfl
  | succ d ih =>
    intro m l h a h1 h2 h3 h4
    obtain ⟨m, rfl⟩ : ∃ j, m = j + 1 := ⟨m - 1, by omega⟩
    have h5 := (hi_ok (n := n) 1 l h a)
    rw [fX3_fill_L26, lz_i, T.1.2.1, if_neg (by rw [nI_leI (by omega) (by omega)]; omega), show (2 : Int32) = nI 2 from rfl, drw3 (lz_2 z a) h4 (by decide) (by decide), zb_some, lz_lz, shl_b _ (Nat.mod_lt _ (by decide)) l (by omega), nI_or, nI_1, hiS]
    refine ih m _ _ _ (by omega) (by omega) (Nat.or_lt_two_pow h3 ?_) (Nat.lt_trans (lst_lt _) (by decide))
    have h4 : lst a / 16 % 2 < 2 := Nat.mod_lt _ (by decide)
    have h5 : 2 ^ l < 2 ^ n := Nat.pow_lt_pow_right (by decide) (by omega)
    have h6 : lst a / 16 % 2 * 2 ^ l ≤ 1 * 2 ^ l := Nat.mul_le_mul_right _ (by omega)
    omega
theorem hi9_L {z : zk_Z} {t k2 n : Nat} (ht : t < 9) (hn : n ≤ 10) (hz : z.1 28 0 t = nI n) : ∀ d m l h a, l + d = n → d < m → h < 2 ^ n → a < 2 ^ 31 → fX9_makes_L64 m (nI t) (nI k2) (nI h) (nI l) (lm z a) = fX9_makes_L105 zk_FU (nI t) (nI k2) (nI (hiS d l h a).1) (nI 0) (zk_sI (lm z (hiS d l h a).2) 30 0 t (nI (hiS d l h a).1)) := by
  intro d
  induction d with
  | zero =>
    intro m l h a h1 h2 h3 h4
    obtain ⟨m, rfl⟩ : ∃ j, m = j + 1 := ⟨m - 1, by omega⟩
    rw [fX9_makes_L64, zx_nI ht (by decide), zg_t, nI_clamp (by omega), show (lm z a).1 28 0 t = nI n from hz, if_pos (by rw [nI_leI (by omega) (by omega)]; omega), zg_t]; rfl
  | succ d ih =>
    intro m l h a h1 h2 h3 h4
    obtain ⟨m, rfl⟩ : ∃ j, m = j + 1 := ⟨m - 1, by omega⟩
    rw [fX9_makes_L64, zx_nI ht (by decide), zg_t, nI_clamp (by omega), show (lm z a).1 28 0 t = nI n from hz, if_neg (by rw [nI_leI (by omega) (by omega)]; omega), show (2 : Int32) = nI 2 from rfl, drw9 (lm_2 z a) h4 (by decide) (by decide), zb_some, lm_lm, shl_b _ (Nat.mod_lt _ (by decide)) l (by omega), nI_or, nI_1, hiS]
    refine ih m _ _ _ (by omega) (by omega) (Nat.or_lt_two_pow h3 ?_) (Nat.lt_trans (lst_lt _) (by decide))
    have h4 : lst a / 16 % 2 < 2 := Nat.mod_lt _ (by decide)
    have h5 : 2 ^ l < 2 ^ n := Nat.pow_lt_pow_right (by decide) (by omega)
    have h6 : lst a / 16 % 2 * 2 ^ l ≤ 1 * 2 ^ l := Nat.mul_le_mul_right _ (by omega)
    omega
