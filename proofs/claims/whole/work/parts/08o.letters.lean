/-! drawing the letters of a clause -/
def lz (z : zk_Z) (a : Nat) : zk_Z := zk_sL z 0 (lN a)
def lm (z : zk_Z) (a : Nat) : zk_Z := zk_sL z 1 (lN a)
theorem sL_sL (z : zk_Z) (j : Nat) (u v : Int64) : zk_sL (zk_sL z j u) j v = zk_sL z j v := by
  refine Prod.ext rfl (funext fun j' => ?_)
  show (if j' = j then v else if j' = j then u else z.2 j') = if j' = j then v else z.2 j'
  split <;> rfl
theorem lz_lz (z : zk_Z) (a b : Nat) : zk_sL (lz z a) 0 (lN b) = lz z b := sL_sL _ _ _ _
theorem lm_lm (z : zk_Z) (a b : Nat) : zk_sL (lm z a) 1 (lN b) = lm z b := sL_sL _ _ _ _
theorem lz_2 (z : zk_Z) (a : Nat) : (lz z a).2 0 = lN a := rfl
theorem lm_2 (z : zk_Z) (a : Nat) : (lm z a).2 1 = lN a := rfl
def nP (D : Nat) : Nat → Bool := fun b => !D.testBit b
def dlp (n D i a : Nat) : Nat := kP (nP D) n 0 (lst a / 16 % (n - i))
def dlS (n : Nat) : Nat → Nat → Nat → Nat → Nat × Nat
  | 0, _, D, a => (D, a)
  | d + 1, i, D, a => dlS n d (i + 1) (D ||| 2 ^ dlp n D i a) (lst a)
theorem cP_not (P : Nat → Bool) : ∀ d b, cP P d b + cP (fun i => !P i) d b = d := by
  intro d
  induction d with
  | zero => intro b; rfl
  | succ d ih => intro b; have := ih (b + 1); rw [cP, cP]; cases P b <;> simp <;> omega
/-- D has i bits, below n -/
def inD (n D i : Nat) : Prop := D < 2 ^ n ∧ i ≤ n ∧ cP (nP D) n 0 = n - i
theorem dlp_ok {n D i a : Nat} (h : inD n D i) (hi : i < n) : dlp n D i a < n ∧ D.testBit (dlp n D i a) = false := by
  have hp : lst a / 16 % (n - i) < cP (nP D) n 0 := by rw [h.2.2]; exact Nat.mod_lt _ (by omega)
  have := kP_in (P := nP D) n 0 _ hp
  refine ⟨by unfold dlp; omega, ?_⟩
  have h3 := this.2.2
  unfold dlp
  unfold nP at h3 ⊢
  simpa using h3
theorem inD_next {n D i a : Nat} (h : inD n D i) (hi : i < n) : inD n (D ||| 2 ^ dlp n D i a) (i + 1) := by
  have hj := dlp_ok (a := a) h hi
  refine ⟨Nat.or_lt_two_pow h.1 (Nat.pow_lt_pow_right (by decide) hj.1), by omega, ?_⟩
  have := cP_rem (P := nP D) (Q := nP (D ||| 2 ^ dlp n D i a)) (j := dlp n D i a) n 0 (Nat.zero_le _) (by omega) (by unfold nP; rw [hj.2]; rfl) (fun b => by
    unfold nP
    rw [Nat.testBit_or, Nat.testBit_two_pow, Bool.not_or]
    by_cases e : b = dlp n D i a
    · rw [decide_eq_true e, decide_eq_true e.symm]
    · rw [decide_eq_false e, decide_eq_false (Ne.symm e)])
  rw [h.2.2] at this
  omega
theorem inD_0 (n : Nat) : inD n 0 0 := by
  refine ⟨Nat.two_pow_pos n, Nat.zero_le _, ?_⟩
  have h : ∀ d b, cP (nP 0) d b = d := by
    intro d
    induction d with
    | zero => intro b; rfl
    | succ d ih => intro b; rw [cP, ih]; unfold nP; rw [Nat.zero_testBit]; simp; omega
  rw [h]; rfl
theorem dlS_in {n : Nat} : ∀ d i D a w, i + d = w → w ≤ n → inD n D i → inD n (dlS n d i D a).1 w := by
  intro d
  induction d with
  | zero => intro i D a w h1 _ h; have : i = w := by omega
            subst this; exact h
  | succ d ih => intro i D a w h1 h2 h; exact ih _ _ _ w (by omega) h2 (inD_next h (by omega))
theorem dlS_lot {n : Nat} : ∀ d i D a, a < 2 ^ 31 → (dlS n d i D a).2 < 2 ^ 31 := by
  intro d
  induction d with
  | zero => intro i D a h; exact h
  | succ d ih => intro i D a h; exact ih _ _ _ (Nat.lt_trans (lst_lt a) (by decide))
theorem dl3_L {z : zk_Z} {n w : Nat} (hn : n ≤ 10) (hw : w ≤ n) : ∀ d m i D F a, i + d = w → d < m → inD n D i → F < 1024 → (∀ b, F.testBit b = (decide (b < n) && !D.testBit b)) → a < 2 ^ 31 → fX3_drawLetters_L12 m (nI n) (nI w) (nI F) (nI D) (nI i) (lz z a) = some (nI (dlS n d i D a).1, lz z (dlS n d i D a).2) := by
  intro d
  induction d with
  | zero =>
    intro m i D F a h1 h2 h3 h4 h5 h6
    obtain ⟨m, rfl⟩ : ∃ j, m = j + 1 := ⟨m - 1, by omega⟩
    rw [fX3_drawLetters_L12, if_pos (by rw [nI_leI (by omega) (by omega)]; omega)]; rfl
  | succ d ih =>
    intro m i D F a h1 h2 h3 h4 h5 h6
    obtain ⟨m, rfl⟩ : ∃ j, m = j + 1 := ⟨m - 1, by omega⟩
    have hj := dlp_ok (a := a) h3 (show i < n by omega)
    have hp : lst a / 16 % (n - i) < n - i := Nat.mod_lt _ (by omega)
    have e1 : cP F.testBit n 0 = cP (nP D) n 0 := cP_congr n 0 (fun b _ q => by rw [h5 b, decide_eq_true (by omega)]; rfl)
    have e2 : kP F.testBit 10 0 (lst a / 16 % (n - i)) = dlp n D i a := by
      have := kP_more (P := F.testBit) n (10 - n) 0 (lst a / 16 % (n - i)) (by rw [e1, h3.2.2]; exact hp)
      rw [show n + (10 - n) = 10 by omega] at this
      rw [this]
      exact kP_congr n 0 _ (fun b _ q => by rw [h5 b, decide_eq_true (by omega)]; rfl)
    have e3 : cP F.testBit 10 0 = cP F.testBit n 0 + cP F.testBit (10 - n) (0 + n) := by
      have := cP_split F.testBit n (10 - n) 0
      rwa [show n + (10 - n) = 10 by omega] at this
    have h2j : 2 ^ dlp n D i a < 1024 := Nat.pow_lt_pow_right (a := 2) (by decide) (show dlp n D i a < 10 by omega)
    rw [fX3_drawLetters_L12, if_neg (by rw [nI_leI (by omega) (by omega)]; omega), pk_sub (by omega), drw3 (lz_2 z a) h6 (by omega) (by omega), zb_some, lz_lz, bitAt3 _ h4 (by rw [e3, e1, h3.2.2]; omega) (by omega), zb_some, e2, nI_not h4 h2j, nI_or, nI_1]
    refine ih m (i + 1) _ _ _ (by omega) (by omega) (inD_next h3 (by omega)) (and_lt h4) (fun b => ?_) (Nat.lt_trans (lst_lt a) (by decide))
    rw [Nat.testBit_and, h5 b, Nat.testBit_xor, show (1023 : Nat) = 2 ^ 10 - 1 from rfl, Nat.testBit_two_pow_sub_one, Nat.testBit_or, Nat.testBit_two_pow]
    by_cases q : b < n
    · rw [decide_eq_true q, decide_eq_true (show b < 10 by omega)]
      cases D.testBit b <;> simp
    · rw [decide_eq_false q]; simp
theorem dl3 {z : zk_Z} {n w a : Nat} (h1 : 1 ≤ n) (hn : n ≤ 10) (hw : w ≤ n) (ha : a < 2 ^ 31) : fX3_drawLetters (nI n) (nI w) (lz z a) = some (nI (dlS n w 0 0 a).1, lz z (dlS n w 0 0 a).2) := by
  have hN := p2_le hn
  have h0 := Nat.two_pow_pos n
  rw [fX3_drawLetters, nI_shl (by omega), show (1 : Int32) = nI 1 from rfl, pk_sub h0]
  exact dl3_L hn hw w zk_FU 0 0 _ a (by omega) (by show w < 6000; omega) (inD_0 n) (by omega) (fun b => by rw [Nat.testBit_two_pow_sub_one, Nat.zero_testBit]; simp) ha
theorem ch24 {z : zk_Z} {n w D i : Nat} (hn : n ≤ 10) (hD : D < 1024) (f : Int32 → Int32 → Int32 → Int32 → zk_Z → Option (Unit × zk_Z)) : ∀ d m b p, b + d = n → d ≤ m → p < cP (nP D) d b → p < 100 → fX9_choose_L24 f m (nI n) (nI w) (nI D) (nI i) (nI p) (nI b) z = f (nI n) (nI w) (nI (D ||| 2 ^ kP (nP D) d b p)) (nI (i + 1)) z := by
  intro d
  induction d with
  | zero => intro m b p h1 h2 h3; exact absurd h3 (Nat.not_lt_zero _)
  | succ d ih =>
    intro m b p h1 h2 h3 h4
    obtain ⟨m, rfl⟩ : ∃ j, m = j + 1 := ⟨m - 1, by omega⟩
    rw [cP] at h3
    rw [fX9_choose_L24, fX9_choose_B39, nI_bit (by omega) (by omega), kP]
    have e : nP D b = !D.testBit b := rfl
    rw [e] at h3 ⊢
    cases hb : D.testBit b with
    | true =>
      rw [hb] at h3
      simp only [Bool.not_true, Bool.toNat_false, Nat.zero_add] at h3
      rw [if_pos (by rfl), if_pos (by rfl), if_neg (by decide), fX9_choose_B56, Int32.sub_zero, nI_1]
      exact ih m (b + 1) p (by omega) (by omega) h3 h4
    | false =>
      rw [hb] at h3
      simp only [Bool.not_false, Bool.toNat_true] at h3
      have hne : ¬ (nI false.toNat = 1) := by decide
      rw [if_neg hne, if_neg hne, if_pos (show (!false) = true from rfl)]
      by_cases h0 : p = 0
      · rw [if_pos h0, if_pos (by rw [h0]; decide), nI_shl (by omega), nI_or, nI_1]
      · rw [if_neg h0, if_neg (by rw [show (0 : Int32) = nI 0 from rfl, nI_leI (by omega) (by omega)]; omega), fX9_choose_B56, show (1 : Int32) = nI 1 from rfl, pk_sub (by omega), nI_add]
        exact ih m (b + 1) (p - 1) (by omega) (by omega) (by omega) (by omega)
theorem sR_sI (z : zk_Z) (g k i : Nat) (v : Int32) (f : Nat → Int32) : zk_sR (zk_sI z g k i v) g k f = zk_sR z g k f := by
  refine Prod.ext (funext fun g' => funext fun k' => ?_) rfl
  show (if g' = g ∧ k' = k then f else if g' = g ∧ k' = k then _ else z.1 g' k') = if g' = g ∧ k' = k then f else z.1 g' k'
  split <;> rfl
theorem sR_id (z : zk_Z) (g k : Nat) : zk_sR z g k (z.1 g k) = z := by
  refine Prod.ext (funext fun g' => funext fun k' => ?_) rfl
  show (if g' = g ∧ k' = k then z.1 g k else z.1 g' k') = z.1 g' k'
  by_cases h : g' = g ∧ k' = k
  · rw [if_pos h, h.1, h.2]
  · rw [if_neg h]
theorem ch84 {n D : Nat} (hn : n ≤ 10) (hD : D < 1024) : ∀ d m b g z, b + d = n → d < m → g + cP D.testBit d b ≤ 3 → ∃ f, fX9_choose_L84 m (nI n) (nI D) (nI g) (nI b) z = some ((), zk_sR z 42 0 f) ∧ (∀ q, q < g → f q = z.1 42 0 q) ∧ ∀ q, q < cP D.testBit d b → f (g + q) = nI (kP D.testBit d b q) := by
  intro d
  induction d with
  | zero =>
    intro m b g z h1 h2 h3
    obtain ⟨m, rfl⟩ : ∃ j, m = j + 1 := ⟨m - 1, by omega⟩
    refine ⟨z.1 42 0, ?_, fun q _ => rfl, fun q h => absurd h (Nat.not_lt_zero _)⟩
    rw [fX9_choose_L84, if_pos (by rw [nI_leI (by omega) (by omega)]; omega), sR_id]
  | succ d ih =>
    intro m b g z h1 h2 h3
    obtain ⟨m, rfl⟩ : ∃ j, m = j + 1 := ⟨m - 1, by omega⟩
    rw [cP] at h3
    rw [fX9_choose_L84, if_neg (by rw [nI_leI (by omega) (by omega)]; omega), nI_bit (by omega) (by omega)]
    cases hb : D.testBit b with
    | true =>
      rw [hb] at h3
      simp only [Bool.toNat_true] at h3
      obtain ⟨f, q1, q2, q3⟩ := ih m (b + 1) (g + 1) (zk_sI z 42 0 g (nI b)) (by omega) (by omega) (by omega)
      refine ⟨f, ?_, fun q hq => ?_, fun q hq => ?_⟩
      · rw [if_pos (by rfl), zx_nI (by omega) (by decide), zg_t, nI_clamp (by omega), fX9_choose_B112, nI_1, nI_1, q1, sR_sI]
      · rw [q2 q (by omega), sI_at, if_neg (by omega)]
      · rw [cP, hb] at hq
        simp only [Bool.toNat_true] at hq
        rw [kP, if_pos hb]
        by_cases h0 : q = 0
        · rw [if_pos h0, h0, Nat.add_zero, q2 g (by omega), sI_at, if_pos ⟨rfl, rfl, rfl⟩]
        · rw [if_neg h0, show g + q = g + 1 + (q - 1) by omega, q3 (q - 1) (by omega)]
    | false =>
      rw [hb] at h3
      simp only [Bool.toNat_false, Nat.zero_add] at h3
      obtain ⟨f, q1, q2, q3⟩ := ih m (b + 1) g z (by omega) (by omega) h3
      refine ⟨f, ?_, q2, fun q hq => ?_⟩
      · rw [if_neg (by decide), fX9_choose_B112, nI_1, q1]
      · rw [cP, hb] at hq
        rw [kP, if_neg (by rw [hb]; decide)]
        exact q3 q (by simpa using hq)
theorem inD_c {n D i : Nat} (h : inD n D i) : cP D.testBit n 0 = i := by
  have := cP_not D.testBit n 0
  have h2 := h.2.2
  have h3 := h.2.1
  unfold nP at h2
  omega
theorem ch_L {z : zk_Z} {n w : Nat} (hn : n ≤ 10) (hw : w ≤ n) (hw3 : w ≤ 3) : ∀ d m i D a, i + d = w → d < m → inD n D i → a < 2 ^ 31 → ∃ f, fX9_choose_L5 m (nI n) (nI w) (nI D) (nI i) (lm z a) = some ((), zk_sR (lm z (dlS n d i D a).2) 42 0 f) ∧ ∀ q, q < w → f q = nI (kP (dlS n d i D a).1.testBit n 0 q) := by
  have hN := p2_le hn
  intro d
  induction d with
  | zero =>
    intro m i D a h1 h2 h3 h4
    obtain ⟨m, rfl⟩ : ∃ j, m = j + 1 := ⟨m - 1, by omega⟩
    obtain rfl : i = w := by omega
    have hc := inD_c h3
    obtain ⟨f, q1, _, q3⟩ := ch84 (D := D) hn (by have := h3.1; omega) n zk_FU 0 0 (lm z a) (by omega) (by show n < 6000; omega) (by omega)
    refine ⟨f, ?_, fun q hq => ?_⟩
    · rw [fX9_choose_L5, if_pos (Int32.le_refl _)]; exact q1
    · have := q3 q (by omega)
      rw [Nat.zero_add] at this
      exact this
  | succ d ih =>
    intro m i D a h1 h2 h3 h4
    obtain ⟨m, rfl⟩ : ∃ j, m = j + 1 := ⟨m - 1, by omega⟩
    have hp : lst a / 16 % (n - i) < n - i := Nat.mod_lt _ (by omega)
    rw [fX9_choose_L5, if_neg (by rw [nI_leI (by omega) (by omega)]; omega), pk_sub (by omega), drw9 (lm_2 z a) h4 (by omega) (by omega), zb_some, lm_lm, show (0 : Int32) = nI 0 from rfl, ch24 hn (by have := h3.1; omega) _ n zk_FU 0 _ (by omega) (by show n ≤ 6000; omega) (by rw [h3.2.2]; exact hp) (by omega)]
    exact ih m (i + 1) _ (lst a) (by omega) (by omega) (inD_next h3 (by omega)) (Nat.lt_trans (lst_lt a) (by decide))
