/-! which literals the hidden answer makes true -/
def trS (W : Nat → Nat) (w : Nat) : Nat → Nat → Nat → Nat × Nat
  | 0, i, _ => (i, 0)
  | d + 1, i, l => if l < W i * wy w i then (i, l / W i) else trS W w d (i + 1) (l - W i * wy w i)
def tb (w i q j : Nat) : Bool := if i = 0 then false else if i = w then true else if i = 1 then decide (j = q) else !decide (j = q)
def tv (w i q : Nat) : Nat := if i = 0 then 0 else if i = w then 2 ^ w - 1 else if i = 1 then 2 ^ q else (2 ^ w - 1) &&& (1023 ^^^ 2 ^ q)
theorem tv_tb : ∀ w, w ≤ 3 → ∀ i, i ≤ w → ∀ q, q < 3 → tv w i q < 8 ∧ ∀ j, j < w → (tv w i q).testBit j = tb w i q j := by decide +kernel
theorem alS_add (W : Nat → Nat) (w : Nat) : ∀ d i s, alS W w d i s = s + alS W w d i 0 := by
  intro d
  induction d with
  | zero => intro i s; rfl
  | succ d ih => intro i s; rw [alS, alS, ih, ih (i + 1) (0 + W i * wy w i)]; omega
theorem tr_in {W : Nat → Nat} {w : Nat} : ∀ d i l, i + d = w + 1 → l < alS W w d i 0 → (trS W w d i l).1 ≤ w ∧ (trS W w d i l).2 < wy w (trS W w d i l).1 := by
  intro d
  induction d with
  | zero => intro i l _ h; exact absurd h (Nat.not_lt_zero _)
  | succ d ih =>
    intro i l h1 h2
    rw [alS, alS_add] at h2
    rw [trS]
    by_cases h : l < W i * wy w i
    · rw [if_pos h]
      refine ⟨by show i ≤ w; omega, ?_⟩
      show l / W i < wy w i
      exact Nat.div_lt_of_lt_mul h
    · rw [if_neg h]; exact ih _ _ (by omega) (by omega)
theorem B84_tv {w i q : Nat} (hw : w ≤ 3) (hi : i ≤ w) (hq : q < 3) (z : zk_Z) : fX9_truths_B84 (nI w) (nI i) (nI q) z = some (nI (tv w i q), z) := by
  have h0 := Nat.two_pow_pos w
  have h2 : 2 ^ q < 1024 := Nat.pow_lt_pow_right (a := 2) (by decide) (show q < 10 by omega)
  have h3 : 2 ^ w < 1024 := Nat.pow_lt_pow_right (a := 2) (by decide) (show w < 10 by omega)
  have e1 : nI (2 ^ w) - 1 = nI (2 ^ w - 1) := by rw [show (1 : Int32) = nI 1 from rfl]; exact pk_sub h0
  rw [fX9_truths_B84, nI_shl (by omega), nI_shl (by omega), e1, nI_not (by omega) h2]
  unfold tv
  by_cases a : i = 0
  · rw [if_pos ((nI_z (by omega)).mpr a), if_pos a]; rfl
  · rw [if_neg (fun e => a ((nI_z (by omega)).mp e)), if_neg a]
    by_cases b : i = w
    · rw [if_pos (by rw [b]), if_pos b]
    · rw [if_neg (fun e => b (nI_inj (by omega) (by omega) e)), if_neg b]
      by_cases c : i = 1
      · rw [if_pos (by rw [c]; rfl), if_pos c]
      · rw [if_neg (fun e => c (nI_inj (by omega) (by decide) (e.trans (show (1 : Int32) = nI 1 from rfl)))), if_neg c]
theorem tr9_L {z : zk_Z} {k kd n C w : Nat} {W : Nat → Nat} (T : RM z k kd n C w W) (O : ROK kd n C w W) (hk : k < 6) : ∀ d m i l, i + d = w + 1 → d < m → l < alS W w d i 0 → l < 5000 → fX9_truths_L20 m (nI k) (nI w) (nI l) (nI i) z = some (nI (tv w (trS W w d i l).1 (trS W w d i l).2), z) := by
  have hw := O.1.2.2.2.2.2.1
  intro d
  induction d with
  | zero => intro m i l _ _ h; exact absurd h (Nat.not_lt_zero _)
  | succ d ih =>
    intro m i l h1 h2 h3 h4
    obtain ⟨m, rfl⟩ : ∃ j, m = j + 1 := ⟨m - 1, by omega⟩
    have hb := O.2 i (by omega)
    have h5 := (wy_le (i := i) hw O.1.2.2.2.2.1).2
    have h6 : W i * wy w i ≤ 99 * 3 := Nat.mul_le_mul hb h5
    have ht := tr_in (d + 1) i l h1 h3
    rw [fX9_truths_L20, nI_4, zx_nI (by omega) (by decide), zg_t, ways9 hw (by omega), zb_some, zg_t, zg_t, ways9 hw (by omega), zb_some, nI_clamp (by omega), T.2 i (by omega), pk_mul, trS]
    rw [trS] at ht
    by_cases h : l < W i * wy w i
    · have hW : 0 < W i := Nat.pos_of_ne_zero (fun e => by rw [e] at h; omega)
      rw [if_pos h] at ht ⊢
      rw [if_pos (by rw [nI_ltI (by omega) (by omega)]; exact h), nz_nI (by omega) (by omega), zg_t, pk_div (by omega) hW (by omega)]
      exact B84_tv hw (by omega) (by have h7 : l / W i < wy w i := ht.2
                                     omega) z
    · rw [if_neg (by rw [nI_ltI (by omega) (by omega)]; exact h), if_neg h, pk_sub (by omega), nI_1]
      rw [alS, alS_add] at h3
      exact ih m (i + 1) _ (by omega) (by omega) (by omega) (by omega)
theorem RM_sL {z : zk_Z} {k kd n C w j : Nat} {v : Int64} {W : Nat → Nat} (T : RM z k kd n C w W) : RM (zk_sL z j v) k kd n C w W := T
theorem RM_lm {z : zk_Z} {k kd n C w a : Nat} {W : Nat → Nat} (T : RM z k kd n C w W) : RM (lm z a) k kd n C w W := T
theorem RC_lz {z : zk_Z} {k kd n C w a : Nat} {W : Nat → Nat} (T : RC z k kd n C w W) : RC (lz z a) k kd n C w W := T
theorem RC_sL {z : zk_Z} {k kd n C w j : Nat} {v : Int64} {W : Nat → Nat} (T : RC z k kd n C w W) : RC (zk_sL z j v) k kd n C w W := T
/-- what is drawn: the way's kind and number -/
def trD (W : Nat → Nat) (w a : Nat) : Nat × Nat := trS W w (w + 1) 0 (lst a / 16 % alS W w (w + 1) 0 0)
theorem truths9 {z : zk_Z} {k kd n C w a : Nat} {W : Nat → Nat} (T : RM z k kd n C w W) (O : ROK kd n C w W) (hk : k < 6) (hA : 0 < alS W w (w + 1) 0 0) (ha : a < 2 ^ 31) : fX9_truths (nI k) (lm z a) = some (nI (tv w (trD W w a).1 (trD W w a).2), lm z (lst a)) := by
  have hw := O.1.2.2.2.2.2.1
  have hl := alS_le O (w + 1) 0 0 (by omega)
  have hm : lst a / 16 % alS W w (w + 1) 0 0 < alS W w (w + 1) 0 0 := Nat.mod_lt _ hA
  rw [fX9_truths, zx_nI hk (by decide), zg_t, all9 (RM_lm T) O hk, zb_some, drw9 (lm_2 z a) ha hA (by omega), zb_some, lm_lm, nI_clamp (by omega), show (lm z a).1 25 0 k = nI w from T.1.2.2.2]
  exact tr9_L (RM_sL T) O hk (w + 1) zk_FU 0 _ (by omega) (by show w + 1 < 6000; omega) hm (by omega)
theorem tw3 {D n w i q : Nat} (hn : n ≤ 10) (hw3 : w ≤ 3) (hD : inD n D w) (hi : i ≤ w) (hq : q < wy w i) (z : zk_Z) : ∃ T, T < 1024 ∧ fX3_trueByWay (nI D) (nI i) (nI w) (nI q) z = some (nI T, z) ∧ ∀ j, j < w → T.testBit (kP D.testBit n 0 j) = tb w i q j := by
  have hN := p2_le hn
  have hD1 : D < 1024 := Nat.lt_of_lt_of_le hD.1 hN
  have hc := inD_c hD
  rw [fX3_trueByWay]
  unfold tb
  by_cases a : i = 0
  · refine ⟨0, by decide, by rw [if_pos ((nI_z (by omega)).mpr a)]; rfl, fun j _ => ?_⟩
    rw [if_pos a, Nat.zero_testBit]
  · rw [if_neg (fun e => a ((nI_z (by omega)).mp e))]
    simp only [if_neg a]
    by_cases b : i = w
    · refine ⟨D, hD1, by rw [if_pos (by rw [b])], fun j hj => ?_⟩
      rw [if_pos b]; exact (kP_in (P := D.testBit) n 0 j (by omega)).2.2
    · rw [if_neg (fun e => b (nI_inj (by omega) (by omega) e))]
      simp only [if_neg b]
      have hqw : q < w := by unfold wy at hq; rw [if_neg (fun e => e.elim a b)] at hq; exact hq
      have e3 : cP D.testBit 10 0 = cP D.testBit n 0 + cP D.testBit (10 - n) (0 + n) := by
        have := cP_split D.testBit n (10 - n) 0
        rwa [show n + (10 - n) = 10 by omega] at this
      have e2 : kP D.testBit 10 0 q = kP D.testBit n 0 q := by
        have := kP_more (P := D.testBit) n (10 - n) 0 q (by omega)
        rwa [show n + (10 - n) = 10 by omega] at this
      have hL := kP_in (P := D.testBit) n 0 q (by omega)
      have h2 : 2 ^ kP D.testBit n 0 q < 1024 := Nat.pow_lt_pow_right (a := 2) (by decide) (show kP D.testBit n 0 q < 10 by omega)
      have hd : ∀ j, j < w → decide (kP D.testBit n 0 q = kP D.testBit n 0 j) = decide (j = q) := by
        intro j hj
        by_cases e : j = q
        · rw [e]; simp
        · rw [decide_eq_false e, decide_eq_false (fun x => e (kP_inj (P := D.testBit) n 0 q j (by omega) (by omega) x).symm)]
      rw [bitAt3 z hD1 (by omega) (by omega), zb_some, e2]
      by_cases c : i = 1
      · refine ⟨_, h2, by rw [if_pos (by rw [c]; rfl)], fun j hj => ?_⟩
        rw [if_pos c, Nat.testBit_two_pow, hd j hj]
      · refine ⟨_, and_lt hD1, by rw [if_neg (fun e => c (nI_inj (by omega) (by decide) (e.trans (show (1 : Int32) = nI 1 from rfl)))), nI_not hD1 h2], fun j hj => ?_⟩
        have hj' := kP_in (P := D.testBit) n 0 j (by omega)
        rw [if_neg c, Nat.testBit_and, hj'.2.2, Nat.testBit_xor, show (1023 : Nat) = 2 ^ 10 - 1 from rfl, Nat.testBit_two_pow_sub_one, Nat.testBit_two_pow, hd j hj, decide_eq_true (show kP D.testBit n 0 j < 10 by omega)]
        simp
theorem tr3_L {z : zk_Z} {k kd n C w D : Nat} {W : Nat → Nat} (T : RC z k kd n C w W) (O : ROK kd n C w W) (hD : inD n D w) : ∀ d m i l, i + d = w + 1 → d < m → l < alS W w d i 0 → l < 5000 → ∃ V, V < 1024 ∧ fX3_drawTrue_L12 k m (nI D) (nI l) (nI i) z = some (nI V, z) ∧ ∀ j, j < w → V.testBit (kP D.testBit n 0 j) = tb w (trS W w d i l).1 (trS W w d i l).2 j := by
  have hw := O.1.2.2.2.2.2.1
  have h10 := O.1.2.2.1
  intro d
  induction d with
  | zero => intro m i l _ _ h; exact absurd h (Nat.not_lt_zero _)
  | succ d ih =>
    intro m i l h1 h2 h3 h4
    obtain ⟨m, rfl⟩ : ∃ j, m = j + 1 := ⟨m - 1, by omega⟩
    have hb := O.2 i (by omega)
    have h5 := (wy_le (i := i) hw O.1.2.2.2.2.1).2
    have h6 : W i * wy w i ≤ 99 * 3 := Nat.mul_le_mul hb h5
    have ht := tr_in (d + 1) i l h1 h3
    rw [fX3_drawTrue_L12, T.1.2.2.2, if_neg (by rw [nI_ltI (by omega) (by omega)]; omega), zx_nI (by omega) (by decide), zg_t, share4 T hw (by omega), zb_some, nI_clamp (by omega), T.2 i (by omega), trS, fX3_drawTrue_B64, nI_1]
    rw [trS] at ht
    by_cases h : l < W i * wy w i
    · have hW : 0 < W i := Nat.pos_of_ne_zero (fun e => by rw [e] at h; omega)
      rw [if_pos h] at ht ⊢
      rw [if_neg (by rw [show (0 : Int32) = nI 0 from rfl, nI_leI (by omega) (by omega)]; omega), if_neg (by rw [nI_leI (by omega) (by omega)]; omega), nz_nI (by omega) (by omega), zg_t, pk_div (by omega) hW (by omega), T.1.2.2.2]
      obtain ⟨V, v1, v2, v3⟩ := tw3 h10 hw hD ht.1 ht.2 z
      exact ⟨V, v1, by rw [v2]; rfl, v3⟩
    · rw [if_neg h, pk_sub (by omega)]
      rw [alS, alS_add] at h3
      obtain ⟨V, v1, v2, v3⟩ := ih m (i + 1) (l - W i * wy w i) (by omega) (by omega) (by omega) (by omega)
      refine ⟨V, v1, ?_, v3⟩
      by_cases h0 : W i = 0
      · rw [if_pos (by rw [h0]; decide)]; exact v2
      · rw [if_neg (by rw [show (0 : Int32) = nI 0 from rfl, nI_leI (by omega) (by omega)]; omega), if_pos (by rw [nI_leI (by omega) (by omega)]; omega)]; exact v2
theorem drawTrue3 {z : zk_Z} {k kd n C w a D : Nat} {W : Nat → Nat} (T : RC z k kd n C w W) (O : ROK kd n C w W) (hD : inD n D w) (hA : 0 < alS W w (w + 1) 0 0) (ha : a < 2 ^ 31) : ∃ V, V < 1024 ∧ fX3_drawTrue k (nI D) (lz z a) = some (nI V, lz z (lst a)) ∧ ∀ j, j < w → V.testBit (kP D.testBit n 0 j) = tb w (trD W w a).1 (trD W w a).2 j := by
  have hw := O.1.2.2.2.2.2.1
  have hl := alS_le O (w + 1) 0 0 (by omega)
  have hm : lst a / 16 % alS W w (w + 1) 0 0 < alS W w (w + 1) 0 0 := Nat.mod_lt _ hA
  obtain ⟨V, v1, v2, v3⟩ := tr3_L (z := lz z (lst a)) (RC_sL T) O hD (w + 1) zk_FU 0 _ (by omega) (by show w + 1 < 6000; omega) hm (by omega)
  refine ⟨V, v1, ?_, v3⟩
  rw [fX3_drawTrue, all4 (RC_lz T) O, zb_some, drw3 (lz_2 z a) ha hA (by omega), zb_some, lz_lz]
  exact v2
