/-! worths, gains and climbing -/
set_option maxRecDepth 100000 in
theorem wv_nat : ∀ kd, kd < 6 → ∀ i, i < 21 → ∀ w, w < 11 → wvI (nI kd) (nI i) (nI w) = nI (wvI (nI kd) (nI i) (nI w) + 1).toNatClampNeg - nI 1 ∧ (wvI (nI kd) (nI i) (nI w) + 1).toNatClampNeg ≤ 30 := by decide +kernel
def wn (kd : Nat) (P A : Nat → Nat) (c r : Nat) : Nat := (wvI (nI kd) (nI (tru (P c) (A c) r)) (nI (wid (P c) (A c))) + 1).toNatClampNeg
theorem wn_eq {kd n C c r : Nat} {P A : Nat → Nat} (O : TOK kd n C P A) (hc : c < C) : wvI (nI kd) (nI (tru (P c) (A c) r)) (nI (wid (P c) (A c))) = nI (wn kd P A c r) - nI 1 ∧ wn kd P A c r ≤ 30 :=
  wv_nat kd O.1.1 _ (tru_le _ _ _) _ (by have := (O.2 c hc).2.2.2; omega)
theorem wn9_eq {kd n C c r : Nat} {P A : Nat → Nat} (O : TOK kd n C P A) (hc : c < C) : wv9 (nI kd) (nI (tru (P c) (A c) r)) (nI (wid (P c) (A c))) = nI (wn kd P A c r) - nI 1 :=
  (wv_fin kd O.1.1 _ (tru_le _ _ _) _ (by have := (O.2 c hc).2.2.2; omega) (O.2 c hc).2.2.1).trans (wn_eq O hc).1
theorem sub_add4 (a b c d : Nat) : (nI a - nI b) + (nI c - nI d) = nI (a + c) - nI (b + d) := by
  rw [← nI_add, ← nI_add, Int32.sub_eq_add_neg, Int32.sub_eq_add_neg, Int32.sub_eq_add_neg, Int32.neg_add, Int32.sub_eq_add_neg]
  ac_rfl
theorem sub_eq4 {a b c d : Nat} (h : a + d = c + b) : nI a - nI b = nI c - nI d := by
  have e : nI a + nI d = nI c + nI b := by rw [nI_add, nI_add, h]
  have e2 : nI a = nI c + nI b - nI d := by rw [← e, Int32.add_sub_cancel]
  rw [e2, Int32.sub_eq_add_neg, Int32.sub_eq_add_neg, Int32.sub_eq_add_neg, show nI c + nI b + -nI d + -nI b = nI c + -nI d + (nI b + -nI b) by ac_rfl, Int32.add_right_neg, Int32.add_zero]
theorem sub_le4 {a b c d : Nat} (ha : a < 2 ^ 30) (hb : b < 2 ^ 30) (hc : c < 2 ^ 30) (hd : d < 2 ^ 30) : nI a - nI b ≤ nI c - nI d ↔ a + d ≤ c + b := by
  rw [Int32.le_iff_toInt_le, pk_sub_toInt ha hb, pk_sub_toInt hc hd]; omega
def wS (kd : Nat) (P A : Nat → Nat) (r : Nat) : Nat → Nat → Nat
  | 0, _ => 0
  | d + 1, c => wn kd P A c r + wS kd P A r d (c + 1)
theorem wS_le {kd n C r : Nat} {P A : Nat → Nat} (O : TOK kd n C P A) : ∀ d c, c + d ≤ C → wS kd P A r d c ≤ 30 * d := by
  intro d
  induction d with
  | zero => intro c _; exact Nat.le_refl _
  | succ d ih => intro c h; have := ih (c + 1) (by omega); have := (wn_eq (r := r) O (c := c) (by omega)).2; rw [wS]; omega
theorem wo9_L {z : zk_Z} {t kd n C r : Nat} {P A : Nat → Nat} (T : TM z t kd n C P A) (O : TOK kd n C P A) (ht : t < 9) (hr : r < 1024) : ∀ d m c a, c + d = C → d < m → fX9_worthOf_L5 m (nI t) (nI r) (nI a - nI c) (nI c) z = some (nI (a + wS kd P A r d c) - nI C, z) := by
  have h24 := O.1.2.2.2
  intro d
  induction d with
  | zero =>
    intro m c a h1 h2
    obtain ⟨m, rfl⟩ : ∃ j, m = j + 1 := ⟨m - 1, by omega⟩
    rw [fX9_worthOf_L5, zx_nI ht (by decide), zg_t, nI_clamp (by omega), T.1.2.2, if_pos (by rw [nI_leI (by omega) (by omega)]; omega), wS, show C = c by omega]; rfl
  | succ d ih =>
    intro m c a h1 h2
    obtain ⟨m, rfl⟩ : ∃ j, m = j + 1 := ⟨m - 1, by omega⟩
    rw [fX9_worthOf_L5, zx_nI ht (by decide), zg_t, nI_clamp (by omega), T.1.2.2, if_neg (by rw [nI_leI (by omega) (by omega)]; omega), zg_t, nI_24, e9_is T O ht (by omega) hr, zb_some, e9_wide T O ht (by omega), zb_some, T.1.1, e9_worth, zb_some, wn9_eq O (by omega), sub_add4, nI_1, wS, ih m (c + 1) _ (by omega) (by omega), Nat.add_assoc]
theorem wo9 {z : zk_Z} {t kd n C r : Nat} {P A : Nat → Nat} (T : TM z t kd n C P A) (O : TOK kd n C P A) (ht : t < 9) (hr : r < 1024) : fX9_worthOf (nI t) (nI r) z = some (nI (wS kd P A r C 0) - nI C, z) := by
  have h24 := O.1.2.2.2
  have h := wo9_L T O ht hr C zk_FU 0 0 (by omega) (by show C < 6000; omega)
  rw [Nat.zero_add] at h
  exact h
theorem untouched {p a l r : Nat} (h : (p ||| a) &&& 2 ^ l = 0) (hl : l < 10) : tru p a (r ^^^ 2 ^ l) = tru p a r := by
  have hb : ∀ i, i = l → (p ||| a).testBit i = false := by
    intro i e
    have := congrArg (fun q => q.testBit i) h
    simpa [Nat.testBit_and, Nat.testBit_two_pow, e] using this
  have hx : ∀ q, (∀ i, i = l → q.testBit i = false) → q &&& (r ^^^ 2 ^ l) = q &&& r ∧ q &&& (1023 ^^^ (r ^^^ 2 ^ l)) = q &&& (1023 ^^^ r) := by
    intro q hq
    constructor
    · apply Nat.eq_of_testBit_eq
      intro i
      by_cases e : i = l
      · rw [Nat.testBit_and, Nat.testBit_and, hq i e]; rfl
      · rw [Nat.testBit_and, Nat.testBit_and, Nat.testBit_xor, Nat.testBit_two_pow, decide_eq_false (Ne.symm e), Bool.xor_false]
    · apply Nat.eq_of_testBit_eq
      intro i
      by_cases e : i = l
      · rw [Nat.testBit_and, Nat.testBit_and, hq i e]; rfl
      · rw [Nat.testBit_and, Nat.testBit_and, Nat.testBit_xor, Nat.testBit_xor, Nat.testBit_xor, Nat.testBit_two_pow, decide_eq_false (Ne.symm e), Bool.xor_false]
  have hp := hx p (fun i e => by have := hb i e; rw [Nat.testBit_or] at this; exact (Bool.or_eq_false_iff.mp this).1)
  have ha := hx a (fun i e => by have := hb i e; rw [Nat.testBit_or] at this; exact (Bool.or_eq_false_iff.mp this).2)
  unfold tru
  rw [hp.1, ha.2]
theorem g7_L {z : zk_Z} {k kd n C r l : Nat} {P A : Nat → Nat} (T : TC z k kd n C P A) (O : TOK kd n C P A) (hr : r < 1024) (hl : l < 10) : ∀ d m c a b, c + d = C → d < m → fX7_gainByTurning_L10 k m (nI r) (nI (2 ^ l)) (nI a - nI b) (nI c) z = some (nI (a + wS kd P A (r ^^^ 2 ^ l) d c) - nI (b + wS kd P A r d c), z) := by
  have h24 := O.1.2.2.2
  have h2l : 2 ^ l < 1024 := Nat.pow_lt_pow_right (a := 2) (by decide) hl
  have hr' : r ^^^ 2 ^ l < 1024 := Nat.xor_lt_two_pow (n := 10) hr h2l
  intro d
  induction d with
  | zero =>
    intro m c a b h1 h2
    obtain ⟨m, rfl⟩ : ∃ j, m = j + 1 := ⟨m - 1, by omega⟩
    rw [fX7_gainByTurning_L10, T.1.2.2, if_pos (by rw [nI_leI (by omega) (by omega)]; omega)]; rfl
  | succ d ih =>
    intro m c a b h1 h2
    obtain ⟨m, rfl⟩ : ∃ j, m = j + 1 := ⟨m - 1, by omega⟩
    have hp := Nat.lt_of_lt_of_le (O.2 c (by omega)).1.1 (p2_le O.1.2.2.1)
    have ha := Nat.lt_of_lt_of_le (O.2 c (by omega)).1.2 (p2_le O.1.2.2.1)
    rw [fX7_gainByTurning_L10, T.1.2.2, if_neg (by rw [nI_leI (by omega) (by omega)]; omega), zx_nI (by omega) (by decide), zg_t, zg_t, nI_clamp (by omega), (T.2 c (by omega)).1, (T.2 c (by omega)).2, nI_or, nI_and, wS, wS]
    by_cases h : (P c ||| A c) &&& 2 ^ l = 0
    · have e : wn kd P A c (r ^^^ 2 ^ l) = wn kd P A c r := by unfold wn; rw [untouched h hl]
      rw [if_pos (by rw [h]; rfl), fX7_gainByTurning_B87, nI_1, ih m (c + 1) a b (by omega) (by omega), e, sub_eq4 (c := a + (wn kd P A c r + wS kd P A (r ^^^ 2 ^ l) d (c + 1))) (d := b + (wn kd P A c r + wS kd P A r d (c + 1))) (by omega)]
    · have hs : (P c ||| A c) &&& 2 ^ l < 1024 := and_lt (or_lt10 hp ha)
      rw [if_neg (fun q => h (nI_inj (by omega) (by decide) (q.trans (show (0 : Int32) = nI 0 from rfl)))), e7_width T O (by omega), zb_some, nI_xor, e7_trueOnes T O (by omega) hr', zb_some, T.1.1, e2_worth, zb_some, e7_trueOnes T O (by omega) hr, zb_some, T.1.1, e2_worth, zb_some, (wn_eq O (by omega)).1, (wn_eq O (by omega)).1, fX7_gainByTurning_B87, nI_1]
      rw [show nI (wn kd P A c (r ^^^ 2 ^ l)) - nI 1 - (nI (wn kd P A c r) - nI 1) = nI (wn kd P A c (r ^^^ 2 ^ l)) - nI (wn kd P A c r) by
        rw [Int32.sub_eq_add_neg, Int32.sub_eq_add_neg, Int32.sub_eq_add_neg, Int32.sub_eq_add_neg, Int32.neg_add, Int32.sub_eq_add_neg, Int32.neg_neg, show ∀ u v w : Int32, u + -v + (-w + v) = (u + -w) + (v + -v) by intro u v w; ac_rfl, Int32.add_right_neg, Int32.add_zero]]
      rw [sub_add4, ih m (c + 1) _ _ (by omega) (by omega), Nat.add_assoc, Nat.add_assoc]
theorem g7 {z : zk_Z} {k kd n C r l : Nat} {P A : Nat → Nat} (T : TC z k kd n C P A) (O : TOK kd n C P A) (hr : r < 1024) (hl : l < 10) : fX7_gainByTurning k (nI l) (nI r) z = some (nI (wS kd P A (r ^^^ 2 ^ l) C 0) - nI (wS kd P A r C 0), z) := by
  have h24 := O.1.2.2.2
  have h := g7_L T O hr hl C zk_FU 0 0 0 (by omega) (by show C < 6000; omega)
  rw [Nat.zero_add, Nat.zero_add] at h
  rw [fX7_gainByTurning, nI_shl (by omega)]
  exact h
