/-! filling a task -/
theorem lz_id {z : zk_Z} {a : Nat} (h : z.2 0 = lN a) : lz z a = z := by
  refine Prod.ext rfl (funext fun j => ?_)
  show (if j = 0 then lN a else z.2 j) = z.2 j
  by_cases e : j = 0
  · rw [if_pos e, e, h]
  · rw [if_neg e]
theorem lm_id {z : zk_Z} {a : Nat} (h : z.2 1 = lN a) : lm z a = z := by
  refine Prod.ext rfl (funext fun j => ?_)
  show (if j = 1 then lN a else z.2 j) = z.2 j
  by_cases e : j = 1
  · rw [if_pos e, e, h]
  · rw [if_neg e]
theorem bit_eq (b c : Bool) : (nI b.toNat = nI c.toNat) ↔ b = c := by cases b <;> cases c <;> decide
def acZ (z : zk_Z) (k c : Nat) (x y : Int32) : zk_Z := zk_sI (zk_sI (zk_sI z 8 k c x) 9 k c y) 7 k 2 (nI (c + 1))
theorem addC {z : zk_Z} {k c : Nat} {x y : Int32} (h : z.1 7 k 2 = nI c) (hc : c < 24) : fX7_addClause k x y z = some ((), acZ z k c x y) := by
  have h' : (zk_sI z 8 k c x).1 7 k 2 = nI c := h
  have h'' : (zk_sI (zk_sI z 8 k c x) 9 k c y).1 7 k 2 = nI c := h
  rw [fX7_addClause, h, if_neg (by rw [show (24 : Int32) = nI 24 from rfl, nI_leI (by omega) (by omega)]; omega), zx_nI hc (by decide), zg_t, nI_clamp (by omega), h', zx_nI hc (by decide), zg_t, nI_clamp (by omega), h'', nI_1]; rfl
def cl1 (n w : Nat) (W : Nat → Nat) (H a : Nat) (c : Nat) : Nat := (claP n w W H (ltS n w a c)).1
def cl2 (n w : Nat) (W : Nat → Nat) (H a : Nat) (c : Nat) : Nat := (claP n w W H (ltS n w a c)).2
theorem fi3_step {z : zk_Z} {k1 k2 kd n C w a c H m : Nat} {W : Nat → Nat} (T : RC z k2 kd n C w W) (O : ROK kd n C w W) (hA : 0 < alS W w (w + 1) 0 0) (ha : a < 2 ^ 31) (hc : c < C) (hH : H < 2 ^ n) (h7 : z.1 7 k1 2 = nI c) (hz : z.2 0 = lN a) : fX3_fill_L63 k1 k2 (m + 1) (nI H) (nI c) z = fX3_fill_L63 k1 k2 m (nI H) (nI (c + 1)) (acZ (lz z (lst (claL n w a))) k1 c (nI (claP n w W H a).1) (nI (claP n w W H a).2)) := by
  have hn := O.1.2.2.1
  have hN := p2_le hn
  have h24 := O.1.2.2.2.1
  have hw := O.1.2.2.2.2.2.2
  have hD : inD n (claD n w a) w := dlS_in w 0 0 a w (by omega) hw (inD_0 n)
  have hD1 : claD n w a < 1024 := Nat.lt_of_lt_of_le hD.1 hN
  obtain ⟨V, v1, v2, v3⟩ := drawTrue3 (z := z) (a := claL n w a) T O hD hA (dlS_lot w 0 0 a ha)
  have hm := mk_cl (H := H) (V := V) (t := claT W w (claL n w a)) hn hD v3
  have hag : claD n w a &&& (V ^^^ H) < 1024 := and_lt hD1
  have e1 : fX3_drawLetters (nI n) (nI w) z = some (nI (claD n w a), lz z (claL n w a)) := by
    have := dl3 (z := z) O.1.2.1 hn hw ha
    rw [lz_id hz] at this
    exact this
  rw [fX3_fill_L63, T.1.2.2.1, if_neg (by rw [nI_leI (by omega) (by omega)]; omega), T.1.2.1, T.1.2.2.2, e1, zb_some, v2, zb_some, nI_xor, nI_and, nI_not hD1 hag, hm.1, hm.2, addC (z := lz z (lst (claL n w a))) (c := c) h7 (by omega), zb_some, nI_1]
  rfl
theorem fi3_L {k1 k2 kd n C w a0 H : Nat} {W : Nat → Nat} (O : ROK kd n C w W) (hA : 0 < alS W w (w + 1) 0 0) (ha : a0 < 2 ^ 31) (hH : H < 2 ^ n) : ∀ d m c z, c + d = C → d < m → RC z k2 kd n C w W → z.1 7 k1 2 = nI c → z.2 0 = lN (ltS n w a0 c) → ∃ z', fX3_fill_L63 k1 k2 m (nI H) (nI c) z = some ((), z') ∧ z'.1 7 k1 2 = nI C ∧ (∀ c', c' < c → z'.1 8 k1 c' = z.1 8 k1 c' ∧ z'.1 9 k1 c' = z.1 9 k1 c') ∧ (∀ c', c ≤ c' → c' < C → z'.1 8 k1 c' = nI (cl1 n w W H a0 c') ∧ z'.1 9 k1 c' = nI (cl2 n w W H a0 c')) ∧ (∀ g k i, ¬ (k = k1 ∧ (g = 8 ∨ g = 9 ∨ (g = 7 ∧ i = 2))) → z'.1 g k i = z.1 g k i) ∧ ∀ j, j ≠ 0 → z'.2 j = z.2 j := by
  have h24 := O.1.2.2.2.1
  intro d
  induction d with
  | zero =>
    intro m c z h1 h2 T h7 hz
    obtain ⟨m, rfl⟩ : ∃ j, m = j + 1 := ⟨m - 1, by omega⟩
    obtain rfl : c = C := by omega
    refine ⟨z, ?_, h7, fun _ _ => ⟨rfl, rfl⟩, fun c' h3 h4 => by omega, fun _ _ _ _ => rfl, fun _ _ => rfl⟩
    rw [fX3_fill_L63, T.1.2.2.1, if_pos (Int32.le_refl _)]
  | succ d ih =>
    intro m c z h1 h2 T h7 hz
    obtain ⟨m, rfl⟩ : ∃ j, m = j + 1 := ⟨m - 1, by omega⟩
    have hl := lt_lt (n := n) (w := w) ha c
    rw [fi3_step T O hA hl (by omega) hH h7 hz]
    obtain ⟨z', q1, q2, q3, q4, q5, q6⟩ := ih m (c + 1) (acZ (lz z (lst (claL n w (ltS n w a0 c)))) k1 c (nI (claP n w W H (ltS n w a0 c)).1) (nI (claP n w W H (ltS n w a0 c)).2)) (by omega) (by omega) T (by unfold acZ; rw [sI_at, if_pos ⟨rfl, rfl, rfl⟩]) rfl
    refine ⟨z', q1, q2, fun c' h3 => ?_, fun c' h3 h4 => ?_, fun g k i h3 => ?_, fun j hj => ?_⟩
    · rw [(q3 c' (by omega)).1, (q3 c' (by omega)).2]
      unfold acZ
      rw [sI_at, if_neg (by omega), sI_at, if_neg (by omega), sI_at, if_neg (by omega), sI_at, if_neg (by omega), sI_at, if_neg (by omega), sI_at, if_neg (by omega)]
      exact ⟨rfl, rfl⟩
    · by_cases e : c' = c
      · subst e
        rw [(q3 c' (by omega)).1, (q3 c' (by omega)).2]
        unfold acZ
        rw [sI_at, if_neg (by omega), sI_at, if_neg (by omega), sI_at, if_pos ⟨rfl, rfl, rfl⟩, sI_at, if_neg (by omega), sI_at, if_pos ⟨rfl, rfl, rfl⟩]
        exact ⟨rfl, rfl⟩
      · exact q4 c' (by omega) h4
    · rw [q5 g k i h3]
      unfold acZ
      rw [sI_at, if_neg (fun q => h3 ⟨q.2.1, Or.inr (Or.inr ⟨q.1, q.2.2⟩)⟩), sI_at, if_neg (fun q => h3 ⟨q.2.1, Or.inr (Or.inl q.1)⟩), sI_at, if_neg (fun q => h3 ⟨q.2.1, Or.inl q.1⟩)]
      rfl
    · rw [q6 j hj]
      show (if j = 0 then _ else z.2 j) = z.2 j
      rw [if_neg hj]
/-! the reference's -/
theorem mk9_L {z : zk_Z} {t k2 w c H v : Nat} {L : Nat → Nat} (ht : t < 9) (hk : k2 < 6) (hc : c < 24) (hw : w ≤ 3) (h25 : z.1 25 0 k2 = nI w) (hH : H < 1024) (hv : v < 8) (h42 : ∀ j, j < w → z.1 42 0 j = nI (L j) ∧ L j < 10) (f : Int32 → Int32 → Int32 → Int32 → zk_Z → Option (Unit × zk_Z)) : ∀ d m j p a, j + d = w → d < m → fX9_makes_L148 f m (nI t) (nI k2) (nI H) (nI c) (nI v) (nI p) (nI a) (nI j) z = f (nI t) (nI k2) (nI H) (nI (c + 1)) (zk_sI (zk_sI z 33 0 (24 * t + c) (nI (mkS H L v.testBit d j p a).1)) 34 0 (24 * t + c) (nI (mkS H L v.testBit d j p a).2)) := by
  intro d
  induction d with
  | zero =>
    intro m j p a h1 h2
    obtain ⟨m, rfl⟩ : ∃ i, m = i + 1 := ⟨m - 1, by omega⟩
    rw [fX9_makes_L148, zx_nI hk (by decide), zg_t, nI_clamp (by omega), h25, if_pos (by rw [nI_leI (by omega) (by omega)]; omega), nI_24, zx_nI (by omega) (by decide), zg_t, zg_t, nI_clamp (by omega), nI_1]; rfl
  | succ d ih =>
    intro m j p a h1 h2
    obtain ⟨m, rfl⟩ : ∃ i, m = i + 1 := ⟨m - 1, by omega⟩
    have hj := h42 j (by omega)
    rw [fX9_makes_L148, zx_nI hk (by decide), zg_t, nI_clamp (by omega), h25, if_neg (by rw [nI_leI (by omega) (by omega)]; omega), zx_nI (by omega) (by decide), zg_t, nI_clamp (by omega), hj.1, nI_bit (by omega) (by omega), nI_bit (by omega) (by omega), mkS]
    have hx : zk_ix (nI j) 3 = true := zx_nI (by omega) (by decide)
    by_cases h : v.testBit j = H.testBit (L j)
    · rw [if_pos ((bit_eq _ _).mpr h), if_pos h, fX9_makes_B186, if_neg (by decide), hx, zg_t, fX9_makes_B208, if_neg (by decide), fX9_makes_B231, nI_clamp (by omega), hj.1, nI_shl (by omega), nI_or, or_0, nI_1]
      exact ih m (j + 1) _ _ (by omega) (by omega)
    · rw [if_neg (fun q => h ((bit_eq _ _).mp q)), if_neg h, fX9_makes_B186, if_pos rfl, fX9_makes_B208, if_pos rfl, hx, zg_t, fX9_makes_B231, nI_clamp (by omega), hj.1, nI_shl (by omega), nI_or, or_0, nI_1]
      exact ih m (j + 1) _ _ (by omega) (by omega)
