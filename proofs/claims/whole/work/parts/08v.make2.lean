/-! the reference's -/
def bmZ (z : zk_Z) (t : Nat) (a b c d e : Int32) : zk_Z := zk_sI (zk_sI (zk_sI (zk_sI (zk_sI z 27 0 t a) 28 0 t b) 29 0 t c) 31 0 t d) 32 0 t e
theorem bmZ_ne {z : zk_Z} {t : Nat} {a b c d e : Int32} {g k i : Nat} (h : ¬ (k = 0 ∧ i = t ∧ (g = 27 ∨ g = 28 ∨ g = 29 ∨ g = 31 ∨ g = 32))) : (bmZ z t a b c d e).1 g k i = z.1 g k i := by
  unfold bmZ
  rw [sI_at, if_neg (by omega), sI_at, if_neg (by omega), sI_at, if_neg (by omega), sI_at, if_neg (by omega), sI_at, if_neg (by omega)]
theorem lm_i (z : zk_Z) (a g k i : Nat) : (lm z a).1 g k i = z.1 g k i := rfl
theorem bm27 (z : zk_Z) (t : Nat) (a b c d e : Int32) : (bmZ z t a b c d e).1 27 0 t = a ∧ (bmZ z t a b c d e).1 28 0 t = b ∧ (bmZ z t a b c d e).1 29 0 t = c ∧ (bmZ z t a b c d e).1 31 0 t = d ∧ (bmZ z t a b c d e).1 32 0 t = e := by
  unfold bmZ
  simp [sI_at]
theorem makes9 {z : zk_Z} {t k2 kd n C w sd : Nat} {W : Nat → Nat} (T : RM z k2 kd n C w W) (O : ROK kd n C w W) (ht : t < 9) (hk : k2 < 6) (hA : 0 < alS W w (w + 1) 0 0) (hs : sd < 100000) : ∃ z', fX9_makes (nI t) (nI k2) (nI sd) z = some ((), z') ∧ TM z' t kd n C (cl1 n w W (mkH n sd) (mkA n sd)) (cl2 n w W (mkH n sd) (mkA n sd)) ∧ (z'.1 30 0 t = nI (mkH n sd) ∧ z'.1 31 0 t = nI k2 ∧ z'.1 32 0 t = nI sd) ∧ (∀ g k i, ¬ (k = 0 ∧ (g = 42 ∨ ((27 ≤ g ∧ g ≤ 32) ∧ i = t) ∨ ((g = 33 ∨ g = 34) ∧ 24 * t ≤ i ∧ i < 24 * t + 24))) → z'.1 g k i = z.1 g k i) ∧ ∀ j, j ≠ 1 → z'.2 j = z.2 j := by
  have hn := O.1.2.2.1
  have h24 := O.1.2.2.2.1
  have hi := hi_ok (n := n) n 0 0 (sd + 1) (by omega) (Nat.two_pow_pos n) (by omega)
  have e0 : (nI sd + 1).toInt64 = lN (sd + 1) := by rw [nI_1, nI_l (by omega)]
  have hb := bm27 (lm z (sd + 1)) t (nI kd) (nI n) (nI C) (nI k2) (nI sd)
  have h := hi9_L (k2 := k2) (z := bmZ (lm z (sd + 1)) t (nI kd) (nI n) (nI C) (nI k2) (nI sd)) ht hn hb.2.1 n zk_FU 0 0 (sd + 1) (by omega) (by show n < 6000; omega) (Nat.two_pow_pos n) (by omega)
  rw [lm_id (z := bmZ (lm z (sd + 1)) t (nI kd) (nI n) (nI C) (nI k2) (nI sd)) rfl] at h
  have hne : ∀ g k i, ¬ (k = 0 ∧ (27 ≤ g ∧ g ≤ 32) ∧ i = t) → (zk_sI (lm (bmZ (lm z (sd + 1)) t (nI kd) (nI n) (nI C) (nI k2) (nI sd)) (mkA n sd)) 30 0 t (nI (mkH n sd))).1 g k i = z.1 g k i := by
    intro g k i hg
    rw [sI_at, if_neg (by omega), lm_i, bmZ_ne (by omega), lm_i]
  have hat : ∀ g, g ≠ 30 → (zk_sI (lm (bmZ (lm z (sd + 1)) t (nI kd) (nI n) (nI C) (nI k2) (nI sd)) (mkA n sd)) 30 0 t (nI (mkH n sd))).1 g 0 t = (bmZ (lm z (sd + 1)) t (nI kd) (nI n) (nI C) (nI k2) (nI sd)).1 g 0 t := by
    intro g hg
    rw [sI_at, if_neg (by omega), lm_i]
  have hT2 : RM (zk_sI (lm (bmZ (lm z (sd + 1)) t (nI kd) (nI n) (nI C) (nI k2) (nI sd)) (mkA n sd)) 30 0 t (nI (mkH n sd))) k2 kd n C w W := T
  obtain ⟨z', q1, q2, q3, q4⟩ := ma9_L (t := t) (H := mkH n sd) O ht hk hA hi.2 hi.1 C zk_FU 0 _ (by omega) (by show C < 6000; omega) hT2 ((hat 28 (by decide)).trans hb.2.1) ((hat 29 (by decide)).trans hb.2.2.1) rfl
  have q5 : ∀ g, g < 33 → z'.1 g 0 t = (zk_sI (lm (bmZ (lm z (sd + 1)) t (nI kd) (nI n) (nI C) (nI k2) (nI sd)) (mkA n sd)) 30 0 t (nI (mkH n sd))).1 g 0 t := fun g hg => q3 g 0 t (by omega)
  refine ⟨z', ?_, ⟨⟨?_, ?_, ?_⟩, fun c hc => q2 c (Nat.zero_le _) hc⟩, ⟨?_, ?_, ?_⟩, fun g k i hg => ?_, fun j hj => ?_⟩
  · have e4 : (zk_sL z 1 (lN (sd + 1))).1 22 0 k2 = nI kd := T.1.1
    have e5 : (zk_sI (zk_sL z 1 (lN (sd + 1))) 27 0 t (nI kd)).1 23 0 k2 = nI n := T.1.2.1
    have e6 : (zk_sI (zk_sI (zk_sL z 1 (lN (sd + 1))) 27 0 t (nI kd)) 28 0 t (nI n)).1 24 0 k2 = nI C := T.1.2.2.1
    have e7 : zk_sI (zk_sI (zk_sI (zk_sI (zk_sI (zk_sL z 1 (lN (sd + 1))) 27 0 t (nI kd)) 28 0 t (nI n)) 29 0 t (nI C)) 31 0 t (nI k2)) 32 0 t (nI sd) = bmZ (lm z (sd + 1)) t (nI kd) (nI n) (nI C) (nI k2) (nI sd) := rfl
    rw [fX9_makes, zx_nI ht (by decide), zx_nI hk (by decide), zg_t, zg_t, zg_t, zg_t, zg_t, zg_t, zg_t, zg_t, nI_clamp (by omega), nI_clamp (by omega), e0, e4, e5, e6, e7, show (0 : Int32) = nI 0 from rfl]
    exact h.trans q1
  · rw [q5 27 (by decide), hat 27 (by decide), hb.1]
  · rw [q5 28 (by decide), hat 28 (by decide), hb.2.1]
  · rw [q5 29 (by decide), hat 29 (by decide), hb.2.2.1]
  · rw [q5 30 (by decide), sI_at, if_pos ⟨rfl, rfl, rfl⟩]
  · rw [q5 31 (by decide), hat 31 (by decide), hb.2.2.2.1]
  · rw [q5 32 (by decide), hat 32 (by decide), hb.2.2.2.2]
  · rw [q3 g k i (by omega), hne g k i (by omega)]
  · rw [q4 j hj]
    show (if j = 1 then _ else if j = 1 then _ else z.2 j) = z.2 j
    rw [if_neg hj, if_neg hj]
