/-! the reference's clauses -/
theorem cla_in {n w a : Nat} (hw : w ≤ n) : inD n (claD n w a) w := dlS_in w 0 0 a w (by omega) hw (inD_0 n)
theorem mk_congr {H : Nat} {L : Nat → Nat} {t t' : Nat → Bool} : ∀ d j p a, (∀ i, j ≤ i → i < j + d → t i = t' i) → mkS H L t d j p a = mkS H L t' d j p a := by
  intro d
  induction d with
  | zero => intro j p a _; rfl
  | succ d ih =>
    intro j p a h
    rw [mkS, mkS, h j (Nat.le_refl _) (by omega), ih (j + 1) _ _ (fun i h1 h2 => h i (by omega) (by omega)), ih (j + 1) _ _ (fun i h1 h2 => h i (by omega) (by omega))]
/-- the memory after one clause -/
def mcZ (z : zk_Z) (t c a : Nat) (f : Nat → Int32) (x y : Int32) : zk_Z := zk_sI (zk_sI (zk_sR (lm z a) 42 0 f) 33 0 (24 * t + c) x) 34 0 (24 * t + c) y
theorem ma9_step {z : zk_Z} {t k2 kd n C w a c H m : Nat} {W : Nat → Nat} (T : RM z k2 kd n C w W) (O : ROK kd n C w W) (ht : t < 9) (hk : k2 < 6) (hA : 0 < alS W w (w + 1) 0 0) (ha : a < 2 ^ 31) (hc : c < C) (hH : H < 2 ^ n) (h28 : z.1 28 0 t = nI n) (h29 : z.1 29 0 t = nI C) (hz : z.2 1 = lN a) : ∃ f, fX9_makes_L105 (m + 1) (nI t) (nI k2) (nI H) (nI c) z = fX9_makes_L105 m (nI t) (nI k2) (nI H) (nI (c + 1)) (mcZ z t c (lst (claL n w a)) f (nI (claP n w W H a).1) (nI (claP n w W H a).2)) := by
  have hn := O.1.2.2.1
  have hN := p2_le hn
  have h24 := O.1.2.2.2.1
  have hw := O.1.2.2.2.2.2.2
  have hw3 := O.1.2.2.2.2.2.1
  have hD := cla_in (n := n) (w := w) (a := a) hw
  have hDc := inD_c hD
  obtain ⟨f, q1, q2⟩ := ch_L (z := z) hn hw hw3 w zk_FU 0 0 a (by omega) (by show w < 6000; omega) (inD_0 n) ha
  rw [lm_id hz] at q1
  have q1' : fX9_choose (nI n) (nI w) z = some ((), lm (zk_sR z 42 0 f) (claL n w a)) := q1
  have Tr : RM (zk_sR z 42 0 f) k2 kd n C w W := T
  have hm := Nat.mod_lt (lst (claL n w a) / 16) hA
  have hi := tr_in (W := W) (w := w) (w + 1) 0 (lst (claL n w a) / 16 % alS W w (w + 1) 0 0) (by omega) hm
  have hwy := wy_le (w := w) (i := (trD W w (claL n w a)).1) hw3 O.1.2.2.2.2.1
  have ht1 : (trD W w (claL n w a)).1 ≤ w := hi.1
  have ht2 : (trD W w (claL n w a)).2 < 3 := Nat.lt_of_lt_of_le hi.2 hwy.2
  have htv := tv_tb w hw3 _ ht1 _ ht2
  have h42 : ∀ j, j < w → (lm (zk_sR z 42 0 f) (lst (claL n w a))).1 42 0 j = nI (Ls n (claD n w a) j) ∧ Ls n (claD n w a) j < 10 := by
    intro j hj
    have h5 := kP_in (P := (claD n w a).testBit) n 0 j (by omega)
    refine ⟨?_, by unfold Ls; omega⟩
    show (zk_sR z 42 0 f).1 42 0 j = _
    rw [sR_row]
    exact q2 j hj
  refine ⟨f, ?_⟩
  rw [fX9_makes_L105, zx_nI ht (by decide), zg_t, nI_clamp (by omega), h29, if_neg (by rw [nI_leI (by omega) (by omega)]; omega), zg_t, zx_nI hk (by decide), zg_t, nI_clamp (by omega), h28, T.1.2.2.2, q1', zb_some, truths9 (a := claL n w a) Tr O hk hA (dlS_lot w 0 0 a ha), zb_some]
  refine (mk9_L (z := lm (zk_sR z 42 0 f) (lst (claL n w a))) ht hk (show c < 24 by omega) hw3 T.1.2.2.2 (by omega) htv.1 h42 _ w zk_FU 0 0 0 (by omega) (by show w < 6000; omega)).trans ?_
  rw [mk_congr (t' := claT W w (claL n w a)) w 0 0 0 (fun i _ h2 => htv.2 i (by omega))]
  rfl
/-- all of them -/
theorem ma9_L {t k2 kd n C w a0 H : Nat} {W : Nat → Nat} (O : ROK kd n C w W) (ht : t < 9) (hk : k2 < 6) (hA : 0 < alS W w (w + 1) 0 0) (ha : a0 < 2 ^ 31) (hH : H < 2 ^ n) : ∀ d m c z, c + d = C → d < m → RM z k2 kd n C w W → z.1 28 0 t = nI n → z.1 29 0 t = nI C → z.2 1 = lN (ltS n w a0 c) → ∃ z', fX9_makes_L105 m (nI t) (nI k2) (nI H) (nI c) z = some ((), z') ∧ (∀ c', c ≤ c' → c' < C → z'.1 33 0 (24 * t + c') = nI (cl1 n w W H a0 c') ∧ z'.1 34 0 (24 * t + c') = nI (cl2 n w W H a0 c')) ∧ (∀ g k i, ¬ (k = 0 ∧ (g = 42 ∨ ((g = 33 ∨ g = 34) ∧ 24 * t + c ≤ i ∧ i < 24 * t + C))) → z'.1 g k i = z.1 g k i) ∧ ∀ j, j ≠ 1 → z'.2 j = z.2 j := by
  have h24 := O.1.2.2.2.1
  intro d
  induction d with
  | zero =>
    intro m c z h1 h2 T h28 h29 hz
    obtain ⟨m, rfl⟩ : ∃ j, m = j + 1 := ⟨m - 1, by omega⟩
    obtain rfl : c = C := by omega
    refine ⟨z, ?_, fun c' h3 h4 => by omega, fun _ _ _ _ => rfl, fun _ _ => rfl⟩
    rw [fX9_makes_L105, zx_nI ht (by decide), zg_t, nI_clamp (by omega), h29, if_pos (Int32.le_refl _)]
  | succ d ih =>
    intro m c z h1 h2 T h28 h29 hz
    obtain ⟨m, rfl⟩ : ∃ j, m = j + 1 := ⟨m - 1, by omega⟩
    have hl := lt_lt (n := n) (w := w) ha c
    obtain ⟨f, e⟩ := ma9_step (m := m) T O ht hk hA hl (show c < C by omega) hH h28 h29 hz
    rw [e]
    obtain ⟨z', q1, q2, q3, q4⟩ := ih m (c + 1) (mcZ z t c (lst (claL n w (ltS n w a0 c))) f (nI (claP n w W H (ltS n w a0 c)).1) (nI (claP n w W H (ltS n w a0 c)).2)) (by omega) (by omega) T h28 h29 rfl
    refine ⟨z', q1, fun c' h3 h4 => ?_, fun g k i h3 => ?_, fun j hj => ?_⟩
    · by_cases h5 : c' = c
      · subst h5
        rw [q3 33 0 (24 * t + c') (by omega), q3 34 0 (24 * t + c') (by omega)]
        unfold mcZ
        rw [sI_at, if_neg (by omega), sI_at, if_pos ⟨rfl, rfl, rfl⟩, sI_at, if_pos ⟨rfl, rfl, rfl⟩]
        exact ⟨rfl, rfl⟩
      · exact q2 c' (by omega) h4
    · rw [q3 g k i (by omega)]
      unfold mcZ
      rw [sI_at, if_neg (by omega), sI_at, if_neg (by omega)]
      show (if g = 42 ∧ k = 0 then f else z.1 g k) i = z.1 g k i
      rw [if_neg (by omega)]
    · rw [q4 j hj]
      show (if j = 1 then _ else z.2 j) = z.2 j
      rw [if_neg hj]
