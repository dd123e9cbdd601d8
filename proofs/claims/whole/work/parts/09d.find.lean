/-! hints, what leans, what is found, heaps -/
theorem fr_sR {z : zk_Z} {g k : Nat} (h : 15 ≤ g ∧ g ≤ 19) (f : Nat → Int32) : fr z (zk_sR z g k f) := by
  intro g' k' i hg
  rw [sR_ne (fun q => hg (Or.inl (by omega)))]
theorem ok_image {z : zk_Z} {nt nr nk tp : Nat} (R : Rl z nt nr nk tp) : Ok fX8_image fX9_image z := by
  obtain ⟨⟨⟨a1, a2, a3⟩, ⟨b1, b2, b3⟩, ⟨c1, c2, c3⟩⟩, d, e, f, g, i, j⟩ := R
  refine ⟨nI nt, zk_sI z 0 0 14 (nI nt), zk_sI (zk_sI (zk_sI z 0 0 14 (nI nt)) 20 0 22 1) 20 0 23 (nI nt), ?_, ?_, nt, nr, nk, tp, ⟨⟨a1, a2, a3⟩, ⟨b1, b2, b3⟩, ⟨c1, c2, c3⟩⟩, d, e, f, g, i, Or.inr ⟨nt, Nat.le_refl _, rfl, rfl, rfl⟩⟩
  · rw [fX8_image, a2, sI_at, if_neg (by decide), a2]
  · have e1 : (zk_sI (zk_sI z 0 0 14 (nI nt)) 20 0 22 1).1 20 0 8 = nI nt := a3
    have e2 : (zk_sI (zk_sI (zk_sI z 0 0 14 (nI nt)) 20 0 22 1) 20 0 23 (nI nt)).1 20 0 8 = nI nt := a3
    rw [fX9_image, e1, e2]
theorem ok_hint {z : zk_Z} {nt nr nk tp : Nat} (R : Rl z nt nr nk tp) (x : Int32) : Ok (fX8_hint x) (fX9_hint x) z := by
  have Q : Rx z := ⟨nt, nr, nk, tp, R⟩
  rcases task_at R x with ⟨t, ht, rfl, e8, e9⟩ | ⟨_, e8, e9⟩
  rotate_left
  · exact Ok_eq (-5) Q (by rw [fX8_hint, e8, zb_some, zo_n]) (by rw [fX9_hint, e9, zb_some, if_pos rfl])
  obtain ⟨kd, n, C, P, A, H, T1, T2, O, _⟩ := R.2.2.1 t ht
  have h8 := R.1.1.1
  have h2 := p2_le O.1.2.2.1
  have h10 := O.1.2.2.1
  obtain ⟨f', q1, q2⟩ := e7_tally T1 O
  have F : fr z (zk_sR z 19 0 f') := fr_sR (by omega) _
  have hall := cn_le (sol kd C P A) (2 ^ n) 0
  have g8 := hint8_L (z := zk_sR z 19 0 f') (k := t) (n := n) (all := cn (sol kd C P A) (2 ^ n) 0) (v := hv kd n C P A) T1.1.2.1 h10 (by omega) (fun l => hv_even l) (fun l hl => by rw [sR_row]; exact q2 l hl) n zk_FU 0 none (by omega) (by show n < 6000; omega)
  have g9 := hint9_L (t := t) (TM_fr F (by omega) O.1.2.2.2 T2) O (by omega) (2 * n) zk_FU 0 none 0 (fun i h => by cases h) (by omega) (by show 2 * n < 6000; omega)
  rcases task_at (Rl_fr F R) (nI t) with ⟨t', ht', et, _, e9'⟩ | ⟨ho, _, _⟩
  rotate_left
  · rcases ho with ho | ho
    · exact absurd ho (nI_lt0 (by omega))
    · rw [nI_leI (by omega) (by omega)] at ho; omega
  refine Ok_fr (oi (hmS (hv kd n C P A) (2 * n) 0 none)) _ _ R ?_ ?_ F (fr_refl _)
  · rw [fX8_hint, e8, zb_some, zo_s, q1, zb_some, nI_1, show (0 : Int32) = nI 0 from rfl]
    exact g8
  · rw [fX9_hint, e9', zb_some, if_neg r10]
    exact g9
theorem ok_needed {z : zk_Z} {nt nr nk tp : Nat} (R : Rl z nt nr nk tp) (x : Int32) : Ok (fX8_needed x) (fX9_needed x) z := by
  have Q : Rx z := ⟨nt, nr, nk, tp, R⟩
  rcases task_at R x with ⟨t, ht, rfl, e8, e9⟩ | ⟨_, e8, e9⟩
  rotate_left
  · exact Ok_eq (-5) Q (by rw [fX8_needed, e8, zb_some, zo_n]) (by rw [fX9_needed, e9, zb_some, if_pos rfl])
  obtain ⟨kd, n, C, P, A, H, T1, T2, O, _⟩ := R.2.2.1 t ht
  have h8 := R.1.1.1
  have h2 := p2_le O.1.2.2.1
  have g8 := nd8_L T1 O (2 ^ n) zk_FU 0 0 (by omega) (by show 2 ^ n < 6000; omega)
  have g9 := nd9_L T2 O (by omega) (2 ^ n) zk_FU 0 0 (by omega) (by show 2 ^ n < 6000; omega)
  refine Ok_eq (ndS kd C P A (2 ^ n) 0 0) Q ?_ ?_
  · rw [fX8_needed, e8, zb_some, zo_s]; exact g8
  · rw [fX9_needed, e9, zb_some, if_neg r10]; exact g9
theorem ok_lean {z : zk_Z} {nt nr nk tp : Nat} (R : Rl z nt nr nk tp) (x y : Int32) : Ok (fX8_lean x y) (fX9_lean x y) z := by
  have Q : Rx z := ⟨nt, nr, nk, tp, R⟩
  rcases task_at R x with ⟨t, ht, rfl, e8, e9⟩ | ⟨_, e8, e9⟩
  rotate_left
  · exact Ok_eq (-1000) Q (by rw [fX8_lean, e8, zb_some, zo_n]) (by rw [fX9_lean, e9, zb_some, if_pos rfl])
  obtain ⟨kd, n, C, P, A, H, T1, T2, O, hH, ⟨q1, q2⟩, _⟩ := R.2.2.1 t ht
  have h8 := R.1.1.1
  have h10 := O.1.2.2.1
  have g9 : fX9_lean (nI t) y z = fX9_lean_B27 (nI t) y (nI t) 0 y z := by rw [fX9_lean, e9, zb_some, if_neg r10, e9, zb_some, if_neg r10]
  rcases in9_cnt (x := y) (c := n) z (by omega) with ⟨l, hl, rfl, h⟩ | ⟨h, h'⟩
  rotate_left
  · refine Ok_eq (-1000) Q ?_ ?_
    · rw [fX8_lean, e8, zb_some, zo_s, T1.1.2.1]
      rcases h with h | h
      · rw [if_pos h]
      · rw [if_neg (fun q : y < nI n => Int32.not_le.mpr q h)]
        split <;> rfl
    · rw [g9, fX9_lean_B27, zx_nI (by omega) (by decide), zg_t, nI_clamp (by omega), T2.1.2.1, h', zb_some, if_pos rfl]
  have g9' : fX9_lean (nI t) (nI l) z = if oi H = -1 then fX9_lean_B67 (nI t) (nI l) z else if ((oi H >>> (nI l &&& 31)) &&& 1) = 0 then fX9_lean_B68 (nI t) (nI l) 1 z else fX9_lean_B67 (nI t) (nI l) z := by
    rw [g9, fX9_lean_B27, zx_nI (show t < 9 by omega) (by decide), zg_t, nI_clamp (show t < 2 ^ 31 by omega), T2.1.2.1, h, zb_some, if_neg r10, zg_t, zg_t, q2]
  have g8 : fX8_lean (nI t) (nI l) z = if oi H < 0 then fX8_lean_B48 (nI l) t z else if ((oi H >>> (nI l &&& 31)) &&& 1) = 0 then fX8_lean_B49 (nI l) t 1 z else fX8_lean_B48 (nI l) t z := by
    rw [fX8_lean, e8, zb_some, zo_s, T1.1.2.1, if_neg (nI_lt0 (by omega)), if_pos (by rw [nI_ltI (by omega) (by omega)]; exact hl), q1]
  have p8 : fX8_lean_B48 (nI l) t z = some (exS P A (nI l) C 0 0, z) := by rw [fX8_lean_B48, fX8_lean_B49, if_pos rfl, ex7 T1 O, zb_some]
  have p9 : fX9_lean_B67 (nI t) (nI l) z = some (exS P A (nI l) C 0 0, z) := by rw [fX9_lean_B67, fX9_lean_B68, if_pos rfl, ex9 T2 O (by omega), zb_some]
  have m8 : fX8_lean_B49 (nI l) t 1 z = some (0 - exS P A (nI l) C 0 0, z) := by rw [fX8_lean_B49, if_neg r10, ex7 T1 O, zb_some]
  have m9 : fX9_lean_B68 (nI t) (nI l) 1 z = some (0 - exS P A (nI l) C 0 0, z) := by rw [fX9_lean_B68, if_neg r10, ex9 T2 O (by omega), zb_some]
  cases hq : H with
  | none =>
    rw [hq, oi_n] at g8 g9'
    exact Ok_eq _ Q (by rw [g8, if_pos (by decide), p8]) (by rw [g9', if_pos rfl, p9])
  | some b =>
    have hb := hH b hq
    have h2 := p2_le h10
    rw [hq, oi_s] at g8 g9'
    rw [if_neg (nI_lt0 (by omega))] at g8
    rw [if_neg (nI_m1_ne (by omega))] at g9'
    by_cases hz : ((nI b >>> (nI l &&& 31)) &&& 1) = 0
    · exact Ok_eq _ Q (by rw [g8, if_pos hz, m8]) (by rw [g9', if_pos hz, m9])
    · exact Ok_eq _ Q (by rw [g8, if_neg hz, p8]) (by rw [g9', if_neg hz, p9])
theorem part_at (x : Int32) : (∃ j, j ≤ 1 ∧ x = nI j ∧ ∀ z, fX9_in x 0 1 z = some (1, z)) ∨ (x < 0 ∧ ∀ z, fX9_in x 0 1 z = some (0, z)) ∨ (¬ x < 0 ∧ ¬ x ≤ 1 ∧ ∀ z, fX9_in x 0 1 z = some (0, z)) := by
  rcases up9 x (c := 1) (by decide) with h | h | ⟨h1, h2, h3⟩
  · exact Or.inl h
  · exact Or.inr (Or.inl h)
  · exact Or.inr (Or.inr ⟨h1, Int32.not_le.mpr h2, h3⟩)
theorem al_mul {kd n C w p : Nat} {W : Nat → Nat} (O : ROK kd n C w W) (hA : 0 < alS W w (w + 1) 0 0) (h1 : 1 ≤ p) (h3 : p ≤ 3) : ∃ b, b = alS W w (w + 1) 0 0 * p ∧ b ≠ 0 ∧ b < 2 ^ 16 := by
  have hw := O.1.2.2.2.2
  have hc : 0 + 297 * (w + 1) ≤ 1188 := by have := hw.2.1; clear hA O; omega
  have hb : alS W w (w + 1) 0 0 ≤ 1188 := Nat.le_trans (alS_le O (w + 1) 0 0 (Nat.zero_add _)).2 hc
  exact ⟨_, rfl, Nat.mul_ne_zero (Nat.ne_of_gt hA) (Nat.ne_of_gt h1), Nat.lt_of_le_of_lt (Nat.mul_le_mul hb h3) (by decide)⟩
theorem ok_leans {z : zk_Z} {nt nr nk tp : Nat} (R : Rl z nt nr nk tp) (x y : Int32) : Ok (fX8_leans x y) (fX9_leans x y) z := by
  have Q : Rx z := ⟨nt, nr, nk, tp, R⟩
  rcases rec_at R x with ⟨t, ht, rfl, e8, e9⟩ | ⟨_, e8, e9⟩
  rotate_left
  · exact Ok_eq (-4611686018427387904) Q (by rw [fX8_leans, e8, zb_some, zo_n]) (by rw [fX9_leans, e9, zb_some, if_pos rfl])
  obtain ⟨kd, n, C, w, W, T1, T2, O, hA⟩ := R.2.2.2.1 t ht
  have h8 := R.1.2.1.1
  rcases part_at y with ⟨j, hj, rfl, hy⟩ | ⟨h, hy⟩ | ⟨h0, h, hy⟩
  rotate_left
  · exact Ok_eq (-4611686018427387904) Q (by rw [fX8_leans, e8, zb_some, zo_s, if_pos h]) (by rw [fX9_leans, e9, zb_some, if_neg r10, hy, zb_some, if_pos rfl])
  · exact Ok_eq (-4611686018427387904) Q (by rw [fX8_leans, e8, zb_some, zo_s, if_neg h0, if_neg h]) (by rw [fX9_leans, e9, zb_some, if_neg r10, hy, zb_some, if_pos rfl])
  have hw := O.1.2.2.2.2
  have ha := (alS_le O (w + 1) 0 0 (by omega)).2
  obtain ⟨b, eb, hb0, hb1⟩ := al_mul (p := w) O hA (by omega) (by omega)
  obtain ⟨p, hp, q, hq, es⟩ := suS_s O (gl_s w (by omega)) (w + 1) 0 0 0 (by omega)
  rw [show nI 0 - nI 0 = 0 from rfl] at es
  obtain ⟨r, l8, l9⟩ := low_eq (b := b) (x := j) z es (by omega) (by omega) hb1 (fun c => absurd c hb0) hj
  refine Ok_eq r Q ?_ ?_
  · rw [fX8_leans, e8, zb_some, zo_s, if_neg (nI_lt0 (by omega)), if_pos (by rw [show (1 : Int32) = nI 1 from rfl, nI_leI (by omega) (by decide)]; exact hj), len4 T1 O, zb_some, all4 T1 O, zb_some, T1.1.2.2.2, pk_mul, ← eb, l8, zb_some]
  · rw [fX9_leans, e9, zb_some, if_neg r10, hy, zb_some, if_neg r10, len9 T2 O (by omega), zb_some, all9 T2 O (by omega), zb_some, zx_nI (by omega) (by decide), zg_t, nI_clamp (by omega), T2.1.2.2.2, nI_l (by omega), nI_l (by omega), lN_mul, ← eb, l9, zb_some]
def pcn (w : Nat) : Nat := w * (w - 1) / 2
theorem pcn_eq : ∀ w, w ≤ 3 → (nI w * (nI w - 1)) / 2 = nI (pcn w) := by decide +kernel
theorem pr9_L {z : zk_Z} {k kd n C w : Nat} {W : Nat → Nat} {x : Int32} (T : RM z k kd n C w W) (O : ROK kd n C w W) (hk : k < 6) : ∀ d m i s, i + d = w + 1 → d < m → fX9_pairs_L34 m (nI k) x (nI w) s (nI i) z = if nI w = 1 then some (x.toInt64, z) else zk_bd (fX9_all (nI k) z) (fun r6 z5 => zk_bd (fX9_lowest (suS W w (gp w) d i s).toInt64 (r6.toInt64 * (((nI w * (nI w - 1)) / 2).toInt64)) x z5) (fun r8 z7 => some (r8, z7))) := by
  have hw := O.1.2.2.2.2.2.1
  intro d
  induction d with
  | zero =>
    intro m i s h1 h2
    obtain ⟨m, rfl⟩ : ∃ j, m = j + 1 := ⟨m - 1, by omega⟩
    rw [fX9_pairs_L34, if_pos (by rw [nI_ltI (by omega) (by omega)]; omega)]; rfl
  | succ d ih =>
    intro m i s h1 h2
    obtain ⟨m, rfl⟩ : ∃ j, m = j + 1 := ⟨m - 1, by omega⟩
    rw [fX9_pairs_L34, if_neg (by rw [nI_ltI (by omega) (by omega)]; omega), nI_4, zx_nI (by omega) (by decide), zg_t, ways9 hw (by omega), zb_some, nI_clamp (by omega), T.2 i (by omega), pk_mul, gp_eq w hw i (by omega), nI_1, suS]
    exact ih m _ _ (by omega) (by omega)
theorem ok_pairs {z : zk_Z} {nt nr nk tp : Nat} (R : Rl z nt nr nk tp) (x y : Int32) : Ok (fX8_pairs x y) (fX9_pairs x y) z := by
  have Q : Rx z := ⟨nt, nr, nk, tp, R⟩
  rcases rec_at R x with ⟨t, ht, rfl, e8, e9⟩ | ⟨_, e8, e9⟩
  rotate_left
  · exact Ok_eq (-4611686018427387904) Q (by rw [fX8_pairs, e8, zb_some, zo_n]) (by rw [fX9_pairs, e9, zb_some, if_pos rfl])
  obtain ⟨kd, n, C, w, W, T1, T2, O, hA⟩ := R.2.2.2.1 t ht
  have h8 := R.1.2.1.1
  rcases part_at y with ⟨j, hj, rfl, hy⟩ | ⟨h, hy⟩ | ⟨h0, h, hy⟩
  rotate_left
  · exact Ok_eq (-4611686018427387904) Q (by rw [fX8_pairs, e8, zb_some, zo_s, if_pos h]) (by rw [fX9_pairs, e9, zb_some, if_neg r10, hy, zb_some, if_pos rfl])
  · exact Ok_eq (-4611686018427387904) Q (by rw [fX8_pairs, e8, zb_some, zo_s, if_neg h0, if_neg h]) (by rw [fX9_pairs, e9, zb_some, if_neg r10, hy, zb_some, if_pos rfl])
  have hw := O.1.2.2.2.2
  have ha := (alS_le O (w + 1) 0 0 (by omega)).2
  have g8 : fX8_pairs (nI t) (nI j) z = zk_bd (fX8_partInLowestTerms (suS W w (gp w) (w + 1) 0 0) (nI (alS W w (w + 1) 0 0 * pcn w)) (nI j) z) (fun r11 z10 => some (r11, z10)) := by
    rw [fX8_pairs, e8, zb_some, zo_s, if_neg (nI_lt0 (by omega)), if_pos (by rw [show (1 : Int32) = nI 1 from rfl, nI_leI (by omega) (by decide)]; exact hj), pai4 T1 O, zb_some, all4 T1 O, zb_some, fX4_pairCount, zb_some, T1.1.2.2.2, pcn_eq w (by omega), pk_mul]
  have g9 : fX9_pairs (nI t) (nI j) z = if nI w = 1 then some ((nI j).toInt64, z) else zk_bd (fX9_lowest (suS W w (gp w) (w + 1) 0 0).toInt64 (lN (alS W w (w + 1) 0 0 * pcn w)) (nI j) z) (fun r8 z7 => some (r8, z7)) := by
    have hp : pcn w ≤ 3 := by
      have : ∀ w, w ≤ 3 → pcn w ≤ 3 := by decide
      exact this w (by omega)
    have e := pr9_L (x := nI j) T2 O (show t < 6 by omega) (w + 1) zk_FU 0 0 (by omega) (by show w + 1 < 6000; omega)
    rw [fX9_pairs, e9, zb_some, if_neg r10, hy, zb_some, if_neg r10, zx_nI (by omega) (by decide), zg_t, nI_clamp (by omega), T2.1.2.2.2]
    refine (show fX9_pairs_L34 zk_FU (nI t) (nI j) (nI w) 0 0 z = _ from e).trans ?_
    rw [all9 T2 O (by omega), zb_some, pcn_eq w (by omega), nI_l (n := alS W w (w + 1) 0 0) (by omega), nI_l (n := pcn w) (by omega), lN_mul]
  by_cases h1 : w = 1
  · subst h1
    have e0 : suS W 1 (gp 1) (1 + 1) 0 0 = 0 := by
      rw [suS, suS, suS, show gp 1 0 = 0 from by decide, show gp 1 (0 + 1) = 0 from by decide, Int32.mul_zero, Int32.mul_zero]; rfl
    refine Ok_eq _ Q ?_ (by rw [g9, if_pos (show nI 1 = 1 from rfl)])
    rw [g8, e0, fX8_partInLowestTerms, if_pos rfl]; rfl
  · have hp1 : 1 ≤ pcn w ∧ pcn w ≤ 3 := by
      have : ∀ w, w ≤ 3 → 2 ≤ w → 1 ≤ pcn w ∧ pcn w ≤ 3 := by decide
      exact this w (by omega) (by omega)
    obtain ⟨b, eb, hb0, hb1⟩ := al_mul (p := pcn w) O hA hp1.1 hp1.2
    obtain ⟨p, hp, q, hq, es⟩ := suS_s O (gp_s w (by omega)) (w + 1) 0 0 0 (by omega)
    rw [show nI 0 - nI 0 = 0 from rfl] at es
    obtain ⟨r, l8, l9⟩ := low_eq (b := b) (x := j) z es (by omega) (by omega) hb1 (fun c => absurd c hb0) hj
    exact Ok_eq r Q (by rw [g8, ← eb, l8, zb_some]) (by rw [g9, if_neg (show ¬ nI w = 1 from ne_nI (b := 1) (by omega) (by decide) h1), ← eb, l9, zb_some])
theorem ok_balance {z : zk_Z} {nt nr nk tp : Nat} (R : Rl z nt nr nk tp) (x : Int32) : Ok (fX8_balance x) (fX9_balance x) z := by
  have Q : Rx z := ⟨nt, nr, nk, tp, R⟩
  rcases rec_at R x with ⟨t, ht, rfl, e8, e9⟩ | ⟨_, e8, e9⟩
  rotate_left
  · exact Ok_eq (-5) Q (by rw [fX8_balance, e8, zb_some, zo_n]) (by rw [fX9_balance, e9, zb_some, if_pos rfl])
  obtain ⟨kd, n, C, w, W, T1, T2, O, hA⟩ := R.2.2.2.1 t ht
  have h8 := R.1.2.1.1
  have hw := O.1.2.2.2.2
  have g8 := bl8_A T1 O (w + 1) zk_FU 0 none (by omega) (by show w + 1 < 6000; omega) (fun p h => by cases h)
  have g9 := bl9_A T2 O (show t < 6 by omega) (w + 1) zk_FU 0 none (by omega) (by show w + 1 < 6000; omega) (fun p h => by cases h)
  refine Ok_eq (o3 (blA kd w W (w + 1) 0 none)) Q ?_ ?_
  · rw [fX8_balance, e8, zb_some, zo_s]; exact g8
  · rw [fX9_balance, e9, zb_some, if_neg r10]; exact g9
