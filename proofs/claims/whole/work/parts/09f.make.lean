/-! what a change leaves; a task made by a recipe -/
theorem tkR_at {z z' : zk_Z} {t : Nat} (h : ∀ g k i, ((7 ≤ g ∧ g ≤ 9) ∧ k = t) ∨ ((27 ≤ g ∧ g ≤ 32) ∧ k = 0 ∧ i = t) ∨ ((g = 33 ∨ g = 34) ∧ k = 0 ∧ 24 * t ≤ i ∧ i < 24 * t + 24) → z'.1 g k i = z.1 g k i) (T : tkR z t) : tkR z' t := by
  obtain ⟨kd, n, C, P, A, H, h1, h2, h3, h4, h5, h6, h7⟩ := T
  have h24 := h3.1.2.2.2
  refine ⟨kd, n, C, P, A, H, ⟨⟨?_, ?_, ?_⟩, fun i hi => ⟨?_, ?_⟩⟩, ⟨⟨?_, ?_, ?_⟩, fun i hi => ⟨?_, ?_⟩⟩, h3, h4, ⟨?_, ?_⟩, ?_, ?_⟩
  · rw [h 7 t 0 (by omega)]; exact h1.1.1
  · rw [h 7 t 1 (by omega)]; exact h1.1.2.1
  · rw [h 7 t 2 (by omega)]; exact h1.1.2.2
  · rw [h 8 t i (by omega)]; exact (h1.2 i hi).1
  · rw [h 9 t i (by omega)]; exact (h1.2 i hi).2
  · rw [h 27 0 t (by omega)]; exact h2.1.1
  · rw [h 28 0 t (by omega)]; exact h2.1.2.1
  · rw [h 29 0 t (by omega)]; exact h2.1.2.2
  · rw [h 33 0 (24 * t + i) (by omega)]; exact (h2.2 i hi).1
  · rw [h 34 0 (24 * t + i) (by omega)]; exact (h2.2 i hi).2
  · rw [h 7 t 3 (by omega)]; exact h5.1
  · rw [h 30 0 t (by omega)]; exact h5.2
  · rw [h 31 0 t (by omega), h 7 t 4 (by omega)]; exact h6
  · rw [h 32 0 t (by omega), h 7 t 5 (by omega)]; exact h7
theorem RC_at {z z' : zk_Z} {r kd n C w : Nat} {W : Nat → Nat} (h : ∀ g k i, (g = 4 ∨ g = 5) ∧ k = r → z'.1 g k i = z.1 g k i) (h1 : RC z r kd n C w W) : RC z' r kd n C w W := by
  refine ⟨⟨?_, ?_, ?_, ?_⟩, fun i hi => ?_⟩
  · rw [h 4 r 0 (by omega)]; exact h1.1.1
  · rw [h 4 r 1 (by omega)]; exact h1.1.2.1
  · rw [h 4 r 2 (by omega)]; exact h1.1.2.2.1
  · rw [h 4 r 3 (by omega)]; exact h1.1.2.2.2
  · rw [h 5 r i (by omega)]; exact h1.2 i hi
theorem RM_at {z z' : zk_Z} {r kd n C w : Nat} {W : Nat → Nat} (hw : w ≤ 3) (h : ∀ g k i, ((22 ≤ g ∧ g ≤ 25) ∧ k = 0 ∧ i = r) ∨ (g = 26 ∧ k = 0 ∧ 4 * r ≤ i ∧ i < 4 * r + 4) → z'.1 g k i = z.1 g k i) (h1 : RM z r kd n C w W) : RM z' r kd n C w W := by
  refine ⟨⟨?_, ?_, ?_, ?_⟩, fun i hi => ?_⟩
  · rw [h 22 0 r (by omega)]; exact h1.1.1
  · rw [h 23 0 r (by omega)]; exact h1.1.2.1
  · rw [h 24 0 r (by omega)]; exact h1.1.2.2.1
  · rw [h 25 0 r (by omega)]; exact h1.1.2.2.2
  · rw [h 26 0 (4 * r + i) (by omega)]; exact h1.2 i hi
theorem rcR_at {z z' : zk_Z} {r : Nat} (h : ∀ g k i, ((g = 4 ∨ g = 5) ∧ k = r) ∨ ((22 ≤ g ∧ g ≤ 25) ∧ k = 0 ∧ i = r) ∨ (g = 26 ∧ k = 0 ∧ 4 * r ≤ i ∧ i < 4 * r + 4) → z'.1 g k i = z.1 g k i) (T : rcR z r) : rcR z' r := by
  obtain ⟨kd, n, C, w, W, h1, h2, h3⟩ := T
  exact ⟨kd, n, C, w, W, RC_at (fun g k i q => h g k i (Or.inl q)) h1, RM_at h3.1.1.2.2.2.2.2.1 (fun g k i q => h g k i (Or.inr q)) h2, h3⟩
theorem clR_at {z z' : zk_Z} {c nt : Nat} (h : ∀ g k i, (g = 11 ∧ k = c) ∨ ((35 ≤ g ∧ g ≤ 38) ∧ k = 0 ∧ i = c) → z'.1 g k i = z.1 g k i) (T : clR z c nt) : clR z' c nt := by
  obtain ⟨t, s, st, ⟨a1, a2, a3⟩, ⟨b1, b2, b3⟩, ⟨c1, c2, c3⟩, d⟩ := T
  refine ⟨t, s, st, ⟨?_, ?_, a3⟩, ⟨?_, ?_, b3⟩, ⟨?_, ?_, c3⟩, ?_⟩
  · rw [h 11 c 0 (by omega)]; exact a1
  · rw [h 35 0 c (by omega)]; exact a2
  · rw [h 11 c 1 (by omega)]; exact b1
  · rw [h 36 0 c (by omega)]; exact b2
  · rw [h 11 c 2 (by omega)]; exact c1
  · rw [h 37 0 c (by omega)]; exact c2
  · rw [h 38 0 c (by omega), h 11 c 3 (by omega)]; exact d
theorem clR_more {z : zk_Z} {c nt nt' : Nat} (hn : nt ≤ nt') (T : clR z c nt) : clR z c nt' := by
  obtain ⟨t, s, st, ⟨a1, a2, a3⟩, q⟩ := T
  exact ⟨t, s, st, ⟨a1, a2, by omega⟩, q⟩
theorem shR_at {z z' : zk_Z} {s : Nat} (h : ∀ g k i, ((g = 13 ∨ g = 14) ∧ k = s) ∨ ((g = 39 ∨ g = 40) ∧ k = 0 ∧ i = s) ∨ (g = 41 ∧ k = 0 ∧ 40 * s ≤ i ∧ i < 40 * s + 40) → z'.1 g k i = z.1 g k i) (T : shR z s) : shR z' s := by
  obtain ⟨so, sz, ⟨a1, a2, a3⟩, ⟨b1, b2, b3⟩, c⟩ := T
  refine ⟨so, sz, ⟨a1, ?_, ?_⟩, ⟨?_, ?_, b3⟩, fun i hi => ?_⟩
  · rw [h 13 s 1 (by omega)]; exact a2
  · rw [h 40 0 s (by omega)]; exact a3
  · rw [h 13 s 0 (by omega)]; exact b1
  · rw [h 39 0 s (by omega)]; exact b2
  · rw [h 41 0 (40 * s + i) (by omega), h 14 s i (by omega)]; exact c i hi
theorem imR_at {z z' : zk_Z} {nt nt' : Nat} (hn : nt ≤ nt') (h : ∀ g k i, (g = 0 ∧ k = 0 ∧ i = 14) ∨ (g = 20 ∧ k = 0 ∧ (i = 22 ∨ i = 23)) → z'.1 g k i = z.1 g k i) (T : imR z nt) : imR z' nt' := by
  unfold imR
  rw [h 0 0 14 (by omega), h 20 0 22 (by omega), h 20 0 23 (by omega)]
  rcases T with T | ⟨m, hm, T⟩
  · exact Or.inl T
  · exact Or.inr ⟨m, by omega, T⟩
theorem tpR_at {z z' : zk_Z} {tp : Nat} (h : ∀ g k i, (g = 1 ∧ k = 0 ∧ i = 1) ∨ (g = 20 ∧ k = 0 ∧ i = 1) ∨ ((g = 2 ∨ g = 21) ∧ k = 0) → z'.1 g k i = z.1 g k i) (T : tpR z tp) : tpR z' tp := by
  obtain ⟨⟨a1, a2, a3⟩, b⟩ := T
  refine ⟨⟨a1, ?_, ?_⟩, fun i hi => ?_⟩
  · rw [h 1 0 1 (by omega)]; exact a2
  · rw [h 20 0 1 (by omega)]; exact a3
  · rw [h 2 0 i (by omega), h 21 0 i (by omega)]; exact b i hi
theorem in9_c {j c : Nat} (z : zk_Z) (h : j < c) (hc : c < 2 ^ 29) : fX9_in (nI j) 0 (nI c - 1) z = some (1, z) := by
  obtain ⟨q, rfl⟩ : ∃ q, c = q + 1 := ⟨c - 1, by omega⟩
  rw [nI_sub1]
  exact in9_in (l := 0) z (Nat.zero_le _) (by omega) (by omega)
theorem is_task0 {z : zk_Z} {t nt : Nat} (h : z.1 20 0 8 = nI nt) (hn : nt ≤ 8) (ht : t < nt) : fX9_isTask (nI t) z = some (1, z) := by
  rw [fX9_isTask, h, in9_c z ht (by omega), zb_some]; rfl
theorem is_rec0 {z : zk_Z} {t nt : Nat} (h : z.1 20 0 2 = nI nt) (hn : nt ≤ 6) (ht : t < nt) : fX9_isRecipe (nI t) z = some (1, z) := by
  rw [fX9_isRecipe, h, in9_c z ht (by omega), zb_some]; rfl
theorem is_clm0 {z : zk_Z} {t nt : Nat} (h : z.1 20 0 17 = nI nt) (hn : nt ≤ 20) (ht : t < nt) : fX9_isClaim (nI t) z = some (1, z) := by
  rw [fX9_isClaim, h, in9_c z ht (by omega), zb_some]; rfl
/-- one task more -/
theorem Rl_task {z z' : zk_Z} {nt nr nk tp : Nat} (R : Rl z nt nr nk tp) (hn : nt < 8) (h : ∀ g k i, ¬ ((g = 42 ∨ (g = 0 ∧ i = 12) ∨ (g = 20 ∧ i = 8)) ∨ ((7 ≤ g ∧ g ≤ 9) ∧ k = nt) ∨ ((27 ≤ g ∧ g ≤ 32) ∧ i = nt) ∨ ((g = 33 ∨ g = 34) ∧ 24 * nt ≤ i ∧ i < 24 * nt + 24)) → z'.1 g k i = z.1 g k i) (h1 : z'.1 0 0 12 = nI (nt + 1)) (h2 : z'.1 20 0 8 = nI (nt + 1)) (T : tkR z' nt) : Rl z' (nt + 1) nr nk tp := by
  obtain ⟨⟨⟨a1, a2, a3⟩, ⟨b1, b2, b3⟩, ⟨c1, c2, c3⟩⟩, d, e, f, g, i, j⟩ := R
  refine ⟨⟨⟨by omega, h1, h2⟩, ⟨b1, ?_, ?_⟩, ⟨c1, ?_, ?_⟩⟩, ?_, fun t ht => ?_, fun r hr => ?_, fun k hk => ?_, fun s hs => ?_, ?_⟩
  · rw [h 0 0 11 (by omega)]; exact b2
  · rw [h 20 0 2 (by omega)]; exact b3
  · rw [h 0 0 13 (by omega)]; exact c2
  · rw [h 20 0 17 (by omega)]; exact c3
  · exact tpR_at (fun g k i q => h g k i (by omega)) d
  · by_cases e1 : t = nt
    · rw [e1]; exact T
    · exact tkR_at (fun g k i q => h g k i (by omega)) (e t (by omega))
  · exact rcR_at (fun g k i q => h g k i (by omega)) (f r hr)
  · exact clR_more (Nat.le_succ _) (clR_at (fun g k i q => h g k i (by omega)) (g k hk))
  · exact shR_at (fun g k i q => h g k i (by omega)) (i s hs)
  · exact imR_at (Nat.le_succ _) (fun g k i q => h g k i (by omega)) j
theorem TC_hi {z : zk_Z} {k kd n C i : Nat} {P A : Nat → Nat} {v : Int32} (hi : 3 ≤ i) (T : TC z k kd n C P A) : TC (zk_sI z 7 k i v) k kd n C P A := by
  refine ⟨⟨?_, ?_, ?_⟩, fun c hc => ⟨?_, ?_⟩⟩
  · rw [sI_at, if_neg (by omega)]; exact T.1.1
  · rw [sI_at, if_neg (by omega)]; exact T.1.2.1
  · rw [sI_at, if_neg (by omega)]; exact T.1.2.2
  · rw [sI_at, if_neg (by omega)]; exact (T.2 c hc).1
  · rw [sI_at, if_neg (by omega)]; exact (T.2 c hc).2
theorem ok_make {z : zk_Z} {nt nr nk tp : Nat} (R : Rl z nt nr nk tp) (x y : Int32) : Ok (fX8_make x y) (fX9_make x y) z := by
  have Q : Rx z := ⟨nt, nr, nk, tp, R⟩
  rcases rec_at R x with ⟨t, ht, rfl, e8, e9⟩ | ⟨_, e8, e9⟩
  rotate_left
  · exact Ok_eq (-1) Q (by rw [fX8_make, e8, zb_some, zo_n]) (by rw [fX9_make, e9, zb_some, if_pos rfl])
  obtain ⟨kd, n, C, w, W, T1, T2, O, hA⟩ := R.2.2.2.1 t ht
  have h8 := R.1.2.1.1
  have hn := R.1.1.1
  have e99 : (99999 : Int32) = nI 99999 := rfl
  have e8' : (8 : Int32) = nI 8 := rfl
  rcases up9 y (c := 99999) (by decide) with ⟨sd, hs, rfl, hy⟩ | ⟨h, hy⟩ | ⟨h0, h, hy⟩
  rotate_left
  · exact Ok_eq (-2) Q (by rw [fX8_make, e8, zb_some, zo_s, if_pos h]) (by rw [fX9_make, e9, zb_some, if_neg r10, e99, hy, zb_some, if_pos rfl])
  · refine Ok_eq (-2) Q ?_ (by rw [fX9_make, e9, zb_some, if_neg r10, e99, hy, zb_some, if_pos rfl])
    rw [fX8_make, e8, zb_some, zo_s, if_neg h0, if_neg (fun q : y < 100000 => by
      rw [Int32.lt_iff_toInt_lt] at q h
      rw [nI_toInt (by decide)] at h
      have : (100000 : Int32).toInt = 100000 := by decide
      omega)]
  have a1 : ¬ nI sd < 0 := nI_lt0 (by omega)
  have a2 : nI sd < 100000 := by rw [show (100000 : Int32) = nI 100000 from rfl, nI_ltI (by omega) (by decide)]; omega
  by_cases h88 : nt = 8
  · exact Ok_eq (-4) Q (by rw [fX8_make, e8, zb_some, zo_s, if_neg a1, if_pos a2, R.1.1.2.1, if_neg (by rw [e8', nI_ltI (by omega) (by decide)]; omega)]) (by rw [fX9_make, e9, zb_some, if_neg r10, e99, hy, zb_some, if_neg r10, R.1.1.2.2, if_pos (by rw [h88]; rfl)])
  obtain ⟨z1, q1, q2, q3, q4, _⟩ := fill3 (k1 := nt) (k2 := t) (sd := sd) T1 O hA (by omega)
  obtain ⟨v1, hv1⟩ : ∃ v, v = zk_sI (zk_sI (zk_sI z1 7 nt 4 (nI t)) 7 nt 5 (nI sd)) 0 0 12 (nI (nt + 1)) := ⟨_, rfl⟩
  have c12 : (zk_sI (zk_sI z1 7 nt 4 (nI t)) 7 nt 5 (nI sd)).1 0 0 12 = nI nt := by rw [sI_at, if_neg (by omega), sI_at, if_neg (by omega), q4 0 0 12 (by omega)]; exact R.1.1.2.1
  have g8 : fX8_make (nI t) (nI sd) z = some (nI nt, v1) := by
    rw [fX8_make, e8, zb_some, zo_s, if_neg a1, if_pos a2, R.1.1.2.1, if_pos (by rw [e8', nI_ltI (by omega) (by decide)]; omega), zx_nI (by omega) (by decide), zg_t, nI_clamp (by omega), q1, zb_some, fX8_keepTask, c12, nI_1, zb_some, ← hv1]
    have : v1.1 0 0 12 = nI (nt + 1) := by rw [hv1, sI_at, if_pos ⟨rfl, rfl, rfl⟩]
    rw [this, nI_sub1]
  have f1 : ∀ g k i, ¬ ((g = 0 ∧ i = 12) ∨ ((7 ≤ g ∧ g ≤ 9) ∧ k = nt)) → v1.1 g k i = z.1 g k i := by
    intro g k i hg
    rw [hv1, sI_at, if_neg (by omega), sI_at, if_neg (by omega), sI_at, if_neg (by omega), q4 g k i (by omega)]
  have TC1 : TC v1 nt kd n C (cl1 n w W (mkH n sd) (mkA n sd)) (cl2 n w W (mkH n sd) (mkA n sd)) := by
    have := TC_hi (i := 5) (v := nI sd) (by omega) (TC_hi (i := 4) (v := nI t) (by omega) q2)
    rw [hv1]; exact this
  have RM1 : RM v1 t kd n C w W := RM_at O.1.2.2.2.2.2.1 (fun g k i q => f1 g k i (by omega)) T2
  obtain ⟨z3, p1, p2, p3, p4, _⟩ := makes9 (t := nt) (k2 := t) (sd := sd) RM1 O (by omega) (by omega) hA (by omega)
  have c8 : z3.1 20 0 8 = nI nt := by rw [p4 20 0 8 (by omega), f1 20 0 8 (by omega)]; exact R.1.1.2.2
  have g9 : fX9_make (nI t) (nI sd) v1 = some (nI nt, zk_sI z3 20 0 8 (nI (nt + 1))) := by
    have e2 : v1.1 20 0 8 = nI nt := by rw [f1 20 0 8 (by omega)]; exact R.1.1.2.2
    have e3 : v1.1 20 0 2 = nI nr := by rw [f1 20 0 2 (by omega)]; exact R.1.2.1.2.2
    rw [fX9_make, is_rec0 e3 h8 ht, zb_some, if_neg r10, e99, hy, zb_some, if_neg r10, e2, if_neg (show ¬ nI nt = 8 from ne_nI (b := 8) (by omega) (by decide) h88), p1, zb_some, c8, nI_1, sI_at, if_pos ⟨rfl, rfl, rfl⟩, nI_sub1]
  refine ⟨_, _, _, g8, g9, nt + 1, nr, nk, tp, Rl_task R (by omega) (fun g k i hg => ?_) ?_ ?_ ?_⟩
  · rw [sI_at, if_neg (by omega), p4 g k i (by omega), f1 g k i (by omega)]
  · rw [sI_at, if_neg (by omega), p4 0 0 12 (by omega), hv1, sI_at, if_pos ⟨rfl, rfl, rfl⟩]
  · rw [sI_at, if_pos ⟨rfl, rfl, rfl⟩]
  · have G : ∀ g k i, ((7 ≤ g ∧ g ≤ 9) ∧ k = nt) → (zk_sI z3 20 0 8 (nI (nt + 1))).1 g k i = v1.1 g k i := fun g k i hg => by rw [sI_at, if_neg (by omega), p4 g k i (by omega)]
    have v4 : v1.1 7 nt 4 = nI t := by rw [hv1, sI_at, if_neg (by omega), sI_at, if_neg (by omega), sI_at, if_pos ⟨rfl, rfl, rfl⟩]
    have v5 : v1.1 7 nt 5 = nI sd := by rw [hv1, sI_at, if_neg (by omega), sI_at, if_pos ⟨rfl, rfl, rfl⟩]
    have v3 : v1.1 7 nt 3 = nI (mkH n sd) := by rw [hv1, sI_at, if_neg (by omega), sI_at, if_neg (by omega), sI_at, if_neg (by omega)]; exact q3.1
    refine ⟨kd, n, C, cl1 n w W (mkH n sd) (mkA n sd), cl2 n w W (mkH n sd) (mkA n sd), some (mkH n sd), ⟨⟨?_, ?_, ?_⟩, fun c hc => ⟨?_, ?_⟩⟩, ⟨⟨?_, ?_, ?_⟩, fun c hc => ⟨?_, ?_⟩⟩, tok_cl O hA, fun h e => ?_, ⟨?_, ?_⟩, ?_, ?_⟩
    · rw [G 7 nt 0 (by omega)]; exact TC1.1.1
    · rw [G 7 nt 1 (by omega)]; exact TC1.1.2.1
    · rw [G 7 nt 2 (by omega)]; exact TC1.1.2.2
    · rw [G 8 nt c (by omega)]; exact (TC1.2 c hc).1
    · rw [G 9 nt c (by omega)]; exact (TC1.2 c hc).2
    · exact p2.1.1
    · exact p2.1.2.1
    · exact p2.1.2.2
    · exact (p2.2 c hc).1
    · exact (p2.2 c hc).2
    · cases e; exact mkH_lt O.1.2.2.1 (by omega)
    · rw [G 7 nt 3 (by omega)]; exact v3
    · exact p3.1
    · rw [G 7 nt 4 (by omega), v4]; exact p3.2.1
    · rw [G 7 nt 5 (by omega), v5]; exact p3.2.2
