/-! what is asked of tasks -/
theorem one_under (z : zk_Z) : ∀ kd, kd < 6 → ∀ c, c < 8 → ∃ v : Int32, (v = 0 ∨ v = 1) ∧ fX2_isOne (nI kd) (nI c) z = some (v, z) ∧ (c < 6 → fX9_isUnder (nI kd) (nI c) z = some (v, z)) ∧ (6 ≤ c → v = 0) := by
  intro kd hk c hc
  rcases (show kd = 0 ∨ kd = 1 ∨ kd = 2 ∨ kd = 3 ∨ kd = 4 ∨ kd = 5 by omega) with rfl | rfl | rfl | rfl | rfl | rfl <;> rcases (show c = 0 ∨ c = 1 ∨ c = 2 ∨ c = 3 ∨ c = 4 ∨ c = 5 ∨ c = 6 ∨ c = 7 by omega) with rfl | rfl | rfl | rfl | rfl | rfl | rfl | rfl <;> first | exact ⟨1, Or.inr rfl, rfl, fun _ => rfl, fun h => absurd h (by decide)⟩ | exact ⟨0, Or.inl rfl, rfl, fun _ => rfl, fun _ => rfl⟩
theorem up9 (x : Int32) {c : Nat} (hc : c < 2 ^ 29) : (∃ j, j ≤ c ∧ x = nI j ∧ ∀ z, fX9_in x 0 (nI c) z = some (1, z)) ∨ (x < 0 ∧ ∀ z, fX9_in x 0 (nI c) z = some (0, z)) ∨ (¬ x < 0 ∧ nI c < x ∧ ∀ z, fX9_in x 0 (nI c) z = some (0, z)) := by
  rcases pk_ix x (n := c + 1) (by omega) with h | h | ⟨j, hj, rfl⟩
  · exact Or.inr (Or.inl ⟨h, fun z => in9_neg z h⟩)
  · have h1 : nI c < x := by
      have e := Int32.le_iff_toInt_le.mp h
      rw [nI_toInt (by omega)] at e
      rw [Int32.lt_iff_toInt_lt, nI_toInt (by omega)]
      omega
    refine Or.inr (Or.inr ⟨fun q => ?_, h1, fun z => in9_big z hc h⟩)
    have e := Int32.le_iff_toInt_le.mp h
    rw [nI_toInt (by omega)] at e
    rw [Int32.lt_iff_toInt_lt, show (0 : Int32).toInt = 0 from by decide] at q
    omega
  · exact Or.inl ⟨j, by omega, rfl, fun z => in9_in (l := 0) z (Nat.zero_le _) (by omega) (by omega)⟩
theorem ok_taken {z : zk_Z} {nt nr nk tp : Nat} (R : Rl z nt nr nk tp) (x i y : Int32) : Ok (fX8_taken x i y) (fX9_taken x i y) z := by
  have Q : Rx z := ⟨nt, nr, nk, tp, R⟩
  have e2 : (2 : Int32) = nI 2 := rfl
  have e7 : (7 : Int32) = nI 7 := rfl
  rcases up9 x (c := 2) (by decide) with ⟨j, hj, rfl, hx⟩ | ⟨h, hx⟩ | ⟨h0, h, hx⟩
  rotate_left
  · exact Ok_eq (-2) Q (by rw [fX8_taken, if_pos h]) (by rw [fX9_taken, e2, hx, zb_some, if_pos rfl])
  · exact Ok_eq (-2) Q (by rw [fX8_taken, if_neg h0, e2, if_pos h]) (by rw [fX9_taken, e2, hx, zb_some, if_pos rfl])
  have a1 : ¬ (nI j < 0) := nI_lt0 (by omega)
  have a2 : ¬ (2 < nI j) := by rw [e2, nI_ltI (by decide) (by omega)]; omega
  rcases up9 y (c := 7) (by decide) with ⟨c, hc, rfl, hy⟩ | ⟨h, hy⟩ | ⟨h0, h, hy⟩
  rotate_left
  · exact Ok_eq (-2) Q (by rw [fX8_taken, if_neg a1, if_neg a2, if_pos h]) (by rw [fX9_taken, e2, hx, zb_some, if_neg r10, e7, hy, zb_some, if_pos rfl])
  · exact Ok_eq (-2) Q (by rw [fX8_taken, if_neg a1, if_neg a2, if_neg h0, e7, if_neg (Int32.not_le.mpr h)]) (by rw [fX9_taken, e2, hx, zb_some, if_neg r10, e7, hy, zb_some, if_pos rfl])
  have b1 : ¬ (nI c < 0) := nI_lt0 (by omega)
  have b2 : nI c ≤ 7 := by rw [e7, nI_leI (by omega) (by decide)]; exact hc
  rcases (show j = 0 ∨ j = 1 ∨ j = 2 by omega) with rfl | rfl | rfl
  · have g9 : fX9_taken (nI 0) i (nI c) z = zk_bd (fX9_in i 0 (nI nt - 1) z) (fun r8 z7 => if r8 = 0 then some ((-11), z7) else if 6 ≤ nI c then some ((-13), z7) else zk_gd (zk_ix i 9) (zk_bd (fX9_isUnder (z7.1 27 0 i.toNatClampNeg) (nI c) z7) (fun r10 z9 => if r10 = 0 then some ((-13), z9) else zk_gd (zk_ix i 9) (some (z9.1 27 0 i.toNatClampNeg, z9))))) := by
      rw [fX9_taken, e2, hx, zb_some, if_neg r10, e7, hy, zb_some, if_neg r10, fX9_count, if_pos (show nI 0 = 0 from rfl), R.1.1.2.2, zb_some]; rfl
    have g8 : fX8_taken (nI 0) i (nI c) z = zk_bd (fX8_taskAt i z) (fun r2 z1 => zk_oc r2 (zk_bd (fX8_taskTaken_N (nI c) z1) (fun r5 z4 => some (r5, z4))) (fun kk3 => zk_bd (fX8_taskTaken_S kk3 (nI c) z1) (fun r7 z6 => some (r7, z6)))) := by
      rw [fX8_taken, if_neg a1, if_neg a2, if_neg b1, if_pos b2, if_pos (show nI 0 = 0 from rfl)]
    rcases task_at R i with ⟨t, ht, rfl, e8, e9⟩ | ⟨ho, e8, e9⟩
    rotate_left
    · refine Ok_eq (-11) Q (by rw [g8, e8, zb_some, zo_n]; rfl) ?_
      rw [g9]
      rcases in9_cnt (x := i) (c := nt) z (by have := R.1.1.1; omega) with ⟨j, hj, rfl, h⟩ | ⟨_, h'⟩
      · rcases ho with ho | ho
        · exact absurd ho (nI_lt0 (by have := R.1.1.1; omega))
        · rw [nI_leI (by have := R.1.1.1; omega) (by have := R.1.1.1; omega)] at ho; omega
      · rw [h', zb_some, if_pos rfl]
    obtain ⟨kd, n, C, P, A, H, T1, T2, O, _⟩ := R.2.2.1 t ht
    have h8 := R.1.1.1
    have hin : fX9_in (nI t) 0 (nI nt - 1) z = some (1, z) := by
      obtain ⟨q, rfl⟩ : ∃ q, nt = q + 1 := ⟨nt - 1, by omega⟩
      rw [nI_sub1, show (0 : Int32) = nI 0 from rfl]
      exact in9_in z (Nat.zero_le _) (by omega) (by omega)
    obtain ⟨v, hv, u1, u2, u3⟩ := one_under z kd O.1.1 c (by omega)
    have k8 : fX8_taken (nI 0) (nI t) (nI c) z = if v = 0 then some (-13, z) else some (nI kd, z) := by
      rw [g8, e8, zb_some, zo_s, fX8_taskTaken_S, T1.1.1, u1, zb_some, T1.1.1]
      rcases hv with rfl | rfl <;> rfl
    have k9 : fX9_taken (nI 0) (nI t) (nI c) z = if v = 0 then some (-13, z) else some (nI kd, z) := by
      rw [g9, hin, zb_some, if_neg r10]
      by_cases h6 : c < 6
      · rw [if_neg (by rw [show (6 : Int32) = nI 6 from rfl, nI_leI (by decide) (by omega)]; omega), zx_nI (by omega) (by decide), zg_t, nI_clamp (by omega), T2.1.1, u2 h6, zb_some, zg_t, T2.1.1]
      · rw [if_pos (by rw [show (6 : Int32) = nI 6 from rfl, nI_leI (by decide) (by omega)]; omega), if_pos (u3 (by omega))]
    rcases hv with rfl | rfl
    · exact Ok_eq (-13) Q (by rw [k8, if_pos rfl]) (by rw [k9, if_pos rfl])
    · exact Ok_eq (nI kd) Q (by rw [k8, if_neg r10]) (by rw [k9, if_neg r10])
  · have g9 : fX9_taken (nI 1) i (nI c) z = zk_bd (fX9_in i 0 (nI nr - 1) z) (fun r8 z7 => if r8 = 0 then some ((-11), z7) else if nI c = 6 then zk_gd (zk_ix i 6) (some (z7.1 25 0 i.toNatClampNeg, z7)) else some ((-13), z7)) := by
      rw [fX9_taken, e2, hx, zb_some, if_neg r10, e7, hy, zb_some, if_neg r10, fX9_count, if_neg (show ¬ nI 1 = 0 from r10), if_pos (show nI 1 = 1 from rfl), R.1.2.1.2.2, zb_some]; rfl
    have g8 : fX8_taken (nI 1) i (nI c) z = zk_bd (fX8_recipeAt i z) (fun r9 z8 => zk_oc r9 (some ((-11), z8)) (fun kk10 => if nI c = 6 then some (z8.1 4 kk10 3, z8) else some ((-13), z8))) := by
      rw [fX8_taken, if_neg a1, if_neg a2, if_neg b1, if_pos b2, if_neg (show ¬ nI 1 = 0 from r10), if_pos (show nI 1 = 1 from rfl)]
    have h8 := R.1.2.1.1
    rcases rec_at R i with ⟨t, ht, rfl, e8, e9⟩ | ⟨ho, e8, e9⟩
    rotate_left
    · refine Ok_eq (-11) Q (by rw [g8, e8, zb_some, zo_n]) ?_
      rw [g9]
      rcases in9_cnt (x := i) (c := nr) z (by omega) with ⟨j, hj, rfl, h⟩ | ⟨_, h'⟩
      · rcases ho with ho | ho
        · exact absurd ho (nI_lt0 (by omega))
        · rw [nI_leI (by omega) (by omega)] at ho; omega
      · rw [h', zb_some, if_pos rfl]
    obtain ⟨kd, n, C, w, W, T1, T2, O, _⟩ := R.2.2.2.1 t ht
    have hin : fX9_in (nI t) 0 (nI nr - 1) z = some (1, z) := by
      obtain ⟨q, rfl⟩ : ∃ q, nr = q + 1 := ⟨nr - 1, by omega⟩
      rw [nI_sub1, show (0 : Int32) = nI 0 from rfl]
      exact in9_in z (Nat.zero_le _) (by omega) (by omega)
    by_cases h6 : nI c = 6
    · exact Ok_eq (nI w) Q (by rw [g8, e8, zb_some, zo_s, if_pos h6, T1.1.2.2.2]) (by rw [g9, hin, zb_some, if_neg r10, if_pos h6, zx_nI (by omega) (by decide), zg_t, nI_clamp (by omega), T2.1.2.2.2])
    · exact Ok_eq (-13) Q (by rw [g8, e8, zb_some, zo_s, if_neg h6]) (by rw [g9, hin, zb_some, if_neg r10, if_neg h6])
  · have g9 : fX9_taken (nI 2) i (nI c) z = zk_bd (fX9_in i 0 (nI nk - 1) z) (fun r8 z7 => if r8 = 0 then some ((-11), z7) else if nI c = 7 then zk_gd (zk_ix i 20) (some (z7.1 36 0 i.toNatClampNeg, z7)) else some ((-13), z7)) := by
      rw [fX9_taken, e2, hx, zb_some, if_neg r10, e7, hy, zb_some, if_neg r10, fX9_count, if_neg (show ¬ nI 2 = 0 by decide), if_neg (show ¬ nI 2 = 1 by decide), if_pos (show nI 2 = 2 from rfl), R.1.2.2.2.2, zb_some]; rfl
    have g8 : fX8_taken (nI 2) i (nI c) z = zk_bd (fX8_claimAt i z) (fun r12 z11 => zk_oc r12 (some ((-11), z11)) (fun kk13 => if nI c = 7 then some (z11.1 11 kk13 1, z11) else some ((-13), z11))) := by
      rw [fX8_taken, if_neg a1, if_neg a2, if_neg b1, if_pos b2, if_neg (show ¬ nI 2 = 0 by decide), if_neg (show ¬ nI 2 = 1 by decide)]
    have h8 := R.1.2.2.1
    rcases clm_at R i with ⟨t, ht, rfl, e8, e9⟩ | ⟨ho, e8, e9⟩
    rotate_left
    · refine Ok_eq (-11) Q (by rw [g8, e8, zb_some, zo_n]) ?_
      rw [g9]
      rcases in9_cnt (x := i) (c := nk) z (by omega) with ⟨j, hj, rfl, h⟩ | ⟨_, h'⟩
      · rcases ho with ho | ho
        · exact absurd ho (nI_lt0 (by omega))
        · rw [nI_leI (by omega) (by omega)] at ho; omega
      · rw [h', zb_some, if_pos rfl]
    obtain ⟨a, s, st, _, ⟨b1, b2, _⟩, _⟩ := R.2.2.2.2.1 t ht
    have hin : fX9_in (nI t) 0 (nI nk - 1) z = some (1, z) := by
      obtain ⟨q, rfl⟩ : ∃ q, nk = q + 1 := ⟨nk - 1, by omega⟩
      rw [nI_sub1, show (0 : Int32) = nI 0 from rfl]
      exact in9_in z (Nat.zero_le _) (by omega) (by omega)
    by_cases h6 : nI c = 7
    · exact Ok_eq (nI s) Q (by rw [g8, e8, zb_some, zo_s, if_pos h6, b1]) (by rw [g9, hin, zb_some, if_neg r10, if_pos h6, zx_nI (by omega) (by decide), zg_t, nI_clamp (by omega), b2])
    · exact Ok_eq (-13) Q (by rw [g8, e8, zb_some, zo_s, if_neg h6]) (by rw [g9, hin, zb_some, if_neg r10, if_neg h6])
theorem row_at {n : Nat} (hn : n ≤ 10) (x : Int32) : (∃ q, q < 2 ^ n ∧ x = nI q ∧ (∀ z, fX8_isRow x (nI n) z = some (1, z)) ∧ ∀ (z : zk_Z) t, t < 9 → z.1 28 0 t = nI n → fX9_isRow (nI t) x z = some (1, z)) ∨ ((∀ z, fX8_isRow x (nI n) z = some (0, z)) ∧ ∀ (z : zk_Z) t, t < 9 → z.1 28 0 t = nI n → fX9_isRow (nI t) x z = some (0, z)) := by
  have h2 := p2_le hn
  have g9 : ∀ (z : zk_Z) t, t < 9 → z.1 28 0 t = nI n → fX9_isRow (nI t) x z = zk_bd (fX9_in x 0 (nI (2 ^ n) - 1) z) (fun r2 z1 => zk_gd (zk_bz r2) (some (r2, z1))) := by
    intro z t ht hz
    rw [fX9_isRow, zx_nI ht (by decide), zg_t, nI_clamp (by omega), hz, nI_shl (by omega)]
  rcases pk_ix x (n := 2 ^ n) (by omega) with h | h | ⟨q, hq, rfl⟩
  · exact Or.inr ⟨fun z => by rw [fX8_isRow, if_pos h], fun z t ht hz => by rw [g9 z t ht hz, in9_neg z h, zb_some]; rfl⟩
  · refine Or.inr ⟨fun z => ?_, fun z t ht hz => ?_⟩
    · rw [fX8_isRow, nI_shl (by omega), if_pos h]
      split <;> rfl
    · obtain ⟨p, hp⟩ : ∃ p, 2 ^ n = p + 1 := ⟨2 ^ n - 1, by have := Nat.two_pow_pos n; omega⟩
      rw [g9 z t ht hz, hp, nI_sub1, in9_big z (by omega) (by rw [← hp]; exact h), zb_some]; rfl
  · refine Or.inl ⟨q, hq, rfl, fun z => ?_, fun z t ht hz => ?_⟩
    · rw [fX8_isRow, nI_shl (by omega), if_neg (nI_lt0 (by omega)), if_neg (by rw [nI_leI (by omega) (by omega)]; omega)]
    · obtain ⟨p, hp⟩ : ∃ p, 2 ^ n = p + 1 := ⟨2 ^ n - 1, by omega⟩
      rw [g9 z t ht hz, hp, nI_sub1, show (0 : Int32) = nI 0 from rfl, in9_in z (Nat.zero_le _) (by omega) (by omega), zb_some]; rfl
theorem ok_solves {z : zk_Z} {nt nr nk tp : Nat} (R : Rl z nt nr nk tp) (x y : Int32) : Ok (fX8_solves x y) (fX9_solves x y) z := by
  have Q : Rx z := ⟨nt, nr, nk, tp, R⟩
  rcases task_at R x with ⟨t, ht, rfl, e8, e9⟩ | ⟨_, e8, e9⟩
  rotate_left
  · exact Ok_eq (-5) Q (by rw [fX8_solves, e8, zb_some, zo_n]) (by rw [fX9_solves, e9, zb_some, if_pos rfl])
  obtain ⟨kd, n, C, P, A, H, T1, T2, O, _⟩ := R.2.2.1 t ht
  have h8 := R.1.1.1
  have h2 := p2_le O.1.2.2.1
  rcases row_at O.1.2.2.1 y with ⟨q, hq, rfl, r8, r9⟩ | ⟨r8, r9⟩
  · have b8 := e7_broken (c := 0) T1 O (show q < 1024 by omega) (Nat.zero_le _)
    have b9 := e9_broken T2 O (by omega) (show q < 1024 by omega)
    exact Ok_eq _ Q (by rw [fX8_solves, e8, zb_some, zo_s, T1.1.2.1, r8, zb_some, if_neg r10, show (0 : Int32) = nI 0 from rfl, b8, zb_some, Nat.sub_zero]) (by rw [fX9_solves, e9, zb_some, if_neg r10, r9 z t (by omega) T2.1.2.1, zb_some, if_neg r10, b9, zb_some])
  · exact Ok_eq (-2) Q (by rw [fX8_solves, e8, zb_some, zo_s, T1.1.2.1, r8, zb_some, if_pos rfl]) (by rw [fX9_solves, e9, zb_some, if_neg r10, r9 z t (by omega) T2.1.2.1, zb_some, if_pos rfl])
/-- a negative row is no part of a row -/
theorem neg_and {x : Int32} {q : Nat} (h : x < 0) (hq : q < 1024) : x &&& (nI q ^^^ (-1)) ≠ 0 := by
  intro e
  have h1 : x.toBitVec.msb = true := by
    rw [BitVec.msb_eq_toInt]
    exact decide_eq_true (Int32.lt_iff_toInt_lt.mp h)
  have h2 : (nI q).toBitVec.msb = false := by
    rw [BitVec.msb_eq_toInt]
    exact decide_eq_false (fun c => nI_lt0 (r := q) (by omega) (Int32.lt_iff_toInt_lt.mpr c))
  have h3 : (x &&& (nI q ^^^ (-1))).toBitVec.msb = true := by
    show (x.toBitVec &&& ((nI q).toBitVec ^^^ (-1 : Int32).toBitVec)).msb = true
    rw [BitVec.msb_and, BitVec.msb_xor, h1, h2]; decide
  rw [e] at h3
  exact absurd h3 (by decide)
theorem ok_answers {z : zk_Z} {nt nr nk tp : Nat} (R : Rl z nt nr nk tp) (x y w : Int32) : Ok (fX8_answers x y w) (fX9_answers x y w) z := by
  have Q : Rx z := ⟨nt, nr, nk, tp, R⟩
  rcases task_at R x with ⟨t, ht, rfl, e8, e9⟩ | ⟨_, e8, e9⟩
  rotate_left
  · exact Ok_eq (-5) Q (by rw [fX8_answers, e8, zb_some, zo_n]) (by rw [fX9_answers, e9, zb_some, if_pos rfl])
  obtain ⟨kd, n, C, P, A, H, T1, T2, O, _⟩ := R.2.2.1 t ht
  have h8 := R.1.1.1
  have h2 := p2_le O.1.2.2.1
  rcases row_at O.1.2.2.1 y with ⟨q, hq, rfl, r8, r9⟩ | ⟨r8, r9⟩
  rotate_left
  · exact Ok_eq (-2) Q (by rw [fX8_answers, e8, zb_some, zo_s, T1.1.2.1, r8, zb_some, if_pos rfl]) (by rw [fX9_answers, e9, zb_some, if_neg r10, r9 z t (by omega) T2.1.2.1, zb_some, if_pos rfl])
  by_cases h0 : w &&& (nI q ^^^ (-1)) = 0
  · have hw : ¬ w < 0 := fun c => neg_and c (by omega) h0
    exact Ok_eq _ Q (by rw [fX8_answers, e8, zb_some, zo_s, T1.1.2.1, r8, zb_some, if_neg r10, if_pos h0, e7_count T1 O, zb_some]) (by rw [fX9_answers, e9, zb_some, if_neg r10, r9 z t (by omega) T2.1.2.1, zb_some, if_neg r10, if_neg hw, if_pos h0, e9_count T2 O (by omega), zb_some])
  · refine Ok_eq (-2) Q (by rw [fX8_answers, e8, zb_some, zo_s, T1.1.2.1, r8, zb_some, if_neg r10, if_neg h0]) ?_
    rw [fX9_answers, e9, zb_some, if_neg r10, r9 z t (by omega) T2.1.2.1, zb_some, if_neg r10, if_neg h0]
    split <;> rfl
theorem ok_answer {z : zk_Z} {nt nr nk tp : Nat} (R : Rl z nt nr nk tp) (x y : Int32) : Ok (fX8_answer x y) (fX9_answer x y) z := by
  have Q : Rx z := ⟨nt, nr, nk, tp, R⟩
  rcases task_at R x with ⟨t, ht, rfl, e8, e9⟩ | ⟨_, e8, e9⟩
  rotate_left
  · exact Ok_eq (-5) Q (by rw [fX8_answer, e8, zb_some, zo_n]) (by rw [fX9_answer, e9, zb_some, if_pos rfl])
  obtain ⟨kd, n, C, P, A, H, T1, T2, O, _⟩ := R.2.2.1 t ht
  have h8 := R.1.1.1
  have h2 := p2_le O.1.2.2.1
  exact Ok_eq _ Q (by rw [fX8_answer, e8, zb_some, zo_s, show (0 : Int32) = nI 0 from rfl, e8_answer_L T1 O y (2 ^ n) zk_FU 0 0 (by omega) (by show 2 ^ n < 6000; omega)]) (by rw [fX9_answer, e9, zb_some, if_neg r10, show (0 : Int32) = nI 0 from rfl, e9_answer_L T2 O (by omega) y (2 ^ n) zk_FU 0 0 (by omega) (by show 2 ^ n < 6000; omega)])
theorem ok_nearest {z : zk_Z} {nt nr nk tp : Nat} (R : Rl z nt nr nk tp) (x y : Int32) : Ok (fX8_nearest x y) (fX9_nearest x y) z := by
  have Q : Rx z := ⟨nt, nr, nk, tp, R⟩
  rcases task_at R x with ⟨t, ht, rfl, e8, e9⟩ | ⟨_, e8, e9⟩
  rotate_left
  · exact Ok_eq (-5) Q (by rw [fX8_nearest, e8, zb_some, zo_n]) (by rw [fX9_nearest, e9, zb_some, if_pos rfl])
  obtain ⟨kd, n, C, P, A, H, T1, T2, O, _⟩ := R.2.2.1 t ht
  have h8 := R.1.1.1
  have h2 := p2_le O.1.2.2.1
  rcases row_at O.1.2.2.1 y with ⟨q, hq, rfl, r8, r9⟩ | ⟨r8, r9⟩
  rotate_left
  · exact Ok_eq (-2) Q (by rw [fX8_nearest, e8, zb_some, zo_s, T1.1.2.1, r8, zb_some, if_pos rfl]) (by rw [fX9_nearest, e9, zb_some, if_neg r10, r9 z t (by omega) T2.1.2.1, zb_some, if_pos rfl])
  have n8 := e8_nearest_L (q := q) T1 O (by omega) (2 ^ n) zk_FU 0 none (by omega) (by show 2 ^ n < 6000; omega)
  have n9 := e9_nearest_L (q := q) (t := t) T2 O (by omega) (by omega) (2 ^ n) zk_FU 0 none (fun j h => by cases h) (by omega) (by show 2 ^ n < 6000; omega)
  refine Ok_eq (oi (neS (sol kd C P A) q (2 ^ n) 0 none)) Q ?_ ?_
  · rw [fX8_nearest, e8, zb_some, zo_s, T1.1.2.1, r8, zb_some, if_neg r10, show (0 : Int32) = nI 0 from rfl]
    exact n8
  · rw [fX9_nearest, e9, zb_some, if_neg r10, r9 z t (by omega) T2.1.2.1, zb_some, if_neg r10, show (0 : Int32) = nI 0 from rfl]
    exact n9
