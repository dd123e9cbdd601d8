/-! what is told -/
theorem nn {x : Int32} (h : ¬ x < 0) : ∃ j : Nat, j < 2 ^ 31 ∧ x = nI j := nI_of h
theorem ne_nI {a b : Nat} (ha : a < 2 ^ 31) (hb : b < 2 ^ 31) (h : a ≠ b) : nI a ≠ nI b := fun q => h (nI_inj (by omega) (by omega) q)
theorem r10 : ¬ ((1 : Int32) = 0) := by decide
theorem ok_count {z : zk_Z} {nt nr nk tp : Nat} (R : Rl z nt nr nk tp) (x : Int32) : Ok (fX8_count x) (fX9_count x) z := by
  have Q : Rx z := ⟨nt, nr, nk, tp, R⟩
  obtain ⟨⟨⟨-, a2, a3⟩, ⟨-, b2, b3⟩, ⟨-, c2, c3⟩⟩, ⟨⟨-, d2, d3⟩, -⟩, -⟩ := R
  by_cases h0 : x = 0
  · exact Ok_eq (nI nt) Q (by rw [fX8_count, if_pos h0, a2]) (by rw [fX9_count, if_pos h0, a3])
  by_cases h1 : x = 1
  · exact Ok_eq (nI nr) Q (by rw [fX8_count, if_neg h0, if_pos h1, b2]) (by rw [fX9_count, if_neg h0, if_pos h1, b3])
  by_cases h2 : x = 2
  · exact Ok_eq (nI nk) Q (by rw [fX8_count, if_neg h0, if_neg h1, if_pos h2, c2]) (by rw [fX9_count, if_neg h0, if_neg h1, if_pos h2, c3])
  by_cases h3 : x = 3
  · exact Ok_eq (nI tp) Q (by rw [fX8_count, if_neg h0, if_neg h1, if_neg h2, if_pos h3, d2]) (by rw [fX9_count, if_neg h0, if_neg h1, if_neg h2, if_pos h3, d3])
  · exact Ok_eq (-2) Q (by rw [fX8_count, if_neg h0, if_neg h1, if_neg h2, if_neg h3]) (by rw [fX9_count, if_neg h0, if_neg h1, if_neg h2, if_neg h3])
theorem ok_taskTold {z : zk_Z} {nt nr nk tp : Nat} (R : Rl z nt nr nk tp) (x y : Int32) : Ok (fX8_taskTold x y) (fX9_taskTold x y) z := by
  have Q : Rx z := ⟨nt, nr, nk, tp, R⟩
  rcases task_at R x with ⟨t, ht, rfl, e8, e9⟩ | ⟨_, e8, e9⟩
  rotate_left
  · exact Ok_eq (-5) Q (by rw [fX8_taskTold, e8, zb_some, zo_n]) (by rw [fX9_taskTold, e9, zb_some, if_pos rfl])
  obtain ⟨kd, n, C, P, A, H, T1, T2, O, _, ⟨q1, q2⟩, q3, q4⟩ := R.2.2.1 t ht
  have h8 := R.1.1.1
  have ix : zk_ix (nI t) 9 = true := zx_nI (by omega) (by decide)
  have cl : (nI t).toNatClampNeg = t := nI_clamp (by omega)
  by_cases h0 : y = 0
  · exact Ok_eq (nI kd) Q (by rw [fX8_taskTold, e8, zb_some, zo_s, if_pos h0, T1.1.1]) (by rw [fX9_taskTold, e9, zb_some, if_neg r10, if_pos h0, ix, zg_t, cl, T2.1.1])
  by_cases h1 : y = 1
  · exact Ok_eq (nI n) Q (by rw [fX8_taskTold, e8, zb_some, zo_s, if_neg h0, if_pos h1, T1.1.2.1]) (by rw [fX9_taskTold, e9, zb_some, if_neg r10, if_neg h0, if_pos h1, ix, zg_t, cl, T2.1.2.1])
  by_cases h2 : y = 2
  · exact Ok_eq (nI C) Q (by rw [fX8_taskTold, e8, zb_some, zo_s, if_neg h0, if_neg h1, if_pos h2, T1.1.2.2]) (by rw [fX9_taskTold, e9, zb_some, if_neg r10, if_neg h0, if_neg h1, if_pos h2, ix, zg_t, cl, T2.1.2.2])
  by_cases h3 : y = 3
  · exact Ok_eq (oi H) Q (by rw [fX8_taskTold, e8, zb_some, zo_s, if_neg h0, if_neg h1, if_neg h2, if_pos h3, q1]) (by rw [fX9_taskTold, e9, zb_some, if_neg r10, if_neg h0, if_neg h1, if_neg h2, if_pos h3, ix, zg_t, cl, q2])
  by_cases h4 : y = 4
  · exact Ok_eq (z.1 7 t 4) Q (by rw [fX8_taskTold, e8, zb_some, zo_s, if_neg h0, if_neg h1, if_neg h2, if_neg h3, if_pos h4]) (by rw [fX9_taskTold, e9, zb_some, if_neg r10, if_neg h0, if_neg h1, if_neg h2, if_neg h3, if_pos h4, ix, zg_t, cl, q3])
  by_cases h5 : y = 5
  · exact Ok_eq (z.1 7 t 5) Q (by rw [fX8_taskTold, e8, zb_some, zo_s, if_neg h0, if_neg h1, if_neg h2, if_neg h3, if_neg h4, if_pos h5]) (by rw [fX9_taskTold, e9, zb_some, if_neg r10, if_neg h0, if_neg h1, if_neg h2, if_neg h3, if_neg h4, if_pos h5, ix, zg_t, cl, q4])
  · exact Ok_eq (-7) Q (by rw [fX8_taskTold, e8, zb_some, zo_s, if_neg h0, if_neg h1, if_neg h2, if_neg h3, if_neg h4, if_neg h5]) (by rw [fX9_taskTold, e9, zb_some, if_neg r10, if_neg h0, if_neg h1, if_neg h2, if_neg h3, if_neg h4, if_neg h5])
theorem ok_clauseTold {z : zk_Z} {nt nr nk tp : Nat} (R : Rl z nt nr nk tp) (x c y : Int32) : Ok (fX8_clauseTold x c y) (fX9_clauseTold x c y) z := by
  have Q : Rx z := ⟨nt, nr, nk, tp, R⟩
  rcases task_at R x with ⟨t, ht, rfl, e8, e9⟩ | ⟨_, e8, e9⟩
  rotate_left
  · exact Ok_eq (-5) Q (by rw [fX8_clauseTold, e8, zb_some, zo_n]) (by rw [fX9_clauseTold, e9, zb_some, if_pos rfl])
  obtain ⟨kd, n, C, P, A, H, T1, T2, O, _⟩ := R.2.2.1 t ht
  have h8 := R.1.1.1
  have h24 := O.1.2.2.2
  have g9 : fX9_clauseTold (nI t) c y z = fX9_clauseTold_B27 (nI t) c y (nI t) 0 c z := by rw [fX9_clauseTold, e9, zb_some, if_neg r10, e9, zb_some, if_neg r10]
  rcases in9_cnt (x := c) (c := C) z (by omega) with ⟨j, hj, rfl, h⟩ | ⟨h, h'⟩
  rotate_left
  · refine Ok_eq (-5) Q ?_ ?_
    · rw [fX8_clauseTold, e8, zb_some, zo_s, T1.1.2.2]
      rcases h with h | h
      · rw [if_pos h]
      · rw [if_neg (fun q : c < nI C => Int32.not_le.mpr q h)]
        split <;> rfl
    · rw [g9, fX9_clauseTold_B27, zx_nI (by omega) (by decide), zg_t, nI_clamp (by omega), T2.1.2.2, h', zb_some, if_pos rfl]
  have g8 : fX8_clauseTold (nI t) (nI j) y z = if y = 0 then some (nI (P j), z) else if y = 1 then some (nI (A j), z) else some (-7, z) := by
    rw [fX8_clauseTold, e8, zb_some, zo_s, T1.1.2.2, if_neg (nI_lt0 (by omega)), if_pos (by rw [nI_ltI (by omega) (by omega)]; exact hj), zx_nI (by omega) (by decide), zg_t, zg_t, nI_clamp (by omega), (T1.2 j hj).1, (T1.2 j hj).2]
  have g9' : fX9_clauseTold (nI t) (nI j) y z = if y = 0 then some (nI (P j), z) else if y = 1 then some (nI (A j), z) else some (-7, z) := by
    rw [g9, fX9_clauseTold_B27, zx_nI (show t < 9 by omega) (by decide), zg_t, nI_clamp (show t < 2 ^ 31 by omega), T2.1.2.2, h, zb_some, if_neg r10, nI_24, zx_nI (show 24 * t + j < 216 by omega) (by decide), zg_t, zg_t, nI_clamp (by omega), (T2.2 j hj).1, (T2.2 j hj).2]
  by_cases h0 : y = 0
  · exact Ok_eq (nI (P j)) Q (by rw [g8, if_pos h0]) (by rw [g9', if_pos h0])
  by_cases h1 : y = 1
  · exact Ok_eq (nI (A j)) Q (by rw [g8, if_neg h0, if_pos h1]) (by rw [g9', if_neg h0, if_pos h1])
  · exact Ok_eq (-7) Q (by rw [g8, if_neg h0, if_neg h1]) (by rw [g9', if_neg h0, if_neg h1])
theorem ok_recipeTold {z : zk_Z} {nt nr nk tp : Nat} (R : Rl z nt nr nk tp) (x y : Int32) : Ok (fX8_recipeTold x y) (fX9_recipeTold x y) z := by
  have Q : Rx z := ⟨nt, nr, nk, tp, R⟩
  rcases rec_at R x with ⟨t, ht, rfl, e8, e9⟩ | ⟨_, e8, e9⟩
  rotate_left
  · exact Ok_eq (-5) Q (by rw [fX8_recipeTold, e8, zb_some, zo_n]) (by rw [fX9_recipeTold, e9, zb_some, if_pos rfl])
  obtain ⟨kd, n, C, w, W, T1, T2, O, _⟩ := R.2.2.2.1 t ht
  have h8 := R.1.2.1.1
  have hw := O.1.2.2.2.2.2.1
  have ix : zk_ix (nI t) 6 = true := zx_nI (by omega) (by decide)
  have cl : (nI t).toNatClampNeg = t := nI_clamp (by omega)
  by_cases h0 : y = 0
  · exact Ok_eq (nI kd) Q (by rw [fX8_recipeTold, e8, zb_some, zo_s, if_pos h0, T1.1.1]) (by rw [fX9_recipeTold, e9, zb_some, if_neg r10, if_pos h0, ix, zg_t, cl, T2.1.1])
  by_cases h1 : y = 1
  · exact Ok_eq (nI n) Q (by rw [fX8_recipeTold, e8, zb_some, zo_s, if_neg h0, if_pos h1, T1.1.2.1]) (by rw [fX9_recipeTold, e9, zb_some, if_neg r10, if_neg h0, if_pos h1, ix, zg_t, cl, T2.1.2.1])
  by_cases h2 : y = 2
  · exact Ok_eq (nI C) Q (by rw [fX8_recipeTold, e8, zb_some, zo_s, if_neg h0, if_neg h1, if_pos h2, T1.1.2.2.1]) (by rw [fX9_recipeTold, e9, zb_some, if_neg r10, if_neg h0, if_neg h1, if_pos h2, ix, zg_t, cl, T2.1.2.2.1])
  by_cases h3 : y = 3
  · exact Ok_eq (nI w) Q (by rw [fX8_recipeTold, e8, zb_some, zo_s, if_neg h0, if_neg h1, if_neg h2, if_pos h3, T1.1.2.2.2]) (by rw [fX9_recipeTold, e9, zb_some, if_neg r10, if_neg h0, if_neg h1, if_neg h2, if_pos h3, ix, zg_t, cl, T2.1.2.2.2])
  have e4 : (4 : Int32) = nI 4 := rfl
  have g8 : fX8_recipeTold (nI t) y z = if y < nI 4 then some (-7, z) else if nI w < y - nI 4 then some (-7, z) else zk_gd (zk_ix (y - nI 4) 4) (some (z.1 5 t (y - nI 4).toNatClampNeg, z)) := by
    rw [fX8_recipeTold, e8, zb_some, zo_s, if_neg h0, if_neg h1, if_neg h2, if_neg h3, T1.1.2.2.2]; rfl
  have g9 : fX9_recipeTold (nI t) y z = zk_bd (fX9_in y (nI 4) (nI (4 + w)) z) (fun r8 z7 => if r8 = 0 then some ((-7), z7) else zk_bd (fX9_in y (nI 4) (nI 7) z7) (fun r10 z9 => if r10 = 0 then fX9_recipeTold_B112 0 (nI 4 * nI t) z9 else fX9_recipeTold_B112 (y - nI 4) (nI 4 * nI t) z9)) := by
    rw [fX9_recipeTold, e9, zb_some, if_neg r10, if_neg h0, if_neg h1, if_neg h2, if_neg h3, ix, zg_t, cl, T2.1.2.2.2, e4, nI_add]; rfl
  by_cases hl : y < nI 4
  · exact Ok_eq (-7) Q (by rw [g8, if_pos hl]) (by rw [g9, fX9_in, if_pos hl, zb_some, if_pos rfl])
  obtain ⟨m, hm, rfl⟩ := nn (x := y) (fun q => hl (by
    rw [Int32.lt_iff_toInt_lt] at q ⊢
    rw [nI_toInt (by decide)]
    have : (0 : Int32).toInt = 0 := by decide
    omega))
  have hm4 : 4 ≤ m := by rw [nI_ltI hm (by decide)] at hl; omega
  by_cases hb : m ≤ 4 + w
  rotate_left
  · refine Ok_eq (-7) Q ?_ ?_
    · rw [g8, if_neg hl, pk_sub hm4, if_pos (by rw [nI_ltI (by omega) (by omega)]; omega)]
    · rw [g9, in9_big z (by omega) (by rw [nI_leI (by omega) hm]; omega), zb_some, if_pos rfl]
  · refine Ok_eq (nI (W (m - 4))) Q ?_ ?_
    · rw [g8, if_neg hl, pk_sub hm4, if_neg (by rw [nI_ltI (by omega) (by omega)]; omega), zx_nI (by omega) (by decide), zg_t, nI_clamp (by omega), T1.2 _ (by omega)]
    · rw [g9, in9_in z hm4 hb (by omega), zb_some, if_neg r10, in9_in z hm4 (by omega) (by omega), zb_some, if_neg r10, pk_sub hm4, pk_mul, fX9_recipeTold_B112, nI_add, zx_nI (by omega) (by decide), zg_t, nI_clamp (by omega), T2.2 _ (by omega)]
theorem ok_claimTold {z : zk_Z} {nt nr nk tp : Nat} (R : Rl z nt nr nk tp) (x y : Int32) : Ok (fX8_claimTold x y) (fX9_claimTold x y) z := by
  have Q : Rx z := ⟨nt, nr, nk, tp, R⟩
  rcases clm_at R x with ⟨t, ht, rfl, e8, e9⟩ | ⟨_, e8, e9⟩
  rotate_left
  · exact Ok_eq (-5) Q (by rw [fX8_claimTold, e8, zb_some, zo_n]) (by rw [fX9_claimTold, e9, zb_some, if_pos rfl])
  obtain ⟨a, s, st, ⟨a1, a2, _⟩, ⟨b1, b2, _⟩, ⟨c1, c2, _⟩, d⟩ := R.2.2.2.2.1 t ht
  have h8 := R.1.2.2.1
  have ix : zk_ix (nI t) 20 = true := zx_nI (by omega) (by decide)
  have cl : (nI t).toNatClampNeg = t := nI_clamp (by omega)
  by_cases h0 : y = 0
  · exact Ok_eq (nI a) Q (by rw [fX8_claimTold, e8, zb_some, zo_s, if_pos h0, a1]) (by rw [fX9_claimTold, e9, zb_some, if_neg r10, if_pos h0, ix, zg_t, cl, a2])
  by_cases h1 : y = 1
  · exact Ok_eq (nI s) Q (by rw [fX8_claimTold, e8, zb_some, zo_s, if_neg h0, if_pos h1, b1]) (by rw [fX9_claimTold, e9, zb_some, if_neg r10, if_neg h0, if_pos h1, ix, zg_t, cl, b2])
  by_cases h2 : y = 2
  · exact Ok_eq (nI st) Q (by rw [fX8_claimTold, e8, zb_some, zo_s, if_neg h0, if_neg h1, if_pos h2, c1]) (by rw [fX9_claimTold, e9, zb_some, if_neg r10, if_neg h0, if_neg h1, if_pos h2, ix, zg_t, cl, c2])
  by_cases h3 : y = 3
  · exact Ok_eq (z.1 11 t 3) Q (by rw [fX8_claimTold, e8, zb_some, zo_s, if_neg h0, if_neg h1, if_neg h2, if_pos h3]) (by rw [fX9_claimTold, e9, zb_some, if_neg r10, if_neg h0, if_neg h1, if_neg h2, if_pos h3, ix, zg_t, cl, d])
  · exact Ok_eq (-7) Q (by rw [fX8_claimTold, e8, zb_some, zo_s, if_neg h0, if_neg h1, if_neg h2, if_neg h3]) (by rw [fX9_claimTold, e9, zb_some, if_neg r10, if_neg h0, if_neg h1, if_neg h2, if_neg h3])
theorem ok_kindTold {z : zk_Z} (Q : Rx z) (k i w y : Int32) : Ok (fX8_kindTold k i w y) (fX9_kindTold k i w y) z := by
  have bad : ∀ (v : zk_Z), fX8_kindTold_B30 k i w y v = some (-2, v) := fun v => by rw [fX8_kindTold_B30, fX8_kindTold_B31, if_pos rfl]
  rcases pk_ix k (n := 6) (by decide) with h | h | ⟨kd, hk, rfl⟩
  · exact Ok_eq (-2) Q (by rw [fX8_kindTold, fX2_exists, if_pos h, zb_some, if_pos rfl, bad]) (by rw [fX9_kindTold, in9_neg z h, zb_some, if_pos rfl])
  · refine Ok_eq (-2) Q ?_ (by rw [fX9_kindTold, show (5 : Int32) = nI 5 from rfl, in9_big z (by decide) h, zb_some, if_pos rfl])
    rw [fX8_kindTold, fX2_exists, if_pos (show (6 : Int32) ≤ k from h)]
    split <;> rw [zb_some, if_pos rfl, bad]
  have g8 : fX8_kindTold (nI kd) i w y z = if w < 1 then fX8_kindTold_B30 (nI kd) i w y z else if 3 < w then fX8_kindTold_B30 (nI kd) i w y z else if i < 0 then fX8_kindTold_B30 (nI kd) i w y z else if w < i then fX8_kindTold_B30 (nI kd) i w y z else fX8_kindTold_B31 (nI kd) i w y 1 z := by
    rw [fX8_kindTold, fX2_exists, if_neg (nI_lt0 (by omega)), if_neg (by rw [show (6 : Int32) = nI 6 from rfl, nI_leI (by omega) (by omega)]; omega), zb_some, if_neg r10]
  have g9 : fX9_kindTold (nI kd) i w y z = zk_bd (fX9_in w 1 3 z) (fun r4 z3 => if r4 = 0 then some ((-2), z3) else zk_bd (fX9_in i 0 w z3) (fun r6 z5 => if r6 = 0 then some ((-2), z5) else zk_bd (fX9_in y 0 1 z5) (fun r8 z7 => if r8 = 0 then some ((-2), z7) else if y = 1 then zk_bd (fX9_worth (nI kd) i w z7) (fun r10 z9 => some (r10, z9)) else zk_bd (fX9_holds (nI kd) i w z7) (fun r12 z11 => if r12 = 0 then some (0, z11) else some (1, z11))))) := by
    have e := in9_in (j := kd) (l := 0) (h := 5) z (Nat.zero_le _) (by omega) (by decide)
    rw [fX9_kindTold, show (5 : Int32) = nI 5 from rfl, show (0 : Int32) = nI 0 from rfl, e, zb_some, if_neg (show ¬ ((1 : Int32) = nI 0) from r10)]
  by_cases hw1 : w < 1
  · exact Ok_eq (-2) Q (by rw [g8, if_pos hw1, bad]) (by rw [g9, fX9_in, if_pos hw1, zb_some, if_pos rfl])
  by_cases hw3 : 3 < w
  · exact Ok_eq (-2) Q (by rw [g8, if_neg hw1, if_pos hw3, bad]) (by rw [g9, fX9_in, if_neg hw1, if_pos hw3, zb_some, if_pos rfl])
  by_cases hi0 : i < 0
  · exact Ok_eq (-2) Q (by rw [g8, if_neg hw1, if_neg hw3, if_pos hi0, bad]) (by rw [g9, fX9_in, if_neg hw1, if_neg hw3, zb_some, if_neg r10, fX9_in, if_pos hi0, zb_some, if_pos rfl])
  by_cases hiw : w < i
  · exact Ok_eq (-2) Q (by rw [g8, if_neg hw1, if_neg hw3, if_neg hi0, if_pos hiw, bad]) (by rw [g9, fX9_in, if_neg hw1, if_neg hw3, zb_some, if_neg r10, fX9_in, if_neg hi0, if_pos hiw, zb_some, if_pos rfl])
  by_cases hy0 : y < 0
  · exact Ok_eq (-2) Q (by rw [g8, if_neg hw1, if_neg hw3, if_neg hi0, if_neg hiw, fX8_kindTold_B31, if_neg r10, if_pos hy0]) (by rw [g9, fX9_in, if_neg hw1, if_neg hw3, zb_some, if_neg r10, fX9_in, if_neg hi0, if_neg hiw, zb_some, if_neg r10, fX9_in, if_pos hy0, zb_some, if_pos rfl])
  by_cases hy1 : 1 < y
  · exact Ok_eq (-2) Q (by rw [g8, if_neg hw1, if_neg hw3, if_neg hi0, if_neg hiw, fX8_kindTold_B31, if_neg r10, if_neg hy0, if_neg (Int32.not_le.mpr hy1)]) (by rw [g9, fX9_in, if_neg hw1, if_neg hw3, zb_some, if_neg r10, fX9_in, if_neg hi0, if_neg hiw, zb_some, if_neg r10, fX9_in, if_neg hy0, if_pos hy1, zb_some, if_pos rfl])
  obtain ⟨j, hj, rfl⟩ := nn hi0
  have hw0 : ¬ w < 0 := fun q => hw1 (by
    rw [Int32.lt_iff_toInt_lt] at q ⊢
    have e0 : (0 : Int32).toInt = 0 := by decide
    have e1 : (1 : Int32).toInt = 1 := by decide
    omega)
  obtain ⟨v, hv, rfl⟩ := nn hw0
  have v1 : 1 ≤ v := by rw [show (1 : Int32) = nI 1 from rfl, nI_ltI hv (by decide)] at hw1; omega
  have v3 : v ≤ 3 := by rw [show (3 : Int32) = nI 3 from rfl, nI_ltI (by decide) hv] at hw3; omega
  have jv : j ≤ v := by rw [nI_ltI hv hj] at hiw; omega
  have k8 : fX8_kindTold (nI kd) (nI j) (nI v) y z = if y = 1 then some (wvI (nI kd) (nI j) (nI v), z) else if hvI (nI kd) (nI j) (nI v) = 0 then some (0, z) else some (1, z) := by
    rw [g8, if_neg hw1, if_neg hw3, if_neg hi0, if_neg hiw, fX8_kindTold_B31, if_neg r10, if_neg hy0, if_pos (Int32.not_lt.mp hy1), e2_worth, zb_some, e2_holds, zb_some]
  have k9 : fX9_kindTold (nI kd) (nI j) (nI v) y z = if y = 1 then some (wvI (nI kd) (nI j) (nI v), z) else if hvI (nI kd) (nI j) (nI v) = 0 then some (0, z) else some (1, z) := by
    rw [g9, fX9_in, if_neg hw1, if_neg hw3, zb_some, if_neg r10, fX9_in, if_neg hi0, if_neg hiw, zb_some, if_neg r10, fX9_in, if_neg hy0, if_neg hy1, zb_some, if_neg r10, e9_worth, zb_some, e9_holds, zb_some, wv_fin kd hk j (by omega) v (by omega) v1, hv_fin kd hk j (by omega) v (by omega) v1]
  by_cases h1 : y = 1
  · exact Ok_eq _ Q (by rw [k8, if_pos h1]) (by rw [k9, if_pos h1])
  by_cases h2 : hvI (nI kd) (nI j) (nI v) = 0
  · exact Ok_eq 0 Q (by rw [k8, if_neg h1, if_pos h2]) (by rw [k9, if_neg h1, if_pos h2])
  · exact Ok_eq 1 Q (by rw [k8, if_neg h1, if_neg h2]) (by rw [k9, if_neg h1, if_neg h2])
