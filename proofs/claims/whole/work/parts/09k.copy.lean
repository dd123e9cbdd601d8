/-! copies between sheets -/
theorem sR_at (z : zk_Z) (g k : Nat) (f : Nat → Int32) (g' k' i : Nat) : (zk_sR z g k f).1 g' k' i = if g' = g ∧ k' = k then f i else z.1 g' k' i := by
  show (if g' = g ∧ k' = k then f else z.1 g' k') i = _
  split <;> rfl
theorem hr8 {z : zk_Z} {s sz : Nat} (hz : z.1 13 s 1 = nI sz) (h40 : sz ≤ 40) (x y : Int32) : ((x < 0 ∨ y < 0 ∨ nI sz < x ∨ nI sz - x < y) ∧ fX5_hasRange s x y z = some (0, z)) ∨ (¬ (x < 0 ∨ y < 0 ∨ nI sz < x ∨ nI sz - x < y) ∧ fX5_hasRange s x y z = some (1, z) ∧ ∃ i n : Nat, x = nI i ∧ y = nI n ∧ i + n ≤ sz) := by
  rw [fX5_hasRange, hz]
  by_cases c1 : x < 0
  · exact Or.inl ⟨Or.inl c1, by rw [if_pos c1]⟩
  by_cases c2 : y < 0
  · exact Or.inl ⟨Or.inr (Or.inl c2), by rw [if_neg c1, if_pos c2]⟩
  by_cases c3 : nI sz < x
  · exact Or.inl ⟨Or.inr (Or.inr (Or.inl c3)), by rw [if_neg c1, if_neg c2, if_pos c3]⟩
  by_cases c4 : nI sz - x < y
  · exact Or.inl ⟨Or.inr (Or.inr (Or.inr c4)), by rw [if_neg c1, if_neg c2, if_neg c3, if_pos c4]⟩
  refine Or.inr ⟨fun h => ?_, by rw [if_neg c1, if_neg c2, if_neg c3, if_neg c4], ?_⟩
  · rcases h with h | h | h | h
    · exact c1 h
    · exact c2 h
    · exact c3 h
    · exact c4 h
  · obtain ⟨i, hi, rfl⟩ := nn c1
    obtain ⟨n, hn, rfl⟩ := nn c2
    rw [nI_ltI (by omega) hi] at c3
    rw [pk_sub (by omega), nI_ltI (by omega) hn] at c4
    exact ⟨i, n, rfl, rfl, by omega⟩
theorem cp_ok {i j n : Nat} (hi : i + n ≤ 40) (hj : j + n ≤ 40) : zk_cp (nI i) (nI j) (nI n) 40 = true := by
  unfold zk_cp
  rw [nI_clamp (by omega), nI_clamp (by omega), nI_clamp (by omega)]
  exact decide_eq_true ⟨⟨nI_lt0 (by omega), nI_lt0 (by omega), nI_lt0 (by omega)⟩, hi, hj⟩
theorem ok_copy {z : zk_Z} {nt nr nk tp : Nat} (R : Rl z nt nr nk tp) (x1 x2 x3 x4 x5 : Int32) : Ok (fX8_copy x1 x2 x3 x4 x5) (fX9_copy x1 x2 x3 x4 x5) z := by
  have Q : Rx z := ⟨nt, nr, nk, tp, R⟩
  rcases sheet_at x1 with ⟨s, hs, rfl, s8, s9⟩ | ⟨s8, s9⟩
  rotate_left
  · exact Ok_eq (-2) Q (by rw [fX8_copy, s8, zb_some, if_pos rfl]) (by rw [fX9_copy, s9, zb_some, if_pos rfl])
  rcases sheet_at x3 with ⟨o, ho, rfl, o8, o9⟩ | ⟨o8, o9⟩
  rotate_left
  · exact Ok_eq (-2) Q (by rw [fX8_copy, s8, zb_some, if_neg r10, o8, zb_some, if_pos rfl]) (by rw [fX9_copy, s9, zb_some, if_neg r10, o9, zb_some, if_pos rfl])
  obtain ⟨so, sz, ⟨z1, z2, z3⟩, ⟨p1, p2, p3⟩, hc⟩ := R.2.2.2.2.2.1 s hs
  obtain ⟨so', sz', ⟨z1', z2', z3'⟩, ⟨p1', p2', p3'⟩, hc'⟩ := R.2.2.2.2.2.1 o ho
  have ix : zk_ix (nI s) 4 = true := zx_nI hs (by decide)
  have cl : (nI s).toNatClampNeg = s := nI_clamp (by omega)
  have ix' : zk_ix (nI o) 4 = true := zx_nI ho (by decide)
  have cl' : (nI o).toNatClampNeg = o := nI_clamp (by omega)
  have g8 : fX8_copy (nI s) x2 (nI o) x4 x5 z = if so = none then some (-11, z) else if so' = none then some (-11, z) else if oi so = oi so' then zk_bd (fX5_hasRange s x2 x5 z) (fun r12 z11 => if r12 = 0 then some ((-12), z11) else zk_bd (fX5_hasRange o x4 x5 z11) (fun r14 z13 => if r14 = 0 then some ((-12), z13) else zk_gd (zk_cp x2 x4 x5 40) (some (x5, zk_sR z13 14 o (va_cpy (z13.1 14 s) (z13.1 14 o) x2.toNatClampNeg x4.toNatClampNeg x5.toNatClampNeg))))) else some (-13, z) := by
    rw [fX8_copy, s8, zb_some, if_neg r10, o8, zb_some, if_neg r10, ix, ix', zg_t, zg_t, cl, cl', miss8 p1 p3, zb_some]
    by_cases c1 : so = none
    · rw [if_pos c1, if_neg r10, if_pos c1]
    · rw [if_neg c1, if_pos rfl, if_neg c1, miss8 p1' p3', zb_some]
      by_cases c2 : so' = none
      · rw [if_pos c2, if_neg r10, if_pos c2]
      · rw [if_neg c2, if_pos rfl, if_neg c2, p1, p1']
  have g9 : ∀ b : zk_Z, b.1 39 0 s = oi so → b.1 39 0 o = oi so' → b.1 40 0 s = nI sz → b.1 40 0 o = nI sz' → fX9_copy (nI s) x2 (nI o) x4 x5 b = if so = none then some (-11, b) else if so' = none then some (-11, b) else if oi so = oi so' then (if x5 < 0 then some (-12, b) else if x2 < 0 then some (-12, b) else if x4 < 0 then some (-12, b) else if nI sz < x2 then some (-12, b) else if nI sz' < x4 then some (-12, b) else if nI sz - x2 < x5 then some (-12, b) else if x5 ≤ nI sz' - x4 then fX9_copy_L147 zk_FU x5 (40 * nI s + x2) (40 * nI o + x4) 0 b else some (-12, b)) else some (-13, b) := by
    intro b q1 q2 q3 q4
    rw [fX9_copy, s9, zb_some, if_neg r10, o9, zb_some, if_neg r10, ix, ix', zg_t, zg_t, zg_t, zg_t, zg_t, zg_t, zg_t, zg_t, cl, cl', q1, q2, q3, q4]
    by_cases c1 : so = none
    · rw [if_pos ((oi_mis p3).mpr c1), if_pos c1]
    · rw [if_neg (fun q => c1 ((oi_mis p3).mp q)), if_neg c1]
      by_cases c2 : so' = none
      · rw [if_pos ((oi_mis p3').mpr c2), if_pos c2]
      · rw [if_neg (fun q => c2 ((oi_mis p3').mp q)), if_neg c2]
  by_cases c1 : so = none
  · exact Ok_eq (-11) Q (by rw [g8, if_pos c1]) (by rw [g9 z p2 p2' z3 z3', if_pos c1])
  by_cases c2 : so' = none
  · exact Ok_eq (-11) Q (by rw [g8, if_neg c1, if_pos c2]) (by rw [g9 z p2 p2' z3 z3', if_neg c1, if_pos c2])
  by_cases c3 : oi so = oi so'
  rotate_left
  · exact Ok_eq (-13) Q (by rw [g8, if_neg c1, if_neg c2, if_neg c3]) (by rw [g9 z p2 p2' z3 z3', if_neg c1, if_neg c2, if_neg c3])
  rw [if_neg c1, if_neg c2, if_pos c3] at g8
  have bad : ((x2 < 0 ∨ x5 < 0 ∨ nI sz < x2 ∨ nI sz - x2 < x5) ∨ (x4 < 0 ∨ x5 < 0 ∨ nI sz' < x4 ∨ nI sz' - x4 < x5)) → fX9_copy (nI s) x2 (nI o) x4 x5 z = some (-12, z) := by
    intro hB
    rw [g9 z p2 p2' z3 z3', if_neg c1, if_neg c2, if_pos c3]
    by_cases d1 : x5 < 0
    · rw [if_pos d1]
    rw [if_neg d1]
    by_cases d2 : x2 < 0
    · rw [if_pos d2]
    rw [if_neg d2]
    by_cases d3 : x4 < 0
    · rw [if_pos d3]
    rw [if_neg d3]
    by_cases d4 : nI sz < x2
    · rw [if_pos d4]
    rw [if_neg d4]
    by_cases d5 : nI sz' < x4
    · rw [if_pos d5]
    rw [if_neg d5]
    by_cases d6 : nI sz - x2 < x5
    · rw [if_pos d6]
    rw [if_neg d6]
    by_cases d7 : x5 ≤ nI sz' - x4
    · exfalso
      rcases hB with (h | h | h | h) | (h | h | h | h)
      · exact d2 h
      · exact d1 h
      · exact d4 h
      · exact d6 h
      · exact d3 h
      · exact d1 h
      · exact d5 h
      · exact Int32.not_le.mpr h d7
    · rw [if_neg d7]
  rcases hr8 z2 z1 x2 x5 with ⟨hB, h8⟩ | ⟨hB, h8, i, n, rfl, rfl, hin⟩
  · exact Ok_eq (-12) Q (by rw [g8, h8, zb_some, if_pos rfl]) (bad (Or.inl hB))
  rcases hr8 z2' z1' x4 (nI n) with ⟨hB', h8'⟩ | ⟨hB', h8', j, n', rfl, hnn, hjn⟩
  · exact Ok_eq (-12) Q (by rw [g8, h8, zb_some, if_neg r10, h8', zb_some, if_pos rfl]) (bad (Or.inr hB'))
  obtain rfl : n' = n := by
    by_cases e : n' < 2 ^ 31
    · exact (nI_inj (by omega) (by omega) hnn).symm
    · omega
  obtain ⟨y, hy⟩ : ∃ y, y = zk_sR z 14 o (va_cpy (z.1 14 s) (z.1 14 o) i j n') := ⟨_, rfl⟩
  have yne : ∀ g k q, ¬ (g = 14 ∧ k = o) → y.1 g k q = z.1 g k q := fun g k q hg => by rw [hy, sR_at, if_neg hg]
  obtain ⟨f', w1, w2⟩ := cp9 (a := 40 * s + i) (b := 40 * o + j) (n := n') y (by omega) (by omega)
  refine ⟨nI n', y, zk_sR y 41 0 f', ?_, ?_, nt, nr, nk, tp, Rl_sh (s := o) R (fun g k q hg => ?_) ⟨so', sz', ⟨z1', ?_, ?_⟩, ⟨?_, ?_, p3'⟩, fun q hq => ?_⟩⟩
  · rw [g8, h8, zb_some, if_neg r10, h8', zb_some, if_neg r10, cp_ok (by omega) (by omega), zg_t, nI_clamp (by omega), nI_clamp (by omega), nI_clamp (by omega), ← hy]
  · have d1 : ¬ nI n' < 0 := nI_lt0 (by omega)
    have d2 : ¬ nI i < 0 := nI_lt0 (by omega)
    have d3 : ¬ nI j < 0 := nI_lt0 (by omega)
    have d4 : ¬ nI sz < nI i := by rw [nI_ltI (by omega) (by omega)]; omega
    have d5 : ¬ nI sz' < nI j := by rw [nI_ltI (by omega) (by omega)]; omega
    have d6 : ¬ nI sz - nI i < nI n' := by rw [pk_sub (by omega), nI_ltI (by omega) (by omega)]; omega
    have d7 : nI n' ≤ nI sz' - nI j := by rw [pk_sub (by omega), nI_leI (by omega) (by omega)]; omega
    rw [g9 y (by rw [yne 39 0 s (by omega)]; exact p2) (by rw [yne 39 0 o (by omega)]; exact p2') (by rw [yne 40 0 s (by omega)]; exact z3) (by rw [yne 40 0 o (by omega)]; exact z3'), if_neg c1, if_neg c2, if_pos c3, if_neg d1, if_neg d2, if_neg d3, if_neg d4, if_neg d5, if_neg d6, if_pos d7, nI_40, nI_40]
    exact w1
  · rw [sR_at]
    by_cases e : g = 41 ∧ k = 0
    · rw [if_pos e, w2, if_neg (by omega), yne 41 0 q (by omega), e.1, e.2]
    · rw [if_neg e, yne g k q (by omega)]
  · rw [sR_at, if_neg (by omega), yne 13 o 1 (by omega)]; exact z2'
  · rw [sR_at, if_neg (by omega), yne 40 0 o (by omega)]; exact z3'
  · rw [sR_at, if_neg (by omega), yne 13 o 0 (by omega)]; exact p1'
  · rw [sR_at, if_neg (by omega), yne 39 0 o (by omega)]; exact p2'
  · have eL : (zk_sR y 41 0 f').1 41 0 (40 * o + q) = f' (40 * o + q) := by rw [sR_at, if_pos ⟨rfl, rfl⟩]
    have eR : (zk_sR y 41 0 f').1 14 o q = va_cpy (z.1 14 s) (z.1 14 o) i j n' q := by rw [sR_at, if_neg (by omega), hy, sR_at, if_pos ⟨rfl, rfl⟩]
    rw [eL, eR, w2]
    by_cases e : j ≤ q ∧ q < j + n'
    · rw [if_pos (by omega), pk_cpy_in e.1 e.2, yne 41 0 _ (by omega), show 40 * s + i + (40 * o + q - (40 * o + j)) = 40 * s + (i + (q - j)) by omega]
      exact hc (i + (q - j)) (by omega)
    · rw [if_neg (by omega), pk_cpy_out (by omega), yne 41 0 _ (by omega)]
      exact hc' q hq
