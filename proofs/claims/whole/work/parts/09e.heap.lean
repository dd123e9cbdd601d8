/-! finders and heaps as they are asked -/
theorem fo_oi (o : Option Nat) : fo (-1) o = oi o := by cases o <;> rfl
theorem finder_at (x : Int32) : (∃ f, f < 4 ∧ x = nI f ∧ (∀ z, fX8_isFinder x z = some (1, z)) ∧ ∀ z, fX9_in x 0 3 z = some (1, z)) ∨ ((∀ z, fX8_isFinder x z = some (0, z)) ∧ ∀ z, fX9_in x 0 3 z = some (0, z)) := by
  rcases pk_ix x (n := 4) (by decide) with h | h | ⟨f, hf, rfl⟩
  · exact Or.inr ⟨fun z => by rw [fX8_isFinder, if_pos h], fun z => in9_neg z h⟩
  · refine Or.inr ⟨fun z => ?_, fun z => in9_big (h := 3) z (by decide) h⟩
    rw [fX8_isFinder, if_pos (show (4 : Int32) ≤ x from h)]
    split <;> rfl
  · refine Or.inl ⟨f, hf, rfl, fun z => ?_, fun z => in9_in (l := 0) (h := 3) z (Nat.zero_le _) (by omega) (by decide)⟩
    rw [fX8_isFinder, if_neg (nI_lt0 (by omega)), if_neg (by rw [show (4 : Int32) = nI 4 from rfl, nI_leI (by decide) (by omega)]; omega)]
theorem is_task {z : zk_Z} {nt nr nk tp t : Nat} (R : Rl z nt nr nk tp) (ht : t < nt) : fX9_isTask (nI t) z = some (1, z) := by
  have h8 := R.1.1.1
  rcases task_at R (nI t) with ⟨t', ht', et, _, e9'⟩ | ⟨ho, _, _⟩
  · exact e9'
  · rcases ho with ho | ho
    · exact absurd ho (nI_lt0 (by omega))
    · rw [nI_leI (by omega) (by omega)] at ho; omega
theorem is_rec {z : zk_Z} {nt nr nk tp t : Nat} (R : Rl z nt nr nk tp) (ht : t < nr) : fX9_isRecipe (nI t) z = some (1, z) := by
  have h8 := R.1.2.1.1
  rcases rec_at R (nI t) with ⟨t', ht', et, _, e9'⟩ | ⟨ho, _, _⟩
  · exact e9'
  · rcases ho with ho | ho
    · exact absurd ho (nI_lt0 (by omega))
    · rw [nI_leI (by omega) (by omega)] at ho; omega
theorem ok_find {z : zk_Z} {nt nr nk tp : Nat} (R : Rl z nt nr nk tp) (x f l y : Int32) : Ok (fX8_find x f l y) (fX9_find x f l y) z := by
  have Q : Rx z := ⟨nt, nr, nk, tp, R⟩
  rcases task_at R x with ⟨t, ht, rfl, e8, e9⟩ | ⟨_, e8, e9⟩
  rotate_left
  · exact Ok_eq (-5) Q (by rw [fX8_find, e8, zb_some, zo_n]) (by rw [fX9_find, e9, zb_some, if_pos rfl])
  obtain ⟨kd, n, C, P, A, H, T1, T2, O, hH, ⟨q1, q2⟩, _⟩ := R.2.2.1 t ht
  have h8 := R.1.1.1
  have h2 := p2_le O.1.2.2.1
  rcases finder_at f with ⟨fi, hf, rfl, f8, f9⟩ | ⟨f8, f9⟩
  rotate_left
  · exact Ok_eq (-2) Q (by rw [fX8_find, e8, zb_some, zo_s, f8, zb_some, if_pos rfl]) (by rw [fX9_find, e9, zb_some, if_neg r10, f9, zb_some, if_pos rfl])
  have e20 : (2000 : Int32) = nI 2000 := rfl
  rcases up9 l (c := 2000) (by decide) with ⟨lim, hl, rfl, hlx⟩ | ⟨h, hlx⟩ | ⟨h0, h, hlx⟩
  rotate_left
  · exact Ok_eq (-2) Q (by rw [fX8_find, e8, zb_some, zo_s, f8, zb_some, if_neg r10, if_pos h]) (by rw [fX9_find, e9, zb_some, if_neg r10, f9, zb_some, if_neg r10, e20, hlx, zb_some, if_pos rfl])
  · exact Ok_eq (-2) Q (by rw [fX8_find, e8, zb_some, zo_s, f8, zb_some, if_neg r10, if_neg h0, e20, if_pos h]) (by rw [fX9_find, e9, zb_some, if_neg r10, f9, zb_some, if_neg r10, e20, hlx, zb_some, if_pos rfl])
  have a1 : ¬ (nI lim < 0) := nI_lt0 (by omega)
  have a2 : ¬ ((2000 : Int32) < nI lim) := by rw [e20, nI_ltI (by decide) (by omega)]; omega
  have e2 : (2 : Int32) = nI 2 := rfl
  rcases up9 y (c := 2) (by decide) with ⟨wh, hw, rfl, hy⟩ | ⟨h, hy⟩ | ⟨h0, h, hy⟩
  rotate_left
  · exact Ok_eq (-2) Q (by rw [fX8_find, e8, zb_some, zo_s, f8, zb_some, if_neg r10, if_neg a1, if_neg a2, if_pos h]) (by rw [fX9_find, e9, zb_some, if_neg r10, f9, zb_some, if_neg r10, e20, hlx, zb_some, if_neg r10, e2, hy, zb_some, if_pos rfl])
  · exact Ok_eq (-2) Q (by rw [fX8_find, e8, zb_some, zo_s, f8, zb_some, if_neg r10, if_neg a1, if_neg a2, if_neg h0, e2, if_neg (Int32.not_le.mpr h)]) (by rw [fX9_find, e9, zb_some, if_neg r10, f9, zb_some, if_neg r10, e20, hlx, zb_some, if_neg r10, e2, hy, zb_some, if_pos rfl])
  have b1 : ¬ (nI wh < 0) := nI_lt0 (by omega)
  have b2 : nI wh ≤ 2 := by rw [e2, nI_leI (by omega) (by decide)]; exact hw
  obtain ⟨o, ho⟩ : ∃ o, o = (fiS kd n C P A fi lim).1 := ⟨_, rfl⟩
  obtain ⟨s, hs⟩ : ∃ s, s = (fiS kd n C P A fi lim).2 := ⟨_, rfl⟩
  have F := fr_fz z (oi o) s
  have s8 := seek7 (x := fi) (lim := lim) T1 O hf (by omega)
  rw [← ho, ← hs, fo_oi] at s8
  have s9 := finds9 (x := fi) (lim := lim) (z := fz z (oi o) s) (TM_fr F (by omega) O.1.2.2.2 T2) O (by omega) hf (by omega)
  rw [← ho, ← hs] at s9
  have g8 : fX8_find (nI t) (nI fi) (nI lim) (nI wh) z = if nI wh = 0 then some (oi o, fz z (oi o) s) else if nI wh = 1 then some (nI s, fz z (oi o) s) else (if oi o < 0 then some (0, fz z (oi o) s) else if oi o = oi H then some (1, fz z (oi o) s) else some (0, fz z (oi o) s)) := by
    have e3 : (fz z (oi o) s).1 7 t 3 = oi H := q1
    rw [fX8_find, e8, zb_some, zo_s, f8, zb_some, if_neg r10, if_neg a1, if_neg a2, if_neg b1, if_pos b2, s8, zb_some, fz_0, fz_1, fX1_foundHidden, fz_0, e3]
    split
    · rfl
    · split
      · rfl
      · split
        · rfl
        · split <;> rfl
  have g9 : fX9_find (nI t) (nI fi) (nI lim) (nI wh) (fz z (oi o) s) = if nI wh = 0 then some (oi o, fm (fz z (oi o) s) s) else if nI wh = 1 then some (nI s, fm (fz z (oi o) s) s) else (if oi o = -1 then some (0, fm (fz z (oi o) s) s) else if oi o = oi H then some (1, fm (fz z (oi o) s) s) else some (0, fm (fz z (oi o) s) s)) := by
    have e3 : (fm (fz z (oi o) s) s).1 30 0 t = oi H := q2
    rw [fX9_find, is_task (Rl_fr F R) ht, zb_some, if_neg r10, f9, zb_some, if_neg r10, e20, hlx, zb_some, if_neg r10, e2, hy, zb_some, if_neg r10, s9, zb_some, fm_1, zx_nI (by omega) (by decide), zg_t, nI_clamp (by omega), e3]
  have F2 := fr_fm (fz z (oi o) s) s
  by_cases h0 : nI wh = 0
  · exact Ok_fr (oi o) _ _ R (by rw [g8, if_pos h0]) (by rw [g9, if_pos h0]) F F2
  by_cases h1 : nI wh = 1
  · exact Ok_fr (nI s) _ _ R (by rw [g8, if_neg h0, if_pos h1]) (by rw [g9, if_neg h0, if_pos h1]) F F2
  rw [if_neg h0, if_neg h1] at g8 g9
  by_cases hm : oi o = -1
  · exact Ok_fr 0 _ _ R (by rw [g8, if_pos (by rw [hm]; decide)]) (by rw [g9, if_pos hm]) F F2
  have hm' : ¬ oi o < 0 := by
    cases o with
    | none => exact absurd rfl hm
    | some r => exact nI_lt0 (by have := fiS_lt ho.symm; omega)
  by_cases hh : oi o = oi H
  · exact Ok_fr 1 _ _ R (by rw [g8, if_neg hm', if_pos hh]) (by rw [g9, if_neg hm, if_pos hh]) F F2
  · exact Ok_fr 0 _ _ R (by rw [g8, if_neg hm', if_neg hh]) (by rw [g9, if_neg hm, if_neg hh]) F F2
theorem seeds_at (x y : Int32) : (∃ sd N, x = nI sd ∧ y = nI N ∧ 1 ≤ N ∧ N ≤ 24 ∧ sd + N ≤ 100000 ∧ (∀ z, fX8_isHeap x y z = some (1, z)) ∧ ∀ z, fX9_areSeeds x y z = some (1, z)) ∨ ((∀ z, fX8_isHeap x y z = some (0, z)) ∧ ∀ z, fX9_areSeeds x y z = some (0, z)) := by
  have e9 : (99999 : Int32) = nI 99999 := rfl
  have e10 : (100000 : Int32) = nI 100000 := rfl
  have e1 : (1 : Int32) = nI 1 := rfl
  have e24 : (24 : Int32) = nI 24 := rfl
  rcases pk_ix x (n := 100000) (by decide) with h | h | ⟨sd, hs, rfl⟩
  · exact Or.inr ⟨fun z => by rw [fX8_isHeap, if_pos h], fun z => by rw [fX9_areSeeds, in9_neg z h, zb_some, if_pos rfl]⟩
  · refine Or.inr ⟨fun z => ?_, fun z => by rw [fX9_areSeeds, e9, in9_big (h := 99999) z (by decide) h, zb_some, if_pos rfl]⟩
    rw [fX8_isHeap, if_pos (show (100000 : Int32) ≤ x from h)]
    split <;> rfl
  have a1 : ¬ (nI sd < 0) := nI_lt0 (by omega)
  have a2 : ¬ ((100000 : Int32) ≤ nI sd) := by rw [e10, nI_leI (by decide) (by omega)]; omega
  have a3 : ∀ z, fX9_in (nI sd) 0 99999 z = some (1, z) := fun z => in9_in (l := 0) (h := 99999) z (Nat.zero_le _) (by omega) (by decide)
  by_cases hy1 : y < 1
  · exact Or.inr ⟨fun z => by rw [fX8_isHeap, if_neg a1, if_neg a2, if_pos hy1], fun z => by rw [fX9_areSeeds, a3, zb_some, if_neg r10, fX9_in, if_pos hy1, zb_some, if_pos rfl]⟩
  by_cases hy2 : 24 < y
  · exact Or.inr ⟨fun z => by rw [fX8_isHeap, if_neg a1, if_neg a2, if_neg hy1, if_pos hy2], fun z => by rw [fX9_areSeeds, a3, zb_some, if_neg r10, fX9_in, if_neg hy1, if_pos hy2, zb_some, if_pos rfl]⟩
  have hy0 : ¬ y < 0 := fun q => hy1 (by
    rw [Int32.lt_iff_toInt_lt] at q ⊢
    have e0 : (0 : Int32).toInt = 0 := by decide
    have e1 : (1 : Int32).toInt = 1 := by decide
    omega)
  obtain ⟨N, hN, rfl⟩ := nn hy0
  have n1 : 1 ≤ N := by rw [e1, nI_ltI hN (by decide)] at hy1; omega
  have n2 : N ≤ 24 := by rw [e24, nI_ltI (by decide) hN] at hy2; omega
  by_cases hb : sd + N ≤ 100000
  · have a4 : ¬ ((100000 : Int32) < nI sd + nI N) := by rw [nI_add, e10, nI_ltI (by decide) (by omega)]; omega
    refine Or.inl ⟨sd, N, rfl, rfl, n1, n2, hb, fun z => ?_, fun z => ?_⟩
    · rw [fX8_isHeap, if_neg a1, if_neg a2, if_neg hy1, if_neg hy2, if_neg a4]
    · rw [fX9_areSeeds, a3, zb_some, if_neg r10, fX9_in, if_neg hy1, if_neg hy2, zb_some, if_neg r10, if_neg a4]
  · have a4 : (100000 : Int32) < nI sd + nI N := by rw [nI_add, e10, nI_ltI (by decide) (by omega)]; omega
    refine Or.inr ⟨fun z => ?_, fun z => ?_⟩
    · rw [fX8_isHeap, if_neg a1, if_neg a2, if_neg hy1, if_neg hy2, if_pos a4]
    · rw [fX9_areSeeds, a3, zb_some, if_neg r10, fX9_in, if_neg hy1, if_neg hy2, zb_some, if_neg r10, if_pos a4]
theorem ok_heap {z : zk_Z} {nt nr nk tp : Nat} (R : Rl z nt nr nk tp) (x sd N f l y : Int32) : Ok (fX8_heap x sd N f l y) (fX9_heap x sd N f l y) z := by
  have Q : Rx z := ⟨nt, nr, nk, tp, R⟩
  rcases rec_at R x with ⟨t, ht, rfl, e8, e9⟩ | ⟨_, e8, e9⟩
  rotate_left
  · exact Ok_eq (-5) Q (by rw [fX8_heap, e8, zb_some, zo_n]) (by rw [fX9_heap, e9, zb_some, if_pos rfl])
  obtain ⟨kd, n, C, w, W, T1, T2, O, hA⟩ := R.2.2.2.1 t ht
  have h8 := R.1.2.1.1
  rcases seeds_at sd N with ⟨sd, N, rfl, rfl, n1, n2, hsN, s8, s9⟩ | ⟨s8, s9⟩
  rotate_left
  · exact Ok_eq (-2) Q (by rw [fX8_heap, e8, zb_some, zo_s, s8, zb_some, if_pos rfl]) (by rw [fX9_heap, e9, zb_some, if_neg r10, s9, zb_some, if_pos rfl])
  rcases finder_at f with ⟨fi, hf, rfl, f8, f9⟩ | ⟨f8, f9⟩
  rotate_left
  · exact Ok_eq (-2) Q (by rw [fX8_heap, e8, zb_some, zo_s, s8, zb_some, if_neg r10, f8, zb_some, if_pos rfl]) (by rw [fX9_heap, e9, zb_some, if_neg r10, s9, zb_some, if_neg r10, f9, zb_some, if_pos rfl])
  have e20 : (200 : Int32) = nI 200 := rfl
  rcases up9 l (c := 200) (by decide) with ⟨lim, hl, rfl, hlx⟩ | ⟨h, hlx⟩ | ⟨h0, h, hlx⟩
  rotate_left
  · exact Ok_eq (-2) Q (by rw [fX8_heap, e8, zb_some, zo_s, s8, zb_some, if_neg r10, f8, zb_some, if_neg r10, if_pos h]) (by rw [fX9_heap, e9, zb_some, if_neg r10, s9, zb_some, if_neg r10, f9, zb_some, if_neg r10, e20, hlx, zb_some, if_pos rfl])
  · exact Ok_eq (-2) Q (by rw [fX8_heap, e8, zb_some, zo_s, s8, zb_some, if_neg r10, f8, zb_some, if_neg r10, if_neg h0, e20, if_pos h]) (by rw [fX9_heap, e9, zb_some, if_neg r10, s9, zb_some, if_neg r10, f9, zb_some, if_neg r10, e20, hlx, zb_some, if_pos rfl])
  have a1 : ¬ (nI lim < 0) := nI_lt0 (by omega)
  have a2 : ¬ ((200 : Int32) < nI lim) := by rw [e20, nI_ltI (by decide) (by omega)]; omega
  have e2 : (2 : Int32) = nI 2 := rfl
  rcases up9 y (c := 2) (by decide) with ⟨wh, hw, rfl, hy⟩ | ⟨h, hy⟩ | ⟨h0, h, hy⟩
  rotate_left
  · exact Ok_eq (-2) Q (by rw [fX8_heap, e8, zb_some, zo_s, s8, zb_some, if_neg r10, f8, zb_some, if_neg r10, if_neg a1, if_neg a2, if_pos h]) (by rw [fX9_heap, e9, zb_some, if_neg r10, s9, zb_some, if_neg r10, f9, zb_some, if_neg r10, e20, hlx, zb_some, if_neg r10, e2, hy, zb_some, if_pos rfl])
  · exact Ok_eq (-2) Q (by rw [fX8_heap, e8, zb_some, zo_s, s8, zb_some, if_neg r10, f8, zb_some, if_neg r10, if_neg a1, if_neg a2, if_neg h0, e2, if_neg (Int32.not_le.mpr h)]) (by rw [fX9_heap, e9, zb_some, if_neg r10, s9, zb_some, if_neg r10, f9, zb_some, if_neg r10, e20, hlx, zb_some, if_neg r10, e2, hy, zb_some, if_pos rfl])
  have b1 : ¬ (nI wh < 0) := nI_lt0 (by omega)
  have b2 : nI wh ≤ 2 := by rw [e2, nI_leI (by omega) (by decide)]; exact hw
  obtain ⟨z1, q1, F1⟩ := hp8_L (k2 := t) (fi := fi) (lim := lim) (wh := wh) O hA hf (by omega) hw hsN N zk_FU 0 0 z T1 (by omega) (by show N < 6000; omega)
  obtain ⟨z2, q2, F2⟩ := hp9_L (k2 := t) (fi := fi) (lim := lim) (wh := wh) O (by omega) hA hf (by omega) hw hsN N zk_FU 0 0 z1 (RM_fr F1 T2) (by omega) (by show N < 6000; omega)
  refine Ok_fr (nI (hpS kd n C w W fi lim wh sd N 0 0)) z1 z2 R ?_ ?_ F1 F2
  · rw [fX8_heap, e8, zb_some, zo_s, s8, zb_some, if_neg r10, f8, zb_some, if_neg r10, if_neg a1, if_neg a2, if_neg b1, if_pos b2]
    exact q1
  · rw [fX9_heap, is_rec (Rl_fr F1 R) ht, zb_some, if_neg r10, s9, zb_some, if_neg r10, f9, zb_some, if_neg r10, e20, hlx, zb_some, if_neg r10, e2, hy, zb_some, if_neg r10]
    exact q2
theorem ok_apart {z : zk_Z} {nt nr nk tp : Nat} (R : Rl z nt nr nk tp) (x x' sd N y : Int32) : Ok (fX8_apart x x' sd N y) (fX9_apart x x' sd N y) z := by
  have Q : Rx z := ⟨nt, nr, nk, tp, R⟩
  rcases rec_at R x with ⟨t, ht, rfl, e8, e9⟩ | ⟨_, e8, e9⟩
  rotate_left
  · refine Ok_eq (-5) Q ?_ (by rw [fX9_apart, e9, zb_some, if_pos rfl])
    rw [fX8_apart, e8, zb_some, zo_n]
    rcases rec_at R x' with ⟨t', _, rfl, e8', _⟩ | ⟨_, e8', _⟩
    · rw [e8', zb_some, zo_s]
    · rw [e8', zb_some, zo_n]
  rcases rec_at R x' with ⟨t', ht', rfl, e8', e9'⟩ | ⟨_, e8', e9'⟩
  rotate_left
  · exact Ok_eq (-5) Q (by rw [fX8_apart, e8, zb_some, zo_s, e8', zb_some, zo_n]) (by rw [fX9_apart, e9, zb_some, if_neg r10, e9', zb_some, if_pos rfl])
  obtain ⟨kd, n, C, w, W, T1, T2, O, hA⟩ := R.2.2.2.1 t ht
  obtain ⟨kd', n', C', w', W', T1', T2', O', hA'⟩ := R.2.2.2.1 t' ht'
  have h8 := R.1.2.1.1
  rcases seeds_at sd N with ⟨sd, N, rfl, rfl, n1, n2, hsN, s8, s9⟩ | ⟨s8, s9⟩
  rotate_left
  · exact Ok_eq (-2) Q (by rw [fX8_apart, e8, zb_some, zo_s, e8', zb_some, zo_s, s8, zb_some, if_pos rfl]) (by rw [fX9_apart, e9, zb_some, if_neg r10, e9', zb_some, if_neg r10, s9, zb_some, if_pos rfl])
  rcases part_at y with ⟨j, hj, rfl, hy⟩ | ⟨h, hy⟩ | ⟨h0, h, hy⟩
  rotate_left
  · exact Ok_eq (-2) Q (by rw [fX8_apart, e8, zb_some, zo_s, e8', zb_some, zo_s, s8, zb_some, if_neg r10, if_pos h]) (by rw [fX9_apart, e9, zb_some, if_neg r10, e9', zb_some, if_neg r10, s9, zb_some, if_neg r10, hy, zb_some, if_pos rfl])
  · exact Ok_eq (-2) Q (by rw [fX8_apart, e8, zb_some, zo_s, e8', zb_some, zo_s, s8, zb_some, if_neg r10, if_neg h0, if_neg h]) (by rw [fX9_apart, e9, zb_some, if_neg r10, e9', zb_some, if_neg r10, s9, zb_some, if_neg r10, hy, zb_some, if_pos rfl])
  have b2 : nI j ≤ 1 := by rw [show (1 : Int32) = nI 1 from rfl, nI_leI (by omega) (by decide)]; exact hj
  obtain ⟨z1, q1, F1, g1⟩ := aps8_L (ka := t) (kb := t') (sd := sd) (N := N) (x := nI j) O hA O' hA' n2 hsN N zk_FU 0 z T1 T1' (fun j h => absurd h (Nat.not_lt_zero _)) (by omega) (by show N < 6000; omega)
  obtain ⟨z2, q2, F2, g2⟩ := aps9_L (ka := t) (kb := t') (sd := sd) (N := N) (x := nI j) O hA O' hA' (by omega) (by omega) n2 hsN N zk_FU 0 z1 (RM_fr F1 T2) (RM_fr F1 T2') (fun j h => absurd h (Nat.not_lt_zero _)) (by omega) (by show N < 6000; omega)
  have p8 := apb8_L (x := nI j) n2 g1 (2 * N) zk_FU 0 (-1) (nI (rbN (fun j => sgM n C w W (sd + j)) (fun j => sgM n' C' w' W' (sd + j)) N (-1))) (by omega) (by show 2 * N < 6000; omega)
  have p9 := apb9_L (x := nI j) n2 g2 (2 * N) zk_FU 0 (-1) (nI (rbN (fun j => sgM n C w W (sd + j)) (fun j => sgM n' C' w' W' (sd + j)) N (-1))) (by omega) (by show 2 * N < 6000; omega)
  refine Ok_fr (apV (nI j) (apS (fun j => sgM n C w W (sd + j)) (fun j => sgM n' C' w' W' (sd + j)) N (2 * N) 0 (-1) (nI (rbN (fun j => sgM n C w W (sd + j)) (fun j => sgM n' C' w' W' (sd + j)) N (-1))))) z1 z2 R ?_ ?_ F1 F2
  · rw [fX8_apart, e8, zb_some, zo_s, e8', zb_some, zo_s, s8, zb_some, if_neg r10, if_neg (nI_lt0 (by omega)), if_pos b2, show (0 : Int32) = nI 0 from rfl]
    refine q1.trans ?_
    rw [rb8 n2 g1, zb_some]
    exact p8
  · rw [fX9_apart, is_rec (Rl_fr F1 R) ht, zb_some, if_neg r10, is_rec (Rl_fr F1 R) ht', zb_some, if_neg r10, s9, zb_some, if_neg r10, hy, zb_some, if_neg r10, show (0 : Int32) = nI 0 from rfl]
    refine q2.trans ?_
    rw [rb9 n2 g2, zb_some]
    exact p9
