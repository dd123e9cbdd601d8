/-! claims by a sheet, tries, what is taken back -/
theorem sheet_at (x : Int32) : (∃ f, f < 4 ∧ x = nI f ∧ (∀ z, fX8_isSheet x z = some (1, z)) ∧ ∀ z, fX9_in x 0 3 z = some (1, z)) ∨ ((∀ z, fX8_isSheet x z = some (0, z)) ∧ ∀ z, fX9_in x 0 3 z = some (0, z)) := by
  rcases pk_ix x (n := 4) (by decide) with h | h | ⟨f, hf, rfl⟩
  · exact Or.inr ⟨fun z => by rw [fX8_isSheet, if_pos h], fun z => in9_neg z h⟩
  · refine Or.inr ⟨fun z => ?_, fun z => in9_big (h := 3) z (by decide) h⟩
    rw [fX8_isSheet, if_pos (show (4 : Int32) ≤ x from h)]
    split <;> rfl
  · refine Or.inl ⟨f, hf, rfl, fun z => ?_, fun z => in9_in (l := 0) (h := 3) z (Nat.zero_le _) (by omega) (by decide)⟩
    rw [fX8_isSheet, if_neg (nI_lt0 (by omega)), if_neg (by rw [show (4 : Int32) = nI 4 from rfl, nI_leI (by decide) (by omega)]; omega)]
theorem miss8 {z : zk_Z} {s : Nat} {so : Option Nat} (h : z.1 13 s 0 = oi so) (hq : ∀ q, so = some q → q ≤ 2) : fX5_isMissing s z = some (if so = none then 1 else 0, z) := by
  rw [fX5_isMissing, h]
  cases so with
  | none => rw [oi_n, if_neg (by decide), if_pos rfl]
  | some q =>
    have := hq q rfl
    rw [oi_s, if_pos (by rw [show (0 : Int32) = nI 0 from rfl, nI_leI (by decide) (by omega)]; omega), if_neg (by intro h; cases h)]
theorem ok_claims {z : zk_Z} {nt nr nk tp : Nat} (R : Rl z nt nr nk tp) (x y f n : Int32) : Ok (fX8_claims x y f n) (fX9_claims x y f n) z := by
  have Q : Rx z := ⟨nt, nr, nk, tp, R⟩
  rcases sheet_at x with ⟨s, hs, rfl, s8, s9⟩ | ⟨s8, s9⟩
  rotate_left
  · exact Ok_eq (-2) Q (by rw [fX8_claims, s8, zb_some, if_pos rfl]) (by rw [fX9_claims, s9, zb_some, if_pos rfl])
  obtain ⟨so, sz, ⟨z1, z2, z3⟩, ⟨o1, o2, o3⟩, hc⟩ := R.2.2.2.2.2.1 s hs
  have e2 : (2 : Int32) = nI 2 := rfl
  rcases up9 y (c := 2) (by decide) with ⟨q, hq, rfl, hy⟩ | ⟨h, hy⟩ | ⟨h0, h, hy⟩
  rotate_left
  · exact Ok_eq (-2) Q (by rw [fX8_claims, s8, zb_some, if_neg r10, if_pos h]) (by rw [fX9_claims, s9, zb_some, if_neg r10, e2, hy, zb_some, if_pos rfl])
  · have h3 : (3 : Int32) ≤ y := by
      rw [Int32.lt_iff_toInt_lt, nI_toInt (by decide)] at h
      rw [Int32.le_iff_toInt_le, show (3 : Int32).toInt = 3 from by decide]; omega
    exact Ok_eq (-2) Q (by rw [fX8_claims, s8, zb_some, if_neg r10, if_neg h0, if_pos h3]) (by rw [fX9_claims, s9, zb_some, if_neg r10, e2, hy, zb_some, if_pos rfl])
  have b1 : ¬ nI q < 0 := nI_lt0 (by omega)
  have b2 : ¬ (3 : Int32) ≤ nI q := by rw [show (3 : Int32) = nI 3 from rfl, nI_leI (by decide) (by omega)]; omega
  have e20 : (20 : Int32) = nI 20 := rfl
  rcases up9 n (c := 20) (by decide) with ⟨N, hN, rfl, hn⟩ | ⟨h, hn⟩ | ⟨h0, h, hn⟩
  rotate_left
  · exact Ok_eq (-2) Q (by rw [fX8_claims, s8, zb_some, if_neg r10, if_neg b1, if_neg b2, if_pos h]) (by rw [fX9_claims, s9, zb_some, if_neg r10, e2, hy, zb_some, if_neg r10, e20, hn, zb_some, if_pos rfl])
  · exact Ok_eq (-2) Q (by rw [fX8_claims, s8, zb_some, if_neg r10, if_neg b1, if_neg b2, if_neg h0, e20, if_neg (Int32.not_le.mpr h)]) (by rw [fX9_claims, s9, zb_some, if_neg r10, e2, hy, zb_some, if_neg r10, e20, hn, zb_some, if_pos rfl])
  have c1 : ¬ nI N < 0 := nI_lt0 (by omega)
  have c2 : nI N ≤ 20 := by rw [e20, nI_leI (by omega) (by decide)]; exact hN
  have g8 : fX8_claims (nI s) (nI q) f (nI N) z = if so = none then some (-11, z) else if oi so = nI q then fX8_claims_L68 zk_FU f (nI N) s 0 0 z else some (-13, z) := by
    rw [fX8_claims, s8, zb_some, if_neg r10, if_neg b1, if_neg b2, if_neg c1, if_pos c2, zx_nI hs (by decide), zg_t, nI_clamp (by omega), miss8 o1 o3, zb_some, o1]
    by_cases h : so = none
    · rw [if_pos h, if_pos h, if_neg r10]
    · rw [if_neg h, if_neg h, if_pos rfl]
  have ho : (oi so = -1) ↔ so = none := by
    cases so with
    | none => exact ⟨fun _ => rfl, fun _ => rfl⟩
    | some q => exact ⟨fun h => absurd h (nI_m1_ne (by have := o3 q rfl; omega)), fun h => by cases h⟩
  have g9 : ∀ b : zk_Z, b.1 39 0 s = oi so → fX9_claims (nI s) (nI q) f (nI N) b = if so = none then some (-11, b) else if oi so = nI q then fX9_claims_L64 zk_FU (nI s) f (nI N) 0 0 b else some (-13, b) := by
    intro b hb
    rw [fX9_claims, s9, zb_some, if_neg r10, e2, hy, zb_some, if_neg r10, e20, hn, zb_some, if_neg r10, zx_nI hs (by decide), zg_t, zg_t, nI_clamp (by omega), hb]
    by_cases h : so = none
    · rw [if_pos (ho.mpr h), if_pos h]
    · rw [if_neg (fun q => h (ho.mp q)), if_neg h]
  by_cases h1 : so = none
  · exact Ok_eq (-11) Q (by rw [g8, if_pos h1]) (by rw [g9 z o2, if_pos h1])
  by_cases h2 : oi so = nI q
  rotate_left
  · exact Ok_eq (-13) Q (by rw [g8, if_neg h1, if_neg h2]) (by rw [g9 z o2, if_neg h1, if_neg h2])
  rw [if_neg h1, if_pos h2] at g8
  have i0 : (0 : Int32) = nI 0 := rfl
  by_cases hN0 : N = 0
  · refine Ok_eq 0 Q ?_ ?_
    · rw [g8, show zk_FU = 5999 + 1 from rfl, fX8_claims_L68, if_pos (by rw [hN0]; decide)]
    · rw [g9 z o2, if_neg h1, if_pos h2, show zk_FU = 5999 + 1 from rfl, fX9_claims_L64, if_pos (by rw [hN0]; decide)]
  have n0 : ¬ (nI N ≤ 0) := by rw [i0, nI_leI (by omega) (by decide)]; omega
  have f0 : ∀ v : Int32, v + 2 * 0 = v := fun v => by rw [Int32.mul_zero, Int32.add_zero]
  by_cases hf : f < 0
  · refine Ok_eq (-12) Q ?_ ?_
    · rw [g8, show zk_FU = 5999 + 1 from rfl, fX8_claims_L68, if_neg n0, f0, fX5_hasRange, if_pos hf, zb_some, if_pos rfl]
    · rw [g9 z o2, if_neg h1, if_pos h2, show zk_FU = 5999 + 1 from rfl, fX9_claims_L64, if_neg n0, if_pos hf]
  obtain ⟨f, hf31, rfl⟩ := nn hf
  by_cases hf40 : f ≤ 40
  · obtain ⟨r, a', l8, fr8, l9⟩ := cls_L (s := s) (sz := sz) (f := f) (N := N) hs z1 hf40 hN N zk_FU 0 0 z nt nr nk tp (by omega) (by show N < 6000; omega) z2 (fun b Rb => by
      obtain ⟨so', sz', ⟨q1, q2, q3⟩, _, _⟩ := Rb.2.2.2.2.2.1 s hs
      have q2' : z.1 13 s 1 = nI sz' := q2
      rw [z2] at q2'
      have := nI_inj (by omega) (by omega) q2'
      rw [this]; exact q3) ⟨z, Rl_congr (fun g k i => by
        by_cases h20 : g < 20
        · rw [mix_a h20]
        · rw [mix_b (by omega)]) R⟩
    obtain ⟨b', nk', l9', fb, Rn⟩ := l9 a' (Rl_congr (fun g k i => by
        by_cases h20 : g < 20
        · rw [mix_a h20]
        · rw [mix_b (by omega), fr8 g k i (by omega)]) R)
    refine ⟨r, a', b', g8.trans l8, ?_, nt, nr, nk', tp, Rl_congr (fun g k i => by
        by_cases h20 : g < 20
        · rw [mix_a h20, fb g k i h20]
        · rw [mix_b (by omega)]) Rn⟩
    rw [g9 a' (by rw [fr8 39 0 s (by omega)]; exact o2), if_neg h1, if_pos h2]
    exact l9'
  · refine Ok_eq (-12) Q ?_ ?_
    · rw [g8, show zk_FU = 5999 + 1 from rfl, fX8_claims_L68, if_neg n0, f0, fX5_hasRange, if_neg hf, if_neg (by decide), z2, if_pos (by rw [nI_ltI (by omega) hf31]; omega), zb_some, if_pos rfl]
    · have hle : ¬ nI f ≤ nI sz - nI 2 := by
        rw [Int32.le_iff_toInt_le, nI_toInt hf31, pk_sub_toInt (by omega) (by decide)]; omega
      rw [g9 z o2, if_neg h1, if_pos h2, show zk_FU = 5999 + 1 from rfl, fX9_claims_L64, if_neg n0, if_neg hf, f0, if_neg (by rw [nI_ltI hf31 hf31]; omega), zx_nI hs (by decide), zg_t, nI_clamp (by omega), z3, e2, if_neg hle]
/-- a claim changed -/
theorem Rl_cl {z z' : zk_Z} {nt nr nk tp c : Nat} (R : Rl z nt nr nk tp) (h : ∀ g k i, ¬ (jk g k i ∨ (g = 11 ∧ k = c) ∨ ((35 ≤ g ∧ g ≤ 38) ∧ i = c)) → z'.1 g k i = z.1 g k i) (T : clR z' c nt) : Rl z' nt nr nk tp := by
  obtain ⟨⟨⟨a1, a2, a3⟩, ⟨b1, b2, b3⟩, ⟨c1, c2, c3⟩⟩, d, e, f, g, i, j⟩ := R
  refine ⟨⟨⟨a1, ?_, ?_⟩, ⟨b1, ?_, ?_⟩, ⟨c1, ?_, ?_⟩⟩, ?_, fun t ht => ?_, fun r hr => ?_, fun k hk => ?_, fun s hs => ?_, ?_⟩
  · rw [h 0 0 12 (by unfold jk; omega)]; exact a2
  · rw [h 20 0 8 (by unfold jk; omega)]; exact a3
  · rw [h 0 0 11 (by unfold jk; omega)]; exact b2
  · rw [h 20 0 2 (by unfold jk; omega)]; exact b3
  · rw [h 0 0 13 (by unfold jk; omega)]; exact c2
  · rw [h 20 0 17 (by unfold jk; omega)]; exact c3
  · exact tpR_at (fun g k i q => h g k i (by unfold jk; omega)) d
  · exact tkR_at (fun g k i q => h g k i (by unfold jk; omega)) (e t ht)
  · exact rcR_at (fun g k i q => h g k i (by unfold jk; omega)) (f r hr)
  · by_cases e1 : k = c
    · rw [e1]; exact T
    · exact clR_at (fun g k i q => h g k i (by unfold jk; omega)) (g k hk)
  · exact shR_at (fun g k i q => h g k i (by unfold jk; omega)) (i s hs)
  · exact imR_at (Nat.le_refl _) (fun g k i q => h g k i (by unfold jk; omega)) j
theorem ok_tries {z : zk_Z} {nt nr nk tp : Nat} (R : Rl z nt nr nk tp) (x f : Int32) : Ok (fX8_tries x f) (fX9_tries x f) z := by
  have Q : Rx z := ⟨nt, nr, nk, tp, R⟩
  rcases clm_at R x with ⟨c, hc, rfl, e8, e9⟩ | ⟨_, e8, e9⟩
  rotate_left
  · exact Ok_eq (-1) Q (by rw [fX8_tries, e8, zb_some, zo_n]) (by rw [fX9_tries, e9, zb_some, if_pos rfl])
  obtain ⟨t, s, st, ⟨a1, a2, a3⟩, ⟨b1, b2, b3, b4⟩, ⟨c1, c2, c3⟩, d⟩ := R.2.2.2.2.1 c hc
  have h8 := R.1.1.1
  have h20 := R.1.2.2.1
  obtain ⟨kd, n, C, P, A, H, T1, T2, O, hH, _⟩ := R.2.2.1 t a3
  have h2 := p2_le O.1.2.2.1
  rcases finder_at f with ⟨fi, hf, rfl, f8, f9⟩ | ⟨f8, f9⟩
  rotate_left
  · exact Ok_eq (-2) Q (by rw [fX8_tries, e8, zb_some, zo_s, f8, zb_some, if_pos rfl]) (by rw [fX9_tries, e9, zb_some, if_neg r10, f9, zb_some, if_pos rfl])
  have ix : zk_ix (nI c) 20 = true := zx_nI (by omega) (by decide)
  have cl : (nI c).toNatClampNeg = c := nI_clamp (by omega)
  by_cases hst : st = 2
  · exact Ok_eq (-3) Q (by rw [fX8_tries, e8, zb_some, zo_s, f8, zb_some, if_neg r10, c1, if_pos (by rw [hst]; rfl)]) (by rw [fX9_tries, e9, zb_some, if_neg r10, f9, zb_some, if_neg r10, ix, zg_t, cl, c2, if_pos (by rw [hst]; rfl)])
  have hst' : ¬ nI st = 2 := ne_nI (b := 2) (by omega) (by decide) hst
  have e8t : fX8_taskAt (nI t) z = some (some t, z) := by
    rw [fX8_taskAt, if_neg (nI_lt0 (by omega)), R.1.1.2.1, if_neg (by rw [nI_leI (by omega) (by omega)]; omega), zx_nI (by omega) (by decide), zg_t, nI_clamp (by omega)]
  obtain ⟨o, ho⟩ : ∃ o, o = (fiS kd n C P A fi (2 * s)).1 := ⟨_, rfl⟩
  obtain ⟨sn, hs⟩ : ∃ sn, sn = (fiS kd n C P A fi (2 * s)).2 := ⟨_, rfl⟩
  have s8 := seek7 (x := fi) (lim := 2 * s) T1 O hf (by omega)
  rw [← ho, ← hs, fo_oi] at s8
  obtain ⟨sw, hsw⟩ : ∃ w, w = if nI s ≤ nI sn then (1 : Int32) else 2 := ⟨_, rfl⟩
  have k8 : fX8_tries (nI c) (nI fi) z = if oi o < 0 then some (nI st, fz z (oi o) sn) else if sw ≤ nI st then some (nI st, fz z (oi o) sn) else some (sw, zk_sI (zk_sI (fz z (oi o) sn) 11 c 2 sw) 11 c 3 (nI fi)) := by
    have q1 : (fz z (oi o) sn).1 11 c 1 = nI s := b1
    have q2 : (fz z (oi o) sn).1 11 c 2 = nI st := c1
    rw [fX8_tries, e8, zb_some, zo_s, f8, zb_some, if_neg r10, c1, if_neg hst', a1, e8t, zb_some, zo_s, b1, nI_2, s8, zb_some, fz_0, fz_1, q1]
    have w : ∀ v : Int32, fX8_tries_B96 (nI fi) c v c (fz z (oi o) sn) = if v ≤ nI st then some (nI st, fz z (oi o) sn) else some (v, zk_sI (zk_sI (fz z (oi o) sn) 11 c 2 v) 11 c 3 (nI fi)) := by
      intro v
      rw [fX8_tries_B96, fX0_worsen, q2]
      split
      · rw [zb_some, fX8_tries_B100, q2]
      · rw [zb_some, fX8_tries_B100, sI_at, if_neg (by omega), sI_at, if_pos ⟨rfl, rfl, rfl⟩]
    by_cases h1 : oi o < 0
    · rw [if_pos h1, if_pos h1, fX8_tries_B100, q2]
    · rw [if_neg h1, if_neg h1, hsw]
      by_cases h3 : nI s ≤ nI sn
      · rw [if_pos h3, if_pos h3, w]
      · rw [if_neg h3, if_neg h3, w]
  have k9 : ∀ b : zk_Z, TM b t kd n C P A → b.1 20 0 17 = nI nk → b.1 35 0 c = nI t → b.1 36 0 c = nI s → b.1 37 0 c = nI st → fX9_tries (nI c) (nI fi) b = if oi o < 0 then some (nI st, fm b sn) else if sw ≤ nI st then some (nI st, fm b sn) else some (sw, zk_sI (zk_sI (fm b sn) 37 0 c sw) 38 0 c (nI fi)) := by
    intro b T p1 p2 p3 p4
    have s9 := finds9 (x := fi) (lim := 2 * s) (z := b) T O (by omega) hf (by omega)
    rw [← ho, ← hs] at s9
    have q1 : (fm b sn).1 36 0 c = nI s := p3
    have q2 : (fm b sn).1 37 0 c = nI st := p4
    have w : ∀ v : Int32, fX9_tries_B82 (nI c) (nI fi) v (fm b sn) = if v ≤ nI st then some (nI st, fm b sn) else some (v, zk_sI (zk_sI (fm b sn) 37 0 c v) 38 0 c (nI fi)) := by
      intro v
      rw [fX9_tries_B82, ix, zg_t, zg_t, zg_t, cl, q2]
      split
      · rw [fX9_tries_B110, ix, zg_t, cl, q2]
      · rw [fX9_tries_B110, ix, zg_t, cl, sI_at, if_neg (by omega), sI_at, if_pos ⟨rfl, rfl, rfl⟩]
    rw [fX9_tries, is_clm0 p1 h20 hc, zb_some, if_neg r10, f9, zb_some, if_neg r10, ix, zg_t, zg_t, zg_t, cl, p4, if_neg hst', p2, p3, nI_2, s9, zb_some, zg_t, q1, fm_1]
    by_cases h1 : oi o < 0
    · have h1' : oi o = -1 := by
        cases o with
        | none => rfl
        | some r => exact absurd h1 (nI_lt0 (by have := fiS_lt ho.symm; omega))
      rw [if_pos h1', if_pos h1, w, if_pos (by rw [show (0 : Int32) = nI 0 from rfl, nI_leI (by decide) (by omega)]; omega)]
    · rw [if_neg (fun q => h1 (by rw [q]; decide)), if_neg h1, hsw]
      by_cases h3 : nI s ≤ nI sn
      · rw [if_pos h3, if_pos h3, w]
      · rw [if_neg h3, if_neg h3, w]
  have F := fr_fz z (oi o) sn
  by_cases h1 : oi o < 0
  · refine Ok_fr (nI st) (fz z (oi o) sn) (fm (fz z (oi o) sn) sn) R (by rw [k8, if_pos h1]) ?_ F (fr_fm _ _)
    rw [k9 _ (TM_fr F (by omega) O.1.2.2.2 T2) R.1.2.2.2.2 a2 b2 c2, if_pos h1]
  rw [if_neg h1] at k8
  by_cases h3 : sw ≤ nI st
  · refine Ok_fr (nI st) (fz z (oi o) sn) (fm (fz z (oi o) sn) sn) R (by rw [k8, if_pos h3]) ?_ F (fr_fm _ _)
    rw [k9 _ (TM_fr F (by omega) O.1.2.2.2 T2) R.1.2.2.2.2 a2 b2 c2, if_neg h1, if_pos h3]
  rw [if_neg h3] at k8
  obtain ⟨v, hv, hve⟩ : ∃ v : Nat, v ≤ 2 ∧ sw = nI v := by
    rw [hsw]; split
    · exact ⟨1, by omega, rfl⟩
    · exact ⟨2, by omega, rfl⟩
  have f1 : ∀ g k i, ¬ (g = 11 ∧ k = c) → (zk_sI (zk_sI (fz z (oi o) sn) 11 c 2 sw) 11 c 3 (nI fi)).1 g k i = (fz z (oi o) sn).1 g k i := fun g k i hg => by rw [sI_at, if_neg (by omega), sI_at, if_neg (by omega)]
  have TM1 : TM (zk_sI (zk_sI (fz z (oi o) sn) 11 c 2 sw) 11 c 3 (nI fi)) t kd n C P A := (show TM (fz z (oi o) sn) t kd n C P A from TM_fr F (by omega) O.1.2.2.2 T2)
  refine ⟨sw, _, _, k8, (k9 _ TM1 R.1.2.2.2.2 a2 b2 c2).trans (by rw [if_neg h1, if_neg h3]), nt, nr, nk, tp, Rl_cl (c := c) R (fun g k i hg => ?_) ?_⟩
  · have e1 := fr_fm (zk_sI (zk_sI (fz z (oi o) sn) 11 c 2 sw) 11 c 3 (nI fi)) sn g k i (fun q => hg (Or.inl q))
    rw [sI_at, if_neg (by omega), sI_at, if_neg (by omega), e1, f1 g k i (by omega), F g k i (fun q => hg (Or.inl q))]
  · have G : ∀ g k i, g < 20 → (zk_sI (zk_sI (fm (zk_sI (zk_sI (fz z (oi o) sn) 11 c 2 sw) 11 c 3 (nI fi)) sn) 37 0 c sw) 38 0 c (nI fi)).1 g k i = (zk_sI (zk_sI (fz z (oi o) sn) 11 c 2 sw) 11 c 3 (nI fi)).1 g k i := by
      intro g k i hg
      unfold fm
      rw [sI_at, if_neg (by omega), sI_at, if_neg (by omega), sI_at, if_neg (by omega)]
    refine ⟨t, s, v, ⟨?_, ?_, a3⟩, ⟨?_, ?_, b3, b4⟩, ⟨?_, ?_, hv⟩, ?_⟩
    · rw [G 11 c 0 (by omega), sI_at, if_neg (by omega), sI_at, if_neg (by omega)]; exact a1
    · rw [sI_at, if_neg (by omega), sI_at, if_neg (by omega)]; exact a2
    · rw [G 11 c 1 (by omega), sI_at, if_neg (by omega), sI_at, if_neg (by omega)]; exact b1
    · rw [sI_at, if_neg (by omega), sI_at, if_neg (by omega)]; exact b2
    · rw [G 11 c 2 (by omega), sI_at, if_neg (by omega), sI_at, if_pos ⟨rfl, rfl, rfl⟩]; exact hve
    · rw [sI_at, if_neg (by omega), sI_at, if_pos ⟨rfl, rfl, rfl⟩]; exact hve
    · rw [sI_at, if_pos ⟨rfl, rfl, rfl⟩, G 11 c 3 (by omega), sI_at, if_pos ⟨rfl, rfl, rfl⟩]
