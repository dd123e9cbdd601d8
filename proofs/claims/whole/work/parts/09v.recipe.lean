/-! a recipe from the tape, as it is asked for -/
theorem Rl_rec {z z' : zk_Z} {nt nr nk tp nr' : Nat} (R : Rl z nt nr nk tp) (hr : nr' ≤ 6) (hk : nr < 6) (h : ∀ g k i, ¬ (g = 1 ∨ ((g = 4 ∨ g = 5) ∧ k = nr) ∨ (g = 0 ∧ i = 11) ∨ (g = 20 ∧ (i = 1 ∨ i = 2 ∨ i = 27)) ∨ ((22 ≤ g ∧ g ≤ 25) ∧ i = nr) ∨ (g = 26 ∧ 4 * nr ≤ i ∧ i < 4 * nr + 4)) → z'.1 g k i = z.1 g k i) (h1 : z'.1 1 0 1 = nI 0) (h2 : z'.1 20 0 1 = nI 0) (h3 : z'.1 0 0 11 = nI nr') (h4 : z'.1 20 0 2 = nI nr') (T : ∀ r, r < nr' → r < nr ∨ rcR z' r) : Rl z' nt nr' nk 0 := by
  obtain ⟨⟨⟨a1, a2, a3⟩, ⟨b1, b2, b3⟩, ⟨c1, c2, c3⟩⟩, d, e, f, g, i, j⟩ := R
  refine ⟨⟨⟨a1, ?_, ?_⟩, ⟨hr, h3, h4⟩, ⟨c1, ?_, ?_⟩⟩, ⟨⟨by omega, h1, h2⟩, fun i hi => by omega⟩, fun t ht => ?_, fun r hr => ?_, fun k hk => ?_, fun s' hs => ?_, ?_⟩
  · rw [h 0 0 12 (by omega)]; exact a2
  · rw [h 20 0 8 (by omega)]; exact a3
  · rw [h 0 0 13 (by omega)]; exact c2
  · rw [h 20 0 17 (by omega)]; exact c3
  · exact tkR_at (fun g k i q => h g k i (by omega)) (e t ht)
  · rcases T r hr with q | q
    · exact rcR_at (fun g k i q => h g k i (by omega)) (f r q)
    · exact q
  · exact clR_at (fun g k i q => h g k i (by omega)) (g k hk)
  · exact shR_at (fun g k i q => h g k i (by omega)) (i s' hs)
  · exact imR_at (Nat.le_refl _) (fun g k i q => h g k i (by omega)) j
theorem ok_recipe {z : zk_Z} {nt nr nk tp : Nat} (R : Rl z nt nr nk tp) : Ok fX8_recipe fX9_recipe z := by
  have Q : Rx z := ⟨nt, nr, nk, tp, R⟩
  have hr6 := R.1.2.1.1
  have hr8 := R.1.2.1.2.1
  have hr9 := R.1.2.1.2.2
  obtain ⟨⟨t1, t2, t3⟩, tb⟩ := R.2.1
  have e6 : (6 : Int32) = nI 6 := rfl
  by_cases h6 : nr = 6
  · exact Ok_eq (-4) Q (by rw [fX8_recipe, hr8, if_neg (by rw [e6, nI_ltI (by omega) (by decide)]; omega)]) (by rw [fX9_recipe, hr9, if_pos (by rw [h6]; rfl)])
  have hB : ∃ B : Nat → Nat, ∀ i, i < tp → z.1 2 0 i = nI (B i) ∧ z.1 21 0 i = nI (B i) := by
    have h : ∀ i, ∃ b, i < tp → z.1 2 0 i = nI b ∧ z.1 21 0 i = nI b := by
      intro i
      by_cases hi : i < tp
      · obtain ⟨b, _, h1, h2⟩ := tb i hi; exact ⟨b, fun _ => ⟨h1, h2⟩⟩
      · exact ⟨0, fun h => absurd h hi⟩
    exact ⟨fun i => (h i).choose, fun i hi => (h i).choose_spec hi⟩
  obtain ⟨B, hB⟩ := hB
  have T8 : TP8 z tp B := ⟨t2, fun i hi => (hB i hi).1⟩
  have g8 : fX8_recipe z = zk_bd (fX6_readInto nr z) (fun r3 z2 => if r3 < 0 then some (((zk_sI (zk_sI z2 1 0 1 0) 0 0 11 (((zk_sI z2 1 0 1 0).1 0 0 11) + 1)).1 0 0 11) - 1, zk_sI (zk_sI z2 1 0 1 0) 0 0 11 (((zk_sI z2 1 0 1 0).1 0 0 11) + 1)) else some ((-100) - r3, zk_sI z2 1 0 1 0)) := by
    rw [fX8_recipe, hr8, if_pos (by rw [e6, nI_ltI (by omega) (by decide)]; omega), zx_nI (by omega) (by decide), zg_t, nI_clamp (by omega)]
  have g9 : ∀ b : zk_Z, b.1 20 0 2 = nI nr → fX9_recipe b = zk_bd (fX9_reads (nI nr) (az b 0)) (fun r2 z1 => if r2 = 0 then some ((-100) - ((zk_sI z1 20 0 1 0).1 20 0 27), zk_sI z1 20 0 1 0) else some (((zk_sI (zk_sI z1 20 0 1 0) 20 0 2 (((zk_sI z1 20 0 1 0).1 20 0 2) + 1)).1 20 0 2) - 1, zk_sI (zk_sI z1 20 0 1 0) 20 0 2 (((zk_sI z1 20 0 1 0).1 20 0 2) + 1))) := by
    intro b hb
    have e : (zk_sI b 20 0 27 0).1 20 0 2 = nI nr := by rw [sI_at, if_neg (by omega)]; exact hb
    rw [fX9_recipe, hb, if_neg (show ¬ nI nr = 6 from ne_nI (b := 6) (by omega) (by decide) h6), e]; rfl
  rcases rb (k := nr) (B := B) (by omega) t1 with ⟨f, hf, a8, a9⟩ | ⟨kd, n, C, w, W, O, hA, a8, a9⟩
  · obtain ⟨z', q8, F8⟩ := a8 z T8
    obtain ⟨y, hy⟩ : ∃ y, y = zk_sI z' 1 0 1 0 := ⟨_, rfl⟩
    have yne : ∀ g k i, ¬ (g = 1 ∨ ((g = 4 ∨ g = 5) ∧ k = nr)) → y.1 g k i = z.1 g k i := fun g k i hg => by rw [hy, sI_at, if_neg (by omega), F8 g k i (by omega)]
    have T9 : TP9 y tp B := ⟨by rw [yne 20 0 1 (by omega)]; exact t3, fun i hi => by rw [yne 21 0 i (by omega)]; exact (hB i hi).2⟩
    obtain ⟨b', q9, qf, F9⟩ := a9 y T9
    have k8 : fX8_recipe z = some ((-100) - nI f, y) := by rw [g8, q8, zb_some, if_neg (nI_lt0 (by omega)), hy]
    have k9 : fX9_recipe y = some ((-100) - nI f, zk_sI b' 20 0 1 0) := by
      have e : (zk_sI b' 20 0 1 0).1 20 0 27 = nI f := by rw [sI_at, if_neg (by omega)]; exact qf
      rw [g9 y (by rw [yne 20 0 2 (by omega)]; exact hr9), q9, zb_some, if_pos rfl, e]
    refine ⟨_, _, _, k8, k9, nt, nr, nk, 0, Rl_rec R hr6 (by omega) (fun g k i hg => ?_) ?_ ?_ ?_ ?_ (fun r h => Or.inl h)⟩
    · rw [sI_at, if_neg (by omega), F9 g k i (by omega), yne g k i (by omega)]
    · rw [sI_at, if_neg (by omega), F9 1 0 1 (by omega), hy, sI_at, if_pos ⟨rfl, rfl, rfl⟩]; rfl
    · rw [sI_at, if_pos ⟨rfl, rfl, rfl⟩]; rfl
    · rw [sI_at, if_neg (by omega), F9 0 0 11 (by omega), yne 0 0 11 (by omega)]; exact hr8
    · rw [sI_at, if_neg (by omega), F9 20 0 2 (by omega), yne 20 0 2 (by omega)]; exact hr9
  · obtain ⟨z', q8, RC', F8⟩ := a8 z T8
    obtain ⟨y, hy⟩ : ∃ y, y = zk_sI (zk_sI z' 1 0 1 0) 0 0 11 (nI (nr + 1)) := ⟨_, rfl⟩
    have yne : ∀ g k i, ¬ (g = 1 ∨ ((g = 4 ∨ g = 5) ∧ k = nr) ∨ (g = 0 ∧ i = 11)) → y.1 g k i = z.1 g k i := fun g k i hg => by rw [hy, sI_at, if_neg (by omega), sI_at, if_neg (by omega), F8 g k i (by omega)]
    have T9 : TP9 y tp B := ⟨by rw [yne 20 0 1 (by omega)]; exact t3, fun i hi => by rw [yne 21 0 i (by omega)]; exact (hB i hi).2⟩
    obtain ⟨b', q9, RM', F9⟩ := a9 y T9
    have k8 : fX8_recipe z = some (nI nr, y) := by
      have e : (zk_sI z' 1 0 1 0).1 0 0 11 = nI nr := by rw [sI_at, if_neg (by omega), F8 0 0 11 (by omega)]; exact hr8
      rw [g8, q8, zb_some, if_pos (by decide), e, nI_1, sI_at, if_pos ⟨rfl, rfl, rfl⟩, nI_sub1, hy]
    have k9 : fX9_recipe y = some (nI nr, zk_sI (zk_sI b' 20 0 1 0) 20 0 2 (nI (nr + 1))) := by
      have e : (zk_sI b' 20 0 1 0).1 20 0 2 = nI nr := by rw [sI_at, if_neg (by omega), F9 20 0 2 (by omega), yne 20 0 2 (by omega)]; exact hr9
      rw [g9 y (by rw [yne 20 0 2 (by omega)]; exact hr9), q9, zb_some, if_neg r10, e, nI_1, sI_at, if_pos ⟨rfl, rfl, rfl⟩, nI_sub1]
    have G : ∀ g k i, ¬ (g = 20 ∧ (i = 1 ∨ i = 2)) → (zk_sI (zk_sI b' 20 0 1 0) 20 0 2 (nI (nr + 1))).1 g k i = b'.1 g k i := fun g k i hg => by rw [sI_at, if_neg (by omega), sI_at, if_neg (by omega)]
    refine ⟨_, _, _, k8, k9, nt, nr + 1, nk, 0, Rl_rec R (by omega) (by omega) (fun g k i hg => ?_) ?_ ?_ ?_ ?_ (fun r h => ?_)⟩
    · rw [G g k i (by omega), F9 g k i (by omega), yne g k i (by omega)]
    · rw [G 1 0 1 (by omega), F9 1 0 1 (by omega), hy, sI_at, if_neg (by omega), sI_at, if_pos ⟨rfl, rfl, rfl⟩]; rfl
    · rw [sI_at, if_neg (by omega), sI_at, if_pos ⟨rfl, rfl, rfl⟩]; rfl
    · rw [G 0 0 11 (by omega), F9 0 0 11 (by omega), hy, sI_at, if_pos ⟨rfl, rfl, rfl⟩]
    · rw [sI_at, if_pos ⟨rfl, rfl, rfl⟩]
    · by_cases e : r < nr
      · exact Or.inl e
      · have e' : r = nr := by omega
        subst e'
        refine Or.inr ⟨kd, n, C, w, W, RC_at (fun g k i q => ?_) RC', RM_at O.1.2.2.2.2.2.1 (fun g k i q => G g k i (by omega)) RM', O, hA⟩
        rw [G g k i (by omega), F9 g k i (by omega), hy, sI_at, if_neg (by omega), sI_at, if_neg (by omega)]
/-- at the start -/
theorem Rl_0 : Rl zk_z0 0 0 0 0 := by
  refine ⟨⟨⟨by decide, rfl, rfl⟩, ⟨by decide, rfl, rfl⟩, ⟨by decide, rfl, rfl⟩⟩, ⟨⟨by decide, rfl, rfl⟩, fun i hi => by omega⟩, fun t ht => by omega, fun r hr => by omega, fun k hk => by omega, fun s hs => ?_, Or.inl ⟨rfl, rfl⟩⟩
  rcases (show s = 0 ∨ s = 1 ∨ s = 2 ∨ s = 3 by omega) with rfl | rfl | rfl | rfl
  · exact ⟨none, 0, ⟨by decide, rfl, rfl⟩, ⟨rfl, rfl, fun q h => by cases h⟩, fun i hi => rfl⟩
  · exact ⟨none, 0, ⟨by decide, rfl, rfl⟩, ⟨rfl, rfl, fun q h => by cases h⟩, fun i hi => rfl⟩
  · exact ⟨none, 0, ⟨by decide, rfl, rfl⟩, ⟨rfl, rfl, fun q h => by cases h⟩, fun i hi => rfl⟩
  · exact ⟨none, 0, ⟨by decide, rfl, rfl⟩, ⟨rfl, rfl, fun q h => by cases h⟩, fun i hi => rfl⟩
