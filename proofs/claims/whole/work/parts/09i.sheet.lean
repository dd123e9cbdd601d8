/-! what is taken back -/
def bkE (T : Nat → Nat) (q : Nat) : Nat → Nat → Nat → (Nat → Nat) → Nat × (Nat → Nat)
  | 0, _, j, e => (j, e)
  | d + 1, k, j, e => if T k < q then bkE T q d (k + 1) (j + 1) (fun i => if i = j then k else e i) else bkE T q d (k + 1) j e
theorem bkE_ok {T : Nat → Nat} {q : Nat} {N : Nat} : ∀ d k j e, k + d = N → j ≤ k → (∀ i, i < j → e i < N ∧ T (e i) < q) → (bkE T q d k j e).1 ≤ N ∧ ∀ i, i < (bkE T q d k j e).1 → (bkE T q d k j e).2 i < N ∧ T ((bkE T q d k j e).2 i) < q := by
  intro d
  induction d with
  | zero => intro k j e h1 h2 h3; exact ⟨by show j ≤ N; omega, h3⟩
  | succ d ih =>
    intro k j e h1 h2 h3
    rw [bkE]
    split
    · refine ih _ _ _ (by omega) (by omega) (fun i hi => ?_)
      by_cases e1 : i = j
      · rw [if_pos e1]; exact ⟨by omega, by assumption⟩
      · rw [if_neg e1]; exact h3 i (by omega)
    · exact ih _ _ _ (by omega) (by omega) h3
theorem bk8_L {z0 : zk_Z} {T : Nat → Nat} {q N : Nat} (hN : N ≤ 20) (hq : q ≤ 8) (hT : ∀ c, c < N → z0.1 11 c 0 = nI (T c) ∧ T c < 100) : ∀ d m k j e z, k + d = N → j ≤ k → (∀ i, i < j → ∀ f, f < 4 → z.1 11 i f = z0.1 11 (e i) f) → (∀ c, k ≤ c → ∀ f, z.1 11 c f = z0.1 11 c f) → z.1 0 0 13 = nI N → z.1 0 0 12 = nI q → d < m → ∃ z', fX8_back_L29 m (nI j) (nI k) z = some (nI q, z') ∧ z'.1 0 0 13 = nI (bkE T q d k j e).1 ∧ (∀ i, i < (bkE T q d k j e).1 → ∀ f, f < 4 → z'.1 11 i f = z0.1 11 ((bkE T q d k j e).2 i) f) ∧ ∀ g k i, ¬ (g = 11 ∨ (g = 0 ∧ i = 13)) → z'.1 g k i = z.1 g k i := by
  intro d
  induction d with
  | zero =>
    intro m k j e z h1 h2 h3 h4 h5 h6 h7
    obtain ⟨m, rfl⟩ : ∃ j, m = j + 1 := ⟨m - 1, by omega⟩
    refine ⟨zk_sI z 0 0 13 (nI j), ?_, ?_, fun i hi f hf => ?_, fun g k i hg => ?_⟩
    · rw [fX8_back_L29, h5, if_pos (by rw [nI_leI (by omega) (by omega)]; omega), sI_at, if_neg (by omega), h6]
    · rw [sI_at, if_pos ⟨rfl, rfl, rfl⟩]; rfl
    · rw [sI_at, if_neg (by omega)]; exact h3 i hi f hf
    · rw [sI_at, if_neg (by omega)]
  | succ d ih =>
    intro m k j e z h1 h2 h3 h4 h5 h6 h7
    obtain ⟨m, rfl⟩ : ∃ j, m = j + 1 := ⟨m - 1, by omega⟩
    have hk := hT k (by omega)
    have g8 : fX8_back_L29 (m + 1) (nI j) (nI k) z = if T k < q then zk_bd (fX0_become j k z) (fun _ z4 => fX8_back_B71 (fX8_back_L29 m) (nI (j + 1)) (nI k) z4) else fX8_back_L29 m (nI j) (nI (k + 1)) z := by
      rw [fX8_back_L29, h5, if_neg (by rw [nI_leI (by omega) (by omega)]; omega), zx_nI (show k < 20 by omega) (by decide), zx_nI (show j < 20 by omega) (by decide), zg_t, zg_t, zg_t, nI_clamp (show k < 2 ^ 31 by omega), nI_clamp (show j < 2 ^ 31 by omega), h6, h4 k (Nat.le_refl _) 0, hk.1, nI_1]
      by_cases c : T k < q
      · rw [if_neg (by rw [nI_leI (by omega) (by omega)]; omega), if_pos c]
      · rw [if_pos (by rw [nI_leI (by omega) (by omega)]; omega), if_neg c, fX8_back_B71, nI_1]
    rw [bkE, g8]
    by_cases c : T k < q
    · rw [if_pos c, if_pos c, fX0_become, zb_some, fX8_back_B71, nI_1]
      obtain ⟨y, hy⟩ : ∃ y, y = zk_sI (zk_sI (zk_sI (zk_sI z 11 j 0 (z0.1 11 k 0)) 11 j 1 (z0.1 11 k 1)) 11 j 2 (z0.1 11 k 2)) 11 j 3 (z0.1 11 k 3) := ⟨_, rfl⟩
      have p0 := h4 k (Nat.le_refl _) 0
      have p1 : (zk_sI z 11 j 0 (z0.1 11 k 0)).1 11 k 1 = z0.1 11 k 1 := by rw [sI_at, if_neg (by omega)]; exact h4 k (Nat.le_refl _) 1
      have p2 : (zk_sI (zk_sI z 11 j 0 (z0.1 11 k 0)) 11 j 1 (z0.1 11 k 1)).1 11 k 2 = z0.1 11 k 2 := by rw [sI_at, if_neg (by omega), sI_at, if_neg (by omega)]; exact h4 k (Nat.le_refl _) 2
      have p3 : (zk_sI (zk_sI (zk_sI z 11 j 0 (z0.1 11 k 0)) 11 j 1 (z0.1 11 k 1)) 11 j 2 (z0.1 11 k 2)).1 11 k 3 = z0.1 11 k 3 := by rw [sI_at, if_neg (by omega), sI_at, if_neg (by omega), sI_at, if_neg (by omega)]; exact h4 k (Nat.le_refl _) 3
      rw [p0, p1, p2, p3, ← hy]
      have yne : ∀ g c i, ¬ (g = 11 ∧ c = j) → y.1 g c i = z.1 g c i := fun g c i hg => by
        rw [hy, sI_at, if_neg (by omega), sI_at, if_neg (by omega), sI_at, if_neg (by omega), sI_at, if_neg (by omega)]
      have yj : ∀ f, f < 4 → y.1 11 j f = z0.1 11 k f := by
        intro f hf
        rcases (show f = 0 ∨ f = 1 ∨ f = 2 ∨ f = 3 by omega) with rfl | rfl | rfl | rfl
        · rw [hy, sI_at, if_neg (by omega), sI_at, if_neg (by omega), sI_at, if_neg (by omega), sI_at, if_pos ⟨rfl, rfl, rfl⟩]
        · rw [hy, sI_at, if_neg (by omega), sI_at, if_neg (by omega), sI_at, if_pos ⟨rfl, rfl, rfl⟩]
        · rw [hy, sI_at, if_neg (by omega), sI_at, if_pos ⟨rfl, rfl, rfl⟩]
        · rw [hy, sI_at, if_pos ⟨rfl, rfl, rfl⟩]
      obtain ⟨z', w1, w2, w3, w4⟩ := ih m (k + 1) (j + 1) (fun i => if i = j then k else e i) y (by omega) (by omega) (fun i hi f hf => by
        by_cases e1 : i = j
        · rw [e1, if_pos rfl]; exact yj f hf
        · rw [if_neg e1, yne 11 i f (by omega)]; exact h3 i (by omega) f hf) (fun c hc f => by rw [yne 11 c f (by omega)]; exact h4 c (by omega) f) (by rw [yne 0 0 13 (by omega)]; exact h5) (by rw [yne 0 0 12 (by omega)]; exact h6) (by omega)
      exact ⟨z', w1, w2, w3, fun g k i hg => by rw [w4 g k i hg, yne g k i (by omega)]⟩
    · rw [if_neg c, if_neg c]
      exact ih m (k + 1) j e z (by omega) (by omega) h3 (fun c hc => h4 c (by omega)) h5 h6 (by omega)
theorem bk9_L' {z0 : zk_Z} {T : Nat → Nat} {q N : Nat} (hN : N ≤ 20) (hq : q ≤ 8) (hT : ∀ c, c < N → z0.1 35 0 c = nI (T c) ∧ T c < 100) : ∀ d m k j e z, k + d = N → j ≤ k → (∀ i, i < j → ∀ g, 35 ≤ g ∧ g ≤ 38 → z.1 g 0 i = z0.1 g 0 (e i)) → (∀ c, k ≤ c → ∀ g, 35 ≤ g ∧ g ≤ 38 → z.1 g 0 c = z0.1 g 0 c) → z.1 20 0 17 = nI N → z.1 20 0 8 = nI q → d < m → ∃ z', fX9_back_L22 m (nI j) (nI k) z = some (nI q, z') ∧ z'.1 20 0 17 = nI (bkE T q d k j e).1 ∧ (∀ i, i < (bkE T q d k j e).1 → ∀ g, 35 ≤ g ∧ g ≤ 38 → z'.1 g 0 i = z0.1 g 0 ((bkE T q d k j e).2 i)) ∧ ∀ g k i, ¬ ((35 ≤ g ∧ g ≤ 38) ∨ (g = 20 ∧ i = 17)) → z'.1 g k i = z.1 g k i := by
  intro d
  induction d with
  | zero =>
    intro m k j e z h1 h2 h3 h4 h5 h6 h7
    obtain ⟨m, rfl⟩ : ∃ j, m = j + 1 := ⟨m - 1, by omega⟩
    refine ⟨zk_sI z 20 0 17 (nI j), ?_, ?_, fun i hi g hg => ?_, fun g k i hg => ?_⟩
    · rw [fX9_back_L22, h5, if_pos (by rw [nI_leI (by omega) (by omega)]; omega), sI_at, if_neg (by omega), h6]
    · rw [sI_at, if_pos ⟨rfl, rfl, rfl⟩]; rfl
    · rw [sI_at, if_neg (by omega)]; exact h3 i hi g hg
    · rw [sI_at, if_neg (by omega)]
  | succ d ih =>
    intro m k j e z h1 h2 h3 h4 h5 h6 h7
    obtain ⟨m, rfl⟩ : ∃ j, m = j + 1 := ⟨m - 1, by omega⟩
    have hk := hT k (by omega)
    have i1 : zk_ix (nI k) 20 = true := zx_nI (by omega) (by decide)
    have i2 : zk_ix (nI j) 20 = true := zx_nI (by omega) (by decide)
    have l1 : (nI k).toNatClampNeg = k := nI_clamp (by omega)
    have l2 : (nI j).toNatClampNeg = j := nI_clamp (by omega)
    obtain ⟨y, hy⟩ : ∃ y, y = zk_sI (zk_sI (zk_sI (zk_sI z 35 0 j (z0.1 35 0 k)) 36 0 j (z0.1 36 0 k)) 37 0 j (z0.1 37 0 k)) 38 0 j (z0.1 38 0 k) := ⟨_, rfl⟩
    have p0 := h4 k (Nat.le_refl _) 35 (by omega)
    have p1 : (zk_sI z 35 0 j (z0.1 35 0 k)).1 36 0 k = z0.1 36 0 k := by rw [sI_at, if_neg (by omega)]; exact h4 k (Nat.le_refl _) 36 (by omega)
    have p2 : (zk_sI (zk_sI z 35 0 j (z0.1 35 0 k)) 36 0 j (z0.1 36 0 k)).1 37 0 k = z0.1 37 0 k := by rw [sI_at, if_neg (by omega), sI_at, if_neg (by omega)]; exact h4 k (Nat.le_refl _) 37 (by omega)
    have p3 : (zk_sI (zk_sI (zk_sI z 35 0 j (z0.1 35 0 k)) 36 0 j (z0.1 36 0 k)) 37 0 j (z0.1 37 0 k)).1 38 0 k = z0.1 38 0 k := by rw [sI_at, if_neg (by omega), sI_at, if_neg (by omega), sI_at, if_neg (by omega)]; exact h4 k (Nat.le_refl _) 38 (by omega)
    have g9 : fX9_back_L22 (m + 1) (nI j) (nI k) z = if T k < q then fX9_back_L22 m (nI (j + 1)) (nI (k + 1)) y else fX9_back_L22 m (nI j) (nI (k + 1)) z := by
      rw [fX9_back_L22, h5, if_neg (by rw [nI_leI (by omega) (by omega)]; omega), i1, i2, zg_t, zg_t, zg_t, zg_t, zg_t, zg_t, zg_t, zg_t, zg_t, l1, l2, h6, p0, p1, p2, p3, hk.1, nI_1]
      by_cases c : T k < q
      · rw [if_neg (by rw [nI_leI (by omega) (by omega)]; omega), if_pos c, fX9_back_B94, nI_1, hy, hk.1]
      · rw [if_pos (by rw [nI_leI (by omega) (by omega)]; omega), if_neg c, fX9_back_B94, nI_1]
    rw [bkE, g9]
    by_cases c : T k < q
    · rw [if_pos c, if_pos c]
      have yne : ∀ g c i, ¬ ((35 ≤ g ∧ g ≤ 38) ∧ i = j) → y.1 g c i = z.1 g c i := fun g c i hg => by
        rw [hy, sI_at, if_neg (by omega), sI_at, if_neg (by omega), sI_at, if_neg (by omega), sI_at, if_neg (by omega)]
      have yj : ∀ g, 35 ≤ g ∧ g ≤ 38 → y.1 g 0 j = z0.1 g 0 k := by
        intro g hg
        rcases (show g = 35 ∨ g = 36 ∨ g = 37 ∨ g = 38 by omega) with rfl | rfl | rfl | rfl
        · rw [hy, sI_at, if_neg (by omega), sI_at, if_neg (by omega), sI_at, if_neg (by omega), sI_at, if_pos ⟨rfl, rfl, rfl⟩]
        · rw [hy, sI_at, if_neg (by omega), sI_at, if_neg (by omega), sI_at, if_pos ⟨rfl, rfl, rfl⟩]
        · rw [hy, sI_at, if_neg (by omega), sI_at, if_pos ⟨rfl, rfl, rfl⟩]
        · rw [hy, sI_at, if_pos ⟨rfl, rfl, rfl⟩]
      obtain ⟨z', w1, w2, w3, w4⟩ := ih m (k + 1) (j + 1) (fun i => if i = j then k else e i) y (by omega) (by omega) (fun i hi g hg => by
        by_cases e1 : i = j
        · rw [e1, if_pos rfl]; exact yj g hg
        · rw [if_neg e1, yne g 0 i (by omega)]; exact h3 i (by omega) g hg) (fun c hc g hg => by rw [yne g 0 c (by omega)]; exact h4 c (by omega) g hg) (by rw [yne 20 0 17 (by omega)]; exact h5) (by rw [yne 20 0 8 (by omega)]; exact h6) (by omega)
      exact ⟨z', w1, w2, w3, fun g k i hg => by rw [w4 g k i hg, yne g k i (by omega)]⟩
    · rw [if_neg c, if_neg c]
      exact ih m (k + 1) j e z (by omega) (by omega) h3 (fun c hc => h4 c (by omega)) h5 h6 (by omega)
theorem ok_back {z : zk_Z} {nt nr nk tp : Nat} (R : Rl z nt nr nk tp) : Ok fX8_back fX9_back z := by
  have Q : Rx z := ⟨nt, nr, nk, tp, R⟩
  obtain ⟨⟨⟨a1, a2, a3⟩, ⟨b1, b2, b3⟩, ⟨c1, c2, c3⟩⟩, d, e, f, g, i, j⟩ := R
  rcases j with ⟨j1, j2⟩ | ⟨q, hq, j1, j2, j3⟩
  · exact Ok_eq (-3) Q (by rw [fX8_back, j1, if_neg (by decide)]) (by rw [fX9_back, j2, if_pos rfl])
  have hT : ∃ T : Nat → Nat, ∀ c, c < nk → z.1 11 c 0 = nI (T c) ∧ z.1 35 0 c = nI (T c) ∧ T c < nt := by
    have h : ∀ c, ∃ t, c < nk → z.1 11 c 0 = nI t ∧ z.1 35 0 c = nI t ∧ t < nt := by
      intro c
      by_cases hc : c < nk
      · obtain ⟨t, s, st, h1, _⟩ := g c hc
        exact ⟨t, fun _ => h1⟩
      · exact ⟨0, fun h => absurd h hc⟩
    exact ⟨fun c => (h c).choose, fun c hc => (h c).choose_spec hc⟩
  obtain ⟨T, hT⟩ := hT
  obtain ⟨z1, w1, w2, w3, w4⟩ := bk8_L (z0 := z) (T := T) (q := q) (N := nk) c1 (by omega) (fun c hc => ⟨(hT c hc).1, by have := (hT c hc).2.2; omega⟩) nk zk_FU 0 0 (fun i => i) (zk_sI z 0 0 12 (nI q)) (by omega) (Nat.le_refl _) (fun i hi => absurd hi (Nat.not_lt_zero _)) (fun c _ f => by rw [sI_at, if_neg (by omega)]) (by rw [sI_at, if_neg (by omega)]; exact c2) (by rw [sI_at, if_pos ⟨rfl, rfl, rfl⟩]) (by show nk < 6000; omega)
  have w5 : ∀ g k i, ¬ (g = 11 ∨ (g = 0 ∧ (i = 12 ∨ i = 13))) → z1.1 g k i = z.1 g k i := fun g k i hg => by rw [w4 g k i (by omega), sI_at, if_neg (by omega)]
  obtain ⟨z2, u1, u2, u3, u4⟩ := bk9_L' (z0 := z) (T := T) (q := q) (N := nk) c1 (by omega) (fun c hc => ⟨(hT c hc).2.1, by have := (hT c hc).2.2; omega⟩) nk zk_FU 0 0 (fun i => i) (zk_sI z1 20 0 8 (nI q)) (by omega) (Nat.le_refl _) (fun i hi => absurd hi (Nat.not_lt_zero _)) (fun c _ g hg => by rw [sI_at, if_neg (by omega), w5 g 0 c (by omega)]) (by rw [sI_at, if_neg (by omega), w5 20 0 17 (by omega)]; exact c3) (by rw [sI_at, if_pos ⟨rfl, rfl, rfl⟩]) (by show nk < 6000; omega)
  have u5 : ∀ g k i, ¬ ((35 ≤ g ∧ g ≤ 38) ∨ (g = 20 ∧ (i = 8 ∨ i = 17))) → z2.1 g k i = z1.1 g k i := fun g k i hg => by rw [u4 g k i (by omega), sI_at, if_neg (by omega)]
  have G : ∀ g k i, ¬ ((35 ≤ g ∧ g ≤ 38) ∨ (g = 20 ∧ (i = 8 ∨ i = 17)) ∨ (g = 11 ∨ (g = 0 ∧ (i = 12 ∨ i = 13)))) → z2.1 g k i = z.1 g k i := fun g k i hg => by rw [u5 g k i (by omega), w5 g k i (by omega)]
  have hE := bkE_ok (T := T) (q := q) (N := nk) nk 0 0 (fun i => i) (by omega) (Nat.le_refl _) (fun i hi => absurd hi (Nat.not_lt_zero _))
  refine ⟨nI q, z1, z2, ?_, ?_, q, nr, (bkE T q nk 0 0 (fun i => i)).1, tp, ⟨⟨by omega, ?_, ?_⟩, ⟨b1, ?_, ?_⟩, ⟨by omega, ?_, u2⟩⟩, ?_, fun t ht => ?_, fun r hr => ?_, fun k hk => ?_, fun s hs => ?_, ?_⟩
  · have em : (if nI q < nI nt then nI q else nI nt) = nI q := by
      by_cases h : q < nt
      · rw [if_pos (by rw [nI_ltI (by omega) (by omega)]; exact h)]
      · rw [if_neg (by rw [nI_ltI (by omega) (by omega)]; exact h), show q = nt by omega]
    rw [fX8_back, j1, if_pos (by rw [show (0 : Int32) = nI 0 from rfl, nI_leI (by decide) (by omega)]; omega), a2, em]
    exact w1
  · have e1 : z1.1 20 0 22 = 1 := by rw [w5 20 0 22 (by omega)]; exact j2
    have e2 : z1.1 20 0 23 = nI q := by rw [w5 20 0 23 (by omega)]; exact j3
    rw [fX9_back, e1, if_neg r10, e2]
    exact u1
  · rw [u5 0 0 12 (by omega), w4 0 0 12 (by omega), sI_at, if_pos ⟨rfl, rfl, rfl⟩]
  · rw [u4 20 0 8 (by omega), sI_at, if_pos ⟨rfl, rfl, rfl⟩]
  · rw [G 0 0 11 (by omega)]; exact b2
  · rw [G 20 0 2 (by omega)]; exact b3
  · rw [u5 0 0 13 (by omega)]; exact w2
  · exact tpR_at (fun g k i q => G g k i (by omega)) d
  · exact tkR_at (fun g k i q => G g k i (by omega)) (e t (by omega))
  · exact rcR_at (fun g k i q => G g k i (by omega)) (f r hr)
  · obtain ⟨h1, h2⟩ := hE.2 k hk
    obtain ⟨t, s, st, ⟨x1, x2, x3⟩, ⟨x4, x5, x6⟩, ⟨x7, x8, x9⟩, x10⟩ := g _ h1
    have ht : t = T ((bkE T q nk 0 0 (fun i => i)).2 k) := nI_inj (by omega) (by have := (hT _ h1).2.2; omega) (x1.symm.trans (hT _ h1).1)
    have c8 : ∀ f, f < 4 → z2.1 11 k f = z.1 11 ((bkE T q nk 0 0 (fun i => i)).2 k) f := fun f hf => by rw [u5 11 k f (by omega)]; exact w3 k hk f hf
    have c9 : ∀ g, 35 ≤ g ∧ g ≤ 38 → z2.1 g 0 k = z.1 g 0 ((bkE T q nk 0 0 (fun i => i)).2 k) := fun g hg => u3 k hk g hg
    refine ⟨t, s, st, ⟨?_, ?_, by omega⟩, ⟨?_, ?_, x6⟩, ⟨?_, ?_, x9⟩, ?_⟩
    · rw [c8 0 (by omega)]; exact x1
    · rw [c9 35 (by omega)]; exact x2
    · rw [c8 1 (by omega)]; exact x4
    · rw [c9 36 (by omega)]; exact x5
    · rw [c8 2 (by omega)]; exact x7
    · rw [c9 37 (by omega)]; exact x8
    · rw [c9 38 (by omega), c8 3 (by omega)]; exact x10
  · exact shR_at (fun g k i q => G g k i (by omega)) (i s hs)
  · refine Or.inr ⟨q, Nat.le_refl _, ?_, ?_, ?_⟩
    · rw [G 0 0 14 (by omega)]; exact j1
    · rw [G 20 0 22 (by omega)]; exact j2
    · rw [G 20 0 23 (by omega)]; exact j3
