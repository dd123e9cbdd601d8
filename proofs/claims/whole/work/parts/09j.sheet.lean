/-! sheets -/
theorem Rl_sh {z z' : zk_Z} {nt nr nk tp s : Nat} (R : Rl z nt nr nk tp) (h : ∀ g k i, ¬ (((g = 13 ∨ g = 14) ∧ k = s) ∨ ((g = 39 ∨ g = 40) ∧ i = s) ∨ (g = 41 ∧ 40 * s ≤ i ∧ i < 40 * s + 40)) → z'.1 g k i = z.1 g k i) (T : shR z' s) : Rl z' nt nr nk tp := by
  obtain ⟨⟨⟨a1, a2, a3⟩, ⟨b1, b2, b3⟩, ⟨c1, c2, c3⟩⟩, d, e, f, g, i, j⟩ := R
  refine ⟨⟨⟨a1, ?_, ?_⟩, ⟨b1, ?_, ?_⟩, ⟨c1, ?_, ?_⟩⟩, ?_, fun t ht => ?_, fun r hr => ?_, fun k hk => ?_, fun s' hs => ?_, ?_⟩
  · rw [h 0 0 12 (by omega)]; exact a2
  · rw [h 20 0 8 (by omega)]; exact a3
  · rw [h 0 0 11 (by omega)]; exact b2
  · rw [h 20 0 2 (by omega)]; exact b3
  · rw [h 0 0 13 (by omega)]; exact c2
  · rw [h 20 0 17 (by omega)]; exact c3
  · exact tpR_at (fun g k i q => h g k i (by omega)) d
  · exact tkR_at (fun g k i q => h g k i (by omega)) (e t ht)
  · exact rcR_at (fun g k i q => h g k i (by omega)) (f r hr)
  · exact clR_at (fun g k i q => h g k i (by omega)) (g k hk)
  · by_cases e1 : s' = s
    · rw [e1]; exact T
    · exact shR_at (fun g k i q => h g k i (by omega)) (i s' hs)
  · exact imR_at (Nat.le_refl _) (fun g k i q => h g k i (by omega)) j
theorem nI_40 (s i : Nat) : 40 * nI s + nI i = nI (40 * s + i) := by rw [show (40 : Int32) = nI 40 from rfl, pk_mul, nI_add]
theorem sh9_L {s : Nat} (hs : s < 4) : ∀ d m i z, i + d = 40 → d < m → ∃ z', fX9_sheet_L70 m (nI s) (nI i) z = some (1, z') ∧ (∀ j, i ≤ j → j < 40 → z'.1 41 0 (40 * s + j) = 0) ∧ ∀ g k j, ¬ (g = 41 ∧ 40 * s + i ≤ j ∧ j < 40 * s + 40) → z'.1 g k j = z.1 g k j := by
  intro d
  induction d with
  | zero =>
    intro m i z h1 h2
    obtain ⟨m, rfl⟩ : ∃ j, m = j + 1 := ⟨m - 1, by omega⟩
    exact ⟨z, by rw [fX9_sheet_L70, if_pos (by rw [show (40 : Int32) = nI 40 from rfl, nI_leI (by omega) (by omega)]; omega)], fun j _ _ => by omega, fun _ _ _ _ => rfl⟩
  | succ d ih =>
    intro m i z h1 h2
    obtain ⟨m, rfl⟩ : ∃ j, m = j + 1 := ⟨m - 1, by omega⟩
    obtain ⟨z', w1, w2, w3⟩ := ih m (i + 1) (zk_sI z 41 0 (40 * s + i) 0) (by omega) (by omega)
    refine ⟨z', ?_, fun j h3 h4 => ?_, fun g k j hg => ?_⟩
    · rw [fX9_sheet_L70, if_neg (by rw [show (40 : Int32) = nI 40 from rfl, nI_leI (by omega) (by omega)]; omega), nI_40, zx_nI (by omega) (by decide), zg_t, nI_clamp (by omega), nI_1]
      exact w1
    · by_cases e : j = i
      · rw [w3 41 0 (40 * s + j) (by omega), sI_at, if_pos ⟨rfl, rfl, by omega⟩]
      · exact w2 j (by omega) h4
    · rw [w3 g k j (by omega), sI_at, if_neg (by omega)]
/-- a sheet begun, on both sides -/
theorem sh_begin {z : zk_Z} {nt nr nk tp s sz : Nat} {so : Option Nat} (R : Rl z nt nr nk tp) (hs : s < 4) (hz : sz ≤ 40) (hso : ∀ q, so = some q → q ≤ 2) (f g : zk_Z → Option (Int32 × zk_Z)) (hf : f z = zk_bd (fX5_begin s (oi so) (nI sz) z) (fun _ z4 => some (1, z4))) (hg : ∀ b : zk_Z, g b = fX9_sheet_L70 zk_FU (nI s) (nI 0) (zk_sI (zk_sI b 39 0 s (oi so)) 40 0 s (nI sz))) : Ok f g z := by
  obtain ⟨y, hy⟩ : ∃ y, y = zk_sR (zk_sI (zk_sI z 13 s 0 (oi so)) 13 s 1 (nI sz)) 14 s (fun j => if j < 40 then 0 else (zk_sI (zk_sI z 13 s 0 (oi so)) 13 s 1 (nI sz)).1 14 s j) := ⟨_, rfl⟩
  obtain ⟨z2, w1, w2, w3⟩ := sh9_L hs 40 zk_FU 0 (zk_sI (zk_sI y 39 0 s (oi so)) 40 0 s (nI sz)) (by omega) (by decide)
  have yne : ∀ g k i, ¬ ((g = 13 ∨ g = 14) ∧ k = s) → y.1 g k i = z.1 g k i := by
    intro g k i hg
    rw [hy]
    show (if g = 14 ∧ k = s then _ else (zk_sI (zk_sI z 13 s 0 (oi so)) 13 s 1 (nI sz)).1 g k) i = _
    rw [if_neg (by omega), sI_at, if_neg (by omega), sI_at, if_neg (by omega)]
  have y14 : ∀ i, i < 40 → y.1 14 s i = 0 := by
    intro i hi
    rw [hy, sR_row, if_pos hi]
  have y13 : y.1 13 s 0 = oi so ∧ y.1 13 s 1 = nI sz := by
    rw [hy, sR_ne (by decide)]
    refine ⟨?_, ?_⟩
    · rw [sI_at, if_neg (by omega), sI_at, if_pos ⟨rfl, rfl, rfl⟩]
    · rw [sI_at, if_pos ⟨rfl, rfl, rfl⟩]
  refine ⟨1, y, z2, ?_, (hg y).trans w1, nt, nr, nk, tp, Rl_sh (s := s) R (fun g k i hg => ?_) ⟨so, sz, ⟨hz, ?_, ?_⟩, ⟨?_, ?_, hso⟩, fun i hi => ?_⟩⟩
  · rw [hf, fX5_begin, fill14, zb_some, zb_some, ← hy]
  · rw [w3 g k i (by omega), sI_at, if_neg (by omega), sI_at, if_neg (by omega), yne g k i (by omega)]
  · rw [w3 13 s 1 (by omega), sI_at, if_neg (by omega), sI_at, if_neg (by omega)]; exact y13.2
  · rw [w3 40 0 s (by omega), sI_at, if_pos ⟨rfl, rfl, rfl⟩]
  · rw [w3 13 s 0 (by omega), sI_at, if_neg (by omega), sI_at, if_neg (by omega)]; exact y13.1
  · rw [w3 39 0 s (by omega), sI_at, if_neg (by omega), sI_at, if_pos ⟨rfl, rfl, rfl⟩]
  · rw [w2 i (Nat.zero_le _) hi, w3 14 s i (by omega), sI_at, if_neg (by omega), sI_at, if_neg (by omega), y14 i hi]
theorem ok_sheet {z : zk_Z} {nt nr nk tp : Nat} (R : Rl z nt nr nk tp) (x y n : Int32) : Ok (fX8_sheet x y n) (fX9_sheet x y n) z := by
  have Q : Rx z := ⟨nt, nr, nk, tp, R⟩
  rcases sheet_at x with ⟨s, hs, rfl, s8, s9⟩ | ⟨s8, s9⟩
  rotate_left
  · exact Ok_eq (-2) Q (by rw [fX8_sheet, s8, zb_some, if_pos rfl]) (by rw [fX9_sheet, s9, zb_some, if_pos rfl])
  have ix : zk_ix (nI s) 4 = true := zx_nI hs (by decide)
  have cl : (nI s).toNatClampNeg = s := nI_clamp (by omega)
  by_cases h1 : y < -1
  · exact Ok_eq (-2) Q (by rw [fX8_sheet, s8, zb_some, if_neg r10, if_pos h1]) (by rw [fX9_sheet, s9, zb_some, if_neg r10, fX9_in, if_pos h1, zb_some, if_pos rfl])
  by_cases h2 : 2 < y
  · have h3 : ¬ y < 3 := by
      rw [Int32.lt_iff_toInt_lt, show (2 : Int32).toInt = 2 from by decide] at h2
      rw [Int32.lt_iff_toInt_lt, show (3 : Int32).toInt = 3 from by decide]; omega
    exact Ok_eq (-2) Q (by rw [fX8_sheet, s8, zb_some, if_neg r10, if_neg h1, if_neg h3]) (by rw [fX9_sheet, s9, zb_some, if_neg r10, fX9_in, if_neg h1, if_pos h2, zb_some, if_pos rfl])
  have h3 : y < 3 := by
    rw [Int32.lt_iff_toInt_lt, show (2 : Int32).toInt = 2 from by decide] at h2
    rw [Int32.lt_iff_toInt_lt, show (3 : Int32).toInt = 3 from by decide]; omega
  have g8 : fX8_sheet (nI s) y n z = if y = -1 then zk_bd (fX5_begin s (-1) 0 z) (fun _ z4 => some (1, z4)) else if n ≤ 40 then if 0 ≤ n then zk_bd (fX5_begin s y n z) (fun _ z7 => some (1, z7)) else some (-14, z) else some (-2, z) := by
    rw [fX8_sheet, s8, zb_some, if_neg r10, if_neg h1, if_pos h3, ix, zg_t, zg_t, cl]
  have g9 : ∀ b : zk_Z, fX9_sheet (nI s) y n b = if y = -1 then fX9_sheet_B32 (nI s) y n b else if n ≤ 40 then fX9_sheet_B32 (nI s) y n b else some (-2, b) := by
    intro b
    rw [fX9_sheet, s9, zb_some, if_neg r10, fX9_in, if_neg h1, if_neg h2, zb_some, if_neg r10]
  by_cases hm : y = -1
  · refine sh_begin (s := s) (sz := 0) (so := none) R hs (by omega) (fun q h => by cases h) _ _ (by rw [g8, if_pos hm]; rfl) (fun b => ?_)
    rw [g9, if_pos hm, fX9_sheet_B32, if_pos hm, fX9_sheet_B44, ix, zg_t, if_pos hm, fX9_sheet_B66, ix, zg_t, cl, hm]; rfl
  by_cases h40 : n ≤ 40
  rotate_left
  · exact Ok_eq (-2) Q (by rw [g8, if_neg hm, if_neg h40]) (by rw [g9, if_neg hm, if_neg h40])
  by_cases h0 : 0 ≤ n
  rotate_left
  · exact Ok_eq (-14) Q (by rw [g8, if_neg hm, if_pos h40, if_neg h0]) (by rw [g9, if_neg hm, if_pos h40, fX9_sheet_B32, if_neg hm, if_neg h0])
  obtain ⟨sz, hsz, rfl⟩ := nn (x := n) (fun q => Int32.not_le.mpr q h0)
  have hy0 : ¬ y < 0 := fun q => hm (by
    apply Int32.toInt_inj.mp
    rw [Int32.lt_iff_toInt_lt, show (0 : Int32).toInt = 0 from by decide] at q
    rw [Int32.lt_iff_toInt_lt, show (-1 : Int32).toInt = -1 from by decide] at h1
    rw [show (-1 : Int32).toInt = -1 from by decide]; omega)
  obtain ⟨q, hq, rfl⟩ := nn hy0
  have hq2 : q ≤ 2 := by rw [show (2 : Int32) = nI 2 from rfl, nI_ltI (by decide) hq] at h2; omega
  have hz40 : sz ≤ 40 := by rw [show (40 : Int32) = nI 40 from rfl, nI_leI hsz (by decide)] at h40; exact h40
  refine sh_begin (s := s) (sz := sz) (so := some q) R hs hz40 (fun q' h => by cases h; exact hq2) _ _ (by rw [g8, if_neg hm, if_pos h40, if_pos h0]; rfl) (fun b => ?_)
  rw [g9, if_neg hm, if_pos h40, fX9_sheet_B32, if_neg hm, if_pos h0, fX9_sheet_B44, ix, zg_t, if_neg hm, fX9_sheet_B66, ix, zg_t, cl]; rfl
theorem oi_mis {so : Option Nat} (h : ∀ q, so = some q → q ≤ 2) : (oi so = -1) ↔ so = none := by
  cases so with
  | none => exact ⟨fun _ => rfl, fun _ => rfl⟩
  | some q => exact ⟨fun e => absurd e (nI_m1_ne (by have := h q rfl; omega)), fun e => by cases e⟩
theorem ok_cell {z : zk_Z} {nt nr nk tp : Nat} (R : Rl z nt nr nk tp) (x y v : Int32) : Ok (fX8_cell x y v) (fX9_cell x y v) z := by
  have Q : Rx z := ⟨nt, nr, nk, tp, R⟩
  rcases sheet_at x with ⟨s, hs, rfl, s8, s9⟩ | ⟨s8, s9⟩
  rotate_left
  · exact Ok_eq (-2) Q (by rw [fX8_cell, s8, zb_some, if_pos rfl]) (by rw [fX9_cell, s9, zb_some, if_pos rfl])
  obtain ⟨so, sz, ⟨z1, z2, z3⟩, ⟨o1, o2, o3⟩, hc⟩ := R.2.2.2.2.2.1 s hs
  have ix : zk_ix (nI s) 4 = true := zx_nI hs (by decide)
  have cl : (nI s).toNatClampNeg = s := nI_clamp (by omega)
  by_cases hm : so = none
  · exact Ok_eq (-11) Q (by rw [fX8_cell, s8, zb_some, if_neg r10, ix, zg_t, cl, miss8 o1 o3, zb_some, if_pos hm, if_neg r10]) (by rw [fX9_cell, s9, zb_some, if_neg r10, ix, zg_t, cl, o2, if_pos ((oi_mis o3).mpr hm)])
  have ho : ¬ oi so = -1 := fun q => hm ((oi_mis o3).mp q)
  have g8 : fX8_cell (nI s) y v z = if y < 0 then some (-12, z) else if y < nI sz then zk_bd (fX5_cut s v z) (fun r7 z6 => zk_gd (zk_ix y 40) (some (1, zk_sI z6 14 s y.toNatClampNeg r7))) else some (-12, z) := by
    rw [fX8_cell, s8, zb_some, if_neg r10, ix, zg_t, cl, miss8 o1 o3, zb_some, if_neg hm, if_pos rfl, z2]
  have g9 : ∀ b : zk_Z, b.1 39 0 s = oi so → b.1 40 0 s = nI sz → fX9_cell (nI s) y v b = zk_bd (fX9_in y 0 (nI sz - 1) b) (fun r4 z3 => if r4 = 0 then some ((-12), z3) else if z3.1 39 0 s = 0 then fX9_cell_B84 v.toInt8.toInt32 (40 * nI s + y) z3 else if z3.1 39 0 s = 1 then fX9_cell_B84 v.toInt16.toInt32 (40 * nI s + y) z3 else fX9_cell_B84 v (40 * nI s + y) z3) := by
    intro b q1 q2
    rw [fX9_cell, s9, zb_some, if_neg r10, ix, zg_t, cl, q1, if_neg ho, zg_t, q2]; rfl
  rcases in9_cnt (x := y) (c := sz) z (by omega) with ⟨i, hi, rfl, h⟩ | ⟨h, h'⟩
  rotate_left
  · refine Ok_eq (-12) Q ?_ (by rw [g9 z o2 z3, h', zb_some, if_pos rfl])
    rw [g8]
    rcases h with h | h
    · rw [if_pos h]
    · rw [if_neg (fun q : y < nI sz => Int32.not_le.mpr q h)]
      split <;> rfl
  obtain ⟨u, hu⟩ : ∃ u : Int32, u = if oi so = 0 then v.toInt8.toInt32 else if oi so = 1 then v.toInt16.toInt32 else v := ⟨_, rfl⟩
  have k8 : fX8_cell (nI s) (nI i) v z = some (1, zk_sI z 14 s i u) := by
    have e : fX5_cut s v z = some (u, z) := by
      rw [fX5_cut, o1, hu]
      split
      · rfl
      · split <;> rfl
    rw [g8, if_neg (nI_lt0 (by omega)), if_pos (by rw [nI_ltI (by omega) (by omega)]; exact hi), e, zb_some, zx_nI (by omega) (by decide), zg_t, nI_clamp (by omega)]
  have k9 : ∀ b : zk_Z, b.1 39 0 s = oi so → b.1 40 0 s = nI sz → fX9_cell (nI s) (nI i) v b = some (1, zk_sI b 41 0 (40 * s + i) u) := by
    intro b q1 q2
    have e : ∀ w : Int32, fX9_cell_B84 w (40 * nI s + nI i) b = some (1, zk_sI b 41 0 (40 * s + i) w) := fun w => by
      rw [fX9_cell_B84, nI_40, zx_nI (by omega) (by decide), zg_t, nI_clamp (by omega)]
    rw [g9 b q1 q2, in9_c b hi (by omega), zb_some, if_neg r10, q1, e, e, e, hu]
    split
    · rfl
    · split <;> rfl
  refine ⟨1, _, _, k8, k9 _ (by rw [sI_at, if_neg (by omega)]; exact o2) (by rw [sI_at, if_neg (by omega)]; exact z3), nt, nr, nk, tp, Rl_sh (s := s) R (fun g k j hg => ?_) ⟨so, sz, ⟨z1, ?_, ?_⟩, ⟨?_, ?_, o3⟩, fun j hj => ?_⟩⟩
  · rw [sI_at, if_neg (by omega), sI_at, if_neg (by omega)]
  · rw [sI_at, if_neg (by omega), sI_at, if_neg (by omega)]; exact z2
  · rw [sI_at, if_neg (by omega), sI_at, if_neg (by omega)]; exact z3
  · rw [sI_at, if_neg (by omega), sI_at, if_neg (by omega)]; exact o1
  · rw [sI_at, if_neg (by omega), sI_at, if_neg (by omega)]; exact o2
  · by_cases e : j = i
    · rw [e, sI_at, if_pos ⟨rfl, rfl, rfl⟩, sI_at, if_neg (by omega), sI_at, if_pos ⟨rfl, rfl, rfl⟩]
    · rw [sI_at, if_neg (by omega), sI_at, if_neg (by omega), sI_at, if_neg (by omega), sI_at, if_neg (by omega)]
      exact hc j hj
/-- the reference's copying, one cell behind another -/
theorem cp9f_L {a b n : Nat} (z : zk_Z) (f0 : Nat → Int32) (hab : b ≤ a) (ha : a + n ≤ 160) : ∀ d m k f, k + d = n → d < m → (∀ x, f x = if b ≤ x ∧ x < b + k then f0 (a + (x - b)) else f0 x) → ∃ f', fX9_copy_L147 m (nI n) (nI a) (nI b) (nI k) (zk_sR z 41 0 f) = some (nI n, zk_sR z 41 0 f') ∧ ∀ x, f' x = if b ≤ x ∧ x < b + n then f0 (a + (x - b)) else f0 x := by
  intro d
  induction d with
  | zero =>
    intro m k f h1 h2 hf
    obtain ⟨m, rfl⟩ : ∃ j, m = j + 1 := ⟨m - 1, by omega⟩
    have : k = n := by omega
    subst this
    exact ⟨f, by rw [fX9_copy_L147, if_pos (by rw [nI_leI (by omega) (by omega)]; omega)], hf⟩
  | succ d ih =>
    intro m k f h1 h2 hf
    obtain ⟨m, rfl⟩ : ∃ j, m = j + 1 := ⟨m - 1, by omega⟩
    obtain ⟨f', w1, w2⟩ := ih m (k + 1) (upd f (b + k) (f (a + k))) (by omega) (by omega) (fun x => by
      have ea : f (a + k) = f0 (a + k) := by rw [hf, if_neg (by omega)]
      by_cases e : x = b + k
      · rw [e, pk_us, if_pos (by omega), ea, show b + k - b = k by omega]
      · rw [pk_un e, hf]
        by_cases c : b ≤ x ∧ x < b + k
        · rw [if_pos c, if_pos (by omega)]
        · rw [if_neg c, if_neg (by omega)])
    refine ⟨f', ?_, w2⟩
    rw [fX9_copy_L147, if_neg (by rw [nI_leI (by omega) (by omega)]; omega), if_pos (by rw [nI_leI (by omega) (by omega)]; omega), fX9_copy_B173, nI_add, nI_add, zx_nI (by omega) (by decide), zx_nI (by omega) (by decide), zg_t, zg_t, nI_clamp (by omega), nI_clamp (by omega), sR_row, sI_sR, nI_1]
    exact w1
theorem cp9b_L {a b n : Nat} (z : zk_Z) (f0 : Nat → Int32) (hab : a < b) (ha : b + n ≤ 160) : ∀ d m k f, k + d = n → d < m → (∀ x, f x = if b + (n - k) ≤ x ∧ x < b + n then f0 (a + (x - b)) else f0 x) → ∃ f', fX9_copy_L147 m (nI n) (nI a) (nI b) (nI k) (zk_sR z 41 0 f) = some (nI n, zk_sR z 41 0 f') ∧ ∀ x, f' x = if b ≤ x ∧ x < b + n then f0 (a + (x - b)) else f0 x := by
  intro d
  induction d with
  | zero =>
    intro m k f h1 h2 hf
    obtain ⟨m, rfl⟩ : ∃ j, m = j + 1 := ⟨m - 1, by omega⟩
    refine ⟨f, by rw [fX9_copy_L147, if_pos (by rw [nI_leI (by omega) (by omega)]; omega)], fun x => ?_⟩
    rw [hf x, show b + (n - k) = b by omega]
  | succ d ih =>
    intro m k f h1 h2 hf
    obtain ⟨m, rfl⟩ : ∃ j, m = j + 1 := ⟨m - 1, by omega⟩
    have es : nI n - 1 - nI k = nI (n - 1 - k) := by
      obtain ⟨q, rfl⟩ : ∃ q, n = q + 1 := ⟨n - 1, by omega⟩
      rw [nI_sub1, pk_sub (by omega)]; rfl
    obtain ⟨f', w1, w2⟩ := ih m (k + 1) (upd f (b + (n - 1 - k)) (f (a + (n - 1 - k)))) (by omega) (by omega) (fun x => by
      have ea : f (a + (n - 1 - k)) = f0 (a + (n - 1 - k)) := by rw [hf, if_neg (by omega)]
      by_cases e : x = b + (n - 1 - k)
      · rw [e, pk_us, if_pos (by omega), ea, show b + (n - 1 - k) - b = n - 1 - k by omega]
      · rw [pk_un e, hf]
        by_cases c : b + (n - k) ≤ x ∧ x < b + n
        · rw [if_pos c, if_pos (by omega)]
        · rw [if_neg c, if_neg (by omega)])
    refine ⟨f', ?_, w2⟩
    rw [fX9_copy_L147, if_neg (by rw [nI_leI (by omega) (by omega)]; omega), if_neg (by rw [nI_leI (by omega) (by omega)]; omega), es, fX9_copy_B173, nI_add, nI_add, zx_nI (by omega) (by decide), zx_nI (by omega) (by decide), zg_t, zg_t, nI_clamp (by omega), nI_clamp (by omega), sR_row, sI_sR, nI_1]
    exact w1
theorem cp9 {a b n : Nat} (z : zk_Z) (ha : a + n ≤ 160) (hb : b + n ≤ 160) : ∃ f', fX9_copy_L147 zk_FU (nI n) (nI a) (nI b) (nI 0) z = some (nI n, zk_sR z 41 0 f') ∧ ∀ x, f' x = if b ≤ x ∧ x < b + n then z.1 41 0 (a + (x - b)) else z.1 41 0 x := by
  by_cases h : b ≤ a
  · have := cp9f_L z (z.1 41 0) h ha n zk_FU 0 (z.1 41 0) (by omega) (by show n < 6000; omega) (fun x => by rw [if_neg (by omega)])
    rw [sR_id] at this
    exact this
  · have := cp9b_L z (z.1 41 0) (show a < b by omega) hb n zk_FU 0 (z.1 41 0) (by omega) (by show n < 6000; omega) (fun x => by rw [if_neg (by omega)])
    rw [sR_id] at this
    exact this
