/-! claims -/
theorem task_c (x : Int32) {nt : Nat} (hn : nt ≤ 8) : (∃ t, t < nt ∧ x = nI t ∧ (∀ z : zk_Z, z.1 0 0 12 = nI nt → fX8_taskAt x z = some (some t, z)) ∧ ∀ z : zk_Z, z.1 20 0 8 = nI nt → fX9_isTask x z = some (1, z)) ∨ ((∀ z : zk_Z, z.1 0 0 12 = nI nt → fX8_taskAt x z = some (none, z)) ∧ ∀ z : zk_Z, z.1 20 0 8 = nI nt → fX9_isTask x z = some (0, z)) := by
  rcases pk_ix x (n := nt) (by omega) with h | h | ⟨j, hj, rfl⟩
  · exact Or.inr ⟨fun z _ => by rw [fX8_taskAt, if_pos h], fun z _ => by rw [fX9_isTask, in9_neg z h, zb_some]; rfl⟩
  · refine Or.inr ⟨fun z hz => ?_, fun z hz => ?_⟩
    · rw [fX8_taskAt, hz, if_pos h]
      split <;> rfl
    · rw [fX9_isTask, hz]
      cases nt with
      | zero => rw [in9_c0, zb_some]; rfl
      | succ c => rw [nI_sub1, in9_big z (by omega) h, zb_some]; rfl
  · refine Or.inl ⟨j, hj, rfl, fun z hz => ?_, fun z hz => is_task0 hz hn hj⟩
    rw [fX8_taskAt, if_neg (nI_lt0 (by omega)), hz, if_neg (by rw [nI_leI (by omega) (by omega)]; omega), zx_nI (by omega) (by decide), zg_t, nI_clamp (by omega)]
def cz8 (z : zk_Z) (nk t s : Nat) : zk_Z := zk_sI (zk_sI (zk_sI (zk_sI (zk_sI z 11 nk 0 (nI t)) 11 nk 1 (nI s)) 11 nk 2 0) 11 nk 3 (-1)) 0 0 13 (nI (nk + 1))
def cz9 (z : zk_Z) (nk t s : Nat) : zk_Z := zk_sI (zk_sI (zk_sI (zk_sI (zk_sI z 35 0 nk (nI t)) 36 0 nk (nI s)) 37 0 nk 0) 38 0 nk (-1)) 20 0 17 (nI (nk + 1))
theorem claim_cases (a b : Int32) {nt nk : Nat} (hn : nt ≤ 8) (hk : nk ≤ 20) : (∃ t s : Nat, t < nt ∧ 1 ≤ s ∧ s ≤ 2000 ∧ nk < 20 ∧ (∀ z : zk_Z, z.1 0 0 12 = nI nt → z.1 0 0 13 = nI nk → fX8_claim a b z = some (nI nk, cz8 z nk t s)) ∧ ∀ z : zk_Z, z.1 20 0 8 = nI nt → z.1 20 0 17 = nI nk → fX9_claim a b z = some (nI nk, cz9 z nk t s)) ∨ ∃ r : Int32, r < 0 ∧ (∀ z : zk_Z, z.1 0 0 12 = nI nt → z.1 0 0 13 = nI nk → fX8_claim a b z = some (r, z)) ∧ ∀ z : zk_Z, z.1 20 0 8 = nI nt → z.1 20 0 17 = nI nk → fX9_claim a b z = some (r, z) := by
  rcases task_c a hn with ⟨t, ht, rfl, e8, e9⟩ | ⟨e8, e9⟩
  rotate_left
  · exact Or.inr ⟨-1, by decide, fun z h _ => by rw [fX8_claim, e8 z h, zb_some, zo_n], fun z h _ => by rw [fX9_claim, e9 z h, zb_some, if_pos rfl]⟩
  have e20 : (20 : Int32) = nI 20 := rfl
  have e2k : (2000 : Int32) = nI 2000 := rfl
  by_cases h1 : b < 1
  · exact Or.inr ⟨-2, by decide, fun z h _ => by rw [fX8_claim, e8 z h, zb_some, zo_s, if_pos h1], fun z h _ => by rw [fX9_claim, e9 z h, zb_some, if_neg r10, fX9_in, if_pos h1, zb_some, if_pos rfl]⟩
  by_cases h2 : 2000 < b
  · exact Or.inr ⟨-2, by decide, fun z h _ => by rw [fX8_claim, e8 z h, zb_some, zo_s, if_neg h1, if_neg (Int32.not_le.mpr h2)], fun z h _ => by rw [fX9_claim, e9 z h, zb_some, if_neg r10, fX9_in, if_neg h1, if_pos h2, zb_some, if_pos rfl]⟩
  by_cases h20 : nk = 20
  · exact Or.inr ⟨-4, by decide, fun z h h' => by rw [fX8_claim, e8 z h, zb_some, zo_s, if_neg h1, if_pos (Int32.not_lt.mp h2), h', if_neg (by rw [e20, nI_ltI (by omega) (by decide)]; omega)], fun z h h' => by rw [fX9_claim, e9 z h, zb_some, if_neg r10, fX9_in, if_neg h1, if_neg h2, zb_some, if_neg r10, h', if_pos (by rw [h20]; rfl)]⟩
  have h0 : ¬ b < 0 := fun q => h1 (by
    rw [Int32.lt_iff_toInt_lt] at q ⊢
    have e0 : (0 : Int32).toInt = 0 := by decide
    have e1 : (1 : Int32).toInt = 1 := by decide
    omega)
  obtain ⟨s, hs, rfl⟩ := nn h0
  have s1 : 1 ≤ s := by rw [show (1 : Int32) = nI 1 from rfl, nI_ltI hs (by decide)] at h1; omega
  have s2 : s ≤ 2000 := by rw [e2k, nI_ltI (by decide) hs] at h2; omega
  refine Or.inl ⟨t, s, ht, s1, s2, by omega, fun z h h' => ?_, fun z h h' => ?_⟩
  · have c13 : (zk_sI (zk_sI (zk_sI (zk_sI z 11 nk 0 (nI t)) 11 nk 1 (nI s)) 11 nk 2 0) 11 nk 3 (-1)).1 0 0 13 = nI nk := h'
    rw [fX8_claim, e8 z h, zb_some, zo_s, if_neg h1, if_pos (Int32.not_lt.mp h2), h', if_pos (by rw [e20, nI_ltI (by omega) (by decide)]; omega), zx_nI (by omega) (by decide), zg_t, nI_clamp (by omega), fX0_begin, zb_some, c13, nI_1, sI_at, if_pos ⟨rfl, rfl, rfl⟩, nI_sub1]; rfl
  · have c1 : (zk_sI z 35 0 nk (nI t)).1 20 0 17 = nI nk := h'
    have c2 : (zk_sI (zk_sI z 35 0 nk (nI t)) 36 0 nk (nI s)).1 20 0 17 = nI nk := h'
    have c3 : (zk_sI (zk_sI (zk_sI z 35 0 nk (nI t)) 36 0 nk (nI s)) 37 0 nk 0).1 20 0 17 = nI nk := h'
    have c4 : (zk_sI (zk_sI (zk_sI (zk_sI z 35 0 nk (nI t)) 36 0 nk (nI s)) 37 0 nk 0) 38 0 nk (-1)).1 20 0 17 = nI nk := h'
    rw [fX9_claim, e9 z h, zb_some, if_neg r10, fX9_in, if_neg h1, if_neg h2, zb_some, if_neg r10, h', if_neg (show ¬ nI nk = 20 from ne_nI (b := 20) (by omega) (by decide) h20), nI_clamp (show nk < 2 ^ 31 by omega), c1, nI_clamp (show nk < 2 ^ 31 by omega), c2, nI_clamp (show nk < 2 ^ 31 by omega), c3, nI_clamp (show nk < 2 ^ 31 by omega), c4, zx_nI (by omega) (by decide), zg_t, zg_t, zg_t, zg_t, nI_1, sI_at, if_pos ⟨rfl, rfl, rfl⟩, nI_sub1]; rfl
theorem cz8_ne {z : zk_Z} {nk t s g k i : Nat} (h : ¬ ((g = 11 ∧ k = nk) ∨ (g = 0 ∧ i = 13))) : (cz8 z nk t s).1 g k i = z.1 g k i := by
  unfold cz8
  rw [sI_at, if_neg (by omega), sI_at, if_neg (by omega), sI_at, if_neg (by omega), sI_at, if_neg (by omega), sI_at, if_neg (by omega)]
theorem cz9_ne {z : zk_Z} {nk t s g k i : Nat} (h : ¬ (((35 ≤ g ∧ g ≤ 38) ∧ i = nk) ∨ (g = 20 ∧ i = 17))) : (cz9 z nk t s).1 g k i = z.1 g k i := by
  unfold cz9
  rw [sI_at, if_neg (by omega), sI_at, if_neg (by omega), sI_at, if_neg (by omega), sI_at, if_neg (by omega), sI_at, if_neg (by omega)]
theorem cz8_v (z : zk_Z) (nk t s : Nat) : (cz8 z nk t s).1 11 nk 0 = nI t ∧ (cz8 z nk t s).1 11 nk 1 = nI s ∧ (cz8 z nk t s).1 11 nk 2 = 0 ∧ (cz8 z nk t s).1 11 nk 3 = -1 ∧ (cz8 z nk t s).1 0 0 13 = nI (nk + 1) := by
  unfold cz8
  simp [sI_at]
theorem cz9_v (z : zk_Z) (nk t s : Nat) : (cz9 z nk t s).1 35 0 nk = nI t ∧ (cz9 z nk t s).1 36 0 nk = nI s ∧ (cz9 z nk t s).1 37 0 nk = 0 ∧ (cz9 z nk t s).1 38 0 nk = -1 ∧ (cz9 z nk t s).1 20 0 17 = nI (nk + 1) := by
  unfold cz9
  simp [sI_at]
/-- the class's cells of one memory, the reference's of another -/
def mix (a b : zk_Z) : zk_Z := (fun g => if g < 20 then a.1 g else b.1 g, a.2)
theorem mix_a {a b : zk_Z} {g k i : Nat} (h : g < 20) : (mix a b).1 g k i = a.1 g k i := by
  show (if g < 20 then a.1 g else b.1 g) k i = _
  rw [if_pos h]
theorem mix_b {a b : zk_Z} {g k i : Nat} (h : 20 ≤ g) : (mix a b).1 g k i = b.1 g k i := by
  show (if g < 20 then a.1 g else b.1 g) k i = _
  rw [if_neg (by omega)]
theorem Rl_congr {z z' : zk_Z} {nt nr nk tp : Nat} (h : ∀ g k i, z'.1 g k i = z.1 g k i) (R : Rl z nt nr nk tp) : Rl z' nt nr nk tp := Rl_fr (fun g k i _ => h g k i) R
/-- one claim more -/
theorem Rl_claim {z z' : zk_Z} {nt nr nk tp t s : Nat} (R : Rl z nt nr nk tp) (ht : t < nt) (h1 : 1 ≤ s) (h2 : s ≤ 2000) (hk : nk < 20) (h : ∀ g k i, ¬ (((g = 11 ∧ k = nk) ∨ (g = 0 ∧ i = 13)) ∨ ((35 ≤ g ∧ g ≤ 38) ∧ i = nk) ∨ (g = 20 ∧ i = 17)) → z'.1 g k i = z.1 g k i) (v8 : z'.1 11 nk 0 = nI t ∧ z'.1 11 nk 1 = nI s ∧ z'.1 11 nk 2 = 0 ∧ z'.1 11 nk 3 = -1 ∧ z'.1 0 0 13 = nI (nk + 1)) (v9 : z'.1 35 0 nk = nI t ∧ z'.1 36 0 nk = nI s ∧ z'.1 37 0 nk = 0 ∧ z'.1 38 0 nk = -1 ∧ z'.1 20 0 17 = nI (nk + 1)) : Rl z' nt nr (nk + 1) tp := by
  obtain ⟨⟨⟨a1, a2, a3⟩, ⟨b1, b2, b3⟩, ⟨c1, c2, c3⟩⟩, d, e, f, g, i, j⟩ := R
  refine ⟨⟨⟨a1, ?_, ?_⟩, ⟨b1, ?_, ?_⟩, ⟨by omega, v8.2.2.2.2, v9.2.2.2.2⟩⟩, ?_, fun t ht => ?_, fun r hr => ?_, fun k hk => ?_, fun s hs => ?_, ?_⟩
  · rw [h 0 0 12 (by omega)]; exact a2
  · rw [h 20 0 8 (by omega)]; exact a3
  · rw [h 0 0 11 (by omega)]; exact b2
  · rw [h 20 0 2 (by omega)]; exact b3
  · exact tpR_at (fun g k i q => h g k i (by omega)) d
  · exact tkR_at (fun g k i q => h g k i (by omega)) (e t ht)
  · exact rcR_at (fun g k i q => h g k i (by omega)) (f r hr)
  · by_cases e1 : k = nk
    · rw [e1]
      exact ⟨t, s, 0, ⟨v8.1, v9.1, ht⟩, ⟨v8.2.1, v9.2.1, h1, h2⟩, ⟨v8.2.2.1, v9.2.2.1, by omega⟩, v9.2.2.2.1.trans v8.2.2.2.1.symm⟩
    · exact clR_at (fun g k i q => h g k i (by omega)) (g k (by omega))
  · exact shR_at (fun g k i q => h g k i (by omega)) (i s hs)
  · exact imR_at (Nat.le_refl _) (fun g k i q => h g k i (by omega)) j
theorem ok_claim {z : zk_Z} {nt nr nk tp : Nat} (R : Rl z nt nr nk tp) (x y : Int32) : Ok (fX8_claim x y) (fX9_claim x y) z := by
  have Q : Rx z := ⟨nt, nr, nk, tp, R⟩
  obtain ⟨⟨⟨a1, a2, a3⟩, _, ⟨c1, c2, c3⟩⟩, _⟩ := id R
  rcases claim_cases x y a1 c1 with ⟨t, s, ht, h1, h2, hk, g8, g9⟩ | ⟨r, _, g8, g9⟩
  · refine ⟨nI nk, cz8 z nk t s, cz9 (cz8 z nk t s) nk t s, g8 z a2 c2, g9 _ ?_ ?_, nt, nr, nk + 1, tp, Rl_claim R ht h1 h2 hk (fun g k i hg => ?_) ?_ (cz9_v _ _ _ _)⟩
    · rw [cz8_ne (by omega)]; exact a3
    · rw [cz8_ne (by omega)]; exact c3
    · rw [cz9_ne (by omega), cz8_ne (by omega)]
    · have v := cz8_v z nk t s
      rw [cz9_ne (by omega), cz9_ne (by omega), cz9_ne (by omega), cz9_ne (by omega), cz9_ne (by omega)]
      exact v
  · exact Ok_eq r Q (g8 z a2 c2) (g9 z a3 c3)
theorem lt0_iff {r : Nat} (h : r < 2 ^ 31) : (nI r < 0) = False := eq_false (nI_lt0 h)
/-- a sheet's pairs, claimed one behind another -/
theorem cls_L {s sz f N : Nat} (hs : s < 4) (hz : sz ≤ 40) (hf : f ≤ 40) (hN : N ≤ 20) : ∀ d m i came a nt nr nk tp, i + d = N → d < m → a.1 13 s 1 = nI sz → (∀ b, Rl (mix a b) nt nr nk tp → b.1 40 0 s = nI sz) → (∃ b, Rl (mix a b) nt nr nk tp) → ∃ (r : Int32) (a' : zk_Z), fX8_claims_L68 m (nI f) (nI N) s (nI came) (nI i) a = some (r, a') ∧ (∀ g k j, ¬ (g = 11 ∨ (g = 0 ∧ j = 13)) → a'.1 g k j = a.1 g k j) ∧ ∀ b, Rl (mix a b) nt nr nk tp → ∃ b' nk', fX9_claims_L64 m (nI s) (nI f) (nI N) (nI came) (nI i) b = some (r, b') ∧ (∀ g k j, g < 20 → b'.1 g k j = b.1 g k j) ∧ Rl (mix a' b') nt nr nk' tp := by
  have e2 : (2 : Int32) = nI 2 := rfl
  intro d
  induction d with
  | zero =>
    intro m i came a nt nr nk tp h1 h2 ha hb _
    obtain ⟨m, rfl⟩ : ∃ j, m = j + 1 := ⟨m - 1, by omega⟩
    refine ⟨nI came, a, by rw [fX8_claims_L68, if_pos (by rw [nI_leI (by omega) (by omega)]; omega)], fun _ _ _ _ => rfl, fun b Rb => ⟨b, nk, by rw [fX9_claims_L64, if_pos (by rw [nI_leI (by omega) (by omega)]; omega)], fun _ _ _ _ => rfl, Rb⟩⟩
  | succ d ih =>
    intro m i came a nt nr nk tp h1 h2 ha hb hex
    obtain ⟨m, rfl⟩ : ∃ j, m = j + 1 := ⟨m - 1, by omega⟩
    have p1 : nI f + 2 * nI i = nI (f + 2 * i) := by rw [nI_2, nI_add]
    by_cases hin : f + 2 * i + 2 ≤ sz
    · have g8 : fX8_claims_L68 (m + 1) (nI f) (nI N) s (nI came) (nI i) a = zk_bd (fX8_claim (a.1 14 s (f + 2 * i)) (a.1 14 s (f + 2 * i + 1)) a) (fun r9 z8 => if r9 < 0 then fX8_claims_B125 (fX8_claims_L68 m) (nI f) (nI N) s (nI came) (nI i) z8 else fX8_claims_B125 (fX8_claims_L68 m) (nI f) (nI N) s (nI came + 1) (nI i) z8) := by
        rw [fX8_claims_L68, if_neg (by rw [nI_leI (by omega) (by omega)]; omega), p1, fX5_hasRange, if_neg (nI_lt0 (by omega)), if_neg (by decide), ha, if_neg (by rw [nI_ltI (by omega) (by omega)]; omega), pk_sub (by omega), e2, if_neg (by rw [nI_ltI (by omega) (by omega)]; omega), zb_some, if_neg r10, nI_1, zx_nI (show f + 2 * i < 40 by omega) (by decide), zx_nI (show f + 2 * i + 1 < 40 by omega) (by decide), zg_t, zg_t, nI_clamp (by omega), nI_clamp (by omega)]
      have g9 : ∀ b : zk_Z, b.1 40 0 s = nI sz → fX9_claims_L64 (m + 1) (nI s) (nI f) (nI N) (nI came) (nI i) b = zk_bd (fX9_claim (b.1 41 0 (40 * s + (f + 2 * i))) (b.1 41 0 (40 * s + (f + 2 * i) + 1)) b) (fun r8 z7 => if r8 < 0 then fX9_claims_B144 (fX9_claims_L64 m) (nI s) (nI f) (nI N) (nI i) 0 (nI came) z7 else fX9_claims_B144 (fX9_claims_L64 m) (nI s) (nI f) (nI N) (nI i) 1 (nI came) z7) := by
        intro b hb
        have e40 : (40 : Int32) * nI s + nI (f + 2 * i) = nI (40 * s + (f + 2 * i)) := by rw [show (40 : Int32) = nI 40 from rfl, pk_mul, nI_add]
        rw [fX9_claims_L64, if_neg (by rw [nI_leI (by omega) (by omega)]; omega), if_neg (nI_lt0 (by omega)), p1, if_neg (by rw [nI_ltI (by omega) (by omega)]; omega), zx_nI hs (by decide), zg_t, nI_clamp (by omega), hb, e2, pk_sub (by omega), if_pos (by rw [nI_leI (by omega) (by omega)]; omega), e40, nI_1, zx_nI (show 40 * s + (f + 2 * i) < 160 by omega) (by decide), zx_nI (show 40 * s + (f + 2 * i) + 1 < 160 by omega) (by decide), zg_t, zg_t, nI_clamp (by omega), nI_clamp (by omega)]
      obtain ⟨b0, R0⟩ := hex
      have k1 := R0.1.1.1
      have k2 : a.1 0 0 12 = nI nt := R0.1.1.2.1
      have k3 := R0.1.2.2.1
      have k4 : a.1 0 0 13 = nI nk := R0.1.2.2.2.1
      have hcell : ∀ b, Rl (mix a b) nt nr nk tp → b.1 41 0 (40 * s + (f + 2 * i)) = a.1 14 s (f + 2 * i) ∧ b.1 41 0 (40 * s + (f + 2 * i) + 1) = a.1 14 s (f + 2 * i + 1) := by
        intro b Rb
        obtain ⟨so, sz', _, _, hc⟩ := Rb.2.2.2.2.2.1 s hs
        exact ⟨hc (f + 2 * i) (by omega), hc (f + 2 * i + 1) (by omega)⟩
      rcases claim_cases (a.1 14 s (f + 2 * i)) (a.1 14 s (f + 2 * i + 1)) k1 k3 with ⟨t, st, ht, s1, s2, hk, c8, c9⟩ | ⟨r, hr, c8, c9⟩
      · have step : ∀ b, Rl (mix a b) nt nr nk tp → Rl (mix (cz8 a nk t st) (cz9 b nk t st)) nt nr (nk + 1) tp := by
          intro b Rb
          have v8 := cz8_v a nk t st
          have v9 := cz9_v b nk t st
          refine Rl_claim Rb ht s1 s2 hk (fun g k j hg => ?_) v8 v9
          by_cases h20 : g < 20
          · rw [mix_a h20, mix_a h20, cz8_ne (by omega)]
          · rw [mix_b (by omega), mix_b (by omega), cz9_ne (by omega)]
        have back : ∀ b, Rl (mix (cz8 a nk t st) b) nt nr (nk + 1) tp → b.1 40 0 s = nI sz := by
          intro b Rb
          obtain ⟨so, sz', ⟨q1, q2, q3⟩, _, _⟩ := Rb.2.2.2.2.2.1 s hs
          have q2' : (cz8 a nk t st).1 13 s 1 = nI sz' := q2
          rw [cz8_ne (by omega), ha] at q2'
          have := nI_inj (by omega) (by omega) q2'
          rw [this]; exact q3
        obtain ⟨r, a', l8, fr8, l9⟩ := ih m (i + 1) (came + 1) (cz8 a nk t st) nt nr (nk + 1) tp (by omega) (by omega) (by rw [cz8_ne (by omega)]; exact ha) back ⟨_, step b0 R0⟩
        refine ⟨r, a', ?_, fun g k j hg => ?_, fun b Rb => ?_⟩
        · rw [g8, c8 a k2 k4, zb_some, if_neg (nI_lt0 (by omega)), fX8_claims_B125, nI_1, nI_1]; exact l8
        · rw [fr8 g k j hg, cz8_ne (by omega)]
        · obtain ⟨b', nk', l9', fb, Rn⟩ := l9 _ (step b Rb)
          have q3 : b.1 20 0 8 = nI nt := Rb.1.1.2.2
          have q4 : b.1 20 0 17 = nI nk := Rb.1.2.2.2.2
          refine ⟨b', nk', ?_, fun g k j hg => ?_, Rn⟩
          · rw [g9 b (hb b Rb), (hcell b Rb).1, (hcell b Rb).2, c9 b q3 q4, zb_some, if_neg (nI_lt0 (by omega)), fX9_claims_B144, nI_1, nI_1]; exact l9'
          · rw [fb g k j hg, cz9_ne (by omega)]
      · obtain ⟨r', a', l8, fr8, l9⟩ := ih m (i + 1) came a nt nr nk tp (by omega) (by omega) ha hb ⟨b0, R0⟩
        refine ⟨r', a', ?_, fr8, fun b Rb => ?_⟩
        · rw [g8, c8 a k2 k4, zb_some, if_pos hr, fX8_claims_B125, nI_1]; exact l8
        · obtain ⟨b', nk', l9', fb, Rn⟩ := l9 b Rb
          have q3 : b.1 20 0 8 = nI nt := Rb.1.1.2.2
          have q4 : b.1 20 0 17 = nI nk := Rb.1.2.2.2.2
          refine ⟨b', nk', ?_, fb, Rn⟩
          rw [g9 b (hb b Rb), (hcell b Rb).1, (hcell b Rb).2, c9 b q3 q4, zb_some, if_pos hr, fX9_claims_B144, nI_1, Int32.add_zero]; exact l9'
    · refine ⟨-12, a, ?_, fun _ _ _ _ => rfl, fun b Rb => ⟨b, nk, ?_, fun _ _ _ _ => rfl, Rb⟩⟩
      · have hr : fX5_hasRange s (nI (f + 2 * i)) 2 a = some (0, a) := by
          rw [fX5_hasRange, if_neg (nI_lt0 (by omega)), if_neg (by decide), ha]
          by_cases h3 : sz < f + 2 * i
          · rw [if_pos (by rw [nI_ltI (by omega) (by omega)]; omega)]
          · rw [if_neg (by rw [nI_ltI (by omega) (by omega)]; omega), pk_sub (by omega), e2, if_pos (by rw [nI_ltI (by omega) (by omega)]; omega)]
        rw [fX8_claims_L68, if_neg (by rw [nI_leI (by omega) (by omega)]; omega), p1, hr, zb_some, if_pos rfl]
      · have hle : ¬ nI (f + 2 * i) ≤ nI sz - nI 2 := by
          rw [Int32.le_iff_toInt_le, nI_toInt (by omega), pk_sub_toInt (by omega) (by decide)]; omega
        rw [fX9_claims_L64, if_neg (by rw [nI_leI (by omega) (by omega)]; omega), if_neg (nI_lt0 (by omega)), p1, if_neg (by rw [nI_ltI (by omega) (by omega)]; omega), zx_nI hs (by decide), zg_t, nI_clamp (by omega), hb b Rb, e2, if_neg hle]
