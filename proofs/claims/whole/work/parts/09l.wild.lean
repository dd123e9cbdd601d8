/-! tasks by a sheet -/
def gpr (n : Nat) (p a : Int32) : Prop := ∃ P A : Nat, p = nI P ∧ a = nI A ∧ (P < 2 ^ n ∧ A < 2 ^ n) ∧ P &&& A = 0 ∧ 1 ≤ wid P A ∧ wid P A ≤ 3
theorem rowc {n : Nat} (hn : n ≤ 10) (x : Int32) : (∃ q, q < 2 ^ n ∧ x = nI q ∧ (∀ z, fX8_isRow x (nI n) z = some (1, z)) ∧ ∀ z, fX9_in x 0 (nI (2 ^ n) - 1) z = some (1, z)) ∨ ((∀ q, q < 2 ^ n → x ≠ nI q) ∧ (∀ z, fX8_isRow x (nI n) z = some (0, z)) ∧ ∀ z, fX9_in x 0 (nI (2 ^ n) - 1) z = some (0, z)) := by
  have h2 := p2_le hn
  rcases pk_ix x (n := 2 ^ n) (by omega) with h | h | ⟨q, hq, rfl⟩
  · exact Or.inr ⟨fun q hq e => nI_lt0 (r := q) (by omega) (by rw [← e]; exact h), fun z => by rw [fX8_isRow, if_pos h], fun z => in9_neg z h⟩
  · refine Or.inr ⟨fun q hq e => ?_, fun z => ?_, fun z => ?_⟩
    · rw [e, nI_leI (by omega) (by omega)] at h; omega
    · rw [fX8_isRow, nI_shl (by omega), if_pos h]
      split <;> rfl
    · obtain ⟨p, hp⟩ : ∃ p, 2 ^ n = p + 1 := ⟨2 ^ n - 1, by have := Nat.two_pow_pos n; omega⟩
      rw [hp, nI_sub1]
      exact in9_big z (by omega) (by rw [← hp]; exact h)
  · exact Or.inl ⟨q, hq, rfl, fun z => by rw [fX8_isRow, nI_shl (by omega), if_neg (nI_lt0 (by omega)), if_neg (by rw [nI_leI (by omega) (by omega)]; omega)], fun z => in9_c z hq (by omega)⟩
/-- one pair, on both sides -/
theorem pair8 {n : Nat} (hn : n ≤ 10) (p a : Int32) (s : Nat) (c : Int32 → Int32 → zk_Z → Option (Int32 × zk_Z)) (a2 : Int32) : (gpr n p a ∧ (∀ z, zk_bd (fJ6_bitCount_0f7a4 (p ||| a) z) (fun r2 z1 => zk_bd (fX8_isRow p (nI n) z1) (fun r4 z3 => if r4 = 0 then fX8_areClauses_B70 s c (nI n) a2 p a r2 z3 else zk_bd (fX8_isRow a (nI n) z3) (fun r6 z5 => if r6 = 0 then fX8_areClauses_B70 s c (nI n) a2 p a r2 z5 else fX8_areClauses_B71 s c (nI n) a2 p a r2 1 z5))) = c (nI n) (a2 + 2) z) ∧ ∀ (c9 : Int32 → Int32 → Int32 → Int32 → Int32 → zk_Z → Option (Int32 × zk_Z)) (b1 b3 b5 : Int32) z, fX9_wild_B113 c9 b1 (nI n) b3 b5 p a z = c9 b1 (nI n) b3 1 (b5 + 2) z) ∨ (¬ gpr n p a ∧ (∀ z, zk_bd (fJ6_bitCount_0f7a4 (p ||| a) z) (fun r2 z1 => zk_bd (fX8_isRow p (nI n) z1) (fun r4 z3 => if r4 = 0 then fX8_areClauses_B70 s c (nI n) a2 p a r2 z3 else zk_bd (fX8_isRow a (nI n) z3) (fun r6 z5 => if r6 = 0 then fX8_areClauses_B70 s c (nI n) a2 p a r2 z5 else fX8_areClauses_B71 s c (nI n) a2 p a r2 1 z5))) = some (0, z)) ∧ ∀ (c9 : Int32 → Int32 → Int32 → Int32 → Int32 → zk_Z → Option (Int32 × zk_Z)) (b1 b3 b5 : Int32) z, fX9_wild_B113 c9 b1 (nI n) b3 b5 p a z = c9 b1 (nI n) b3 0 (b5 + 2) z) := by
  have h2 := p2_le hn
  have b70 : ∀ u z, fX8_areClauses_B70 s c (nI n) a2 p a u z = some (0, z) := fun u z => by rw [fX8_areClauses_B70, fX8_areClauses_B71, if_pos rfl]
  have b169 : ∀ (c9 : Int32 → Int32 → Int32 → Int32 → Int32 → zk_Z → Option (Int32 × zk_Z)) (b1 b3 b5 : Int32) z, fX9_wild_B169 c9 b1 (nI n) b3 b5 z = c9 b1 (nI n) b3 0 (b5 + 2) z := fun c9 b1 b3 b5 z => by rw [fX9_wild_B169, fX9_wild_B170]
  rcases rowc hn p with ⟨P, hP, rfl, p8, p9⟩ | ⟨hp, p8, p9⟩
  rotate_left
  · refine Or.inr ⟨?_, fun z => ?_, fun c9 b1 b3 b5 z => ?_⟩
    · rintro ⟨P, A, e1, _, ⟨h3, _⟩, _⟩; exact hp P h3 e1
    · rw [bcv_eq, zb_some, p8, zb_some, if_pos rfl, b70]
    · rw [fX9_wild_B113, nI_shl (by omega), p9, zb_some, if_pos rfl, b169]
  rcases rowc hn a with ⟨A, hA, rfl, q8, q9⟩ | ⟨hp, q8, q9⟩
  rotate_left
  · refine Or.inr ⟨?_, fun z => ?_, fun c9 b1 b3 b5 z => ?_⟩
    · rintro ⟨P', A, _, e1, ⟨_, h3⟩, _⟩; exact hp A h3 e1
    · rw [bcv_eq, zb_some, p8, zb_some, if_neg r10, q8, zb_some, if_pos rfl, b70]
    · rw [fX9_wild_B113, nI_shl (by omega), p9, zb_some, if_neg r10, q9, zb_some, if_pos rfl, b169]
  have uP : ∀ P' : Nat, P' < 2 ^ n → nI P = nI P' → P' = P := fun P' h e => nI_inj (by omega) (by omega) e.symm
  have uA : ∀ P' : Nat, P' < 2 ^ n → nI A = nI P' → P' = A := fun P' h e => nI_inj (by omega) (by omega) e.symm
  have hand : P &&& A < 1024 := and_lt (by omega)
  have hor : P ||| A < 1024 := or_lt10 (by omega) (by omega)
  have g8 : ∀ z, zk_bd (fJ6_bitCount_0f7a4 (nI P ||| nI A) z) (fun r2 z1 => zk_bd (fX8_isRow (nI P) (nI n) z1) (fun r4 z3 => if r4 = 0 then fX8_areClauses_B70 s c (nI n) a2 (nI P) (nI A) r2 z3 else zk_bd (fX8_isRow (nI A) (nI n) z3) (fun r6 z5 => if r6 = 0 then fX8_areClauses_B70 s c (nI n) a2 (nI P) (nI A) r2 z5 else fX8_areClauses_B71 s c (nI n) a2 (nI P) (nI A) r2 1 z5))) = if nI (P &&& A) = 0 then if nI (wid P A) < 1 then some (0, z) else if nI (wid P A) ≤ 3 then c (nI n) (a2 + 2) z else some (0, z) else some (0, z) := by
    intro z
    rw [nI_or, e_bc hor, zb_some, p8, zb_some, if_neg r10, q8, zb_some, if_neg r10, fX8_areClauses_B71, if_neg r10, nI_and]; rfl
  have g9 : ∀ (c9 : Int32 → Int32 → Int32 → Int32 → Int32 → zk_Z → Option (Int32 × zk_Z)) (b1 b3 b5 : Int32) z, fX9_wild_B113 c9 b1 (nI n) b3 b5 (nI P) (nI A) z = if nI (P &&& A) = 0 then zk_bd (fX9_in (nI (wid P A)) 1 3 z) (fun r14 z13 => if r14 = 0 then c9 b1 (nI n) b3 0 (b5 + 2) z13 else c9 b1 (nI n) b3 1 (b5 + 2) z13) else c9 b1 (nI n) b3 0 (b5 + 2) z := by
    intro c9 b1 b3 b5 z
    rw [fX9_wild_B113, nI_shl (by omega), p9, zb_some, if_neg r10, q9, zb_some, if_neg r10, nI_or, e_ones hor, zb_some, nI_and]; rfl
  by_cases h0 : P &&& A = 0
  rotate_left
  · have h0' : ¬ nI (P &&& A) = 0 := fun q => h0 ((nI_z (by omega)).mp q)
    refine Or.inr ⟨?_, fun z => by rw [g8, if_neg h0'], fun c9 b1 b3 b5 z => by rw [g9, if_neg h0']⟩
    rintro ⟨P', A', e1, e2, ⟨h3, h4⟩, h5, _⟩
    rw [uP P' h3 e1, uA A' h4 e2] at h5
    exact h0 h5
  have h0' : nI (P &&& A) = 0 := by rw [h0]; rfl
  have e1 : (1 : Int32) = nI 1 := rfl
  have e3 : (3 : Int32) = nI 3 := rfl
  have hwl : wid P A ≤ 10 := pc_le _
  by_cases hw : 1 ≤ wid P A ∧ wid P A ≤ 3
  · refine Or.inl ⟨⟨P, A, rfl, rfl, ⟨hP, hA⟩, h0, hw⟩, fun z => ?_, fun c9 b1 b3 b5 z => ?_⟩
    · rw [g8, if_pos h0', if_neg (by rw [e1, nI_ltI (by omega) (by decide)]; omega), if_pos (by rw [e3, nI_leI (by omega) (by decide)]; omega)]
    · have e : fX9_in (nI (wid P A)) 1 3 z = some (1, z) := in9_in (j := wid P A) (l := 1) (h := 3) z hw.1 hw.2 (by decide)
      rw [g9, if_pos h0', e, zb_some, if_neg r10]
  · refine Or.inr ⟨?_, fun z => ?_, fun c9 b1 b3 b5 z => ?_⟩
    · rintro ⟨P', A', e1, e2, ⟨h3, h4⟩, h5, h6⟩
      rw [uP P' h3 e1, uA A' h4 e2] at h6
      exact hw h6
    · rw [g8, if_pos h0']
      by_cases h7 : wid P A < 1
      · rw [if_pos (by rw [e1, nI_ltI (by omega) (by decide)]; exact h7)]
      · rw [if_neg (by rw [e1, nI_ltI (by omega) (by decide)]; exact h7), if_neg (by rw [e3, nI_leI (by omega) (by decide)]; omega)]
    · rw [g9, if_pos h0', fX9_in]
      by_cases h7 : wid P A < 1
      · rw [if_pos (by rw [e1, nI_ltI (by omega) (by decide)]; exact h7), zb_some, if_pos rfl]
      · rw [if_neg (by rw [e1, nI_ltI (by omega) (by decide)]; exact h7), if_pos (by rw [e3, nI_ltI (by decide) (by omega)]; omega), zb_some, if_pos rfl]
/-- all pairs from one on -/
def gAll (n : Nat) (f : Nat → Int32) (c d : Nat) : Prop := ∀ i, c ≤ i → i < c + d → gpr n (f (2 * i)) (f (2 * i + 1))
theorem nI_p2 (c : Nat) : nI (2 * c) + 2 = nI (2 * (c + 1)) := by rw [show (2 : Int32) = nI 2 from rfl, nI_add]; rfl
theorem ac8_L {z : zk_Z} {s sz n C : Nat} (hn : n ≤ 10) (hsz : sz ≤ 40) (he : sz = 2 * C) (hz : z.1 13 s 1 = nI sz) : ∀ d m c, c + d = C → d < m → (gAll n (z.1 14 s) c d ∧ fX8_areClauses_L13 s m (nI n) (nI (2 * c)) z = some (1, z)) ∨ (¬ gAll n (z.1 14 s) c d ∧ fX8_areClauses_L13 s m (nI n) (nI (2 * c)) z = some (0, z)) := by
  intro d
  induction d with
  | zero =>
    intro m c h1 h2
    obtain ⟨m, rfl⟩ : ∃ j, m = j + 1 := ⟨m - 1, by omega⟩
    refine Or.inl ⟨fun i h3 h4 => by omega, ?_⟩
    rw [fX8_areClauses_L13, hz, nI_1, if_pos (by rw [nI_leI (by omega) (by omega)]; omega)]
  | succ d ih =>
    intro m c h1 h2
    obtain ⟨m, rfl⟩ : ∃ j, m = j + 1 := ⟨m - 1, by omega⟩
    have hg : gAll n (z.1 14 s) c (d + 1) ↔ gpr n (z.1 14 s (2 * c)) (z.1 14 s (2 * c + 1)) ∧ gAll n (z.1 14 s) (c + 1) d := by
      refine ⟨fun h => ⟨h c (Nat.le_refl _) (by omega), fun i h3 h4 => h i (by omega) (by omega)⟩, fun h i h3 h4 => ?_⟩
      by_cases e : i = c
      · rw [e]; exact h.1
      · exact h.2 i (by omega) (by omega)
    have e8 : fX8_areClauses_L13 s (m + 1) (nI n) (nI (2 * c)) z = zk_bd (fJ6_bitCount_0f7a4 (z.1 14 s (2 * c) ||| z.1 14 s (2 * c + 1)) z) (fun r2 z1 => zk_bd (fX8_isRow (z.1 14 s (2 * c)) (nI n) z1) (fun r4 z3 => if r4 = 0 then fX8_areClauses_B70 s (fX8_areClauses_L13 s m) (nI n) (nI (2 * c)) (z.1 14 s (2 * c)) (z.1 14 s (2 * c + 1)) r2 z3 else zk_bd (fX8_isRow (z.1 14 s (2 * c + 1)) (nI n) z3) (fun r6 z5 => if r6 = 0 then fX8_areClauses_B70 s (fX8_areClauses_L13 s m) (nI n) (nI (2 * c)) (z.1 14 s (2 * c)) (z.1 14 s (2 * c + 1)) r2 z5 else fX8_areClauses_B71 s (fX8_areClauses_L13 s m) (nI n) (nI (2 * c)) (z.1 14 s (2 * c)) (z.1 14 s (2 * c + 1)) r2 1 z5))) := by
      rw [fX8_areClauses_L13, hz, nI_1, if_neg (by rw [nI_leI (by omega) (by omega)]; omega), zx_nI (show 2 * c < 40 by omega) (by decide), zx_nI (show 2 * c + 1 < 40 by omega) (by decide), zg_t, zg_t, nI_clamp (show 2 * c < 2 ^ 31 by omega), nI_clamp (show 2 * c + 1 < 2 ^ 31 by omega)]
    rcases pair8 hn (z.1 14 s (2 * c)) (z.1 14 s (2 * c + 1)) s (fX8_areClauses_L13 s m) (nI (2 * c)) with ⟨g, q8, _⟩ | ⟨g, q8, _⟩
    · rw [e8, q8, nI_p2]
      rcases ih m (c + 1) (by omega) (by omega) with ⟨h3, h4⟩ | ⟨h3, h4⟩
      · exact Or.inl ⟨hg.mpr ⟨g, h3⟩, h4⟩
      · exact Or.inr ⟨fun h => h3 (hg.mp h).2, h4⟩
    · exact Or.inr ⟨fun h => g (hg.mp h).1, by rw [e8, q8]⟩
theorem ac9_L {z : zk_Z} {s sz n C : Nat} {b1 : Int32} (hs : s < 4) (hn : n ≤ 10) (hsz : sz ≤ 40) (he : sz = 2 * C) (hz : z.1 40 0 s = nI sz) {f : Nat → Int32} (hf : ∀ i, i < 40 → z.1 41 0 (40 * s + i) = f i) : ∀ d m c, c + d = C → d + 1 < m → (gAll n f c d → fX9_wild_L67 m b1 (nI n) (nI s) 1 (nI (2 * c)) z = fX9_wild_B178 b1 (nI n) (nI s) 1 z) ∧ (¬ gAll n f c d → fX9_wild_L67 m b1 (nI n) (nI s) 1 (nI (2 * c)) z = fX9_wild_B178 b1 (nI n) (nI s) 0 z) := by
  have ix : zk_ix (nI s) 4 = true := zx_nI hs (by decide)
  have cl : (nI s).toNatClampNeg = s := nI_clamp (by omega)
  intro d
  induction d with
  | zero =>
    intro m c h1 h2
    obtain ⟨m, rfl⟩ : ∃ j, m = j + 1 := ⟨m - 1, by omega⟩
    refine ⟨fun _ => ?_, fun h => absurd (fun i h3 h4 => by omega) h⟩
    rw [fX9_wild_L67, ix, zg_t, cl, hz, if_pos (by rw [nI_leI (by omega) (by omega)]; omega)]
  | succ d ih =>
    intro m c h1 h2
    obtain ⟨m, rfl⟩ : ∃ j, m = j + 1 := ⟨m - 1, by omega⟩
    have hg : gAll n f c (d + 1) ↔ gpr n (f (2 * c)) (f (2 * c + 1)) ∧ gAll n f (c + 1) d := by
      refine ⟨fun h => ⟨h c (Nat.le_refl _) (by omega), fun i h3 h4 => h i (by omega) (by omega)⟩, fun h i h3 h4 => ?_⟩
      by_cases e : i = c
      · rw [e]; exact h.1
      · exact h.2 i (by omega) (by omega)
    have e9 : fX9_wild_L67 (m + 1) b1 (nI n) (nI s) 1 (nI (2 * c)) z = fX9_wild_B113 (fX9_wild_L67 m) b1 (nI n) (nI s) (nI (2 * c)) (f (2 * c)) (f (2 * c + 1)) z := by
      rw [fX9_wild_L67, ix, zg_t, cl, hz, if_neg (by rw [nI_leI (by omega) (by omega)]; omega), if_neg r10, nI_40, nI_1, zx_nI (show 40 * s + 2 * c < 160 by omega) (by decide), zx_nI (show 40 * s + 2 * c + 1 < 160 by omega) (by decide), zg_t, zg_t, nI_clamp (show 40 * s + 2 * c < 2 ^ 31 by omega), nI_clamp (show 40 * s + 2 * c + 1 < 2 ^ 31 by omega), hf (2 * c) (by omega), Nat.add_assoc, hf (2 * c + 1) (by omega)]
    rcases pair8 hn (f (2 * c)) (f (2 * c + 1)) s (fun _ _ _ => none) 0 with ⟨g, _, q9⟩ | ⟨g, _, q9⟩
    · rw [e9, q9, nI_p2]
      have := ih m (c + 1) (by omega) (by omega)
      exact ⟨fun h => this.1 (hg.mp h).2, fun h => this.2 (fun h3 => h (hg.mpr ⟨g, h3⟩))⟩
    · refine ⟨fun h => absurd (hg.mp h).1 g, fun _ => ?_⟩
      obtain ⟨m, rfl⟩ : ∃ j, m = j + 1 := ⟨m - 1, by omega⟩
      rw [e9, q9, nI_p2, fX9_wild_L67, ix, zg_t, if_pos rfl]
      split <;> rfl
/-- the clauses laid down -/
theorem wl8_L {s sz C nt : Nat} (hsz : sz ≤ 40) (he : sz = 2 * C) (hnt : nt < 8) : ∀ d m c z, c + d = C → d < m → z.1 13 s 1 = nI sz → z.1 7 nt 2 = nI c → z.1 0 0 12 = nI nt → ∃ z', fX8_wild_L94 m s nt (nI (2 * c)) z = some (nI nt, z') ∧ z'.1 0 0 12 = nI (nt + 1) ∧ z'.1 7 nt 2 = nI C ∧ (∀ i, c ≤ i → i < C → z'.1 8 nt i = z.1 14 s (2 * i) ∧ z'.1 9 nt i = z.1 14 s (2 * i + 1)) ∧ ∀ g k i, ¬ (((g = 8 ∨ g = 9) ∧ k = nt ∧ c ≤ i) ∨ (g = 7 ∧ k = nt ∧ i = 2) ∨ (g = 0 ∧ i = 12)) → z'.1 g k i = z.1 g k i := by
  intro d
  induction d with
  | zero =>
    intro m c z h1 h2 h3 h4 h5
    obtain ⟨m, rfl⟩ : ∃ j, m = j + 1 := ⟨m - 1, by omega⟩
    refine ⟨zk_sI z 0 0 12 (nI (nt + 1)), ?_, ?_, ?_, fun i h6 h7 => by omega, fun g k i hg => ?_⟩
    · rw [fX8_wild_L94, h3, nI_1, if_pos (by rw [nI_leI (by omega) (by omega)]; omega), fX8_keepTask, h5, nI_1, zb_some, sI_at, if_pos ⟨rfl, rfl, rfl⟩, nI_sub1]
    · rw [sI_at, if_pos ⟨rfl, rfl, rfl⟩]
    · rw [sI_at, if_neg (by omega), h4, show c = C by omega]
    · rw [sI_at, if_neg (by omega)]
  | succ d ih =>
    intro m c z h1 h2 h3 h4 h5
    obtain ⟨m, rfl⟩ : ∃ j, m = j + 1 := ⟨m - 1, by omega⟩
    have ane : ∀ g k i, ¬ (((g = 8 ∨ g = 9) ∧ k = nt ∧ i = c) ∨ (g = 7 ∧ k = nt ∧ i = 2)) → (acZ z nt c (z.1 14 s (2 * c)) (z.1 14 s (2 * c + 1))).1 g k i = z.1 g k i := by
      intro g k i hg
      unfold acZ
      rw [sI_at, if_neg (by omega), sI_at, if_neg (by omega), sI_at, if_neg (by omega)]
    have a8 : (acZ z nt c (z.1 14 s (2 * c)) (z.1 14 s (2 * c + 1))).1 8 nt c = z.1 14 s (2 * c) := by
      unfold acZ
      rw [sI_at, if_neg (by omega), sI_at, if_neg (by omega), sI_at, if_pos ⟨rfl, rfl, rfl⟩]
    have a9 : (acZ z nt c (z.1 14 s (2 * c)) (z.1 14 s (2 * c + 1))).1 9 nt c = z.1 14 s (2 * c + 1) := by
      unfold acZ
      rw [sI_at, if_neg (by omega), sI_at, if_pos ⟨rfl, rfl, rfl⟩]
    have a7 : (acZ z nt c (z.1 14 s (2 * c)) (z.1 14 s (2 * c + 1))).1 7 nt 2 = nI (c + 1) := by
      unfold acZ
      rw [sI_at, if_pos ⟨rfl, rfl, rfl⟩]
    obtain ⟨z', w1, w2, w3, w4, w5⟩ := ih m (c + 1) (acZ z nt c (z.1 14 s (2 * c)) (z.1 14 s (2 * c + 1))) (by omega) (by omega) (by rw [ane 13 s 1 (by omega)]; exact h3) a7 (by rw [ane 0 0 12 (by omega)]; exact h5)
    refine ⟨z', ?_, w2, w3, fun i h6 h7 => ?_, fun g k i hg => ?_⟩
    · rw [fX8_wild_L94, h3, nI_1, if_neg (by rw [nI_leI (by omega) (by omega)]; omega), zx_nI (show 2 * c < 40 by omega) (by decide), zx_nI (show 2 * c + 1 < 40 by omega) (by decide), zg_t, zg_t, nI_clamp (show 2 * c < 2 ^ 31 by omega), nI_clamp (show 2 * c + 1 < 2 ^ 31 by omega), addC h4 (by omega), zb_some, nI_p2]
      exact w1
    · by_cases e : i = c
      · rw [e, w5 8 nt c (by omega), w5 9 nt c (by omega), a8, a9]; exact ⟨rfl, rfl⟩
      · have := w4 i (by omega) h7
        rw [this.1, this.2, ane 14 s (2 * i) (by omega), ane 14 s (2 * i + 1) (by omega)]; exact ⟨rfl, rfl⟩
    · rw [w5 g k i (by omega), ane g k i (by omega)]
theorem wl9_L {s C nt : Nat} (hs : s < 4) (hC : C ≤ 20) (hnt : nt < 8) : ∀ d m c z, c + d = C → d < m → z.1 20 0 8 = nI nt → z.1 29 0 nt = nI C → ∃ z', fX9_wild_L268 m (nI s) (nI c) z = some (nI nt, z') ∧ z'.1 20 0 8 = nI (nt + 1) ∧ (∀ i, c ≤ i → i < C → z'.1 33 0 (24 * nt + i) = z.1 41 0 (40 * s + 2 * i) ∧ z'.1 34 0 (24 * nt + i) = z.1 41 0 (40 * s + 2 * i + 1)) ∧ ∀ g k i, ¬ (((g = 33 ∨ g = 34) ∧ 24 * nt + c ≤ i ∧ i < 24 * nt + 24) ∨ (g = 20 ∧ i = 8)) → z'.1 g k i = z.1 g k i := by
  intro d
  induction d with
  | zero =>
    intro m c z h1 h2 h3 h4
    obtain ⟨m, rfl⟩ : ∃ j, m = j + 1 := ⟨m - 1, by omega⟩
    refine ⟨zk_sI z 20 0 8 (nI (nt + 1)), ?_, ?_, fun i h6 h7 => by omega, fun g k i hg => ?_⟩
    · rw [fX9_wild_L268, h3, zx_nI (by omega) (by decide), zg_t, nI_clamp (by omega), h4, if_pos (by rw [nI_leI (by omega) (by omega)]; omega), nI_1, sI_at, if_pos ⟨rfl, rfl, rfl⟩, nI_sub1]
    · rw [sI_at, if_pos ⟨rfl, rfl, rfl⟩]
    · rw [sI_at, if_neg (by omega)]
  | succ d ih =>
    intro m c z h1 h2 h3 h4
    obtain ⟨m, rfl⟩ : ∃ j, m = j + 1 := ⟨m - 1, by omega⟩
    obtain ⟨y, hy⟩ : ∃ y, y = zk_sI (zk_sI z 33 0 (24 * nt + c) (z.1 41 0 (40 * s + 2 * c))) 34 0 (24 * nt + c) (z.1 41 0 (40 * s + 2 * c + 1)) := ⟨_, rfl⟩
    have yne : ∀ g k i, ¬ ((g = 33 ∨ g = 34) ∧ i = 24 * nt + c) → y.1 g k i = z.1 g k i := fun g k i hg => by rw [hy, sI_at, if_neg (by omega), sI_at, if_neg (by omega)]
    have c1 : (zk_sI z 33 0 (24 * nt + c) (z.1 41 0 (40 * s + 2 * c))).1 20 0 8 = nI nt := by rw [sI_at, if_neg (by omega)]; exact h3
    have c2 : (zk_sI z 33 0 (24 * nt + c) (z.1 41 0 (40 * s + 2 * c))).1 41 0 (40 * s + 2 * c + 1) = z.1 41 0 (40 * s + 2 * c + 1) := by rw [sI_at, if_neg (by omega)]
    obtain ⟨z', w1, w2, w4, w5⟩ := ih m (c + 1) y (by omega) (by omega) (by rw [yne 20 0 8 (by omega)]; exact h3) (by rw [yne 29 0 nt (by omega)]; exact h4)
    refine ⟨z', ?_, w2, fun i h6 h7 => ?_, fun g k i hg => ?_⟩
    · rw [fX9_wild_L268, h3, zx_nI (show nt < 9 by omega) (by decide), zg_t, nI_clamp (show nt < 2 ^ 31 by omega), h4, if_neg (by rw [nI_leI (by omega) (by omega)]; omega), nI_2, nI_40, nI_24, nI_1, zx_nI (show 40 * s + 2 * c < 160 by omega) (by decide), zx_nI (show 24 * nt + c < 216 by omega) (by decide), zx_nI (show 40 * s + 2 * c + 1 < 160 by omega) (by decide), zg_t, zg_t, zg_t, nI_clamp (show 40 * s + 2 * c < 2 ^ 31 by omega), nI_clamp (show 24 * nt + c < 2 ^ 31 by omega), nI_clamp (show 40 * s + 2 * c + 1 < 2 ^ 31 by omega), c1, nI_24, zx_nI (show 24 * nt + c < 216 by omega) (by decide), zg_t, nI_clamp (show 24 * nt + c < 2 ^ 31 by omega), c2, ← hy, nI_1]
      exact w1
    · by_cases e : i = c
      · rw [e, w5 33 0 (24 * nt + c) (by omega), w5 34 0 (24 * nt + c) (by omega)]
        refine ⟨?_, ?_⟩
        · rw [hy, sI_at, if_neg (by omega), sI_at, if_pos ⟨rfl, rfl, rfl⟩]
        · rw [hy, sI_at, if_pos ⟨rfl, rfl, rfl⟩]
      · have := w4 i (by omega) h7
        rw [this.1, this.2, yne 41 0 (40 * s + 2 * i) (by omega), yne 41 0 (40 * s + 2 * i + 1) (by omega)]; exact ⟨rfl, rfl⟩
    · rw [w5 g k i (by omega), yne g k i (by omega)]
