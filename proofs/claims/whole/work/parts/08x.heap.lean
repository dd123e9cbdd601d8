/-! what may differ between two memories that say the same; heaps -/
def jk (g k i : Nat) : Prop := (15 ≤ g ∧ g ≤ 19) ∨ ((7 ≤ g ∧ g ≤ 9) ∧ k = 8) ∨ (g = 1 ∧ (i = 2 ∨ i = 3)) ∨ (g = 20 ∧ (i = 27 ∨ i = 30)) ∨ g = 42 ∨ g = 43 ∨ ((27 ≤ g ∧ g ≤ 32) ∧ i = 8) ∨ ((g = 33 ∨ g = 34) ∧ 192 ≤ i)
def fr (z z' : zk_Z) : Prop := ∀ g k i, ¬ jk g k i → z'.1 g k i = z.1 g k i
theorem fr_refl (z : zk_Z) : fr z z := fun _ _ _ _ => rfl
theorem fr_trans {z z' z'' : zk_Z} (h : fr z z') (h' : fr z' z'') : fr z z'' := fun g k i hg => (h' g k i hg).trans (h g k i hg)
theorem fr_sI {z : zk_Z} {g k i : Nat} (h : jk g k i) (v : Int32) : fr z (zk_sI z g k i v) := by
  intro g' k' i' hg
  rw [sI_at, if_neg]
  rintro ⟨rfl, rfl, rfl⟩
  exact hg h
theorem fr_fz (z : zk_Z) (f : Int32) (s : Nat) : fr z (fz z f s) := fr_trans (fr_sI (Or.inl (by omega)) _) (fr_sI (Or.inl (by omega)) _)
theorem fr_fm (z : zk_Z) (s : Nat) : fr z (fm z s) := fr_sI (by unfold jk; omega) _
theorem RC_fr {z z' : zk_Z} {k kd n C w : Nat} {W : Nat → Nat} (h : fr z z') (T : RC z k kd n C w W) : RC z' k kd n C w W := by
  refine ⟨⟨?_, ?_, ?_, ?_⟩, fun i hi => ?_⟩
  · rw [h 4 k 0 (by unfold jk; omega)]; exact T.1.1
  · rw [h 4 k 1 (by unfold jk; omega)]; exact T.1.2.1
  · rw [h 4 k 2 (by unfold jk; omega)]; exact T.1.2.2.1
  · rw [h 4 k 3 (by unfold jk; omega)]; exact T.1.2.2.2
  · rw [h 5 k i (by unfold jk; omega)]; exact T.2 i hi
theorem RM_fr {z z' : zk_Z} {k kd n C w : Nat} {W : Nat → Nat} (h : fr z z') (T : RM z k kd n C w W) : RM z' k kd n C w W := by
  refine ⟨⟨?_, ?_, ?_, ?_⟩, fun i hi => ?_⟩
  · rw [h 22 0 k (by unfold jk; omega)]; exact T.1.1
  · rw [h 23 0 k (by unfold jk; omega)]; exact T.1.2.1
  · rw [h 24 0 k (by unfold jk; omega)]; exact T.1.2.2.1
  · rw [h 25 0 k (by unfold jk; omega)]; exact T.1.2.2.2
  · rw [h 26 0 (4 * k + i) (by unfold jk; omega)]; exact T.2 i hi
theorem TC_fr {z z' : zk_Z} {k kd n C : Nat} {P A : Nat → Nat} (h : fr z z') (hk : k < 8) (T : TC z k kd n C P A) : TC z' k kd n C P A := by
  refine ⟨⟨?_, ?_, ?_⟩, fun i hi => ⟨?_, ?_⟩⟩
  · rw [h 7 k 0 (by unfold jk; omega)]; exact T.1.1
  · rw [h 7 k 1 (by unfold jk; omega)]; exact T.1.2.1
  · rw [h 7 k 2 (by unfold jk; omega)]; exact T.1.2.2
  · rw [h 8 k i (by unfold jk; omega)]; exact (T.2 i hi).1
  · rw [h 9 k i (by unfold jk; omega)]; exact (T.2 i hi).2
theorem TM_fr {z z' : zk_Z} {k kd n C : Nat} {P A : Nat → Nat} (h : fr z z') (hk : k < 8) (hC : C ≤ 24) (T : TM z k kd n C P A) : TM z' k kd n C P A := by
  refine ⟨⟨?_, ?_, ?_⟩, fun i hi => ⟨?_, ?_⟩⟩
  · rw [h 27 0 k (by unfold jk; omega)]; exact T.1.1
  · rw [h 28 0 k (by unfold jk; omega)]; exact T.1.2.1
  · rw [h 29 0 k (by unfold jk; omega)]; exact T.1.2.2
  · rw [h 33 0 (24 * k + i) (by unfold jk; omega)]; exact (T.2 i hi).1
  · rw [h 34 0 (24 * k + i) (by unfold jk; omega)]; exact (T.2 i hi).2
/-- what is found is a row -/
theorem clS_lt {kd n C : Nat} {P A : Nat → Nat} : ∀ d r s x, r < 2 ^ n → (clS kd n C P A d r s).1 = some x → x < 2 ^ n := by
  intro d
  induction d with
  | zero => intro r s x _ h; cases h
  | succ d ih =>
    intro r s x hr h
    rw [clS] at h
    split at h
    · cases h; exact hr
    · exact ih _ _ x (nx_lt hr) h
theorem seS_lt {kd n C : Nat} {P A : Nat → Nat} : ∀ d t r s x, t ≤ n → r < 2 ^ n → (seS kd n C P A d t r s).1 = some x → x < 2 ^ n := by
  intro d
  induction d with
  | zero => intro t r s x _ _ h; cases h
  | succ d ih =>
    intro t r s x ht hr h
    rw [seS] at h
    split at h
    · split at h
      · cases h; exact hr
      · exact ih _ _ _ x (by omega) hr h
    · split at h
      · cases h
      · rename_i h1
        exact ih _ _ _ x (by have := (bkS_le t r).1; omega) (bkS_or ht hr h1) h
theorem fiS_lt {kd n C x lim : Nat} {P A : Nat → Nat} {r : Nat} (h : (fiS kd n C P A x lim).1 = some r) : r < 2 ^ n := by
  have h0 := Nat.two_pow_pos n
  have hct : ctS C P A n 0 0 < 2 ^ n := ctS_lt n 0 0 (by omega) h0
  unfold fiS at h
  split at h
  · exact clS_lt _ _ _ _ hct h
  · split at h
    · exact clS_lt _ _ _ _ h0 h
    · split at h
      · exact clS_lt _ _ _ _ hct h
      · exact seS_lt _ _ _ _ _ (Nat.zero_le _) h0 h
/-- whether the made task counts -/
def hpm (wh H : Nat) (o : Option Nat) : Nat := match o with | none => 0 | some r => if wh = 0 then 1 else if r = H then 1 else 0
theorem hpm_n (wh H : Nat) : hpm wh H none = 0 := rfl
theorem hpm_s (wh H r : Nat) : hpm wh H (some r) = if wh = 0 then 1 else if r = H then 1 else 0 := rfl
def hp1 (kd n C w : Nat) (W : Nat → Nat) (fi lim wh sd : Nat) : Nat :=
  if wh = 2 then (if cn (fAns kd C (cl1 n w W (mkH n sd) (mkA n sd)) (cl2 n w W (mkH n sd) (mkA n sd)) 0 0) (2 ^ n) 0 = 1 then 1 else 0)
  else hpm wh (mkH n sd) (fiS kd n C (cl1 n w W (mkH n sd) (mkA n sd)) (cl2 n w W (mkH n sd) (mkA n sd)) fi lim).1
def hpS (kd n C w : Nat) (W : Nat → Nat) (fi lim wh sd : Nat) : Nat → Nat → Nat → Nat
  | 0, _, s => s
  | d + 1, i, s => hpS kd n C w W fi lim wh sd d (i + 1) (s + hp1 kd n C w W fi lim wh (sd + i))
theorem mkH_lt {n sd : Nat} (hn : n ≤ 10) (hs : sd < 100000) : mkH n sd < 2 ^ n := (hi_ok (n := n) n 0 0 (sd + 1) (by omega) (Nat.two_pow_pos n) (by omega)).1
theorem nI_m1_ne {r : Nat} (h : r < 2 ^ 31) : nI r ≠ -1 := fun q => by
  have := nI_inj (by omega) (by decide) (q.trans nI_m1.symm); omega
theorem nI_lt0 {r : Nat} (h : r < 2 ^ 31) : ¬ nI r < 0 := by rw [show (0 : Int32) = nI 0 from rfl, nI_ltI h (by decide)]; omega
theorem fo_n (f : Int32) : fo f none = f := rfl
theorem fo_s (f : Int32) (r : Nat) : fo f (some r) = nI r := rfl
theorem oi_n : oi none = -1 := rfl
theorem oi_s (r : Nat) : oi (some r) = nI r := rfl
theorem hp8_s {z : zk_Z} {k2 kd n C w sd fi lim wh N i acc m : Nat} {W : Nat → Nat} (T : RC z k2 kd n C w W) (O : ROK kd n C w W) (hA : 0 < alS W w (w + 1) 0 0) (hf : fi < 4) (hl : lim ≤ 2000) (hw : wh ≤ 2) (hs : sd + N ≤ 100000) (hi : i < N) : ∃ z', fX8_heap_L64 (m + 1) (nI sd) (nI N) (nI fi) (nI lim) (nI wh) k2 (nI acc) (nI i) z = fX8_heap_L64 m (nI sd) (nI N) (nI fi) (nI lim) (nI wh) k2 (nI (acc + hp1 kd n C w W fi lim wh (sd + i))) (nI (i + 1)) z' ∧ fr z z' := by
  have hn := p2_le O.1.2.2.1
  obtain ⟨z1, q1, q2, q3, q4, _⟩ := fill3 (k1 := 8) (k2 := k2) (sd := sd + i) T O hA (by omega)
  have K := tok_cl (C := C) (kd := kd) (H := mkH n (sd + i)) (a := mkA n (sd + i)) O hA
  have hH := mkH_lt (n := n) (sd := sd + i) O.1.2.2.1 (by omega)
  have f1 : fr z z1 := fun g k i hg => q4 g k i (by unfold jk at hg; omega)
  rw [fX8_heap_L64, if_neg (by rw [nI_leI (by omega) (by omega)]; omega), nI_add, q1, zb_some]
  unfold hp1
  by_cases h2 : wh = 2
  · subst h2
    rw [if_pos (show nI 2 = 2 from rfl), e7_count q2 K 0 0, zb_some, if_pos rfl]
    have hc := cn_le (fAns kd C (cl1 n w W (mkH n (sd + i)) (mkA n (sd + i))) (cl2 n w W (mkH n (sd + i)) (mkA n (sd + i))) 0 0) (2 ^ n) 0
    refine ⟨z1, ?_, f1⟩
    by_cases h1 : cn (fAns kd C (cl1 n w W (mkH n (sd + i)) (mkA n (sd + i))) (cl2 n w W (mkH n (sd + i)) (mkA n (sd + i))) 0 0) (2 ^ n) 0 = 1
    · rw [if_pos (by rw [h1]; rfl), if_pos h1, fX8_heap_B111, fX8_heap_B167, if_neg (by decide), fX8_heap_B175, nI_1, nI_1]
    · rw [if_neg (fun q => h1 (nI_inj (by omega) (by decide) (q.trans (show (1 : Int32) = nI 1 from rfl)))), if_neg h1, fX8_heap_B111, fX8_heap_B167, if_pos rfl, fX8_heap_B175, nI_1]; rfl
  · rw [if_neg (fun q => h2 (nI_inj (by omega) (by decide) (q.trans (show (2 : Int32) = nI 2 from rfl)))), seek7 q2 K hf (by omega), zb_some, if_neg h2]
    have f2 : fr z (fz z1 (fo (-1) (fiS kd n C (cl1 n w W (mkH n (sd + i)) (mkA n (sd + i))) (cl2 n w W (mkH n (sd + i)) (mkA n (sd + i))) fi lim).1) (fiS kd n C (cl1 n w W (mkH n (sd + i)) (mkA n (sd + i))) (cl2 n w W (mkH n (sd + i)) (mkA n (sd + i))) fi lim).2) := fr_trans f1 (fr_fz _ _ _)
    refine ⟨_, ?_, f2⟩
    have hh : (fz z1 (fo (-1) (fiS kd n C (cl1 n w W (mkH n (sd + i)) (mkA n (sd + i))) (cl2 n w W (mkH n (sd + i)) (mkA n (sd + i))) fi lim).1) (fiS kd n C (cl1 n w W (mkH n (sd + i)) (mkA n (sd + i))) (cl2 n w W (mkH n (sd + i)) (mkA n (sd + i))) fi lim).2).1 7 8 3 = nI (mkH n (sd + i)) := q3.1
    rw [fX1_foundHidden, fz_0, hh]
    cases hq : (fiS kd n C (cl1 n w W (mkH n (sd + i)) (mkA n (sd + i))) (cl2 n w W (mkH n (sd + i)) (mkA n (sd + i))) fi lim).1 with
    | none =>
      rw [fo_n, hpm_n]
      by_cases h0 : wh = 0
      · subst h0
        rw [if_pos (show nI 0 = 0 from rfl), if_pos (by decide), fX8_heap_B165, fX8_heap_B167, if_pos rfl, fX8_heap_B175, nI_1]; rfl
      · rw [if_neg (fun q => h0 (nI_inj (by omega) (by decide) (q.trans (show (0 : Int32) = nI 0 from rfl)))), if_pos (by decide), zb_some, fX8_heap_B165, fX8_heap_B167, if_pos rfl, fX8_heap_B175, nI_1]; rfl
    | some r =>
      have hr := fiS_lt hq
      rw [fo_s, hpm_s]
      by_cases h0 : wh = 0
      · subst h0
        rw [if_pos (show nI 0 = 0 from rfl), if_pos rfl, if_neg (nI_lt0 (by omega)), fX8_heap_B165, fX8_heap_B167, if_neg (by decide), fX8_heap_B175, nI_1, nI_1]
      · rw [if_neg (fun q => h0 (nI_inj (by omega) (by decide) (q.trans (show (0 : Int32) = nI 0 from rfl)))), if_neg h0, if_neg (nI_lt0 (r := r) (by omega))]
        by_cases h1 : r = mkH n (sd + i)
        · rw [if_pos (by rw [h1]), if_pos h1, zb_some, fX8_heap_B165, fX8_heap_B167, if_neg (by decide), fX8_heap_B175, nI_1, nI_1]
        · rw [if_neg (fun q => h1 (nI_inj (by omega) (by omega) q)), if_neg h1, zb_some, fX8_heap_B165, fX8_heap_B167, if_pos rfl, fX8_heap_B175, nI_1]; rfl
theorem hp8_L {k2 kd n C w sd fi lim wh N : Nat} {W : Nat → Nat} (O : ROK kd n C w W) (hA : 0 < alS W w (w + 1) 0 0) (hf : fi < 4) (hl : lim ≤ 2000) (hw : wh ≤ 2) (hs : sd + N ≤ 100000) : ∀ d m i acc z, RC z k2 kd n C w W → i + d = N → d < m → ∃ z', fX8_heap_L64 m (nI sd) (nI N) (nI fi) (nI lim) (nI wh) k2 (nI acc) (nI i) z = some (nI (hpS kd n C w W fi lim wh sd d i acc), z') ∧ fr z z' := by
  intro d
  induction d with
  | zero =>
    intro m i acc z T h1 h2
    obtain ⟨m, rfl⟩ : ∃ j, m = j + 1 := ⟨m - 1, by omega⟩
    exact ⟨z, by rw [fX8_heap_L64, if_pos (by rw [nI_leI (by omega) (by omega)]; omega)]; rfl, fr_refl z⟩
  | succ d ih =>
    intro m i acc z T h1 h2
    obtain ⟨m, rfl⟩ : ∃ j, m = j + 1 := ⟨m - 1, by omega⟩
    obtain ⟨z1, e1, f1⟩ := hp8_s (m := m) (acc := acc) T O hA hf hl hw hs (show i < N by omega)
    obtain ⟨z2, e2, f2⟩ := ih m (i + 1) (acc + hp1 kd n C w W fi lim wh (sd + i)) z1 (RC_fr f1 T) (by omega) (by omega)
    exact ⟨z2, e1.trans e2, fr_trans f1 f2⟩
theorem hp9_s {z : zk_Z} {k2 kd n C w sd fi lim wh N i acc m : Nat} {W : Nat → Nat} (T : RM z k2 kd n C w W) (O : ROK kd n C w W) (hk : k2 < 6) (hA : 0 < alS W w (w + 1) 0 0) (hf : fi < 4) (hl : lim ≤ 2000) (hw : wh ≤ 2) (hs : sd + N ≤ 100000) (hi : i < N) : ∃ z', fX9_heap_L60 (m + 1) (nI k2) (nI sd) (nI N) (nI fi) (nI lim) (nI wh) (nI acc) (nI i) z = fX9_heap_L60 m (nI k2) (nI sd) (nI N) (nI fi) (nI lim) (nI wh) (nI (acc + hp1 kd n C w W fi lim wh (sd + i))) (nI (i + 1)) z' ∧ fr z z' := by
  have hn := p2_le O.1.2.2.1
  obtain ⟨z1, q1, q2, q3, q4, _⟩ := makes9 (t := 8) (k2 := k2) (sd := sd + i) T O (by decide) hk hA (by omega)
  have K := tok_cl (C := C) (kd := kd) (H := mkH n (sd + i)) (a := mkA n (sd + i)) O hA
  have hH := mkH_lt (n := n) (sd := sd + i) O.1.2.2.1 (by omega)
  have f1 : fr z z1 := fun g k i hg => q4 g k i (by unfold jk at hg; omega)
  have e8 : (8 : Int32) = nI 8 := rfl
  rw [fX9_heap_L60, if_neg (by rw [nI_leI (by omega) (by omega)]; omega), nI_add, e8, q1, zb_some]
  unfold hp1
  by_cases h2 : wh = 2
  · subst h2
    rw [if_pos (show nI 2 = 2 from rfl), e9_count q2 K (by decide) 0 0, zb_some, if_pos rfl]
    have hc := cn_le (fAns kd C (cl1 n w W (mkH n (sd + i)) (mkA n (sd + i))) (cl2 n w W (mkH n (sd + i)) (mkA n (sd + i))) 0 0) (2 ^ n) 0
    refine ⟨z1, ?_, f1⟩
    by_cases h1 : cn (fAns kd C (cl1 n w W (mkH n (sd + i)) (mkA n (sd + i))) (cl2 n w W (mkH n (sd + i)) (mkA n (sd + i))) 0 0) (2 ^ n) 0 = 1
    · rw [if_pos (by rw [h1]; rfl), if_pos h1, fX9_heap_B102, fX9_heap_B153, nI_1, nI_1]
    · rw [if_neg (fun q => h1 (nI_inj (by omega) (by decide) (q.trans (show (1 : Int32) = nI 1 from rfl)))), if_neg h1, fX9_heap_B102, fX9_heap_B153, nI_1, Int32.add_zero]; rfl
  · rw [if_neg (fun q => h2 (nI_inj (by omega) (by decide) (q.trans (show (2 : Int32) = nI 2 from rfl)))), finds9 q2 K (by decide) hf (by omega), zb_some, if_neg h2]
    have f2 : fr z (fm z1 (fiS kd n C (cl1 n w W (mkH n (sd + i)) (mkA n (sd + i))) (cl2 n w W (mkH n (sd + i)) (mkA n (sd + i))) fi lim).2) := fr_trans f1 (fr_fm _ _)
    refine ⟨_, ?_, f2⟩
    have hh : (fm z1 (fiS kd n C (cl1 n w W (mkH n (sd + i)) (mkA n (sd + i))) (cl2 n w W (mkH n (sd + i)) (mkA n (sd + i))) fi lim).2).1 30 0 8 = nI (mkH n (sd + i)) := q3.1
    rw [zx_nI (show 8 < 9 by decide) (by decide), zg_t, nI_clamp (show 8 < 2 ^ 31 by decide), hh]
    cases hq : (fiS kd n C (cl1 n w W (mkH n (sd + i)) (mkA n (sd + i))) (cl2 n w W (mkH n (sd + i)) (mkA n (sd + i))) fi lim).1 with
    | none =>
      rw [oi_n, hpm_n, if_pos rfl, fX9_heap_B149, fX9_heap_B150, fX9_heap_B153, nI_1, Int32.add_zero]; rfl
    | some r =>
      have hr := fiS_lt hq
      rw [oi_s, hpm_s, if_neg (nI_m1_ne (by omega))]
      by_cases h0 : wh = 0
      · subst h0
        rw [if_pos (show nI 0 = 0 from rfl), if_pos rfl, fX9_heap_B145, fX9_heap_B150, fX9_heap_B153, nI_1, nI_1]
      · rw [if_neg (fun q => h0 (nI_inj (by omega) (by decide) (q.trans (show (0 : Int32) = nI 0 from rfl)))), if_neg h0]
        by_cases h1 : r = mkH n (sd + i)
        · rw [if_pos (by rw [h1]), if_pos h1, fX9_heap_B145, fX9_heap_B150, fX9_heap_B153, nI_1, nI_1]
        · rw [if_neg (fun q => h1 (nI_inj (by omega) (by omega) q)), if_neg h1, fX9_heap_B149, fX9_heap_B150, fX9_heap_B153, nI_1, Int32.add_zero]; rfl
theorem hp9_L {k2 kd n C w sd fi lim wh N : Nat} {W : Nat → Nat} (O : ROK kd n C w W) (hk : k2 < 6) (hA : 0 < alS W w (w + 1) 0 0) (hf : fi < 4) (hl : lim ≤ 2000) (hw : wh ≤ 2) (hs : sd + N ≤ 100000) : ∀ d m i acc z, RM z k2 kd n C w W → i + d = N → d < m → ∃ z', fX9_heap_L60 m (nI k2) (nI sd) (nI N) (nI fi) (nI lim) (nI wh) (nI acc) (nI i) z = some (nI (hpS kd n C w W fi lim wh sd d i acc), z') ∧ fr z z' := by
  intro d
  induction d with
  | zero =>
    intro m i acc z T h1 h2
    obtain ⟨m, rfl⟩ : ∃ j, m = j + 1 := ⟨m - 1, by omega⟩
    exact ⟨z, by rw [fX9_heap_L60, if_pos (by rw [nI_leI (by omega) (by omega)]; omega)]; rfl, fr_refl z⟩
  | succ d ih =>
    intro m i acc z T h1 h2
    obtain ⟨m, rfl⟩ : ∃ j, m = j + 1 := ⟨m - 1, by omega⟩
    obtain ⟨z1, e1, f1⟩ := hp9_s (m := m) (acc := acc) T O hk hA hf hl hw hs (show i < N by omega)
    obtain ⟨z2, e2, f2⟩ := ih m (i + 1) (acc + hp1 kd n C w W fi lim wh (sd + i)) z1 (RM_fr f1 T) (by omega) (by omega)
    exact ⟨z2, e1.trans e2, fr_trans f1 f2⟩
