/-! the weights of a recipe, read on both sides -/
def suR (W : Nat → Nat) : Nat → Nat → Nat
  | 0, _ => 0
  | d + 1, i => W i + suR W d (i + 1)
def hd8 (z : zk_Z) (k kd n C w : Nat) : Prop := z.1 4 k 0 = nI kd ∧ z.1 4 k 1 = nI n ∧ z.1 4 k 2 = nI C ∧ z.1 4 k 3 = nI w
def hd9 (z : zk_Z) (k kd n C w : Nat) : Prop := z.1 22 0 k = nI kd ∧ z.1 23 0 k = nI n ∧ z.1 24 0 k = nI C ∧ z.1 25 0 k = nI w
theorem wt_L {k kd n C w tp : Nat} {B : Nat → Nat} (hk : k < 6) (hkd : kd < 6) (hw1 : 1 ≤ w) (hw : w ≤ 3) (ht : tp ≤ 80) : ∀ d m m' i p s (W : Nat → Nat), i + d = w + 1 → p ≤ tp → (∀ j, j < i → W j ≤ 99) → s + 99 * d ≤ 1000 → d < m → d < m' →
    (∃ (W' : Nat → Nat) (p' : Nat), p' ≤ tp ∧ (∀ j, j < i → W' j = W j) ∧ (∀ j, j ≤ w → W' j ≤ 99) ∧
      (∀ z : zk_Z, TP8 z tp B → hd8 z k kd n C w → (∀ j, j < i → z.1 5 k j = nI (W j)) → ∃ z', fX6_readInto_L81 k m (nI i) (tz z (nI p) (-1)) = fX6_readInto_B138 k (tz z' (nI p') (-1)) ∧ (∀ j, j ≤ w → z'.1 5 k j = nI (W' j)) ∧ ∀ g q j, ¬ (g = 5 ∧ q = k) → z'.1 g q j = z.1 g q j) ∧
      ∀ b : zk_Z, TP9 b tp B → hd9 b k kd n C w → (∀ j, j < i → b.1 26 0 (4 * k + j) = nI (W j)) → ∃ b', fX9_reads_L150 m' (nI k) (nI s) (nI i) (az b p) = some (if p' = tp ∧ 0 < s + suR W' d i then 1 else 0, az b' p') ∧ (∀ j, j ≤ w → b'.1 26 0 (4 * k + j) = nI (W' j)) ∧ ∀ g q j, ¬ (g = 26 ∧ 4 * k ≤ j ∧ j < 4 * k + 4) → b'.1 g q j = b.1 g q j) ∨
    ∃ f, f ≤ tp ∧ (∀ z : zk_Z, TP8 z tp B → hd8 z k kd n C w → ∃ z' pl, fX6_readInto_L81 k m (nI i) (tz z (nI p) (-1)) = some (nI f, tz z' pl (nI f)) ∧ ∀ g q j, ¬ (g = 5 ∧ q = k) → z'.1 g q j = z.1 g q j) ∧
      ∀ b : zk_Z, TP9 b tp B → hd9 b k kd n C w → ∃ b', fX9_reads_L150 m' (nI k) (nI s) (nI i) (az b p) = some (0, az b' f) ∧ ∀ g q j, ¬ (g = 26 ∧ 4 * k ≤ j ∧ j < 4 * k + 4) → b'.1 g q j = b.1 g q j := by
  have ik : zk_ix (nI k) 6 = true := zx_nI hk (by decide)
  have ck : (nI k).toNatClampNeg = k := nI_clamp (by omega)
  intro d
  induction d with
  | zero =>
    intro m m' i p s W h1 hp hW hs h2 h3
    obtain ⟨m, rfl⟩ : ∃ j, m = j + 1 := ⟨m - 1, by omega⟩
    obtain ⟨m', rfl⟩ : ∃ j, m' = j + 1 := ⟨m' - 1, by omega⟩
    have hi : i = w + 1 := by omega
    refine Or.inl ⟨W, p, hp, fun _ _ => rfl, fun j hj => hW j (by omega), fun z T H hz => ⟨z, ?_, fun j hj => hz j (by omega), fun _ _ _ _ => rfl⟩, fun b T H hb => ⟨b, ?_, fun j hj => hb j (by omega), fun _ _ _ _ => rfl⟩⟩
    · have e3 : (tz z (nI p) (-1)).1 4 k 3 = nI w := H.2.2.2
      rw [fX6_readInto_L81, e3, if_pos (by rw [nI_ltI (by omega) (by omega)]; omega)]
    · have e3 : (az b p).1 25 0 k = nI w := H.2.2.2
      have e1 : (az b p).1 20 0 1 = nI tp := T.1
      rw [fX9_reads_L150, ik, zg_t, ck, e3, if_pos (by rw [nI_ltI (by omega) (by omega)]; omega), az_p, e1]
      by_cases c : p = tp
      · rw [if_pos (by rw [c])]
        by_cases c2 : 0 < s
        · rw [if_neg (by rw [show (0 : Int32) = nI 0 from rfl, nI_leI (by omega) (by decide)]; omega), if_pos ⟨c, by show 0 < s + 0; omega⟩]
        · rw [if_pos (by rw [show (0 : Int32) = nI 0 from rfl, nI_leI (by omega) (by decide)]; omega), if_neg (fun q => c2 (by have : 0 < s + 0 := q.2; omega))]
      · rw [if_neg (ne_nI (by omega) (by omega) c), if_neg (fun q => c q.1)]
  | succ d ih =>
    intro m m' i p s W h1 hp hW hs h2 h3
    obtain ⟨m, rfl⟩ : ∃ j, m = j + 1 := ⟨m - 1, by omega⟩
    obtain ⟨m', rfl⟩ : ∃ j, m' = j + 1 := ⟨m' - 1, by omega⟩
    obtain ⟨hi, hhi⟩ : ∃ x : Nat, x = if hvI (nI kd) (nI i) (nI w) = 0 then 0 else 99 := ⟨_, rfl⟩
    have hhb : hi ≤ 99 := by rw [hhi]; split <;> omega
    have e8 : ∀ Z : zk_Z, Z.1 4 k 3 = nI w → Z.1 1 0 3 = -1 → fX6_readInto_L81 k (m + 1) (nI i) Z = zk_bd (fX6_gap Z) (fun _ z17 => zk_bd (fX2_holds (z17.1 4 k 0) (nI i) (z17.1 4 k 3) z17) (fun r20 z19 => if r20 = 0 then fX6_readInto_B128 k (fX6_readInto_L81 k m) (nI i) 0 0 (nI i) z19 else fX6_readInto_B128 k (fX6_readInto_L81 k m) (nI i) 99 0 (nI i) z19)) := by
      intro Z hz hf
      rw [fX6_readInto_L81, hz, if_neg (by rw [nI_ltI (by omega) (by omega)]; omega), hf, if_neg (by decide)]
    have b8 : ∀ Z : zk_Z, Z.1 4 k 0 = nI kd → Z.1 4 k 3 = nI w → zk_bd (fX2_holds (Z.1 4 k 0) (nI i) (Z.1 4 k 3) Z) (fun r20 z19 => if r20 = 0 then fX6_readInto_B128 k (fX6_readInto_L81 k m) (nI i) 0 0 (nI i) z19 else fX6_readInto_B128 k (fX6_readInto_L81 k m) (nI i) 99 0 (nI i) z19) = zk_bd (fX6_number (nI 0) (nI hi) Z) (fun r22 z21 => fX6_readInto_L81 k m (nI (i + 1)) (zk_sI z21 5 k i r22)) := by
      intro Z h0 h3
      have ex : ∀ y : Int32, fX6_readInto_B128 k (fX6_readInto_L81 k m) (nI i) y 0 (nI i) Z = zk_bd (fX6_number 0 y Z) (fun r22 z21 => fX6_readInto_L81 k m (nI (i + 1)) (zk_sI z21 5 k i r22)) := by
        intro y
        rw [fX6_readInto_B128, zx_nI (show i < 4 by omega) (by decide), nI_clamp (by omega), nI_1]; rfl
      rw [e2_holds, zb_some, h0, h3, ex, ex, hhi]
      split
      · rfl
      · rfl
    have e9 : ∀ Z : zk_Z, Z.1 25 0 k = nI w → fX9_reads_L150 (m' + 1) (nI k) (nI s) (nI i) Z = zk_bd (fX9_blanks Z) (fun r16 z15 => if r16 = 0 then some (0, z15) else zk_bd (fX9_holds (z15.1 22 0 k) (nI i) (z15.1 25 0 k) z15) (fun r18 z17 => if r18 = 0 then fX9_reads_B196 (fX9_reads_L150 m') (nI k) (nI s) (nI i) 0 0 z17 else fX9_reads_B196 (fX9_reads_L150 m') (nI k) (nI s) (nI i) 99 0 z17)) := by
      intro Z hz
      rw [fX9_reads_L150, ik, zg_t, ck, hz, if_neg (by rw [nI_ltI (by omega) (by omega)]; omega)]; rfl
    have b9 : ∀ Z : zk_Z, Z.1 22 0 k = nI kd → Z.1 25 0 k = nI w → zk_bd (fX9_holds (Z.1 22 0 k) (nI i) (Z.1 25 0 k) Z) (fun r18 z17 => if r18 = 0 then fX9_reads_B196 (fX9_reads_L150 m') (nI k) (nI s) (nI i) 0 0 z17 else fX9_reads_B196 (fX9_reads_L150 m') (nI k) (nI s) (nI i) 99 0 z17) = zk_bd (fX9_number (nI 0) (nI hi) Z) (fun r20 z19 => if r20 = -1 then some (0, z19) else fX9_reads_L150 m' (nI k) (nI s + r20) (nI (i + 1)) (zk_sI z19 26 0 (4 * k + i) r20)) := by
      intro Z h0 h3
      have ex : ∀ y : Int32, fX9_reads_B196 (fX9_reads_L150 m') (nI k) (nI s) (nI i) y 0 Z = zk_bd (fX9_number 0 y Z) (fun r20 z19 => if r20 = -1 then some (0, z19) else fX9_reads_L150 m' (nI k) (nI s + r20) (nI (i + 1)) (zk_sI z19 26 0 (4 * k + i) r20)) := by
        intro y
        rw [fX9_reads_B196, nI_4, zx_nI (show 4 * k + i < 24 by omega) (by decide), nI_clamp (by omega), nI_1]; rfl
      rw [e9_holds, zb_some, h0, h3, hv_fin kd hkd i (by omega) w (by omega) hw1, ex, ex, hhi]
      split
      · rfl
      · rfl
    obtain ⟨m0, hm0⟩ : ∃ j, m = j + 1 := ⟨m - 1, by omega⟩
    rcases gap_b (B := B) ht hp with ⟨p1, q1, q2, g8, g9⟩ | ⟨g8, g9⟩
    rotate_left
    · refine Or.inr ⟨p, hp, fun z T H => ⟨zk_sI z 5 k i 0, nI p, ?_, fun g q j hg => ?_⟩, fun b T H => ⟨b, ?_, fun _ _ _ _ => rfl⟩⟩
      · have n0 := number_f (z := tz z (nI p) (nI p)) (lo := nI 0) (hi := nI hi) (tz_f _ _ _) (show p ≤ 100 by omega)
        rw [e8 (tz z (nI p) (-1)) H.2.2.2 (tz_f _ _ _), g8 z T, zb_some, b8 (tz z (nI p) (nI p)) H.1 H.2.2.2, n0, zb_some, tz_sI (by decide), hm0, l81_f (tz_f _ _ _) (by omega)]
      · rw [sI_at, if_neg (by omega)]
      · rw [e9 (az b p) H.2.2.2, g9 b T, zb_some, if_pos rfl]
    rcases num_b (B := B) (lo := 0) (hi := hi) ht q2 (by omega) (by decide) with ⟨v, p2, r1, r2, _, r3, r4, n8, n9⟩ | ⟨n8, n9⟩
    rotate_left
    · refine Or.inr ⟨p1, q2, fun z T H => ?_, fun b T H => ⟨b, ?_, fun _ _ _ _ => rfl⟩⟩
      · obtain ⟨pl, n8'⟩ := n8 z T
        refine ⟨zk_sI z 5 k i 0, pl, ?_, fun g q j hg => ?_⟩
        · rw [e8 (tz z (nI p) (-1)) H.2.2.2 (tz_f _ _ _), g8 z T, zb_some, b8 (tz z (nI p1) (-1)) H.1 H.2.2.2, n8', zb_some, tz_sI (by decide), hm0, l81_f (tz_f _ _ _) (by omega)]
        · rw [sI_at, if_neg (by omega)]
      · rw [e9 (az b p) H.2.2.2, g9 b T, zb_some, if_neg r10, b9 (az b p1) H.1 H.2.2.2, n9 b T, zb_some, if_pos rfl]
    have step8 : ∀ z : zk_Z, TP8 z tp B → hd8 z k kd n C w → fX6_readInto_L81 k (m + 1) (nI i) (tz z (nI p) (-1)) = fX6_readInto_L81 k m (nI (i + 1)) (tz (zk_sI z 5 k i (nI v)) (nI p2) (-1)) := by
      intro z T H
      rw [e8 (tz z (nI p) (-1)) H.2.2.2 (tz_f _ _ _), g8 z T, zb_some, b8 (tz z (nI p1) (-1)) H.1 H.2.2.2, n8 z T, zb_some, tz_sI (by decide)]
    have step9 : ∀ b : zk_Z, TP9 b tp B → hd9 b k kd n C w → fX9_reads_L150 (m' + 1) (nI k) (nI s) (nI i) (az b p) = fX9_reads_L150 m' (nI k) (nI (s + v)) (nI (i + 1)) (az (zk_sI b 26 0 (4 * k + i) (nI v)) p2) := by
      intro b T H
      rw [e9 (az b p) H.2.2.2, g9 b T, zb_some, if_neg r10, b9 (az b p1) H.1 H.2.2.2, n9 b T, zb_some, if_neg (nI_m1_ne (by omega)), nI_add, az_sI (by decide)]
    rcases ih m m' (i + 1) p2 (s + v) (fun j => if j = i then v else W j) (by omega) r2 (fun j hj => by
      by_cases e : j = i
      · rw [if_pos e]; omega
      · rw [if_neg e]; exact hW j (by omega)) (by omega) (by omega) (by omega) with ⟨W', p', x1, x2, x3, x4, x5⟩ | ⟨f, x1, x4, x5⟩
    · have hWi : W' i = v := by have := x2 i (by omega); rw [if_pos rfl] at this; exact this
      refine Or.inl ⟨W', p', x1, fun j hj => ?_, x3, fun z T H hz => ?_, fun b T H hb => ?_⟩
      · have := x2 j (by omega); rw [if_neg (by omega)] at this; exact this
      · obtain ⟨z', y1, y2, y3⟩ := x4 (zk_sI z 5 k i (nI v)) T H (fun j hj => by
          by_cases e : j = i
          · rw [e, sI_at, if_pos ⟨rfl, rfl, rfl⟩, if_pos rfl]
          · rw [sI_at, if_neg (by omega), if_neg e]; exact hz j (by omega))
        exact ⟨z', (step8 z T H).trans y1, y2, fun g q j hg => by rw [y3 g q j hg, sI_at, if_neg (by omega)]⟩
      · obtain ⟨b', y1, y2, y3⟩ := x5 (zk_sI b 26 0 (4 * k + i) (nI v)) T H (fun j hj => by
          by_cases e : j = i
          · rw [e, sI_at, if_pos ⟨rfl, rfl, rfl⟩, if_pos rfl]
          · rw [sI_at, if_neg (by omega), if_neg e]; exact hb j (by omega))
        refine ⟨b', (step9 b T H).trans ?_, y2, fun g q j hg => by rw [y3 g q j hg, sI_at, if_neg (by omega)]⟩
        rw [y1, suR, hWi, Nat.add_assoc]
    · refine Or.inr ⟨f, x1, fun z T H => ?_, fun b T H => ?_⟩
      · obtain ⟨z', pl, y1, y3⟩ := x4 (zk_sI z 5 k i (nI v)) T H
        exact ⟨z', pl, (step8 z T H).trans y1, fun g q j hg => by rw [y3 g q j hg, sI_at, if_neg (by omega)]⟩
      · obtain ⟨b', y1, y3⟩ := x5 (zk_sI b 26 0 (4 * k + i) (nI v)) T H
        exact ⟨b', (step9 b T H).trans y1, fun g q j hg => by rw [y3 g q j hg, sI_at, if_neg (by omega)]⟩
/-- no way at all, by ways or by weights: the same -/
theorem al0 {W : Nat → Nat} {w : Nat} (hw1 : 1 ≤ w) (hw : w ≤ 3) : ∀ d i s, i + d = w + 1 → (alS W w d i s = 0 ↔ s + suR W d i = 0) := by
  intro d
  induction d with
  | zero => intro i s _; rw [alS, suR]; exact Iff.rfl
  | succ d ih =>
    intro i s h
    rw [alS, ih (i + 1) _ (by omega), suR]
    have h2 := (wy_le (i := i) hw hw1).1
    constructor
    · intro q
      have q1 : W i * wy w i = 0 := by omega
      have q2 : W i = 0 := by
        rcases Nat.mul_eq_zero.mp q1 with q3 | q3
        · exact q3
        · omega
      omega
    · intro q
      have q2 : W i = 0 := by omega
      rw [q2, Nat.zero_mul]; omega
