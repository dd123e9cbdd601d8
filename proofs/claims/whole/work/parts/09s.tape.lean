/-! reading from the tape, on both sides -/
def TP8 (z : zk_Z) (tp : Nat) (B : Nat → Nat) : Prop := z.1 1 0 1 = nI tp ∧ ∀ i, i < tp → z.1 2 0 i = nI (B i)
def TP9 (z : zk_Z) (tp : Nat) (B : Nat → Nat) : Prop := z.1 20 0 1 = nI tp ∧ ∀ i, i < tp → z.1 21 0 i = nI (B i)
def tz (z : zk_Z) (p f : Int32) : zk_Z := zk_sI (zk_sI z 1 0 2 p) 1 0 3 f
def az (z : zk_Z) (p : Nat) : zk_Z := zk_sI z 20 0 27 (nI p)
theorem tz_p (z : zk_Z) (p f : Int32) : (tz z p f).1 1 0 2 = p := by unfold tz; rw [sI_at]; rfl
theorem tz_f (z : zk_Z) (p f : Int32) : (tz z p f).1 1 0 3 = f := by unfold tz; rw [sI_at]; rfl
theorem tz_ne {z : zk_Z} {p f : Int32} {g k i : Nat} (h : ¬ (g = 1 ∧ (i = 2 ∨ i = 3))) : (tz z p f).1 g k i = z.1 g k i := by
  unfold tz
  rw [sI_at, if_neg (by omega), sI_at, if_neg (by omega)]
theorem az_p (z : zk_Z) (p : Nat) : (az z p).1 20 0 27 = nI p := by unfold az; rw [sI_at]; rfl
theorem az_ne {z : zk_Z} {p : Nat} {g k i : Nat} (h : ¬ (g = 20 ∧ i = 27)) : (az z p).1 g k i = z.1 g k i := by
  unfold az
  rw [sI_at, if_neg (by omega)]
theorem sI_comm {z : zk_Z} {g k i g' k' i' : Nat} {v v' : Int32} (h : ¬ (g = g' ∧ k = k' ∧ i = i')) : zk_sI (zk_sI z g k i v) g' k' i' v' = zk_sI (zk_sI z g' k' i' v') g k i v := by
  refine zk_eq (fun a b c => ?_) rfl
  rw [sI_at, sI_at, sI_at, sI_at]
  by_cases h1 : a = g' ∧ b = k' ∧ c = i'
  · rw [if_pos h1]
    rw [if_neg (by omega), if_pos h1]
  · rw [if_neg h1]
    by_cases h2 : a = g ∧ b = k ∧ c = i
    · rw [if_pos h2, if_pos h2]
    · rw [if_neg h2, if_neg h2, if_neg h1]
theorem tz_sI {z : zk_Z} {p f v : Int32} {g k i : Nat} (h : g ≠ 1) : zk_sI (tz z p f) g k i v = tz (zk_sI z g k i v) p f := by
  unfold tz
  rw [sI_comm (by omega), sI_comm (z := z) (by omega)]
theorem az_sI {z : zk_Z} {p : Nat} {v : Int32} {g k i : Nat} (h : g ≠ 20) : zk_sI (az z p) g k i v = az (zk_sI z g k i v) p := by
  unfold az
  rw [sI_comm (by omega)]
theorem tz_p' (z : zk_Z) (p f q : Int32) : zk_sI (tz z p f) 1 0 2 q = tz z q f := by
  unfold tz
  rw [sI_comm (by omega), sI_sI]
theorem tz_f' (z : zk_Z) (p f q : Int32) : zk_sI (tz z p f) 1 0 3 q = tz z p q := by
  unfold tz
  rw [sI_sI]
theorem az_p' (z : zk_Z) (p q : Nat) : zk_sI (az z p) 20 0 27 (nI q) = az z q := by
  unfold az
  rw [sI_sI]
def hr (B : Nat → Nat) (tp p : Nat) : Int32 := if p < tp then nI (B p) else -1
theorem bh8 {z : zk_Z} {tp p : Nat} {B : Nat → Nat} {f : Int32} (T : TP8 z tp B) (ht : tp ≤ 80) (hp : p ≤ tp) : fX6_byteHere (tz z (nI p) f) = some (hr B tp p, tz z (nI p) f) := by
  have e1 : (tz z (nI p) f).1 1 0 1 = nI tp := T.1
  rw [fX6_byteHere, tz_p, e1, if_neg (nI_lt0 (by omega))]
  unfold hr
  by_cases h : p < tp
  · have e2 : (tz z (nI p) f).1 2 0 p = nI (B p) := T.2 p h
    rw [if_neg (by rw [nI_leI (by omega) (by omega)]; omega), if_neg (by rw [show (80 : Int32) = nI 80 from rfl, nI_leI (by decide) (by omega)]; omega), zx_nI (by omega) (by decide), zg_t, nI_clamp (by omega), e2, if_pos h]
  · rw [if_pos (by rw [nI_leI (by omega) (by omega)]; omega), if_neg h]
theorem bh9 {z : zk_Z} {tp p : Nat} {B : Nat → Nat} (T : TP9 z tp B) (ht : tp ≤ 80) (hp : p ≤ tp) : fX9_here (az z p) = some (hr B tp p, az z p) := by
  have e1 : (az z p).1 20 0 1 = nI tp := T.1
  rw [fX9_here, az_p, e1]
  unfold hr
  by_cases h : p < tp
  · have e2 : (az z p).1 21 0 p = nI (B p) := T.2 p h
    rw [if_neg (by rw [nI_leI (by omega) (by omega)]; omega), zx_nI (by omega) (by decide), zg_t, nI_clamp (by omega), e2, if_pos h]
  · rw [if_pos (by rw [nI_leI (by omega) (by omega)]; omega), if_neg h]
/-- blanks -/
theorem gl_L {tp : Nat} {B : Nat → Nat} (ht : tp ≤ 80) : ∀ d m m' a p, p + d = tp → d < m → d < m' → a + d ≤ 80 → ∃ p', p ≤ p' ∧ p' ≤ tp ∧ (∀ (z : zk_Z) (f : Int32), TP8 z tp B → fX6_gap_L27 m (nI a) (tz z (nI p) f) = some ((), tz z (nI p') f)) ∧ ∀ z : zk_Z, TP9 z tp B → fX9_blanks_L11 m' (az z p) = some (1, az z p') := by
  intro d
  induction d with
  | zero =>
    intro m m' a p h1 h2 h3 h4
    obtain ⟨m, rfl⟩ : ∃ j, m = j + 1 := ⟨m - 1, by omega⟩
    obtain ⟨m', rfl⟩ : ∃ j, m' = j + 1 := ⟨m' - 1, by omega⟩
    have e : hr B tp p = -1 := if_neg (by omega)
    refine ⟨p, Nat.le_refl _, by omega, fun z f T => ?_, fun z T => ?_⟩
    · rw [fX6_gap_L27, bh8 T ht (by omega), e, zb_some, if_neg (show ¬ ((-1 : Int32) = 32) by decide)]
      split <;> rfl
    · rw [fX9_blanks_L11, bh9 T ht (by omega), e, zb_some, if_neg (show ¬ ((-1 : Int32) = 32) by decide)]
  | succ d ih =>
    intro m m' a p h1 h2 h3 h4
    obtain ⟨m, rfl⟩ : ∃ j, m = j + 1 := ⟨m - 1, by omega⟩
    obtain ⟨m', rfl⟩ : ∃ j, m' = j + 1 := ⟨m' - 1, by omega⟩
    have ha : ¬ (80 : Int32) ≤ nI a := by rw [show (80 : Int32) = nI 80 from rfl, nI_leI (by decide) (by omega)]; omega
    by_cases e : hr B tp p = 32
    · obtain ⟨p', q1, q2, q3, q4⟩ := ih m m' (a + 1) (p + 1) (by omega) (by omega) (by omega) (by omega)
      refine ⟨p', by omega, q2, fun z f T => ?_, fun z T => ?_⟩
      · rw [fX6_gap_L27, if_neg ha, bh8 T ht (by omega), zb_some, if_pos e, tz_p, nI_1, nI_1, tz_p']
        exact q3 z f T
      · rw [fX9_blanks_L11, bh9 T ht (by omega), zb_some, if_pos e, az_p, nI_1, az_p']
        exact q4 z T
    · refine ⟨p, Nat.le_refl _, by omega, fun z f T => ?_, fun z T => ?_⟩
      · rw [fX6_gap_L27, if_neg ha, bh8 T ht (by omega), zb_some, if_neg e]
      · rw [fX9_blanks_L11, bh9 T ht (by omega), zb_some, if_neg e]
theorem gap_b {tp p : Nat} {B : Nat → Nat} (ht : tp ≤ 80) (hp : p ≤ tp) : (∃ p', p ≤ p' ∧ p' ≤ tp ∧ (∀ z : zk_Z, TP8 z tp B → fX6_gap (tz z (nI p) (-1)) = some ((), tz z (nI p') (-1))) ∧ ∀ z : zk_Z, TP9 z tp B → fX9_blanks (az z p) = some (1, az z p')) ∨ ((∀ z : zk_Z, TP8 z tp B → fX6_gap (tz z (nI p) (-1)) = some ((), tz z (nI p) (nI p))) ∧ ∀ z : zk_Z, TP9 z tp B → fX9_blanks (az z p) = some (0, az z p)) := by
  by_cases e : hr B tp p = 32
  · obtain ⟨p', q1, q2, q3, q4⟩ := gl_L (B := B) ht (tp - p) zk_FU zk_FU 0 p (by omega) (by show tp - p < 6000; omega) (by show tp - p < 6000; omega) (by omega)
    refine Or.inl ⟨p', q1, q2, fun z T => ?_, fun z T => ?_⟩
    · rw [fX6_gap, tz_f, if_pos (by decide), bh8 T ht hp, zb_some, if_pos e, fX6_gap_B25]
      exact q3 z (-1) T
    · rw [fX9_blanks, bh9 T ht hp, zb_some, if_pos e]
      exact q4 z T
  · refine Or.inr ⟨fun z T => ?_, fun z T => ?_⟩
    · rw [fX6_gap, tz_f, if_pos (by decide), bh8 T ht hp, zb_some, if_neg e, tz_p, tz_f', fX6_gap_B25, show zk_FU = 5999 + 1 from rfl, fX6_gap_L27, if_neg (by decide), bh8 T ht hp, zb_some, if_neg e]
    · rw [fX9_blanks, bh9 T ht hp, zb_some, if_neg e]
/-- digits: at most two -/
theorem nu_L {tp : Nat} {B : Nat → Nat} (ht : tp ≤ 80) (lo hi : Int32) (st : Nat) : ∀ d m m' v p, p ≤ tp → d ≤ 2 → v < 10 ^ (2 - d) → d < m → d < m' → ∃ v' p' c', p ≤ p' ∧ p' ≤ tp ∧ v' < 100 ∧ c' ≤ 2 ∧ (c' = 2 - d + (p' - p)) ∧ (∀ (z : zk_Z) (f : Int32), TP8 z tp B → fX6_number_L20 m lo hi (nI st) (nI v) (nI (2 - d)) (tz z (nI p) f) = fX6_number_B75 lo hi (nI st) (nI v') (tz z (nI p') f)) ∧ ∀ z : zk_Z, TP9 z tp B → fX9_number_L11 m' lo hi (nI st) (nI v) (nI (2 - d)) (az z p) = fX9_number_B62 lo hi (nI st) (nI v') (nI c') (az z p') := by
  intro d
  induction d with
  | zero =>
    intro m m' v p hp _ hv h2 h3
    obtain ⟨m, rfl⟩ : ∃ j, m = j + 1 := ⟨m - 1, by omega⟩
    obtain ⟨m', rfl⟩ : ∃ j, m' = j + 1 := ⟨m' - 1, by omega⟩
    refine ⟨v, p, 2, Nat.le_refl _, hp, by omega, by omega, by omega, fun z f T => ?_, fun z T => ?_⟩
    · rw [fX6_number_L20, if_pos (by decide)]
    · rw [fX9_number_L11, if_pos (by decide)]
  | succ d ih =>
    intro m m' v p hp hd hv h2 h3
    obtain ⟨m, rfl⟩ : ∃ j, m = j + 1 := ⟨m - 1, by omega⟩
    obtain ⟨m', rfl⟩ : ∃ j, m' = j + 1 := ⟨m' - 1, by omega⟩
    have hc : ¬ (2 : Int32) ≤ nI (2 - (d + 1)) := by rw [show (2 : Int32) = nI 2 from rfl, nI_leI (by decide) (by omega)]; omega
    have stop : (hr B tp p < 48 ∨ 57 < hr B tp p) → ∃ v' p' c', p ≤ p' ∧ p' ≤ tp ∧ v' < 100 ∧ c' ≤ 2 ∧ (c' = 2 - (d + 1) + (p' - p)) ∧ (∀ (z : zk_Z) (f : Int32), TP8 z tp B → fX6_number_L20 (m + 1) lo hi (nI st) (nI v) (nI (2 - (d + 1))) (tz z (nI p) f) = fX6_number_B75 lo hi (nI st) (nI v') (tz z (nI p') f)) ∧ ∀ z : zk_Z, TP9 z tp B → fX9_number_L11 (m' + 1) lo hi (nI st) (nI v) (nI (2 - (d + 1))) (az z p) = fX9_number_B62 lo hi (nI st) (nI v') (nI c') (az z p') := by
      intro h
      refine ⟨v, p, 2 - (d + 1), Nat.le_refl _, hp, ?_, by omega, by omega, fun z f T => ?_, fun z T => ?_⟩
      · exact Nat.lt_of_lt_of_le hv (Nat.le_trans (Nat.pow_le_pow_right (by decide) (show 2 - (d + 1) ≤ 2 by omega)) (by decide))
      · rw [fX6_number_L20, if_neg hc, bh8 T ht hp, zb_some]
        rcases h with h | h
        · rw [if_pos h]
        · by_cases h' : hr B tp p < 48
          · rw [if_pos h']
          · rw [if_neg h', bh8 T ht hp, zb_some, if_pos h]
      · rw [fX9_number_L11, if_neg hc, bh9 T ht hp, zb_some, fX9_in]
        rcases h with h | h
        · rw [if_pos h, zb_some, if_pos rfl]
        · rw [if_pos h]
          split <;> rw [zb_some, if_pos rfl]
    by_cases h48 : hr B tp p < 48
    · exact stop (Or.inl h48)
    by_cases h57 : 57 < hr B tp p
    · exact stop (Or.inr h57)
    have hlt : p < tp := by
      by_cases h : p < tp
      · exact h
      · have e : hr B tp p = -1 := if_neg h
        rw [e] at h48; exact absurd (by decide) h48
    obtain ⟨b, hb1, hb2, hb⟩ : ∃ b : Nat, 48 ≤ b ∧ b ≤ 57 ∧ hr B tp p = nI b := by
      have h0 : ¬ hr B tp p < 0 := fun q => h48 (by
        rw [Int32.lt_iff_toInt_lt] at q ⊢
        have e0 : (0 : Int32).toInt = 0 := by decide
        have e1 : (48 : Int32).toInt = 48 := by decide
        omega)
      obtain ⟨b, hb, e⟩ := nn h0
      rw [e, show (48 : Int32) = nI 48 from rfl, nI_ltI hb (by decide)] at h48
      rw [e, show (57 : Int32) = nI 57 from rfl, nI_ltI (by decide) hb] at h57
      exact ⟨b, by omega, by omega, e⟩
    have hv10 : 10 * v + b - 48 < 10 ^ (2 - d) := by
      rcases (show d = 0 ∨ d = 1 by omega) with rfl | rfl
      · have : v < 10 := hv
        show 10 * v + b - 48 < 100
        omega
      · have : v < 1 := hv
        show 10 * v + b - 48 < 10
        omega
    have ev : 10 * nI v + nI b - 48 = nI (10 * v + b - 48) := by
      rw [show (10 : Int32) = nI 10 from rfl, show (48 : Int32) = nI 48 from rfl, pk_mul, nI_add, pk_sub (by omega)]
    obtain ⟨v', p', c', q1, q2, q3, q4, q5, q6, q7⟩ := ih m m' (10 * v + b - 48) (p + 1) (by omega) (by omega) hv10 (by omega) (by omega)
    have e2 : 2 - (d + 1) + 1 = 2 - d := by omega
    refine ⟨v', p', c', by omega, q2, q3, q4, by omega, fun z f T => ?_, fun z T => ?_⟩
    · rw [fX6_number_L20, if_neg hc, bh8 T ht hp, zb_some, if_neg h48, bh8 T ht hp, zb_some, if_neg h57, bh8 T ht hp, zb_some, hb, ev, tz_p, nI_1, nI_1, tz_p', e2]
      exact q6 z f T
    · rw [fX9_number_L11, if_neg hc, bh9 T ht hp, zb_some, fX9_in, if_neg h48, if_neg h57, zb_some, if_neg r10, bh9 T ht hp, zb_some, hb, ev, az_p, nI_1, nI_1, az_p', e2]
      exact q7 z T
theorem num_b {tp p lo hi : Nat} {B : Nat → Nat} (ht : tp ≤ 80) (hp : p ≤ tp) (hhi : hi < 1000) (hlo : lo < 1000) : (∃ v p', p ≤ p' ∧ p' ≤ tp ∧ lo ≤ v ∧ v ≤ hi ∧ v < 100 ∧ (∀ z : zk_Z, TP8 z tp B → fX6_number (nI lo) (nI hi) (tz z (nI p) (-1)) = some (nI v, tz z (nI p') (-1))) ∧ ∀ z : zk_Z, TP9 z tp B → fX9_number (nI lo) (nI hi) (az z p) = some (nI v, az z p')) ∨ ((∀ z : zk_Z, TP8 z tp B → ∃ pl, fX6_number (nI lo) (nI hi) (tz z (nI p) (-1)) = some (0, tz z pl (nI p))) ∧ ∀ z : zk_Z, TP9 z tp B → fX9_number (nI lo) (nI hi) (az z p) = some (-1, az z p)) := by
  obtain ⟨v, p', c, q1, q2, q3, q4, q5, q6, q7⟩ := nu_L (B := B) ht (nI lo) (nI hi) p 2 zk_FU zk_FU 0 p hp (by omega) (by decide) (by decide) (by decide)
  have e8 : ∀ z : zk_Z, TP8 z tp B → fX6_number (nI lo) (nI hi) (tz z (nI p) (-1)) = fX6_number_B75 (nI lo) (nI hi) (nI p) (nI v) (tz z (nI p') (-1)) := by
    intro z T
    rw [fX6_number, tz_f, if_pos (by decide), tz_p]
    exact q6 z (-1) T
  have e9 : ∀ z : zk_Z, TP9 z tp B → fX9_number (nI lo) (nI hi) (az z p) = fX9_number_B62 (nI lo) (nI hi) (nI p) (nI v) (nI c) (az z p') := by
    intro z T
    rw [fX9_number, az_p]
    exact q7 z T
  have b95 : ∀ z : zk_Z, fX6_number_B95 (nI p) (tz z (nI p') (-1)) = some (0, tz z (nI p') (nI p)) := fun z => by rw [fX6_number_B95, tz_f']
  by_cases hc : p' = p
  · have c0 : c = 0 := by omega
    refine Or.inr ⟨fun z T => ⟨nI p', ?_⟩, fun z T => ?_⟩
    · rw [e8 z T, fX6_number_B75, tz_p, if_pos (by rw [hc]), b95]
    · rw [e9 z T, fX9_number_B62, if_pos (by rw [c0]; rfl), hc]
  have hc' : ¬ nI p' = nI p := ne_nI (by omega) (by omega) hc
  have c0 : ¬ nI c = 0 := fun q => hc (by have := (nI_z (by omega)).mp q; omega)
  by_cases h1 : v < lo
  · refine Or.inr ⟨fun z T => ⟨nI p', ?_⟩, fun z T => ?_⟩
    · rw [e8 z T, fX6_number_B75, tz_p, if_neg hc', if_pos (by rw [nI_ltI (by omega) (by omega)]; exact h1), b95]
    · rw [e9 z T, fX9_number_B62, if_neg c0, fX9_in, if_pos (by rw [nI_ltI (by omega) (by omega)]; exact h1), zb_some, if_pos rfl, az_p']
  by_cases h2 : v ≤ hi
  rotate_left
  · refine Or.inr ⟨fun z T => ⟨nI p', ?_⟩, fun z T => ?_⟩
    · rw [e8 z T, fX6_number_B75, tz_p, if_neg hc', if_neg (by rw [nI_ltI (by omega) (by omega)]; exact h1), if_neg (by rw [nI_leI (by omega) (by omega)]; exact h2), b95]
    · rw [e9 z T, fX9_number_B62, if_neg c0, fX9_in, if_neg (by rw [nI_ltI (by omega) (by omega)]; exact h1), if_pos (by rw [nI_ltI (by omega) (by omega)]; omega), zb_some, if_pos rfl, az_p']
  · refine Or.inl ⟨v, p', q1, q2, by omega, h2, q3, fun z T => ?_, fun z T => ?_⟩
    · rw [e8 z T, fX6_number_B75, tz_p, if_neg hc', if_neg (by rw [nI_ltI (by omega) (by omega)]; exact h1), if_pos (by rw [nI_leI (by omega) (by omega)]; exact h2)]
    · rw [e9 z T, fX9_number_B62, if_neg c0, in9_in _ (by omega) h2 (by omega), zb_some, if_neg r10]
theorem nam_b {tp p lo hi : Nat} {B : Nat → Nat} (c : Int32) (ht : tp ≤ 80) (hp : p ≤ tp) (hc : c ≠ -1) (hhi : hi < 1000) (hlo : lo < 1000) : (∃ v p', p ≤ p' ∧ p' ≤ tp ∧ lo ≤ v ∧ v ≤ hi ∧ v < 100 ∧ (∀ z : zk_Z, TP8 z tp B → fX6_named c (nI lo) (nI hi) (tz z (nI p) (-1)) = some (nI v, tz z (nI p') (-1))) ∧ ∀ z : zk_Z, TP9 z tp B → fX9_part c (nI lo) (nI hi) (az z p) = some (nI v, az z p')) ∨ ∃ f, f ≤ tp ∧ (∀ z : zk_Z, TP8 z tp B → ∃ pl, fX6_named c (nI lo) (nI hi) (tz z (nI p) (-1)) = some (0, tz z pl (nI f))) ∧ ∀ z : zk_Z, TP9 z tp B → fX9_part c (nI lo) (nI hi) (az z p) = some (-1, az z f) := by
  by_cases e : hr B tp p = c
  · have hlt : p < tp := by
      by_cases h : p < tp
      · exact h
      · have e' : hr B tp p = -1 := if_neg h
        exact absurd (e.symm.trans e') hc
    have e8 : ∀ z : zk_Z, TP8 z tp B → fX6_named c (nI lo) (nI hi) (tz z (nI p) (-1)) = zk_bd (fX6_number (nI lo) (nI hi) (tz z (nI (p + 1)) (-1))) (fun r4 z3 => some (r4, z3)) := fun z T => by
      rw [fX6_named, tz_f, if_pos (by decide), bh8 T ht hp, zb_some, if_pos e, tz_p, nI_1, tz_p']
    have e9 : ∀ z : zk_Z, TP9 z tp B → fX9_part c (nI lo) (nI hi) (az z p) = zk_bd (fX9_number (nI lo) (nI hi) (az z (p + 1))) (fun r4 z3 => some (r4, z3)) := fun z T => by
      rw [fX9_part, bh9 T ht hp, zb_some, if_pos e, az_p, nI_1, az_p']
    rcases num_b (B := B) (p := p + 1) ht (by omega) hhi hlo with ⟨v, p', q1, q2, q3, q4, q5, q6, q7⟩ | ⟨q6, q7⟩
    · exact Or.inl ⟨v, p', by omega, q2, q3, q4, q5, fun z T => by rw [e8 z T, q6 z T, zb_some], fun z T => by rw [e9 z T, q7 z T, zb_some]⟩
    · refine Or.inr ⟨p + 1, by omega, fun z T => ?_, fun z T => by rw [e9 z T, q7 z T, zb_some]⟩
      obtain ⟨pl, q⟩ := q6 z T
      exact ⟨pl, by rw [e8 z T, q, zb_some]⟩
  · refine Or.inr ⟨p, hp, fun z T => ⟨nI p, ?_⟩, fun z T => ?_⟩
    · rw [fX6_named, tz_f, if_pos (by decide), bh8 T ht hp, zb_some, if_neg e, tz_p, tz_f']
    · rw [fX9_part, bh9 T ht hp, zb_some, if_neg e]
/-- behind a fault nothing more is read -/
theorem named_f {z : zk_Z} {c lo hi : Int32} {f : Nat} (h : z.1 1 0 3 = nI f) (hf : f ≤ 100) : fX6_named c lo hi z = some (0, z) := by rw [fX6_named, h, if_neg (nI_lt0 (by omega))]
theorem gap_f {z : zk_Z} {f : Nat} (h : z.1 1 0 3 = nI f) (hf : f ≤ 100) : fX6_gap z = some ((), z) := by rw [fX6_gap, h, if_neg (nI_lt0 (by omega))]
theorem number_f {z : zk_Z} {lo hi : Int32} {f : Nat} (h : z.1 1 0 3 = nI f) (hf : f ≤ 100) : fX6_number lo hi z = some (0, z) := by rw [fX6_number, h, if_neg (nI_lt0 (by omega))]
theorem l81_f {z : zk_Z} {k m f : Nat} {a : Int32} (h : z.1 1 0 3 = nI f) (hf : f ≤ 100) : fX6_readInto_L81 k (m + 1) a z = some (nI f, z) := by
  have h0 : (0 : Int32) ≤ nI f := by rw [show (0 : Int32) = nI 0 from rfl, nI_leI (by decide) (by omega)]; omega
  have e : fX6_readInto_B138 k z = some (nI f, z) := by rw [fX6_readInto_B138, h, if_pos h0, fX6_readInto_B171, h]
  rw [fX6_readInto_L81, h, if_pos h0, e]
  split <;> rfl
