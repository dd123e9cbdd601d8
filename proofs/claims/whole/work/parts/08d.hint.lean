/-! states with one row replaced -/
theorem sR_row (z : zk_Z) (g k : Nat) (f : Nat → Int32) : (zk_sR z g k f).1 g k = f := by show (if g = g ∧ k = k then f else _) = f; rw [if_pos ⟨rfl, rfl⟩]
theorem sR_ne {z : zk_Z} {g k g' k' : Nat} {f : Nat → Int32} (h : g' ≠ g) : (zk_sR z g k f).1 g' k' = z.1 g' k' := by show (if g' = g ∧ k' = k then f else _) = _; rw [if_neg (fun q => h q.1)]
theorem sR_self (z : zk_Z) (g k : Nat) : zk_sR z g k (z.1 g k) = z := by
  refine Prod.ext ?_ rfl
  funext g' k'
  show (if g' = g ∧ k' = k then z.1 g k else z.1 g' k') = z.1 g' k'
  by_cases h : g' = g ∧ k' = k
  · rw [if_pos h, h.1, h.2]
  · rw [if_neg h]
theorem sI_sR (z : zk_Z) (g k i : Nat) (f : Nat → Int32) (v : Int32) : zk_sI (zk_sR z g k f) g k i v = zk_sR z g k (upd f i v) := by
  refine Prod.ext ?_ rfl
  funext g' k'
  show (if g' = g ∧ k' = k then upd ((zk_sR z g k f).1 g k) i v else (if g' = g ∧ k' = k then f else z.1 g' k')) = (if g' = g ∧ k' = k then upd f i v else z.1 g' k')
  rw [sR_row]
  by_cases h : g' = g ∧ k' = k
  · rw [if_pos h, if_pos h]
  · rw [if_neg h, if_neg h, if_neg h]
theorem sR_sR (z : zk_Z) (g k : Nat) (f f' : Nat → Int32) : zk_sR (zk_sR z g k f) g k f' = zk_sR z g k f' := by
  refine Prod.ext ?_ rfl
  funext g' k'
  show (if g' = g ∧ k' = k then f' else (if g' = g ∧ k' = k then f else z.1 g' k')) = (if g' = g ∧ k' = k then f' else z.1 g' k')
  by_cases h : g' = g ∧ k' = k
  · rw [if_pos h, if_pos h]
  · rw [if_neg h, if_neg h, if_neg h]
theorem TC_eq {z z' : zk_Z} {k kd n C : Nat} {P A : Nat → Nat} (h7 : z'.1 7 k = z.1 7 k) (h8 : z'.1 8 k = z.1 8 k) (h9 : z'.1 9 k = z.1 9 k) (T : TC z k kd n C P A) : TC z' k kd n C P A := by unfold TC at *; rw [h7, h8, h9]; exact T
theorem TC_sR {z : zk_Z} {k kd n C g k' : Nat} {P A : Nat → Nat} {f : Nat → Int32} (hg : g ≠ 7 ∧ g ≠ 8 ∧ g ≠ 9) (T : TC z k kd n C P A) : TC (zk_sR z g k' f) k kd n C P A := TC_eq (sR_ne (Ne.symm hg.1)) (sR_ne (Ne.symm hg.2.1)) (sR_ne (Ne.symm hg.2.2)) T
theorem fill19_L (z : zk_Z) : ∀ d m i (f : Nat → Int32), i + d = 10 → d < m → fJ7_fill_53178_g19_L5 m 0 (nI i) 10 (zk_sR z 19 0 f) = some ((), zk_sR z 19 0 (fun j => if i ≤ j ∧ j < 10 then 0 else f j)) := by
  intro d
  induction d with
  | zero =>
    intro m i f h1 h2
    obtain ⟨m, rfl⟩ : ∃ j, m = j + 1 := ⟨m - 1, by omega⟩
    rw [fJ7_fill_53178_g19_L5, if_pos (by rw [show (10 : Int32) = nI 10 from rfl, nI_leI (by omega) (by omega)]; omega)]
    congr 3
    funext j
    rw [if_neg (by omega)]
  | succ d ih =>
    intro m i f h1 h2
    obtain ⟨m, rfl⟩ : ∃ j, m = j + 1 := ⟨m - 1, by omega⟩
    rw [fJ7_fill_53178_g19_L5, if_neg (by rw [show (10 : Int32) = nI 10 from rfl, nI_leI (by omega) (by omega)]; omega), zx_nI (by omega) (by decide), zg_t, nI_1, nI_clamp (by omega), sI_sR, ih m (i + 1) _ (by omega) (by omega)]
    congr 3
    funext j
    unfold upd
    by_cases h : i ≤ j ∧ j < 10
    · rw [if_pos h]
      by_cases hj : j = i
      · rw [if_neg (by omega), if_pos hj]
      · rw [if_pos (by omega)]
    · rw [if_neg h, if_neg (by omega), if_neg (by omega)]
theorem fill14_L (z : zk_Z) (k : Nat) : ∀ d m i (f : Nat → Int32), i + d = 40 → d < m → fJ7_fill_53178_g14_L5 k m 0 (nI i) 40 (zk_sR z 14 k f) = some ((), zk_sR z 14 k (fun j => if i ≤ j ∧ j < 40 then 0 else f j)) := by
  intro d
  induction d with
  | zero =>
    intro m i f h1 h2
    obtain ⟨m, rfl⟩ : ∃ j, m = j + 1 := ⟨m - 1, by omega⟩
    rw [fJ7_fill_53178_g14_L5, if_pos (by rw [show (40 : Int32) = nI 40 from rfl, nI_leI (by omega) (by omega)]; omega)]
    congr 3
    funext j
    rw [if_neg (by omega)]
  | succ d ih =>
    intro m i f h1 h2
    obtain ⟨m, rfl⟩ : ∃ j, m = j + 1 := ⟨m - 1, by omega⟩
    rw [fJ7_fill_53178_g14_L5, if_neg (by rw [show (40 : Int32) = nI 40 from rfl, nI_leI (by omega) (by omega)]; omega), zx_nI (by omega) (by decide), zg_t, nI_1, nI_clamp (by omega), sI_sR, ih m (i + 1) _ (by omega) (by omega)]
    congr 3
    funext j
    unfold upd
    by_cases h : i ≤ j ∧ j < 40
    · rw [if_pos h]
      by_cases hj : j = i
      · rw [if_neg (by omega), if_pos hj]
      · rw [if_pos (by omega)]
    · rw [if_neg h, if_neg (by omega), if_neg (by omega)]
theorem fill14 (z : zk_Z) (k : Nat) : fJ7_fill_53178_g14 k 0 z = some ((), zk_sR z 14 k (fun j => if j < 40 then 0 else z.1 14 k j)) := by
  have h := fill14_L z k 40 zk_FU 0 (z.1 14 k) (by omega) (by decide)
  rw [sR_self] at h
  rw [fJ7_fill_53178_g14, show (0 : Int32) = nI 0 from rfl] at *
  rw [h]
  congr 3
  funext j
  by_cases hj : j < 40
  · rw [if_pos ⟨Nat.zero_le _, hj⟩, if_pos hj]
  · rw [if_neg (fun q => hj q.2), if_neg hj]
theorem fill19 (z : zk_Z) : fJ7_fill_53178_g19 0 z = some ((), zk_sR z 19 0 (fun j => if j < 10 then 0 else z.1 19 0 j)) := by
  have h := fill19_L z 10 zk_FU 0 (z.1 19 0) (by omega) (by decide)
  rw [sR_self] at h
  rw [fJ7_fill_53178_g19, show (0 : Int32) = nI 0 from rfl] at *
  rw [h]
  congr 3
  funext j
  by_cases hj : j < 10
  · rw [if_pos ⟨Nat.zero_le _, hj⟩, if_pos hj]
  · rw [if_neg (fun q => hj q.2), if_neg hj]
/-! hints -/
theorem tally_in {z : zk_Z} {k kd n C : Nat} {P A : Nat → Nat} (T : TC z k kd n C P A) (O : TOK kd n C P A) (c9 : Int32 → Int32 → zk_Z → Option (Int32 × zk_Z)) (a2 : Int32) {r : Nat} (hr : r < 1024) : ∀ d m l (f : Nat → Int32), l + d = n → d < m → fX7_tallyAnswers_L31 k c9 m a2 (nI r) (nI l) (zk_sR z 19 0 f) = c9 a2 (nI (r + 1)) (zk_sR z 19 0 (fun j => if l ≤ j ∧ j < n then f j + nI (r.testBit j).toNat else f j)) := by
  have h10 := O.1.2.2.1
  intro d
  induction d with
  | zero =>
    intro m l f h1 h2
    obtain ⟨m, rfl⟩ : ∃ j, m = j + 1 := ⟨m - 1, by omega⟩
    have T' := TC_sR (k' := 0) (f := f) (g := 19) (by decide) T
    rw [fX7_tallyAnswers_L31, T'.1.2.1, if_pos (by rw [nI_leI (by omega) (by omega)]; omega), fX7_tallyAnswers_B66, nI_1]
    congr 2
    funext j
    rw [if_neg (by omega)]
  | succ d ih =>
    intro m l f h1 h2
    obtain ⟨m, rfl⟩ : ∃ j, m = j + 1 := ⟨m - 1, by omega⟩
    have T' := TC_sR (k' := 0) (f := f) (g := 19) (by decide) T
    rw [fX7_tallyAnswers_L31, T'.1.2.1, if_neg (by rw [nI_leI (by omega) (by omega)]; omega), if_neg (by rw [show (10 : Int32) = nI 10 from rfl, nI_leI (by omega) (by omega)]; omega), zx_nI (by omega) (by decide), zg_t, zg_t, nI_1, nI_clamp (by omega), sI_sR, sR_row, nI_bit (by omega) (by omega), ih m (l + 1) _ (by omega) (by omega)]
    congr 2
    funext j
    unfold upd
    by_cases h : l ≤ j ∧ j < n
    · rw [if_pos h]
      by_cases hj : j = l
      · rw [if_neg (by omega), if_pos hj, hj]
      · rw [if_pos (by omega), if_neg hj]
    · rw [if_neg h, if_neg (by omega), if_neg (by omega)]
def sb (kd C : Nat) (P A : Nat → Nat) (l : Nat) (b : Bool) (q : Nat) : Bool := sol kd C P A q && (q.testBit l == b)
theorem tally_L {z : zk_Z} {k kd n C : Nat} {P A : Nat → Nat} (T : TC z k kd n C P A) (O : TOK kd n C P A) : ∀ d m r acc (f : Nat → Int32) (v : Nat → Nat), (∀ l, l < n → f l = nI (v l)) → r + d = 2 ^ n → d < m → ∃ f' : Nat → Int32, fX7_tallyAnswers_L9 k m (nI acc) (nI r) (zk_sR z 19 0 f) = some (nI (acc + cn (sol kd C P A) d r), zk_sR z 19 0 f') ∧ ∀ l, l < n → f' l = nI (v l + cn (sb kd C P A l true) d r) := by
  have hN := p2_le O.1.2.2.1
  have h10 := O.1.2.2.1
  intro d
  induction d with
  | zero =>
    intro m r acc f v hv h1 h2
    obtain ⟨m, rfl⟩ : ∃ j, m = j + 1 := ⟨m - 1, by omega⟩
    refine ⟨f, ?_, hv⟩
    rw [fX7_tallyAnswers_L9, e7_rows (TC_sR (by decide) T) O, zb_some, if_pos (by rw [nI_leI (by omega) (by omega)]; omega)]; rfl
  | succ d ih =>
    intro m r acc f v hv h1 h2
    obtain ⟨m, rfl⟩ : ∃ j, m = j + 1 := ⟨m - 1, by omega⟩
    have T' := TC_sR (k' := 0) (f := f) (g := 19) (by decide) T
    rw [fX7_tallyAnswers_L9, e7_rows T' O, zb_some, if_neg (by rw [nI_leI (by omega) (by omega)]; omega), e7_solved T' O (by omega), zb_some]
    cases hs : sol kd C P A r with
    | false =>
      obtain ⟨f', h3, h4⟩ := ih m (r + 1) acc f v hv (by omega) (by omega)
      refine ⟨f', ?_, fun l hl => ?_⟩
      · rw [if_pos (bi_0.mpr rfl), fX7_tallyAnswers_B66, nI_1, h3, cn, hs]; congr 3; simp
      · rw [h4 l hl, cn]; congr 2; unfold sb; rw [hs]; simp
    | true =>
      obtain ⟨f', h3, h4⟩ := ih m (r + 1) (acc + 1) (fun j => if 0 ≤ j ∧ j < n then f j + nI (r.testBit j).toNat else f j) (fun l => v l + (r.testBit l).toNat) (fun l hl => by rw [if_pos ⟨Nat.zero_le _, hl⟩, hv l hl, nI_add]) (by omega) (by omega)
      refine ⟨f', ?_, fun l hl => ?_⟩
      · rw [if_neg (bi_n0 rfl), show (0 : Int32) = nI 0 from rfl, nI_1, tally_in T O (fX7_tallyAnswers_L9 k m) (nI (acc + 1)) (by omega) n zk_FU 0 f (by omega) (by show n < 6000; omega), h3, cn, hs]; congr 3; simp; omega
      · rw [h4 l hl, cn]; congr 1; unfold sb; rw [hs]; simp; omega
theorem cn_split (f g : Nat → Bool) : ∀ d r, cn f d r = cn (fun q => f q && g q) d r + cn (fun q => f q && !g q) d r := by
  intro d
  induction d with
  | zero => intro r; rfl
  | succ d ih =>
    intro r
    rw [cn, cn, cn, ih (r + 1)]
    have : (f r).toNat = (f r && g r).toNat + (f r && !g r).toNat := by cases f r <;> cases g r <;> rfl
    rw [this]; omega
/-- what each hint leaves -/
def hv (kd n C : Nat) (P A : Nat → Nat) (j : Nat) : Nat := cn (sb kd C P A (j / 2) (j % 2 == 1)) (2 ^ n) 0
def hmS (v : Nat → Nat) : Nat → Nat → Option Nat → Option Nat
  | 0, _, b => b
  | d + 1, j, b => hmS v d (j + 1) (if 0 < v j ∧ (∀ i, b = some i → v j < v i) then some j else b)
theorem e7_tally {z : zk_Z} {k kd n C : Nat} {P A : Nat → Nat} (T : TC z k kd n C P A) (O : TOK kd n C P A) : ∃ f' : Nat → Int32, fX7_tallyAnswers k z = some (nI (cn (sol kd C P A) (2 ^ n) 0), zk_sR z 19 0 f') ∧ ∀ l, l < n → f' l = nI (hv kd n C P A (2 * l + 1)) := by
  have hN := p2_le O.1.2.2.1
  have h10 := O.1.2.2.1
  obtain ⟨f', h1, h2⟩ := tally_L T O (2 ^ n) zk_FU 0 0 (fun j => if j < 10 then 0 else z.1 19 0 j) (fun _ => 0) (fun l hl => by rw [if_pos (by omega)]; rfl) (by omega) (by show 2 ^ n < 6000; omega)
  refine ⟨f', ?_, fun l hl => ?_⟩
  · rw [fX7_tallyAnswers, fill19, zb_some, show (0 : Int32) = nI 0 from rfl] at *
    rw [h1, Nat.zero_add]
  · rw [h2 l hl, Nat.zero_add]; unfold hv
    rw [show (2 * l + 1) / 2 = l by omega, show (2 * l + 1) % 2 = 1 by omega]; rfl
theorem hv_even {kd n C : Nat} {P A : Nat → Nat} (l : Nat) : cn (sol kd C P A) (2 ^ n) 0 = hv kd n C P A (2 * l + 1) + hv kd n C P A (2 * l) := by
  unfold hv
  rw [show (2 * l + 1) / 2 = l by omega, show (2 * l + 1) % 2 = 1 by omega, show (2 * l) / 2 = l by omega, show (2 * l) % 2 = 0 by omega, cn_split (sol kd C P A) (fun q => q.testBit l)]
  congr 1
  · refine cn_congr _ _ (fun q _ _ => ?_); unfold sb; cases q.testBit l <;> rfl
  · refine cn_congr _ _ (fun q _ _ => ?_); unfold sb; cases q.testBit l <;> rfl
def feS (v : Nat → Nat) (all : Nat) (b : Option Nat) : Nat := match b with | none => all + 1 | some i => v i
theorem feS_iff {v : Nat → Nat} {all x : Nat} {b : Option Nat} (hx : x ≤ all) : (x < feS v all b) ↔ ∀ i, b = some i → x < v i := by
  cases b with
  | none => exact ⟨fun _ j h => (by cases h), fun _ => (by show x < all + 1; omega)⟩
  | some j => exact ⟨fun h j' e => by cases e; exact h, fun h => h j rfl⟩
