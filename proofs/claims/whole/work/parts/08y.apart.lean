/-! telling two heaps apart by a bound -/
theorem cn_add (f : Nat → Bool) : ∀ a b r, cn f (a + b) r = cn f a r + cn f b (r + a) := by
  intro a
  induction a with
  | zero => intro b r; rw [Nat.zero_add, cn, Nat.zero_add, Nat.add_zero]
  | succ a ih => intro b r; rw [Nat.succ_add, cn, cn, ih, Nat.add_assoc, Nat.add_assoc, Nat.add_comm 1 a]
theorem cn_shift {f g : Nat → Bool} {s : Nat} : ∀ d r, (∀ j, r ≤ j → j < r + d → f (s + j) = g j) → cn f d (s + r) = cn g d r := by
  intro d
  induction d with
  | zero => intro r _; rfl
  | succ d ih => intro r h; rw [cn, cn, h r (Nat.le_refl _) (by omega), Nat.add_assoc, ih (r + 1) (fun j h1 h2 => h j (by omega) (by omega))]
def rbN (S1 S2 : Nat → Int32) (N : Nat) (b : Int32) : Nat := cn (fun j => decide (b < S1 j)) N 0 + cn (fun j => decide (S2 j ≤ b)) N 0
theorem rb8_L {z : zk_Z} {S1 S2 : Nat → Int32} {N : Nat} {b : Int32} (hN : N ≤ 24) (hS : ∀ j, j < N → z.1 17 0 j = S1 j ∧ z.1 18 0 j = S2 j) : ∀ d m i a, i + d = N → d < m → fX8_rightBy_L5 m b (nI N) (nI a) (nI i) z = some (nI (a + (cn (fun j => decide (b < S1 j)) d i + cn (fun j => decide (S2 j ≤ b)) d i)), z) := by
  intro d
  induction d with
  | zero =>
    intro m i a h1 h2
    obtain ⟨m, rfl⟩ : ∃ j, m = j + 1 := ⟨m - 1, by omega⟩
    rw [fX8_rightBy_L5, if_pos (by rw [nI_leI (by omega) (by omega)]; omega)]; rfl
  | succ d ih =>
    intro m i a h1 h2
    obtain ⟨m, rfl⟩ : ∃ j, m = j + 1 := ⟨m - 1, by omega⟩
    have e1 : fX8_rightBy_L5 (m + 1) b (nI N) (nI a) (nI i) z = fX8_rightBy_L5 m b (nI N) (nI (a + ((decide (b < S1 i)).toNat + (decide (S2 i ≤ b)).toNat))) (nI (i + 1)) z := by
      rw [fX8_rightBy_L5, if_neg (by rw [nI_leI (by omega) (by omega)]; omega), zx_nI (by omega) (by decide), zg_t, nI_clamp (by omega), (hS i (by omega)).1]
      by_cases c1 : S1 i ≤ b
      · have d1 : ¬ b < S1 i := by rw [Int32.not_lt]; exact c1
        rw [if_pos c1, decide_eq_false d1, fX8_rightBy_B25, zx_nI (by omega) (by decide), zg_t, nI_clamp (by omega), (hS i (by omega)).2]
        by_cases c2 : b < S2 i
        · rw [if_pos c2, decide_eq_false (by rw [Int32.not_le]; exact c2), fX8_rightBy_B39, nI_1]; rfl
        · rw [if_neg c2, decide_eq_true (Int32.not_lt.mp c2), fX8_rightBy_B39, nI_1, nI_1]; rfl
      · have d1 : b < S1 i := Int32.not_le.mp c1
        rw [if_neg c1, decide_eq_true d1, fX8_rightBy_B25, zx_nI (by omega) (by decide), zg_t, nI_clamp (by omega), (hS i (by omega)).2]
        by_cases c2 : b < S2 i
        · rw [if_pos c2, decide_eq_false (by rw [Int32.not_le]; exact c2), fX8_rightBy_B39, nI_1, nI_1]; rfl
        · rw [if_neg c2, decide_eq_true (Int32.not_lt.mp c2), fX8_rightBy_B39, nI_1, nI_1, nI_1]; rfl
    rw [e1, ih m (i + 1) _ (by omega) (by omega), cn, cn]
    congr 3
    omega
theorem rb8 {z : zk_Z} {S1 S2 : Nat → Int32} {N : Nat} {b : Int32} (hN : N ≤ 24) (hS : ∀ j, j < N → z.1 17 0 j = S1 j ∧ z.1 18 0 j = S2 j) : fX8_rightBy b (nI N) z = some (nI (rbN S1 S2 N b), z) := by
  have h := rb8_L (b := b) hN hS N zk_FU 0 0 (by omega) (by show N < 6000; omega)
  rw [Nat.zero_add] at h
  exact h
theorem nI_2 (N : Nat) : 2 * nI N = nI (2 * N) := by rw [show (2 : Int32) = nI 2 from rfl, pk_mul]
theorem rb9_L {z : zk_Z} {S : Nat → Int32} {N : Nat} {b : Int32} (hN : N ≤ 24) (hS : ∀ j, j < 2 * N → z.1 43 0 j = S j) : ∀ d m i a, i + d = 2 * N → d < m → fX9_rightBy_L5 m b (nI N) (nI a) (nI i) z = some (nI (a + cn (fun j => if j < N then decide (b < S j) else decide (S j ≤ b)) d i), z) := by
  intro d
  induction d with
  | zero =>
    intro m i a h1 h2
    obtain ⟨m, rfl⟩ : ∃ j, m = j + 1 := ⟨m - 1, by omega⟩
    rw [fX9_rightBy_L5, nI_2, if_pos (by rw [nI_leI (by omega) (by omega)]; omega)]; rfl
  | succ d ih =>
    intro m i a h1 h2
    obtain ⟨m, rfl⟩ : ∃ j, m = j + 1 := ⟨m - 1, by omega⟩
    have e1 : fX9_rightBy_L5 (m + 1) b (nI N) (nI a) (nI i) z = fX9_rightBy_L5 m b (nI N) (nI (a + (if i < N then decide (b < S i) else decide (S i ≤ b)).toNat)) (nI (i + 1)) z := by
      rw [fX9_rightBy_L5, nI_2, if_neg (by rw [nI_leI (by omega) (by omega)]; omega), zx_nI (by omega) (by decide), zg_t, nI_clamp (by omega), hS i (by omega)]
      by_cases c1 : S i ≤ b
      · have d1 : ¬ b < S i := by rw [Int32.not_lt]; exact c1
        rw [if_pos c1, decide_eq_false d1, decide_eq_true c1, fX9_rightBy_B30]
        by_cases c2 : i < N
        · rw [if_neg (by rw [nI_leI (by omega) (by omega)]; omega), if_pos c2, fX9_rightBy_B41, if_neg (by decide), fX9_rightBy_B49, nI_1, Int32.add_zero]; rfl
        · rw [if_pos (by rw [nI_leI (by omega) (by omega)]; omega), if_neg c2, fX9_rightBy_B41, if_pos rfl, fX9_rightBy_B49, nI_1, nI_1]; rfl
      · have d1 : b < S i := Int32.not_le.mp c1
        rw [if_neg c1, decide_eq_true d1, decide_eq_false c1, fX9_rightBy_B30]
        by_cases c2 : i < N
        · rw [if_neg (by rw [nI_leI (by omega) (by omega)]; omega), if_pos c2, fX9_rightBy_B41, if_pos rfl, fX9_rightBy_B49, nI_1, nI_1]; rfl
        · rw [if_pos (by rw [nI_leI (by omega) (by omega)]; omega), if_neg c2, fX9_rightBy_B41, if_neg (by decide), fX9_rightBy_B49, nI_1, Int32.add_zero]; rfl
    rw [e1, ih m (i + 1) _ (by omega) (by omega), cn, Nat.add_assoc]
theorem rb9 {z : zk_Z} {S1 S2 : Nat → Int32} {N : Nat} {b : Int32} (hN : N ≤ 24) (hS : ∀ j, j < N → z.1 43 0 j = S1 j ∧ z.1 43 0 (N + j) = S2 j) : fX9_rightBy b (nI N) z = some (nI (rbN S1 S2 N b), z) := by
  have h := rb9_L (b := b) (S := z.1 43 0) hN (fun _ _ => rfl) (2 * N) zk_FU 0 0 (by omega) (by show 2 * N < 6000; omega)
  have e : cn (fun j => if j < N then decide (b < z.1 43 0 j) else decide (z.1 43 0 j ≤ b)) (2 * N) 0 = rbN S1 S2 N b := by
    rw [show 2 * N = N + N by omega, cn_add, Nat.zero_add]
    unfold rbN
    congr 1
    · have h1 := cn_shift (f := fun j => if j < N then decide (b < z.1 43 0 j) else decide (z.1 43 0 j ≤ b)) (g := fun j => decide (b < S1 j)) (s := 0) N 0 (fun j _ h2 => by
        rw [Nat.zero_add, if_pos (by omega), (hS j (by omega)).1])
      exact h1
    · have h1 := cn_shift (f := fun j => if j < N then decide (b < z.1 43 0 j) else decide (z.1 43 0 j ≤ b)) (g := fun j => decide (S2 j ≤ b)) (s := N) N 0 (fun j _ h2 => by
        rw [if_neg (by omega), (hS j (by omega)).2])
      exact h1
  rw [Nat.zero_add, e] at h
  exact h
/-- the best bound -/
def apN (S1 S2 : Nat → Int32) (N k : Nat) : Int32 := if k < N then S1 k else S2 (k - N)
def apS (S1 S2 : Nat → Int32) (N : Nat) : Nat → Nat → Int32 → Int32 → Int32 × Int32
  | 0, _, b, o => (b, o)
  | d + 1, k, b, o =>
    if o < nI (rbN S1 S2 N (apN S1 S2 N k)) then apS S1 S2 N d (k + 1) (apN S1 S2 N k) (nI (rbN S1 S2 N (apN S1 S2 N k)))
    else if nI (rbN S1 S2 N (apN S1 S2 N k)) = o then (if b ≤ (apN S1 S2 N k) then apS S1 S2 N d (k + 1) b o else apS S1 S2 N d (k + 1) (apN S1 S2 N k) (nI (rbN S1 S2 N (apN S1 S2 N k))))
    else apS S1 S2 N d (k + 1) b o
def apV (x : Int32) (v : Int32 × Int32) : Int32 := if x = 0 then v.1 else v.2
theorem apb8_L {z : zk_Z} {S1 S2 : Nat → Int32} {N : Nat} {x : Int32} (hN : N ≤ 24) (hS : ∀ j, j < N → z.1 17 0 j = S1 j ∧ z.1 18 0 j = S2 j) : ∀ d m k b o, k + d = 2 * N → d < m → fX8_apart_L143 m (nI N) x b o (nI k) z = some (apV x (apS S1 S2 N d k b o), z) := by
  intro d
  induction d with
  | zero =>
    intro m k b o h1 h2
    obtain ⟨m, rfl⟩ : ∃ j, m = j + 1 := ⟨m - 1, by omega⟩
    rw [fX8_apart_L143, nI_2, if_pos (by rw [nI_leI (by omega) (by omega)]; omega), apS]
    unfold apV
    split <;> rfl
  | succ d ih =>
    intro m k b o h1 h2
    obtain ⟨m, rfl⟩ : ∃ j, m = j + 1 := ⟨m - 1, by omega⟩
    have e1 : fX8_apart_L143 (m + 1) (nI N) x b o (nI k) z = fX8_apart_B179 (fX8_apart_L143 m) (nI N) x b o (nI k) (apN S1 S2 N k) z := by
      unfold apN
      rw [fX8_apart_L143, nI_2, if_neg (by rw [nI_leI (by omega) (by omega)]; omega)]
      by_cases c : k < N
      · rw [if_neg (by rw [nI_leI (by omega) (by omega)]; omega), zx_nI (by omega) (by decide), zg_t, nI_clamp (by omega), (hS k c).1, if_pos c]
      · rw [if_pos (by rw [nI_leI (by omega) (by omega)]; omega), pk_sub (by omega), zx_nI (by omega) (by decide), zg_t, nI_clamp (by omega), (hS (k - N) (by omega)).2, if_neg c]
    rw [e1, fX8_apart_B179, rb8 hN hS, zb_some, apS]
    split
    · rw [fX8_apart_B212, fX8_apart_B220, nI_1]; exact ih m _ _ _ (by omega) (by omega)
    · split
      · split
        · rw [fX8_apart_B220, nI_1]; exact ih m _ _ _ (by omega) (by omega)
        · rw [fX8_apart_B212, fX8_apart_B220, nI_1]; exact ih m _ _ _ (by omega) (by omega)
      · rw [fX8_apart_B220, nI_1]; exact ih m _ _ _ (by omega) (by omega)
theorem apb9_L {z : zk_Z} {S1 S2 : Nat → Int32} {N : Nat} {x : Int32} (hN : N ≤ 24) (hS : ∀ j, j < N → z.1 43 0 j = S1 j ∧ z.1 43 0 (N + j) = S2 j) : ∀ d m k b o, k + d = 2 * N → d < m → fX9_apart_L107 m (nI N) x b o (nI k) z = some (apV x (apS S1 S2 N d k b o), z) := by
  intro d
  induction d with
  | zero =>
    intro m k b o h1 h2
    obtain ⟨m, rfl⟩ : ∃ j, m = j + 1 := ⟨m - 1, by omega⟩
    rw [fX9_apart_L107, nI_2, if_pos (by rw [nI_leI (by omega) (by omega)]; omega), apS]
    unfold apV
    split <;> rfl
  | succ d ih =>
    intro m k b o h1 h2
    obtain ⟨m, rfl⟩ : ∃ j, m = j + 1 := ⟨m - 1, by omega⟩
    have e0 : z.1 43 0 k = apN S1 S2 N k := by
      unfold apN
      by_cases c : k < N
      · rw [(hS k c).1, if_pos c]
      · have := (hS (k - N) (by omega)).2
        rw [show N + (k - N) = k by omega] at this
        rw [this, if_neg c]
    rw [fX9_apart_L107, nI_2, if_neg (by rw [nI_leI (by omega) (by omega)]; omega), zx_nI (show k < 48 by omega) (by decide), zg_t, nI_clamp (by omega), e0, rb9 hN hS, zb_some, zg_t, e0, apS]
    split
    · rw [fX9_apart_B157, zx_nI (show k < 48 by omega) (by decide), zg_t, nI_clamp (by omega), e0, fX9_apart_B170, nI_1]; exact ih m _ _ _ (by omega) (by omega)
    · split
      · split
        · rw [fX9_apart_B170, nI_1]; exact ih m _ _ _ (by omega) (by omega)
        · rw [fX9_apart_B157, zx_nI (show k < 48 by omega) (by decide), zg_t, nI_clamp (by omega), e0, fX9_apart_B170, nI_1]; exact ih m _ _ _ (by omega) (by omega)
      · rw [fX9_apart_B170, nI_1]; exact ih m _ _ _ (by omega) (by omega)
/-- the signs of both heaps -/
theorem aps8_L {ka kb kd n C w kd' n' C' w' sd N : Nat} {W W' : Nat → Nat} {x : Int32} (O : ROK kd n C w W) (hA : 0 < alS W w (w + 1) 0 0) (O' : ROK kd' n' C' w' W') (hA' : 0 < alS W' w' (w' + 1) 0 0) (hN : N ≤ 24) (hs : sd + N ≤ 100000) : ∀ d m i z, RC z ka kd n C w W → RC z kb kd' n' C' w' W' → (∀ j, j < i → z.1 17 0 j = sgM n C w W (sd + j) ∧ z.1 18 0 j = sgM n' C' w' W' (sd + j)) → i + d = N → d < m → ∃ z', fX8_apart_L53 m (nI sd) (nI N) x ka kb (nI i) z = zk_bd (fX8_rightBy (-1) (nI N) z') (fun r13 z12 => fX8_apart_L143 zk_FU (nI N) x (-1) r13 0 z12) ∧ fr z z' ∧ ∀ j, j < N → z'.1 17 0 j = sgM n C w W (sd + j) ∧ z'.1 18 0 j = sgM n' C' w' W' (sd + j) := by
  intro d
  induction d with
  | zero =>
    intro m i z T T' hS h1 h2
    obtain ⟨m, rfl⟩ : ∃ j, m = j + 1 := ⟨m - 1, by omega⟩
    refine ⟨z, ?_, fr_refl z, fun j hj => hS j (by omega)⟩
    rw [fX8_apart_L53, if_pos (by rw [nI_leI (by omega) (by omega)]; omega)]
  | succ d ih =>
    intro m i z T T' hS h1 h2
    obtain ⟨m, rfl⟩ : ∃ j, m = j + 1 := ⟨m - 1, by omega⟩
    obtain ⟨z1, q1, q2, _, q4, _⟩ := fill3 (k1 := 8) (k2 := ka) (sd := sd + i) T O hA (by omega)
    have f1 : fr z z1 := fun g k j hg => q4 g k j (by unfold jk at hg; omega)
    have f2 : fr z1 (zk_sI z1 17 0 i (sgM n C w W (sd + i))) := fr_sI (Or.inl (by omega)) _
    obtain ⟨z3, p1, p2, _, p4, _⟩ := fill3 (k1 := 8) (k2 := kb) (sd := sd + i) (RC_fr (fr_trans f1 f2) T') O' hA' (by omega)
    have f3 : fr (zk_sI z1 17 0 i (sgM n C w W (sd + i))) z3 := fun g k j hg => p4 g k j (by unfold jk at hg; omega)
    have f4 : fr z3 (zk_sI z3 18 0 i (sgM n' C' w' W' (sd + i))) := fr_sI (Or.inl (by omega)) _
    have F := fr_trans (fr_trans (fr_trans f1 f2) f3) f4
    obtain ⟨z5, e5, f5, g5⟩ := ih m (i + 1) (zk_sI z3 18 0 i (sgM n' C' w' W' (sd + i))) (RC_fr F T) (RC_fr F T') (fun j hj => by
      constructor
      · rw [sI_at, if_neg (by omega), p4 17 0 j (by omega), sI_at]
        by_cases e : j = i
        · subst e; rw [if_pos ⟨rfl, rfl, rfl⟩]
        · rw [if_neg (by omega), q4 17 0 j (by omega), (hS j (by omega)).1]
      · rw [sI_at]
        by_cases e : j = i
        · subst e; rw [if_pos ⟨rfl, rfl, rfl⟩]
        · rw [if_neg (by omega), p4 18 0 j (by omega), sI_at, if_neg (by omega), q4 18 0 j (by omega), (hS j (by omega)).2]) (by omega) (by omega)
    refine ⟨z5, ?_, fr_trans F f5, g5⟩
    rw [fX8_apart_L53, if_neg (by rw [nI_leI (by omega) (by omega)]; omega), nI_add, q1, zb_some, sg7 q2 (tok_cl O hA), zb_some, zx_nI (show i < 24 by omega) (by decide), zg_t, nI_clamp (by omega)]
    rw [show sgS C (cl1 n w W (mkH n (sd + i)) (mkA n (sd + i))) (cl2 n w W (mkH n (sd + i)) (mkA n (sd + i))) n 0 0 = sgM n C w W (sd + i) from rfl, p1, zb_some, sg7 p2 (tok_cl O' hA'), zb_some, zg_t]
    rw [show sgS C' (cl1 n' w' W' (mkH n' (sd + i)) (mkA n' (sd + i))) (cl2 n' w' W' (mkH n' (sd + i)) (mkA n' (sd + i))) n' 0 0 = sgM n' C' w' W' (sd + i) from rfl, nI_1]
    exact e5
theorem aps9_L {ka kb kd n C w kd' n' C' w' sd N : Nat} {W W' : Nat → Nat} {x : Int32} (O : ROK kd n C w W) (hA : 0 < alS W w (w + 1) 0 0) (O' : ROK kd' n' C' w' W') (hA' : 0 < alS W' w' (w' + 1) 0 0) (ha : ka < 6) (hb : kb < 6) (hN : N ≤ 24) (hs : sd + N ≤ 100000) : ∀ d m i z, RM z ka kd n C w W → RM z kb kd' n' C' w' W' → (∀ j, j < i → z.1 43 0 j = sgM n C w W (sd + j) ∧ z.1 43 0 (N + j) = sgM n' C' w' W' (sd + j)) → i + d = N → d < m → ∃ z', fX9_apart_L44 m (nI ka) (nI kb) (nI sd) (nI N) x (nI i) z = zk_bd (fX9_rightBy (-1) (nI N) z') (fun r13 z12 => fX9_apart_L107 zk_FU (nI N) x (-1) r13 0 z12) ∧ fr z z' ∧ ∀ j, j < N → z'.1 43 0 j = sgM n C w W (sd + j) ∧ z'.1 43 0 (N + j) = sgM n' C' w' W' (sd + j) := by
  intro d
  induction d with
  | zero =>
    intro m i z T T' hS h1 h2
    obtain ⟨m, rfl⟩ : ∃ j, m = j + 1 := ⟨m - 1, by omega⟩
    refine ⟨z, ?_, fr_refl z, fun j hj => hS j (by omega)⟩
    rw [fX9_apart_L44, if_pos (by rw [nI_leI (by omega) (by omega)]; omega)]
  | succ d ih =>
    intro m i z T T' hS h1 h2
    obtain ⟨m, rfl⟩ : ∃ j, m = j + 1 := ⟨m - 1, by omega⟩
    obtain ⟨z1, q1, q4, _⟩ := signOf9 (k2 := ka) (sd := sd + i) T O ha hA (by omega)
    have f1 : fr z z1 := fun g k j hg => q4 g k j (by unfold jk at hg; omega)
    have f2 : fr z1 (zk_sI z1 43 0 i (sgM n C w W (sd + i))) := fr_sI (by unfold jk; omega) _
    obtain ⟨z3, p1, p4, _⟩ := signOf9 (k2 := kb) (sd := sd + i) (RM_fr (fr_trans f1 f2) T') O' hb hA' (by omega)
    have f3 : fr (zk_sI z1 43 0 i (sgM n C w W (sd + i))) z3 := fun g k j hg => p4 g k j (by unfold jk at hg; omega)
    have f4 : fr z3 (zk_sI z3 43 0 (N + i) (sgM n' C' w' W' (sd + i))) := fr_sI (by unfold jk; omega) _
    have F := fr_trans (fr_trans (fr_trans f1 f2) f3) f4
    obtain ⟨z5, e5, f5, g5⟩ := ih m (i + 1) (zk_sI z3 43 0 (N + i) (sgM n' C' w' W' (sd + i))) (RM_fr F T) (RM_fr F T') (fun j hj => by
      constructor
      · rw [sI_at, if_neg (by omega), p4 43 0 j (by omega), sI_at]
        by_cases e : j = i
        · subst e; rw [if_pos ⟨rfl, rfl, rfl⟩]
        · rw [if_neg (by omega), q4 43 0 j (by omega), (hS j (by omega)).1]
      · rw [sI_at]
        by_cases e : j = i
        · subst e; rw [if_pos ⟨rfl, rfl, rfl⟩]
        · rw [if_neg (by omega), p4 43 0 (N + j) (by omega), sI_at, if_neg (by omega), q4 43 0 (N + j) (by omega), (hS j (by omega)).2]) (by omega) (by omega)
    refine ⟨z5, ?_, fr_trans F f5, g5⟩
    rw [fX9_apart_L44, if_neg (by rw [nI_leI (by omega) (by omega)]; omega), nI_add, nI_add, q1, zb_some, zx_nI (show i < 48 by omega) (by decide), zg_t, nI_clamp (by omega), p1, zb_some, zx_nI (show N + i < 48 by omega) (by decide), zg_t, nI_clamp (by omega), nI_1]
    exact e5
