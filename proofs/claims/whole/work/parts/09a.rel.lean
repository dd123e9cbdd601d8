/-! the class's memory and the reference's say the same -/
def tkR (z : zk_Z) (t : Nat) : Prop := ∃ (kd n C : Nat) (P A : Nat → Nat) (H : Option Nat), TC z t kd n C P A ∧ TM z t kd n C P A ∧ TOK kd n C P A ∧ (∀ h, H = some h → h < 2 ^ n) ∧ (z.1 7 t 3 = oi H ∧ z.1 30 0 t = oi H) ∧ z.1 31 0 t = z.1 7 t 4 ∧ z.1 32 0 t = z.1 7 t 5
def rcR (z : zk_Z) (r : Nat) : Prop := ∃ (kd n C w : Nat) (W : Nat → Nat), RC z r kd n C w W ∧ RM z r kd n C w W ∧ ROK kd n C w W ∧ 0 < alS W w (w + 1) 0 0
def clR (z : zk_Z) (k nt : Nat) : Prop := ∃ t s st : Nat, (z.1 11 k 0 = nI t ∧ z.1 35 0 k = nI t ∧ t < nt) ∧ (z.1 11 k 1 = nI s ∧ z.1 36 0 k = nI s ∧ 1 ≤ s ∧ s ≤ 2000) ∧ (z.1 11 k 2 = nI st ∧ z.1 37 0 k = nI st ∧ st ≤ 2) ∧ z.1 38 0 k = z.1 11 k 3
def shR (z : zk_Z) (s : Nat) : Prop := ∃ (so : Option Nat) (sz : Nat), (sz ≤ 40 ∧ z.1 13 s 1 = nI sz ∧ z.1 40 0 s = nI sz) ∧ (z.1 13 s 0 = oi so ∧ z.1 39 0 s = oi so ∧ ∀ q, so = some q → q ≤ 2) ∧ ∀ i, i < 40 → z.1 41 0 (40 * s + i) = z.1 14 s i
def imR (z : zk_Z) (nt : Nat) : Prop := (z.1 0 0 14 = -1 ∧ z.1 20 0 22 = 0) ∨ ∃ m : Nat, m ≤ nt ∧ z.1 0 0 14 = nI m ∧ z.1 20 0 22 = 1 ∧ z.1 20 0 23 = nI m
def tpR (z : zk_Z) (tp : Nat) : Prop := (tp ≤ 80 ∧ z.1 1 0 1 = nI tp ∧ z.1 20 0 1 = nI tp) ∧ ∀ i, i < tp → ∃ b : Nat, b < 256 ∧ z.1 2 0 i = nI b ∧ z.1 21 0 i = nI b
def Rl (z : zk_Z) (nt nr nk tp : Nat) : Prop := ((nt ≤ 8 ∧ z.1 0 0 12 = nI nt ∧ z.1 20 0 8 = nI nt) ∧ (nr ≤ 6 ∧ z.1 0 0 11 = nI nr ∧ z.1 20 0 2 = nI nr) ∧ (nk ≤ 20 ∧ z.1 0 0 13 = nI nk ∧ z.1 20 0 17 = nI nk)) ∧ tpR z tp ∧ (∀ t, t < nt → tkR z t) ∧ (∀ r, r < nr → rcR z r) ∧ (∀ k, k < nk → clR z k nt) ∧ (∀ s, s < 4 → shR z s) ∧ imR z nt
def Rx (z : zk_Z) : Prop := ∃ nt nr nk tp : Nat, Rl z nt nr nk tp
def Ok {α : Type} (f g : zk_Z → Option (α × zk_Z)) (z : zk_Z) : Prop := ∃ (r : α) (z1 z2 : zk_Z), f z = some (r, z1) ∧ g z1 = some (r, z2) ∧ Rx z2
/-- with the same words in the live cells -/
theorem tkR_fr {z z' : zk_Z} {t : Nat} (h : fr z z') (ht : t < 8) (T : tkR z t) : tkR z' t := by
  obtain ⟨kd, n, C, P, A, H, h1, h2, h3, h4, h5, h6, h7⟩ := T
  refine ⟨kd, n, C, P, A, H, TC_fr h ht h1, TM_fr h ht h3.1.2.2.2 h2, h3, h4, ⟨?_, ?_⟩, ?_, ?_⟩
  · rw [h 7 t 3 (by unfold jk; omega)]; exact h5.1
  · rw [h 30 0 t (by unfold jk; omega)]; exact h5.2
  · rw [h 31 0 t (by unfold jk; omega), h 7 t 4 (by unfold jk; omega)]; exact h6
  · rw [h 32 0 t (by unfold jk; omega), h 7 t 5 (by unfold jk; omega)]; exact h7
theorem rcR_fr {z z' : zk_Z} {r : Nat} (h : fr z z') (T : rcR z r) : rcR z' r := by
  obtain ⟨kd, n, C, w, W, h1, h2, h3⟩ := T
  exact ⟨kd, n, C, w, W, RC_fr h h1, RM_fr h h2, h3⟩
theorem clR_fr {z z' : zk_Z} {k nt : Nat} (h : fr z z') (T : clR z k nt) : clR z' k nt := by
  obtain ⟨t, s, st, ⟨a1, a2, a3⟩, ⟨b1, b2, b3⟩, ⟨c1, c2, c3⟩, d⟩ := T
  refine ⟨t, s, st, ⟨?_, ?_, a3⟩, ⟨?_, ?_, b3⟩, ⟨?_, ?_, c3⟩, ?_⟩
  · rw [h 11 k 0 (by unfold jk; omega)]; exact a1
  · rw [h 35 0 k (by unfold jk; omega)]; exact a2
  · rw [h 11 k 1 (by unfold jk; omega)]; exact b1
  · rw [h 36 0 k (by unfold jk; omega)]; exact b2
  · rw [h 11 k 2 (by unfold jk; omega)]; exact c1
  · rw [h 37 0 k (by unfold jk; omega)]; exact c2
  · rw [h 38 0 k (by unfold jk; omega), h 11 k 3 (by unfold jk; omega)]; exact d
theorem shR_fr {z z' : zk_Z} {s : Nat} (h : fr z z') (T : shR z s) : shR z' s := by
  obtain ⟨so, sz, ⟨a1, a2, a3⟩, ⟨b1, b2, b3⟩, c⟩ := T
  refine ⟨so, sz, ⟨a1, ?_, ?_⟩, ⟨?_, ?_, b3⟩, fun i hi => ?_⟩
  · rw [h 13 s 1 (by unfold jk; omega)]; exact a2
  · rw [h 40 0 s (by unfold jk; omega)]; exact a3
  · rw [h 13 s 0 (by unfold jk; omega)]; exact b1
  · rw [h 39 0 s (by unfold jk; omega)]; exact b2
  · rw [h 41 0 (40 * s + i) (by unfold jk; omega), h 14 s i (by unfold jk; omega)]; exact c i hi
theorem imR_fr {z z' : zk_Z} {nt : Nat} (h : fr z z') (T : imR z nt) : imR z' nt := by
  unfold imR
  rw [h 0 0 14 (by unfold jk; omega), h 20 0 22 (by unfold jk; omega), h 20 0 23 (by unfold jk; omega)]
  exact T
theorem tpR_fr {z z' : zk_Z} {tp : Nat} (h : fr z z') (T : tpR z tp) : tpR z' tp := by
  obtain ⟨⟨a1, a2, a3⟩, b⟩ := T
  refine ⟨⟨a1, ?_, ?_⟩, fun i hi => ?_⟩
  · rw [h 1 0 1 (by unfold jk; omega)]; exact a2
  · rw [h 20 0 1 (by unfold jk; omega)]; exact a3
  · rw [h 2 0 i (by unfold jk; omega), h 21 0 i (by unfold jk; omega)]; exact b i hi
theorem Rl_fr {z z' : zk_Z} {nt nr nk tp : Nat} (h : fr z z') (R : Rl z nt nr nk tp) : Rl z' nt nr nk tp := by
  obtain ⟨⟨⟨a1, a2, a3⟩, ⟨b1, b2, b3⟩, ⟨c1, c2, c3⟩⟩, d, e, f, g, i, j⟩ := R
  refine ⟨⟨⟨a1, ?_, ?_⟩, ⟨b1, ?_, ?_⟩, ⟨c1, ?_, ?_⟩⟩, tpR_fr h d, fun t ht => tkR_fr h (by omega) (e t ht), fun r hr => rcR_fr h (f r hr), fun k hk => clR_fr h (g k hk), fun s hs => shR_fr h (i s hs), imR_fr h j⟩
  · rw [h 0 0 12 (by unfold jk; omega)]; exact a2
  · rw [h 20 0 8 (by unfold jk; omega)]; exact a3
  · rw [h 0 0 11 (by unfold jk; omega)]; exact b2
  · rw [h 20 0 2 (by unfold jk; omega)]; exact b3
  · rw [h 0 0 13 (by unfold jk; omega)]; exact c2
  · rw [h 20 0 17 (by unfold jk; omega)]; exact c3
theorem Ok_eq {α : Type} {f g : zk_Z → Option (α × zk_Z)} {z : zk_Z} (r : α) (R : Rx z) (h1 : f z = some (r, z)) (h2 : g z = some (r, z)) : Ok f g z := ⟨r, z, z, h1, h2, R⟩
theorem Ok_fr {α : Type} {f g : zk_Z → Option (α × zk_Z)} {z : zk_Z} {nt nr nk tp : Nat} (r : α) (z1 z2 : zk_Z) (R : Rl z nt nr nk tp) (h1 : f z = some (r, z1)) (h2 : g z1 = some (r, z2)) (f1 : fr z z1) (f2 : fr z1 z2) : Ok f g z := ⟨r, z1, z2, h1, h2, nt, nr, nk, tp, Rl_fr (fr_trans f1 f2) R⟩
/-- the reference's bounds -/
theorem in9_neg {x h : Int32} (z : zk_Z) (hx : x < 0) : fX9_in x 0 h z = some (0, z) := by rw [fX9_in, if_pos hx]
theorem nI_tI {n : Nat} (h : n < 2 ^ 30) : (nI n).toInt = (n : Int) := by
  have e := pk_sub_toInt h (b := 0) (by decide)
  rw [show nI n - nI 0 = nI n from Int32.sub_zero _] at e
  rw [e]; simp
theorem in9_big {x : Int32} {h : Nat} (z : zk_Z) {l : Int32} (hh : h < 2 ^ 29) (hx : nI (h + 1) ≤ x) : fX9_in x l (nI h) z = some (0, z) := by
  have h1 : nI h < x := by
    have e := Int32.le_iff_toInt_le.mp hx
    rw [nI_tI (by omega)] at e
    rw [Int32.lt_iff_toInt_lt, nI_tI (by omega)]
    omega
  rw [fX9_in, if_pos h1]
  split <;> rfl
theorem in9_in {j l h : Nat} (z : zk_Z) (h1 : l ≤ j) (h2 : j ≤ h) (hh : h < 2 ^ 30) : fX9_in (nI j) (nI l) (nI h) z = some (1, z) := by
  rw [fX9_in, if_neg (by rw [nI_ltI (by omega) (by omega)]; omega), if_neg (by rw [nI_ltI (by omega) (by omega)]; omega)]
theorem in9_c0 {x : Int32} (z : zk_Z) : fX9_in x 0 (nI 0 - 1) z = some (0, z) := by
  rw [fX9_in]
  split
  · rfl
  · rename_i h
    have h1 : nI 0 - 1 < x := by
      rw [Int32.lt_iff_toInt_lt] at h ⊢
      have e : (nI 0 - 1).toInt = -1 := by decide
      have e2 : (0 : Int32).toInt = 0 := by decide
      rw [e]
      omega
    rw [if_pos h1]
/-- below a count, or not -/
theorem in9_cnt {x : Int32} {c : Nat} (z : zk_Z) (hc : c < 2 ^ 29) : (∃ j, j < c ∧ x = nI j ∧ fX9_in x 0 (nI c - 1) z = some (1, z)) ∨ ((x < 0 ∨ nI c ≤ x) ∧ fX9_in x 0 (nI c - 1) z = some (0, z)) := by
  rcases pk_ix x (n := c) (by omega) with h | h | ⟨j, hj, rfl⟩
  · exact Or.inr ⟨Or.inl h, in9_neg z h⟩
  · refine Or.inr ⟨Or.inr h, ?_⟩
    cases c with
    | zero => exact in9_c0 z
    | succ c => rw [nI_sub1]; exact in9_big z (by omega) h
  · obtain ⟨c, rfl⟩ : ∃ q, c = q + 1 := ⟨c - 1, by omega⟩
    refine Or.inl ⟨j, hj, rfl, ?_⟩
    rw [nI_sub1, show (0 : Int32) = nI 0 from rfl]
    exact in9_in z (Nat.zero_le _) (by omega) (by omega)
theorem task_at {z : zk_Z} {nt nr nk tp : Nat} (R : Rl z nt nr nk tp) (x : Int32) : (∃ t, t < nt ∧ x = nI t ∧ fX8_taskAt x z = some (some t, z) ∧ fX9_isTask x z = some (1, z)) ∨ ((x < 0 ∨ nI nt ≤ x) ∧ fX8_taskAt x z = some (none, z) ∧ fX9_isTask x z = some (0, z)) := by
  obtain ⟨⟨⟨a1, a2, a3⟩, -, -⟩, -⟩ := R
  rcases in9_cnt (x := x) (c := nt) z (by omega) with ⟨j, hj, rfl, h⟩ | ⟨h, h'⟩
  · refine Or.inl ⟨j, hj, rfl, ?_, ?_⟩
    · rw [fX8_taskAt, if_neg (nI_lt0 (by omega)), a2, if_neg (by rw [nI_leI (by omega) (by omega)]; omega), zx_nI (by omega) (by decide), zg_t, nI_clamp (by omega)]
    · rw [fX9_isTask, a3, h, zb_some]; rfl
  · refine Or.inr ⟨h, ?_, ?_⟩
    · rw [fX8_taskAt, a2]
      rcases h with h | h
      · rw [if_pos h]
      · rw [if_pos h]
        split <;> rfl
    · rw [fX9_isTask, a3, h', zb_some]; rfl
theorem rec_at {z : zk_Z} {nt nr nk tp : Nat} (R : Rl z nt nr nk tp) (x : Int32) : (∃ t, t < nr ∧ x = nI t ∧ fX8_recipeAt x z = some (some t, z) ∧ fX9_isRecipe x z = some (1, z)) ∨ ((x < 0 ∨ nI nr ≤ x) ∧ fX8_recipeAt x z = some (none, z) ∧ fX9_isRecipe x z = some (0, z)) := by
  obtain ⟨⟨-, ⟨a1, a2, a3⟩, -⟩, -⟩ := R
  rcases in9_cnt (x := x) (c := nr) z (by omega) with ⟨j, hj, rfl, h⟩ | ⟨h, h'⟩
  · refine Or.inl ⟨j, hj, rfl, ?_, ?_⟩
    · rw [fX8_recipeAt, if_neg (nI_lt0 (by omega)), a2, if_neg (by rw [nI_leI (by omega) (by omega)]; omega), zx_nI (by omega) (by decide), zg_t, nI_clamp (by omega)]
    · rw [fX9_isRecipe, a3, h, zb_some]; rfl
  · refine Or.inr ⟨h, ?_, ?_⟩
    · rw [fX8_recipeAt, a2]
      rcases h with h | h
      · rw [if_pos h]
      · rw [if_pos h]
        split <;> rfl
    · rw [fX9_isRecipe, a3, h', zb_some]; rfl
theorem clm_at {z : zk_Z} {nt nr nk tp : Nat} (R : Rl z nt nr nk tp) (x : Int32) : (∃ t, t < nk ∧ x = nI t ∧ fX8_claimAt x z = some (some t, z) ∧ fX9_isClaim x z = some (1, z)) ∨ ((x < 0 ∨ nI nk ≤ x) ∧ fX8_claimAt x z = some (none, z) ∧ fX9_isClaim x z = some (0, z)) := by
  obtain ⟨⟨-, -, ⟨a1, a2, a3⟩⟩, -⟩ := R
  rcases in9_cnt (x := x) (c := nk) z (by omega) with ⟨j, hj, rfl, h⟩ | ⟨h, h'⟩
  · refine Or.inl ⟨j, hj, rfl, ?_, ?_⟩
    · rw [fX8_claimAt, if_neg (nI_lt0 (by omega)), a2, if_neg (by rw [nI_leI (by omega) (by omega)]; omega), zx_nI (by omega) (by decide), zg_t, nI_clamp (by omega)]
    · rw [fX9_isClaim, a3, h, zb_some]; rfl
  · refine Or.inr ⟨h, ?_, ?_⟩
    · rw [fX8_claimAt, a2]
      rcases h with h | h
      · rw [if_pos h]
      · rw [if_pos h]
        split <;> rfl
    · rw [fX9_isClaim, a3, h', zb_some]; rfl
