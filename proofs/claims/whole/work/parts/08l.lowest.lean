/-! lowest terms -/
theorem gcd_step (a b : Nat) : Nat.gcd a b = Nat.gcd b (a % b) := by rw [Nat.gcd_comm, Nat.gcd_rec, Nat.gcd_comm]
theorem nz_nI {b : Nat} (h0 : b ≠ 0) (h : b < 2 ^ 31) : zk_nz (nI b) = true := by
  show (!decide (nI b = 0)) = true
  rw [decide_eq_false (fun q => h0 (nI_inj (by omega) (by decide) (q.trans (show (0 : Int32) = nI 0 from rfl))))]; rfl
theorem nzl_lN {b : Nat} (h0 : b ≠ 0) (h : b < 2 ^ 31) : zk_nzl (lN b) = true := by
  show (!decide (lN b = 0)) = true
  rw [decide_eq_false (fun q => h0 ((lN_eq h (by decide)).mp (q.trans (show (0 : Int64) = lN 0 from rfl))))]; rfl
theorem nI_z {b : Nat} (h : b < 2 ^ 31) : (nI b = 0) ↔ b = 0 := ⟨fun q => nI_inj (by omega) (by decide) (q.trans (show (0 : Int32) = nI 0 from rfl)), fun q => by rw [q]; rfl⟩
theorem lN_0 {b : Nat} (h : b < 2 ^ 31) : (lN b = 0) ↔ b = 0 := ⟨fun q => (lN_eq h (by decide)).mp (q.trans (show (0 : Int64) = lN 0 from rfl)), fun q => by rw [q]; rfl⟩
theorem half {a b : Nat} (h : a % b ≠ 0) (hb : b ≠ 0) : 2 * (b % (a % b)) < b := by
  have h1 : a % b < b := Nat.mod_lt _ (by omega)
  have h2 : b % (a % b) < a % b := Nat.mod_lt _ (by omega)
  have h3 := Nat.div_add_mod b (a % b)
  have h4 : 0 < b / (a % b) := Nat.div_pos (by omega) (by omega)
  have h5 : a % b * 1 ≤ a % b * (b / (a % b)) := Nat.mul_le_mul_left _ h4
  omega
theorem gcd8_L (z : zk_Z) : ∀ j a b c m, b < 2 ^ j → a < 2 ^ 31 → b < 2 ^ 31 → c + 2 * j + 1 ≤ 100 → 2 * j + 1 ≤ m → fX8_greatestShared_L7 m (nI a) (nI b) (nI c) z = some (nI (Nat.gcd a b), z) := by
  have hs : ∀ m a c, c < 100 → fX8_greatestShared_L7 (m + 1) (nI a) (nI 0) (nI c) z = some (nI (Nat.gcd a 0), z) := by
    intro m a c h
    rw [fX8_greatestShared_L7, if_neg (by rw [show (100 : Int32) = nI 100 from rfl, nI_leI (by omega) (by omega)]; omega), if_pos (by rfl), Nat.gcd_zero_right]
  have hn : ∀ m a b c, c < 100 → a < 2 ^ 31 → b < 2 ^ 31 → b ≠ 0 → fX8_greatestShared_L7 (m + 1) (nI a) (nI b) (nI c) z = fX8_greatestShared_L7 m (nI b) (nI (a % b)) (nI (c + 1)) z := by
    intro m a b c h h1 h2 h3
    rw [fX8_greatestShared_L7, if_neg (by rw [show (100 : Int32) = nI 100 from rfl, nI_leI (by omega) (by omega)]; omega), if_neg (fun q => h3 ((nI_z h2).mp q)), nz_nI h3 h2, zg_t, pk_rem h1 (by omega) h2, nI_1]
  intro j
  induction j with
  | zero =>
    intro a b c m h1 h2 h3 h4 h5
    obtain ⟨m, rfl⟩ : ∃ i, m = i + 1 := ⟨m - 1, by omega⟩
    obtain rfl : b = 0 := by simpa using h1
    exact hs m a c (by omega)
  | succ j ih =>
    intro a b c m h1 h2 h3 h4 h5
    obtain ⟨m, rfl⟩ : ∃ i, m = i + 2 := ⟨m - 2, by omega⟩
    by_cases h0 : b = 0
    · rw [h0]; exact hs _ a c (by omega)
    · rw [hn (m + 1) a b c (by omega) h2 h3 h0, gcd_step]
      have hb := Nat.mod_lt a (show 0 < b by omega)
      by_cases h6 : a % b = 0
      · rw [h6]; exact hs _ b _ (by omega)
      · have hh := half h6 h0
        rw [hn m b (a % b) _ (by omega) h3 (by omega) h6, gcd_step]
        exact ih _ _ _ m (by rw [Nat.pow_succ] at h1; omega) (by omega) (by omega) (by omega) (by omega)
def lw (a0 a2 : Int64) (a4 : Int32) (g : Nat) (z : zk_Z) : Option (Int64 × zk_Z) := if a0 = 0 then some (a4.toInt64, z) else if a4 = 0 then fX9_lowest_B64 (lN g) a0 z else fX9_lowest_B64 (lN g) a2 z
theorem gcd9_L (z : zk_Z) (a0 a2 : Int64) (a4 : Int32) : ∀ j a b m, b < 2 ^ j → a < 2 ^ 31 → b < 2 ^ 31 → 2 * j + 1 ≤ m → fX9_lowest_L17 m a0 a2 a4 (lN a) (lN b) z = lw a0 a2 a4 (Nat.gcd a b) z := by
  have hs : ∀ m a, fX9_lowest_L17 (m + 1) a0 a2 a4 (lN a) (lN 0) z = lw a0 a2 a4 (Nat.gcd a 0) z := by
    intro m a
    unfold lw
    rw [fX9_lowest_L17, if_pos ((lg_cmp_eq (lN 0) 0).mpr rfl), Nat.gcd_zero_right]
    by_cases h : a0 = 0
    · rw [if_pos ((lg_cmp_eq _ _).mpr h), if_pos h]
    · rw [if_neg (fun q => h ((lg_cmp_eq _ _).mp q)), if_neg h]
  have hn : ∀ m a b, a < 2 ^ 31 → b < 2 ^ 31 → b ≠ 0 → fX9_lowest_L17 (m + 1) a0 a2 a4 (lN a) (lN b) z = fX9_lowest_L17 m a0 a2 a4 (lN b) (lN (a % b)) z := by
    intro m a b h1 h2 h3
    rw [fX9_lowest_L17, if_neg (fun q => h3 ((lN_0 h2).mp ((lg_cmp_eq _ _).mp q))), nzl_lN h3 h2, zg_t, pk_lRem (by omega) (by omega) (by omega)]
  intro j
  induction j with
  | zero =>
    intro a b m h1 h2 h3 h5
    obtain ⟨m, rfl⟩ : ∃ i, m = i + 1 := ⟨m - 1, by omega⟩
    obtain rfl : b = 0 := by simpa using h1
    exact hs m a
  | succ j ih =>
    intro a b m h1 h2 h3 h5
    obtain ⟨m, rfl⟩ : ∃ i, m = i + 2 := ⟨m - 2, by omega⟩
    by_cases h0 : b = 0
    · rw [h0]; exact hs _ a
    · rw [hn (m + 1) a b h2 h3 h0, gcd_step]
      have hb := Nat.mod_lt a (show 0 < b by omega)
      by_cases h6 : a % b = 0
      · rw [h6]; exact hs _ b
      · have hh := half h6 h0
        rw [hn m b (a % b) h3 (by omega) h6, gcd_step]
        exact ih _ _ m (by rw [Nat.pow_succ] at h1; omega) (by omega) (by omega) (by omega)
theorem div_l {v : Int32} {g : Nat} (hv : -(2 ^ 30 : Int) ≤ v.toInt ∧ v.toInt ≤ 2 ^ 30) (hg0 : 0 < g) (hg : g < 2 ^ 30) : (v / nI g).toInt64 = v.toInt64 / lN g := by
  apply Int64.toInt_inj.mp
  rw [Int32.toInt_toInt64, Int32.toInt_div, Int64.toInt_div, Int32.toInt_toInt64, nI_toInt (by omega), lN_toInt (by omega)]
  have hb : -(2 ^ 30 : Int) ≤ v.toInt.tdiv g ∧ v.toInt.tdiv g ≤ 2 ^ 30 := by
    rcases Int.natAbs_eq v.toInt with e | e
    · rw [e, ← Int.ofNat_tdiv]
      have := Nat.div_le_self v.toInt.natAbs g
      generalize v.toInt.natAbs / g = k at this ⊢
      omega
    · rw [e, Int.neg_tdiv, ← Int.ofNat_tdiv]
      have := Nat.div_le_self v.toInt.natAbs g
      generalize v.toInt.natAbs / g = k at this ⊢
      omega
  rw [Int.bmod_eq_of_le (by omega) (by omega), Int.bmod_eq_of_le (by omega) (by omega)]
theorem low_eq {v : Int32} {p q b x : Nat} (z : zk_Z) (e : v = nI p - nI q) (hp : p < 2 ^ 16) (hq : q < 2 ^ 16) (hb : b < 2 ^ 16) (h0 : b = 0 → v = 0) (hx : x ≤ 1) : ∃ r, fX8_partInLowestTerms v (nI b) (nI x) z = some (r, z) ∧ fX9_lowest v.toInt64 (lN b) (nI x) z = some (r, z) := by
  have hv : v.toInt = (p : Int) - q := by rw [e]; exact pk_sub_toInt (by omega) (by omega)
  obtain ⟨P, hP, habs, habs9⟩ : ∃ P : Nat, P < 2 ^ 16 ∧ (if 0 ≤ v then v else 0 - v) = nI P ∧ (if 0 ≤ lg_cmp v.toInt64 0 then v.toInt64 else 0 - v.toInt64) = lN P := by
    by_cases h : q ≤ p
    · have e1 : v = nI (p - q) := by rw [e]; exact pk_sub h
      refine ⟨p - q, by omega, ?_, ?_⟩
      · rw [if_pos (by rw [e1, show (0 : Int32) = nI 0 from rfl, nI_leI (by omega) (by omega)]; omega), e1]
      · rw [if_pos ((lg_cmp_ge _ _).mpr (by rw [e1, nI_l (by omega), show (0 : Int64) = lN 0 from rfl, lN_le (by omega) (by omega)]; omega)), e1, nI_l (by omega)]
    · refine ⟨q - p, by omega, ?_, ?_⟩
      · rw [if_neg (by rw [Int32.le_iff_toInt_le, hv]; show ¬ (0 : Int) ≤ _; omega)]
        apply Int32.toInt_inj.mp
        rw [Int32.toInt_sub, hv, nI_toInt (by omega)]
        show Int.bmod (0 - _) _ = _
        rw [Int.bmod_eq_of_le (by omega) (by omega)]; omega
      · rw [if_neg (by rw [lg_cmp_ge, Int64.le_iff_toInt_le, Int32.toInt_toInt64, hv]; show ¬ (0 : Int) ≤ _; omega)]
        apply Int64.toInt_inj.mp
        rw [Int64.toInt_sub, Int32.toInt_toInt64, hv, lN_toInt (by omega)]
        show Int.bmod (0 - _) _ = _
        rw [Int.bmod_eq_of_le (by omega) (by omega)]; omega
  have hv0 : v.toInt64 = 0 ↔ v = 0 := by
    constructor
    · intro h; apply Int32.toInt_inj.mp; rw [← Int32.toInt_toInt64, h]; rfl
    · intro h; rw [h]; rfl
  have h9 : fX9_lowest v.toInt64 (lN b) (nI x) z = lw v.toInt64 (lN b) (nI x) (Nat.gcd P b) z := by
    rw [fX9_lowest]
    have := gcd9_L z v.toInt64 (lN b) (nI x) 16 P b zk_FU hb (by omega) (by omega) (by decide)
    by_cases h : 0 ≤ lg_cmp v.toInt64 0
    · rw [if_pos h] at habs9 ⊢; rw [fX9_lowest_B12, show fX9_lowest_L17 zk_FU v.toInt64 (lN b) (nI x) v.toInt64 (lN b) z = fX9_lowest_L17 zk_FU v.toInt64 (lN b) (nI x) (lN P) (lN b) z by rw [← habs9]]; exact this
    · rw [if_neg h] at habs9 ⊢; rw [fX9_lowest_B12, habs9]; exact this
  rw [h9, fX8_partInLowestTerms]
  unfold lw
  by_cases h : v = 0
  · rw [if_pos h, if_pos (hv0.mpr h)]; exact ⟨_, rfl, rfl⟩
  · have hb0 : b ≠ 0 := fun q => h (h0 q)
    have hg0 : 0 < Nat.gcd P b := Nat.gcd_pos_of_pos_right _ (by omega)
    have hgb : Nat.gcd P b ≤ b := Nat.gcd_le_right _ (by omega)
    rw [if_neg h, if_neg (fun q => h (hv0.mp q)), if_neg (fun q => hb0 ((nI_z (by omega)).mp q)), habs, fX8_greatestShared, show (0 : Int32) = nI 0 from rfl, gcd8_L z 16 P b 0 zk_FU hb (by omega) (by omega) (by decide) (by decide), zb_some]
    rcases (show x = 0 ∨ x = 1 by omega) with rfl | rfl
    · rw [if_pos rfl, if_pos rfl, fX8_partInLowestTerms_B29, fX9_lowest_B64, if_neg (fun q => by have := (nI_z (by omega)).mp q; omega), nz_nI (by omega) (by omega), nzl_lN (by omega) (by omega), zg_t, zg_t]
      exact ⟨_, rfl, by rw [div_l (by omega) hg0 (by omega)]⟩
    · rw [if_neg (by decide), if_neg (by decide), fX8_partInLowestTerms_B29, fX9_lowest_B64, if_neg (fun q => by have := (nI_z (by omega)).mp q; omega), nz_nI (by omega) (by omega), nzl_lN (by omega) (by omega), zg_t, zg_t]
      refine ⟨_, rfl, ?_⟩
      rw [pk_div (by omega) hg0 (by omega), pk_lDiv (by omega) hg0 (by omega), nI_l]
      have := Nat.div_le_self b (Nat.gcd P b)
      omega
