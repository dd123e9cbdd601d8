/-! draws -/
def lst (a : Nat) : Nat := a * 48271 % 2147483647
theorem lst_lt (a : Nat) : lst a < 2147483647 := Nat.mod_lt _ (by decide)
theorem lst_l {a : Nat} (ha : a < 2 ^ 31) : lN a * 48271 - lN a * 48271 / 2147483647 * 2147483647 = lN (lst a) := by
  rw [show (48271 : Int64) = lN 48271 from rfl, show (2147483647 : Int64) = lN 2147483647 from rfl, lN_mul, pk_lRem (by omega) (by decide) (by decide)]; rfl
theorem drw_l {b n : Nat} (hb : b < 2147483647) (h0 : 0 < n) (hn : n < 2 ^ 31) : (lN b / 16 - lN b / 16 / (nI n).toInt64 * (nI n).toInt64).toInt32 = nI (b / 16 % n) := by
  rw [nI_l hn, show (16 : Int64) = lN 16 from rfl, pk_lDiv (by omega) (by decide) (by decide), pk_lRem (by omega) h0 (by omega), lN_i]
theorem drw3 {z : zk_Z} {a n : Nat} (hz : z.2 0 = lN a) (ha : a < 2 ^ 31) (h0 : 0 < n) (hn : n < 2 ^ 31) : fX3_draw (nI n) z = some (nI (lst a / 16 % n), zk_sL z 0 (lN (lst a))) := by
  rw [fX3_draw, if_pos (by rw [show (1 : Int32) = nI 1 from rfl, nI_leI (by decide) hn]; omega), hz, lst_l ha, show (zk_sL z 0 (lN (lst a))).2 0 = lN (lst a) from rfl, drw_l (lst_lt a) h0 hn, show zk_nzl (nI n).toInt64 = true from by rw [nI_l hn]; exact nzl_lN (by omega) hn, zg_t]
theorem drw9 {z : zk_Z} {a n : Nat} (hz : z.2 1 = lN a) (ha : a < 2 ^ 31) (h0 : 0 < n) (hn : n < 2 ^ 31) : fX9_draw (nI n) z = some (nI (lst a / 16 % n), zk_sL z 1 (lN (lst a))) := by
  rw [fX9_draw, hz, lst_l ha, show (zk_sL z 1 (lN (lst a))).2 1 = lN (lst a) from rfl, drw_l (lst_lt a) h0 hn, show zk_nzl (nI n).toInt64 = true from by rw [nI_l hn]; exact nzl_lN (by omega) hn, zg_t]
/-- of those from b on, d of them, that P takes: how many; the one with place p -/
def cP (P : Nat → Bool) : Nat → Nat → Nat
  | 0, _ => 0
  | d + 1, b => (P b).toNat + cP P d (b + 1)
def kP (P : Nat → Bool) : Nat → Nat → Nat → Nat
  | 0, b, _ => b
  | d + 1, b, p => if P b = true then (if p = 0 then b else kP P d (b + 1) (p - 1)) else kP P d (b + 1) p
theorem kP_in {P : Nat → Bool} : ∀ d b p, p < cP P d b → b ≤ kP P d b p ∧ kP P d b p < b + d ∧ P (kP P d b p) = true := by
  intro d
  induction d with
  | zero => intro b p h; exact absurd h (Nat.not_lt_zero _)
  | succ d ih =>
    intro b p h
    rw [cP] at h
    rw [kP]
    cases hb : P b with
    | true =>
      rw [hb] at h
      rw [if_pos rfl]
      by_cases h0 : p = 0
      · rw [if_pos h0]; exact ⟨Nat.le_refl _, by omega, hb⟩
      · rw [if_neg h0]; have := ih (b + 1) (p - 1) (by simp at h; omega); exact ⟨by omega, by omega, this.2.2⟩
    | false =>
      rw [hb] at h
      rw [if_neg (by decide)]; have := ih (b + 1) p (by simpa using h); exact ⟨by omega, by omega, this.2.2⟩
theorem kP_inj {P : Nat → Bool} : ∀ d b p q, p < cP P d b → q < cP P d b → kP P d b p = kP P d b q → p = q := by
  intro d
  induction d with
  | zero => intro b p q h; exact absurd h (Nat.not_lt_zero _)
  | succ d ih =>
    intro b p q hp hq e
    rw [cP] at hp hq
    rw [kP, kP] at e
    cases hb : P b with
    | true =>
      rw [hb] at hp hq e
      simp only [Bool.toNat_true, if_true] at hp hq e
      by_cases h0 : p = 0
      · by_cases h1 : q = 0
        · omega
        · rw [if_pos h0, if_neg h1] at e
          have := kP_in (P := P) d (b + 1) (q - 1) (by omega)
          omega
      · by_cases h1 : q = 0
        · rw [if_neg h0, if_pos h1] at e
          have := kP_in (P := P) d (b + 1) (p - 1) (by omega)
          omega
        · rw [if_neg h0, if_neg h1] at e
          have := ih (b + 1) (p - 1) (q - 1) (by omega) (by omega) e
          omega
    | false =>
      rw [hb] at hp hq e
      rw [if_neg (by decide), if_neg (by decide)] at e
      exact ih (b + 1) p q (by simpa using hp) (by simpa using hq) e
theorem kP_sur {P : Nat → Bool} : ∀ d b j, b ≤ j → j < b + d → P j = true → ∃ p, p < cP P d b ∧ kP P d b p = j := by
  intro d
  induction d with
  | zero => intro b j h1 h2; omega
  | succ d ih =>
    intro b j h1 h2 h3
    by_cases h : j = b
    · subst h
      exact ⟨0, by rw [cP, h3]; simp only [Bool.toNat_true]; omega, by rw [kP, if_pos h3, if_pos rfl]⟩
    · obtain ⟨p, hp, e⟩ := ih (b + 1) j (by omega) (by omega) h3
      cases hb : P b with
      | true => exact ⟨p + 1, by rw [cP, hb]; simp only [Bool.toNat_true]; omega, by rw [kP, if_pos hb, if_neg (by omega)]; exact e⟩
      | false => exact ⟨p, by rw [cP, hb]; simpa using hp, by rw [kP, if_neg (by rw [hb]; decide)]; exact e⟩
theorem cP_congr {P Q : Nat → Bool} : ∀ d b, (∀ j, b ≤ j → j < b + d → P j = Q j) → cP P d b = cP Q d b := by
  intro d
  induction d with
  | zero => intro b _; rfl
  | succ d ih => intro b h; rw [cP, cP, h b (by omega) (by omega), ih (b + 1) (fun j h1 h2 => h j (by omega) (by omega))]
theorem kP_congr {P Q : Nat → Bool} : ∀ d b p, (∀ j, b ≤ j → j < b + d → P j = Q j) → kP P d b p = kP Q d b p := by
  intro d
  induction d with
  | zero => intro b p _; rfl
  | succ d ih => intro b p h; rw [kP, kP, h b (by omega) (by omega), ih (b + 1) _ (fun j h1 h2 => h j (by omega) (by omega)), ih (b + 1) _ (fun j h1 h2 => h j (by omega) (by omega))]
/-- one of them taken away -/
theorem cP_rem {P Q : Nat → Bool} {j : Nat} : ∀ d b, b ≤ j → j < b + d → P j = true → (∀ i, Q i = (P i && !decide (i = j))) → cP P d b = cP Q d b + 1 := by
  intro d
  induction d with
  | zero => intro b h1 h2; omega
  | succ d ih =>
    intro b h1 h2 h3 h4
    rw [cP, cP, h4 b]
    by_cases h : b = j
    · subst h
      rw [h3, cP_congr (P := P) (Q := Q) d (b + 1) (fun i h5 h6 => by rw [h4 i, decide_eq_false (by omega)]; simp)]
      simp; omega
    · rw [decide_eq_false h, ih (b + 1) (by omega) (by omega) h3 h4]; simp; omega
theorem cP_split (P : Nat → Bool) : ∀ d e b, cP P (d + e) b = cP P d b + cP P e (b + d) := by
  intro d
  induction d with
  | zero => intro e b; simp [cP]
  | succ d ih => intro e b; rw [show d + 1 + e = (d + e) + 1 by omega, cP, cP, ih, show b + 1 + d = b + (d + 1) by omega]; omega
theorem kP_more {P : Nat → Bool} : ∀ d e b p, p < cP P d b → kP P (d + e) b p = kP P d b p := by
  intro d
  induction d with
  | zero => intro e b p h; exact absurd h (Nat.not_lt_zero _)
  | succ d ih =>
    intro e b p h
    rw [cP] at h
    rw [show d + 1 + e = (d + e) + 1 by omega, kP, kP]
    cases hb : P b with
    | true =>
      rw [hb] at h
      simp only [Bool.toNat_true, if_true] at h ⊢
      by_cases h0 : p = 0
      · rw [if_pos h0, if_pos h0]
      · rw [if_neg h0, if_neg h0, ih e (b + 1) (p - 1) (by omega)]
    | false =>
      rw [hb] at h
      rw [if_neg (by decide), if_neg (by decide), ih e (b + 1) p (by simpa using h)]
/-- the class's bit with a place -/
theorem bitAt3_L (z : zk_Z) {F : Nat} (hF : F < 1024) : ∀ d m b g q, b + d = 10 → d < m → g ≤ q → q - g < cP F.testBit d b → q ≤ 100 → fX3_bitAt_L4 m (nI F) (nI q) (nI g) (nI b) z = some (nI (2 ^ kP F.testBit d b (q - g)), z) := by
  intro d
  induction d with
  | zero => intro m b g q h1 h2 h3 h4; exact absurd h4 (Nat.not_lt_zero _)
  | succ d ih =>
    intro m b g q h1 h2 h3 h4 h5
    obtain ⟨m, rfl⟩ : ∃ j, m = j + 1 := ⟨m - 1, by omega⟩
    rw [cP] at h4
    rw [fX3_bitAt_L4, if_neg (by rw [show (10 : Int32) = nI 10 from rfl, nI_leI (by omega) (by omega)]; omega), nI_bit (by omega) (by omega), kP]
    cases hb : F.testBit b with
    | true =>
      rw [hb] at h4
      simp only [Bool.toNat_true] at h4
      rw [if_pos (by rfl), if_pos rfl]
      by_cases h : g = q
      · rw [if_pos (by rw [h]), if_pos (by omega), nI_shl (by omega)]
      · rw [if_neg (fun e => h (nI_inj (by omega) (by omega) e)), if_neg (by omega), fX3_bitAt_B31, nI_1, nI_1, ih m (b + 1) (g + 1) q (by omega) (by omega) (by omega) (by omega) h5, show q - (g + 1) = q - g - 1 by omega]
    | false =>
      rw [hb] at h4
      simp only [Bool.toNat_false, Nat.zero_add] at h4
      rw [if_neg (by decide), if_neg (by decide), fX3_bitAt_B31, nI_1, ih m (b + 1) g q (by omega) (by omega) h3 h4 h5]
theorem bitAt3 (z : zk_Z) {F q : Nat} (hF : F < 1024) (h : q < cP F.testBit 10 0) (hq : q ≤ 100) : fX3_bitAt (nI F) (nI q) z = some (nI (2 ^ kP F.testBit 10 0 q), z) :=
  bitAt3_L z hF 10 zk_FU 0 0 q (by omega) (by decide) (Nat.zero_le _) h hq
