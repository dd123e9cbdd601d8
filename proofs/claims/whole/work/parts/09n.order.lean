/-! orders of the letters -/
def orF (v : Nat → Nat) : Nat → Nat → Nat → Nat
  | 0, _, S => S
  | d + 1, i, S => orF v d (i + 1) (S ||| 2 ^ v i)
def gdB (v : Nat → Nat) : Nat → Nat → Nat → Bool
  | 0, _, _ => true
  | d + 1, i, S => !(S.testBit (v i)) && gdB v d (i + 1) (S ||| 2 ^ v i)
theorem cP_le (P : Nat → Bool) : ∀ d b, cP P d b ≤ d := by
  intro d
  induction d with
  | zero => intro b; exact Nat.le_refl _
  | succ d ih => intro b; have := ih (b + 1); rw [cP]; cases P b <;> simp <;> omega
theorem cP_all {P : Nat → Bool} : ∀ d b, (∀ j, b ≤ j → j < b + d → P j = true) → cP P d b = d := by
  intro d
  induction d with
  | zero => intro b _; rfl
  | succ d ih => intro b h; rw [cP, ih (b + 1) (fun j h1 h2 => h j (by omega) (by omega)), h b (Nat.le_refl _) (by omega)]; simp; omega
theorem cP_full {P : Nat → Bool} : ∀ d b, cP P d b = d → ∀ j, b ≤ j → j < b + d → P j = true := by
  intro d
  induction d with
  | zero => intro b _ j h1 h2; omega
  | succ d ih =>
    intro b h j h1 h2
    have hl := cP_le P d (b + 1)
    rw [cP] at h
    cases hb : P b with
    | false => rw [hb] at h; simp at h; omega
    | true =>
      rw [hb] at h
      by_cases e : j = b
      · rw [e]; exact hb
      · exact ih (b + 1) (by simp at h; omega) j (by omega) (by omega)
theorem cnt_add {n S q : Nat} (hq : q < n) (h : S.testBit q = false) : cP (S ||| 2 ^ q).testBit n 0 = cP S.testBit n 0 + 1 := by
  refine cP_rem (j := q) n 0 (Nat.zero_le _) (by omega) ?_ (fun i => ?_)
  · rw [Nat.testBit_or, Nat.testBit_two_pow, decide_eq_true rfl, Bool.or_true]
  · rw [Nat.testBit_or, Nat.testBit_two_pow]
    by_cases e : i = q
    · rw [e, h, decide_eq_true rfl]; rfl
    · rw [decide_eq_false (Ne.symm e), decide_eq_false e, Bool.or_false]; simp
theorem or_in {S q : Nat} (h : S.testBit q = true) : S ||| 2 ^ q = S := by
  apply Nat.eq_of_testBit_eq
  intro i
  rw [Nat.testBit_or, Nat.testBit_two_pow]
  by_cases e : q = i
  · rw [← e, h]; rfl
  · rw [decide_eq_false e, Bool.or_false]
theorem orF_cnt {n : Nat} {v : Nat → Nat} : ∀ d i S, (∀ j, i ≤ j → j < i + d → v j < n) → (cP (orF v d i S).testBit n 0 ≤ cP S.testBit n 0 + d) ∧ (gdB v d i S = true → cP (orF v d i S).testBit n 0 = cP S.testBit n 0 + d) ∧ (gdB v d i S = false → cP (orF v d i S).testBit n 0 < cP S.testBit n 0 + d) := by
  intro d
  induction d with
  | zero => intro i S _; exact ⟨Nat.le_refl _, fun _ => rfl, fun h => by cases h⟩
  | succ d ih =>
    intro i S hv
    have hi := hv i (Nat.le_refl _) (by omega)
    have := ih (i + 1) (S ||| 2 ^ v i) (fun j h1 h2 => hv j (by omega) (by omega))
    rw [orF, gdB]
    cases hb : S.testBit (v i) with
    | false =>
      rw [cnt_add hi hb] at this
      refine ⟨by omega, fun h => ?_, fun h => ?_⟩
      · have := this.2.1 (by simpa using h); omega
      · have := this.2.2 (by simpa using h); omega
    | true =>
      rw [or_in hb] at this ⊢
      exact ⟨by omega, fun h => by simp at h, fun _ => by omega⟩
theorem orF_lt {n : Nat} {v : Nat → Nat} : ∀ d i S, (∀ j, i ≤ j → j < i + d → v j < n) → S < 2 ^ n → orF v d i S < 2 ^ n := by
  intro d
  induction d with
  | zero => intro i S _ h; exact h
  | succ d ih =>
    intro i S hv h
    exact ih (i + 1) _ (fun j h1 h2 => hv j (by omega) (by omega)) (Nat.or_lt_two_pow h (Nat.pow_lt_pow_right (by decide) (hv i (Nat.le_refl _) (by omega))))
theorem full_eq {n S : Nat} (hS : S < 2 ^ n) : S = 2 ^ n - 1 ↔ cP S.testBit n 0 = n := by
  constructor
  · intro h
    refine cP_all n 0 (fun j _ h2 => ?_)
    rw [h, Nat.testBit_two_pow_sub_one]
    exact decide_eq_true (by omega)
  · intro h
    apply Nat.eq_of_testBit_eq
    intro i
    rw [Nat.testBit_two_pow_sub_one]
    by_cases e : i < n
    · rw [cP_full n 0 h i (Nat.zero_le _) (by omega), decide_eq_true e]
    · rw [decide_eq_false e, Nat.testBit_lt_two_pow (Nat.lt_of_lt_of_le hS (Nat.pow_le_pow_right (by decide) (by omega)))]
theorem cP_zero (n : Nat) : cP (0 : Nat).testBit n 0 = 0 := by
  have : ∀ d b, cP (0 : Nat).testBit d b = 0 := by
    intro d
    induction d with
    | zero => intro b; rfl
    | succ d ih => intro b; rw [cP, ih, Nat.zero_testBit]; rfl
  exact this n 0
/-- all of them there, or none twice: the same -/
theorem ord_iff {n : Nat} {v : Nat → Nat} (hv : ∀ j, j < n → v j < n) : orF v n 0 0 = 2 ^ n - 1 ↔ gdB v n 0 0 = true := by
  have hc := orF_cnt (n := n) (v := v) n 0 0 (fun j _ h => hv j (by omega))
  rw [full_eq (orF_lt n 0 0 (fun j _ h => hv j (by omega)) (Nat.two_pow_pos n))]
  rw [cP_zero, Nat.zero_add] at hc
  constructor
  · intro h
    cases hg : gdB v n 0 0 with
    | true => rfl
    | false => have := hc.2.2 hg; omega
  · exact hc.2.1
/-- none twice -/
theorem gdB_inj {v : Nat → Nat} : ∀ d i S, gdB v d i S = true → (∀ j, i ≤ j → j < i + d → S.testBit (v j) = false) ∧ ∀ j k, i ≤ j → j < k → k < i + d → v j ≠ v k := by
  intro d
  induction d with
  | zero => intro i S _; exact ⟨fun j h1 h2 => by omega, fun j k h1 h2 h3 => by omega⟩
  | succ d ih =>
    intro i S h
    rw [gdB] at h
    have h1 : S.testBit (v i) = false := by cases hb : S.testBit (v i) <;> simp [hb] at h <;> rfl
    have h2 : gdB v d (i + 1) (S ||| 2 ^ v i) = true := by cases hb : gdB v d (i + 1) (S ||| 2 ^ v i) <;> simp [hb] at h <;> rfl
    obtain ⟨a, b⟩ := ih _ _ h2
    have a' : ∀ j, i + 1 ≤ j → j < i + (d + 1) → S.testBit (v j) = false ∧ v i ≠ v j := by
      intro j h3 h4
      have := a j h3 (by omega)
      rw [Nat.testBit_or, Nat.testBit_two_pow] at this
      have h5 := (Bool.or_eq_false_iff.mp this)
      exact ⟨h5.1, of_decide_eq_false h5.2⟩
    refine ⟨fun j h3 h4 => ?_, fun j k h3 h4 h5 => ?_⟩
    · by_cases e : j = i
      · rw [e]; exact h1
      · exact (a' j (by omega) (by omega)).1
    · by_cases e : j = i
      · rw [e]; exact (a' k (by omega) (by omega)).2
      · exact b j k (by omega) h4 (by omega)
def okc (n : Nat) (x : Int32) : Prop := ∃ q, q < n ∧ x = nI q
theorem okc_n {n : Nat} {x : Int32} (hn : n ≤ 10) (h : ¬ okc n x) : x < 0 ∨ nI n ≤ x := by
  rcases pk_ix x (n := n) (by omega) with h1 | h1 | ⟨j, hj, rfl⟩
  · exact Or.inl h1
  · exact Or.inr h1
  · exact absurd ⟨j, hj, rfl⟩ h
/-- the class's look at an order -/
theorem or8_bad {z : zk_Z} {s sz n : Nat} (hn : n ≤ 10) (hsz : sz ≤ 40) (hz : z.1 13 s 1 = nI sz) : ∀ d m i S, i + d = sz → d < m → (¬ ∀ j, i ≤ j → j < sz → okc n (z.1 14 s j)) → fX5_isOrderOf_L4 s m (nI n) S (nI i) z = some (0, z) := by
  intro d
  induction d with
  | zero => intro m i S h1 h2 h; exact absurd (fun j h3 h4 => by omega) h
  | succ d ih =>
    intro m i S h1 h2 h
    obtain ⟨m, rfl⟩ : ∃ j, m = j + 1 := ⟨m - 1, by omega⟩
    rw [fX5_isOrderOf_L4, hz, if_neg (by rw [nI_leI (by omega) (by omega)]; omega), zx_nI (by omega) (by decide), zg_t, zg_t, zg_t, nI_clamp (by omega)]
    by_cases hi : okc n (z.1 14 s i)
    · obtain ⟨q, hq, e⟩ := hi
      rw [e, if_neg (nI_lt0 (by omega)), if_pos (by rw [nI_ltI (by omega) (by omega)]; exact hq), nI_1]
      refine ih m _ _ (by omega) (by omega) (fun h' => h (fun j h3 h4 => ?_))
      by_cases e1 : j = i
      · rw [e1]; exact ⟨q, hq, e⟩
      · exact h' j (by omega) h4
    · rcases okc_n hn hi with h3 | h3
      · rw [if_pos h3]
      · rw [if_neg (fun q : z.1 14 s i < nI n => Int32.not_le.mpr q h3)]
        split <;> rfl
theorem or8_L {z : zk_Z} {s sz n : Nat} {v : Nat → Nat} (hn : n ≤ 10) (hsz : sz ≤ 40) (hz : z.1 13 s 1 = nI sz) (hv : ∀ j, j < sz → z.1 14 s j = nI (v j) ∧ v j < n) : ∀ d m i S, i + d = sz → d < m → fX5_isOrderOf_L4 s m (nI n) (nI S) (nI i) z = if nI sz = nI n then if nI (orF v d i S) = nI (2 ^ n) - 1 then some (1, z) else some (0, z) else some (0, z) := by
  intro d
  induction d with
  | zero =>
    intro m i S h1 h2
    obtain ⟨m, rfl⟩ : ∃ j, m = j + 1 := ⟨m - 1, by omega⟩
    rw [fX5_isOrderOf_L4, hz, if_pos (by rw [nI_leI (by omega) (by omega)]; omega), nI_shl (by omega)]; rfl
  | succ d ih =>
    intro m i S h1 h2
    obtain ⟨m, rfl⟩ : ∃ j, m = j + 1 := ⟨m - 1, by omega⟩
    obtain ⟨e, hq⟩ := hv i (by omega)
    rw [fX5_isOrderOf_L4, hz, if_neg (by rw [nI_leI (by omega) (by omega)]; omega), zx_nI (by omega) (by decide), zg_t, zg_t, zg_t, nI_clamp (by omega), e, if_neg (nI_lt0 (by omega)), if_pos (by rw [nI_ltI (by omega) (by omega)]; exact hq), nI_1, nI_shl (by omega), nI_or, orF]
    exact ih m _ _ (by omega) (by omega)
/-- the reference's -/
theorem or9_0 {z : zk_Z} {m : Nat} (a1 a2 a3 a4 a6 a7 : Int32) : fX9_twin_L78 (m + 1) a1 a2 a3 a4 0 a6 a7 z = fX9_twin_B175 a1 a2 a3 a4 0 z := by
  rw [fX9_twin_L78, if_pos rfl]
  split <;> rfl
theorem or9_s {z : zk_Z} {s n i m S : Nat} {a1 a3 : Int32} {f : Nat → Int32} (hs : s < 4) (hn : n ≤ 10) (hi : i < n) (hS : S < 2 ^ n) (hf : ∀ j, j < 40 → z.1 41 0 (40 * s + j) = f j) : (∃ q, q < n ∧ f i = nI q ∧ S.testBit q = false ∧ fX9_twin_L78 (m + 1) a1 (nI s) a3 (nI n) 1 (nI S) (nI i) z = fX9_twin_L78 m a1 (nI s) a3 (nI n) 1 (nI (S ||| 2 ^ q)) (nI (i + 1)) z) ∨ ((¬ ∃ q, q < n ∧ f i = nI q ∧ S.testBit q = false) ∧ ∃ w, fX9_twin_L78 (m + 1) a1 (nI s) a3 (nI n) 1 (nI S) (nI i) z = fX9_twin_L78 m a1 (nI s) a3 (nI n) 0 w (nI (i + 1)) z) := by
  have h2 := p2_le hn
  have b148 : ∀ x y : Int32, fX9_twin_B148 (fX9_twin_L78 m) a1 (nI s) a3 (nI n) x (nI i) y z = fX9_twin_L78 m a1 (nI s) a3 (nI n) 0 (x ||| 0) (nI (i + 1)) z := fun x y => by rw [fX9_twin_B148, fX9_twin_B149, if_pos rfl, fX9_twin_B166, nI_1]
  have e0 : fX9_twin_L78 (m + 1) a1 (nI s) a3 (nI n) 1 (nI S) (nI i) z = zk_bd (fX9_in (f i) 0 (nI n - 1) z) (fun r14 z13 => if r14 = 0 then fX9_twin_B148 (fX9_twin_L78 m) a1 (nI s) a3 (nI n) (nI S) (nI i) (f i) z13 else zk_bd (fX9_in (f i) 0 (nI n - 1) z13) (fun r16 z15 => if r16 = 0 then fX9_twin_B138 (fX9_twin_L78 m) a1 (nI s) a3 (nI n) (nI S) (nI i) (f i) 0 (nI S) z15 else fX9_twin_B138 (fX9_twin_L78 m) a1 (nI s) a3 (nI n) (nI S) (nI i) (f i) (f i) (nI S) z15)) := by
    rw [fX9_twin_L78, if_neg (by rw [nI_leI (by omega) (by omega)]; omega), if_neg r10, nI_40, zx_nI (show 40 * s + i < 160 by omega) (by decide), zg_t, nI_clamp (by omega), hf i (by omega)]
  by_cases hok : okc n (f i)
  rotate_left
  · refine Or.inr ⟨?_, nI S ||| 0, ?_⟩
    · rintro ⟨q, hq, e, _⟩; exact hok ⟨q, hq, e⟩
    · have hin : fX9_in (f i) 0 (nI n - 1) z = some (0, z) := by
        rcases okc_n hn hok with h | h
        · exact in9_neg z h
        · obtain ⟨p, hp⟩ : ∃ p, n = p + 1 := ⟨n - 1, by omega⟩
          rw [hp, nI_sub1]
          exact in9_big z (by omega) (by rw [← hp]; exact h)
      rw [e0, hin, zb_some, if_pos rfl, b148]
  obtain ⟨q, hq, e⟩ := hok
  have hin : fX9_in (nI q) 0 (nI n - 1) z = some (1, z) := in9_c z hq (by omega)
  have e1 : fX9_twin_L78 (m + 1) a1 (nI s) a3 (nI n) 1 (nI S) (nI i) z = fX9_twin_B138 (fX9_twin_L78 m) a1 (nI s) a3 (nI n) (nI S) (nI i) (nI q) (nI q) (nI S) z := by
    rw [e0, e, hin, zb_some, if_neg r10, hin, zb_some, if_neg r10]
  rw [e1, fX9_twin_B138, nI_bit (by omega) (by omega)]
  cases hb : S.testBit q with
  | false =>
    refine Or.inl ⟨q, hq, e, hb, ?_⟩
    rw [if_pos (by rfl), fX9_twin_B149, if_neg r10, fX9_twin_B166, nI_shl (by omega), nI_or, nI_1]
  | true =>
    refine Or.inr ⟨?_, nI S ||| 0, ?_⟩
    · rintro ⟨q', hq', e', hb'⟩
      have : q' = q := nI_inj (by omega) (by omega) (e'.symm.trans e)
      rw [this, hb] at hb'; cases hb'
    · rw [if_neg (by decide), b148]
theorem or9_bad {z : zk_Z} {s n : Nat} {a1 a3 : Int32} {f : Nat → Int32} (hs : s < 4) (hn : n ≤ 10) (hf : ∀ j, j < 40 → z.1 41 0 (40 * s + j) = f j) : ∀ d m i S, i + d = n → d + 1 < m → S < 2 ^ n → (¬ ∀ j, i ≤ j → j < n → okc n (f j)) → fX9_twin_L78 m a1 (nI s) a3 (nI n) 1 (nI S) (nI i) z = fX9_twin_B175 a1 (nI s) a3 (nI n) 0 z := by
  intro d
  induction d with
  | zero => intro m i S h1 h2 h3 h; exact absurd (fun j h3 h4 => by omega) h
  | succ d ih =>
    intro m i S h1 h2 h3 h
    obtain ⟨m, rfl⟩ : ∃ j, m = j + 1 := ⟨m - 1, by omega⟩
    rcases or9_s (m := m) (a1 := a1) (a3 := a3) hs hn (show i < n by omega) h3 hf with ⟨q, hq, e, _, e1⟩ | ⟨_, w, e1⟩
    · rw [e1]
      refine ih m _ _ (by omega) (by omega) (Nat.or_lt_two_pow h3 (Nat.pow_lt_pow_right (by decide) hq)) (fun h' => h (fun j h4 h5 => ?_))
      by_cases e2 : j = i
      · rw [e2]; exact ⟨q, hq, e⟩
      · exact h' j (by omega) h5
    · obtain ⟨m, rfl⟩ : ∃ j, m = j + 1 := ⟨m - 1, by omega⟩
      rw [e1, or9_0]
theorem or9_L {z : zk_Z} {s n : Nat} {a1 a3 : Int32} {f : Nat → Int32} {v : Nat → Nat} (hs : s < 4) (hn : n ≤ 10) (hf : ∀ j, j < 40 → z.1 41 0 (40 * s + j) = f j) (hv : ∀ j, j < n → f j = nI (v j) ∧ v j < n) : ∀ d m i S, i + d = n → d + 1 < m → S < 2 ^ n → fX9_twin_L78 m a1 (nI s) a3 (nI n) 1 (nI S) (nI i) z = fX9_twin_B175 a1 (nI s) a3 (nI n) (if gdB v d i S = true then 1 else 0) z := by
  intro d
  induction d with
  | zero =>
    intro m i S h1 h2 h3
    obtain ⟨m, rfl⟩ : ∃ j, m = j + 1 := ⟨m - 1, by omega⟩
    rw [fX9_twin_L78, if_pos (by rw [nI_leI (by omega) (by omega)]; omega)]; rfl
  | succ d ih =>
    intro m i S h1 h2 h3
    obtain ⟨m, rfl⟩ : ∃ j, m = j + 1 := ⟨m - 1, by omega⟩
    obtain ⟨ev, hvi⟩ := hv i (by omega)
    rcases or9_s (m := m) (a1 := a1) (a3 := a3) hs hn (show i < n by omega) h3 hf with ⟨q, hq, e, hb, e1⟩ | ⟨hno, w, e1⟩
    · have eq : q = v i := nI_inj (by omega) (by omega) (e.symm.trans ev)
      rw [e1, ih m _ _ (by omega) (by omega) (Nat.or_lt_two_pow h3 (Nat.pow_lt_pow_right (by decide) hq)), gdB, eq]
      rw [eq] at hb
      rw [hb]; rfl
    · obtain ⟨m, rfl⟩ : ∃ j, m = j + 1 := ⟨m - 1, by omega⟩
      have hb : S.testBit (v i) = true := by
        cases hb : S.testBit (v i) with
        | true => rfl
        | false => exact absurd ⟨v i, hvi, ev, hb⟩ hno
      rw [e1, or9_0, gdB, hb]; rfl
