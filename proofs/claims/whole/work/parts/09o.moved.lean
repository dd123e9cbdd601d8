/-! letters renumbered -/
def mvF (v : Nat → Nat) (x : Nat) : Nat → Nat → Nat → Nat
  | 0, _, S => S
  | d + 1, i, S => mvF v x d (i + 1) (if x.testBit i = true then S ||| 2 ^ v i else S)
theorem mvF_lt {n : Nat} {v : Nat → Nat} {x : Nat} : ∀ d i S, (∀ j, i ≤ j → j < i + d → v j < n) → S < 2 ^ n → mvF v x d i S < 2 ^ n := by
  intro d
  induction d with
  | zero => intro i S _ h; exact h
  | succ d ih =>
    intro i S hv h
    refine ih (i + 1) _ (fun j h1 h2 => hv j (by omega) (by omega)) ?_
    split
    · exact Nat.or_lt_two_pow h (Nat.pow_lt_pow_right (by decide) (hv i (Nat.le_refl _) (by omega)))
    · exact h
theorem mvF_bit {v : Nat → Nat} {x l : Nat} : ∀ d i S, (mvF v x d i S).testBit l = true ↔ S.testBit l = true ∨ ∃ j, i ≤ j ∧ j < i + d ∧ x.testBit j = true ∧ v j = l := by
  intro d
  induction d with
  | zero => intro i S; exact ⟨fun h => Or.inl h, fun h => h.elim id (fun ⟨j, h1, h2, _⟩ => by omega)⟩
  | succ d ih =>
    intro i S
    rw [mvF, ih]
    constructor
    · rintro (h | ⟨j, h1, h2, h3, h4⟩)
      · by_cases hb : x.testBit i = true
        · rw [if_pos hb, Nat.testBit_or, Nat.testBit_two_pow] at h
          by_cases e : v i = l
          · exact Or.inr ⟨i, Nat.le_refl _, by omega, hb, e⟩
          · rw [decide_eq_false e, Bool.or_false] at h; exact Or.inl h
        · rw [if_neg hb] at h; exact Or.inl h
      · exact Or.inr ⟨j, by omega, by omega, h3, h4⟩
    · rintro (h | ⟨j, h1, h2, h3, h4⟩)
      · refine Or.inl ?_
        split
        · rw [Nat.testBit_or, h]; rfl
        · exact h
      · by_cases e : j = i
        · refine Or.inl ?_
          rw [← e, if_pos h3, Nat.testBit_or, Nat.testBit_two_pow, decide_eq_true h4, Bool.or_true]
        · exact Or.inr ⟨j, by omega, by omega, h3, h4⟩
theorem pc_p2 : ∀ q, q < 10 → pc (2 ^ q) = 1 := by decide
theorem pcS_full {x n : Nat} (hx : x < 2 ^ n) (hn : n ≤ 10) : pcS x n = pc x := by
  have h10 : x < 1024 := Nat.lt_of_lt_of_le hx (p2_le hn)
  have h : ∀ k, pcS x (n + k) = pcS x n := by
    intro k
    induction k with
    | zero => rfl
    | succ k ih =>
      rw [← Nat.add_assoc, pcS, ih, Nat.testBit_lt_two_pow (Nat.lt_of_lt_of_le hx (Nat.pow_le_pow_right (by decide) (by omega)))]; rfl
  have := h (31 - n)
  rw [show n + (31 - n) = 31 by omega, pcS_pc x h10] at this
  exact this.symm
theorem mvF_pc {n : Nat} {v : Nat → Nat} {x : Nat} (hn : n ≤ 10) : ∀ d i S, (∀ j, i ≤ j → j < i + d → v j < n ∧ S.testBit (v j) = false) → (∀ j k, i ≤ j → j < k → k < i + d → v j ≠ v k) → S < 2 ^ n → pc S = pcS x i → pc (mvF v x d i S) = pcS x (i + d) := by
  intro d
  induction d with
  | zero => intro i S _ _ _ h; exact h
  | succ d ih =>
    intro i S hv hd hS h
    have hi := hv i (Nat.le_refl _) (by omega)
    rw [mvF, show i + (d + 1) = i + 1 + d by omega]
    by_cases hb : x.testBit i = true
    · rw [if_pos hb]
      refine ih (i + 1) _ (fun j h1 h2 => ⟨(hv j (by omega) (by omega)).1, ?_⟩) (fun j k h1 h2 h3 => hd j k (by omega) h2 (by omega)) (Nat.or_lt_two_pow hS (Nat.pow_lt_pow_right (by decide) hi.1)) ?_
      · rw [Nat.testBit_or, (hv j (by omega) (by omega)).2, Nat.testBit_two_pow, decide_eq_false (hd i j (Nat.le_refl _) (by omega) (by omega))]; rfl
      · rw [pcS, hb, ← h, pc_or, pc_p2 _ (by omega)]; rfl
        intro l hl ⟨h1, h2⟩
        rw [Nat.testBit_two_pow] at h2
        have := of_decide_eq_true h2
        rw [← this, hi.2] at h1; cases h1
    · rw [if_neg hb]
      refine ih (i + 1) _ (fun j h1 h2 => hv j (by omega) (by omega)) (fun j k h1 h2 h3 => hd j k (by omega) h2 (by omega)) hS ?_
      rw [pcS, h]
      cases hb' : x.testBit i with
      | true => exact absurd hb' hb
      | false => rfl
/-- the bits, each at its new place -/
def mvB (v : Nat → Nat) (n x : Nat) : Nat := mvF v x n 0 0
theorem mvB_lt {n x : Nat} {v : Nat → Nat} (hv : ∀ j, j < n → v j < n) : mvB v n x < 2 ^ n := mvF_lt n 0 0 (fun j _ h => hv j (by omega)) (Nat.two_pow_pos n)
theorem mvB_bit {n x l : Nat} {v : Nat → Nat} : (mvB v n x).testBit l = true ↔ ∃ j, j < n ∧ x.testBit j = true ∧ v j = l := by
  unfold mvB
  rw [mvF_bit]
  constructor
  · rintro (h | ⟨j, _, h2, h3, h4⟩)
    · rw [Nat.zero_testBit] at h; cases h
    · exact ⟨j, by omega, h3, h4⟩
  · rintro ⟨j, h2, h3, h4⟩
    exact Or.inr ⟨j, Nat.zero_le _, by omega, h3, h4⟩
theorem mvB_pc {n x : Nat} {v : Nat → Nat} (hn : n ≤ 10) (hv : ∀ j, j < n → v j < n) (hd : ∀ j k, j < k → k < n → v j ≠ v k) (hx : x < 2 ^ n) : pc (mvB v n x) = pc x := by
  unfold mvB
  have := mvF_pc (x := x) hn n 0 0 (fun j _ h => ⟨hv j (by omega), Nat.zero_testBit _⟩) (fun j k _ h1 h2 => hd j k h1 (by omega)) (Nat.two_pow_pos n) (show pc 0 = 0 by decide)
  rw [this, Nat.zero_add, pcS_full hx hn]
/-- a literal's letters, turned -/
def twP (t p a : Nat) : Nat := (p &&& (1023 ^^^ t)) ||| (a &&& t)
theorem twP_bit {t p a i : Nat} (hi : i < 10) : (twP t p a).testBit i = if t.testBit i = true then a.testBit i else p.testBit i := by
  unfold twP
  rw [Nat.testBit_or, Nat.testBit_and, Nat.testBit_and, Nat.testBit_xor, show (1023 : Nat) = 2 ^ 10 - 1 from rfl, Nat.testBit_two_pow_sub_one, decide_eq_true hi]
  cases t.testBit i <;> cases p.testBit i <;> cases a.testBit i <;> rfl
theorem twP_lt {n t p a : Nat} (hp : p < 2 ^ n) (ha : a < 2 ^ n) : twP t p a < 2 ^ n := Nat.or_lt_two_pow (Nat.lt_of_le_of_lt Nat.and_le_left hp) (Nat.lt_of_le_of_lt Nat.and_le_left ha)
theorem eq0_bits {x : Nat} (hx : x < 1024) (h : ∀ i, i < 10 → x.testBit i = false) : x = 0 := by
  apply Nat.eq_of_testBit_eq
  intro i
  rw [Nat.zero_testBit]
  by_cases hi : i < 10
  · exact h i hi
  · exact Nat.testBit_lt_two_pow (Nat.lt_of_lt_of_le hx (by calc 1024 = 2 ^ 10 := rfl
                                                              _ ≤ 2 ^ i := Nat.pow_le_pow_right (by decide) (by omega)))
theorem tw_and {t p a : Nat} (hp : p < 1024) (ha : a < 1024) (h : p &&& a = 0) : twP t p a &&& twP t a p = 0 := by
  refine eq0_bits (Nat.lt_of_le_of_lt Nat.and_le_left (twP_lt (n := 10) hp ha)) (fun i hi => ?_)
  have h0 : (p &&& a).testBit i = false := by rw [h, Nat.zero_testBit]
  rw [Nat.testBit_and] at h0
  rw [Nat.testBit_and, twP_bit hi, twP_bit hi]
  cases ht : t.testBit i with
  | true => rw [if_pos rfl, if_pos rfl, Bool.and_comm]; exact h0
  | false => rw [if_neg (by decide), if_neg (by decide)]; exact h0
theorem tw_or {t p a : Nat} (hp : p < 1024) (ha : a < 1024) : twP t p a ||| twP t a p = p ||| a := by
  apply Nat.eq_of_testBit_eq
  intro i
  by_cases hi : i < 10
  · rw [Nat.testBit_or, Nat.testBit_or, twP_bit hi, twP_bit hi]
    cases t.testBit i <;> cases p.testBit i <;> cases a.testBit i <;> rfl
  · have big : ∀ y, y < 1024 → y.testBit i = false := fun y hy => Nat.testBit_lt_two_pow (Nat.lt_of_lt_of_le hy (by calc 1024 = 2 ^ 10 := rfl
                                                              _ ≤ 2 ^ i := Nat.pow_le_pow_right (by decide) (by omega)))
    rw [big _ (or_lt10 (twP_lt (n := 10) hp ha) (twP_lt (n := 10) ha hp)), big _ (or_lt10 hp ha)]
/-- a clause renumbered and turned is a clause -/
theorem tw_ok {n t P A : Nat} {v : Nat → Nat} (hn : n ≤ 10) (hv : ∀ j, j < n → v j < n) (hd : ∀ j k, j < k → k < n → v j ≠ v k) (hP : P < 2 ^ n) (hA : A < 2 ^ n) (h0 : P &&& A = 0) (hw : 1 ≤ wid P A ∧ wid P A ≤ 3) : (twP t (mvB v n P) (mvB v n A) < 2 ^ n ∧ twP t (mvB v n A) (mvB v n P) < 2 ^ n) ∧ twP t (mvB v n P) (mvB v n A) &&& twP t (mvB v n A) (mvB v n P) = 0 ∧ 1 ≤ wid (twP t (mvB v n P) (mvB v n A)) (twP t (mvB v n A) (mvB v n P)) ∧ wid (twP t (mvB v n P) (mvB v n A)) (twP t (mvB v n A) (mvB v n P)) ≤ 3 := by
  have h2 := p2_le hn
  have hp := mvB_lt (x := P) hv
  have ha := mvB_lt (x := A) hv
  have hor : P ||| A < 2 ^ n := Nat.or_lt_two_pow hP hA
  have e : mvB v n P ||| mvB v n A = mvB v n (P ||| A) := by
    apply Nat.eq_of_testBit_eq
    intro l
    have key : (mvB v n P ||| mvB v n A).testBit l = true ↔ (mvB v n (P ||| A)).testBit l = true := by
      rw [Nat.testBit_or, Bool.or_eq_true, mvB_bit, mvB_bit, mvB_bit]
      constructor
      · rintro (⟨j, h1, h3, h4⟩ | ⟨j, h1, h3, h4⟩)
        · exact ⟨j, h1, by rw [Nat.testBit_or, h3]; rfl, h4⟩
        · exact ⟨j, h1, by rw [Nat.testBit_or, h3, Bool.or_true], h4⟩
      · rintro ⟨j, h1, h3, h4⟩
        rw [Nat.testBit_or, Bool.or_eq_true] at h3
        rcases h3 with h3 | h3
        · exact Or.inl ⟨j, h1, h3, h4⟩
        · exact Or.inr ⟨j, h1, h3, h4⟩
    cases h3 : (mvB v n P ||| mvB v n A).testBit l with
    | true => exact (key.mp h3).symm
    | false =>
      cases h5 : (mvB v n (P ||| A)).testBit l with
      | false => rfl
      | true => rw [key.mpr h5] at h3; cases h3
  have d : mvB v n P &&& mvB v n A = 0 := by
    apply Nat.eq_of_testBit_eq
    intro l
    rw [Nat.zero_testBit]
    cases h3 : (mvB v n P &&& mvB v n A).testBit l with
    | false => rfl
    | true =>
      rw [Nat.testBit_and, Bool.and_eq_true, mvB_bit, mvB_bit] at h3
      obtain ⟨⟨j, a1, a2, a3⟩, ⟨k, b1, b2, b3⟩⟩ := h3
      have ejk : j = k := by
        rcases Nat.lt_trichotomy j k with h | h | h
        · exact absurd (a3.trans b3.symm) (hd j k h b1)
        · exact h
        · exact absurd (b3.trans a3.symm) (hd k j h a1)
      have : (P &&& A).testBit j = true := by rw [Nat.testBit_and, a2, ejk, b2]; rfl
      rw [h0, Nat.zero_testBit] at this; cases this
  refine ⟨⟨twP_lt hp ha, twP_lt ha hp⟩, tw_and (by omega) (by omega) d, ?_⟩
  have hwid : wid (twP t (mvB v n P) (mvB v n A)) (twP t (mvB v n A) (mvB v n P)) = wid P A := by
    unfold wid
    rw [tw_or (by omega) (by omega), e, mvB_pc hn hv hd hor]
  rw [hwid]; exact hw
/-- both ways of moving -/
theorem mv8_L {z : zk_Z} {s n x : Nat} {v : Nat → Nat} (hn : n ≤ 10) (hx : x < 2 ^ n) (hz : z.1 13 s 1 = nI n) (hv : ∀ j, j < n → z.1 14 s j = nI (v j) ∧ v j < n) : ∀ d m i S, i + d = n → d < m → fX5_renumbered_L4 s m (nI x) (nI S) (nI i) z = some (nI (mvF v x d i S), z) := by
  have h2 := p2_le hn
  intro d
  induction d with
  | zero =>
    intro m i S h1 h2
    obtain ⟨m, rfl⟩ : ∃ j, m = j + 1 := ⟨m - 1, by omega⟩
    rw [fX5_renumbered_L4, hz, if_pos (by rw [nI_leI (by omega) (by omega)]; omega)]; rfl
  | succ d ih =>
    intro m i S h1 h3
    obtain ⟨m, rfl⟩ : ∃ j, m = j + 1 := ⟨m - 1, by omega⟩
    obtain ⟨e, hq⟩ := hv i (by omega)
    rw [fX5_renumbered_L4, hz, if_neg (by rw [nI_leI (by omega) (by omega)]; omega), if_neg (by rw [show (10 : Int32) = nI 10 from rfl, nI_leI (by decide) (by omega)]; omega), nI_bit (by omega) (by omega), mvF]
    cases hb : x.testBit i with
    | true => rw [if_pos (by rfl), if_pos rfl, zx_nI (by omega) (by decide), zg_t, nI_clamp (by omega), e, nI_shl (by omega), nI_or, fX5_renumbered_B38, nI_1]; exact ih m _ _ (by omega) (by omega)
    | false => rw [if_neg (by decide), if_neg (by decide), fX5_renumbered_B38, nI_1]; exact ih m _ _ (by omega) (by omega)
theorem mv8 {z : zk_Z} {s n x : Nat} {v : Nat → Nat} (hn : n ≤ 10) (hx : x < 2 ^ n) (hz : z.1 13 s 1 = nI n) (hv : ∀ j, j < n → z.1 14 s j = nI (v j) ∧ v j < n) : fX5_renumbered s (nI x) z = some (nI (mvB v n x), z) :=
  mv8_L hn hx hz hv n zk_FU 0 0 (by omega) (by show n < 6000; omega)
theorem mv9_L {z : zk_Z} {s n x : Nat} {v : Nat → Nat} (hs : s < 4) (hn : n ≤ 10) (hx : x < 2 ^ n) (hv : ∀ j, j < n → z.1 41 0 (40 * s + j) = nI (v j) ∧ v j < n) : ∀ d m i S, i + d = n → d < m → fX9_moved_L6 m (nI x) (nI s) (nI n) (nI S) (nI i) z = some (nI (mvF v x d i S), z) := by
  have h2 := p2_le hn
  intro d
  induction d with
  | zero =>
    intro m i S h1 h2
    obtain ⟨m, rfl⟩ : ∃ j, m = j + 1 := ⟨m - 1, by omega⟩
    rw [fX9_moved_L6, if_pos (by rw [nI_leI (by omega) (by omega)]; omega)]; rfl
  | succ d ih =>
    intro m i S h1 h3
    obtain ⟨m, rfl⟩ : ∃ j, m = j + 1 := ⟨m - 1, by omega⟩
    obtain ⟨e, hq⟩ := hv i (by omega)
    rw [fX9_moved_L6, if_neg (by rw [nI_leI (by omega) (by omega)]; omega), nI_40, zx_nI (by omega) (by decide), zg_t, nI_clamp (by omega), e, nI_bit (by omega) (by omega), nI_1, mvF]
    cases hb : x.testBit i with
    | true => rw [if_pos rfl, show nI true.toNat = 1 from rfl, nI_shl (by omega), nI_or]; exact ih m _ _ (by omega) (by omega)
    | false => rw [if_neg (by decide), show nI false.toNat = 0 from rfl, Int32.zero_shiftLeft, or_0]; exact ih m _ _ (by omega) (by omega)
theorem mv9 {z : zk_Z} {s n x : Nat} {v : Nat → Nat} (hs : s < 4) (hn : n ≤ 10) (hx : x < 2 ^ n) (hv : ∀ j, j < n → z.1 41 0 (40 * s + j) = nI (v j) ∧ v j < n) : fX9_moved (nI x) (nI s) (nI n) z = some (nI (mvB v n x), z) :=
  mv9_L hs hn hx hv n zk_FU 0 0 (by omega) (by show n < 6000; omega)
theorem tw_eq {t p a : Nat} (ht : t < 1024) (hp : p < 1024) : (nI p &&& (nI t ^^^ (-1))) ||| (nI a &&& nI t) = nI (twP t p a) := by
  rw [nI_not hp ht, nI_and, nI_or]; rfl
