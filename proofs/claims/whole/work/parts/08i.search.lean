/-! the row of counts, and searching -/
theorem nI_addm1 (n : Nat) : nI (n + 1) + (-1) = nI n := by rw [← Int32.sub_eq_add_neg]; exact nI_sub1 n
def ctS (C : Nat) (P A : Nat → Nat) : Nat → Nat → Nat → Nat
  | 0, _, s => s
  | d + 1, l, s => if exS P A (nI l) C 0 0 ≤ 0 then ctS C P A d (l + 1) s else ctS C P A d (l + 1) (s ||| 2 ^ l)
theorem ctS_lt {C : Nat} {P A : Nat → Nat} {n : Nat} : ∀ d l s, l + d = n → s < 2 ^ n → ctS C P A d l s < 2 ^ n := by
  intro d
  induction d with
  | zero => intro l s _ h; exact h
  | succ d ih =>
    intro l s h1 h2
    rw [ctS]
    split
    · exact ih _ _ (by omega) h2
    · exact ih _ _ (by omega) (Nat.or_lt_two_pow h2 (Nat.pow_lt_pow_right (by decide) (by omega)))
theorem ct7_L {z : zk_Z} {k kd n C : Nat} {P A : Nat → Nat} (T : TC z k kd n C P A) (O : TOK kd n C P A) : ∀ d m l s, l + d = n → d < m → fX7_countsRow_L4 k m (nI s) (nI l) z = some (nI (ctS C P A d l s), z) := by
  have h10 := O.1.2.2.1
  intro d
  induction d with
  | zero =>
    intro m l s h1 h2
    obtain ⟨m, rfl⟩ : ∃ j, m = j + 1 := ⟨m - 1, by omega⟩
    rw [fX7_countsRow_L4, T.1.2.1, if_pos (by rw [nI_leI (by omega) (by omega)]; omega)]; rfl
  | succ d ih =>
    intro m l s h1 h2
    obtain ⟨m, rfl⟩ : ∃ j, m = j + 1 := ⟨m - 1, by omega⟩
    rw [fX7_countsRow_L4, T.1.2.1, if_neg (by rw [nI_leI (by omega) (by omega)]; omega), ex7 T O, zb_some, ctS]
    split
    · rw [fX7_countsRow_B26, nI_1]; exact ih m _ _ (by omega) (by omega)
    · rw [fX7_countsRow_B26, nI_1, nI_shl (by omega), nI_or]; exact ih m _ _ (by omega) (by omega)
theorem ct7 {z : zk_Z} {k kd n C : Nat} {P A : Nat → Nat} (T : TC z k kd n C P A) (O : TOK kd n C P A) : fX7_countsRow k z = some (nI (ctS C P A n 0 0), z) := by
  have h10 := O.1.2.2.1
  exact ct7_L T O n zk_FU 0 0 (by omega) (by show n < 6000; omega)
theorem ct9_L {z : zk_Z} {t kd n C : Nat} {P A : Nat → Nat} (T : TM z t kd n C P A) (O : TOK kd n C P A) (ht : t < 9) : ∀ d m l s, l + d = n → d < m → fX9_countsRow_L4 m (nI t) (nI s) (nI l) z = some (nI (ctS C P A d l s), z) := by
  have h10 := O.1.2.2.1
  intro d
  induction d with
  | zero =>
    intro m l s h1 h2
    obtain ⟨m, rfl⟩ : ∃ j, m = j + 1 := ⟨m - 1, by omega⟩
    rw [fX9_countsRow_L4, zx_nI ht (by decide), zg_t, nI_clamp (by omega), T.1.2.1, if_pos (by rw [nI_leI (by omega) (by omega)]; omega)]; rfl
  | succ d ih =>
    intro m l s h1 h2
    obtain ⟨m, rfl⟩ : ∃ j, m = j + 1 := ⟨m - 1, by omega⟩
    rw [fX9_countsRow_L4, zx_nI ht (by decide), zg_t, nI_clamp (by omega), T.1.2.1, if_neg (by rw [nI_leI (by omega) (by omega)]; omega), ex9 T O ht, zb_some, ctS]
    split
    · rw [fX9_countsRow_B31, nI_1, or_0]; exact ih m _ _ (by omega) (by omega)
    · rw [fX9_countsRow_B31, nI_1, nI_shl (by omega), nI_or]; exact ih m _ _ (by omega) (by omega)
theorem ct9 {z : zk_Z} {t kd n C : Nat} {P A : Nat → Nat} (T : TM z t kd n C P A) (O : TOK kd n C P A) (ht : t < 9) : fX9_countsRow (nI t) z = some (nI (ctS C P A n 0 0), z) := by
  have h10 := O.1.2.2.1
  exact ct9_L T O ht n zk_FU 0 0 (by omega) (by show n < 6000; omega)
def mk (t : Nat) : Int32 := (((1 : Int32) <<< (nI t &&& 31)) - 1) ^^^ (-1)
theorem mk_eq : ∀ t, t ≤ 10 → ((-1 : Int32) <<< (nI t &&& 31)) = mk t := by decide +kernel
def hsS (kd : Nat) (P A : Nat → Nat) (x : Int32) (r : Nat) : Nat → Nat → Bool
  | 0, _ => true
  | d + 1, c => if (nI (P c) ||| nI (A c)) &&& x = 0 then (if hC kd P A c r = 0 then false else hsS kd P A x r d (c + 1)) else hsS kd P A x r d (c + 1)
theorem hs7_L {z : zk_Z} {k kd n C r : Nat} {P A : Nat → Nat} (T : TC z k kd n C P A) (O : TOK kd n C P A) (hr : r < 1024) (x : Int32) : ∀ d m c, c + d = C → d < m → fX7_holdsSoFar_L11 k m (nI r) x (nI c) z = some (bi (hsS kd P A x r d c), z) := by
  have h24 := O.1.2.2.2
  intro d
  induction d with
  | zero =>
    intro m c h1 h2
    obtain ⟨m, rfl⟩ : ∃ j, m = j + 1 := ⟨m - 1, by omega⟩
    rw [fX7_holdsSoFar_L11, T.1.2.2, if_pos (by rw [nI_leI (by omega) (by omega)]; omega)]; rfl
  | succ d ih =>
    intro m c h1 h2
    obtain ⟨m, rfl⟩ : ∃ j, m = j + 1 := ⟨m - 1, by omega⟩
    rw [fX7_holdsSoFar_L11, T.1.2.2, if_neg (by rw [nI_leI (by omega) (by omega)]; omega), zx_nI (by omega) (by decide), zg_t, zg_t, nI_clamp (by omega), (T.2 c (by omega)).1, (T.2 c (by omega)).2, e7_holds T O (by omega) hr, zb_some, hsS]
    by_cases h : (nI (P c) ||| nI (A c)) &&& x = 0
    · rw [if_pos h, if_pos h]
      by_cases h' : hC kd P A c r = 0
      · rw [if_pos h', if_pos h']; rfl
      · rw [if_neg h', if_neg h', fX7_holdsSoFar_B52, nI_1]; exact ih m _ (by omega) (by omega)
    · rw [if_neg h, if_neg h, fX7_holdsSoFar_B52, nI_1]; exact ih m _ (by omega) (by omega)
theorem hs7 {z : zk_Z} {k kd n C r t : Nat} {P A : Nat → Nat} (T : TC z k kd n C P A) (O : TOK kd n C P A) (hr : r < 1024) : fX7_holdsSoFar k (nI t) (nI r) z = some (bi (hsS kd P A (mk t) r C 0), z) := by
  have h24 := O.1.2.2.2
  exact hs7_L T O hr _ C zk_FU 0 (by omega) (by show C < 6000; omega)
theorem hs9_L {z : zk_Z} {t kd n C r : Nat} {P A : Nat → Nat} (T : TM z t kd n C P A) (O : TOK kd n C P A) (ht : t < 9) (hr : r < 1024) (x : Int32) : ∀ d m c, c + d = C → d < m → fX9_mayBe_L8 m (nI t) (nI r) x (nI c) z = some (bi (hsS kd P A x r d c), z) := by
  have h24 := O.1.2.2.2
  intro d
  induction d with
  | zero =>
    intro m c h1 h2
    obtain ⟨m, rfl⟩ : ∃ j, m = j + 1 := ⟨m - 1, by omega⟩
    rw [fX9_mayBe_L8, zx_nI ht (by decide), zg_t, nI_clamp (by omega), T.1.2.2, if_pos (by rw [nI_leI (by omega) (by omega)]; omega)]; rfl
  | succ d ih =>
    intro m c h1 h2
    obtain ⟨m, rfl⟩ : ∃ j, m = j + 1 := ⟨m - 1, by omega⟩
    rw [fX9_mayBe_L8, zx_nI ht (by decide), zg_t, nI_clamp (by omega), T.1.2.2, if_neg (by rw [nI_leI (by omega) (by omega)]; omega), nI_24, zx_nI (by omega) (by decide), zg_t, zg_t, nI_clamp (by omega), (T.2 c (by omega)).1, (T.2 c (by omega)).2, hsS]
    by_cases h : (nI (P c) ||| nI (A c)) &&& x = 0
    · rw [if_pos h, if_pos h, zg_t, e9_is T O ht (by omega) hr, zb_some, e9_wide T O ht (by omega), zb_some, T.1.1, e9_holds, zb_some, hv9_C r O (by omega)]
      by_cases h' : hC kd P A c r = 0
      · rw [if_pos h', if_pos h']; rfl
      · rw [if_neg h', if_neg h', fX9_mayBe_B76, nI_1]; exact ih m _ (by omega) (by omega)
    · rw [if_neg h, if_neg h, fX9_mayBe_B76, nI_1]; exact ih m _ (by omega) (by omega)
theorem hs9 {z : zk_Z} {t kd n C r b : Nat} {P A : Nat → Nat} (T : TM z t kd n C P A) (O : TOK kd n C P A) (ht : t < 9) (hr : r < 1024) (hb : b ≤ 10) : fX9_mayBe (nI t) (nI r) (nI b) z = some (bi (hsS kd P A (mk b) r C 0), z) := by
  have h24 := O.1.2.2.2
  rw [fX9_mayBe, mk_eq b hb]
  exact hs9_L T O ht hr _ C zk_FU 0 (by omega) (by show C < 6000; omega)
def bkS : Nat → Nat → Nat × Nat
  | 0, r => (0, r)
  | t + 1, r => if r.testBit t = true then bkS t (r &&& (1023 ^^^ 2 ^ t)) else (t + 1, r)
theorem bkS_le : ∀ t r, (bkS t r).1 ≤ t ∧ (bkS t r).2 ≤ r := by
  intro t
  induction t with
  | zero => intro r; exact ⟨Nat.le_refl _, Nat.le_refl _⟩
  | succ t ih =>
    intro r
    rw [bkS]
    split
    · have := ih (r &&& (1023 ^^^ 2 ^ t))
      have h : r &&& (1023 ^^^ 2 ^ t) ≤ r := Nat.and_le_left
      omega
    · exact ⟨Nat.le_refl _, Nat.le_refl _⟩
def seS (kd n C : Nat) (P A : Nat → Nat) : Nat → Nat → Nat → Nat → Option Nat × Nat
  | 0, _, _, s => (none, s)
  | d + 1, t, r, s => if hsS kd P A (mk t) r C 0 = true then (if t = n then (some r, s + 1) else seS kd n C P A d (t + 1) r (s + 1)) else (if (bkS t r).1 = 0 then (none, s + 1) else seS kd n C P A d (bkS t r).1 ((bkS t r).2 ||| 2 ^ ((bkS t r).1 - 1)) (s + 1))
theorem bk7_L {k lim : Nat} {s : Nat} {z : zk_Z} (f : Int32 → Int32 → Int32 → Int32 → zk_Z → Option (Unit × zk_Z)) : ∀ t m r, t < m → t ≤ 10 → r < 1024 → fX1_search_L51 k f m (nI lim) (nI t) (nI r) (nI s) z = if (bkS t r).1 = 0 then some ((), z) else f (nI lim) (nI (bkS t r).1) (nI ((bkS t r).2 ||| 2 ^ ((bkS t r).1 - 1))) (nI (s + 1)) z := by
  have hB : ∀ t r, t ≤ 10 → fX1_search_B83 k f (nI lim) (nI t) (nI r) (nI s) z = if t = 0 then some ((), z) else f (nI lim) (nI t) (nI (r ||| 2 ^ (t - 1))) (nI (s + 1)) z := by
    intro t r ht
    rw [fX1_search_B83]
    cases t with
    | zero => rw [if_pos (by rfl), if_pos rfl]
    | succ t => rw [if_neg (fun q => by have := nI_inj (by omega) (by decide) (q.trans (show (0 : Int32) = nI 0 from rfl)); omega), if_neg (by omega), fX1_search_B98, nI_sub1, nI_shl (by omega), nI_or, nI_1, Nat.add_sub_cancel]
  intro t
  induction t with
  | zero =>
    intro m r h1 h2 h3
    obtain ⟨m, rfl⟩ : ∃ j, m = j + 1 := ⟨m - 1, by omega⟩
    rw [fX1_search_L51, if_pos (by decide), hB _ _ h2]; rfl
  | succ t ih =>
    intro m r h1 h2 h3
    obtain ⟨m, rfl⟩ : ∃ j, m = j + 1 := ⟨m - 1, by omega⟩
    have h2t : 2 ^ t < 1024 := Nat.pow_lt_pow_right (a := 2) (by decide) (show t < 10 by omega)
    rw [fX1_search_L51, if_neg (by rw [show (0 : Int32) = nI 0 from rfl, nI_leI (by omega) (by omega)]; omega), nI_sub1, nI_addm1, nI_bit (by omega) (by omega), nI_shl (by omega), nI_not h3 h2t, bkS]
    cases h : r.testBit t with
    | true => rw [if_pos (by rfl), if_pos rfl]; exact ih m _ (by omega) (by omega) (and_lt h3)
    | false => rw [if_neg (by decide), if_neg (show ¬ (false = true) by decide)]; exact hB _ _ h2
theorem bk9_L {n lim t : Nat} {z : zk_Z} (f : Int32 → Int32 → Int32 → Int32 → Int32 → Int32 → zk_Z → Option (Int32 × zk_Z)) : ∀ b m r, b < m → b ≤ 10 → r < 1024 → fX9_searches_L80 f m (nI t) (nI lim) (nI n) (nI r) (nI b) z = if (bkS b r).1 = 0 then f (nI t) (nI lim) (nI n) (nI (bkS b r).2) (nI 0) 0 z else f (nI t) (nI lim) (nI n) (nI ((bkS b r).2 ||| 2 ^ ((bkS b r).1 - 1))) (nI (bkS b r).1) 1 z := by
  have hB : ∀ b r, b ≤ 10 → fX9_searches_B117 f (nI t) (nI lim) (nI n) (nI r) (nI b) z = if b = 0 then f (nI t) (nI lim) (nI n) (nI r) (nI 0) 0 z else f (nI t) (nI lim) (nI n) (nI (r ||| 2 ^ (b - 1))) (nI b) 1 z := by
    intro b r hb
    rw [fX9_searches_B117]
    cases b with
    | zero => rw [if_pos (by decide), if_pos rfl, fX9_searches_B127, if_pos rfl, fX9_searches_B146, or_0, fX9_searches_B149]
    | succ b => rw [if_neg (by rw [show (0 : Int32) = nI 0 from rfl, nI_leI (by omega) (by omega)]; omega), if_neg (by omega), fX9_searches_B127, if_neg (by decide), fX9_searches_B146, fX9_searches_B149, nI_sub1, nI_shl (by omega), nI_or, Nat.add_sub_cancel]
  intro b
  induction b with
  | zero =>
    intro m r h1 h2 h3
    obtain ⟨m, rfl⟩ : ∃ j, m = j + 1 := ⟨m - 1, by omega⟩
    rw [fX9_searches_L80, if_pos (by decide), hB _ _ h2]; rfl
  | succ b ih =>
    intro m r h1 h2 h3
    obtain ⟨m, rfl⟩ : ∃ j, m = j + 1 := ⟨m - 1, by omega⟩
    have h2t : 2 ^ b < 1024 := Nat.pow_lt_pow_right (a := 2) (by decide) (show b < 10 by omega)
    rw [fX9_searches_L80, if_neg (by rw [show (0 : Int32) = nI 0 from rfl, nI_leI (by omega) (by omega)]; omega), nI_sub1, nI_addm1, nI_bit (by omega) (by omega), nI_shl (by omega), nI_not h3 h2t, bkS]
    cases h : r.testBit b with
    | true => rw [if_pos (by rfl), if_pos rfl]; exact ih m _ (by omega) (by omega) (and_lt h3)
    | false => rw [if_neg (by decide), if_neg (show ¬ (false = true) by decide)]; exact hB _ _ h2
theorem bkS_or {n t r : Nat} (ht : t ≤ n) (hr : r < 2 ^ n) (h : (bkS t r).1 ≠ 0) : (bkS t r).2 ||| 2 ^ ((bkS t r).1 - 1) < 2 ^ n := by
  have q := bkS_le t r
  exact Nat.or_lt_two_pow (by omega) (Nat.pow_lt_pow_right (by decide) (by omega))
theorem se7_L {z : zk_Z} {k kd n C lim : Nat} {P A : Nat → Nat} {f : Int32} (T : TC z k kd n C P A) (O : TOK kd n C P A) (hlim : lim ≤ 5000) : ∀ d m t r s, s + d = lim → d < m → t ≤ n → r < 2 ^ n → fX1_search_L8 k m (nI lim) (nI t) (nI r) (nI (s + 1)) (fz z f s) = some ((), fz z (fo f (seS kd n C P A d t r s).1) (seS kd n C P A d t r s).2) := by
  have h10 := O.1.2.2.1
  have hN := p2_le h10
  intro d
  induction d with
  | zero =>
    intro m t r s h1 h2 h3 h4
    obtain ⟨m, rfl⟩ : ∃ j, m = j + 1 := ⟨m - 1, by omega⟩
    rw [fX1_search_L8, if_pos (by rw [nI_ltI (by omega) (by omega)]; omega)]; rfl
  | succ d ih =>
    intro m t r s h1 h2 h3 h4
    obtain ⟨m, rfl⟩ : ∃ j, m = j + 1 := ⟨m - 1, by omega⟩
    rw [fX1_search_L8, if_neg (by rw [nI_ltI (by omega) (by omega)]; omega), fz_s, hs7 (TC_fz T) O (by omega), zb_some, seS]
    cases h : hsS kd P A (mk t) r C 0 with
    | true =>
      rw [if_neg (by decide), if_pos rfl, show (fz z f (s + 1)).1 7 k 1 = nI n from T.1.2.1]
      by_cases e : t = n
      · rw [if_pos (by rw [e]), if_pos e, fz_f]; rfl
      · rw [if_neg (fun q => e (nI_inj (by omega) (by omega) q)), if_neg e, fX1_search_B98, nI_1, nI_1]
        exact ih m _ _ (s + 1) (by omega) (by omega) (by omega) h4
    | false =>
      rw [if_pos (by decide), if_neg (by decide), bk7_L _ t zk_FU r (by show t < 6000; omega) (by omega) (by omega)]
      by_cases e : (bkS t r).1 = 0
      · rw [if_pos e, if_pos e]; rfl
      · rw [if_neg e, if_neg e]
        exact ih m _ _ (s + 1) (by omega) (by omega) (by have := bkS_le t r; omega) (bkS_or h3 h4 e)
theorem se9_L {z : zk_Z} {t kd n C lim : Nat} {P A : Nat → Nat} (T : TM z t kd n C P A) (O : TOK kd n C P A) (ht : t < 9) (hlim : lim ≤ 5000) : ∀ d m b r s, s + d = lim → d + 1 < m → b ≤ n → r < 2 ^ n → fX9_searches_L21 m (nI t) (nI lim) (nI n) (nI r) (nI b) 1 (fm z s) = some (oi (seS kd n C P A d b r s).1, fm z (seS kd n C P A d b r s).2) := by
  have h10 := O.1.2.2.1
  have hN := p2_le h10
  intro d
  induction d with
  | zero =>
    intro m b r s h1 h2 h3 h4
    obtain ⟨m, rfl⟩ : ∃ j, m = j + 1 := ⟨m - 1, by omega⟩
    rw [fX9_searches_L21, if_neg (by decide), fm_1, if_pos (by rw [nI_leI (by omega) (by omega)]; omega)]; rfl
  | succ d ih =>
    intro m b r s h1 h2 h3 h4
    obtain ⟨m, rfl⟩ : ∃ j, m = j + 1 := ⟨m - 1, by omega⟩
    rw [fX9_searches_L21, if_neg (by decide), fm_1, if_neg (by rw [nI_leI (by omega) (by omega)]; omega), nI_1, fm_s, hs9 (TM_fm T) O ht (by omega) (by omega), zb_some, seS]
    cases h : hsS kd P A (mk b) r C 0 with
    | true =>
      rw [if_neg (by decide), if_pos rfl]
      by_cases e : b = n
      · rw [if_pos (by rw [e]), if_pos e]; rfl
      · rw [if_neg (fun q => e (nI_inj (by omega) (by omega) q)), if_neg e, fX9_searches_B69, if_neg (by decide), fX9_searches_B149, nI_1]
        exact ih m _ _ (s + 1) (by omega) (by omega) (by omega) h4
    | false =>
      rw [if_pos (by decide), if_neg (by decide), fX9_searches_B69, if_pos (by decide), bk9_L _ b zk_FU r (by show b < 6000; omega) (by omega) (by omega)]
      by_cases e : (bkS b r).1 = 0
      · obtain ⟨m, rfl⟩ : ∃ j, m = j + 1 := ⟨m - 1, by omega⟩
        rw [if_pos e, if_pos e, fX9_searches_L21, if_pos rfl]; rfl
      · rw [if_neg e, if_neg e]
        exact ih m _ _ (s + 1) (by omega) (by omega) (by have := bkS_le b r; omega) (bkS_or h3 h4 e)
