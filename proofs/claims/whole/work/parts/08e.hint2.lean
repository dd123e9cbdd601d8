def hst (v : Nat → Nat) (b : Option Nat) (j : Nat) : Option Nat := if 0 < v j ∧ (∀ i, b = some i → v j < v i) then some j else b
theorem hmS_s (v : Nat → Nat) (d j : Nat) (b : Option Nat) : hmS v (d + 1) j b = hmS v d (j + 1) (hst v b j) := rfl
theorem hst_le {v : Nat → Nat} {all : Nat} (hv : ∀ j, v j ≤ all) (b : Option Nat) : feS v all b ≤ all + 1 := by
  cases b with
  | none => exact Nat.le_refl _
  | some i => have := hv i; show v i ≤ all + 1; omega
theorem hB79 {v : Nat → Nat} {all : Nat} (hv : ∀ j, v j ≤ all) (ha : all ≤ 1024) (c : Nat → Int32 → Int32 → Int32 → Int32 → zk_Z → Option (Int32 × zk_Z)) (k : Nat) (a3 : Int32) (b : Option Nat) {l : Nat} (hl : l < 10) (z : zk_Z) : fX8_hint_B79 c k a3 (oi b) (nI (feS v all b)) (nI l) (nI (v (2 * l + 1))) z = c k a3 (oi (hst v b (2 * l + 1))) (nI (feS v all (hst v b (2 * l + 1)))) (nI (l + 1)) z := by
  have h1 := hv (2 * l + 1)
  have h2 := hst_le hv b
  rw [fX8_hint_B79, show (0 : Int32) = nI 0 from rfl]
  by_cases h : 0 < v (2 * l + 1)
  · rw [if_neg (by rw [nI_leI (by omega) (by omega)]; omega)]
    by_cases h' : v (2 * l + 1) < feS v all b
    · rw [if_neg (by rw [nI_leI (by omega) (by omega)]; omega), fX8_hint_B103, nI_1]
      have e : hst v b (2 * l + 1) = some (2 * l + 1) := if_pos ⟨h, (feS_iff h1).mp h'⟩
      rw [e, show (2 : Int32) = nI 2 from rfl, pk_mul, nI_1]; rfl
    · rw [if_pos (by rw [nI_leI (by omega) (by omega)]; omega), fX8_hint_B103, nI_1]
      have e : hst v b (2 * l + 1) = b := if_neg (fun q => h' ((feS_iff h1).mpr q.2))
      rw [e]
  · rw [if_pos (by rw [nI_leI (by omega) (by omega)]; omega), fX8_hint_B103, nI_1]
    have e : hst v b (2 * l + 1) = b := if_neg (fun q => h q.1)
    rw [e]
theorem hint8_L {z : zk_Z} {k n all : Nat} {v : Nat → Nat} (hn : z.1 7 k 1 = nI n) (h10 : n ≤ 10) (ha : all ≤ 1024) (hall : ∀ l, all = v (2 * l + 1) + v (2 * l)) (hT : ∀ l, l < n → z.1 19 0 l = nI (v (2 * l + 1))) : ∀ d m l (b : Option Nat), l + d = n → d < m → fX8_hint_L33 m k (nI all) (oi b) (nI (feS v all b)) (nI l) z = some (oi (hmS v (2 * d) (2 * l) b), z) := by
  have hv : ∀ j, v j ≤ all := by
    intro j
    have := hall (j / 2)
    rcases (show j = 2 * (j / 2) ∨ j = 2 * (j / 2) + 1 by omega) with h | h <;> rw [h] <;> omega
  intro d
  induction d with
  | zero =>
    intro m l b h1 h2
    obtain ⟨m, rfl⟩ : ∃ j, m = j + 1 := ⟨m - 1, by omega⟩
    rw [fX8_hint_L33, hn, if_pos (by rw [nI_leI (by omega) (by omega)]; omega)]; rfl
  | succ d ih =>
    intro m l b h1 h2
    obtain ⟨m, rfl⟩ : ∃ j, m = j + 1 := ⟨m - 1, by omega⟩
    have h3 := hst_le hv b
    have h4 := hv (2 * l)
    have h5 := hall l
    rw [fX8_hint_L33, hn, if_neg (by rw [nI_leI (by omega) (by omega)]; omega), zx_nI (by omega) (by decide), zg_t, nI_clamp (by omega), hT l (by omega), pk_sub (by omega), show all - v (2 * l + 1) = v (2 * l) by omega, show (0 : Int32) = nI 0 from rfl]
    rw [show 2 * (d + 1) = (2 * d + 1) + 1 by omega, hmS_s, hmS_s, show 2 * l + 1 + 1 = 2 * (l + 1) by omega]
    by_cases h : 0 < v (2 * l)
    · rw [if_neg (by rw [nI_leI (by omega) (by omega)]; omega)]
      by_cases h' : v (2 * l) < feS v all b
      · have e : hst v b (2 * l) = some (2 * l) := if_pos ⟨h, (feS_iff h4).mp h'⟩
        rw [if_neg (by rw [nI_leI (by omega) (by omega)]; omega), show (2 : Int32) = nI 2 from rfl, pk_mul, e]
        exact (hB79 hv ha (fX8_hint_L33 m) k (nI all) (some (2 * l)) (by omega) z).trans (ih m (l + 1) _ (by omega) (by omega))
      · have e : hst v b (2 * l) = b := if_neg (fun q => h' ((feS_iff h4).mpr q.2))
        rw [if_pos (by rw [nI_leI (by omega) (by omega)]; omega), e]
        exact (hB79 hv ha (fX8_hint_L33 m) k (nI all) b (by omega) z).trans (ih m (l + 1) _ (by omega) (by omega))
    · have e : hst v b (2 * l) = b := if_neg (fun q => h q.1)
      rw [if_pos (by rw [nI_leI (by omega) (by omega)]; omega), e]
      exact (hB79 hv ha (fX8_hint_L33 m) k (nI all) b (by omega) z).trans (ih m (l + 1) _ (by omega) (by omega))
theorem shl_b : ∀ b, b < 2 → ∀ l, l < 10 → nI b <<< (nI l &&& 31) = nI (b * 2 ^ l) := by decide +kernel
theorem and_p2 (q l : Nat) : q &&& 2 ^ l = (q.testBit l).toNat * 2 ^ l := by
  apply Nat.eq_of_testBit_eq
  intro i
  rw [Nat.testBit_and, Nat.testBit_two_pow]
  by_cases h : l = i
  · subst h
    cases q.testBit l <;> simp [Nat.testBit_two_pow_self]
  · cases q.testBit l <;> simp [h, Nat.testBit_two_pow]
theorem fAns_sb {kd C n l b : Nat} {P A : Nat → Nat} (hn : n ≤ 10) (hl : l < n) (hb : b < 2) {q : Nat} (hq : q < 2 ^ n) : fAns kd C P A (nI (2 ^ l)) (nI (b * 2 ^ l)) q = sb kd C P A l (b == 1) q := by
  have hN := p2_le hn
  have hL : 2 ^ l ≤ 1024 := p2_le (by omega)
  unfold fAns sb
  rw [Bool.and_comm]
  congr 1
  rw [nI_and, and_p2]
  have h0 : 0 < 2 ^ l := Nat.two_pow_pos l
  rcases (show b = 0 ∨ b = 1 by omega) with rfl | rfl
  · cases q.testBit l with
    | false => simp
    | true =>
      rw [decide_eq_false]
      · rfl
      · intro e
        have := nI_inj (by simp; omega) (by simp) e
        simp at this
  · cases q.testBit l with
    | false =>
      rw [decide_eq_false]
      · rfl
      · intro e
        have := nI_inj (by simp) (by simp; omega) e
        simp at this
        omega
    | true => simp
theorem hint9_L {z : zk_Z} {t kd n C : Nat} {P A : Nat → Nat} (T : TM z t kd n C P A) (O : TOK kd n C P A) (ht : t < 9) : ∀ d m j (b : Option Nat) (a3 : Int32), (∀ i, b = some i → a3 = nI (hv kd n C P A i) ∧ i < 20) → j + d = 2 * n → d < m → fX9_hint_L18 m (nI t) (oi b) a3 (nI j) z = some (oi (hmS (hv kd n C P A) d j b), z) := by
  have h10 := O.1.2.2.1
  have hN := p2_le h10
  have hle : ∀ j, hv kd n C P A j ≤ 1024 := fun j => Nat.le_trans (cn_le _ _ _) hN
  intro d
  induction d with
  | zero =>
    intro m j b a3 hb h1 h2
    obtain ⟨m, rfl⟩ : ∃ i, m = i + 1 := ⟨m - 1, by omega⟩
    rw [fX9_hint_L18, zx_nI ht (by decide), zg_t, nI_clamp (by omega), T.1.2.1, show (2 : Int32) = nI 2 from rfl, pk_mul, if_pos (by rw [nI_leI (by omega) (by omega)]; omega)]; rfl
  | succ d ih =>
    intro m j b a3 hb h1 h2
    obtain ⟨m, rfl⟩ : ∃ i, m = i + 1 := ⟨m - 1, by omega⟩
    have hj := hle j
    rw [fX9_hint_L18, zx_nI ht (by decide), zg_t, nI_clamp (by omega), T.1.2.1, show (2 : Int32) = nI 2 from rfl, pk_mul, if_neg (by rw [nI_leI (by omega) (by omega)]; omega), pk_rem (by omega) (by decide) (by decide), pk_div (by omega) (by decide) (by decide), nI_shl (by omega), shl_b (j % 2) (by omega) (j / 2) (by omega), e9_count T O ht, zb_some]
    rw [show cn (fAns kd C P A (nI (2 ^ (j / 2))) (nI (j % 2 * 2 ^ (j / 2)))) (2 ^ n) 0 = hv kd n C P A j from cn_congr _ _ (fun q _ hq => fAns_sb h10 (by omega) (by omega) (by omega)), hmS_s, show (0 : Int32) = nI 0 from rfl]
    by_cases h : 0 < hv kd n C P A j
    · rw [if_neg (by rw [nI_leI (by omega) (by omega)]; omega)]
      cases hbb : b with
      | none =>
        subst hbb
        have e : hst (hv kd n C P A) none j = some j := if_pos ⟨h, fun i q => by cases q⟩
        rw [if_pos (show oi none = -1 from rfl), fX9_hint_B69, fX9_hint_B75, nI_1, e]
        exact ih m (j + 1) (some j) _ (fun i q => by cases q; exact ⟨rfl, by omega⟩) (by omega) (by omega)
      | some i =>
        subst hbb
        obtain ⟨h3, h4⟩ := hb i rfl
        have h5 := hle i
        rw [if_neg (fun e => by have := (oi_m1 (o := some i) (fun q x => by cases x; omega)).mp e; cases this), h3]
        by_cases h' : hv kd n C P A j < hv kd n C P A i
        · have e : hst (hv kd n C P A) (some i) j = some j := if_pos ⟨h, fun q x => by cases x; exact h'⟩
          rw [if_neg (by rw [nI_leI (by omega) (by omega)]; omega), fX9_hint_B69, fX9_hint_B75, nI_1, e]
          exact ih m (j + 1) (some j) _ (fun i q => by cases q; exact ⟨rfl, by omega⟩) (by omega) (by omega)
        · have e : hst (hv kd n C P A) (some i) j = some i := if_neg (fun q => h' (q.2 i rfl))
          rw [if_pos (by rw [nI_leI (by omega) (by omega)]; omega), fX9_hint_B75, nI_1, e]
          exact ih m (j + 1) (some i) _ (fun q x => by cases x; exact ⟨rfl, h4⟩) (by omega) (by omega)
    · have e : hst (hv kd n C P A) b j = b := if_neg (fun q => h q.1)
      rw [if_pos (by rw [nI_leI (by omega) (by omega)]; omega), fX9_hint_B75, nI_1, e]
      exact ih m (j + 1) b a3 hb (by omega) (by omega)
/-! which clauses are needed -/
def nd1 (kd C : Nat) (P A : Nat → Nat) (r : Nat) : Int32 := match bkN kd P A r C 0 with
  | none => 0
  | some b => if (bkN kd P A r (C - (b + 1)) (b + 1)).isNone = true then nI (2 ^ b) else 0
def ndS (kd C : Nat) (P A : Nat → Nat) : Nat → Nat → Int32 → Int32
  | 0, _, s => s
  | d + 1, r, s => ndS kd C P A d (r + 1) (s ||| nd1 kd C P A r)
theorem or_0 (x : Int32) : x ||| 0 = x := Int32.or_zero
theorem nd8_L {z : zk_Z} {k kd n C : Nat} {P A : Nat → Nat} (T : TC z k kd n C P A) (O : TOK kd n C P A) : ∀ d m r (s : Int32), r + d = 2 ^ n → d < m → fX8_needed_L18 m k s (nI r) z = some (ndS kd C P A d r s, z) := by
  have hN := p2_le O.1.2.2.1
  have h24 := O.1.2.2.2
  intro d
  induction d with
  | zero =>
    intro m r s h1 h2
    obtain ⟨m, rfl⟩ : ∃ j, m = j + 1 := ⟨m - 1, by omega⟩
    rw [fX8_needed_L18, e7_rows T O, zb_some, if_pos (by rw [nI_leI (by omega) (by omega)]; omega)]; rfl
  | succ d ih =>
    intro m r s h1 h2
    obtain ⟨m, rfl⟩ : ∃ j, m = j + 1 := ⟨m - 1, by omega⟩
    rw [fX8_needed_L18, e7_rows T O, zb_some, if_neg (by rw [nI_leI (by omega) (by omega)]; omega), show (0 : Int32) = nI 0 from rfl, e7_broken T O (by omega) (Nat.zero_le _), zb_some, Nat.sub_zero, ndS]
    cases h : bkN kd P A r C 0 with
    | none =>
      have e : nd1 kd C P A r = 0 := by unfold nd1; rw [h]
      rw [if_pos (by decide), fX8_needed_B61, nI_1, e, or_0]
      exact ih m (r + 1) s (by omega) (by omega)
    | some b =>
      have hb := bkN_lt _ _ _ h
      show (if nI b < nI 0 then _ else zk_bd (fX7_brokenFrom k (nI b + 1) (nI r) z) _) = _
      rw [if_neg (by rw [nI_ltI (by omega) (by omega)]; omega), nI_1, e7_broken T O (by omega) (by omega), zb_some]
      cases h' : bkN kd P A r (C - (b + 1)) (b + 1) with
      | none =>
        have e : nd1 kd C P A r = nI (2 ^ b) := by unfold nd1; rw [h]; simp [h']
        rw [if_neg (by decide), fX8_needed_B61, nI_1, e]
        show fX8_needed_L18 m k (s ||| ((1 : Int32) <<< (nI b &&& 31))) (nI (r + 1)) z = _
        rw [nI_shl (by omega)]
        exact ih m (r + 1) _ (by omega) (by omega)
      | some b' =>
        have hb' := bkN_lt _ _ _ h'
        have e : nd1 kd C P A r = 0 := by unfold nd1; rw [h]; simp [h']
        show (if nI 0 ≤ nI b' then _ else _) = _
        rw [if_pos (by rw [nI_leI (by omega) (by omega)]; omega), fX8_needed_B61, nI_1, e, or_0]
        exact ih m (r + 1) s (by omega) (by omega)
/-- how many are broken of d from c on; the last of them, or o -/
def bkc (kd : Nat) (P A : Nat → Nat) (r : Nat) : Nat → Nat → Nat
  | 0, _ => 0
  | d + 1, c => (if hC kd P A c r = 0 then 1 else 0) + bkc kd P A r d (c + 1)
def bkl (kd : Nat) (P A : Nat → Nat) (r : Nat) : Nat → Nat → Nat → Nat
  | 0, _, o => o
  | d + 1, c, o => bkl kd P A r d (c + 1) (if hC kd P A c r = 0 then c else o)
theorem bkc_0 {kd : Nat} {P A : Nat → Nat} {r : Nat} : ∀ d c, (bkc kd P A r d c = 0 ↔ bkN kd P A r d c = none) ∧ (bkN kd P A r d c = none → ∀ o, bkl kd P A r d c o = o) := by
  intro d
  induction d with
  | zero => intro c; exact ⟨⟨fun _ => rfl, fun _ => rfl⟩, fun _ o => rfl⟩
  | succ d ih =>
    intro c
    by_cases h : hC kd P A c r = 0
    · rw [bkc, bkN, if_pos h, if_pos h]
      exact ⟨⟨fun q => by omega, fun q => by cases q⟩, fun q => by cases q⟩
    · rw [bkc, bkN, if_neg h, if_neg h, Nat.zero_add]
      refine ⟨(ih (c + 1)).1, fun q o => ?_⟩
      rw [bkl, if_neg h]; exact (ih (c + 1)).2 q o
theorem bkc_1 {kd : Nat} {P A : Nat → Nat} {r : Nat} : ∀ d c o, (bkc kd P A r d c = 1 ↔ ∃ b, bkN kd P A r d c = some b ∧ bkN kd P A r (c + d - (b + 1)) (b + 1) = none) ∧ ∀ b, bkN kd P A r d c = some b → bkN kd P A r (c + d - (b + 1)) (b + 1) = none → bkl kd P A r d c o = b := by
  intro d
  induction d with
  | zero => intro c o; exact ⟨⟨fun q => (by cases q), fun ⟨b, q, _⟩ => (by cases q)⟩, fun b q => (by cases q)⟩
  | succ d ih =>
    intro c o
    by_cases h : hC kd P A c r = 0
    · rw [bkc, bkN, if_pos h, if_pos h]
      have e : c + (d + 1) - (c + 1) = d := by omega
      refine ⟨⟨fun q => ⟨c, rfl, ?_⟩, fun ⟨b, q1, q2⟩ => ?_⟩, fun b q1 q2 => ?_⟩
      · rw [e]; exact (bkc_0 d (c + 1)).1.mp (by omega)
      · cases q1; rw [e] at q2; have := (bkc_0 d (c + 1)).1.mpr q2; omega
      · cases q1; rw [e] at q2; rw [bkl, if_pos h]; exact (bkc_0 d (c + 1)).2 q2 c
    · rw [bkc, bkN, if_neg h, if_neg h, Nat.zero_add, show c + (d + 1) = (c + 1) + d by omega, bkl, if_neg h]
      exact ih (c + 1) o
