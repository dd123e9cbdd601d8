/-! the balance -/
def uW (W : Nat → Nat) (i x : Nat) : Nat → Nat := fun j => if j = i then x else W j
theorem RC_u {z : zk_Z} {k kd n C w i x : Nat} {W : Nat → Nat} (T : RC z k kd n C w W) : RC (zk_sI z 5 k i (nI x)) k kd n C w (uW W i x) := by
  refine ⟨T.1, fun j hj => ?_⟩
  rw [sI_at]
  unfold uW
  by_cases h : j = i
  · rw [if_pos ⟨rfl, rfl, h⟩, if_pos h]
  · rw [if_neg (fun q => h q.2.2), if_neg h, T.2 j hj]
theorem RM_u {z : zk_Z} {k kd n C w i x : Nat} {W : Nat → Nat} (T : RM z k kd n C w W) : RM (zk_sI z 26 0 (4 * k + i) (nI x)) k kd n C w (uW W i x) := by
  refine ⟨T.1, fun j hj => ?_⟩
  rw [sI_at]
  unfold uW
  by_cases h : j = i
  · rw [if_pos ⟨rfl, rfl, by rw [h]⟩, if_pos h]
  · rw [if_neg (fun q => h (by have := q.2.2; omega)), if_neg h, T.2 j hj]
theorem ROK_u {kd n C w i x : Nat} {W : Nat → Nat} (O : ROK kd n C w W) (hx : x ≤ 99) : ROK kd n C w (uW W i x) :=
  ⟨O.1, fun j hj => by unfold uW; split; exact hx; exact O.2 j hj⟩
theorem sI_back {z : zk_Z} {g k i : Nat} {v u : Int32} (h : z.1 g k i = u) : zk_sI (zk_sI z g k i v) g k i u = z := by
  refine zk_eq (fun g' k' i' => ?_) rfl
  rw [sI_at, sI_at]
  by_cases q : g' = g ∧ k' = k ∧ i' = i
  · rw [if_pos q, q.1, q.2.1, q.2.2, h]
  · rw [if_neg q, if_neg q]
theorem sI_sI (z : zk_Z) (g k i : Nat) (v u : Int32) : zk_sI (zk_sI z g k i v) g k i u = zk_sI z g k i u := by
  refine zk_eq (fun g' k' i' => ?_) rfl
  rw [sI_at, sI_at, sI_at]
  split <;> rfl
theorem sI_same {z : zk_Z} {g k i : Nat} {u : Int32} (h : z.1 g k i = u) : zk_sI z g k i u = z := by
  refine zk_eq (fun g' k' i' => ?_) rfl
  rw [sI_at]
  by_cases q : g' = g ∧ k' = k ∧ i' = i
  · rw [if_pos q, q.1, q.2.1, q.2.2, h]
  · rw [if_neg q]
def blT (kd w : Nat) (W : Nat → Nat) (i x : Nat) : Bool := decide (hvI (nI kd) (nI i) (nI w) ≠ 0 ∧ suS (uW W i x) w (gl w) (w + 1) 0 0 = 0 ∧ alS (uW W i x) w (w + 1) 0 0 ≠ 0)
theorem bal4 {z : zk_Z} {k kd n C w i x : Nat} {W : Nat → Nat} (T : RC z k kd n C w W) (O : ROK kd n C w W) (hi : i ≤ w) (hx : x ≤ 99) : fX4_balancesWith k (nI i) (nI x) z = some (bi (blT kd w W i x), z) := by
  have hw := O.1.2.2.2.2.2.1
  have T' := RC_u (i := i) (x := x) T
  have O' := ROK_u (i := i) O hx
  have hb := sI_back (v := nI x) (T.2 i hi)
  rw [fX4_balancesWith, T.1.1, T.1.2.2.2, e2_holds, zb_some]
  unfold blT
  by_cases h1 : hvI (nI kd) (nI i) (nI w) = 0
  · rw [if_pos h1, decide_eq_false (fun q => q.1 h1)]; rfl
  · rw [if_neg h1, zx_nI (by omega) (by decide), zg_t, zg_t, nI_clamp (by omega), len4 T' O', zb_some]
    by_cases h2 : suS (uW W i x) w (gl w) (w + 1) 0 0 = 0
    · rw [if_pos h2, all4 T' O', zb_some]
      have ha := alS_le O' (w + 1) 0 0 (by omega)
      by_cases h3 : alS (uW W i x) w (w + 1) 0 0 = 0
      · rw [if_pos (by rw [h3]; decide), fX4_balancesWith_B49, fX4_balancesWith_B50, zx_nI (by omega) (by decide), zg_t, nI_clamp (by omega), T.2 i hi, hb, decide_eq_false (fun q => q.2.2 h3)]; rfl
      · rw [if_neg (by rw [show (0 : Int32) = nI 0 from rfl, nI_leI (by omega) (by omega)]; omega), fX4_balancesWith_B50, zx_nI (by omega) (by decide), zg_t, nI_clamp (by omega), T.2 i hi, hb, decide_eq_true ⟨h1, h2, h3⟩]; rfl
    · rw [if_neg h2, fX4_balancesWith_B49, fX4_balancesWith_B50, zx_nI (by omega) (by decide), zg_t, nI_clamp (by omega), T.2 i hi, hb, decide_eq_false (fun q => h2 q.2.1)]; rfl
def nd (a x : Nat) : Nat := if a ≤ x then x - a else a - x
theorem nd_le {a x : Nat} (ha : a ≤ 99) (hx : x ≤ 99) : nd a x ≤ 99 := by unfold nd; split <;> omega
def bst (kd w : Nat) (W : Nat → Nat) (i x : Nat) (o : Option (Nat × Nat)) : Option (Nat × Nat) := if blT kd w W i x = true ∧ ∀ p, o = some p → nd (W i) x < p.2 then some (100 * i + x, nd (W i) x) else o
def blI (kd w : Nat) (W : Nat → Nat) (i : Nat) : Nat → Nat → Option (Nat × Nat) → Option (Nat × Nat)
  | 0, _, o => o
  | d + 1, x, o => blI kd w W i d (x + 1) (bst kd w W i x o)
def blA (kd w : Nat) (W : Nat → Nat) : Nat → Nat → Option (Nat × Nat) → Option (Nat × Nat)
  | 0, _, o => o
  | d + 1, i, o => blA kd w W d (i + 1) (blI kd w W i 100 0 o)
def bok (o : Option (Nat × Nat)) : Prop := ∀ p, o = some p → p.1 < 400 ∧ p.2 ≤ 99
theorem bst_ok {kd w i x : Nat} {W : Nat → Nat} {o : Option (Nat × Nat)} (h : bok o) (hi : i ≤ 3) (hx : x ≤ 99) (hW : W i ≤ 99) : bok (bst kd w W i x o) := by
  unfold bst
  split
  · intro p e; cases e; exact ⟨by show 100 * i + x < 400; omega, nd_le hW hx⟩
  · exact h
theorem blI_ok {kd w i : Nat} {W : Nat → Nat} (hi : i ≤ 3) (hW : W i ≤ 99) : ∀ d x o, x + d = 100 → bok o → bok (blI kd w W i d x o) := by
  intro d
  induction d with
  | zero => intro x o _ h; exact h
  | succ d ih => intro x o h1 h; exact ih _ _ (by omega) (bst_ok h hi (by omega) hW)
def o3 (o : Option (Nat × Nat)) : Int32 := match o with | none => -1 | some p => nI p.1
def o8 (o : Option (Nat × Nat)) : Int32 := match o with | none => 100 | some p => nI p.2
def o9 (o : Option (Nat × Nat)) : Int32 := match o with | none => 0 | some p => nI p.2
theorem nd8 {a x : Nat} (ha : a ≤ 99) (hx : x ≤ 99) : (if 0 ≤ nI x - nI a then nI x - nI a else 0 - (nI x - nI a)) = nI (nd a x) := by
  unfold nd
  by_cases h : a ≤ x
  · rw [pk_sub h, if_pos h, if_pos (by rw [show (0 : Int32) = nI 0 from rfl, nI_leI (by omega) (by omega)]; omega)]
  · have e : (nI x - nI a).toInt = (x : Int) - a := pk_sub_toInt (by omega) (by omega)
    rw [if_neg h, if_neg (by rw [Int32.le_iff_toInt_le, e]; show ¬ (0 : Int) ≤ _; omega)]
    apply Int32.toInt_inj.mp
    rw [Int32.toInt_sub, e, nI_toInt (by omega)]
    show Int.bmod (0 - _) _ = _
    rw [Int.bmod_eq_of_le (by omega) (by omega)]; omega
theorem bl8_I {z : zk_Z} {k kd n C w i : Nat} {W : Nat → Nat} (T : RC z k kd n C w W) (O : ROK kd n C w W) (hi : i ≤ w) (f : Nat → Int32 → Int32 → Int32 → zk_Z → Option (Int32 × zk_Z)) : ∀ d m x o, x + d = 100 → d < m → bok o → fX8_balance_L34 f m k (o3 o) (o8 o) (nI i) (nI x) z = f k (o3 (blI kd w W i d x o)) (o8 (blI kd w W i d x o)) (nI (i + 1)) z := by
  have hw := O.1.2.2.2.2.2.1
  have hW := O.2 i hi
  intro d
  induction d with
  | zero =>
    intro m x o h1 h2 h3
    obtain ⟨m, rfl⟩ : ∃ j, m = j + 1 := ⟨m - 1, by omega⟩
    rw [fX8_balance_L34, if_pos (by rw [show (99 : Int32) = nI 99 from rfl, nI_ltI (by omega) (by omega)]; omega), nI_1]; rfl
  | succ d ih =>
    intro m x o h1 h2 h3
    obtain ⟨m, rfl⟩ : ∃ j, m = j + 1 := ⟨m - 1, by omega⟩
    have hd := nd_le hW (show x ≤ 99 by omega)
    rw [fX8_balance_L34, if_neg (by rw [show (99 : Int32) = nI 99 from rfl, nI_ltI (by omega) (by omega)]; omega), zx_nI (by omega) (by decide), zg_t, nI_clamp (by omega), T.2 i hi, nd8 hW (by omega), fX8_balance_B56, bal4 T O hi (by omega), zb_some, blI]
    have hlt : (o8 o ≤ nI (nd (W i) x)) ↔ ¬ ∀ p, o = some p → nd (W i) x < p.2 := by
      cases o with
      | none =>
        show (nI 100 ≤ _) ↔ _
        rw [nI_leI (by omega) (by omega)]
        exact ⟨fun q => by omega, fun q => absurd (fun p e => by cases e) q⟩
      | some p =>
        have := (h3 p rfl).2
        show (nI p.2 ≤ _) ↔ _
        rw [nI_leI (by omega) (by omega)]
        exact ⟨fun q r => by have := r p rfl; omega, fun q => Nat.le_of_not_lt (fun r => q (fun p' e => by cases e; exact r))⟩
    have hn := ih m (x + 1) (bst kd w W i x o) (by omega) (by omega) (bst_ok h3 (by omega) (by omega) hW)
    by_cases h : o8 o ≤ nI (nd (W i) x)
    · have e : bst kd w W i x o = o := if_neg (fun q => (hlt.mp h) q.2)
      rw [if_pos h, fX8_balance_B87, nI_1, ← hn, e]
    · rw [if_neg h]
      have h' : ∀ p, o = some p → nd (W i) x < p.2 := Classical.not_not.mp (fun q => h (hlt.mpr q))
      cases hb : blT kd w W i x with
      | false =>
        have e : bst kd w W i x o = o := if_neg (fun q => by rw [hb] at q; cases q.1)
        rw [if_pos (by rfl), fX8_balance_B87, nI_1, ← hn, e]
      | true =>
        have e : bst kd w W i x o = some (100 * i + x, nd (W i) x) := if_pos ⟨hb, h'⟩
        rw [if_neg (by decide), fX8_balance_B87, nI_1, ← hn, e, show (100 : Int32) = nI 100 from rfl, pk_mul, nI_add]; rfl
theorem bl8_A {z : zk_Z} {k kd n C w : Nat} {W : Nat → Nat} (T : RC z k kd n C w W) (O : ROK kd n C w W) : ∀ d m i o, i + d = w + 1 → d < m → bok o → fX8_balance_L22 m k (o3 o) (o8 o) (nI i) z = some (o3 (blA kd w W d i o), z) := by
  have hw := O.1.2.2.2.2.2.1
  intro d
  induction d with
  | zero =>
    intro m i o h1 h2 h3
    obtain ⟨m, rfl⟩ : ∃ j, m = j + 1 := ⟨m - 1, by omega⟩
    rw [fX8_balance_L22, T.1.2.2.2, if_pos (by rw [nI_ltI (by omega) (by omega)]; omega)]; rfl
  | succ d ih =>
    intro m i o h1 h2 h3
    obtain ⟨m, rfl⟩ : ∃ j, m = j + 1 := ⟨m - 1, by omega⟩
    rw [fX8_balance_L22, T.1.2.2.2, if_neg (by rw [nI_ltI (by omega) (by omega)]; omega), show (0 : Int32) = nI 0 from rfl, bl8_I T O (by omega) _ 100 zk_FU 0 o (by omega) (by decide) h3, blA]
    exact ih m _ _ (by omega) (by omega) (blI_ok (by omega) (O.2 i (by omega)) 100 0 o (by omega) h3)
theorem bl9_I {z : zk_Z} {k kd n C w i : Nat} {W : Nat → Nat} (T : RM z k kd n C w W) (O : ROK kd n C w W) (hk : k < 6) (hi : i ≤ w) (f : Int32 → Int32 → Int32 → Int32 → zk_Z → Option (Int32 × zk_Z)) : ∀ d m x v o, x + d = 100 → d < m → bok o → fX9_balance_L45 f m (nI k) (o3 o) (o9 o) (nI i) (nI (W i)) (nI x) (zk_sI z 26 0 (4 * k + i) v) = f (nI k) (o3 (blI kd w W i d x o)) (o9 (blI kd w W i d x o)) (nI (i + 1)) z := by
  have hw := O.1.2.2.2.2.2.1
  have hW := O.2 i hi
  have hend : ∀ o v, fX9_balance_B152 f (nI k) (o3 o) (o9 o) (nI i) (nI (W i)) (zk_sI z 26 0 (4 * k + i) v) = f (nI k) (o3 o) (o9 o) (nI (i + 1)) z := by
    intro o v
    rw [fX9_balance_B152, nI_4, zx_nI (by omega) (by decide), zg_t, nI_clamp (by omega), sI_back (T.2 i hi), nI_1]
  intro d
  induction d with
  | zero =>
    intro m x v o h1 h2 h3
    obtain ⟨m, rfl⟩ : ∃ j, m = j + 1 := ⟨m - 1, by omega⟩
    rw [fX9_balance_L45, if_pos (by rw [show (100 : Int32) = nI 100 from rfl, nI_leI (by omega) (by omega)]; omega), hend]; rfl
  | succ d ih =>
    intro m x v o h1 h2 h3
    obtain ⟨m, rfl⟩ : ∃ j, m = j + 1 := ⟨m - 1, by omega⟩
    have hd := nd_le hW (show x ≤ 99 by omega)
    have e22 : (zk_sI z 26 0 (4 * k + i) v).1 22 0 k = nI kd := T.1.1
    have e25 : (zk_sI z 26 0 (4 * k + i) v).1 25 0 k = nI w := T.1.2.2.2
    have hhv : hv9 (nI kd) (nI i) (nI w) = hvI (nI kd) (nI i) (nI w) := hv_fin kd O.1.1 i (by omega) w (by omega) O.1.2.2.2.2.1
    rw [fX9_balance_L45, if_neg (by rw [show (100 : Int32) = nI 100 from rfl, nI_leI (by omega) (by omega)]; omega), zx_nI hk (by decide), zg_t, zg_t, nI_clamp (by omega), e22, e25, e9_holds, zb_some, hhv]
    by_cases h0 : hvI (nI kd) (nI i) (nI w) = 0
    · have hs : ∀ d x o, blI kd w W i d x o = o := by
        intro d
        induction d with
        | zero => intro x o; rfl
        | succ d ih =>
          intro x o
          have e : bst kd w W i x o = o := if_neg (fun q => by have := of_decide_eq_true q.1; exact this.1 h0)
          rw [blI, e]; exact ih _ _
      rw [if_pos h0, hend, hs]
    · have T' := RM_u (i := i) (x := x) T
      have O' := ROK_u (i := i) O (show x ≤ 99 by omega)
      rw [if_neg h0, nI_4, zx_nI (by omega) (by decide), zg_t, nI_clamp (by omega), sI_sI, blI]
      have hn := ih m (x + 1) (nI x) (bst kd w W i x o) (by omega) (by omega) (bst_ok h3 (by omega) (by omega) hW)
      have hj : ∀ g : Int32, g = nI (nd (W i) x) → fX9_balance_B105 f (fX9_balance_L45 f m) (nI k) (o3 o) (o9 o) (nI i) (nI (W i)) (nI x) g (zk_sI z 26 0 (4 * k + i) (nI x)) = f (nI k) (o3 (blI kd w W i d (x + 1) (bst kd w W i x o))) (o9 (blI kd w W i d (x + 1) (bst kd w W i x o))) (nI (i + 1)) z := by
        intro g hg
        subst hg
        rw [fX9_balance_B105, len9 T' O' hk, zb_some, all9 T' O' hk, zb_some]
        have ha := alS_le O' (w + 1) 0 0 (by omega)
        by_cases h2 : suS (uW W i x) w (gl w) (w + 1) 0 0 = 0
        · rw [if_pos h2]
          by_cases h3' : alS (uW W i x) w (w + 1) 0 0 = 0
          · have e : bst kd w W i x o = o := if_neg (fun q => by have := of_decide_eq_true q.1; exact this.2.2 h3')
            rw [if_pos (by rw [h3']; rfl), fX9_balance_B146, nI_1, ← hn, e]
          · have hb : blT kd w W i x = true := decide_eq_true ⟨h0, h2, h3'⟩
            rw [if_neg (fun q => h3' ((nI_z (by omega)).mp q))]
            have hup : bst kd w W i x o = some (100 * i + x, nd (W i) x) → fX9_balance_B134 f (fX9_balance_L45 f m) (nI k) (nI i) (nI (W i)) (nI x) (nI (nd (W i) x)) (zk_sI z 26 0 (4 * k + i) (nI x)) = f (nI k) (o3 (blI kd w W i d (x + 1) (bst kd w W i x o))) (o9 (blI kd w W i d (x + 1) (bst kd w W i x o))) (nI (i + 1)) z := by
              intro e
              rw [fX9_balance_B134, fX9_balance_B146, nI_1, ← hn, e, show (100 : Int32) = nI 100 from rfl, pk_mul, nI_add]; rfl
            cases o with
            | none =>
              rw [if_pos (by rfl)]
              exact hup (if_pos ⟨hb, fun p e => by cases e⟩)
            | some p =>
              have hp := h3 p rfl
              have hne : ¬ o3 (some p) = -1 := by
                show ¬ nI p.1 = -1
                rw [← nI_m1]
                exact fun q => by have := nI_inj (by omega) (by decide) q; omega
              rw [if_neg hne]
              by_cases hl : o9 (some p) ≤ nI (nd (W i) x)
              · have e : bst kd w W i x (some p) = some p := if_neg (fun q => by
                  have q1 := q.2 p rfl
                  have q2 : nI p.2 ≤ nI (nd (W i) x) := hl
                  rw [nI_leI (by omega) (by omega)] at q2
                  omega)
                rw [if_pos hl, fX9_balance_B146, nI_1, ← hn, e]
              · rw [if_neg hl]
                refine hup (if_pos ⟨hb, fun p' e => ?_⟩)
                cases e
                refine Nat.lt_of_not_le (fun q => hl ?_)
                show nI p.2 ≤ _
                rw [nI_leI (by omega) (by omega)]; exact q
        · have e : bst kd w W i x o = o := if_neg (fun q => by have := of_decide_eq_true q.1; exact h2 this.2.1)
          rw [if_neg h2, fX9_balance_B146, nI_1, ← hn, e]
      by_cases h : W i ≤ x
      · rw [if_pos (by rw [nI_leI (by omega) (by omega)]; exact h)]
        exact hj _ (by unfold nd; rw [pk_sub h, if_pos h])
      · rw [if_neg (by rw [nI_leI (by omega) (by omega)]; exact h)]
        exact hj _ (by unfold nd; rw [pk_sub (by omega), if_neg h])
theorem bl9_A {z : zk_Z} {k kd n C w : Nat} {W : Nat → Nat} (T : RM z k kd n C w W) (O : ROK kd n C w W) (hk : k < 6) : ∀ d m i o, i + d = w + 1 → d < m → bok o → fX9_balance_L18 m (nI k) (o3 o) (o9 o) (nI i) z = some (o3 (blA kd w W d i o), z) := by
  have hw := O.1.2.2.2.2.2.1
  intro d
  induction d with
  | zero =>
    intro m i o h1 h2 h3
    obtain ⟨m, rfl⟩ : ∃ j, m = j + 1 := ⟨m - 1, by omega⟩
    rw [fX9_balance_L18, zx_nI hk (by decide), zg_t, nI_clamp (by omega), T.1.2.2.2, if_pos (by rw [nI_ltI (by omega) (by omega)]; omega)]; rfl
  | succ d ih =>
    intro m i o h1 h2 h3
    obtain ⟨m, rfl⟩ : ∃ j, m = j + 1 := ⟨m - 1, by omega⟩
    rw [fX9_balance_L18, zx_nI hk (by decide), zg_t, nI_clamp (by omega), T.1.2.2.2, if_neg (by rw [nI_ltI (by omega) (by omega)]; omega), nI_4, zx_nI (by omega) (by decide), zg_t, nI_clamp (by omega), T.2 i (by omega), show (0 : Int32) = nI 0 from rfl]
    have hq := bl9_I T O hk (show i ≤ w by omega) (fX9_balance_L18 m) 100 zk_FU 0 (nI (W i)) o (by omega) (by decide) h3
    rw [sI_same (T.2 i (by omega))] at hq
    rw [hq, blA]
    exact ih m _ _ (by omega) (by omega) (blI_ok (by omega) (O.2 i (by omega)) 100 0 o (by omega) h3)
