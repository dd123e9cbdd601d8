/-! the row after, and climbing -/
def pkS (kd C : Nat) (P A : Nat → Nat) (r : Nat) : Nat → Nat → Nat → Option Nat → Nat × Option Nat
  | 0, _, b, o => (b, o)
  | d + 1, l, b, o => if wS kd P A (r ^^^ 2 ^ l) C 0 ≤ b then pkS kd C P A r d (l + 1) b o else pkS kd C P A r d (l + 1) (wS kd P A (r ^^^ 2 ^ l) C 0) (some l)
theorem pkS_lt {kd C : Nat} {P A : Nat → Nat} {r : Nat} : ∀ d l b o n, l + d = n → (∀ j, o = some j → j < n) → ∀ j, (pkS kd C P A r d l b o).2 = some j → j < n := by
  intro d
  induction d with
  | zero => intro l b o n _ h; exact h
  | succ d ih =>
    intro l b o n h1 h
    rw [pkS]
    by_cases q : wS kd P A (r ^^^ 2 ^ l) C 0 ≤ b
    · rw [if_pos q]; exact ih _ _ _ n (by omega) h
    · rw [if_neg q]; exact ih _ _ _ n (by omega) (fun j e => by cases e; omega)
def nxo (n r s : Nat) (o : Option Nat) : Nat := match o with | none => (5 * r + 3 + s) % 2 ^ n | some l => r ^^^ 2 ^ l
def nx (kd n C : Nat) (P A : Nat → Nat) (r s : Nat) : Nat := nxo n r s (pkS kd C P A r n 0 (wS kd P A r C 0) none).2
theorem nx_lt {kd n C : Nat} {P A : Nat → Nat} {r s : Nat} (hr : r < 2 ^ n) : nx kd n C P A r s < 2 ^ n := by
  unfold nx nxo
  have := pkS_lt (kd := kd) (C := C) (P := P) (A := A) (r := r) n 0 (wS kd P A r C 0) none n (by omega) (fun j e => by cases e)
  cases h : (pkS kd C P A r n 0 (wS kd P A r C 0) none).2 with
  | none => exact Nat.mod_lt _ (Nat.two_pow_pos n)
  | some l => exact Nat.xor_lt_two_pow hr (Nat.pow_lt_pow_right (by decide) (this l h))
theorem ra7_L {z : zk_Z} {k kd n C r s w : Nat} {P A : Nat → Nat} (T : TC z k kd n C P A) (O : TOK kd n C P A) (hr : r < 1024) (hw : w = wS kd P A r C 0) : ∀ d m l b o, l + d = n → d < m → b ≤ 1000 → fX1_rowAfter_L24 k m (nI r) (nI (nxo n r s o)) (nI b - nI w) (nI l) z = some (nI (nxo n r s (pkS kd C P A r d l b o).2), z) := by
  have h24 := O.1.2.2.2
  have h10 := O.1.2.2.1
  intro d
  induction d with
  | zero =>
    intro m l b o h1 h2 h3
    obtain ⟨m, rfl⟩ : ∃ j, m = j + 1 := ⟨m - 1, by omega⟩
    rw [fX1_rowAfter_L24, T.1.2.1, if_pos (by rw [nI_leI (by omega) (by omega)]; omega)]; rfl
  | succ d ih =>
    intro m l b o h1 h2 h3
    obtain ⟨m, rfl⟩ : ∃ j, m = j + 1 := ⟨m - 1, by omega⟩
    have q1 := wS_le (r := r) O C 0 (by omega)
    have q2 := wS_le (r := r ^^^ 2 ^ l) O C 0 (by omega)
    rw [fX1_rowAfter_L24, T.1.2.1, if_neg (by rw [nI_leI (by omega) (by omega)]; omega), g7 T O hr (by omega), zb_some, ← hw, pkS]
    by_cases h : wS kd P A (r ^^^ 2 ^ l) C 0 ≤ b
    · rw [if_pos ((sub_le4 (by omega) (by omega) (by omega) (by omega)).mpr (by omega)), if_pos h, fX1_rowAfter_B60, nI_1]
      exact ih m (l + 1) b o (by omega) (by omega) h3
    · rw [if_neg (fun q => h (by have := (sub_le4 (by omega) (by omega) (by omega) (by omega)).mp q; omega)), if_neg h, fX1_rowAfter_B60, nI_1, nI_shl (by omega), nI_xor]
      exact ih m (l + 1) _ (some l) (by omega) (by omega) (by omega)
theorem ra7 {z : zk_Z} {k kd n C r s : Nat} {P A : Nat → Nat} (T : TC z k kd n C P A) (O : TOK kd n C P A) (hr : r < 2 ^ n) (hs : s < 10000) (hz : z.1 16 0 1 = nI s) : fX1_rowAfter k (nI r) z = some (nI (nx kd n C P A r s), z) := by
  have h24 := O.1.2.2.2
  have h10 := O.1.2.2.1
  have hN := p2_le h10
  have q1 := wS_le (r := r) O C 0 (by omega)
  have h := ra7_L (s := s) T O (r := r) (by omega) rfl n zk_FU 0 (wS kd P A r C 0) none (by omega) (by show n < 6000; omega) (by omega)
  rw [Int32.sub_self] at h
  rw [fX1_rowAfter, e7_rows T O, zb_some, hz, show (5 : Int32) = nI 5 from rfl, show (3 : Int32) = nI 3 from rfl, pk_mul, nI_add, nI_add, show (1 : Int32) = nI 1 from rfl, pk_sub (Nat.two_pow_pos n), nI_and, Nat.and_two_pow_sub_one_eq_mod]
  exact h
/-- the reference's -/
theorem ra9_L {z : zk_Z} {t kd n C r lim s : Nat} {P A : Nat → Nat} (T : TM z t kd n C P A) (O : TOK kd n C P A) (ht : t < 9) (hr : r < 2 ^ n) (hs : s < 10000) (hz : z.1 20 0 30 = nI s) (f : Int32 → Int32 → Int32 → zk_Z → Option (Int32 × zk_Z)) : ∀ d m l b o, l + d = n → d < m → b ≤ 1000 → (∀ j, o = some j → j < n) → fX9_climbs_L54 f m (nI t) (nI lim) (nI r) (oi o) (nI b - nI C) (nI l) z = f (nI t) (nI lim) (nI (nxo n r s (pkS kd C P A r d l b o).2)) z := by
  have h24 := O.1.2.2.2
  have h10 := O.1.2.2.1
  have hN := p2_le h10
  have h0 := Nat.two_pow_pos n
  intro d
  induction d with
  | zero =>
    intro m l b o h1 h2 h3 h4
    obtain ⟨m, rfl⟩ : ∃ j, m = j + 1 := ⟨m - 1, by omega⟩
    rw [fX9_climbs_L54, zx_nI ht (by decide), zg_t, nI_clamp (by omega), T.1.2.1, if_pos (by rw [nI_leI (by omega) (by omega)]; omega), pkS]
    cases o with
    | none =>
      rw [if_pos (by rfl), zg_t, nI_shl (by omega), show zk_nz (nI (2 ^ n)) = true from ?_, zg_t, hz, fX9_climbs_B153, show (5 : Int32) = nI 5 from rfl, show (3 : Int32) = nI 3 from rfl, pk_mul, nI_add, nI_add, pk_rem (by omega) h0 (by omega)]
      · rfl
      · unfold zk_nz
        rw [decide_eq_false (fun q => by have := nI_inj (by omega) (by decide) (q.trans (show (0 : Int32) = nI 0 from rfl)); omega)]; rfl
    | some j =>
      have hj := h4 j rfl
      rw [if_neg (fun q => by have := (oi_m1 (o := some j) (fun i e => by cases e; omega)).mp q; cases this), fX9_climbs_B153]
      show f _ _ (nI r ^^^ ((1 : Int32) <<< (nI j &&& 31))) z = _
      rw [nI_shl (by omega), nI_xor]; rfl
  | succ d ih =>
    intro m l b o h1 h2 h3 h4
    obtain ⟨m, rfl⟩ : ∃ j, m = j + 1 := ⟨m - 1, by omega⟩
    have q2 := wS_le (r := r ^^^ 2 ^ l) O C 0 (by omega)
    have h2l : 2 ^ l < 1024 := Nat.pow_lt_pow_right (a := 2) (by decide) (show l < 10 by omega)
    have hr' : r ^^^ 2 ^ l < 1024 := Nat.xor_lt_two_pow (n := 10) (by omega) h2l
    rw [fX9_climbs_L54, zx_nI ht (by decide), zg_t, nI_clamp (by omega), T.1.2.1, if_neg (by rw [nI_leI (by omega) (by omega)]; omega), nI_shl (by omega), nI_xor, wo9 T O ht hr', zb_some, pkS]
    by_cases h : wS kd P A (r ^^^ 2 ^ l) C 0 ≤ b
    · have e := (sub_le4 (a := wS kd P A (r ^^^ 2 ^ l) C 0) (b := C) (c := b) (d := C) (by omega) (by omega) (by omega) (by omega)).mpr (by omega)
      rw [if_pos e, if_pos h, fX9_climbs_B93, if_pos e, fX9_climbs_B109, nI_1]
      exact ih m (l + 1) b o (by omega) (by omega) h3 h4
    · have e : ¬ nI (wS kd P A (r ^^^ 2 ^ l) C 0) - nI C ≤ nI b - nI C := fun q => h (by have := (sub_le4 (by omega) (by omega) (by omega) (by omega)).mp q; omega)
      rw [if_neg e, if_neg h, fX9_climbs_B93, if_neg e, fX9_climbs_B109, nI_1]
      exact ih m (l + 1) _ (some l) (by omega) (by omega) (by omega) (fun j q => by cases q; omega)
def clS (kd n C : Nat) (P A : Nat → Nat) : Nat → Nat → Nat → Option Nat × Nat
  | 0, _, s => (none, s)
  | d + 1, r, s => if sol kd C P A r = true then (some r, s + 1) else clS kd n C P A d (nx kd n C P A r (s + 1)) (s + 1)
/-- the finder's field -/
def fz (z : zk_Z) (f : Int32) (s : Nat) : zk_Z := zk_sI (zk_sI z 16 0 0 f) 16 0 1 (nI s)
def fm (z : zk_Z) (s : Nat) : zk_Z := zk_sI z 20 0 30 (nI s)
def fo (f : Int32) (o : Option Nat) : Int32 := match o with | none => f | some r => nI r
theorem zk_eq {z w : zk_Z} (h1 : ∀ g k i, z.1 g k i = w.1 g k i) (h2 : z.2 = w.2) : z = w :=
  Prod.ext (funext fun g => funext fun k => funext fun i => h1 g k i) h2
theorem sI_at (z : zk_Z) (g k i : Nat) (v : Int32) (g' k' i' : Nat) : (zk_sI z g k i v).1 g' k' i' = if g' = g ∧ k' = k ∧ i' = i then v else z.1 g' k' i' := by
  show (if g' = g ∧ k' = k then upd (z.1 g k) i v else z.1 g' k') i' = _
  by_cases h : g' = g ∧ k' = k
  · rw [if_pos h, upd]
    by_cases h' : i' = i
    · rw [if_pos h', if_pos ⟨h.1, h.2, h'⟩]
    · rw [if_neg h', if_neg (fun q => h' q.2.2), h.1, h.2]
  · rw [if_neg h, if_neg (fun q => h ⟨q.1, q.2.1⟩)]
theorem fz_s (z : zk_Z) (f : Int32) (s s' : Nat) : zk_sI (fz z f s) 16 0 1 (nI s') = fz z f s' := by
  refine zk_eq (fun g k i => ?_) rfl
  unfold fz
  rw [sI_at, sI_at, sI_at, sI_at, sI_at]
  split <;> rfl
theorem fz_f (z : zk_Z) (f f' : Int32) (s : Nat) : zk_sI (fz z f s) 16 0 0 f' = fz z f' s := by
  refine zk_eq (fun g k i => ?_) rfl
  unfold fz
  rw [sI_at, sI_at, sI_at, sI_at, sI_at]
  by_cases h : g = 16 ∧ k = 0 ∧ i = 0
  · obtain ⟨rfl, rfl, rfl⟩ := h; rfl
  · rw [if_neg h, if_neg h]
    split <;> rfl
theorem fm_s (z : zk_Z) (s s' : Nat) : zk_sI (fm z s) 20 0 30 (nI s') = fm z s' := by
  refine zk_eq (fun g k i => ?_) rfl
  unfold fm
  rw [sI_at, sI_at, sI_at]
  split <;> rfl
theorem TC_fz {z : zk_Z} {k kd n C s : Nat} {P A : Nat → Nat} {f : Int32} (T : TC z k kd n C P A) : TC (fz z f s) k kd n C P A := T
theorem TM_fm {z : zk_Z} {t kd n C s : Nat} {P A : Nat → Nat} (T : TM z t kd n C P A) : TM (fm z s) t kd n C P A := T
theorem fz_1 (z : zk_Z) (f : Int32) (s : Nat) : (fz z f s).1 16 0 1 = nI s := by unfold fz; rw [sI_at]; rfl
theorem fz_0 (z : zk_Z) (f : Int32) (s : Nat) : (fz z f s).1 16 0 0 = f := by unfold fz; rw [sI_at, sI_at]; rfl
theorem fm_1 (z : zk_Z) (s : Nat) : (fm z s).1 20 0 30 = nI s := by unfold fm; rw [sI_at]; rfl
theorem cl7_L {z : zk_Z} {k kd n C lim : Nat} {P A : Nat → Nat} {f : Int32} (T : TC z k kd n C P A) (O : TOK kd n C P A) (hlim : lim ≤ 5000) : ∀ d m r s, s + d = lim → d < m → r < 2 ^ n → fX1_climb_L6 k m (nI lim) (nI r) (nI (s + 1)) (fz z f s) = some ((), fz z (fo f (clS kd n C P A d r s).1) (clS kd n C P A d r s).2) := by
  have hN := p2_le O.1.2.2.1
  intro d
  induction d with
  | zero =>
    intro m r s h1 h2 h3
    obtain ⟨m, rfl⟩ : ∃ j, m = j + 1 := ⟨m - 1, by omega⟩
    rw [fX1_climb_L6, if_pos (by rw [nI_ltI (by omega) (by omega)]; omega)]; rfl
  | succ d ih =>
    intro m r s h1 h2 h3
    obtain ⟨m, rfl⟩ : ∃ j, m = j + 1 := ⟨m - 1, by omega⟩
    rw [fX1_climb_L6, if_neg (by rw [nI_ltI (by omega) (by omega)]; omega), fz_s, e7_solved (TC_fz T) O (by omega), zb_some, clS]
    cases h : sol kd C P A r with
    | true => rw [if_neg (by decide), if_pos rfl, fz_f]; rfl
    | false =>
      rw [if_pos (by decide), if_neg (by decide), ra7 (s := s + 1) (TC_fz T) O h3 (by omega) (fz_1 _ _ _), zb_some, nI_1]
      exact ih m _ (s + 1) (by omega) (by omega) (nx_lt h3)
theorem cl9_L {z : zk_Z} {t kd n C lim : Nat} {P A : Nat → Nat} (T : TM z t kd n C P A) (O : TOK kd n C P A) (ht : t < 9) (hlim : lim ≤ 5000) : ∀ d m r s, s + d = lim → d < m → r < 2 ^ n → fX9_climbs_L8 m (nI t) (nI lim) (nI r) (fm z s) = some (oi (clS kd n C P A d r s).1, fm z (clS kd n C P A d r s).2) := by
  have hN := p2_le O.1.2.2.1
  have h24 := O.1.2.2.2
  intro d
  induction d with
  | zero =>
    intro m r s h1 h2 h3
    obtain ⟨m, rfl⟩ : ∃ j, m = j + 1 := ⟨m - 1, by omega⟩
    rw [fX9_climbs_L8, fm_1, if_pos (by rw [nI_leI (by omega) (by omega)]; omega)]; rfl
  | succ d ih =>
    intro m r s h1 h2 h3
    obtain ⟨m, rfl⟩ : ∃ j, m = j + 1 := ⟨m - 1, by omega⟩
    rw [fX9_climbs_L8, fm_1, if_neg (by rw [nI_leI (by omega) (by omega)]; omega), nI_1, fm_s, e9_solve (TM_fm T) O ht (by omega), zb_some, clS]
    cases h : sol kd C P A r with
    | true => rw [if_neg (by decide), if_pos rfl]; rfl
    | false =>
      have q1 := wS_le (r := r) O C 0 (by omega)
      rw [if_pos (by decide), if_neg (by decide), wo9 (TM_fm T) O ht (by omega), zb_some]
      refine (ra9_L (s := s + 1) (TM_fm T) O ht h3 (by omega) (fm_1 _ _) _ n zk_FU 0 _ none (by omega) (by show n < 6000; have := O.1.2.2.1; omega) (by omega) (fun j e => by cases e)).trans ?_
      exact ih m _ (s + 1) (by omega) (by omega) (nx_lt h3)
