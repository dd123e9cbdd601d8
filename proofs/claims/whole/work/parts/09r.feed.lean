/-! bytes onto the tape -/
def byI (x : Int64) (k : Nat) : Int32 := (((x.toUInt64 >>> ((8 * nI k).toInt64.toUInt64 &&& Int64.toUInt64 63)).toInt64).toInt32) &&& 255
theorem byI_lt (x : Int64) (k : Nat) : ∃ b : Nat, b < 256 ∧ byI x k = nI b := by
  obtain ⟨j, h1, h2⟩ := pk_andE (((x.toUInt64 >>> ((8 * nI k).toInt64.toUInt64 &&& Int64.toUInt64 63)).toInt64).toInt32) (m := 255) 8 (by decide)
  exact ⟨j, h1, h2⟩
theorem by_s (x : Int64) (s : Nat) (hs : s ≤ 56) : (((x.toBitVec >>> s).signExtend 32) &&& (255#32)) = ((BitVec.sshiftRight x.toBitVec s &&& (255#64)).signExtend 32) := by
  apply BitVec.eq_of_getLsbD_eq
  intro i hi
  have h255 : ∀ (w : Nat), 8 ≤ w → (BitVec.ofNat w 255).getLsbD i = (decide (i < w) && decide (i < 8)) := by
    intro w hw
    rw [BitVec.getLsbD_ofNat, show (255 : Nat) = 2 ^ 8 - 1 from rfl, Nat.testBit_two_pow_sub_one]
  rw [BitVec.getLsbD_and, BitVec.getLsbD_signExtend, BitVec.getLsbD_signExtend, BitVec.getLsbD_and, h255 32 (by decide), h255 64 (by decide), BitVec.getLsbD_sshiftRight, BitVec.getLsbD_ushiftRight]
  rw [if_pos (show i < 64 by omega), if_pos (show i < 64 by omega)]
  by_cases h8 : i < 8
  · rw [decide_eq_true h8, decide_eq_true hi, decide_eq_true (show i < 64 by omega), decide_eq_false (show ¬ 64 ≤ i by omega), if_pos (show s + i < 64 by omega)]
    simp
  · rw [decide_eq_false h8]
    simp
theorem by_eq (x : Int64) : ∀ k, k < 8 → ((x >>> ((8 * nI k).toInt64 &&& 63)) &&& 255).toInt32 = byI x k := by
  have key : ∀ (s : Nat), s ≤ 56 → ∀ (u : UInt64) (v : Int64), u.toBitVec.toNat = s → (v.toBitVec.smod 64).toNat = s → ((x >>> v) &&& 255).toInt32 = (((x.toUInt64 >>> u).toInt64).toInt32) &&& 255 := by
    intro s hs u v hu hv
    apply Int32.toBitVec_inj.mp
    have e := by_s x s hs
    have e1 : (x >>> v).toBitVec = BitVec.sshiftRight x.toBitVec s := by
      show BitVec.sshiftRight' x.toBitVec (v.toBitVec.smod 64) = _
      rw [BitVec.sshiftRight', hv]
    have e2 : (x.toUInt64 >>> u).toBitVec = x.toBitVec >>> s := by
      show x.toBitVec >>> (u.toBitVec % 64#64) = _
      rw [BitVec.ushiftRight_eq', BitVec.toNat_umod, hu]
      show x.toBitVec >>> (s % 64) = _
      rw [Nat.mod_eq_of_lt (by omega)]
    show ((x >>> v).toBitVec &&& (255#64)).signExtend 32 = ((x.toUInt64 >>> u).toBitVec.signExtend 32) &&& (255#32)
    rw [e1, e2]
    exact e.symm
  intro k hk
  unfold byI
  have h : ∀ k, k < 8 → (((8 * nI k).toInt64.toUInt64 &&& Int64.toUInt64 63)).toBitVec.toNat = 8 * k ∧ ((((8 * nI k).toInt64 &&& 63)).toBitVec.smod 64).toNat = 8 * k := by decide +kernel
  exact key (8 * k) (by omega) _ _ (h k hk).1 (h k hk).2
theorem fe8_L {x : Int64} : ∀ r m q z, r ≤ 8 → q + r ≤ 80 → r < m → z.1 1 0 1 = nI q → ∃ z', fX8_feed_L36 m x (nI r - 1) z = some (nI (q + r), z') ∧ z'.1 1 0 1 = nI (q + r) ∧ (∀ i, i < r → z'.1 2 0 (q + i) = byI x (r - 1 - i)) ∧ ∀ g k i, ¬ ((g = 2 ∧ q ≤ i) ∨ (g = 1 ∧ i = 1)) → z'.1 g k i = z.1 g k i := by
  intro r
  induction r with
  | zero =>
    intro m q z _ _ h2 h3
    obtain ⟨m, rfl⟩ : ∃ j, m = j + 1 := ⟨m - 1, by omega⟩
    exact ⟨z, by rw [fX8_feed_L36, if_pos (by decide), h3]; rfl, h3, fun i hi => by omega, fun _ _ _ _ => rfl⟩
  | succ r ih =>
    intro m q z h1 hq h2 h3
    obtain ⟨m, rfl⟩ : ∃ j, m = j + 1 := ⟨m - 1, by omega⟩
    obtain ⟨y, hy⟩ : ∃ y, y = zk_sI (zk_sI z 2 0 q (byI x r)) 1 0 1 (nI (q + 1)) := ⟨_, rfl⟩
    have yne : ∀ g k i, ¬ ((g = 2 ∧ i = q) ∨ (g = 1 ∧ i = 1)) → y.1 g k i = z.1 g k i := fun g k i hg => by rw [hy, sI_at, if_neg (by omega), sI_at, if_neg (by omega)]
    have c1 : (zk_sI z 2 0 q (byI x r)).1 1 0 1 = nI q := h3
    have ep : fX6_put (byI x r) z = some ((), y) := by
      rw [fX6_put, h3, if_neg (by rw [show (80 : Int32) = nI 80 from rfl, nI_leI (by decide) (by omega)]; omega), zx_nI (by omega) (by decide), zg_t, nI_clamp (by omega), c1, nI_1, hy]
    obtain ⟨z', w1, w2, w3, w4⟩ := ih m (q + 1) y (by omega) (by omega) (by omega) (by rw [hy, sI_at, if_pos ⟨rfl, rfl, rfl⟩])
    refine ⟨z', ?_, ?_, fun i hi => ?_, fun g k i hg => ?_⟩
    · rw [nI_sub1, fX8_feed_L36, if_neg (nI_lt0 (by omega))]
      show zk_bd (fX6_put (byI x r) z) _ = _
      rw [ep, zb_some, ← Int32.sub_eq_add_neg, w1]
      congr 3; omega
    · rw [w2]; congr 1; omega
    · by_cases e : i = 0
      · rw [e, w4 2 0 (q + 0) (by omega), hy, sI_at, if_neg (by omega), sI_at, if_pos ⟨rfl, rfl, by omega⟩]; rfl
      · have := w3 (i - 1) (by omega)
        rw [show q + 1 + (i - 1) = q + i by omega] at this
        rw [this]; congr 1; omega
    · rw [w4 g k i (by omega), yne g k i (by omega)]
theorem fe9_L {x : Int64} : ∀ r m q z, r ≤ 8 → q + r ≤ 80 → r < m → z.1 20 0 1 = nI q → ∃ z', fX9_feed_L32 m x (nI r - 1) z = some (nI (q + r), z') ∧ z'.1 20 0 1 = nI (q + r) ∧ (∀ i, i < r → z'.1 21 0 (q + i) = byI x (r - 1 - i)) ∧ ∀ g k i, ¬ ((g = 21 ∧ q ≤ i) ∨ (g = 20 ∧ i = 1)) → z'.1 g k i = z.1 g k i := by
  intro r
  induction r with
  | zero =>
    intro m q z _ _ h2 h3
    obtain ⟨m, rfl⟩ : ∃ j, m = j + 1 := ⟨m - 1, by omega⟩
    exact ⟨z, by rw [fX9_feed_L32, if_pos (by decide), h3]; rfl, h3, fun i hi => by omega, fun _ _ _ _ => rfl⟩
  | succ r ih =>
    intro m q z h1 hq h2 h3
    obtain ⟨m, rfl⟩ : ∃ j, m = j + 1 := ⟨m - 1, by omega⟩
    obtain ⟨y, hy⟩ : ∃ y, y = zk_sI (zk_sI z 21 0 q (byI x r)) 20 0 1 (nI (q + 1)) := ⟨_, rfl⟩
    have yne : ∀ g k i, ¬ ((g = 21 ∧ i = q) ∨ (g = 20 ∧ i = 1)) → y.1 g k i = z.1 g k i := fun g k i hg => by rw [hy, sI_at, if_neg (by omega), sI_at, if_neg (by omega)]
    have c1 : (zk_sI z 21 0 q (byI x r)).1 20 0 1 = nI q := h3
    obtain ⟨z', w1, w2, w3, w4⟩ := ih m (q + 1) y (by omega) (by omega) (by omega) (by rw [hy, sI_at, if_pos ⟨rfl, rfl, rfl⟩])
    refine ⟨z', ?_, ?_, fun i hi => ?_, fun g k i hg => ?_⟩
    · rw [nI_sub1, fX9_feed_L32, if_neg (nI_lt0 (by omega)), by_eq x r (by omega), h3, zx_nI (by omega) (by decide), zg_t, nI_clamp (by omega), c1, nI_1, ← hy, ← Int32.sub_eq_add_neg, w1]
      congr 3; omega
    · rw [w2]; congr 1; omega
    · by_cases e : i = 0
      · rw [e, w4 21 0 (q + 0) (by omega), hy, sI_at, if_neg (by omega), sI_at, if_pos ⟨rfl, rfl, by omega⟩]; rfl
      · have := w3 (i - 1) (by omega)
        rw [show q + 1 + (i - 1) = q + i by omega] at this
        rw [this]; congr 1; omega
    · rw [w4 g k i (by omega), yne g k i (by omega)]
/-- the tape changed -/
theorem Rl_tp {z z' : zk_Z} {nt nr nk tp tp' : Nat} (R : Rl z nt nr nk tp) (h : ∀ g k i, ¬ ((g = 1 ∧ (i = 1 ∨ i = 2 ∨ i = 3)) ∨ g = 2 ∨ (g = 20 ∧ (i = 1 ∨ i = 27)) ∨ g = 21) → z'.1 g k i = z.1 g k i) (T : tpR z' tp') : Rl z' nt nr nk tp' := by
  obtain ⟨⟨⟨a1, a2, a3⟩, ⟨b1, b2, b3⟩, ⟨c1, c2, c3⟩⟩, d, e, f, g, i, j⟩ := R
  refine ⟨⟨⟨a1, ?_, ?_⟩, ⟨b1, ?_, ?_⟩, ⟨c1, ?_, ?_⟩⟩, T, fun t ht => ?_, fun r hr => ?_, fun k hk => ?_, fun s' hs => ?_, ?_⟩
  · rw [h 0 0 12 (by omega)]; exact a2
  · rw [h 20 0 8 (by omega)]; exact a3
  · rw [h 0 0 11 (by omega)]; exact b2
  · rw [h 20 0 2 (by omega)]; exact b3
  · rw [h 0 0 13 (by omega)]; exact c2
  · rw [h 20 0 17 (by omega)]; exact c3
  · exact tkR_at (fun g k i q => h g k i (by omega)) (e t ht)
  · exact rcR_at (fun g k i q => h g k i (by omega)) (f r hr)
  · exact clR_at (fun g k i q => h g k i (by omega)) (g k hk)
  · exact shR_at (fun g k i q => h g k i (by omega)) (i s' hs)
  · exact imR_at (Nat.le_refl _) (fun g k i q => h g k i (by omega)) j
theorem ok_feed {z : zk_Z} {nt nr nk tp : Nat} (R : Rl z nt nr nk tp) (x : Int64) (n : Int32) : Ok (fX8_feed x n) (fX9_feed x n) z := by
  have Q : Rx z := ⟨nt, nr, nk, tp, R⟩
  obtain ⟨⟨t1, t2, t3⟩, tb⟩ := R.2.1
  have e8 : (8 : Int32) = nI 8 := rfl
  have e80 : (80 : Int32) = nI 80 := rfl
  by_cases h1 : n < 1
  · exact Ok_eq (-2) Q (by rw [fX8_feed, if_pos h1]) (by rw [fX9_feed, fX9_in, if_pos h1, zb_some, if_pos rfl])
  by_cases h2 : 8 < n
  · exact Ok_eq (-2) Q (by rw [fX8_feed, if_neg h1, if_neg (Int32.not_le.mpr h2)]) (by rw [fX9_feed, fX9_in, if_neg h1, if_pos h2, zb_some, if_pos rfl])
  have h0 : ¬ n < 0 := fun q => h1 (by
    rw [Int32.lt_iff_toInt_lt] at q ⊢
    have e0 : (0 : Int32).toInt = 0 := by decide
    have e1 : (1 : Int32).toInt = 1 := by decide
    omega)
  obtain ⟨r, hr, rfl⟩ := nn h0
  have r1 : 1 ≤ r := by rw [show (1 : Int32) = nI 1 from rfl, nI_ltI hr (by decide)] at h1; omega
  have r8 : r ≤ 8 := by rw [e8, nI_ltI (by decide) hr] at h2; omega
  by_cases h3 : tp + r ≤ 80
  rotate_left
  · have h3' : ¬ nI (tp + r) ≤ 80 := by rw [e80, nI_leI (by omega) (by decide)]; exact h3
    exact Ok_eq (-4) Q (by rw [fX8_feed, if_neg h1, if_pos (Int32.not_lt.mp h2), t2, nI_add, if_neg h3']) (by rw [fX9_feed, fX9_in, if_neg h1, if_neg h2, zb_some, if_neg r10, t3, nI_add, if_neg h3'])
  have h3' : nI (tp + r) ≤ 80 := by rw [e80, nI_leI (by omega) (by decide)]; exact h3
  obtain ⟨z1, w1, w2, w3, w4⟩ := fe8_L (x := x) r zk_FU tp z r8 h3 (by show r < 6000; omega) t2
  obtain ⟨z2, u1, u2, u3, u4⟩ := fe9_L (x := x) r zk_FU tp z1 r8 h3 (by show r < 6000; omega) (by rw [w4 20 0 1 (by omega)]; exact t3)
  refine ⟨nI (tp + r), z1, z2, ?_, ?_, nt, nr, nk, tp + r, Rl_tp R (fun g k i hg => by rw [u4 g k i (by omega), w4 g k i (by omega)]) ⟨⟨h3, ?_, u2⟩, fun i hi => ?_⟩⟩
  · rw [fX8_feed, if_neg h1, if_pos (Int32.not_lt.mp h2), t2, nI_add, if_pos h3']; exact w1
  · rw [fX9_feed, fX9_in, if_neg h1, if_neg h2, zb_some, if_neg r10, w4 20 0 1 (by omega), t3, nI_add, if_pos h3']; exact u1
  · rw [u4 1 0 1 (by omega)]; exact w2
  · by_cases hi' : i < tp
    · rw [u4 2 0 i (by omega), w4 2 0 i (by omega), u4 21 0 i (by omega), w4 21 0 i (by omega)]; exact tb i hi'
    · obtain ⟨b, hb, eb⟩ := byI_lt x (r - 1 - (i - tp))
      have q1 := w3 (i - tp) (by omega)
      have q2 := u3 (i - tp) (by omega)
      rw [show tp + (i - tp) = i by omega] at q1 q2
      exact ⟨b, hb, by rw [u4 2 0 i (by omega), q1, eb], by rw [q2, eb]⟩
