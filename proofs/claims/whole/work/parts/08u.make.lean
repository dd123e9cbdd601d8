/-! a task by a recipe and a seed, on both sides -/
def mkH (n sd : Nat) : Nat := (hiS n 0 0 (sd + 1)).1
def mkA (n sd : Nat) : Nat := (hiS n 0 0 (sd + 1)).2
def bgZ (z : zk_Z) (k : Nat) (x y : Int32) : zk_Z := zk_sI (zk_sI (zk_sI (zk_sI (zk_sI (zk_sI z 7 k 0 x) 7 k 1 y) 7 k 2 0) 7 k 3 (-1)) 7 k 4 (-1)) 7 k 5 (-1)
theorem bgZ_ne {z : zk_Z} {k : Nat} {x y : Int32} {g k' i : Nat} (h : ¬ (g = 7 ∧ k' = k)) : (bgZ z k x y).1 g k' i = z.1 g k' i := by
  have hh : ∀ j, ¬ (g = 7 ∧ k' = k ∧ i = j) := fun j q => h ⟨q.1, q.2.1⟩
  unfold bgZ
  rw [sI_at, if_neg (hh _), sI_at, if_neg (hh _), sI_at, if_neg (hh _), sI_at, if_neg (hh _), sI_at, if_neg (hh _), sI_at, if_neg (hh _)]
theorem fill3 {z : zk_Z} {k1 k2 kd n C w sd : Nat} {W : Nat → Nat} (T : RC z k2 kd n C w W) (O : ROK kd n C w W) (hA : 0 < alS W w (w + 1) 0 0) (hs : sd < 100000) : ∃ z', fX3_fill k1 k2 (nI sd) z = some ((), z') ∧ TC z' k1 kd n C (cl1 n w W (mkH n sd) (mkA n sd)) (cl2 n w W (mkH n sd) (mkA n sd)) ∧ (z'.1 7 k1 3 = nI (mkH n sd) ∧ z'.1 7 k1 4 = -1 ∧ z'.1 7 k1 5 = -1) ∧ (∀ g k i, ¬ (k = k1 ∧ (g = 7 ∨ g = 8 ∨ g = 9)) → z'.1 g k i = z.1 g k i) ∧ ∀ j, j ≠ 0 → z'.2 j = z.2 j := by
  have hn := O.1.2.2.1
  have hi := hi_ok (n := n) n 0 0 (sd + 1) (by omega) (Nat.two_pow_pos n) (by omega)
  have e0 : (nI sd).toInt64 + 1 = lN (sd + 1) := by rw [nI_l (by omega), lN_1]
  have T1 : RC (bgZ (lz z (sd + 1)) k1 (nI kd) (nI n)) k2 kd n C w W := T
  have h := hi3_L (k1 := k1) (z := bgZ (lz z (sd + 1)) k1 (nI kd) (nI n)) T1 O n zk_FU 0 0 (sd + 1) (by omega) (by show n < 6000; omega) (Nat.two_pow_pos n) (by omega)
  rw [lz_id (z := bgZ (lz z (sd + 1)) k1 (nI kd) (nI n)) rfl] at h
  have hT2 : RC (zk_sI (lz (bgZ (lz z (sd + 1)) k1 (nI kd) (nI n)) (mkA n sd)) 7 k1 3 (nI (mkH n sd))) k2 kd n C w W := T
  have hat : ∀ i, (zk_sI (lz (bgZ (lz z (sd + 1)) k1 (nI kd) (nI n)) (mkA n sd)) 7 k1 3 (nI (mkH n sd))).1 7 k1 i = if i = 3 then nI (mkH n sd) else if i = 5 then -1 else if i = 4 then -1 else if i = 2 then 0 else if i = 1 then nI n else if i = 0 then nI kd else z.1 7 k1 i := by
    intro i
    rw [sI_at, lz_i]
    unfold bgZ
    rw [sI_at, sI_at, sI_at, sI_at, sI_at, sI_at, lz_i]
    simp only [true_and]
    by_cases h3 : i = 3
    · rw [if_pos h3, if_pos h3]
    · rw [if_neg h3, if_neg h3, if_neg h3]
  obtain ⟨z', q1, q2, _, q4, q5, q6⟩ := fi3_L (k1 := k1) (H := mkH n sd) O hA hi.2 hi.1 C zk_FU 0 (zk_sI (lz (bgZ (lz z (sd + 1)) k1 (nI kd) (nI n)) (mkA n sd)) 7 k1 3 (nI (mkH n sd))) (by omega) (by show C < 6000; have := O.1.2.2.2.1; omega) hT2 (by rw [hat]; rfl) rfl
  have q7 : ∀ i, i ≠ 2 → z'.1 7 k1 i = (zk_sI (lz (bgZ (lz z (sd + 1)) k1 (nI kd) (nI n)) (mkA n sd)) 7 k1 3 (nI (mkH n sd))).1 7 k1 i := fun i hi => q5 7 k1 i (by omega)
  refine ⟨z', ?_, ⟨⟨?_, ?_, q2⟩, fun c hc => q4 c (Nat.zero_le _) hc⟩, ⟨?_, ?_, ?_⟩, fun g k i hg => ?_, fun j hj => ?_⟩
  · have eb : ∀ (x y : Int32) (v : zk_Z), fX7_begin k1 x y v = some ((), bgZ v k1 x y) := fun _ _ _ => rfl
    have e4 : (zk_sL z 0 (lN (sd + 1))).1 4 k2 0 = nI kd := T.1.1
    have e5 : (zk_sL z 0 (lN (sd + 1))).1 4 k2 1 = nI n := T.1.2.1
    have e6 : zk_sL z 0 (lN (sd + 1)) = lz z (sd + 1) := rfl
    rw [fX3_fill, e0, e4, e5, e6, eb, zb_some, show (0 : Int32) = nI 0 from rfl]
    exact h.trans q1
  · rw [q7 0 (by decide), hat]; rfl
  · rw [q7 1 (by decide), hat]; rfl
  · rw [q7 3 (by decide), hat]; rfl
  · rw [q7 4 (by decide), hat]; rfl
  · rw [q7 5 (by decide), hat]; rfl
  · rw [q5 g k i (by omega), sI_at, if_neg (by omega), lz_i, bgZ_ne (by omega), lz_i]
  · rw [q6 j hj]
    show (if j = 0 then _ else if j = 0 then _ else z.2 j) = z.2 j
    rw [if_neg hj, if_neg hj]
