/-! a recipe read, on both sides -/
def f8 (k : Nat) (z z' : zk_Z) : Prop := ∀ g q j, ¬ ((g = 1 ∧ (j = 2 ∨ j = 3)) ∨ ((g = 4 ∨ g = 5) ∧ q = k)) → z'.1 g q j = z.1 g q j
def f9 (k : Nat) (z z' : zk_Z) : Prop := ∀ g q j, ¬ ((g = 20 ∧ j = 27) ∨ ((22 ≤ g ∧ g ≤ 25) ∧ j = k) ∨ (g = 26 ∧ 4 * k ≤ j ∧ j < 4 * k + 4)) → z'.1 g q j = z.1 g q j
theorem f_sI {z : zk_Z} {g k i : Nat} {v : Int32} {x : Int32} (h : z.1 1 0 3 = x) (hg : g ≠ 1) : (zk_sI z g k i v).1 1 0 3 = x := by rw [sI_at, if_neg (by omega)]; exact h
theorem rb {k tp : Nat} {B : Nat → Nat} (hk : k < 6) (ht : tp ≤ 80) :
    (∃ f, f ≤ tp ∧ (∀ z : zk_Z, TP8 z tp B → ∃ z', fX6_readInto k z = some (nI f, z') ∧ f8 k z z') ∧ ∀ b : zk_Z, TP9 b tp B → ∃ b', fX9_reads (nI k) (az b 0) = some (0, b') ∧ b'.1 20 0 27 = nI f ∧ f9 k b b') ∨
    ∃ (kd n C w : Nat) (W : Nat → Nat), ROK kd n C w W ∧ 0 < alS W w (w + 1) 0 0 ∧ (∀ z : zk_Z, TP8 z tp B → ∃ z', fX6_readInto k z = some (-1, z') ∧ RC z' k kd n C w W ∧ f8 k z z') ∧ ∀ b : zk_Z, TP9 b tp B → ∃ b', fX9_reads (nI k) (az b 0) = some (1, b') ∧ RM b' k kd n C w W ∧ f9 k b b' := by
  have ik : zk_ix (nI k) 6 = true := zx_nI hk (by decide)
  have ck : (nI k).toNatClampNeg = k := nI_clamp (by omega)
  have i0 : (0 : Int32) = nI 0 := rfl
  have FU : zk_FU = 5999 + 1 := rfl
  have z0 : ∀ z : zk_Z, zk_sI (zk_sI z 1 0 2 0) 1 0 3 (-1) = tz z (nI 0) (-1) := fun _ => rfl
  -- the kind
  rcases nam_b (B := B) (p := 0) (lo := 0) (hi := 5) 107 ht (Nat.zero_le _) (by decide) (by decide) (by decide) with ⟨kd, p1, _, s1, _, s2, s3, n8, n9⟩ | ⟨f, hf, n8, n9⟩
  rotate_left
  · refine Or.inl ⟨f, hf, fun z T => ?_, fun b T => ?_⟩
    · obtain ⟨pl, q⟩ := n8 z T
      have h0 : (tz z pl (nI f)).1 1 0 3 = nI f := tz_f _ _ _
      have h1 := f_sI (g := 4) (k := k) (i := 0) (v := 0) h0 (by decide)
      have h2 := f_sI (g := 4) (k := k) (i := 1) (v := 0) h1 (by decide)
      have h3 := f_sI (g := 4) (k := k) (i := 2) (v := 0) h2 (by decide)
      have h4 := f_sI (g := 4) (k := k) (i := 3) (v := 0) h3 (by decide)
      have hf' : f ≤ 100 := by omega
      have q' : fX6_named 107 0 5 (tz z (nI 0) (-1)) = some (0, tz z pl (nI f)) := q
      refine ⟨zk_sI (zk_sI (zk_sI (zk_sI (tz z pl (nI f)) 4 k 0 0) 4 k 1 0) 4 k 2 0) 4 k 3 0, ?_, fun g q j hg => ?_⟩
      · rw [fX6_readInto, z0, q', zb_some, gap_f h1 hf', zb_some, named_f h1 hf', zb_some, gap_f h2 hf', zb_some, named_f h2 hf', zb_some, gap_f h3 hf', zb_some, named_f h3 hf', zb_some, FU, l81_f h4 hf']
      · rw [sI_at, if_neg (by omega), sI_at, if_neg (by omega), sI_at, if_neg (by omega), sI_at, if_neg (by omega), tz_ne (by omega)]
    · have q' : fX9_part 107 0 5 (az b 0) = some (-1, az b f) := n9 b T
      have c : (zk_sI (az b f) 22 0 k (-1)).1 22 0 k = -1 := by rw [sI_at, if_pos ⟨rfl, rfl, rfl⟩]
      refine ⟨zk_sI (az b f) 22 0 k (-1), ?_, ?_, fun g q j hg => ?_⟩
      · rw [fX9_reads, q', zb_some, ik, zg_t, zg_t, ck, c, if_pos rfl]
      · rw [sI_at, if_neg (by omega), az_p]
      · rw [sI_at, if_neg (by omega), az_ne (by omega)]
  have n8' : ∀ z : zk_Z, TP8 z tp B → fX6_named 107 0 5 (tz z (nI 0) (-1)) = some (nI kd, tz z (nI p1) (-1)) := n8
  have n9' : ∀ b : zk_Z, TP9 b tp B → fX9_part 107 0 5 (az b 0) = some (nI kd, az b p1) := n9
  have c1 : ∀ b : zk_Z, (az (zk_sI b 22 0 k (nI kd)) p1).1 22 0 k = nI kd := fun b => by rw [az_ne (by omega), sI_at, if_pos ⟨rfl, rfl, rfl⟩]
  have m1 : ¬ nI kd = -1 := nI_m1_ne (by omega)
  -- blanks
  rcases gap_b (B := B) ht s1 with ⟨p2, _, t1, g8, g9⟩ | ⟨g8, g9⟩
  rotate_left
  · refine Or.inl ⟨p1, s1, fun z T => ?_, fun b T => ?_⟩
    · have h1 : (tz (zk_sI z 4 k 0 (nI kd)) (nI p1) (nI p1)).1 1 0 3 = nI p1 := tz_f _ _ _
      have h2 := f_sI (g := 4) (k := k) (i := 1) (v := 0) h1 (by decide)
      have h3 := f_sI (g := 4) (k := k) (i := 2) (v := 0) h2 (by decide)
      have h4 := f_sI (g := 4) (k := k) (i := 3) (v := 0) h3 (by decide)
      have hf' : p1 ≤ 100 := by omega
      have T' : TP8 (zk_sI z 4 k 0 (nI kd)) tp B := T
      refine ⟨zk_sI (zk_sI (zk_sI (tz (zk_sI z 4 k 0 (nI kd)) (nI p1) (nI p1)) 4 k 1 0) 4 k 2 0) 4 k 3 0, ?_, fun g q j hg => ?_⟩
      · rw [fX6_readInto, z0, n8' z T, zb_some, tz_sI (by decide), g8 _ T', zb_some, named_f h1 hf', zb_some, gap_f h2 hf', zb_some, named_f h2 hf', zb_some, gap_f h3 hf', zb_some, named_f h3 hf', zb_some, FU, l81_f h4 hf']
      · rw [sI_at, if_neg (by omega), sI_at, if_neg (by omega), sI_at, if_neg (by omega), tz_ne (by omega), sI_at, if_neg (by omega)]
    · have T' : TP9 (zk_sI b 22 0 k (nI kd)) tp B := T
      refine ⟨az (zk_sI b 22 0 k (nI kd)) p1, ?_, az_p _ _, fun g q j hg => ?_⟩
      · rw [fX9_reads, n9' b T, zb_some, ik, zg_t, zg_t, ck, az_sI (by decide), c1, if_neg m1, g9 _ T', zb_some, if_pos rfl]
      · rw [az_ne (by omega), sI_at, if_neg (by omega)]
  -- the letters
  rcases nam_b (B := B) (p := p2) (lo := 1) (hi := 10) 110 ht t1 (by decide) (by decide) (by decide) with ⟨n, p3, _, u1, u2, u3, u4, nn8, nn9⟩ | ⟨f, hf, nn8, nn9⟩
  rotate_left
  · refine Or.inl ⟨f, hf, fun z T => ?_, fun b T => ?_⟩
    · have T' : TP8 (zk_sI z 4 k 0 (nI kd)) tp B := T
      obtain ⟨pl, q⟩ := nn8 _ T'
      have q' : fX6_named 110 1 10 (tz (zk_sI z 4 k 0 (nI kd)) (nI p2) (-1)) = some (0, tz (zk_sI z 4 k 0 (nI kd)) pl (nI f)) := q
      have h1 : (tz (zk_sI z 4 k 0 (nI kd)) pl (nI f)).1 1 0 3 = nI f := tz_f _ _ _
      have h2 := f_sI (g := 4) (k := k) (i := 1) (v := 0) h1 (by decide)
      have h3 := f_sI (g := 4) (k := k) (i := 2) (v := 0) h2 (by decide)
      have h4 := f_sI (g := 4) (k := k) (i := 3) (v := 0) h3 (by decide)
      have hf' : f ≤ 100 := by omega
      refine ⟨zk_sI (zk_sI (zk_sI (tz (zk_sI z 4 k 0 (nI kd)) pl (nI f)) 4 k 1 0) 4 k 2 0) 4 k 3 0, ?_, fun g q j hg => ?_⟩
      · rw [fX6_readInto, z0, n8' z T, zb_some, tz_sI (by decide), g8 _ T', zb_some, q', zb_some, gap_f h2 hf', zb_some, named_f h2 hf', zb_some, gap_f h3 hf', zb_some, named_f h3 hf', zb_some, FU, l81_f h4 hf']
      · rw [sI_at, if_neg (by omega), sI_at, if_neg (by omega), sI_at, if_neg (by omega), tz_ne (by omega), sI_at, if_neg (by omega)]
    · have T' : TP9 (zk_sI b 22 0 k (nI kd)) tp B := T
      have q' : fX9_part 110 1 10 (az (zk_sI b 22 0 k (nI kd)) p2) = some (-1, az (zk_sI b 22 0 k (nI kd)) f) := nn9 _ T'
      have c : (zk_sI (az (zk_sI b 22 0 k (nI kd)) f) 23 0 k (-1)).1 23 0 k = -1 := by rw [sI_at, if_pos ⟨rfl, rfl, rfl⟩]
      refine ⟨zk_sI (az (zk_sI b 22 0 k (nI kd)) f) 23 0 k (-1), ?_, ?_, fun g q j hg => ?_⟩
      · rw [fX9_reads, n9' b T, zb_some, ik, zg_t, zg_t, ck, az_sI (by decide), c1, if_neg m1, g9 _ T', zb_some, if_neg r10, q', zb_some, zg_t, zg_t, c, if_pos rfl]
      · rw [sI_at, if_neg (by omega), az_p]
      · rw [sI_at, if_neg (by omega), az_ne (by omega), sI_at, if_neg (by omega)]
  have nn8' : ∀ z : zk_Z, TP8 z tp B → fX6_named 110 1 10 (tz z (nI p2) (-1)) = some (nI n, tz z (nI p3) (-1)) := nn8
  have nn9' : ∀ b : zk_Z, TP9 b tp B → fX9_part 110 1 10 (az b p2) = some (nI n, az b p3) := nn9
  have c2 : ∀ b : zk_Z, (az (zk_sI b 23 0 k (nI n)) p3).1 23 0 k = nI n := fun b => by rw [az_ne (by omega), sI_at, if_pos ⟨rfl, rfl, rfl⟩]
  have m2 : ¬ nI n = -1 := nI_m1_ne (by omega)
  rcases gap_b (B := B) ht u1 with ⟨p4, _, v1, gg8, gg9⟩ | ⟨gg8, gg9⟩
  rotate_left
  · refine Or.inl ⟨p3, u1, fun z T => ?_, fun b T => ?_⟩
    · have T' : TP8 (zk_sI z 4 k 0 (nI kd)) tp B := T
      have T2 : TP8 (zk_sI (zk_sI z 4 k 0 (nI kd)) 4 k 1 (nI n)) tp B := T
      have h2 : (tz (zk_sI (zk_sI z 4 k 0 (nI kd)) 4 k 1 (nI n)) (nI p3) (nI p3)).1 1 0 3 = nI p3 := tz_f _ _ _
      have h3 := f_sI (g := 4) (k := k) (i := 2) (v := 0) h2 (by decide)
      have h4 := f_sI (g := 4) (k := k) (i := 3) (v := 0) h3 (by decide)
      have hf' : p3 ≤ 100 := by omega
      refine ⟨zk_sI (zk_sI (tz (zk_sI (zk_sI z 4 k 0 (nI kd)) 4 k 1 (nI n)) (nI p3) (nI p3)) 4 k 2 0) 4 k 3 0, ?_, fun g q j hg => ?_⟩
      · rw [fX6_readInto, z0, n8' z T, zb_some, tz_sI (by decide), g8 _ T', zb_some, nn8' _ T', zb_some, tz_sI (by decide), gg8 _ T2, zb_some, named_f h2 hf', zb_some, gap_f h3 hf', zb_some, named_f h3 hf', zb_some, FU, l81_f h4 hf']
      · rw [sI_at, if_neg (by omega), sI_at, if_neg (by omega), tz_ne (by omega), sI_at, if_neg (by omega), sI_at, if_neg (by omega)]
    · have T' : TP9 (zk_sI b 22 0 k (nI kd)) tp B := T
      have T2 : TP9 (zk_sI (zk_sI b 22 0 k (nI kd)) 23 0 k (nI n)) tp B := T
      refine ⟨az (zk_sI (zk_sI b 22 0 k (nI kd)) 23 0 k (nI n)) p3, ?_, az_p _ _, fun g q j hg => ?_⟩
      · rw [fX9_reads, n9' b T, zb_some, ik, zg_t, zg_t, ck, az_sI (by decide), c1, if_neg m1, g9 _ T', zb_some, if_neg r10, nn9' _ T', zb_some, zg_t, zg_t, az_sI (by decide), c2, if_neg m2, gg9 _ T2, zb_some, if_pos rfl]
      · rw [az_ne (by omega), sI_at, if_neg (by omega), sI_at, if_neg (by omega)]
  -- the clauses
  rcases nam_b (B := B) (p := p4) (lo := 0) (hi := 24) 99 ht v1 (by decide) (by decide) (by decide) with ⟨C, p5, _, w1, _, w3, w4, nc8, nc9⟩ | ⟨f, hf, nc8, nc9⟩
  rotate_left
  · refine Or.inl ⟨f, hf, fun z T => ?_, fun b T => ?_⟩
    · have T' : TP8 (zk_sI z 4 k 0 (nI kd)) tp B := T
      have T2 : TP8 (zk_sI (zk_sI z 4 k 0 (nI kd)) 4 k 1 (nI n)) tp B := T
      obtain ⟨pl, q⟩ := nc8 _ T2
      have q' : fX6_named 99 0 24 (tz (zk_sI (zk_sI z 4 k 0 (nI kd)) 4 k 1 (nI n)) (nI p4) (-1)) = some (0, tz (zk_sI (zk_sI z 4 k 0 (nI kd)) 4 k 1 (nI n)) pl (nI f)) := q
      have h2 : (tz (zk_sI (zk_sI z 4 k 0 (nI kd)) 4 k 1 (nI n)) pl (nI f)).1 1 0 3 = nI f := tz_f _ _ _
      have h3 := f_sI (g := 4) (k := k) (i := 2) (v := 0) h2 (by decide)
      have h4 := f_sI (g := 4) (k := k) (i := 3) (v := 0) h3 (by decide)
      have hf' : f ≤ 100 := by omega
      refine ⟨zk_sI (zk_sI (tz (zk_sI (zk_sI z 4 k 0 (nI kd)) 4 k 1 (nI n)) pl (nI f)) 4 k 2 0) 4 k 3 0, ?_, fun g q j hg => ?_⟩
      · rw [fX6_readInto, z0, n8' z T, zb_some, tz_sI (by decide), g8 _ T', zb_some, nn8' _ T', zb_some, tz_sI (by decide), gg8 _ T2, zb_some, q', zb_some, gap_f h3 hf', zb_some, named_f h3 hf', zb_some, FU, l81_f h4 hf']
      · rw [sI_at, if_neg (by omega), sI_at, if_neg (by omega), tz_ne (by omega), sI_at, if_neg (by omega), sI_at, if_neg (by omega)]
    · have T' : TP9 (zk_sI b 22 0 k (nI kd)) tp B := T
      have T2 : TP9 (zk_sI (zk_sI b 22 0 k (nI kd)) 23 0 k (nI n)) tp B := T
      have q' : fX9_part 99 0 24 (az (zk_sI (zk_sI b 22 0 k (nI kd)) 23 0 k (nI n)) p4) = some (-1, az (zk_sI (zk_sI b 22 0 k (nI kd)) 23 0 k (nI n)) f) := nc9 _ T2
      have c : (zk_sI (az (zk_sI (zk_sI b 22 0 k (nI kd)) 23 0 k (nI n)) f) 24 0 k (-1)).1 24 0 k = -1 := by rw [sI_at, if_pos ⟨rfl, rfl, rfl⟩]
      refine ⟨zk_sI (az (zk_sI (zk_sI b 22 0 k (nI kd)) 23 0 k (nI n)) f) 24 0 k (-1), ?_, ?_, fun g q j hg => ?_⟩
      · rw [fX9_reads, n9' b T, zb_some, ik, zg_t, zg_t, ck, az_sI (by decide), c1, if_neg m1, g9 _ T', zb_some, if_neg r10, nn9' _ T', zb_some, zg_t, zg_t, az_sI (by decide), c2, if_neg m2, gg9 _ T2, zb_some, if_neg r10, q', zb_some, zg_t, zg_t, c, if_pos rfl]
      · rw [sI_at, if_neg (by omega), az_p]
      · rw [sI_at, if_neg (by omega), az_ne (by omega), sI_at, if_neg (by omega), sI_at, if_neg (by omega)]
  have nc8' : ∀ z : zk_Z, TP8 z tp B → fX6_named 99 0 24 (tz z (nI p4) (-1)) = some (nI C, tz z (nI p5) (-1)) := nc8
  have nc9' : ∀ b : zk_Z, TP9 b tp B → fX9_part 99 0 24 (az b p4) = some (nI C, az b p5) := nc9
  have c3 : ∀ b : zk_Z, (az (zk_sI b 24 0 k (nI C)) p5).1 24 0 k = nI C := fun b => by rw [az_ne (by omega), sI_at, if_pos ⟨rfl, rfl, rfl⟩]
  have m3 : ¬ nI C = -1 := nI_m1_ne (by omega)
  rcases gap_b (B := B) ht w1 with ⟨p6, _, x1, gh8, gh9⟩ | ⟨gh8, gh9⟩
  rotate_left
  · refine Or.inl ⟨p5, w1, fun z T => ?_, fun b T => ?_⟩
    · have T' : TP8 (zk_sI z 4 k 0 (nI kd)) tp B := T
      have T2 : TP8 (zk_sI (zk_sI z 4 k 0 (nI kd)) 4 k 1 (nI n)) tp B := T
      have T3 : TP8 (zk_sI (zk_sI (zk_sI z 4 k 0 (nI kd)) 4 k 1 (nI n)) 4 k 2 (nI C)) tp B := T
      have h3 : (tz (zk_sI (zk_sI (zk_sI z 4 k 0 (nI kd)) 4 k 1 (nI n)) 4 k 2 (nI C)) (nI p5) (nI p5)).1 1 0 3 = nI p5 := tz_f _ _ _
      have h4 := f_sI (g := 4) (k := k) (i := 3) (v := 0) h3 (by decide)
      have hf' : p5 ≤ 100 := by omega
      refine ⟨zk_sI (tz (zk_sI (zk_sI (zk_sI z 4 k 0 (nI kd)) 4 k 1 (nI n)) 4 k 2 (nI C)) (nI p5) (nI p5)) 4 k 3 0, ?_, fun g q j hg => ?_⟩
      · rw [fX6_readInto, z0, n8' z T, zb_some, tz_sI (by decide), g8 _ T', zb_some, nn8' _ T', zb_some, tz_sI (by decide), gg8 _ T2, zb_some, nc8' _ T2, zb_some, tz_sI (by decide), gh8 _ T3, zb_some, named_f h3 hf', zb_some, FU, l81_f h4 hf']
      · rw [sI_at, if_neg (by omega), tz_ne (by omega), sI_at, if_neg (by omega), sI_at, if_neg (by omega), sI_at, if_neg (by omega)]
    · have T' : TP9 (zk_sI b 22 0 k (nI kd)) tp B := T
      have T2 : TP9 (zk_sI (zk_sI b 22 0 k (nI kd)) 23 0 k (nI n)) tp B := T
      have T3 : TP9 (zk_sI (zk_sI (zk_sI b 22 0 k (nI kd)) 23 0 k (nI n)) 24 0 k (nI C)) tp B := T
      refine ⟨az (zk_sI (zk_sI (zk_sI b 22 0 k (nI kd)) 23 0 k (nI n)) 24 0 k (nI C)) p5, ?_, az_p _ _, fun g q j hg => ?_⟩
      · rw [fX9_reads, n9' b T, zb_some, ik, zg_t, zg_t, ck, az_sI (by decide), c1, if_neg m1, g9 _ T', zb_some, if_neg r10, nn9' _ T', zb_some, zg_t, zg_t, az_sI (by decide), c2, if_neg m2, gg9 _ T2, zb_some, if_neg r10, nc9' _ T2, zb_some, zg_t, zg_t, az_sI (by decide), c3, if_neg m3, gh9 _ T3, zb_some, if_pos rfl]
      · rw [az_ne (by omega), sI_at, if_neg (by omega), sI_at, if_neg (by omega), sI_at, if_neg (by omega)]
  -- the width
  have hX : ∀ Z : zk_Z, Z.1 4 k 1 = nI n → (if Z.1 4 k 1 < 3 then Z.1 4 k 1 else 3) = nI (min n 3) := by
    intro Z h
    rw [h]
    by_cases c : n < 3
    · rw [if_pos (by rw [show (3 : Int32) = nI 3 from rfl, nI_ltI (by omega) (by decide)]; exact c), Nat.min_eq_left (by omega)]
    · rw [if_neg (by rw [show (3 : Int32) = nI 3 from rfl, nI_ltI (by omega) (by decide)]; exact c), Nat.min_eq_right (by omega)]; rfl
  have hY : ∀ Z : zk_Z, Z.1 23 0 k = nI n → (if (3 : Int32) ≤ Z.1 23 0 k then fX9_reads_B130 (nI k) 3 1 119 (nI k) Z else zk_gd true (fX9_reads_B130 (nI k) (Z.1 23 0 k) 1 119 (nI k) Z)) = fX9_reads_B130 (nI k) (nI (min n 3)) 1 119 (nI k) Z := by
    intro Z h
    rw [h]
    by_cases c : 3 ≤ n
    · rw [if_pos (by rw [show (3 : Int32) = nI 3 from rfl, nI_leI (by decide) (by omega)]; exact c), Nat.min_eq_right (by omega)]; rfl
    · rw [if_neg (by rw [show (3 : Int32) = nI 3 from rfl, nI_leI (by decide) (by omega)]; exact c), Nat.min_eq_left (by omega), zg_t]
  have e8 : ∀ z : zk_Z, TP8 z tp B → fX6_readInto k z = zk_bd (fX6_named 119 1 (nI (min n 3)) (tz (zk_sI (zk_sI (zk_sI z 4 k 0 (nI kd)) 4 k 1 (nI n)) 4 k 2 (nI C)) (nI p6) (-1))) (fun r14 z13 => fX6_readInto_L81 k zk_FU 0 (zk_sI z13 4 k 3 r14)) := by
    intro z T
    have T' : TP8 (zk_sI z 4 k 0 (nI kd)) tp B := T
    have T2 : TP8 (zk_sI (zk_sI z 4 k 0 (nI kd)) 4 k 1 (nI n)) tp B := T
    have T3 : TP8 (zk_sI (zk_sI (zk_sI z 4 k 0 (nI kd)) 4 k 1 (nI n)) 4 k 2 (nI C)) tp B := T
    rw [fX6_readInto, z0, n8' z T, zb_some, tz_sI (by decide), g8 _ T', zb_some, nn8' _ T', zb_some, tz_sI (by decide), gg8 _ T2, zb_some, nc8' _ T2, zb_some, tz_sI (by decide), gh8 _ T3, zb_some, hX _ (by rw [tz_ne (by omega), sI_at, if_neg (by omega), sI_at, if_pos ⟨rfl, rfl, rfl⟩])]
  have e9 : ∀ b : zk_Z, TP9 b tp B → fX9_reads (nI k) (az b 0) = fX9_reads_B130 (nI k) (nI (min n 3)) 1 119 (nI k) (az (zk_sI (zk_sI (zk_sI b 22 0 k (nI kd)) 23 0 k (nI n)) 24 0 k (nI C)) p6) := by
    intro b T
    have T' : TP9 (zk_sI b 22 0 k (nI kd)) tp B := T
    have T2 : TP9 (zk_sI (zk_sI b 22 0 k (nI kd)) 23 0 k (nI n)) tp B := T
    have T3 : TP9 (zk_sI (zk_sI (zk_sI b 22 0 k (nI kd)) 23 0 k (nI n)) 24 0 k (nI C)) tp B := T
    rw [fX9_reads, n9' b T, zb_some, ik, zg_t, zg_t, ck, az_sI (by decide), c1, if_neg m1, g9 _ T', zb_some, if_neg r10, nn9' _ T', zb_some, zg_t, zg_t, az_sI (by decide), c2, if_neg m2, gg9 _ T2, zb_some, if_neg r10, nc9' _ T2, zb_some, zg_t, zg_t, az_sI (by decide), c3, if_neg m3, gh9 _ T3, zb_some, if_neg r10, zg_t]
    exact hY _ (by rw [az_ne (by omega), sI_at, if_neg (by omega), sI_at, if_pos ⟨rfl, rfl, rfl⟩])
  have hmin : min n 3 ≤ 3 := Nat.min_le_right _ _
  have hmin2 : min n 3 ≤ n := Nat.min_le_left _ _
  rcases nam_b (B := B) (p := p6) (lo := 1) (hi := min n 3) 119 ht x1 (by decide) (by omega) (by decide) with ⟨w, p7, _, y1, y2, y3, y4, nw8, nw9⟩ | ⟨f, hf, nw8, nw9⟩
  rotate_left
  · refine Or.inl ⟨f, hf, fun z T => ?_, fun b T => ?_⟩
    · have T3 : TP8 (zk_sI (zk_sI (zk_sI z 4 k 0 (nI kd)) 4 k 1 (nI n)) 4 k 2 (nI C)) tp B := T
      obtain ⟨pl, q⟩ := nw8 _ T3
      have q' : fX6_named 119 1 (nI (min n 3)) (tz (zk_sI (zk_sI (zk_sI z 4 k 0 (nI kd)) 4 k 1 (nI n)) 4 k 2 (nI C)) (nI p6) (-1)) = some (0, tz (zk_sI (zk_sI (zk_sI z 4 k 0 (nI kd)) 4 k 1 (nI n)) 4 k 2 (nI C)) pl (nI f)) := q
      have h3 : (tz (zk_sI (zk_sI (zk_sI z 4 k 0 (nI kd)) 4 k 1 (nI n)) 4 k 2 (nI C)) pl (nI f)).1 1 0 3 = nI f := tz_f _ _ _
      have h4 := f_sI (g := 4) (k := k) (i := 3) (v := 0) h3 (by decide)
      have hf' : f ≤ 100 := by omega
      refine ⟨zk_sI (tz (zk_sI (zk_sI (zk_sI z 4 k 0 (nI kd)) 4 k 1 (nI n)) 4 k 2 (nI C)) pl (nI f)) 4 k 3 0, ?_, fun g q j hg => ?_⟩
      · rw [e8 z T, q', zb_some, FU, l81_f h4 hf']
      · rw [sI_at, if_neg (by omega), tz_ne (by omega), sI_at, if_neg (by omega), sI_at, if_neg (by omega), sI_at, if_neg (by omega)]
    · have T3 : TP9 (zk_sI (zk_sI (zk_sI b 22 0 k (nI kd)) 23 0 k (nI n)) 24 0 k (nI C)) tp B := T
      have q' : fX9_part 119 1 (nI (min n 3)) (az (zk_sI (zk_sI (zk_sI b 22 0 k (nI kd)) 23 0 k (nI n)) 24 0 k (nI C)) p6) = some (-1, az (zk_sI (zk_sI (zk_sI b 22 0 k (nI kd)) 23 0 k (nI n)) 24 0 k (nI C)) f) := nw9 _ T3
      have c : (zk_sI (az (zk_sI (zk_sI (zk_sI b 22 0 k (nI kd)) 23 0 k (nI n)) 24 0 k (nI C)) f) 25 0 k (-1)).1 25 0 k = -1 := by rw [sI_at, if_pos ⟨rfl, rfl, rfl⟩]
      refine ⟨zk_sI (az (zk_sI (zk_sI (zk_sI b 22 0 k (nI kd)) 23 0 k (nI n)) 24 0 k (nI C)) f) 25 0 k (-1), ?_, ?_, fun g q j hg => ?_⟩
      · rw [e9 b T, fX9_reads_B130, q', zb_some, ik, zg_t, zg_t, ck, c, if_pos rfl]
      · rw [sI_at, if_neg (by omega), az_p]
      · rw [sI_at, if_neg (by omega), az_ne (by omega), sI_at, if_neg (by omega), sI_at, if_neg (by omega), sI_at, if_neg (by omega)]
  have nw8' : ∀ z : zk_Z, TP8 z tp B → fX6_named 119 1 (nI (min n 3)) (tz z (nI p6) (-1)) = some (nI w, tz z (nI p7) (-1)) := nw8
  have nw9' : ∀ b : zk_Z, TP9 b tp B → fX9_part 119 1 (nI (min n 3)) (az b p6) = some (nI w, az b p7) := nw9
  have c4 : ∀ b : zk_Z, (az (zk_sI b 25 0 k (nI w)) p7).1 25 0 k = nI w := fun b => by rw [az_ne (by omega), sI_at, if_pos ⟨rfl, rfl, rfl⟩]
  have m4 : ¬ nI w = -1 := nI_m1_ne (by omega)
  -- the heads laid down
  obtain ⟨H8, hH8⟩ : ∃ H : zk_Z → zk_Z, H = fun z => zk_sI (zk_sI (zk_sI (zk_sI z 4 k 0 (nI kd)) 4 k 1 (nI n)) 4 k 2 (nI C)) 4 k 3 (nI w) := ⟨_, rfl⟩
  obtain ⟨H9, hH9⟩ : ∃ H : zk_Z → zk_Z, H = fun b => zk_sI (zk_sI (zk_sI (zk_sI b 22 0 k (nI kd)) 23 0 k (nI n)) 24 0 k (nI C)) 25 0 k (nI w) := ⟨_, rfl⟩
  have E8 : ∀ z : zk_Z, TP8 z tp B → fX6_readInto k z = fX6_readInto_L81 k zk_FU (nI 0) (tz (H8 z) (nI p7) (-1)) := by
    intro z T
    have T3 : TP8 (zk_sI (zk_sI (zk_sI z 4 k 0 (nI kd)) 4 k 1 (nI n)) 4 k 2 (nI C)) tp B := T
    rw [e8 z T, nw8' _ T3, zb_some, tz_sI (by decide), hH8]
    rfl
  have E9 : ∀ b : zk_Z, TP9 b tp B → fX9_reads (nI k) (az b 0) = fX9_reads_L150 zk_FU (nI k) (nI 0) (nI 0) (az (H9 b) p7) := by
    intro b T
    have T3 : TP9 (zk_sI (zk_sI (zk_sI b 22 0 k (nI kd)) 23 0 k (nI n)) 24 0 k (nI C)) tp B := T
    rw [e9 b T, fX9_reads_B130, nw9' _ T3, zb_some, ik, zg_t, zg_t, ck, az_sI (by decide), c4, if_neg m4, hH9]
    rfl
  have TH8 : ∀ z : zk_Z, TP8 z tp B → TP8 (H8 z) tp B := fun z T => by rw [hH8]; exact T
  have TH9 : ∀ b : zk_Z, TP9 b tp B → TP9 (H9 b) tp B := fun b T => by rw [hH9]; exact T
  have hd8' : ∀ z : zk_Z, hd8 (H8 z) k kd n C w := fun z => by
    rw [hH8]
    refine ⟨?_, ?_, ?_, ?_⟩
    · show (zk_sI (zk_sI (zk_sI (zk_sI z 4 k 0 (nI kd)) 4 k 1 (nI n)) 4 k 2 (nI C)) 4 k 3 (nI w)).1 4 k 0 = _
      rw [sI_at, if_neg (by omega), sI_at, if_neg (by omega), sI_at, if_neg (by omega), sI_at, if_pos ⟨rfl, rfl, rfl⟩]
    · show (zk_sI (zk_sI (zk_sI (zk_sI z 4 k 0 (nI kd)) 4 k 1 (nI n)) 4 k 2 (nI C)) 4 k 3 (nI w)).1 4 k 1 = _
      rw [sI_at, if_neg (by omega), sI_at, if_neg (by omega), sI_at, if_pos ⟨rfl, rfl, rfl⟩]
    · show (zk_sI (zk_sI (zk_sI (zk_sI z 4 k 0 (nI kd)) 4 k 1 (nI n)) 4 k 2 (nI C)) 4 k 3 (nI w)).1 4 k 2 = _
      rw [sI_at, if_neg (by omega), sI_at, if_pos ⟨rfl, rfl, rfl⟩]
    · show (zk_sI (zk_sI (zk_sI (zk_sI z 4 k 0 (nI kd)) 4 k 1 (nI n)) 4 k 2 (nI C)) 4 k 3 (nI w)).1 4 k 3 = _
      rw [sI_at, if_pos ⟨rfl, rfl, rfl⟩]
  have hd9' : ∀ z : zk_Z, hd9 (H9 z) k kd n C w := fun z => by
    rw [hH9]
    refine ⟨?_, ?_, ?_, ?_⟩
    · show (zk_sI (zk_sI (zk_sI (zk_sI z 22 0 k (nI kd)) 23 0 k (nI n)) 24 0 k (nI C)) 25 0 k (nI w)).1 22 0 k = _
      rw [sI_at, if_neg (by omega), sI_at, if_neg (by omega), sI_at, if_neg (by omega), sI_at, if_pos ⟨rfl, rfl, rfl⟩]
    · show (zk_sI (zk_sI (zk_sI (zk_sI z 22 0 k (nI kd)) 23 0 k (nI n)) 24 0 k (nI C)) 25 0 k (nI w)).1 23 0 k = _
      rw [sI_at, if_neg (by omega), sI_at, if_neg (by omega), sI_at, if_pos ⟨rfl, rfl, rfl⟩]
    · show (zk_sI (zk_sI (zk_sI (zk_sI z 22 0 k (nI kd)) 23 0 k (nI n)) 24 0 k (nI C)) 25 0 k (nI w)).1 24 0 k = _
      rw [sI_at, if_neg (by omega), sI_at, if_pos ⟨rfl, rfl, rfl⟩]
    · show (zk_sI (zk_sI (zk_sI (zk_sI z 22 0 k (nI kd)) 23 0 k (nI n)) 24 0 k (nI C)) 25 0 k (nI w)).1 25 0 k = _
      rw [sI_at, if_pos ⟨rfl, rfl, rfl⟩]
  have fH8 : ∀ (z : zk_Z) g q j, ¬ (g = 4 ∧ q = k) → (H8 z).1 g q j = z.1 g q j := fun z g q j hg => by
    rw [hH8]
    show (zk_sI (zk_sI (zk_sI (zk_sI z 4 k 0 (nI kd)) 4 k 1 (nI n)) 4 k 2 (nI C)) 4 k 3 (nI w)).1 g q j = _
    rw [sI_at, if_neg (by omega), sI_at, if_neg (by omega), sI_at, if_neg (by omega), sI_at, if_neg (by omega)]
  have fH9 : ∀ (z : zk_Z) g q j, ¬ ((22 ≤ g ∧ g ≤ 25) ∧ j = k) → (H9 z).1 g q j = z.1 g q j := fun z g q j hg => by
    rw [hH9]
    show (zk_sI (zk_sI (zk_sI (zk_sI z 22 0 k (nI kd)) 23 0 k (nI n)) 24 0 k (nI C)) 25 0 k (nI w)).1 g q j = _
    rw [sI_at, if_neg (by omega), sI_at, if_neg (by omega), sI_at, if_neg (by omega), sI_at, if_neg (by omega)]
  -- the weights
  rcases wt_L (B := B) (n := n) (C := C) hk (show kd < 6 by omega) y2 (show w ≤ 3 by omega) ht (w + 1) zk_FU zk_FU 0 p7 0 (fun _ => 0) (by omega) y1 (fun j hj => by omega) (by omega) (by show w + 1 < 6000; omega) (by show w + 1 < 6000; omega) with ⟨W, p8, a1, _, a3, a8, a9⟩ | ⟨f, hf, a8, a9⟩
  rotate_left
  · refine Or.inl ⟨f, hf, fun z T => ?_, fun b T => ?_⟩
    · obtain ⟨z', pl, q1, q2⟩ := a8 (H8 z) (TH8 z T) (hd8' z)
      exact ⟨_, (E8 z T).trans q1, fun g q j hg => by rw [tz_ne (by omega), q2 g q j (by omega), fH8 z g q j (by omega)]⟩
    · obtain ⟨b', q1, q2⟩ := a9 (H9 b) (TH9 b T) (hd9' b)
      exact ⟨_, (E9 b T).trans q1, az_p _ _, fun g q j hg => by rw [az_ne (by omega), q2 g q j (by omega), fH9 b g q j (by omega)]⟩
  have O : ROK kd n C w W := ⟨⟨by omega, u2, u3, w3, y2, by omega, by omega⟩, a3⟩
  have hal := al0 (W := W) y2 (show w ≤ 3 by omega) (w + 1) 0 0 (by omega)
  have hRC : ∀ z z' : zk_Z, hd8 (H8 z) k kd n C w → (∀ j, j ≤ w → z'.1 5 k j = nI (W j)) → (∀ g q j, ¬ (g = 5 ∧ q = k) → z'.1 g q j = (H8 z).1 g q j) → RC z' k kd n C w W := by
    intro z z' h q2 q3
    refine ⟨⟨?_, ?_, ?_, ?_⟩, q2⟩
    · rw [q3 4 k 0 (by omega)]; exact h.1
    · rw [q3 4 k 1 (by omega)]; exact h.2.1
    · rw [q3 4 k 2 (by omega)]; exact h.2.2.1
    · rw [q3 4 k 3 (by omega)]; exact h.2.2.2
  by_cases hfin : p8 = tp ∧ 0 < 0 + suR W (w + 1) 0
  · have hA : 0 < alS W w (w + 1) 0 0 := by
      rcases Nat.eq_zero_or_pos (alS W w (w + 1) 0 0) with q | q
      · have := hal.mp q; omega
      · exact q
    refine Or.inr ⟨kd, n, C, w, W, O, hA, fun z T => ?_, fun b T => ?_⟩
    · obtain ⟨z', q1, q2, q3⟩ := a8 (H8 z) (TH8 z T) (hd8' z) (fun j hj => by omega)
      have R' := hRC z z' (hd8' z) q2 q3
      have RT : RC (tz z' (nI p8) (-1)) k kd n C w W := RC_at (fun g q j h => tz_ne (by omega)) R'
      have e1 : (tz z' (nI p8) (-1)).1 1 0 1 = nI tp := by rw [tz_ne (by omega), q3 1 0 1 (by omega), fH8 z 1 0 1 (by omega)]; exact T.1
      have hb := (alS_le O (w + 1) 0 0 (by omega)).2
      have hne : ¬ nI (alS W w (w + 1) 0 0) = 0 := fun q => by
        have h1 : alS W w (w + 1) 0 0 < 2 ^ 31 := Nat.lt_of_le_of_lt hb (by have : w ≤ 3 := by omega
                                                                            clear hal hA O; omega)
        have := (nI_z h1).mp q
        exact absurd this (Nat.ne_of_gt hA)
      refine ⟨tz z' (nI p8) (-1), ((E8 z T).trans q1).trans ?_, RT, fun g q j hg => by rw [tz_ne (by omega), q3 g q j (by omega), fH8 z g q j (by omega)]⟩
      rw [fX6_readInto_B138, tz_f, if_neg (by decide), tz_p, e1, if_neg (by rw [nI_ltI (by omega) (by omega)]; omega), all4 RT O, zb_some, if_neg hne, fX6_readInto_B171, tz_f]
    · obtain ⟨b', q1, q2, q3⟩ := a9 (H9 b) (TH9 b T) (hd9' b) (fun j hj => by omega)
      rw [if_pos hfin] at q1
      refine ⟨_, (E9 b T).trans q1, RM_at (by omega) (fun g q j h => az_ne (by omega)) (show RM b' k kd n C w W from ⟨⟨?_, ?_, ?_, ?_⟩, q2⟩), fun g q j hg => by rw [az_ne (by omega), q3 g q j (by omega), fH9 b g q j (by omega)]⟩
      · rw [q3 22 0 k (by omega)]; exact (hd9' b).1
      · rw [q3 23 0 k (by omega)]; exact (hd9' b).2.1
      · rw [q3 24 0 k (by omega)]; exact (hd9' b).2.2.1
      · rw [q3 25 0 k (by omega)]; exact (hd9' b).2.2.2
  · refine Or.inl ⟨p8, a1, fun z T => ?_, fun b T => ?_⟩
    · obtain ⟨z', q1, q2, q3⟩ := a8 (H8 z) (TH8 z T) (hd8' z) (fun j hj => by omega)
      have R' := hRC z z' (hd8' z) q2 q3
      have RT : RC (tz z' (nI p8) (-1)) k kd n C w W := RC_at (fun g q j h => tz_ne (by omega)) R'
      have e1 : (tz z' (nI p8) (-1)).1 1 0 1 = nI tp := by rw [tz_ne (by omega), q3 1 0 1 (by omega), fH8 z 1 0 1 (by omega)]; exact T.1
      have b163 : fX6_readInto_B163 k (tz z' (nI p8) (-1)) = some (nI p8, tz z' (nI p8) (nI p8)) := by rw [fX6_readInto_B163, tz_p, tz_f', fX6_readInto_B171, tz_f]
      refine ⟨tz z' (nI p8) (nI p8), ((E8 z T).trans q1).trans ?_, fun g q j hg => by rw [tz_ne (by omega), q3 g q j (by omega), fH8 z g q j (by omega)]⟩
      rw [fX6_readInto_B138, tz_f, if_neg (by decide), tz_p, e1, b163]
      by_cases c : p8 < tp
      · rw [if_pos (by rw [nI_ltI (by omega) (by omega)]; exact c)]
      · have h0 : alS W w (w + 1) 0 0 = 0 := hal.mpr (by
          rcases Nat.eq_zero_or_pos (0 + suR W (w + 1) 0) with q | q
          · exact q
          · exact absurd ⟨by omega, q⟩ hfin)
        rw [if_neg (by rw [nI_ltI (by omega) (by omega)]; exact c), all4 RT O, zb_some, h0, if_pos (show nI 0 = 0 from rfl), b163]
    · obtain ⟨b', q1, q2, q3⟩ := a9 (H9 b) (TH9 b T) (hd9' b) (fun j hj => by omega)
      rw [if_neg hfin] at q1
      exact ⟨_, (E9 b T).trans q1, az_p _ _, fun g q j hg => by rw [az_ne (by omega), q3 g q j (by omega), fH9 b g q j (by omega)]⟩
