/-! tasks by a sheet, as they are asked for -/
theorem kind_at (x : Int32) : (∃ f, f < 6 ∧ x = nI f ∧ (∀ z, fX2_exists x z = some (1, z)) ∧ ∀ z, fX9_in x 0 5 z = some (1, z)) ∨ ((∀ z, fX2_exists x z = some (0, z)) ∧ ∀ z, fX9_in x 0 5 z = some (0, z)) := by
  rcases pk_ix x (n := 6) (by decide) with h | h | ⟨f, hf, rfl⟩
  · exact Or.inr ⟨fun z => by rw [fX2_exists, if_pos h], fun z => in9_neg z h⟩
  · refine Or.inr ⟨fun z => ?_, fun z => in9_big (h := 5) z (by decide) h⟩
    rw [fX2_exists, if_pos (show (6 : Int32) ≤ x from h)]
    split <;> rfl
  · refine Or.inl ⟨f, hf, rfl, fun z => ?_, fun z => in9_in (l := 0) (h := 5) z (Nat.zero_le _) (by omega) (by decide)⟩
    rw [fX2_exists, if_neg (nI_lt0 (by omega)), if_neg (by rw [show (6 : Int32) = nI 6 from rfl, nI_leI (by decide) (by omega)]; omega)]
def bwZ (z : zk_Z) (nt kd n C : Nat) : zk_Z := zk_sI (zk_sI (zk_sI (zk_sI (zk_sI (zk_sI z 27 0 nt (nI kd)) 28 0 nt (nI n)) 29 0 nt (nI C)) 30 0 nt (-1)) 31 0 nt (-1)) 32 0 nt (-1)
theorem bwZ_ne {z : zk_Z} {nt kd n C g k i : Nat} (h : ¬ ((27 ≤ g ∧ g ≤ 32) ∧ i = nt)) : (bwZ z nt kd n C).1 g k i = z.1 g k i := by
  unfold bwZ
  rw [sI_at, if_neg (by omega), sI_at, if_neg (by omega), sI_at, if_neg (by omega), sI_at, if_neg (by omega), sI_at, if_neg (by omega), sI_at, if_neg (by omega)]
theorem bwZ_v (z : zk_Z) (nt kd n C : Nat) : (bwZ z nt kd n C).1 27 0 nt = nI kd ∧ (bwZ z nt kd n C).1 28 0 nt = nI n ∧ (bwZ z nt kd n C).1 29 0 nt = nI C ∧ (bwZ z nt kd n C).1 30 0 nt = -1 ∧ (bwZ z nt kd n C).1 31 0 nt = -1 ∧ (bwZ z nt kd n C).1 32 0 nt = -1 := by
  unfold bwZ
  simp [sI_at]
theorem bgZ_v (z : zk_Z) (k : Nat) (x y : Int32) : (bgZ z k x y).1 7 k 0 = x ∧ (bgZ z k x y).1 7 k 1 = y ∧ (bgZ z k x y).1 7 k 2 = 0 ∧ (bgZ z k x y).1 7 k 3 = -1 ∧ (bgZ z k x y).1 7 k 4 = -1 ∧ (bgZ z k x y).1 7 k 5 = -1 := by
  unfold bgZ
  simp [sI_at]
theorem wl9_B {z : zk_Z} {nt kd n s sz : Nat} (hnt : nt < 8) (hs : s < 4) (hsz : sz ≤ 40) (h8 : z.1 20 0 8 = nI nt) (h40 : z.1 40 0 s = nI sz) : fX9_wild_B178 (nI kd) (nI n) (nI s) 1 z = fX9_wild_L268 zk_FU (nI s) 0 (bwZ z nt kd n (sz / 2)) := by
  have cl : (nI nt).toNatClampNeg = nt := nI_clamp (by omega)
  have cs : (nI s).toNatClampNeg = s := nI_clamp (by omega)
  have c1 : (zk_sI z 27 0 nt (nI kd)).1 20 0 8 = nI nt := h8
  have c2 : (zk_sI (zk_sI z 27 0 nt (nI kd)) 28 0 nt (nI n)).1 20 0 8 = nI nt := h8
  have d2 : (zk_sI (zk_sI z 27 0 nt (nI kd)) 28 0 nt (nI n)).1 40 0 s = nI sz := h40
  have c3 : (zk_sI (zk_sI (zk_sI z 27 0 nt (nI kd)) 28 0 nt (nI n)) 29 0 nt (nI (sz / 2))).1 20 0 8 = nI nt := h8
  have c4 : (zk_sI (zk_sI (zk_sI (zk_sI z 27 0 nt (nI kd)) 28 0 nt (nI n)) 29 0 nt (nI (sz / 2))) 30 0 nt (-1)).1 20 0 8 = nI nt := h8
  have c5 : (zk_sI (zk_sI (zk_sI (zk_sI (zk_sI z 27 0 nt (nI kd)) 28 0 nt (nI n)) 29 0 nt (nI (sz / 2))) 30 0 nt (-1)) 31 0 nt (-1)).1 20 0 8 = nI nt := h8
  have e2 : nI sz / 2 = nI (sz / 2) := pk_div (d := 2) (by omega) (by decide) (by decide)
  have ix : zk_ix (nI nt) 9 = true := zx_nI (by omega) (by decide)
  have ix' : zk_ix (nI s) 4 = true := zx_nI hs (by decide)
  rw [fX9_wild_B178, if_neg r10, h8, if_neg (show ¬ nI nt = 8 from ne_nI (b := 8) (by omega) (by decide) (by omega)), cl, cs, c1, cl, c2, cl, d2, e2, c3, cl, c4, cl, c5, cl, ix, ix', zg_t, zg_t, zg_t, zg_t, zg_t, zg_t, zg_t]
  rfl
theorem ok_wild {z : zk_Z} {nt nr nk tp : Nat} (R : Rl z nt nr nk tp) (x y w : Int32) : Ok (fX8_wild x y w) (fX9_wild x y w) z := by
  have Q : Rx z := ⟨nt, nr, nk, tp, R⟩
  rcases sheet_at w with ⟨s, hs, rfl, s8, s9⟩ | ⟨s8, s9⟩
  rotate_left
  · exact Ok_eq (-1) Q (by rw [fX8_wild, s8, zb_some, if_pos rfl]) (by rw [fX9_wild, s9, zb_some, if_pos rfl])
  rcases kind_at x with ⟨kd, hk, rfl, k8, k9⟩ | ⟨k8, k9⟩
  rotate_left
  · exact Ok_eq (-2) Q (by rw [fX8_wild, s8, zb_some, if_neg r10, k8, zb_some, if_pos rfl]) (by rw [fX9_wild, s9, zb_some, if_neg r10, k9, zb_some, if_pos rfl])
  have ix : zk_ix (nI s) 4 = true := zx_nI hs (by decide)
  have cl : (nI s).toNatClampNeg = s := nI_clamp (by omega)
  by_cases h1 : y < 1
  · exact Ok_eq (-2) Q (by rw [fX8_wild, s8, zb_some, if_neg r10, k8, zb_some, if_neg r10, if_pos h1]) (by rw [fX9_wild, s9, zb_some, if_neg r10, k9, zb_some, if_neg r10, fX9_in, if_pos h1, zb_some, if_pos rfl])
  by_cases h2 : 10 < y
  · exact Ok_eq (-2) Q (by rw [fX8_wild, s8, zb_some, if_neg r10, k8, zb_some, if_neg r10, if_neg h1, if_neg (Int32.not_le.mpr h2)]) (by rw [fX9_wild, s9, zb_some, if_neg r10, k9, zb_some, if_neg r10, fX9_in, if_neg h1, if_pos h2, zb_some, if_pos rfl])
  have h0 : ¬ y < 0 := fun q => h1 (by
    rw [Int32.lt_iff_toInt_lt] at q ⊢
    have e0 : (0 : Int32).toInt = 0 := by decide
    have e1 : (1 : Int32).toInt = 1 := by decide
    omega)
  obtain ⟨n, hn, rfl⟩ := nn h0
  have n1 : 1 ≤ n := by rw [show (1 : Int32) = nI 1 from rfl, nI_ltI hn (by decide)] at h1; omega
  have n2 : n ≤ 10 := by rw [show (10 : Int32) = nI 10 from rfl, nI_ltI (by decide) hn] at h2; omega
  have hnt := R.1.1.1
  have ht8 := R.1.1.2.1
  have ht9 := R.1.1.2.2
  obtain ⟨so, sz, ⟨z1, z2, z3⟩, ⟨p1, p2, p3⟩, hc⟩ := R.2.2.2.2.2.1 s hs
  have g8 : fX8_wild (nI kd) (nI n) (nI s) z = if so = none then some (-11, z) else zk_bd (fX8_areClauses s (nI n) z) (fun r9 z8 => if r9 = 0 then some ((-2), z8) else if (z8.1 0 0 12) < 8 then zk_gd (zk_ix (z8.1 0 0 12) 8) (zk_bd (fX7_begin ((z8.1 0 0 12).toNatClampNeg) (nI kd) (nI n) z8) (fun _ z11 => fX8_wild_L94 zk_FU s ((z8.1 0 0 12).toNatClampNeg) 0 z11)) else some ((-4), z8)) := by
    rw [fX8_wild, s8, zb_some, if_neg r10, k8, zb_some, if_neg r10, if_neg h1, if_pos (Int32.not_lt.mp h2), ix, zg_t, cl, miss8 p1 p3, zb_some]
    by_cases c : so = none
    · rw [if_pos c, if_neg r10, if_pos c]
    · rw [if_neg c, if_pos rfl, if_neg c]
  have g9 : ∀ b : zk_Z, b.1 39 0 s = oi so → b.1 40 0 s = nI sz → fX9_wild (nI kd) (nI n) (nI s) b = if so = none then some (-11, b) else if nI (sz % 2) = 0 then fX9_wild_L67 zk_FU (nI kd) (nI n) (nI s) 1 0 b else fX9_wild_L67 zk_FU (nI kd) (nI n) (nI s) 0 0 b := by
    intro b q1 q2
    have e2 : nI sz - nI sz / 2 * 2 = nI (sz % 2) := pk_rem (d := 2) (by omega) (by decide) (by decide)
    rw [fX9_wild, s9, zb_some, if_neg r10, k9, zb_some, if_neg r10, fX9_in, if_neg h1, if_neg h2, zb_some, if_neg r10, ix, zg_t, zg_t, cl, q1, q2, e2]
    by_cases c : so = none
    · rw [if_pos ((oi_mis p3).mpr c), if_pos c]
    · rw [if_neg (fun q => c ((oi_mis p3).mp q)), if_neg c]; rfl
  by_cases c1 : so = none
  · exact Ok_eq (-11) Q (by rw [g8, if_pos c1]) (by rw [g9 z p2 z3, if_pos c1])
  rw [if_neg c1] at g8
  have b0 : ∀ b : zk_Z, fX9_wild_B178 (nI kd) (nI n) (nI s) 0 b = some (-2, b) := fun b => by rw [fX9_wild_B178, if_pos rfl]
  have e2 : nI sz - nI sz / 2 * 2 = nI (sz % 2) := pk_rem (d := 2) (by omega) (by decide) (by decide)
  by_cases hodd : sz % 2 = 0
  rotate_left
  · have ho : ¬ nI (sz % 2) = 0 := fun q => hodd ((nI_z (by omega)).mp q)
    refine Ok_eq (-2) Q (by rw [g8, fX8_areClauses, z2, e2, if_neg ho, zb_some, if_pos rfl]) ?_
    rw [g9 z p2 z3, if_neg c1, if_neg ho, show zk_FU = 5999 + 1 from rfl, fX9_wild_L67, ix, zg_t, if_pos rfl, b0]
    split <;> rfl
  have ho : nI (sz % 2) = 0 := by rw [hodd]; rfl
  have e8 : fX8_areClauses s (nI n) z = fX8_areClauses_L13 s zk_FU (nI n) (nI (2 * 0)) z := by
    rw [fX8_areClauses, z2, e2, if_pos ho]; rfl
  have a9 := fun (b : zk_Z) (q2 : b.1 40 0 s = nI sz) (hf : ∀ i, i < 40 → b.1 41 0 (40 * s + i) = z.1 14 s i) => ac9_L (b1 := nI kd) (C := sz / 2) hs n2 z1 (by omega) q2 hf (sz / 2) zk_FU 0 (by omega) (by show sz / 2 + 1 < 6000; omega)
  rcases ac8_L (C := sz / 2) n2 z1 (by omega) z2 (sz / 2) zk_FU 0 (by omega) (by show sz / 2 < 6000; omega) with ⟨hG, h8⟩ | ⟨hG, h8⟩
  rotate_left
  · refine Ok_eq (-2) Q (by rw [g8, e8, h8, zb_some, if_pos rfl]) ?_
    rw [g9 z p2 z3, if_neg c1, if_pos ho]
    exact ((a9 z z3 hc).2 hG).trans (b0 z)
  rw [e8, h8, zb_some, if_neg r10, ht8] at g8
  by_cases h88 : nt = 8
  · refine Ok_eq (-4) Q (by rw [g8, if_neg (by rw [show (8 : Int32) = nI 8 from rfl, nI_ltI (by omega) (by decide)]; omega)]) ?_
    rw [g9 z p2 z3, if_neg c1, if_pos ho]
    refine ((a9 z z3 hc).1 hG).trans ?_
    rw [fX9_wild_B178, if_neg r10, ht9, if_pos (by rw [h88]; rfl)]
  have ebg : fX7_begin nt (nI kd) (nI n) z = some ((), bgZ z nt (nI kd) (nI n)) := rfl
  rw [if_pos (by rw [show (8 : Int32) = nI 8 from rfl, nI_ltI (by omega) (by decide)]; omega), zx_nI (by omega) (by decide), zg_t, nI_clamp (by omega), ebg, zb_some] at g8
  have bv := bgZ_v z nt (nI kd) (nI n)
  obtain ⟨u, w1, w2, w3, w4, w5⟩ := wl8_L (s := s) (sz := sz) (C := sz / 2) (nt := nt) z1 (by omega) (by omega) (sz / 2) zk_FU 0 (bgZ z nt (nI kd) (nI n)) (by omega) (by show sz / 2 < 6000; omega) (by rw [bgZ_ne (by omega)]; exact z2) bv.2.2.1 (by rw [bgZ_ne (by omega)]; exact ht8)
  have une : ∀ g k i, ¬ (((7 ≤ g ∧ g ≤ 9) ∧ k = nt) ∨ (g = 0 ∧ i = 12)) → u.1 g k i = z.1 g k i := fun g k i hg => by rw [w5 g k i (by omega), bgZ_ne (by omega)]
  have u8 : u.1 20 0 8 = nI nt := by rw [une 20 0 8 (by omega)]; exact ht9
  have u40 : u.1 40 0 s = nI sz := by rw [une 40 0 s (by omega)]; exact z3
  have vv := bwZ_v u nt kd n (sz / 2)
  obtain ⟨v, x1, x2, x4, x5⟩ := wl9_L (s := s) (C := sz / 2) (nt := nt) hs (by omega) (by omega) (sz / 2) zk_FU 0 (bwZ u nt kd n (sz / 2)) (by omega) (by show sz / 2 < 6000; omega) (by rw [bwZ_ne (by omega)]; exact u8) vv.2.2.1
  have vne : ∀ g k i, ¬ (((27 ≤ g ∧ g ≤ 32) ∧ i = nt) ∨ ((g = 33 ∨ g = 34) ∧ 24 * nt ≤ i ∧ i < 24 * nt + 24) ∨ (g = 20 ∧ i = 8)) → v.1 g k i = u.1 g k i := fun g k i hg => by rw [x5 g k i (by omega), bwZ_ne (by omega)]
  have hcell : ∀ i, i < 40 → u.1 41 0 (40 * s + i) = z.1 14 s i := fun i hi => by rw [une 41 0 (40 * s + i) (by omega)]; exact hc i hi
  refine ⟨nI nt, u, v, g8.trans w1, ?_, nt + 1, nr, nk, tp, Rl_task R (by omega) (fun g k i hg => by rw [vne g k i (by omega), une g k i (by omega)]) (by rw [vne 0 0 12 (by omega)]; exact w2) x2 ?_⟩
  · rw [g9 u (by rw [une 39 0 s (by omega)]; exact p2) u40, if_neg c1, if_pos ho]
    refine ((a9 u u40 hcell).1 hG).trans ?_
    rw [wl9_B (by omega) hs z1 u8 u40]
    exact x1
  · have hP : ∃ P A : Nat → Nat, ∀ i, i < sz / 2 → z.1 14 s (2 * i) = nI (P i) ∧ z.1 14 s (2 * i + 1) = nI (A i) ∧ (P i < 2 ^ n ∧ A i < 2 ^ n) ∧ P i &&& A i = 0 ∧ 1 ≤ wid (P i) (A i) ∧ wid (P i) (A i) ≤ 3 := by
      have h : ∀ i, ∃ q : Nat × Nat, i < sz / 2 → z.1 14 s (2 * i) = nI q.1 ∧ z.1 14 s (2 * i + 1) = nI q.2 ∧ (q.1 < 2 ^ n ∧ q.2 < 2 ^ n) ∧ q.1 &&& q.2 = 0 ∧ 1 ≤ wid q.1 q.2 ∧ wid q.1 q.2 ≤ 3 := by
        intro i
        by_cases hi : i < sz / 2
        · obtain ⟨P, A, h⟩ := hG i (Nat.zero_le _) (by omega)
          exact ⟨(P, A), fun _ => h⟩
        · exact ⟨(0, 0), fun h => absurd h hi⟩
      exact ⟨fun i => (h i).choose.1, fun i => (h i).choose.2, fun i hi => (h i).choose_spec hi⟩
    obtain ⟨P, A, hP⟩ := hP
    have G7 : ∀ g k i, ((7 ≤ g ∧ g ≤ 9) ∧ k = nt) → v.1 g k i = u.1 g k i := fun g k i hg => vne g k i (by omega)
    have U7 : ∀ i, i ≠ 2 → u.1 7 nt i = (bgZ z nt (nI kd) (nI n)).1 7 nt i := fun i hi => w5 7 nt i (by omega)
    have V9 : ∀ g, 27 ≤ g ∧ g ≤ 32 → v.1 g 0 nt = (bwZ u nt kd n (sz / 2)).1 g 0 nt := fun g hg => x5 g 0 nt (by omega)
    refine ⟨kd, n, sz / 2, P, A, none, ⟨⟨?_, ?_, ?_⟩, fun i hi => ⟨?_, ?_⟩⟩, ⟨⟨?_, ?_, ?_⟩, fun i hi => ⟨?_, ?_⟩⟩, ⟨⟨hk, n1, n2, by omega⟩, fun i hi => (hP i hi).2.2⟩, fun h e => (by cases e), ⟨?_, ?_⟩, ?_, ?_⟩
    · rw [G7 7 nt 0 (by omega), U7 0 (by omega)]; exact bv.1
    · rw [G7 7 nt 1 (by omega), U7 1 (by omega)]; exact bv.2.1
    · rw [G7 7 nt 2 (by omega)]; exact w3
    · rw [G7 8 nt i (by omega), (w4 i (Nat.zero_le _) hi).1, bgZ_ne (by omega)]; exact (hP i hi).1
    · rw [G7 9 nt i (by omega), (w4 i (Nat.zero_le _) hi).2, bgZ_ne (by omega)]; exact (hP i hi).2.1
    · rw [V9 27 (by omega)]; exact vv.1
    · rw [V9 28 (by omega)]; exact vv.2.1
    · rw [V9 29 (by omega)]; exact vv.2.2.1
    · rw [(x4 i (Nat.zero_le _) hi).1, bwZ_ne (by omega), hcell (2 * i) (by omega)]; exact (hP i hi).1
    · rw [(x4 i (Nat.zero_le _) hi).2, bwZ_ne (by omega), Nat.add_assoc, hcell (2 * i + 1) (by omega)]; exact (hP i hi).2.1
    · rw [G7 7 nt 3 (by omega), U7 3 (by omega)]; exact bv.2.2.2.1
    · rw [V9 30 (by omega)]; exact vv.2.2.2.1
    · rw [V9 31 (by omega), G7 7 nt 4 (by omega), U7 4 (by omega), vv.2.2.2.2.1, bv.2.2.2.2.1]
    · rw [V9 32 (by omega), G7 7 nt 5 (by omega), U7 5 (by omega), vv.2.2.2.2.2, bv.2.2.2.2.2]
