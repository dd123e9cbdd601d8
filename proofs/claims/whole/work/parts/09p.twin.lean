/-! twins -/
theorem TC_at {z z' : zk_Z} {t kd n C : Nat} {P A : Nat → Nat} (h : ∀ g k i, (g = 7 ∧ k = t ∧ i ≤ 2) ∨ ((g = 8 ∨ g = 9) ∧ k = t) → z'.1 g k i = z.1 g k i) (h1 : TC z t kd n C P A) : TC z' t kd n C P A := by
  refine ⟨⟨?_, ?_, ?_⟩, fun i hi => ⟨?_, ?_⟩⟩
  · rw [h 7 t 0 (by omega)]; exact h1.1.1
  · rw [h 7 t 1 (by omega)]; exact h1.1.2.1
  · rw [h 7 t 2 (by omega)]; exact h1.1.2.2
  · rw [h 8 t i (by omega)]; exact (h1.2 i hi).1
  · rw [h 9 t i (by omega)]; exact (h1.2 i hi).2
theorem TM_at {z z' : zk_Z} {t kd n C : Nat} {P A : Nat → Nat} (h24 : C ≤ 24) (h : ∀ g k i, ((27 ≤ g ∧ g ≤ 29) ∧ k = 0 ∧ i = t) ∨ ((g = 33 ∨ g = 34) ∧ k = 0 ∧ 24 * t ≤ i ∧ i < 24 * t + 24) → z'.1 g k i = z.1 g k i) (h2 : TM z t kd n C P A) : TM z' t kd n C P A := by
  refine ⟨⟨?_, ?_, ?_⟩, fun i hi => ⟨?_, ?_⟩⟩
  · rw [h 27 0 t (by omega)]; exact h2.1.1
  · rw [h 28 0 t (by omega)]; exact h2.1.2.1
  · rw [h 29 0 t (by omega)]; exact h2.1.2.2
  · rw [h 33 0 (24 * t + i) (by omega)]; exact (h2.2 i hi).1
  · rw [h 34 0 (24 * t + i) (by omega)]; exact (h2.2 i hi).2
def hT (v : Nat → Nat) (n tw : Nat) (H : Option Nat) : Option Nat := match H with | none => none | some h => some (mvB v n h ^^^ tw)
theorem acZ_ne {z : zk_Z} {nt c : Nat} {x y : Int32} {g k i : Nat} (hg : ¬ (((g = 8 ∨ g = 9) ∧ k = nt ∧ i = c) ∨ (g = 7 ∧ k = nt ∧ i = 2))) : (acZ z nt c x y).1 g k i = z.1 g k i := by
  unfold acZ
  rw [sI_at, if_neg (by omega), sI_at, if_neg (by omega), sI_at, if_neg (by omega)]
theorem acZ_v (z : zk_Z) (nt c : Nat) (x y : Int32) : (acZ z nt c x y).1 8 nt c = x ∧ (acZ z nt c x y).1 9 nt c = y ∧ (acZ z nt c x y).1 7 nt 2 = nI (c + 1) := by
  unfold acZ
  simp [sI_at]
theorem tw8_L {s n C t nt kd tw : Nat} {P A v : Nat → Nat} {H : Option Nat} (O : TOK kd n C P A) (hH : ∀ h, H = some h → h < 2 ^ n) (htw : tw < 2 ^ n) (hv : ∀ j, j < n → v j < n) (ht : t < nt) (hnt : nt < 8) : ∀ d m c z, c + d = C → d < m → TC z t kd n C P A → z.1 7 t 3 = oi H → z.1 13 s 1 = nI n → (∀ j, j < n → z.1 14 s j = nI (v j)) → z.1 7 nt 2 = nI c → z.1 7 nt 3 = -1 → z.1 0 0 12 = nI nt → ∃ z', fX8_twin_L109 m (nI tw) t s nt (nI c) z = some (nI nt, z') ∧ z'.1 0 0 12 = nI (nt + 1) ∧ z'.1 7 nt 2 = nI C ∧ z'.1 7 nt 3 = oi (hT v n tw H) ∧ (∀ i, c ≤ i → i < C → z'.1 8 nt i = nI (twP tw (mvB v n (P i)) (mvB v n (A i))) ∧ z'.1 9 nt i = nI (twP tw (mvB v n (A i)) (mvB v n (P i)))) ∧ ∀ g k i, ¬ (((g = 8 ∨ g = 9) ∧ k = nt ∧ c ≤ i) ∨ (g = 7 ∧ k = nt ∧ (i = 2 ∨ i = 3)) ∨ (g = 0 ∧ i = 12)) → z'.1 g k i = z.1 g k i := by
  have hn := O.1.2.2.1
  have h24 := O.1.2.2.2
  have h2n := p2_le hn
  have b207 : ∀ z : zk_Z, z.1 0 0 12 = nI nt → fX8_twin_B207 z = some (nI nt, zk_sI z 0 0 12 (nI (nt + 1))) := fun z hz => by
    rw [fX8_twin_B207, fX8_keepTask, hz, nI_1, zb_some, sI_at, if_pos ⟨rfl, rfl, rfl⟩, nI_sub1]
  intro d
  induction d with
  | zero =>
    intro m c z h1 h2 T h3 h4 h5 h6 h7 h8
    obtain ⟨m, rfl⟩ : ∃ j, m = j + 1 := ⟨m - 1, by omega⟩
    have e0 : fX8_twin_L109 (m + 1) (nI tw) t s nt (nI c) z = if oi H < 0 then fX8_twin_B207 z else zk_bd (fX5_renumbered s (oi H) z) (fun r19 z18 => fX8_twin_B207 (zk_sI z18 7 nt 3 (r19 ^^^ nI tw))) := by
      rw [fX8_twin_L109, T.1.2.2, if_pos (by rw [nI_leI (by omega) (by omega)]; omega), h3]
    cases hq : H with
    | none =>
      rw [hq, oi_n, if_pos (by decide), b207 z h8] at e0
      refine ⟨_, e0, ?_, ?_, ?_, fun i h9 h10 => by omega, fun g k i hg => ?_⟩
      · rw [sI_at, if_pos ⟨rfl, rfl, rfl⟩]
      · rw [sI_at, if_neg (by omega), h6, show c = C by omega]
      · rw [sI_at, if_neg (by omega)]; exact h7
      · rw [sI_at, if_neg (by omega)]
    | some h =>
      have hh := hH h hq
      rw [hq, oi_s, if_neg (nI_lt0 (by omega)), mv8 hn hh h4 (fun j hj => ⟨h5 j hj, hv j hj⟩), zb_some, nI_xor, b207 _ (by rw [sI_at, if_neg (by omega)]; exact h8)] at e0
      refine ⟨_, e0, ?_, ?_, ?_, fun i h9 h10 => by omega, fun g k i hg => ?_⟩
      · rw [sI_at, if_pos ⟨rfl, rfl, rfl⟩]
      · rw [sI_at, if_neg (by omega), sI_at, if_neg (by omega), h6, show c = C by omega]
      · rw [sI_at, if_neg (by omega), sI_at, if_pos ⟨rfl, rfl, rfl⟩]; rfl
      · rw [sI_at, if_neg (by omega), sI_at, if_neg (by omega)]
  | succ d ih =>
    intro m c z h1 h2 T h3 h4 h5 h6 h7 h8
    obtain ⟨m, rfl⟩ : ∃ j, m = j + 1 := ⟨m - 1, by omega⟩
    have hc := O.2 c (by omega)
    have m1 := mvB_lt (n := n) (x := P c) hv
    have m2 := mvB_lt (n := n) (x := A c) hv
    have hv' : ∀ j, j < n → z.1 14 s j = nI (v j) ∧ v j < n := fun j hj => ⟨h5 j hj, hv j hj⟩
    have av := acZ_v z nt c (nI (twP tw (mvB v n (P c)) (mvB v n (A c)))) (nI (twP tw (mvB v n (A c)) (mvB v n (P c))))
    obtain ⟨z', w1, w2, w3, w3', w4, w5⟩ := ih m (c + 1) (acZ z nt c (nI (twP tw (mvB v n (P c)) (mvB v n (A c)))) (nI (twP tw (mvB v n (A c)) (mvB v n (P c))))) (by omega) (by omega) (TC_at (fun g k i q => acZ_ne (by omega)) T) (by rw [acZ_ne (by omega)]; exact h3) (by rw [acZ_ne (by omega)]; exact h4) (fun j hj => by rw [acZ_ne (by omega)]; exact h5 j hj) av.2.2 (by rw [acZ_ne (by omega)]; exact h7) (by rw [acZ_ne (by omega)]; exact h8)
    refine ⟨z', ?_, w2, w3, w3', fun i h9 h10 => ?_, fun g k i hg => ?_⟩
    · rw [fX8_twin_L109, T.1.2.2, if_neg (by rw [nI_leI (by omega) (by omega)]; omega), zx_nI (by omega) (by decide), zg_t, nI_clamp (by omega), (T.2 c (by omega)).1, mv8 hn hc.1.1 h4 hv', zb_some, zg_t, (T.2 c (by omega)).2, mv8 hn hc.1.2 h4 hv', zb_some, tw_eq (t := tw) (p := mvB v n (P c)) (a := mvB v n (A c)) (by omega) (by omega), tw_eq (t := tw) (p := mvB v n (A c)) (a := mvB v n (P c)) (by omega) (by omega), addC h6 (by omega), zb_some, nI_1]
      exact w1
    · by_cases e : i = c
      · rw [e, w5 8 nt c (by omega), w5 9 nt c (by omega)]; exact ⟨av.1, av.2.1⟩
      · exact w4 i (by omega) h10
    · rw [w5 g k i (by omega), acZ_ne (by omega)]
theorem tw9_L {s n C t nt kd tw : Nat} {P A v : Nat → Nat} (hs : s < 4) (O : TOK kd n C P A) (htw : tw < 2 ^ n) (hv : ∀ j, j < n → v j < n) (ht : t < nt) (hnt : nt < 8) : ∀ d m c z, c + d = C → d < m → TM z t kd n C P A → (∀ j, j < n → z.1 41 0 (40 * s + j) = nI (v j)) → z.1 20 0 8 = nI nt → ∃ z', fX9_twin_L291 m (nI t) (nI s) (nI tw) (nI n) (nI nt) (nI c) z = some (nI nt, z') ∧ z'.1 20 0 8 = nI (nt + 1) ∧ (∀ i, c ≤ i → i < C → z'.1 33 0 (24 * nt + i) = nI (twP tw (mvB v n (P i)) (mvB v n (A i))) ∧ z'.1 34 0 (24 * nt + i) = nI (twP tw (mvB v n (A i)) (mvB v n (P i)))) ∧ ∀ g k i, ¬ (((g = 33 ∨ g = 34) ∧ 24 * nt + c ≤ i ∧ i < 24 * nt + 24) ∨ (g = 20 ∧ i = 8)) → z'.1 g k i = z.1 g k i := by
  have hn := O.1.2.2.1
  have h24 := O.1.2.2.2
  have h2n := p2_le hn
  have it : zk_ix (nI t) 9 = true := zx_nI (by omega) (by decide)
  have ct : (nI t).toNatClampNeg = t := nI_clamp (by omega)
  intro d
  induction d with
  | zero =>
    intro m c z h1 h2 T h5 h8
    obtain ⟨m, rfl⟩ : ∃ j, m = j + 1 := ⟨m - 1, by omega⟩
    refine ⟨zk_sI z 20 0 8 (nI (nt + 1)), ?_, ?_, fun i h9 h10 => by omega, fun g k i hg => ?_⟩
    · rw [fX9_twin_L291, it, zg_t, ct, T.1.2.2, if_pos (by rw [nI_leI (by omega) (by omega)]; omega), h8, nI_1]
    · rw [sI_at, if_pos ⟨rfl, rfl, rfl⟩]
    · rw [sI_at, if_neg (by omega)]
  | succ d ih =>
    intro m c z h1 h2 T h5 h8
    obtain ⟨m, rfl⟩ : ∃ j, m = j + 1 := ⟨m - 1, by omega⟩
    have hc := O.2 c (by omega)
    have m1 := mvB_lt (n := n) (x := P c) hv
    have m2 := mvB_lt (n := n) (x := A c) hv
    have hv' : ∀ j, j < n → z.1 41 0 (40 * s + j) = nI (v j) ∧ v j < n := fun j hj => ⟨h5 j hj, hv j hj⟩
    obtain ⟨y, hy⟩ : ∃ y, y = zk_sI (zk_sI z 33 0 (24 * nt + c) (nI (twP tw (mvB v n (P c)) (mvB v n (A c))))) 34 0 (24 * nt + c) (nI (twP tw (mvB v n (A c)) (mvB v n (P c)))) := ⟨_, rfl⟩
    have yne : ∀ g k i, ¬ ((g = 33 ∨ g = 34) ∧ i = 24 * nt + c) → y.1 g k i = z.1 g k i := fun g k i hg => by rw [hy, sI_at, if_neg (by omega), sI_at, if_neg (by omega)]
    obtain ⟨z', w1, w2, w4, w5⟩ := ih m (c + 1) y (by omega) (by omega) (TM_at h24 (fun g k i q => yne g k i (by omega)) T) (fun j hj => by rw [yne 41 0 (40 * s + j) (by omega)]; exact h5 j hj) (by rw [yne 20 0 8 (by omega)]; exact h8)
    refine ⟨z', ?_, w2, fun i h9 h10 => ?_, fun g k i hg => ?_⟩
    · rw [fX9_twin_L291, it, zg_t, ct, T.1.2.2, if_neg (by rw [nI_leI (by omega) (by omega)]; omega), nI_24, nI_24, zx_nI (show 24 * t + c < 216 by omega) (by decide), zx_nI (show 24 * nt + c < 216 by omega) (by decide), zg_t, nI_clamp (show 24 * t + c < 2 ^ 31 by omega), nI_clamp (show 24 * nt + c < 2 ^ 31 by omega), (T.2 c (by omega)).1, mv9 hs hn hc.1.1 hv', zb_some, zg_t, (T.2 c (by omega)).2, mv9 hs hn hc.1.2 hv', zb_some, zg_t, zg_t, tw_eq (t := tw) (p := mvB v n (P c)) (a := mvB v n (A c)) (by omega) (by omega), tw_eq (t := tw) (p := mvB v n (A c)) (a := mvB v n (P c)) (by omega) (by omega), nI_1, ← hy]
      exact w1
    · by_cases e : i = c
      · rw [e, w5 33 0 (24 * nt + c) (by omega), w5 34 0 (24 * nt + c) (by omega)]
        refine ⟨?_, ?_⟩
        · rw [hy, sI_at, if_neg (by omega), sI_at, if_pos ⟨rfl, rfl, rfl⟩]
        · rw [hy, sI_at, if_pos ⟨rfl, rfl, rfl⟩]
      · exact w4 i (by omega) h10
    · rw [w5 g k i (by omega), yne g k i (by omega)]
def btZ (z : zk_Z) (nt kd n C : Nat) (h : Int32) : zk_Z := zk_sI (zk_sI (zk_sI (zk_sI (zk_sI (zk_sI z 27 0 nt (nI kd)) 28 0 nt (nI n)) 29 0 nt (nI C)) 30 0 nt h) 31 0 nt (-1)) 32 0 nt (-1)
theorem btZ_ne {z : zk_Z} {nt kd n C g k i : Nat} {x : Int32} (h : ¬ ((27 ≤ g ∧ g ≤ 32) ∧ i = nt)) : (btZ z nt kd n C x).1 g k i = z.1 g k i := by
  unfold btZ
  rw [sI_at, if_neg (by omega), sI_at, if_neg (by omega), sI_at, if_neg (by omega), sI_at, if_neg (by omega), sI_at, if_neg (by omega), sI_at, if_neg (by omega)]
theorem btZ_v (z : zk_Z) (nt kd n C : Nat) (x : Int32) : (btZ z nt kd n C x).1 27 0 nt = nI kd ∧ (btZ z nt kd n C x).1 28 0 nt = nI n ∧ (btZ z nt kd n C x).1 29 0 nt = nI C ∧ (btZ z nt kd n C x).1 30 0 nt = x ∧ (btZ z nt kd n C x).1 31 0 nt = -1 ∧ (btZ z nt kd n C x).1 32 0 nt = -1 := by
  unfold btZ
  simp [sI_at]
theorem tw9_B {z : zk_Z} {s n C t nt kd tw : Nat} {P A v : Nat → Nat} {H : Option Nat} (hs : s < 4) (O : TOK kd n C P A) (hH : ∀ h, H = some h → h < 2 ^ n) (hv : ∀ j, j < n → v j < n) (ht : t < nt) (hnt : nt < 8) (T : TM z t kd n C P A) (h3 : z.1 30 0 t = oi H) (h5 : ∀ j, j < n → z.1 41 0 (40 * s + j) = nI (v j)) (h8 : z.1 20 0 8 = nI nt) : fX9_twin_B175 (nI t) (nI s) (nI tw) (nI n) 1 z = fX9_twin_L291 zk_FU (nI t) (nI s) (nI tw) (nI n) (nI nt) 0 (btZ z nt kd n C (oi (hT v n tw H))) := by
  have hn := O.1.2.2.1
  have it : zk_ix (nI t) 9 = true := zx_nI (by omega) (by decide)
  have ct : (nI t).toNatClampNeg = t := nI_clamp (by omega)
  have int : zk_ix (nI nt) 9 = true := zx_nI (by omega) (by decide)
  have cnt : (nI nt).toNatClampNeg = nt := nI_clamp (by omega)
  obtain ⟨y, hy⟩ : ∃ y, y = zk_sI (zk_sI (zk_sI z 27 0 nt (nI kd)) 28 0 nt (nI n)) 29 0 nt (nI C) := ⟨_, rfl⟩
  have yne : ∀ g k i, ¬ ((27 ≤ g ∧ g ≤ 29) ∧ i = nt) → y.1 g k i = z.1 g k i := fun g k i hg => by rw [hy, sI_at, if_neg (by omega), sI_at, if_neg (by omega), sI_at, if_neg (by omega)]
  have c29 : (zk_sI (zk_sI z 27 0 nt (nI kd)) 28 0 nt (nI n)).1 29 0 t = nI C := by rw [sI_at, if_neg (by omega), sI_at, if_neg (by omega)]; exact T.1.2.2
  have c30 : y.1 30 0 t = oi H := by rw [yne 30 0 t (by omega)]; exact h3
  have b271 : ∀ x : Int32, fX9_twin_B271 (nI t) (nI s) (nI tw) (nI n) (nI nt) x (nI nt) y = fX9_twin_L291 zk_FU (nI t) (nI s) (nI tw) (nI n) (nI nt) 0 (btZ z nt kd n C x) := by
    intro x
    rw [fX9_twin_B271, int, zg_t, zg_t, zg_t, cnt, hy]; rfl
  have e0 : fX9_twin_B175 (nI t) (nI s) (nI tw) (nI n) 1 z = if oi H = -1 then fX9_twin_B271 (nI t) (nI s) (nI tw) (nI n) (nI nt) (-1) (nI nt) y else zk_bd (fX9_moved (oi H) (nI s) (nI n) y) (fun r12 z11 => fX9_twin_B271 (nI t) (nI s) (nI tw) (nI n) (nI nt) (r12 ^^^ nI tw) (nI nt) z11) := by
    rw [fX9_twin_B175, if_neg r10, h8, if_neg (show ¬ nI nt = 8 from ne_nI (b := 8) (by omega) (by decide) (by omega)), it, int, zg_t, zg_t, zg_t, zg_t, zg_t, zg_t, zg_t, ct, cnt, T.1.1, c29, ← hy, c30]
  rw [e0]
  cases hq : H with
  | none => rw [oi_n, if_pos rfl, b271]; rfl
  | some h =>
    have hh := hH h hq
    have h2n := p2_le hn
    rw [oi_s, if_neg (nI_m1_ne (by omega)), mv9 hs hn hh (fun j hj => ⟨by rw [yne 41 0 (40 * s + j) (by omega)]; exact h5 j hj, hv j hj⟩), zb_some, nI_xor, b271]; rfl
