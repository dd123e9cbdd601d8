/-! what a finder finds -/
def fiS (kd n C : Nat) (P A : Nat → Nat) (x : Nat) (lim : Nat) : Option Nat × Nat :=
  if x = 0 then clS kd n C P A (min lim 1) (ctS C P A n 0 0) 0 else if x = 1 then clS kd n C P A lim 0 0 else if x = 2 then clS kd n C P A lim (ctS C P A n 0 0) 0 else seS kd n C P A lim 0 0 0
theorem nI_eq0 {x : Nat} (h : x < 2 ^ 32) (c : Nat) (hc : c < 2 ^ 32) : (nI x = nI c) ↔ x = c := ⟨fun q => nI_inj h hc q, fun q => by rw [q]⟩
theorem seek7 {z : zk_Z} {k kd n C x lim : Nat} {P A : Nat → Nat} (T : TC z k kd n C P A) (O : TOK kd n C P A) (hx : x < 4) (hlim : lim ≤ 5000) : fX1_seek k (nI x) (nI lim) z = some ((), fz z (fo (-1) (fiS kd n C P A x lim).1) (fiS kd n C P A x lim).2) := by
  have h0 := Nat.two_pow_pos n
  have hct : ctS C P A n 0 0 < 2 ^ n := ctS_lt n 0 0 (by omega) h0
  have hz : zk_sI (zk_sI z 16 0 0 (-1)) 16 0 1 0 = fz z (-1) 0 := rfl
  rw [fX1_seek, hz, ct7 (TC_fz T) O, zb_some, zb_some]
  unfold fiS
  rcases (show x = 0 ∨ x = 1 ∨ x = 2 ∨ x = 3 by omega) with rfl | rfl | rfl | rfl
  · rw [if_pos (by rfl), if_pos rfl]
    have e : (if (1 : Int32) < nI lim then (1 : Int32) else nI lim) = nI (min lim 1) := by
      by_cases h : 1 < lim
      · rw [if_pos (by rw [show (1 : Int32) = nI 1 from rfl, nI_ltI (by decide) (by omega)]; exact h), Nat.min_eq_right (by omega)]; rfl
      · rw [if_neg (by rw [show (1 : Int32) = nI 1 from rfl, nI_ltI (by decide) (by omega)]; exact h), Nat.min_eq_left (by omega)]
    rw [e, fX1_climb, show (1 : Int32) = nI (0 + 1) from rfl, cl7_L T O (by omega) (min lim 1) zk_FU _ 0 (by omega) (by show min lim 1 < 6000; omega) hct]; rfl
  · rw [if_neg (by decide), if_pos (by rfl), if_neg (by decide), if_pos rfl, fX1_climb, show (1 : Int32) = nI (0 + 1) from rfl, show (0 : Int32) = nI 0 from rfl, cl7_L T O (by omega) lim zk_FU _ 0 (by omega) (by show lim < 6000; omega) h0]; rfl
  · rw [if_neg (by decide), if_neg (by decide), if_pos (by rfl), if_neg (by decide), if_neg (by decide), if_pos rfl, fX1_climb, show (1 : Int32) = nI (0 + 1) from rfl, cl7_L T O (by omega) lim zk_FU _ 0 (by omega) (by show lim < 6000; omega) hct]; rfl
  · rw [if_neg (by decide), if_neg (by decide), if_neg (by decide), if_neg (by decide), if_neg (by decide), if_neg (by decide), fX1_search, show (1 : Int32) = nI (0 + 1) from rfl, show (0 : Int32) = nI 0 from rfl, se7_L T O (by omega) lim zk_FU _ _ 0 (by omega) (by show lim < 6000; omega) (Nat.zero_le _) h0]; rfl
theorem finds9 {z : zk_Z} {t kd n C x lim : Nat} {P A : Nat → Nat} (T : TM z t kd n C P A) (O : TOK kd n C P A) (ht : t < 9) (hx : x < 4) (hlim : lim ≤ 5000) : fX9_finds (nI t) (nI x) (nI lim) z = some (oi (fiS kd n C P A x lim).1, fm z (fiS kd n C P A x lim).2) := by
  have h0 := Nat.two_pow_pos n
  have hN := p2_le O.1.2.2.1
  have hct : ctS C P A n 0 0 < 2 ^ n := ctS_lt n 0 0 (by omega) h0
  have hz : ∀ s, zk_sI z 20 0 30 (nI s) = fm z s := fun _ => rfl
  rw [fX9_finds, ct9 T O ht, zb_some]
  unfold fiS
  rcases (show x = 0 ∨ x = 1 ∨ x = 2 ∨ x = 3 by omega) with rfl | rfl | rfl | rfl
  · rw [if_pos (by rfl), if_pos rfl]
    by_cases h : lim = 0
    · subst h
      rw [if_pos (by decide), fX9_finds_B14, if_pos (by decide)]; rfl
    · have e : ¬ nI lim ≤ 0 := by rw [show (0 : Int32) = nI 0 from rfl, nI_leI (by omega) (by omega)]; omega
      rw [if_neg e, fX9_finds_B14, if_neg e, show (1 : Int32) = nI 1 from rfl, hz, ct9 (TM_fm T) O ht, zb_some, e9_solve (TM_fm T) O ht (by omega), zb_some, ct9 (TM_fm T) O ht, zb_some, Nat.min_eq_right (by omega), clS, clS]
      cases q : sol kd C P A (ctS C P A n 0 0) with
      | true => rw [if_neg (by decide), if_pos rfl]; rfl
      | false => rw [if_pos (by decide), if_neg (by decide)]; rfl
  · rw [if_neg (by decide), if_neg (by decide), if_pos (by rfl), if_neg (by decide), if_pos rfl, fX9_finds_B74, fX9_climbs, show (0 : Int32) = nI 0 from rfl, hz, cl9_L T O ht (by omega) lim zk_FU _ 0 (by omega) (by show lim < 6000; omega) h0]; rfl
  · rw [if_neg (by decide), if_neg (by decide), if_neg (by decide), if_neg (by decide), if_neg (by decide), if_pos rfl, fX9_finds_B74, fX9_climbs, show (0 : Int32) = nI 0 from rfl, hz, cl9_L T O ht (by omega) lim zk_FU _ 0 (by omega) (by show lim < 6000; omega) hct]; rfl
  · rw [if_neg (by decide), if_pos (by rfl), if_neg (by decide), if_neg (by decide), if_neg (by decide), fX9_searches, zx_nI ht (by decide), zg_t, nI_clamp (by omega), T.1.2.1, show (0 : Int32) = nI 0 from rfl, hz, se9_L T O ht (by omega) lim zk_FU 0 0 0 (by omega) (by show lim + 1 < 6000; omega) (Nat.zero_le _) h0]; rfl
