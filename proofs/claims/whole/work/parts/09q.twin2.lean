/-! a twin, as it is asked for -/
theorem ok_twin {z : zk_Z} {nt nr nk tp : Nat} (R : Rl z nt nr nk tp) (x w y : Int32) : Ok (fX8_twin x w y) (fX9_twin x w y) z := by
  have Q : Rx z := ⟨nt, nr, nk, tp, R⟩
  rcases task_at R x with ⟨t, ht, rfl, e8, e9⟩ | ⟨_, e8, e9⟩
  rotate_left
  · exact Ok_eq (-1) Q (by rw [fX8_twin, e8, zb_some, zo_n]) (by rw [fX9_twin, e9, zb_some, if_pos rfl])
  obtain ⟨kd, n, C, P, A, H, T1, T2, O, hH, ⟨q1, q2⟩, q3, q4⟩ := R.2.2.1 t ht
  have hnt := R.1.1.1
  have ht8 := R.1.1.2.1
  have ht9 := R.1.1.2.2
  have hn := O.1.2.2.1
  have h24 := O.1.2.2.2
  have h2n := p2_le hn
  rcases sheet_at w with ⟨s, hs, rfl, s8, s9⟩ | ⟨s8, s9⟩
  rotate_left
  · exact Ok_eq (-1) Q (by rw [fX8_twin, e8, zb_some, zo_s, s8, zb_some, if_pos rfl]) (by rw [fX9_twin, e9, zb_some, if_neg r10, s9, zb_some, if_pos rfl])
  have ix : zk_ix (nI s) 4 = true := zx_nI hs (by decide)
  have cl : (nI s).toNatClampNeg = s := nI_clamp (by omega)
  have it : zk_ix (nI t) 9 = true := zx_nI (by omega) (by decide)
  have ct : (nI t).toNatClampNeg = t := nI_clamp (by omega)
  obtain ⟨so, sz, ⟨z1, z2, z3⟩, ⟨p1, p2, p3⟩, hc⟩ := R.2.2.2.2.2.1 s hs
  have g8 : fX8_twin (nI t) (nI s) y z = if so = none then some (-11, z) else zk_bd (fX8_isRow y (nI n) z) (fun r10 z9 => if r10 = 0 then some ((-2), z9) else zk_bd (fX5_isOrderOf s (z9.1 7 t 1) z9) (fun r12 z11 => if r12 = 0 then some ((-2), z11) else if (z11.1 0 0 12) < 8 then zk_gd (zk_ix (z11.1 0 0 12) 8) (zk_bd (fX7_begin ((z11.1 0 0 12).toNatClampNeg) (z11.1 7 t 0) (z11.1 7 t 1) z11) (fun _ z14 => fX8_twin_L109 zk_FU y t s ((z11.1 0 0 12).toNatClampNeg) 0 z14)) else some ((-4), z11))) := by
    rw [fX8_twin, e8, zb_some, zo_s, s8, zb_some, if_neg r10, ix, zg_t, cl, miss8 p1 p3, zb_some, T1.1.2.1]
    by_cases c : so = none
    · rw [if_pos c, if_neg r10, if_pos c]
    · rw [if_neg c, if_pos rfl, if_neg c]
  have g9 : ∀ b : zk_Z, b.1 20 0 8 = nI nt → b.1 39 0 s = oi so → b.1 40 0 s = nI sz → b.1 28 0 t = nI n → fX9_twin (nI t) (nI s) y b = if so = none then some (-11, b) else if nI sz = nI n then zk_bd (fX9_in y 0 (nI (2 ^ n) - 1) b) (fun r6 z5 => if r6 = 0 then fX9_twin_B69 (nI t) (nI s) y (nI n) z5 else fX9_twin_B70 (nI t) (nI s) y (nI n) 1 z5) else fX9_twin_B69 (nI t) (nI s) y (nI n) b := by
    intro b u1 u2 u3 u4
    rw [fX9_twin, is_task0 u1 hnt ht, zb_some, if_neg r10, s9, zb_some, if_neg r10, ix, zg_t, cl, u2, it, zg_t, zg_t, ct, u3, u4, nI_shl (by omega)]
    by_cases c : so = none
    · rw [if_pos ((oi_mis p3).mpr c), if_pos c]
    · rw [if_neg (fun q => c ((oi_mis p3).mp q)), if_neg c]
  by_cases c1 : so = none
  · exact Ok_eq (-11) Q (by rw [g8, if_pos c1]) (by rw [g9 z ht9 p2 z3 T2.1.2.1, if_pos c1])
  rw [if_neg c1] at g8
  have b0 : ∀ b : zk_Z, fX9_twin_B175 (nI t) (nI s) y (nI n) 0 b = some (-2, b) := fun b => by rw [fX9_twin_B175, if_pos rfl]
  have b69 : ∀ b : zk_Z, fX9_twin_B69 (nI t) (nI s) y (nI n) b = some (-2, b) := fun b => by
    rw [fX9_twin_B69, fX9_twin_B70, show zk_FU = 5999 + 1 from rfl, or9_0, b0]
  rcases rowc hn y with ⟨tw, htw, rfl, r8, r9⟩ | ⟨_, r8, r9⟩
  rotate_left
  · refine Ok_eq (-2) Q (by rw [g8, r8, zb_some, if_pos rfl]) ?_
    rw [g9 z ht9 p2 z3 T2.1.2.1, if_neg c1, r9, zb_some, if_pos rfl, b69]
    split <;> rfl
  rw [r8, zb_some, if_neg r10, T1.1.2.1] at g8
  have k9 : ∀ b : zk_Z, b.1 20 0 8 = nI nt → b.1 39 0 s = oi so → b.1 40 0 s = nI sz → b.1 28 0 t = nI n → fX9_twin (nI t) (nI s) (nI tw) b = if sz = n then fX9_twin_L78 zk_FU (nI t) (nI s) (nI tw) (nI n) 1 (nI 0) (nI 0) b else some (-2, b) := by
    intro b u1 u2 u3 u4
    rw [g9 b u1 u2 u3 u4, if_neg c1, r9, zb_some, if_neg r10, b69]
    by_cases c : sz = n
    · rw [if_pos (by rw [c]), if_pos c]; rfl
    · rw [if_neg (ne_nI (by omega) (by omega) c), if_neg c]
  by_cases hok : ∀ j, j < sz → okc n (z.1 14 s j)
  rotate_left
  · have h8 := or8_bad hn z1 z2 sz zk_FU 0 (nI 0) (by omega) (by show sz < 6000; omega) (fun h => hok (fun j hj => h j (Nat.zero_le _) hj))
    refine Ok_eq (-2) Q ?_ ?_
    · rw [g8, show fX5_isOrderOf s (nI n) z = some (0, z) from h8, zb_some, if_pos rfl]
    · rw [k9 z ht9 p2 z3 T2.1.2.1]
      by_cases c : sz = n
      · rw [if_pos c, or9_bad hs hn hc n zk_FU 0 0 (by omega) (by show n + 1 < 6000; omega) (Nat.two_pow_pos n) (fun h => hok (fun j hj => h j (Nat.zero_le _) (by omega))), b0]
      · rw [if_neg c]
  have hv : ∃ v : Nat → Nat, ∀ j, j < sz → z.1 14 s j = nI (v j) ∧ v j < n := by
    have h : ∀ j, ∃ q, j < sz → z.1 14 s j = nI q ∧ q < n := by
      intro j
      by_cases hj : j < sz
      · obtain ⟨q, h1, h2⟩ := hok j hj; exact ⟨q, fun _ => ⟨h2, h1⟩⟩
      · exact ⟨0, fun h => absurd h hj⟩
    exact ⟨fun j => (h j).choose, fun j hj => (h j).choose_spec hj⟩
  obtain ⟨v, hv⟩ := hv
  have h8 := or8_L hn z1 z2 hv sz zk_FU 0 0 (by omega) (by show sz < 6000; omega)
  have h8' : fX5_isOrderOf s (nI n) z = if nI sz = nI n then if nI (orF v sz 0 0) = nI (2 ^ n) - 1 then some (1, z) else some (0, z) else some (0, z) := h8
  by_cases c2 : sz = n
  rotate_left
  · refine Ok_eq (-2) Q ?_ (by rw [k9 z ht9 p2 z3 T2.1.2.1, if_neg c2])
    rw [g8, h8', if_neg (ne_nI (by omega) (by omega) c2), zb_some, if_pos rfl]
  subst c2
  have hvn : ∀ j, j < sz → v j < sz := fun j hj => (hv j hj).2
  have hp1 : nI (2 ^ sz) - 1 = nI (2 ^ sz - 1) := pk_sub (b := 1) (Nat.two_pow_pos sz)
  have holt := orF_lt (v := v) (n := sz) sz 0 0 (fun j _ h => hvn j (by omega)) (Nat.two_pow_pos sz)
  rw [if_pos rfl, hp1] at h8'
  have k9' : ∀ b : zk_Z, b.1 20 0 8 = nI nt → b.1 39 0 s = oi so → b.1 40 0 s = nI sz → b.1 28 0 t = nI sz → (∀ i, i < 40 → b.1 41 0 (40 * s + i) = z.1 14 s i) → fX9_twin (nI t) (nI s) (nI tw) b = fX9_twin_B175 (nI t) (nI s) (nI tw) (nI sz) (if gdB v sz 0 0 = true then 1 else 0) b := by
    intro b u1 u2 u3 u4 u5
    rw [k9 b u1 u2 u3 u4, if_pos rfl]
    exact or9_L hs hn u5 hv sz zk_FU 0 0 (by omega) (by show sz + 1 < 6000; omega) (Nat.two_pow_pos sz)
  by_cases hg : gdB v sz 0 0 = true
  rotate_left
  · refine Ok_eq (-2) Q ?_ (by rw [k9' z ht9 p2 z3 T2.1.2.1 hc, if_neg hg, b0])
    rw [g8, h8', if_neg (fun q => hg ((ord_iff hvn).mp (nI_inj (by omega) (by omega) q))), zb_some, if_pos rfl]
  rw [if_pos (by rw [(ord_iff hvn).mpr hg])] at h8'
  have hinj : ∀ j k, j < k → k < sz → v j ≠ v k := fun j k h1 h2 => (gdB_inj sz 0 0 hg).2 j k (Nat.zero_le _) h1 (by omega)
  rw [h8', zb_some, if_neg r10, ht8] at g8
  by_cases h88 : nt = 8
  · refine Ok_eq (-4) Q (by rw [g8, if_neg (by rw [show (8 : Int32) = nI 8 from rfl, nI_ltI (by omega) (by decide)]; omega)]) ?_
    rw [k9' z ht9 p2 z3 T2.1.2.1 hc, if_pos hg, fX9_twin_B175, if_neg r10, ht9, if_pos (by rw [h88]; rfl)]
  have ebg : fX7_begin nt (nI kd) (nI sz) z = some ((), bgZ z nt (nI kd) (nI sz)) := rfl
  rw [if_pos (by rw [show (8 : Int32) = nI 8 from rfl, nI_ltI (by omega) (by decide)]; omega), zx_nI (by omega) (by decide), zg_t, nI_clamp (by omega), T1.1.1, T1.1.2.1, ebg, zb_some] at g8
  have bv := bgZ_v z nt (nI kd) (nI sz)
  have T1' : TC (bgZ z nt (nI kd) (nI sz)) t kd sz C P A := TC_at (fun g k i q => bgZ_ne (by omega)) T1
  obtain ⟨u, w1, w2, w3, w3', w4, w5⟩ := tw8_L (s := s) (H := H) O hH htw hvn ht (show nt < 8 by omega) C zk_FU 0 (bgZ z nt (nI kd) (nI sz)) (by omega) (by show C < 6000; omega) T1' (by rw [bgZ_ne (by omega)]; exact q1) (by rw [bgZ_ne (by omega)]; exact z2) (fun j hj => by rw [bgZ_ne (by omega)]; exact (hv j hj).1) bv.2.2.1 bv.2.2.2.1 (by rw [bgZ_ne (by omega)]; exact ht8)
  have une : ∀ g k i, ¬ (((7 ≤ g ∧ g ≤ 9) ∧ k = nt) ∨ (g = 0 ∧ i = 12)) → u.1 g k i = z.1 g k i := fun g k i hg => by rw [w5 g k i (by omega), bgZ_ne (by omega)]
  have u8 : u.1 20 0 8 = nI nt := by rw [une 20 0 8 (by omega)]; exact ht9
  have T2' : TM u t kd sz C P A := TM_at h24 (fun g k i q => une g k i (by omega)) T2
  have ucell : ∀ i, i < 40 → u.1 41 0 (40 * s + i) = z.1 14 s i := fun i hi => by rw [une 41 0 (40 * s + i) (by omega)]; exact hc i hi
  have uv : ∀ j, j < sz → u.1 41 0 (40 * s + j) = nI (v j) := fun j hj => by rw [ucell j (by omega)]; exact (hv j hj).1
  have vv := btZ_v u nt kd sz C (oi (hT v sz tw H))
  obtain ⟨b, x1, x2, x4, x5⟩ := tw9_L (s := s) hs O htw hvn ht (show nt < 8 by omega) C zk_FU 0 (btZ u nt kd sz C (oi (hT v sz tw H))) (by omega) (by show C < 6000; omega) (TM_at h24 (fun g k i q => btZ_ne (by omega)) T2') (fun j hj => by rw [btZ_ne (by omega)]; exact uv j hj) (by rw [btZ_ne (by omega)]; exact u8)
  have vne : ∀ g k i, ¬ (((27 ≤ g ∧ g ≤ 32) ∧ i = nt) ∨ ((g = 33 ∨ g = 34) ∧ 24 * nt ≤ i ∧ i < 24 * nt + 24) ∨ (g = 20 ∧ i = 8)) → b.1 g k i = u.1 g k i := fun g k i hg => by rw [x5 g k i (by omega), btZ_ne (by omega)]
  refine ⟨nI nt, u, b, g8.trans w1, ?_, nt + 1, nr, nk, tp, Rl_task R (by omega) (fun g k i hg => by rw [vne g k i (by omega), une g k i (by omega)]) (by rw [vne 0 0 12 (by omega)]; exact w2) x2 ?_⟩
  · rw [k9' u u8 (by rw [une 39 0 s (by omega)]; exact p2) (by rw [une 40 0 s (by omega)]; exact z3) T2'.1.2.1 ucell, if_pos hg]
    refine (tw9_B (H := H) hs O hH hvn ht (by omega) T2' (by rw [une 30 0 t (by omega)]; exact q2) uv u8).trans ?_
    exact x1
  · have G7 : ∀ g k i, ((7 ≤ g ∧ g ≤ 9) ∧ k = nt) → b.1 g k i = u.1 g k i := fun g k i hg => vne g k i (by omega)
    have U7 : ∀ i, i ≠ 2 → i ≠ 3 → u.1 7 nt i = (bgZ z nt (nI kd) (nI sz)).1 7 nt i := fun i h1 h2 => w5 7 nt i (by omega)
    have V9 : ∀ g, 27 ≤ g ∧ g ≤ 32 → b.1 g 0 nt = (btZ u nt kd sz C (oi (hT v sz tw H))).1 g 0 nt := fun g hg => x5 g 0 nt (by omega)
    refine ⟨kd, sz, C, fun i => twP tw (mvB v sz (P i)) (mvB v sz (A i)), fun i => twP tw (mvB v sz (A i)) (mvB v sz (P i)), hT v sz tw H, ⟨⟨?_, ?_, ?_⟩, fun i hi => ⟨?_, ?_⟩⟩, ⟨⟨?_, ?_, ?_⟩, fun i hi => ⟨?_, ?_⟩⟩, ⟨O.1, fun i hi => ?_⟩, fun h e => ?_, ⟨?_, ?_⟩, ?_, ?_⟩
    · rw [G7 7 nt 0 (by omega), U7 0 (by omega) (by omega)]; exact bv.1
    · rw [G7 7 nt 1 (by omega), U7 1 (by omega) (by omega)]; exact bv.2.1
    · rw [G7 7 nt 2 (by omega)]; exact w3
    · rw [G7 8 nt i (by omega)]; exact (w4 i (Nat.zero_le _) hi).1
    · rw [G7 9 nt i (by omega)]; exact (w4 i (Nat.zero_le _) hi).2
    · rw [V9 27 (by omega)]; exact vv.1
    · rw [V9 28 (by omega)]; exact vv.2.1
    · rw [V9 29 (by omega)]; exact vv.2.2.1
    · exact (x4 i (Nat.zero_le _) hi).1
    · exact (x4 i (Nat.zero_le _) hi).2
    · have hci := O.2 i hi
      exact tw_ok hn hvn hinj hci.1.1 hci.1.2 hci.2.1 hci.2.2
    · cases hq : H with
      | none => rw [hq] at e; cases e
      | some h0 =>
        rw [hq] at e
        have e' : mvB v sz h0 ^^^ tw = h := Option.some.inj e
        rw [← e']
        exact Nat.xor_lt_two_pow (mvB_lt hvn) htw
    · rw [G7 7 nt 3 (by omega)]; exact w3'
    · rw [V9 30 (by omega)]; exact vv.2.2.2.1
    · rw [V9 31 (by omega), G7 7 nt 4 (by omega), U7 4 (by omega) (by omega), vv.2.2.2.2.1, bv.2.2.2.2.1]
    · rw [V9 32 (by omega), G7 7 nt 5 (by omega), U7 5 (by omega) (by omega), vv.2.2.2.2.2, bv.2.2.2.2.2]
