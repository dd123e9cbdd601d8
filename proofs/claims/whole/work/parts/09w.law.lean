/-! the law's loop: one call behind another -/
theorem i7 {i : Nat} (j : Int32) (q L : Nat) (hj : j = nI q) (h : i + q < L) (hL : L ≤ 3584) : zk_ix (nI i + j) L = true := by rw [hj, nI_add]; exact zx_nI h (by omega)
theorem p7 (i : Nat) : nI i + 7 = nI (i + 7) := by rw [show (7 : Int32) = nI 7 from rfl, nI_add]
theorem st_feed {xs : Nat → Int32} {L i : Nat} {z : zk_Z} {nt nr nk tp : Nat} (R : Rl z nt nr nk tp) (hL : L ≤ 3584) (hi : i + 7 ≤ L) : ∃ z2, Rx z2 ∧ ∀ c, fL_law_B180 xs L c (nI i) z = c (nI (i + 7)) z2 := by
  obtain ⟨r, z1, z2, h1, h2, Q⟩ := ok_feed R ((((xs (nI i + 1).toNatClampNeg).toInt64) <<< ((32 : Int32).toInt64 &&& 63)) ||| (((xs (nI i + 2).toNatClampNeg).toInt64) &&& 4294967295)) (xs (nI i + 3).toNatClampNeg)
  exact ⟨z2, Q, fun c => by rw [fL_law_B180, i7 1 1 L rfl (by omega) hL, i7 2 2 L rfl (by omega) hL, i7 3 3 L rfl (by omega) hL, zg_t, zg_t, zg_t, h1, zb_some, zg_t, zg_t, zg_t, h2, zb_some, if_pos rfl, fL_law_B1433, p7]⟩
theorem st_recipe {xs : Nat → Int32} {L i : Nat} {z : zk_Z} {nt nr nk tp : Nat} (R : Rl z nt nr nk tp) (hL : L ≤ 3584) (hi : i + 7 ≤ L) : ∃ z2, Rx z2 ∧ ∀ c, fL_law_B243 xs L c (nI i) z = c (nI (i + 7)) z2 := by
  obtain ⟨r, z1, z2, h1, h2, Q⟩ := ok_recipe R 
  exact ⟨z2, Q, fun c => by rw [fL_law_B243, h1, zb_some, h2, zb_some, if_pos rfl, fL_law_B1433, p7]⟩
theorem st_recipeTold {xs : Nat → Int32} {L i : Nat} {z : zk_Z} {nt nr nk tp : Nat} (R : Rl z nt nr nk tp) (hL : L ≤ 3584) (hi : i + 7 ≤ L) : ∃ z2, Rx z2 ∧ ∀ c, fL_law_B256 xs L c (nI i) z = c (nI (i + 7)) z2 := by
  obtain ⟨r, z1, z2, h1, h2, Q⟩ := ok_recipeTold R (xs (nI i + 1).toNatClampNeg) (xs (nI i + 2).toNatClampNeg)
  exact ⟨z2, Q, fun c => by rw [fL_law_B256, i7 1 1 L rfl (by omega) hL, i7 2 2 L rfl (by omega) hL, zg_t, zg_t, h1, zb_some, zg_t, zg_t, h2, zb_some, if_pos rfl, fL_law_B1433, p7]⟩
theorem st_make {xs : Nat → Int32} {L i : Nat} {z : zk_Z} {nt nr nk tp : Nat} (R : Rl z nt nr nk tp) (hL : L ≤ 3584) (hi : i + 7 ≤ L) : ∃ z2, Rx z2 ∧ ∀ c, fL_law_B289 xs L c (nI i) z = c (nI (i + 7)) z2 := by
  obtain ⟨r, z1, z2, h1, h2, Q⟩ := ok_make R (xs (nI i + 1).toNatClampNeg) (xs (nI i + 2).toNatClampNeg)
  exact ⟨z2, Q, fun c => by rw [fL_law_B289, i7 1 1 L rfl (by omega) hL, i7 2 2 L rfl (by omega) hL, zg_t, zg_t, h1, zb_some, zg_t, zg_t, h2, zb_some, if_pos rfl, fL_law_B1433, p7]⟩
theorem st_wild {xs : Nat → Int32} {L i : Nat} {z : zk_Z} {nt nr nk tp : Nat} (R : Rl z nt nr nk tp) (hL : L ≤ 3584) (hi : i + 7 ≤ L) : ∃ z2, Rx z2 ∧ ∀ c, fL_law_B322 xs L c (nI i) z = c (nI (i + 7)) z2 := by
  obtain ⟨r, z1, z2, h1, h2, Q⟩ := ok_wild R (xs (nI i + 1).toNatClampNeg) (xs (nI i + 2).toNatClampNeg) (xs (nI i + 3).toNatClampNeg)
  exact ⟨z2, Q, fun c => by rw [fL_law_B322, i7 1 1 L rfl (by omega) hL, i7 2 2 L rfl (by omega) hL, i7 3 3 L rfl (by omega) hL, zg_t, zg_t, zg_t, h1, zb_some, zg_t, zg_t, zg_t, h2, zb_some, if_pos rfl, fL_law_B1433, p7]⟩
theorem st_taskTold {xs : Nat → Int32} {L i : Nat} {z : zk_Z} {nt nr nk tp : Nat} (R : Rl z nt nr nk tp) (hL : L ≤ 3584) (hi : i + 7 ≤ L) : ∃ z2, Rx z2 ∧ ∀ c, fL_law_B365 xs L c (nI i) z = c (nI (i + 7)) z2 := by
  obtain ⟨r, z1, z2, h1, h2, Q⟩ := ok_taskTold R (xs (nI i + 1).toNatClampNeg) (xs (nI i + 2).toNatClampNeg)
  exact ⟨z2, Q, fun c => by rw [fL_law_B365, i7 1 1 L rfl (by omega) hL, i7 2 2 L rfl (by omega) hL, zg_t, zg_t, h1, zb_some, zg_t, zg_t, h2, zb_some, if_pos rfl, fL_law_B1433, p7]⟩
theorem st_clauseTold {xs : Nat → Int32} {L i : Nat} {z : zk_Z} {nt nr nk tp : Nat} (R : Rl z nt nr nk tp) (hL : L ≤ 3584) (hi : i + 7 ≤ L) : ∃ z2, Rx z2 ∧ ∀ c, fL_law_B398 xs L c (nI i) z = c (nI (i + 7)) z2 := by
  obtain ⟨r, z1, z2, h1, h2, Q⟩ := ok_clauseTold R (xs (nI i + 1).toNatClampNeg) (xs (nI i + 2).toNatClampNeg) (xs (nI i + 3).toNatClampNeg)
  exact ⟨z2, Q, fun c => by rw [fL_law_B398, i7 1 1 L rfl (by omega) hL, i7 2 2 L rfl (by omega) hL, i7 3 3 L rfl (by omega) hL, zg_t, zg_t, zg_t, h1, zb_some, zg_t, zg_t, zg_t, h2, zb_some, if_pos rfl, fL_law_B1433, p7]⟩
theorem st_solves {xs : Nat → Int32} {L i : Nat} {z : zk_Z} {nt nr nk tp : Nat} (R : Rl z nt nr nk tp) (hL : L ≤ 3584) (hi : i + 7 ≤ L) : ∃ z2, Rx z2 ∧ ∀ c, fL_law_B441 xs L c (nI i) z = c (nI (i + 7)) z2 := by
  obtain ⟨r, z1, z2, h1, h2, Q⟩ := ok_solves R (xs (nI i + 1).toNatClampNeg) (xs (nI i + 2).toNatClampNeg)
  exact ⟨z2, Q, fun c => by rw [fL_law_B441, i7 1 1 L rfl (by omega) hL, i7 2 2 L rfl (by omega) hL, zg_t, zg_t, h1, zb_some, zg_t, zg_t, h2, zb_some, if_pos rfl, fL_law_B1433, p7]⟩
theorem st_answers {xs : Nat → Int32} {L i : Nat} {z : zk_Z} {nt nr nk tp : Nat} (R : Rl z nt nr nk tp) (hL : L ≤ 3584) (hi : i + 7 ≤ L) : ∃ z2, Rx z2 ∧ ∀ c, fL_law_B474 xs L c (nI i) z = c (nI (i + 7)) z2 := by
  obtain ⟨r, z1, z2, h1, h2, Q⟩ := ok_answers R (xs (nI i + 1).toNatClampNeg) (xs (nI i + 2).toNatClampNeg) (xs (nI i + 3).toNatClampNeg)
  exact ⟨z2, Q, fun c => by rw [fL_law_B474, i7 1 1 L rfl (by omega) hL, i7 2 2 L rfl (by omega) hL, i7 3 3 L rfl (by omega) hL, zg_t, zg_t, zg_t, h1, zb_some, zg_t, zg_t, zg_t, h2, zb_some, if_pos rfl, fL_law_B1433, p7]⟩
theorem st_answer {xs : Nat → Int32} {L i : Nat} {z : zk_Z} {nt nr nk tp : Nat} (R : Rl z nt nr nk tp) (hL : L ≤ 3584) (hi : i + 7 ≤ L) : ∃ z2, Rx z2 ∧ ∀ c, fL_law_B517 xs L c (nI i) z = c (nI (i + 7)) z2 := by
  obtain ⟨r, z1, z2, h1, h2, Q⟩ := ok_answer R (xs (nI i + 1).toNatClampNeg) (xs (nI i + 2).toNatClampNeg)
  exact ⟨z2, Q, fun c => by rw [fL_law_B517, i7 1 1 L rfl (by omega) hL, i7 2 2 L rfl (by omega) hL, zg_t, zg_t, h1, zb_some, zg_t, zg_t, h2, zb_some, if_pos rfl, fL_law_B1433, p7]⟩
theorem st_nearest {xs : Nat → Int32} {L i : Nat} {z : zk_Z} {nt nr nk tp : Nat} (R : Rl z nt nr nk tp) (hL : L ≤ 3584) (hi : i + 7 ≤ L) : ∃ z2, Rx z2 ∧ ∀ c, fL_law_B550 xs L c (nI i) z = c (nI (i + 7)) z2 := by
  obtain ⟨r, z1, z2, h1, h2, Q⟩ := ok_nearest R (xs (nI i + 1).toNatClampNeg) (xs (nI i + 2).toNatClampNeg)
  exact ⟨z2, Q, fun c => by rw [fL_law_B550, i7 1 1 L rfl (by omega) hL, i7 2 2 L rfl (by omega) hL, zg_t, zg_t, h1, zb_some, zg_t, zg_t, h2, zb_some, if_pos rfl, fL_law_B1433, p7]⟩
theorem st_hint {xs : Nat → Int32} {L i : Nat} {z : zk_Z} {nt nr nk tp : Nat} (R : Rl z nt nr nk tp) (hL : L ≤ 3584) (hi : i + 7 ≤ L) : ∃ z2, Rx z2 ∧ ∀ c, fL_law_B583 xs L c (nI i) z = c (nI (i + 7)) z2 := by
  obtain ⟨r, z1, z2, h1, h2, Q⟩ := ok_hint R (xs (nI i + 1).toNatClampNeg)
  exact ⟨z2, Q, fun c => by rw [fL_law_B583, i7 1 1 L rfl (by omega) hL, zg_t, h1, zb_some, zg_t, h2, zb_some, if_pos rfl, fL_law_B1433, p7]⟩
theorem st_needed {xs : Nat → Int32} {L i : Nat} {z : zk_Z} {nt nr nk tp : Nat} (R : Rl z nt nr nk tp) (hL : L ≤ 3584) (hi : i + 7 ≤ L) : ∃ z2, Rx z2 ∧ ∀ c, fL_law_B606 xs L c (nI i) z = c (nI (i + 7)) z2 := by
  obtain ⟨r, z1, z2, h1, h2, Q⟩ := ok_needed R (xs (nI i + 1).toNatClampNeg)
  exact ⟨z2, Q, fun c => by rw [fL_law_B606, i7 1 1 L rfl (by omega) hL, zg_t, h1, zb_some, zg_t, h2, zb_some, if_pos rfl, fL_law_B1433, p7]⟩
theorem st_lean {xs : Nat → Int32} {L i : Nat} {z : zk_Z} {nt nr nk tp : Nat} (R : Rl z nt nr nk tp) (hL : L ≤ 3584) (hi : i + 7 ≤ L) : ∃ z2, Rx z2 ∧ ∀ c, fL_law_B629 xs L c (nI i) z = c (nI (i + 7)) z2 := by
  obtain ⟨r, z1, z2, h1, h2, Q⟩ := ok_lean R (xs (nI i + 1).toNatClampNeg) (xs (nI i + 2).toNatClampNeg)
  exact ⟨z2, Q, fun c => by rw [fL_law_B629, i7 1 1 L rfl (by omega) hL, i7 2 2 L rfl (by omega) hL, zg_t, zg_t, h1, zb_some, zg_t, zg_t, h2, zb_some, if_pos rfl, fL_law_B1433, p7]⟩
theorem st_leans {xs : Nat → Int32} {L i : Nat} {z : zk_Z} {nt nr nk tp : Nat} (R : Rl z nt nr nk tp) (hL : L ≤ 3584) (hi : i + 7 ≤ L) : ∃ z2, Rx z2 ∧ ∀ c, fL_law_B662 xs L c (nI i) z = c (nI (i + 7)) z2 := by
  obtain ⟨r, z1, z2, h1, h2, Q⟩ := ok_leans R (xs (nI i + 1).toNatClampNeg) (xs (nI i + 2).toNatClampNeg)
  exact ⟨z2, Q, fun c => by rw [fL_law_B662, i7 1 1 L rfl (by omega) hL, i7 2 2 L rfl (by omega) hL, zg_t, zg_t, h1, zb_some, zg_t, zg_t, h2, zb_some, if_pos ((lg_cmp_eq r r).mpr rfl), fL_law_B1433, p7]⟩
theorem st_pairs {xs : Nat → Int32} {L i : Nat} {z : zk_Z} {nt nr nk tp : Nat} (R : Rl z nt nr nk tp) (hL : L ≤ 3584) (hi : i + 7 ≤ L) : ∃ z2, Rx z2 ∧ ∀ c, fL_law_B696 xs L c (nI i) z = c (nI (i + 7)) z2 := by
  obtain ⟨r, z1, z2, h1, h2, Q⟩ := ok_pairs R (xs (nI i + 1).toNatClampNeg) (xs (nI i + 2).toNatClampNeg)
  exact ⟨z2, Q, fun c => by rw [fL_law_B696, i7 1 1 L rfl (by omega) hL, i7 2 2 L rfl (by omega) hL, zg_t, zg_t, h1, zb_some, zg_t, zg_t, h2, zb_some, if_pos ((lg_cmp_eq r r).mpr rfl), fL_law_B1433, p7]⟩
theorem st_balance {xs : Nat → Int32} {L i : Nat} {z : zk_Z} {nt nr nk tp : Nat} (R : Rl z nt nr nk tp) (hL : L ≤ 3584) (hi : i + 7 ≤ L) : ∃ z2, Rx z2 ∧ ∀ c, fL_law_B730 xs L c (nI i) z = c (nI (i + 7)) z2 := by
  obtain ⟨r, z1, z2, h1, h2, Q⟩ := ok_balance R (xs (nI i + 1).toNatClampNeg)
  exact ⟨z2, Q, fun c => by rw [fL_law_B730, i7 1 1 L rfl (by omega) hL, zg_t, h1, zb_some, zg_t, h2, zb_some, if_pos rfl, fL_law_B1433, p7]⟩
theorem st_find {xs : Nat → Int32} {L i : Nat} {z : zk_Z} {nt nr nk tp : Nat} (R : Rl z nt nr nk tp) (hL : L ≤ 3584) (hi : i + 7 ≤ L) : ∃ z2, Rx z2 ∧ ∀ c, fL_law_B753 xs L c (nI i) z = c (nI (i + 7)) z2 := by
  obtain ⟨r, z1, z2, h1, h2, Q⟩ := ok_find R (xs (nI i + 1).toNatClampNeg) (xs (nI i + 2).toNatClampNeg) (xs (nI i + 3).toNatClampNeg) (xs (nI i + 4).toNatClampNeg)
  exact ⟨z2, Q, fun c => by rw [fL_law_B753, i7 1 1 L rfl (by omega) hL, i7 2 2 L rfl (by omega) hL, i7 3 3 L rfl (by omega) hL, i7 4 4 L rfl (by omega) hL, zg_t, zg_t, zg_t, zg_t, h1, zb_some, zg_t, zg_t, zg_t, zg_t, h2, zb_some, if_pos rfl, fL_law_B1433, p7]⟩
theorem st_heap {xs : Nat → Int32} {L i : Nat} {z : zk_Z} {nt nr nk tp : Nat} (R : Rl z nt nr nk tp) (hL : L ≤ 3584) (hi : i + 7 ≤ L) : ∃ z2, Rx z2 ∧ ∀ c, fL_law_B806 xs L c (nI i) z = c (nI (i + 7)) z2 := by
  obtain ⟨r, z1, z2, h1, h2, Q⟩ := ok_heap R (xs (nI i + 1).toNatClampNeg) (xs (nI i + 2).toNatClampNeg) (xs (nI i + 3).toNatClampNeg) (xs (nI i + 4).toNatClampNeg) (xs (nI i + 5).toNatClampNeg) (xs (nI i + 6).toNatClampNeg)
  exact ⟨z2, Q, fun c => by rw [fL_law_B806, i7 1 1 L rfl (by omega) hL, i7 2 2 L rfl (by omega) hL, i7 3 3 L rfl (by omega) hL, i7 4 4 L rfl (by omega) hL, i7 5 5 L rfl (by omega) hL, i7 6 6 L rfl (by omega) hL, zg_t, zg_t, zg_t, zg_t, zg_t, zg_t, h1, zb_some, zg_t, zg_t, zg_t, zg_t, zg_t, zg_t, h2, zb_some, if_pos rfl, fL_law_B1433, p7]⟩
theorem st_apart {xs : Nat → Int32} {L i : Nat} {z : zk_Z} {nt nr nk tp : Nat} (R : Rl z nt nr nk tp) (hL : L ≤ 3584) (hi : i + 7 ≤ L) : ∃ z2, Rx z2 ∧ ∀ c, fL_law_B881 xs L c (nI i) z = c (nI (i + 7)) z2 := by
  obtain ⟨r, z1, z2, h1, h2, Q⟩ := ok_apart R (xs (nI i + 1).toNatClampNeg) (xs (nI i + 2).toNatClampNeg) (xs (nI i + 3).toNatClampNeg) (xs (nI i + 4).toNatClampNeg) (xs (nI i + 5).toNatClampNeg)
  exact ⟨z2, Q, fun c => by rw [fL_law_B881, i7 1 1 L rfl (by omega) hL, i7 2 2 L rfl (by omega) hL, i7 3 3 L rfl (by omega) hL, i7 4 4 L rfl (by omega) hL, i7 5 5 L rfl (by omega) hL, zg_t, zg_t, zg_t, zg_t, zg_t, h1, zb_some, zg_t, zg_t, zg_t, zg_t, zg_t, h2, zb_some, if_pos rfl, fL_law_B1433, p7]⟩
theorem st_twin {xs : Nat → Int32} {L i : Nat} {z : zk_Z} {nt nr nk tp : Nat} (R : Rl z nt nr nk tp) (hL : L ≤ 3584) (hi : i + 7 ≤ L) : ∃ z2, Rx z2 ∧ ∀ c, fL_law_B944 xs L c (nI i) z = c (nI (i + 7)) z2 := by
  obtain ⟨r, z1, z2, h1, h2, Q⟩ := ok_twin R (xs (nI i + 1).toNatClampNeg) (xs (nI i + 2).toNatClampNeg) (xs (nI i + 3).toNatClampNeg)
  exact ⟨z2, Q, fun c => by rw [fL_law_B944, i7 1 1 L rfl (by omega) hL, i7 2 2 L rfl (by omega) hL, i7 3 3 L rfl (by omega) hL, zg_t, zg_t, zg_t, h1, zb_some, zg_t, zg_t, zg_t, h2, zb_some, if_pos rfl, fL_law_B1433, p7]⟩
theorem st_claim {xs : Nat → Int32} {L i : Nat} {z : zk_Z} {nt nr nk tp : Nat} (R : Rl z nt nr nk tp) (hL : L ≤ 3584) (hi : i + 7 ≤ L) : ∃ z2, Rx z2 ∧ ∀ c, fL_law_B987 xs L c (nI i) z = c (nI (i + 7)) z2 := by
  obtain ⟨r, z1, z2, h1, h2, Q⟩ := ok_claim R (xs (nI i + 1).toNatClampNeg) (xs (nI i + 2).toNatClampNeg)
  exact ⟨z2, Q, fun c => by rw [fL_law_B987, i7 1 1 L rfl (by omega) hL, i7 2 2 L rfl (by omega) hL, zg_t, zg_t, h1, zb_some, zg_t, zg_t, h2, zb_some, if_pos rfl, fL_law_B1433, p7]⟩
theorem st_tries {xs : Nat → Int32} {L i : Nat} {z : zk_Z} {nt nr nk tp : Nat} (R : Rl z nt nr nk tp) (hL : L ≤ 3584) (hi : i + 7 ≤ L) : ∃ z2, Rx z2 ∧ ∀ c, fL_law_B1020 xs L c (nI i) z = c (nI (i + 7)) z2 := by
  obtain ⟨r, z1, z2, h1, h2, Q⟩ := ok_tries R (xs (nI i + 1).toNatClampNeg) (xs (nI i + 2).toNatClampNeg)
  exact ⟨z2, Q, fun c => by rw [fL_law_B1020, i7 1 1 L rfl (by omega) hL, i7 2 2 L rfl (by omega) hL, zg_t, zg_t, h1, zb_some, zg_t, zg_t, h2, zb_some, if_pos rfl, fL_law_B1433, p7]⟩
theorem st_claimTold {xs : Nat → Int32} {L i : Nat} {z : zk_Z} {nt nr nk tp : Nat} (R : Rl z nt nr nk tp) (hL : L ≤ 3584) (hi : i + 7 ≤ L) : ∃ z2, Rx z2 ∧ ∀ c, fL_law_B1053 xs L c (nI i) z = c (nI (i + 7)) z2 := by
  obtain ⟨r, z1, z2, h1, h2, Q⟩ := ok_claimTold R (xs (nI i + 1).toNatClampNeg) (xs (nI i + 2).toNatClampNeg)
  exact ⟨z2, Q, fun c => by rw [fL_law_B1053, i7 1 1 L rfl (by omega) hL, i7 2 2 L rfl (by omega) hL, zg_t, zg_t, h1, zb_some, zg_t, zg_t, h2, zb_some, if_pos rfl, fL_law_B1433, p7]⟩
theorem st_kindTold {xs : Nat → Int32} {L i : Nat} {z : zk_Z} {nt nr nk tp : Nat} (R : Rl z nt nr nk tp) (hL : L ≤ 3584) (hi : i + 7 ≤ L) : ∃ z2, Rx z2 ∧ ∀ c, fL_law_B1086 xs L c (nI i) z = c (nI (i + 7)) z2 := by
  obtain ⟨r, z1, z2, h1, h2, Q⟩ := ok_kindTold ⟨_, _, _, _, R⟩ (xs (nI i + 1).toNatClampNeg) (xs (nI i + 2).toNatClampNeg) (xs (nI i + 3).toNatClampNeg) (xs (nI i + 4).toNatClampNeg)
  exact ⟨z2, Q, fun c => by rw [fL_law_B1086, i7 1 1 L rfl (by omega) hL, i7 2 2 L rfl (by omega) hL, i7 3 3 L rfl (by omega) hL, i7 4 4 L rfl (by omega) hL, zg_t, zg_t, zg_t, zg_t, h1, zb_some, zg_t, zg_t, zg_t, zg_t, h2, zb_some, if_pos rfl, fL_law_B1433, p7]⟩
theorem st_count {xs : Nat → Int32} {L i : Nat} {z : zk_Z} {nt nr nk tp : Nat} (R : Rl z nt nr nk tp) (hL : L ≤ 3584) (hi : i + 7 ≤ L) : ∃ z2, Rx z2 ∧ ∀ c, fL_law_B1139 xs L c (nI i) z = c (nI (i + 7)) z2 := by
  obtain ⟨r, z1, z2, h1, h2, Q⟩ := ok_count R (xs (nI i + 1).toNatClampNeg)
  exact ⟨z2, Q, fun c => by rw [fL_law_B1139, i7 1 1 L rfl (by omega) hL, zg_t, h1, zb_some, zg_t, h2, zb_some, if_pos rfl, fL_law_B1433, p7]⟩
theorem st_image {xs : Nat → Int32} {L i : Nat} {z : zk_Z} {nt nr nk tp : Nat} (R : Rl z nt nr nk tp) (hL : L ≤ 3584) (hi : i + 7 ≤ L) : ∃ z2, Rx z2 ∧ ∀ c, fL_law_B1162 xs L c (nI i) z = c (nI (i + 7)) z2 := by
  obtain ⟨r, z1, z2, h1, h2, Q⟩ := ok_image R 
  exact ⟨z2, Q, fun c => by rw [fL_law_B1162, h1, zb_some, h2, zb_some, if_pos rfl, fL_law_B1433, p7]⟩
theorem st_back {xs : Nat → Int32} {L i : Nat} {z : zk_Z} {nt nr nk tp : Nat} (R : Rl z nt nr nk tp) (hL : L ≤ 3584) (hi : i + 7 ≤ L) : ∃ z2, Rx z2 ∧ ∀ c, fL_law_B1175 xs L c (nI i) z = c (nI (i + 7)) z2 := by
  obtain ⟨r, z1, z2, h1, h2, Q⟩ := ok_back R 
  exact ⟨z2, Q, fun c => by rw [fL_law_B1175, h1, zb_some, h2, zb_some, if_pos rfl, fL_law_B1433, p7]⟩
theorem st_sheet {xs : Nat → Int32} {L i : Nat} {z : zk_Z} {nt nr nk tp : Nat} (R : Rl z nt nr nk tp) (hL : L ≤ 3584) (hi : i + 7 ≤ L) : ∃ z2, Rx z2 ∧ ∀ c, fL_law_B1188 xs L c (nI i) z = c (nI (i + 7)) z2 := by
  obtain ⟨r, z1, z2, h1, h2, Q⟩ := ok_sheet R (xs (nI i + 1).toNatClampNeg) (xs (nI i + 2).toNatClampNeg) (xs (nI i + 3).toNatClampNeg)
  exact ⟨z2, Q, fun c => by rw [fL_law_B1188, i7 1 1 L rfl (by omega) hL, i7 2 2 L rfl (by omega) hL, i7 3 3 L rfl (by omega) hL, zg_t, zg_t, zg_t, h1, zb_some, zg_t, zg_t, zg_t, h2, zb_some, if_pos rfl, fL_law_B1433, p7]⟩
theorem st_cell {xs : Nat → Int32} {L i : Nat} {z : zk_Z} {nt nr nk tp : Nat} (R : Rl z nt nr nk tp) (hL : L ≤ 3584) (hi : i + 7 ≤ L) : ∃ z2, Rx z2 ∧ ∀ c, fL_law_B1231 xs L c (nI i) z = c (nI (i + 7)) z2 := by
  obtain ⟨r, z1, z2, h1, h2, Q⟩ := ok_cell R (xs (nI i + 1).toNatClampNeg) (xs (nI i + 2).toNatClampNeg) (xs (nI i + 3).toNatClampNeg)
  exact ⟨z2, Q, fun c => by rw [fL_law_B1231, i7 1 1 L rfl (by omega) hL, i7 2 2 L rfl (by omega) hL, i7 3 3 L rfl (by omega) hL, zg_t, zg_t, zg_t, h1, zb_some, zg_t, zg_t, zg_t, h2, zb_some, if_pos rfl, fL_law_B1433, p7]⟩
theorem st_copy {xs : Nat → Int32} {L i : Nat} {z : zk_Z} {nt nr nk tp : Nat} (R : Rl z nt nr nk tp) (hL : L ≤ 3584) (hi : i + 7 ≤ L) : ∃ z2, Rx z2 ∧ ∀ c, fL_law_B1274 xs L c (nI i) z = c (nI (i + 7)) z2 := by
  obtain ⟨r, z1, z2, h1, h2, Q⟩ := ok_copy R (xs (nI i + 1).toNatClampNeg) (xs (nI i + 2).toNatClampNeg) (xs (nI i + 3).toNatClampNeg) (xs (nI i + 4).toNatClampNeg) (xs (nI i + 5).toNatClampNeg)
  exact ⟨z2, Q, fun c => by rw [fL_law_B1274, i7 1 1 L rfl (by omega) hL, i7 2 2 L rfl (by omega) hL, i7 3 3 L rfl (by omega) hL, i7 4 4 L rfl (by omega) hL, i7 5 5 L rfl (by omega) hL, zg_t, zg_t, zg_t, zg_t, zg_t, h1, zb_some, zg_t, zg_t, zg_t, zg_t, zg_t, h2, zb_some, if_pos rfl, fL_law_B1433, p7]⟩
theorem st_claims {xs : Nat → Int32} {L i : Nat} {z : zk_Z} {nt nr nk tp : Nat} (R : Rl z nt nr nk tp) (hL : L ≤ 3584) (hi : i + 7 ≤ L) : ∃ z2, Rx z2 ∧ ∀ c, fL_law_B1337 xs L c (nI i) z = c (nI (i + 7)) z2 := by
  obtain ⟨r, z1, z2, h1, h2, Q⟩ := ok_claims R (xs (nI i + 1).toNatClampNeg) (xs (nI i + 2).toNatClampNeg) (xs (nI i + 3).toNatClampNeg) (xs (nI i + 4).toNatClampNeg)
  exact ⟨z2, Q, fun c => by rw [fL_law_B1337, i7 1 1 L rfl (by omega) hL, i7 2 2 L rfl (by omega) hL, i7 3 3 L rfl (by omega) hL, i7 4 4 L rfl (by omega) hL, zg_t, zg_t, zg_t, zg_t, h1, zb_some, zg_t, zg_t, zg_t, zg_t, h2, zb_some, if_pos rfl, fL_law_B1433, p7]⟩
theorem st_taken {xs : Nat → Int32} {L i : Nat} {z : zk_Z} {nt nr nk tp : Nat} (R : Rl z nt nr nk tp) (hL : L ≤ 3584) (hi : i + 7 ≤ L) : ∃ z2, Rx z2 ∧ ∀ c, fL_law_B1390 xs L c (nI i) z = c (nI (i + 7)) z2 := by
  obtain ⟨r, z1, z2, h1, h2, Q⟩ := ok_taken R (xs (nI i + 1).toNatClampNeg) (xs (nI i + 2).toNatClampNeg) (xs (nI i + 3).toNatClampNeg)
  exact ⟨z2, Q, fun c => by rw [fL_law_B1390, i7 1 1 L rfl (by omega) hL, i7 2 2 L rfl (by omega) hL, i7 3 3 L rfl (by omega) hL, zg_t, zg_t, zg_t, h1, zb_some, zg_t, zg_t, zg_t, h2, zb_some, if_pos rfl, fL_law_B1433, p7]⟩
theorem law_s {xs : Nat → Int32} {L i n : Nat} {z : zk_Z} {nt nr nk tp : Nat} (R : Rl z nt nr nk tp) (hL : L ≤ 3584) (hi : i + 7 ≤ L) : ∃ z2, Rx z2 ∧ fL_law_L18 xs L (n + 1) (nI i) z = fL_law_L18 xs L n (nI (i + 7)) z2 := by
  have h0 : ¬ (Int32.ofNat L) - 7 < nI i := by
    show ¬ nI L - nI 7 < nI i
    rw [pk_sub (by omega), nI_ltI (by omega) (by omega)]; omega
  have ix : zk_ix (nI i) L = true := zx_nI (by omega) (by omega)
  rw [fL_law_L18, if_neg h0, ix, zg_t]
  by_cases h0 : (xs (nI i).toNatClampNeg) &&& 63 = 0
  · obtain ⟨z2, Q, h⟩ := st_feed (xs := xs) (L := L) (i := i) R hL hi
    exact ⟨z2, Q, by rw [if_pos h0, h]⟩
  rw [if_neg h0]
  by_cases h1 : (xs (nI i).toNatClampNeg) &&& 63 = 1
  · obtain ⟨z2, Q, h⟩ := st_recipe (xs := xs) (L := L) (i := i) R hL hi
    exact ⟨z2, Q, by rw [if_pos h1, h]⟩
  rw [if_neg h1]
  by_cases h2 : (xs (nI i).toNatClampNeg) &&& 63 = 2
  · obtain ⟨z2, Q, h⟩ := st_recipeTold (xs := xs) (L := L) (i := i) R hL hi
    exact ⟨z2, Q, by rw [if_pos h2, h]⟩
  rw [if_neg h2]
  by_cases h3 : (xs (nI i).toNatClampNeg) &&& 63 = 3
  · obtain ⟨z2, Q, h⟩ := st_make (xs := xs) (L := L) (i := i) R hL hi
    exact ⟨z2, Q, by rw [if_pos h3, h]⟩
  rw [if_neg h3]
  by_cases h4 : (xs (nI i).toNatClampNeg) &&& 63 = 4
  · obtain ⟨z2, Q, h⟩ := st_wild (xs := xs) (L := L) (i := i) R hL hi
    exact ⟨z2, Q, by rw [if_pos h4, h]⟩
  rw [if_neg h4]
  by_cases h5 : (xs (nI i).toNatClampNeg) &&& 63 = 5
  · obtain ⟨z2, Q, h⟩ := st_taskTold (xs := xs) (L := L) (i := i) R hL hi
    exact ⟨z2, Q, by rw [if_pos h5, h]⟩
  rw [if_neg h5]
  by_cases h6 : (xs (nI i).toNatClampNeg) &&& 63 = 6
  · obtain ⟨z2, Q, h⟩ := st_clauseTold (xs := xs) (L := L) (i := i) R hL hi
    exact ⟨z2, Q, by rw [if_pos h6, h]⟩
  rw [if_neg h6]
  by_cases h7 : (xs (nI i).toNatClampNeg) &&& 63 = 7
  · obtain ⟨z2, Q, h⟩ := st_solves (xs := xs) (L := L) (i := i) R hL hi
    exact ⟨z2, Q, by rw [if_pos h7, h]⟩
  rw [if_neg h7]
  by_cases h8 : (xs (nI i).toNatClampNeg) &&& 63 = 8
  · obtain ⟨z2, Q, h⟩ := st_answers (xs := xs) (L := L) (i := i) R hL hi
    exact ⟨z2, Q, by rw [if_pos h8, h]⟩
  rw [if_neg h8]
  by_cases h9 : (xs (nI i).toNatClampNeg) &&& 63 = 9
  · obtain ⟨z2, Q, h⟩ := st_answer (xs := xs) (L := L) (i := i) R hL hi
    exact ⟨z2, Q, by rw [if_pos h9, h]⟩
  rw [if_neg h9]
  by_cases h10 : (xs (nI i).toNatClampNeg) &&& 63 = 10
  · obtain ⟨z2, Q, h⟩ := st_nearest (xs := xs) (L := L) (i := i) R hL hi
    exact ⟨z2, Q, by rw [if_pos h10, h]⟩
  rw [if_neg h10]
  by_cases h11 : (xs (nI i).toNatClampNeg) &&& 63 = 11
  · obtain ⟨z2, Q, h⟩ := st_hint (xs := xs) (L := L) (i := i) R hL hi
    exact ⟨z2, Q, by rw [if_pos h11, h]⟩
  rw [if_neg h11]
  by_cases h12 : (xs (nI i).toNatClampNeg) &&& 63 = 12
  · obtain ⟨z2, Q, h⟩ := st_needed (xs := xs) (L := L) (i := i) R hL hi
    exact ⟨z2, Q, by rw [if_pos h12, h]⟩
  rw [if_neg h12]
  by_cases h13 : (xs (nI i).toNatClampNeg) &&& 63 = 13
  · obtain ⟨z2, Q, h⟩ := st_lean (xs := xs) (L := L) (i := i) R hL hi
    exact ⟨z2, Q, by rw [if_pos h13, h]⟩
  rw [if_neg h13]
  by_cases h14 : (xs (nI i).toNatClampNeg) &&& 63 = 14
  · obtain ⟨z2, Q, h⟩ := st_leans (xs := xs) (L := L) (i := i) R hL hi
    exact ⟨z2, Q, by rw [if_pos h14, h]⟩
  rw [if_neg h14]
  by_cases h15 : (xs (nI i).toNatClampNeg) &&& 63 = 15
  · obtain ⟨z2, Q, h⟩ := st_pairs (xs := xs) (L := L) (i := i) R hL hi
    exact ⟨z2, Q, by rw [if_pos h15, h]⟩
  rw [if_neg h15]
  by_cases h16 : (xs (nI i).toNatClampNeg) &&& 63 = 16
  · obtain ⟨z2, Q, h⟩ := st_balance (xs := xs) (L := L) (i := i) R hL hi
    exact ⟨z2, Q, by rw [if_pos h16, h]⟩
  rw [if_neg h16]
  by_cases h17 : (xs (nI i).toNatClampNeg) &&& 63 = 17
  · obtain ⟨z2, Q, h⟩ := st_find (xs := xs) (L := L) (i := i) R hL hi
    exact ⟨z2, Q, by rw [if_pos h17, h]⟩
  rw [if_neg h17]
  by_cases h18 : (xs (nI i).toNatClampNeg) &&& 63 = 18
  · obtain ⟨z2, Q, h⟩ := st_heap (xs := xs) (L := L) (i := i) R hL hi
    exact ⟨z2, Q, by rw [if_pos h18, h]⟩
  rw [if_neg h18]
  by_cases h19 : (xs (nI i).toNatClampNeg) &&& 63 = 19
  · obtain ⟨z2, Q, h⟩ := st_apart (xs := xs) (L := L) (i := i) R hL hi
    exact ⟨z2, Q, by rw [if_pos h19, h]⟩
  rw [if_neg h19]
  by_cases h20 : (xs (nI i).toNatClampNeg) &&& 63 = 20
  · obtain ⟨z2, Q, h⟩ := st_twin (xs := xs) (L := L) (i := i) R hL hi
    exact ⟨z2, Q, by rw [if_pos h20, h]⟩
  rw [if_neg h20]
  by_cases h21 : (xs (nI i).toNatClampNeg) &&& 63 = 21
  · obtain ⟨z2, Q, h⟩ := st_claim (xs := xs) (L := L) (i := i) R hL hi
    exact ⟨z2, Q, by rw [if_pos h21, h]⟩
  rw [if_neg h21]
  by_cases h22 : (xs (nI i).toNatClampNeg) &&& 63 = 22
  · obtain ⟨z2, Q, h⟩ := st_tries (xs := xs) (L := L) (i := i) R hL hi
    exact ⟨z2, Q, by rw [if_pos h22, h]⟩
  rw [if_neg h22]
  by_cases h23 : (xs (nI i).toNatClampNeg) &&& 63 = 23
  · obtain ⟨z2, Q, h⟩ := st_claimTold (xs := xs) (L := L) (i := i) R hL hi
    exact ⟨z2, Q, by rw [if_pos h23, h]⟩
  rw [if_neg h23]
  by_cases h24 : (xs (nI i).toNatClampNeg) &&& 63 = 24
  · obtain ⟨z2, Q, h⟩ := st_kindTold (xs := xs) (L := L) (i := i) R hL hi
    exact ⟨z2, Q, by rw [if_pos h24, h]⟩
  rw [if_neg h24]
  by_cases h25 : (xs (nI i).toNatClampNeg) &&& 63 = 25
  · obtain ⟨z2, Q, h⟩ := st_count (xs := xs) (L := L) (i := i) R hL hi
    exact ⟨z2, Q, by rw [if_pos h25, h]⟩
  rw [if_neg h25]
  by_cases h26 : (xs (nI i).toNatClampNeg) &&& 63 = 26
  · obtain ⟨z2, Q, h⟩ := st_image (xs := xs) (L := L) (i := i) R hL hi
    exact ⟨z2, Q, by rw [if_pos h26, h]⟩
  rw [if_neg h26]
  by_cases h27 : (xs (nI i).toNatClampNeg) &&& 63 = 27
  · obtain ⟨z2, Q, h⟩ := st_back (xs := xs) (L := L) (i := i) R hL hi
    exact ⟨z2, Q, by rw [if_pos h27, h]⟩
  rw [if_neg h27]
  by_cases h28 : (xs (nI i).toNatClampNeg) &&& 63 = 28
  · obtain ⟨z2, Q, h⟩ := st_sheet (xs := xs) (L := L) (i := i) R hL hi
    exact ⟨z2, Q, by rw [if_pos h28, h]⟩
  rw [if_neg h28]
  by_cases h29 : (xs (nI i).toNatClampNeg) &&& 63 = 29
  · obtain ⟨z2, Q, h⟩ := st_cell (xs := xs) (L := L) (i := i) R hL hi
    exact ⟨z2, Q, by rw [if_pos h29, h]⟩
  rw [if_neg h29]
  by_cases h30 : (xs (nI i).toNatClampNeg) &&& 63 = 30
  · obtain ⟨z2, Q, h⟩ := st_copy (xs := xs) (L := L) (i := i) R hL hi
    exact ⟨z2, Q, by rw [if_pos h30, h]⟩
  rw [if_neg h30]
  by_cases h31 : (xs (nI i).toNatClampNeg) &&& 63 = 31
  · obtain ⟨z2, Q, h⟩ := st_claims (xs := xs) (L := L) (i := i) R hL hi
    exact ⟨z2, Q, by rw [if_pos h31, h]⟩
  rw [if_neg h31]
  by_cases h32 : (xs (nI i).toNatClampNeg) &&& 63 = 32
  · obtain ⟨z2, Q, h⟩ := st_taken (xs := xs) (L := L) (i := i) R hL hi
    exact ⟨z2, Q, by rw [if_pos h32, h]⟩
  rw [if_neg h32]
  exact ⟨z, ⟨nt, nr, nk, tp, R⟩, by rw [fL_law_B1433, p7]⟩
theorem law_all {xs : Nat → Int32} {L : Nat} (hL : L ≤ 3584) : ∀ n i z, Rx z → L < i + 7 * (n + 1) → i ≤ 3600 → ∃ z', fL_law_L18 xs L (n + 1) (nI i) z = some (1, z') := by
  have stop : ∀ n i z, L < i + 7 → i ≤ 3600 → ∃ z', fL_law_L18 xs L (n + 1) (nI i) z = some (1, z') := by
    intro n i z h hi
    refine ⟨z, ?_⟩
    have h0 : (Int32.ofNat L) - 7 < nI i := by
      show nI L - nI 7 < nI i
      rw [Int32.lt_iff_toInt_lt, pk_sub_toInt (by omega) (by decide), nI_toInt (by omega)]; omega
    rw [fL_law_L18, if_pos h0]
  intro n
  induction n with
  | zero => intro i z _ h hi; exact stop 0 i z (by omega) hi
  | succ n ih =>
    intro i z Q h hi
    by_cases c : L < i + 7
    · exact stop (n + 1) i z c hi
    · obtain ⟨nt, nr, nk, tp, R⟩ := Q
      obtain ⟨z2, Q2, e⟩ := law_s (xs := xs) (n := n + 1) R hL (show i + 7 ≤ L by omega)
      obtain ⟨z', e'⟩ := ih (i + 7) z2 Q2 (by omega) (by omega)
      exact ⟨z', e.trans e'⟩
theorem pure_main (xs : Nat → Int32) (L : Nat) (hL : L ≤ 3584) : ∃ (n : Nat) (z' : zk_Z), fL_law_L18 xs L n 0 zk_z0 = some (1, z') := by
  obtain ⟨z', e⟩ := law_all (xs := xs) hL 3584 0 zk_z0 ⟨0, 0, 0, 0, Rl_0⟩ (by omega) (by omega)
  exact ⟨_, z', e⟩

