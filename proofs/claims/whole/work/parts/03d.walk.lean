def fX9_worth_B30 (a0 : Int32) (a1 : Int32) (a3 : Int32) (z : zk_Z) : Option (Int32 × zk_Z) := if a0 = 5 then some (a3 + a1, z) else some (a3, z)
def fX9_worth_B14 (a0 : Int32) (a1 : Int32) (s0 : Int32) (z : zk_Z) : Option (Int32 × zk_Z) := if a0 = 3 then if a1 = 0 then some (s0 - 1, z) else fX9_worth_B30 a0 a1 s0 z else fX9_worth_B30 a0 a1 s0 z
def fX9_worth (x0 : Int32) (x1 : Int32) (x2 : Int32) (z : zk_Z) : Option (Int32 × zk_Z) := zk_bd (fX9_holds x0 x1 x2 z) (fun r2 z1 => if r2 = 0 then fX9_worth_B14 x0 x1 0 z1 else fX9_worth_B14 x0 x1 3 z1)
set_option maxRecDepth 100000 in
set_option maxHeartbeats 8000000 in
theorem ct_X9_worth (l : Launch) (E : zk_E) (hi : zk_inj E) (x0 : Int32) (x1 : Int32) (x2 : Int32) (z : zk_Z) (r : Int32) (z' : zk_Z) (h : fX9_worth  x0 x1 x2 z = some (r, z')) : Met l yX9_worth wsX9_worth { frames := 1, cells := 0, slots := 0, locals := 22 } (va_Pc [.int x0, .int x1, .int x2] (zk_W E z)) (zk_Qi E r z') 0 0 (zk_A E) := by
  refine zk_met (cc := cX9_worth) (maxL := 4) (ret := (some .int)) (own := RX9) (by decide) rfl rfl hi (Nat.le_of_ble_eq_true rfl) ?_
  intro p e s m args below meth c X hr
  have B30 : ∀ (a0 : Int32) (a1 : Int32) (a3 : Int32) (z : zk_Z), fX9_worth_B30 a0 a1 a3 z = some (r, z') → zk_G p l e (headSpec wsX9_worth { frames := 1, cells := 0, slots := 0, locals := 22 }).room s m args below meth c E 4 0 0 (MQ below (zk_Qi E r z') args s 0 0 (zk_A E)) 30 [(0, .int a0), (1, .int a1), (3, .int a3)] [] z := by
    intro a0 a1 a3 z h
    unfold fX9_worth_B30 at h
    refine zk_iload_n X 0 dX9_worth_30 rfl rfl ?_
    refine zk_iconst X (v := 5) dX9_worth_31 (by decide) ?_
    refine zk_icmp_ne X (tgt := 41) dX9_worth_32 (by decide) h (fun h => ?_) (fun h => ?_)
    · refine zk_iload_n X 2 dX9_worth_35 rfl rfl ?_
      refine zk_iload_n X 1 dX9_worth_36 rfl rfl ?_
      refine zk_iadd X dX9_worth_37 ?_
      refine zk_goto X (tgt := 42) dX9_worth_38 (by decide) ?_
      exact zk_ireturn X hr dX9_worth_42 h
    · refine zk_iload_n X 2 dX9_worth_41 rfl rfl ?_
      exact zk_ireturn X hr dX9_worth_42 h
  have B14 : ∀ (a0 : Int32) (a1 : Int32) (s0 : Int32) (z : zk_Z), fX9_worth_B14 a0 a1 s0 z = some (r, z') → zk_G p l e (headSpec wsX9_worth { frames := 1, cells := 0, slots := 0, locals := 22 }).room s m args below meth c E 4 0 0 (MQ below (zk_Qi E r z') args s 0 0 (zk_A E)) 14 [(0, .int a0), (1, .int a1)] [.int s0] z := by
    intro a0 a1 s0 z h
    unfold fX9_worth_B14 at h
    refine zk_istore_n X (lv' := [(3, .int s0), (0, .int a0), (1, .int a1)]) dX9_worth_14 rfl (by decide) rfl ?_
    refine zk_iload_n X 1 dX9_worth_15 rfl rfl ?_
    refine zk_iconst X (v := 3) dX9_worth_16 (by decide) ?_
    refine zk_icmp_ne X (tgt := 30) dX9_worth_17 (by decide) h (fun h => ?_) (fun h => ?_)
    · refine zk_iload_n X 2 dX9_worth_20 rfl rfl ?_
      refine zk_if_ne X (tgt := 30) dX9_worth_21 (by decide) h (fun h => ?_) (fun h => ?_)
      · refine zk_iload_n X 0 dX9_worth_24 rfl rfl ?_
        refine zk_iconst X (v := 1) dX9_worth_25 (by decide) ?_
        refine zk_isub X dX9_worth_26 ?_
        refine zk_goto X (tgt := 42) dX9_worth_27 (by decide) ?_
        exact zk_ireturn X hr dX9_worth_42 h
      · exact zk_sub [1, 2, 0] rfl (B30 _ _ _ _ h)
    · exact zk_sub [1, 2, 0] rfl (B30 _ _ _ _ h)
  unfold fX9_worth at h
  refine zk_iload_n X 0 dX9_worth_0 rfl rfl ?_
  refine zk_iload_n X 1 dX9_worth_1 rfl rfl ?_
  refine zk_iload_n X 2 dX9_worth_2 rfl rfl ?_
  refine zk_si X h (fun rr zz hf => ct_X9_holds l E hi  x0 x1 x2 _ rr zz hf) (va_cwS 3 X.1.2.2.2.2 gX9_worth_X9_holds rfl rfl rfl (by decide +kernel) ⟨Nat.le_of_ble_eq_true rfl, Nat.le_of_ble_eq_true rfl⟩) rfl rfl (Nat.le_of_ble_eq_true rfl) dX9_worth_3 (fun r2 z1 h => ?_)
  refine zk_if_eq X (tgt := 13) dX9_worth_6 (by decide) h (fun h => ?_) (fun h => ?_)
  · refine zk_iconst X (v := 0) dX9_worth_13 (by decide) ?_
    exact zk_sub [0, 1] rfl (B14  _ _ _ _ h)
  · refine zk_iconst X (v := 3) dX9_worth_9 (by decide) ?_
    refine zk_goto X (tgt := 14) dX9_worth_10 (by decide) ?_
    exact zk_sub [0, 1] rfl (B14  _ _ _ _ h)
def fX9_worthOf_L5 : Nat → Int32 → Int32 → Int32 → Int32 → zk_Z → Option (Int32 × zk_Z)
  | 0, _, _, _, _, _ => none
  | n + 1, a1, a2, a3, a4, z => zk_gd (zk_ix a1 9) (if (z.1 29 0 a1.toNatClampNeg) ≤ a4 then some (a3, z) else zk_gd (zk_ix a1 9) (zk_bd (fX9_is ((24 * a1) + a4) a2 z) (fun r2 z1 => zk_bd (fX9_wide ((24 * a1) + a4) z1) (fun r4 z3 => zk_bd (fX9_worth (z.1 27 0 a1.toNatClampNeg) r2 r4 z3) (fun r6 z5 => (fX9_worthOf_L5 n) a1 a2 (a3 + r6) (a4 + 1) z5)))))
def fX9_worthOf (x1 : Int32) (x2 : Int32) (z : zk_Z) : Option (Int32 × zk_Z) := fX9_worthOf_L5 zk_FU x1 x2 0 0 z
set_option maxRecDepth 100000 in
set_option maxHeartbeats 8000000 in
theorem ct_X9_worthOf (l : Launch) (E : zk_E) (hi : zk_inj E) (x1 : Int32) (x2 : Int32) (z : zk_Z) (r : Int32) (z' : zk_Z) (h : fX9_worthOf  x1 x2 z = some (r, z')) : Met l yX9_worthOf wsX9_worthOf { frames := 2, cells := 0, slots := 0, locals := 45 } (va_Pc [.ref (E.2.1 20 0), .int x1, .int x2] (zk_W E z)) (zk_Qi E r z') 0 0 (zk_A E) := by
  refine zk_met (cc := cX9_worthOf) (maxL := 5) (ret := (some .int)) (own := RX9) (by decide) rfl rfl hi (Nat.le_of_ble_eq_true rfl) ?_
  intro p e s m args below meth c X hr
  have iX9 : ∀ w ∈ u_ws RX9 TX9 32, w ∈ wsX9_worthOf := by decide +kernel
  have w0 : Cond.fieldLink RX9 34 "HiddenWorksModel" "clauses" "[I" ∈ wsX9_worthOf := by decide +kernel
  have w1 : Cond.fieldLink RX9 28 "HiddenWorksModel" "kind" "[I" ∈ wsX9_worthOf := by decide +kernel
  have L5 : ∀ (n : Nat) (a1 : Int32) (a2 : Int32) (a3 : Int32) (a4 : Int32) (z : zk_Z), fX9_worthOf_L5 n a1 a2 a3 a4 z = some (r, z') → zk_G p l e (headSpec wsX9_worthOf { frames := 2, cells := 0, slots := 0, locals := 45 }).room s m args below meth c E 5 0 0 (MQ below (zk_Qi E r z') args s 0 0 (zk_A E)) 5 [(0, .ref (E.2.1 20 0)), (1, .int a1), (2, .int a2), (3, .int a3), (4, .int a4)] [] z := by
    intro n
    induction n with
    | zero => intro a1 a2 a3 a4 z h; exact absurd h (by simp [fX9_worthOf_L5])
    | succ n ih =>
      intro a1 a2 a3 a4 z h
      rw [fX9_worthOf_L5] at h
      refine zk_iload X 4 dX9_worthOf_5 rfl ?_
      refine zk_aload_n X 0 dX9_worthOf_7 rfl rfl ?_
      refine zk_get X iX9 (g := 20) (Nat.zero_lt_one) rfl rfl 11 (by decide) w0 rfl dX9_worthOf_8 ?_
      refine zk_iload_n X 1 dX9_worthOf_11 rfl rfl ?_
      refine zk_iald X (g := 29) (Nat.zero_lt_one) rfl dX9_worthOf_12 h (fun h => ?_)
      refine zk_icmp_ge X (tgt := 57) dX9_worthOf_13 (by decide) h (fun h => ?_) (fun h => ?_)
      · refine zk_iload_n X 3 dX9_worthOf_57 rfl rfl ?_
        exact zk_ireturn X hr dX9_worthOf_58 h
      · refine zk_iload_n X 3 dX9_worthOf_16 rfl rfl ?_
        refine zk_aload_n X 0 dX9_worthOf_17 rfl rfl ?_
        refine zk_get X iX9 (g := 20) (Nat.zero_lt_one) rfl rfl 9 (by decide) w1 rfl dX9_worthOf_18 ?_
        refine zk_iload_n X 1 dX9_worthOf_21 rfl rfl ?_
        refine zk_iald X (g := 27) (Nat.zero_lt_one) rfl dX9_worthOf_22 h (fun h => ?_)
        refine zk_aload_n X 0 dX9_worthOf_23 rfl rfl ?_
        refine zk_bipush X (v := 24) dX9_worthOf_24 (by decide) ?_
        refine zk_iload_n X 1 dX9_worthOf_26 rfl rfl ?_
        refine zk_imul X dX9_worthOf_27 ?_
        refine zk_iload X 4 dX9_worthOf_28 rfl ?_
        refine zk_iadd X dX9_worthOf_30 ?_
        refine zk_iload_n X 2 dX9_worthOf_31 rfl rfl ?_
        refine zk_vi X h (fun rr zz hf => ct_X9_is l E hi ((24 * a1) + a4) a2 _ rr zz hf) (cwV 2 X.1.2.2.2.2 gX9_worthOf_X9_is rfl rfl rfl (by decide +kernel) ⟨Nat.le_of_ble_eq_true rfl, Nat.le_of_ble_eq_true rfl⟩) (zk_recv X (g := 20) (Nat.zero_lt_one) rfl rfl) rfl rfl (Nat.le_of_ble_eq_true rfl) dX9_worthOf_32 (fun r2 z1 h => ?_)
        refine zk_aload_n X 0 dX9_worthOf_35 rfl rfl ?_
        refine zk_bipush X (v := 24) dX9_worthOf_36 (by decide) ?_
        refine zk_iload_n X 1 dX9_worthOf_38 rfl rfl ?_
        refine zk_imul X dX9_worthOf_39 ?_
        refine zk_iload X 4 dX9_worthOf_40 rfl ?_
        refine zk_iadd X dX9_worthOf_42 ?_
        refine zk_vi X h (fun rr zz hf => ct_X9_wide l E hi ((24 * a1) + a4) _ rr zz hf) (cwV 1 X.1.2.2.2.2 gX9_worthOf_X9_wide rfl rfl rfl (by decide +kernel) ⟨Nat.le_of_ble_eq_true rfl, Nat.le_of_ble_eq_true rfl⟩) (zk_recv X (g := 20) (Nat.zero_lt_one) rfl rfl) rfl rfl (Nat.le_of_ble_eq_true rfl) dX9_worthOf_43 (fun r4 z3 h => ?_)
        refine zk_si X h (fun rr zz hf => ct_X9_worth l E hi (z.1 27 0 a1.toNatClampNeg) r2 r4 _ rr zz hf) (va_cwS 3 X.1.2.2.2.2 gX9_worthOf_X9_worth rfl rfl rfl (by decide +kernel) ⟨Nat.le_of_ble_eq_true rfl, Nat.le_of_ble_eq_true rfl⟩) rfl rfl (Nat.le_of_ble_eq_true rfl) dX9_worthOf_46 (fun r6 z5 h => ?_)
        refine zk_iadd X dX9_worthOf_49 ?_
        refine zk_istore_n X (lv' := [(3, .int (a3 + r6)), (0, .ref (E.2.1 20 0)), (1, .int a1), (2, .int a2), (4, .int a4)]) dX9_worthOf_50 rfl (by decide) rfl ?_
        refine zk_iinc X (lv' := [(4, .int (a4 + 1)), (3, .int (a3 + r6)), (0, .ref (E.2.1 20 0)), (1, .int a1), (2, .int a2)]) 4 dX9_worthOf_51 rfl rfl (by decide) rfl ?_
        refine zk_goto X (tgt := 5) dX9_worthOf_54 (by decide) ?_
        exact zk_sub [2, 3, 4, 1, 0] rfl (ih _ _ _ _ _ h)
  unfold fX9_worthOf at h
  refine zk_iconst X (v := 0) dX9_worthOf_0 (by decide) ?_
  refine zk_istore_n X (lv' := [(3, .int 0), (0, .ref (E.2.1 20 0)), (1, .int x1), (2, .int x2)]) dX9_worthOf_1 rfl (by decide) rfl ?_
  refine zk_iconst X (v := 0) dX9_worthOf_2 (by decide) ?_
  refine zk_istore X (lv' := [(4, .int 0), (3, .int 0), (0, .ref (E.2.1 20 0)), (1, .int x1), (2, .int x2)]) dX9_worthOf_3 (by decide) rfl ?_
  exact zk_sub [2, 3, 4, 1, 0] rfl (L5  _ _ _ _ _ _ h)
def fX9_climbs_B153 (c8 : Int32 → Int32 → Int32 → zk_Z → Option (Int32 × zk_Z)) (a1 : Int32) (a3 : Int32) (s0 : Int32) (z : zk_Z) : Option (Int32 × zk_Z) := c8 a1 a3 s0 z
def fX9_climbs_B109 (c8 : Int32 → Int32 → Int32 → zk_Z → Option (Int32 × zk_Z)) (c54 : Int32 → Int32 → Int32 → Int32 → Int32 → Int32 → zk_Z → Option (Int32 × zk_Z)) (a1 : Int32) (a3 : Int32) (a4 : Int32) (a5 : Int32) (a7 : Int32) (s0 : Int32) (z : zk_Z) : Option (Int32 × zk_Z) := c54 a1 a3 a4 a5 s0 (a7 + 1) z
def fX9_climbs_B93 (c8 : Int32 → Int32 → Int32 → zk_Z → Option (Int32 × zk_Z)) (c54 : Int32 → Int32 → Int32 → Int32 → Int32 → Int32 → zk_Z → Option (Int32 × zk_Z)) (a1 : Int32) (a3 : Int32) (a4 : Int32) (a6 : Int32) (a7 : Int32) (a8 : Int32) (s0 : Int32) (z : zk_Z) : Option (Int32 × zk_Z) := if a8 ≤ a6 then fX9_climbs_B109 c8 c54 a1 a3 a4 s0 a7 a6 z else fX9_climbs_B109 c8 c54 a1 a3 a4 s0 a7 a8 z
def fX9_climbs_L54 (c8 : Int32 → Int32 → Int32 → zk_Z → Option (Int32 × zk_Z)) : Nat → Int32 → Int32 → Int32 → Int32 → Int32 → Int32 → zk_Z → Option (Int32 × zk_Z)
  | 0, _, _, _, _, _, _, _ => none
  | n + 1, a1, a3, a4, a5, a6, a7, z => zk_gd (zk_ix a1 9) (if (z.1 28 0 a1.toNatClampNeg) ≤ a7 then if a5 = (-1) then zk_gd (zk_ix a1 9) (zk_gd (zk_nz ((1 : Int32) <<< ((z.1 28 0 a1.toNatClampNeg) &&& 31))) (fX9_climbs_B153 c8 a1 a3 ((((5 * a4) + 3) + (z.1 20 0 30)) - (((5 * a4) + 3) + (z.1 20 0 30)) / ((1 : Int32) <<< ((z.1 28 0 a1.toNatClampNeg) &&& 31)) * ((1 : Int32) <<< ((z.1 28 0 a1.toNatClampNeg) &&& 31))) z)) else fX9_climbs_B153 c8 a1 a3 (a4 ^^^ ((1 : Int32) <<< (a5 &&& 31))) z else zk_bd (fX9_worthOf a1 (a4 ^^^ ((1 : Int32) <<< (a7 &&& 31))) z) (fun r6 z5 => if r6 ≤ a6 then fX9_climbs_B93 c8 (fX9_climbs_L54 c8 n) a1 a3 a4 a6 a7 r6 a5 z5 else fX9_climbs_B93 c8 (fX9_climbs_L54 c8 n) a1 a3 a4 a6 a7 r6 a7 z5))
def fX9_climbs_L8 : Nat → Int32 → Int32 → Int32 → zk_Z → Option (Int32 × zk_Z)
  | 0, _, _, _, _ => none
  | n + 1, a1, a3, a4, z => if a3 ≤ (z.1 20 0 30) then some ((-1), z) else zk_bd (fX9_doesSolve a1 a4 (zk_sI z 20 0 30 ((z.1 20 0 30) + 1))) (fun r2 z1 => if r2 = 0 then zk_bd (fX9_worthOf a1 a4 z1) (fun r4 z3 => fX9_climbs_L54 (fX9_climbs_L8 n) zk_FU a1 a3 a4 (-1) r4 0 z3) else some (a4, z1))
def fX9_climbs (x1 : Int32) (x2 : Int32) (x3 : Int32) (z : zk_Z) : Option (Int32 × zk_Z) := fX9_climbs_L8 zk_FU x1 x3 x2 (zk_sI z 20 0 30 0)
set_option maxRecDepth 100000 in
set_option maxHeartbeats 8000000 in
theorem ct_X9_climbs (l : Launch) (E : zk_E) (hi : zk_inj E) (x1 : Int32) (x2 : Int32) (x3 : Int32) (z : zk_Z) (r : Int32) (z' : zk_Z) (h : fX9_climbs  x1 x2 x3 z = some (r, z')) : Met l yX9_climbs wsX9_climbs { frames := 4, cells := 0, slots := 0, locals := 89 } (va_Pc [.ref (E.2.1 20 0), .int x1, .int x2, .int x3] (zk_W E z)) (zk_Qi E r z') 0 0 (zk_A E) := by
  refine zk_met (cc := cX9_climbs) (maxL := 9) (ret := (some .int)) (own := RX9) (by decide) rfl rfl hi (Nat.le_of_ble_eq_true rfl) ?_
  intro p e s m args below meth c X hr
  have iX9 : ∀ w ∈ u_ws RX9 TX9 32, w ∈ wsX9_climbs := by decide +kernel
  have w0 : Cond.fieldLink RX9 196 "HiddenWorksModel" "steps" "I" ∈ wsX9_climbs := by decide +kernel
  have w1 : Cond.fieldLink RX9 31 "HiddenWorksModel" "letters" "[I" ∈ wsX9_climbs := by decide +kernel
  have B153 : ∀ (c8 : Int32 → Int32 → Int32 → zk_Z → Option (Int32 × zk_Z)) (hc8 : ∀ (a1 : Int32) (a3 : Int32) (a4 : Int32) (z : zk_Z), c8 a1 a3 a4 z = some (r, z') → zk_G p l e (headSpec wsX9_climbs { frames := 4, cells := 0, slots := 0, locals := 89 }).room s m args below meth c E 9 0 0 (MQ below (zk_Qi E r z') args s 0 0 (zk_A E)) 8 [(0, .ref (E.2.1 20 0)), (1, .int a1), (3, .int a3), (4, .int a4)] [] z) (a1 : Int32) (a3 : Int32) (s0 : Int32) (z : zk_Z), fX9_climbs_B153 c8 a1 a3 s0 z = some (r, z') → zk_G p l e (headSpec wsX9_climbs { frames := 4, cells := 0, slots := 0, locals := 89 }).room s m args below meth c E 9 0 0 (MQ below (zk_Qi E r z') args s 0 0 (zk_A E)) 153 [(0, .ref (E.2.1 20 0)), (1, .int a1), (3, .int a3)] [.int s0] z := by
    intro c8 hc8 a1 a3 s0 z h
    unfold fX9_climbs_B153 at h
    refine zk_istore X (lv' := [(4, .int s0), (0, .ref (E.2.1 20 0)), (1, .int a1), (3, .int a3)]) dX9_climbs_153 (by decide) rfl ?_
    refine zk_goto X (tgt := 8) dX9_climbs_155 (by decide) ?_
    exact zk_sub [1, 2, 3, 0] rfl (hc8 _ _ _ _ h)
  have B109 : ∀ (c8 : Int32 → Int32 → Int32 → zk_Z → Option (Int32 × zk_Z)) (hc8 : ∀ (a1 : Int32) (a3 : Int32) (a4 : Int32) (z : zk_Z), c8 a1 a3 a4 z = some (r, z') → zk_G p l e (headSpec wsX9_climbs { frames := 4, cells := 0, slots := 0, locals := 89 }).room s m args below meth c E 9 0 0 (MQ below (zk_Qi E r z') args s 0 0 (zk_A E)) 8 [(0, .ref (E.2.1 20 0)), (1, .int a1), (3, .int a3), (4, .int a4)] [] z) (c54 : Int32 → Int32 → Int32 → Int32 → Int32 → Int32 → zk_Z → Option (Int32 × zk_Z)) (hc54 : ∀ (a1 : Int32) (a3 : Int32) (a4 : Int32) (a5 : Int32) (a6 : Int32) (a7 : Int32) (z : zk_Z), c54 a1 a3 a4 a5 a6 a7 z = some (r, z') → zk_G p l e (headSpec wsX9_climbs { frames := 4, cells := 0, slots := 0, locals := 89 }).room s m args below meth c E 9 0 0 (MQ below (zk_Qi E r z') args s 0 0 (zk_A E)) 54 [(0, .ref (E.2.1 20 0)), (1, .int a1), (3, .int a3), (4, .int a4), (5, .int a5), (6, .int a6), (7, .int a7)] [] z) (a1 : Int32) (a3 : Int32) (a4 : Int32) (a5 : Int32) (a7 : Int32) (s0 : Int32) (z : zk_Z), fX9_climbs_B109 c8 c54 a1 a3 a4 a5 a7 s0 z = some (r, z') → zk_G p l e (headSpec wsX9_climbs { frames := 4, cells := 0, slots := 0, locals := 89 }).room s m args below meth c E 9 0 0 (MQ below (zk_Qi E r z') args s 0 0 (zk_A E)) 109 [(0, .ref (E.2.1 20 0)), (1, .int a1), (3, .int a3), (4, .int a4), (5, .int a5), (7, .int a7)] [.int s0] z := by
    intro c8 hc8 c54 hc54 a1 a3 a4 a5 a7 s0 z h
    unfold fX9_climbs_B109 at h
    refine zk_istore X (lv' := [(6, .int s0), (0, .ref (E.2.1 20 0)), (1, .int a1), (3, .int a3), (4, .int a4), (5, .int a5), (7, .int a7)]) dX9_climbs_109 (by decide) rfl ?_
    refine zk_iinc X (lv' := [(7, .int (a7 + 1)), (6, .int s0), (0, .ref (E.2.1 20 0)), (1, .int a1), (3, .int a3), (4, .int a4), (5, .int a5)]) 6 dX9_climbs_111 rfl rfl (by decide) rfl ?_
    refine zk_goto X (tgt := 54) dX9_climbs_114 (by decide) ?_
    exact zk_sub [2, 3, 4, 5, 6, 1, 0] rfl (hc54 _ _ _ _ _ _ _ h)
  have B93 : ∀ (c8 : Int32 → Int32 → Int32 → zk_Z → Option (Int32 × zk_Z)) (hc8 : ∀ (a1 : Int32) (a3 : Int32) (a4 : Int32) (z : zk_Z), c8 a1 a3 a4 z = some (r, z') → zk_G p l e (headSpec wsX9_climbs { frames := 4, cells := 0, slots := 0, locals := 89 }).room s m args below meth c E 9 0 0 (MQ below (zk_Qi E r z') args s 0 0 (zk_A E)) 8 [(0, .ref (E.2.1 20 0)), (1, .int a1), (3, .int a3), (4, .int a4)] [] z) (c54 : Int32 → Int32 → Int32 → Int32 → Int32 → Int32 → zk_Z → Option (Int32 × zk_Z)) (hc54 : ∀ (a1 : Int32) (a3 : Int32) (a4 : Int32) (a5 : Int32) (a6 : Int32) (a7 : Int32) (z : zk_Z), c54 a1 a3 a4 a5 a6 a7 z = some (r, z') → zk_G p l e (headSpec wsX9_climbs { frames := 4, cells := 0, slots := 0, locals := 89 }).room s m args below meth c E 9 0 0 (MQ below (zk_Qi E r z') args s 0 0 (zk_A E)) 54 [(0, .ref (E.2.1 20 0)), (1, .int a1), (3, .int a3), (4, .int a4), (5, .int a5), (6, .int a6), (7, .int a7)] [] z) (a1 : Int32) (a3 : Int32) (a4 : Int32) (a6 : Int32) (a7 : Int32) (a8 : Int32) (s0 : Int32) (z : zk_Z), fX9_climbs_B93 c8 c54 a1 a3 a4 a6 a7 a8 s0 z = some (r, z') → zk_G p l e (headSpec wsX9_climbs { frames := 4, cells := 0, slots := 0, locals := 89 }).room s m args below meth c E 9 0 0 (MQ below (zk_Qi E r z') args s 0 0 (zk_A E)) 93 [(0, .ref (E.2.1 20 0)), (1, .int a1), (3, .int a3), (4, .int a4), (6, .int a6), (7, .int a7), (8, .int a8)] [.int s0] z := by
    intro c8 hc8 c54 hc54 a1 a3 a4 a6 a7 a8 s0 z h
    unfold fX9_climbs_B93 at h
    refine zk_istore X (lv' := [(5, .int s0), (0, .ref (E.2.1 20 0)), (1, .int a1), (3, .int a3), (4, .int a4), (6, .int a6), (7, .int a7), (8, .int a8)]) dX9_climbs_93 (by decide) rfl ?_
    refine zk_iload X 7 dX9_climbs_95 rfl ?_
    refine zk_iload X 5 dX9_climbs_97 rfl ?_
    refine zk_icmp_le X (tgt := 107) dX9_climbs_99 (by decide) h (fun h => ?_) (fun h => ?_)
    · refine zk_iload X 5 dX9_climbs_107 rfl ?_
      exact zk_sub [1, 2, 3, 4, 0, 6] rfl (B109 _ hc8 _ hc54 _ _ _ _ _ _ _ h)
    · refine zk_iload X 7 dX9_climbs_102 rfl ?_
      refine zk_goto X (tgt := 109) dX9_climbs_104 (by decide) ?_
      exact zk_sub [1, 2, 3, 4, 0, 6] rfl (B109 _ hc8 _ hc54 _ _ _ _ _ _ _ h)
  have L54 : ∀ (c8 : Int32 → Int32 → Int32 → zk_Z → Option (Int32 × zk_Z)) (hc8 : ∀ (a1 : Int32) (a3 : Int32) (a4 : Int32) (z : zk_Z), c8 a1 a3 a4 z = some (r, z') → zk_G p l e (headSpec wsX9_climbs { frames := 4, cells := 0, slots := 0, locals := 89 }).room s m args below meth c E 9 0 0 (MQ below (zk_Qi E r z') args s 0 0 (zk_A E)) 8 [(0, .ref (E.2.1 20 0)), (1, .int a1), (3, .int a3), (4, .int a4)] [] z) (n : Nat) (a1 : Int32) (a3 : Int32) (a4 : Int32) (a5 : Int32) (a6 : Int32) (a7 : Int32) (z : zk_Z), fX9_climbs_L54 c8 n a1 a3 a4 a5 a6 a7 z = some (r, z') → zk_G p l e (headSpec wsX9_climbs { frames := 4, cells := 0, slots := 0, locals := 89 }).room s m args below meth c E 9 0 0 (MQ below (zk_Qi E r z') args s 0 0 (zk_A E)) 54 [(0, .ref (E.2.1 20 0)), (1, .int a1), (3, .int a3), (4, .int a4), (5, .int a5), (6, .int a6), (7, .int a7)] [] z := by
    intro c8 hc8 n
    induction n with
    | zero => intro a1 a3 a4 a5 a6 a7 z h; exact absurd h (by simp [fX9_climbs_L54])
    | succ n ih =>
      intro a1 a3 a4 a5 a6 a7 z h
      rw [fX9_climbs_L54] at h
      refine zk_iload X 6 dX9_climbs_54 rfl ?_
      refine zk_aload_n X 0 dX9_climbs_56 rfl rfl ?_
      refine zk_get X iX9 (g := 20) (Nat.zero_lt_one) rfl rfl 10 (by decide) w1 rfl dX9_climbs_57 ?_
      refine zk_iload_n X 1 dX9_climbs_60 rfl rfl ?_
      refine zk_iald X (g := 28) (Nat.zero_lt_one) rfl dX9_climbs_61 h (fun h => ?_)
      refine zk_icmp_ge X (tgt := 117) dX9_climbs_62 (by decide) h (fun h => ?_) (fun h => ?_)
      · refine zk_iload X 4 dX9_climbs_117 rfl ?_
        refine zk_iconst X (v := -1) dX9_climbs_119 (by decide) ?_
        refine zk_icmp_ne X (tgt := 146) dX9_climbs_120 (by decide) h (fun h => ?_) (fun h => ?_)
        · refine zk_iconst X (v := 5) dX9_climbs_123 (by decide) ?_
          refine zk_iload X 3 dX9_climbs_124 rfl ?_
          refine zk_imul X dX9_climbs_126 ?_
          refine zk_iconst X (v := 3) dX9_climbs_127 (by decide) ?_
          refine zk_iadd X dX9_climbs_128 ?_
          refine zk_aload_n X 0 dX9_climbs_129 rfl rfl ?_
          refine zk_get X iX9 (g := 20) (Nat.zero_lt_one) rfl rfl 30 (by decide) w0 rfl dX9_climbs_130 ?_
          refine zk_iadd X dX9_climbs_133 ?_
          refine zk_iconst X (v := 1) dX9_climbs_134 (by decide) ?_
          refine zk_aload_n X 0 dX9_climbs_135 rfl rfl ?_
          refine zk_get X iX9 (g := 20) (Nat.zero_lt_one) rfl rfl 10 (by decide) w1 rfl dX9_climbs_136 ?_
          refine zk_iload_n X 1 dX9_climbs_139 rfl rfl ?_
          refine zk_iald X (g := 28) (Nat.zero_lt_one) rfl dX9_climbs_140 h (fun h => ?_)
          refine zk_ishl X dX9_climbs_141 ?_
          refine zk_irem X dX9_climbs_142 h (fun h => ?_)
          refine zk_goto X (tgt := 153) dX9_climbs_143 (by decide) ?_
          exact zk_sub [0, 1, 2] rfl (B153 _ hc8 _ _ _ _ h)
        · refine zk_iload X 3 dX9_climbs_146 rfl ?_
          refine zk_iconst X (v := 1) dX9_climbs_148 (by decide) ?_
          refine zk_iload X 4 dX9_climbs_149 rfl ?_
          refine zk_ishl X dX9_climbs_151 ?_
          refine zk_ixor X dX9_climbs_152 ?_
          exact zk_sub [0, 1, 2] rfl (B153 _ hc8 _ _ _ _ h)
      · refine zk_aload_n X 0 dX9_climbs_65 rfl rfl ?_
        refine zk_iload_n X 1 dX9_climbs_66 rfl rfl ?_
        refine zk_iload X 3 dX9_climbs_67 rfl ?_
        refine zk_iconst X (v := 1) dX9_climbs_69 (by decide) ?_
        refine zk_iload X 6 dX9_climbs_70 rfl ?_
        refine zk_ishl X dX9_climbs_72 ?_
        refine zk_ixor X dX9_climbs_73 ?_
        refine zk_vi X h (fun rr zz hf => ct_X9_worthOf l E hi a1 (a4 ^^^ ((1 : Int32) <<< (a7 &&& 31))) _ rr zz hf) (cwV 2 X.1.2.2.2.2 gX9_climbs_X9_worthOf rfl rfl rfl (by decide +kernel) ⟨Nat.le_of_ble_eq_true rfl, Nat.le_of_ble_eq_true rfl⟩) (zk_recv X (g := 20) (Nat.zero_lt_one) rfl rfl) rfl rfl (Nat.le_of_ble_eq_true rfl) dX9_climbs_74 (fun r6 z5 h => ?_)
        refine zk_istore X (lv' := [(8, .int r6), (0, .ref (E.2.1 20 0)), (1, .int a1), (3, .int a3), (4, .int a4), (5, .int a5), (6, .int a6), (7, .int a7)]) dX9_climbs_77 (by decide) rfl ?_
        refine zk_iload X 0 dX9_climbs_79 rfl ?_
        refine zk_iload X 6 dX9_climbs_81 rfl ?_
        refine zk_icmp_le X (tgt := 91) dX9_climbs_83 (by decide) h (fun h => ?_) (fun h => ?_)
        · refine zk_iload X 5 dX9_climbs_91 rfl ?_
          exact zk_sub [1, 2, 3, 4, 6, 7, 0] rfl (B93 _ hc8 _ ih _ _ _ _ _ _ _ _ h)
        · refine zk_iload X 7 dX9_climbs_86 rfl ?_
          refine zk_goto X (tgt := 93) dX9_climbs_88 (by decide) ?_
          exact zk_sub [1, 2, 3, 4, 6, 7, 0] rfl (B93 _ hc8 _ ih _ _ _ _ _ _ _ _ h)
  have L8 : ∀ (n : Nat) (a1 : Int32) (a3 : Int32) (a4 : Int32) (z : zk_Z), fX9_climbs_L8 n a1 a3 a4 z = some (r, z') → zk_G p l e (headSpec wsX9_climbs { frames := 4, cells := 0, slots := 0, locals := 89 }).room s m args below meth c E 9 0 0 (MQ below (zk_Qi E r z') args s 0 0 (zk_A E)) 8 [(0, .ref (E.2.1 20 0)), (1, .int a1), (3, .int a3), (4, .int a4)] [] z := by
    intro n
    induction n with
    | zero => intro a1 a3 a4 z h; exact absurd h (by simp [fX9_climbs_L8])
    | succ n ih =>
      intro a1 a3 a4 z h
      rw [fX9_climbs_L8] at h
      refine zk_aload_n X 0 dX9_climbs_8 rfl rfl ?_
      refine zk_get X iX9 (g := 20) (Nat.zero_lt_one) rfl rfl 30 (by decide) w0 rfl dX9_climbs_9 ?_
      refine zk_iload_n X 2 dX9_climbs_12 rfl rfl ?_
      refine zk_icmp_ge X (tgt := 158) dX9_climbs_13 (by decide) h (fun h => ?_) (fun h => ?_)
      · refine zk_iconst X (v := -1) dX9_climbs_158 (by decide) ?_
        exact zk_ireturn X hr dX9_climbs_159 h
      · refine zk_aload_n X 0 dX9_climbs_16 rfl rfl ?_
        refine zk_dup X dX9_climbs_17 rfl ?_
        refine zk_get X iX9 (g := 20) (Nat.zero_lt_one) rfl rfl 30 (by decide) w0 rfl dX9_climbs_18 ?_
        refine zk_iconst X (v := 1) dX9_climbs_21 (by decide) ?_
        refine zk_iadd X dX9_climbs_22 ?_
        refine zk_putI X (ty := .int) iX9 tyX9 tyX9_ok nmX9 (g := 20) (Nat.zero_lt_one) rfl rfl 30 (by decide) w0 rfl (by decide +kernel) rfl rfl (Nat.le_of_ble_eq_true rfl) rfl dX9_climbs_23 ?_
        refine zk_aload_n X 0 dX9_climbs_26 rfl rfl ?_
        refine zk_iload_n X 1 dX9_climbs_27 rfl rfl ?_
        refine zk_iload X 3 dX9_climbs_28 rfl ?_
        refine zk_vi X h (fun rr zz hf => ct_X9_doesSolve l E hi a1 a4 _ rr zz hf) (cwV 2 X.1.2.2.2.2 gX9_climbs_X9_doesSolve rfl rfl rfl (by decide +kernel) ⟨Nat.le_of_ble_eq_true rfl, Nat.le_of_ble_eq_true rfl⟩) (zk_recv X (g := 20) (Nat.zero_lt_one) rfl rfl) rfl rfl (Nat.le_of_ble_eq_true rfl) dX9_climbs_30 (fun r2 z1 h => ?_)
        refine zk_if_eq X (tgt := 39) dX9_climbs_33 (by decide) h (fun h => ?_) (fun h => ?_)
        · refine zk_iconst X (v := -1) dX9_climbs_39 (by decide) ?_
          refine zk_istore X (lv' := [(5, .int (-1)), (0, .ref (E.2.1 20 0)), (1, .int a1), (3, .int a3), (4, .int a4)]) dX9_climbs_40 (by decide) rfl ?_
          refine zk_aload_n X 1 dX9_climbs_42 rfl rfl ?_
          refine zk_iload_n X 2 dX9_climbs_43 rfl rfl ?_
          refine zk_iload X 4 dX9_climbs_44 rfl ?_
          refine zk_vi X h (fun rr zz hf => ct_X9_worthOf l E hi a1 a4 _ rr zz hf) (cwV 2 X.1.2.2.2.2 gX9_climbs_X9_worthOf rfl rfl rfl (by decide +kernel) ⟨Nat.le_of_ble_eq_true rfl, Nat.le_of_ble_eq_true rfl⟩) (zk_recv X (g := 20) (Nat.zero_lt_one) rfl rfl) rfl rfl (Nat.le_of_ble_eq_true rfl) dX9_climbs_46 (fun r4 z3 h => ?_)
          refine zk_istore X (lv' := [(6, .int r4), (5, .int (-1)), (0, .ref (E.2.1 20 0)), (1, .int a1), (3, .int a3), (4, .int a4)]) dX9_climbs_49 (by decide) rfl ?_
          refine zk_iconst X (v := 0) dX9_climbs_51 (by decide) ?_
          refine zk_istore X (lv' := [(7, .int 0), (6, .int r4), (5, .int (-1)), (0, .ref (E.2.1 20 0)), (1, .int a1), (3, .int a3), (4, .int a4)]) dX9_climbs_52 (by decide) rfl ?_
          exact zk_sub [3, 4, 5, 6, 2, 1, 0] rfl (L54 _ ih _ _ _ _ _ _ _ _ h)
        · refine zk_iload X 3 dX9_climbs_36 rfl ?_
          exact zk_ireturn X hr dX9_climbs_38 h
  unfold fX9_climbs at h
  refine zk_iload_n X 2 dX9_climbs_0 rfl rfl ?_
  refine zk_istore X (lv' := [(4, .int x2), (0, .ref (E.2.1 20 0)), (1, .int x1), (2, .int x2), (3, .int x3)]) dX9_climbs_1 (by decide) rfl ?_
  refine zk_aload_n X 1 dX9_climbs_3 rfl rfl ?_
  refine zk_iconst X (v := 0) dX9_climbs_4 (by decide) ?_
  refine zk_putI X (ty := .int) iX9 tyX9 tyX9_ok nmX9 (g := 20) (Nat.zero_lt_one) rfl rfl 30 (by decide) w0 rfl (by decide +kernel) rfl rfl (Nat.le_of_ble_eq_true rfl) rfl dX9_climbs_5 ?_
  exact zk_sub [1, 2, 4, 0] rfl (L8  _ _ _ _ _ h)
def fX9_copy_B173 (c147 : Int32 → Int32 → Int32 → Int32 → zk_Z → Option (Int32 × zk_Z)) (a5 : Int32) (a6 : Int32) (a7 : Int32) (a8 : Int32) (s0 : Int32) (z : zk_Z) : Option (Int32 × zk_Z) := zk_gd (zk_ix (a6 + s0) 160) (zk_gd (zk_ix (a7 + s0) 160) (c147 a5 a6 a7 (a8 + 1) (zk_sI z 41 0 (a7 + s0).toNatClampNeg (z.1 41 0 (a6 + s0).toNatClampNeg))))
def fX9_copy_L147 : Nat → Int32 → Int32 → Int32 → Int32 → zk_Z → Option (Int32 × zk_Z)
  | 0, _, _, _, _, _ => none
  | n + 1, a5, a6, a7, a8, z => if a5 ≤ a8 then some (a5, z) else if a7 ≤ a6 then fX9_copy_B173 (fX9_copy_L147 n) a5 a6 a7 a8 a8 z else fX9_copy_B173 (fX9_copy_L147 n) a5 a6 a7 a8 ((a5 - 1) - a8) z
def fX9_copy (x1 : Int32) (x2 : Int32) (x3 : Int32) (x4 : Int32) (x5 : Int32) (z : zk_Z) : Option (Int32 × zk_Z) := zk_bd (fX9_in x1 0 3 z) (fun r2 z1 => if r2 = 0 then some ((-2), z1) else zk_bd (fX9_in x3 0 3 z1) (fun r4 z3 => if r4 = 0 then some ((-2), z3) else zk_gd (zk_ix x1 4) (if (z3.1 39 0 x1.toNatClampNeg) = (-1) then some ((-11), z3) else zk_gd (zk_ix x3 4) (if (z3.1 39 0 x3.toNatClampNeg) = (-1) then some ((-11), z3) else zk_gd (zk_ix x1 4) (zk_gd (zk_ix x3 4) (if (z3.1 39 0 x1.toNatClampNeg) = (z3.1 39 0 x3.toNatClampNeg) then if x5 < 0 then some ((-12), z3) else if x2 < 0 then some ((-12), z3) else if x4 < 0 then some ((-12), z3) else zk_gd (zk_ix x1 4) (if (z3.1 40 0 x1.toNatClampNeg) < x2 then some ((-12), z3) else zk_gd (zk_ix x3 4) (if (z3.1 40 0 x3.toNatClampNeg) < x4 then some ((-12), z3) else zk_gd (zk_ix x1 4) (if ((z3.1 40 0 x1.toNatClampNeg) - x2) < x5 then some ((-12), z3) else zk_gd (zk_ix x3 4) (if x5 ≤ ((z3.1 40 0 x3.toNatClampNeg) - x4) then fX9_copy_L147 zk_FU x5 ((40 * x1) + x2) ((40 * x3) + x4) 0 z3 else some ((-12), z3))))) else some ((-13), z3)))))))
set_option maxRecDepth 100000 in
set_option maxHeartbeats 8000000 in
theorem ct_X9_copy (l : Launch) (E : zk_E) (hi : zk_inj E) (x1 : Int32) (x2 : Int32) (x3 : Int32) (x4 : Int32) (x5 : Int32) (z : zk_Z) (r : Int32) (z' : zk_Z) (h : fX9_copy  x1 x2 x3 x4 x5 z = some (r, z')) : Met l yX9_copy wsX9_copy { frames := 1, cells := 0, slots := 0, locals := 22 } (va_Pc [.ref (E.2.1 20 0), .int x1, .int x2, .int x3, .int x4, .int x5] (zk_W E z)) (zk_Qi E r z') 0 0 (zk_A E) := by
  refine zk_met (cc := cX9_copy) (maxL := 10) (ret := (some .int)) (own := RX9) (by decide) rfl rfl hi (Nat.le_of_ble_eq_true rfl) ?_
  intro p e s m args below meth c X hr
  have iX9 : ∀ w ∈ u_ws RX9 TX9 32, w ∈ wsX9_copy := by decide +kernel
  have w0 : Cond.fieldLink RX9 64 "HiddenWorksModel" "sheetSort" "[I" ∈ wsX9_copy := by decide +kernel
  have w1 : Cond.fieldLink RX9 67 "HiddenWorksModel" "sheetSize" "[I" ∈ wsX9_copy := by decide +kernel
  have w2 : Cond.fieldLink RX9 70 "HiddenWorksModel" "cells" "[I" ∈ wsX9_copy := by decide +kernel
  have B173 : ∀ (c147 : Int32 → Int32 → Int32 → Int32 → zk_Z → Option (Int32 × zk_Z)) (hc147 : ∀ (a5 : Int32) (a6 : Int32) (a7 : Int32) (a8 : Int32) (z : zk_Z), c147 a5 a6 a7 a8 z = some (r, z') → zk_G p l e (headSpec wsX9_copy { frames := 1, cells := 0, slots := 0, locals := 22 }).room s m args below meth c E 10 0 0 (MQ below (zk_Qi E r z') args s 0 0 (zk_A E)) 147 [(0, .ref (E.2.1 20 0)), (5, .int a5), (6, .int a6), (7, .int a7), (8, .int a8)] [] z) (a5 : Int32) (a6 : Int32) (a7 : Int32) (a8 : Int32) (s0 : Int32) (z : zk_Z), fX9_copy_B173 c147 a5 a6 a7 a8 s0 z = some (r, z') → zk_G p l e (headSpec wsX9_copy { frames := 1, cells := 0, slots := 0, locals := 22 }).room s m args below meth c E 10 0 0 (MQ below (zk_Qi E r z') args s 0 0 (zk_A E)) 173 [(0, .ref (E.2.1 20 0)), (5, .int a5), (6, .int a6), (7, .int a7), (8, .int a8)] [.int s0] z := by
    intro c147 hc147 a5 a6 a7 a8 s0 z h
    unfold fX9_copy_B173 at h
    refine zk_istore X (lv' := [(9, .int s0), (0, .ref (E.2.1 20 0)), (5, .int a5), (6, .int a6), (7, .int a7), (8, .int a8)]) dX9_copy_173 (by decide) rfl ?_
    refine zk_aload_n X 1 dX9_copy_175 rfl rfl ?_
    refine zk_get X iX9 (g := 20) (Nat.zero_lt_one) rfl rfl 26 (by decide) w2 rfl dX9_copy_176 ?_
    refine zk_iload X 4 dX9_copy_179 rfl ?_
    refine zk_iload X 0 dX9_copy_181 rfl ?_
    refine zk_iadd X dX9_copy_183 ?_
    refine zk_aload_n X 1 dX9_copy_184 rfl rfl ?_
    refine zk_get X iX9 (g := 20) (Nat.zero_lt_one) rfl rfl 26 (by decide) w2 rfl dX9_copy_185 ?_
    refine zk_iload X 3 dX9_copy_188 rfl ?_
    refine zk_iload X 0 dX9_copy_190 rfl ?_
    refine zk_iadd X dX9_copy_192 ?_
    refine zk_iald X (g := 41) (Nat.zero_lt_one) rfl dX9_copy_193 h (fun h => ?_)
    refine zk_iast X (g := 41) (Nat.zero_lt_one) rfl rfl dX9_copy_194 h (fun h => ?_)
    refine zk_iinc X (lv' := [(8, .int (a8 + 1)), (9, .int s0), (0, .ref (E.2.1 20 0)), (5, .int a5), (6, .int a6), (7, .int a7)]) 5 dX9_copy_195 rfl rfl (by decide) rfl ?_
    refine zk_goto X (tgt := 147) dX9_copy_198 (by decide) ?_
    exact zk_sub [2, 3, 4, 5, 0] rfl (hc147 _ _ _ _ _ h)
  have L147 : ∀ (n : Nat) (a5 : Int32) (a6 : Int32) (a7 : Int32) (a8 : Int32) (z : zk_Z), fX9_copy_L147 n a5 a6 a7 a8 z = some (r, z') → zk_G p l e (headSpec wsX9_copy { frames := 1, cells := 0, slots := 0, locals := 22 }).room s m args below meth c E 10 0 0 (MQ below (zk_Qi E r z') args s 0 0 (zk_A E)) 147 [(0, .ref (E.2.1 20 0)), (5, .int a5), (6, .int a6), (7, .int a7), (8, .int a8)] [] z := by
    intro n
    induction n with
    | zero => intro a5 a6 a7 a8 z h; exact absurd h (by simp [fX9_copy_L147])
    | succ n ih =>
      intro a5 a6 a7 a8 z h
      rw [fX9_copy_L147] at h
      refine zk_iload X 4 dX9_copy_147 rfl ?_
      refine zk_iload X 1 dX9_copy_149 rfl ?_
      refine zk_icmp_ge X (tgt := 201) dX9_copy_151 (by decide) h (fun h => ?_) (fun h => ?_)
      · refine zk_iload X 1 dX9_copy_201 rfl ?_
        exact zk_ireturn X hr dX9_copy_203 h
      · refine zk_iload X 2 dX9_copy_154 rfl ?_
        refine zk_iload X 3 dX9_copy_156 rfl ?_
        refine zk_icmp_ge X (tgt := 171) dX9_copy_158 (by decide) h (fun h => ?_) (fun h => ?_)
        · refine zk_iload X 4 dX9_copy_171 rfl ?_
          exact zk_sub [0, 1, 2, 3, 4] rfl (B173 _ ih _ _ _ _ _ _ h)
        · refine zk_iload X 1 dX9_copy_161 rfl ?_
          refine zk_iconst X (v := 1) dX9_copy_163 (by decide) ?_
          refine zk_isub X dX9_copy_164 ?_
          refine zk_iload X 4 dX9_copy_165 rfl ?_
          refine zk_isub X dX9_copy_167 ?_
          refine zk_goto X (tgt := 173) dX9_copy_168 (by decide) ?_
          exact zk_sub [0, 1, 2, 3, 4] rfl (B173 _ ih _ _ _ _ _ _ h)
  unfold fX9_copy at h
  refine zk_iload_n X 1 dX9_copy_0 rfl rfl ?_
  refine zk_iconst X (v := 0) dX9_copy_1 (by decide) ?_
  refine zk_iconst X (v := 3) dX9_copy_2 (by decide) ?_
  refine zk_si X h (fun rr zz hf => ct_X9_in l E hi  x1 0 3 _ rr zz hf) (va_cwS 3 X.1.2.2.2.2 gX9_copy_X9_in rfl rfl rfl (by decide +kernel) ⟨Nat.le_of_ble_eq_true rfl, Nat.le_of_ble_eq_true rfl⟩) rfl rfl (Nat.le_of_ble_eq_true rfl) dX9_copy_3 (fun r2 z1 h => ?_)
  refine zk_if_eq X (tgt := 18) dX9_copy_6 (by decide) h (fun h => ?_) (fun h => ?_)
  · refine zk_bipush X (v := -2) dX9_copy_18 (by decide) ?_
    exact zk_ireturn X hr dX9_copy_20 h
  · refine zk_iload_n X 3 dX9_copy_9 rfl rfl ?_
    refine zk_iconst X (v := 0) dX9_copy_10 (by decide) ?_
    refine zk_iconst X (v := 3) dX9_copy_11 (by decide) ?_
    refine zk_si X h (fun rr zz hf => ct_X9_in l E hi  x3 0 3 _ rr zz hf) (va_cwS 3 X.1.2.2.2.2 gX9_copy_X9_in rfl rfl rfl (by decide +kernel) ⟨Nat.le_of_ble_eq_true rfl, Nat.le_of_ble_eq_true rfl⟩) rfl rfl (Nat.le_of_ble_eq_true rfl) dX9_copy_12 (fun r4 z3 h => ?_)
    refine zk_if_ne X (tgt := 21) dX9_copy_15 (by decide) h (fun h => ?_) (fun h => ?_)
    · refine zk_bipush X (v := -2) dX9_copy_18 (by decide) ?_
      exact zk_ireturn X hr dX9_copy_20 h
    · refine zk_aload_n X 0 dX9_copy_21 rfl rfl ?_
      refine zk_get X iX9 (g := 20) (Nat.zero_lt_one) rfl rfl 24 (by decide) w0 rfl dX9_copy_22 ?_
      refine zk_iload_n X 1 dX9_copy_25 rfl rfl ?_
      refine zk_iald X (g := 39) (Nat.zero_lt_one) rfl dX9_copy_26 h (fun h => ?_)
      refine zk_iconst X (v := -1) dX9_copy_27 (by decide) ?_
      refine zk_icmp_eq X (tgt := 41) dX9_copy_28 (by decide) h (fun h => ?_) (fun h => ?_)
      · refine zk_bipush X (v := -11) dX9_copy_41 (by decide) ?_
        exact zk_ireturn X hr dX9_copy_43 h
      · refine zk_aload_n X 0 dX9_copy_31 rfl rfl ?_
        refine zk_get X iX9 (g := 20) (Nat.zero_lt_one) rfl rfl 24 (by decide) w0 rfl dX9_copy_32 ?_
        refine zk_iload_n X 3 dX9_copy_35 rfl rfl ?_
        refine zk_iald X (g := 39) (Nat.zero_lt_one) rfl dX9_copy_36 h (fun h => ?_)
        refine zk_iconst X (v := -1) dX9_copy_37 (by decide) ?_
        refine zk_icmp_ne X (tgt := 44) dX9_copy_38 (by decide) h (fun h => ?_) (fun h => ?_)
        · refine zk_bipush X (v := -11) dX9_copy_41 (by decide) ?_
          exact zk_ireturn X hr dX9_copy_43 h
        · refine zk_aload_n X 0 dX9_copy_44 rfl rfl ?_
          refine zk_get X iX9 (g := 20) (Nat.zero_lt_one) rfl rfl 24 (by decide) w0 rfl dX9_copy_45 ?_
          refine zk_iload_n X 1 dX9_copy_48 rfl rfl ?_
          refine zk_iald X (g := 39) (Nat.zero_lt_one) rfl dX9_copy_49 h (fun h => ?_)
          refine zk_aload_n X 0 dX9_copy_50 rfl rfl ?_
          refine zk_get X iX9 (g := 20) (Nat.zero_lt_one) rfl rfl 24 (by decide) w0 rfl dX9_copy_51 ?_
          refine zk_iload_n X 3 dX9_copy_54 rfl rfl ?_
          refine zk_iald X (g := 39) (Nat.zero_lt_one) rfl dX9_copy_55 h (fun h => ?_)
          refine zk_icmp_eq X (tgt := 62) dX9_copy_56 (by decide) h (fun h => ?_) (fun h => ?_)
          · refine zk_iload X 5 dX9_copy_62 rfl ?_
            refine zk_if_lt X (tgt := 124) dX9_copy_64 (by decide) h (fun h => ?_) (fun h => ?_)
            · refine zk_bipush X (v := -12) dX9_copy_124 (by decide) ?_
              exact zk_ireturn X hr dX9_copy_126 h
            · refine zk_iload_n X 2 dX9_copy_67 rfl rfl ?_
              refine zk_if_lt X (tgt := 124) dX9_copy_68 (by decide) h (fun h => ?_) (fun h => ?_)
              · refine zk_bipush X (v := -12) dX9_copy_124 (by decide) ?_
                exact zk_ireturn X hr dX9_copy_126 h
              · refine zk_iload X 4 dX9_copy_71 rfl ?_
                refine zk_if_lt X (tgt := 124) dX9_copy_73 (by decide) h (fun h => ?_) (fun h => ?_)
                · refine zk_bipush X (v := -12) dX9_copy_124 (by decide) ?_
                  exact zk_ireturn X hr dX9_copy_126 h
                · refine zk_iload_n X 2 dX9_copy_76 rfl rfl ?_
                  refine zk_aload_n X 0 dX9_copy_77 rfl rfl ?_
                  refine zk_get X iX9 (g := 20) (Nat.zero_lt_one) rfl rfl 25 (by decide) w1 rfl dX9_copy_78 ?_
                  refine zk_iload_n X 1 dX9_copy_81 rfl rfl ?_
                  refine zk_iald X (g := 40) (Nat.zero_lt_one) rfl dX9_copy_82 h (fun h => ?_)
                  refine zk_icmp_gt X (tgt := 124) dX9_copy_83 (by decide) h (fun h => ?_) (fun h => ?_)
                  · refine zk_bipush X (v := -12) dX9_copy_124 (by decide) ?_
                    exact zk_ireturn X hr dX9_copy_126 h
                  · refine zk_iload X 4 dX9_copy_86 rfl ?_
                    refine zk_aload_n X 0 dX9_copy_88 rfl rfl ?_
                    refine zk_get X iX9 (g := 20) (Nat.zero_lt_one) rfl rfl 25 (by decide) w1 rfl dX9_copy_89 ?_
                    refine zk_iload_n X 3 dX9_copy_92 rfl rfl ?_
                    refine zk_iald X (g := 40) (Nat.zero_lt_one) rfl dX9_copy_93 h (fun h => ?_)
                    refine zk_icmp_gt X (tgt := 124) dX9_copy_94 (by decide) h (fun h => ?_) (fun h => ?_)
                    · refine zk_bipush X (v := -12) dX9_copy_124 (by decide) ?_
                      exact zk_ireturn X hr dX9_copy_126 h
                    · refine zk_iload X 5 dX9_copy_97 rfl ?_
                      refine zk_aload_n X 0 dX9_copy_99 rfl rfl ?_
                      refine zk_get X iX9 (g := 20) (Nat.zero_lt_one) rfl rfl 25 (by decide) w1 rfl dX9_copy_100 ?_
                      refine zk_iload_n X 1 dX9_copy_103 rfl rfl ?_
                      refine zk_iald X (g := 40) (Nat.zero_lt_one) rfl dX9_copy_104 h (fun h => ?_)
                      refine zk_iload_n X 2 dX9_copy_105 rfl rfl ?_
                      refine zk_isub X dX9_copy_106 ?_
                      refine zk_icmp_gt X (tgt := 124) dX9_copy_107 (by decide) h (fun h => ?_) (fun h => ?_)
                      · refine zk_bipush X (v := -12) dX9_copy_124 (by decide) ?_
                        exact zk_ireturn X hr dX9_copy_126 h
                      · refine zk_iload X 5 dX9_copy_110 rfl ?_
                        refine zk_aload_n X 0 dX9_copy_112 rfl rfl ?_
                        refine zk_get X iX9 (g := 20) (Nat.zero_lt_one) rfl rfl 25 (by decide) w1 rfl dX9_copy_113 ?_
                        refine zk_iload_n X 3 dX9_copy_116 rfl rfl ?_
                        refine zk_iald X (g := 40) (Nat.zero_lt_one) rfl dX9_copy_117 h (fun h => ?_)
                        refine zk_iload X 4 dX9_copy_118 rfl ?_
                        refine zk_isub X dX9_copy_120 ?_
                        refine zk_icmp_le X (tgt := 127) dX9_copy_121 (by decide) h (fun h => ?_) (fun h => ?_)
                        · refine zk_bipush X (v := 40) dX9_copy_127 (by decide) ?_
                          refine zk_iload_n X 1 dX9_copy_129 rfl rfl ?_
                          refine zk_imul X dX9_copy_130 ?_
                          refine zk_iload_n X 2 dX9_copy_131 rfl rfl ?_
                          refine zk_iadd X dX9_copy_132 ?_
                          refine zk_istore X (lv' := [(6, .int ((40 * x1) + x2)), (0, .ref (E.2.1 20 0)), (1, .int x1), (2, .int x2), (3, .int x3), (4, .int x4), (5, .int x5)]) dX9_copy_133 (by decide) rfl ?_
                          refine zk_bipush X (v := 40) dX9_copy_135 (by decide) ?_
                          refine zk_iload_n X 4 dX9_copy_137 rfl rfl ?_
                          refine zk_imul X dX9_copy_138 ?_
                          refine zk_iload X 5 dX9_copy_139 rfl ?_
                          refine zk_iadd X dX9_copy_141 ?_
                          refine zk_istore X (lv' := [(7, .int ((40 * x3) + x4)), (6, .int ((40 * x1) + x2)), (0, .ref (E.2.1 20 0)), (1, .int x1), (2, .int x2), (3, .int x3), (4, .int x4), (5, .int x5)]) dX9_copy_142 (by decide) rfl ?_
                          refine zk_iconst X (v := 0) dX9_copy_144 (by decide) ?_
                          refine zk_istore X (lv' := [(8, .int 0), (7, .int ((40 * x3) + x4)), (6, .int ((40 * x1) + x2)), (0, .ref (E.2.1 20 0)), (1, .int x1), (2, .int x2), (3, .int x3), (4, .int x4), (5, .int x5)]) dX9_copy_145 (by decide) rfl ?_
                          exact zk_sub [3, 8, 2, 1, 0] rfl (L147  _ _ _ _ _ _ h)
                        · refine zk_bipush X (v := -12) dX9_copy_124 (by decide) ?_
                          exact zk_ireturn X hr dX9_copy_126 h
          · refine zk_bipush X (v := -13) dX9_copy_59 (by decide) ?_
            exact zk_ireturn X hr dX9_copy_61 h
def fX9_count (x1 : Int32) (z : zk_Z) : Option (Int32 × zk_Z) := if x1 = 0 then some (z.1 20 0 8, z) else if x1 = 1 then some (z.1 20 0 2, z) else if x1 = 2 then some (z.1 20 0 17, z) else if x1 = 3 then some (z.1 20 0 1, z) else some ((-2), z)
set_option maxRecDepth 100000 in
set_option maxHeartbeats 8000000 in
theorem ct_X9_count (l : Launch) (E : zk_E) (hi : zk_inj E) (x1 : Int32) (z : zk_Z) (r : Int32) (z' : zk_Z) (h : fX9_count  x1 z = some (r, z')) : Met l yX9_count wsX9_count { frames := 0, cells := 0, slots := 0, locals := 0 } (va_Pc [.ref (E.2.1 20 0), .int x1] (zk_W E z)) (zk_Qi E r z') 0 0 (zk_A E) := by
  refine zk_met (cc := cX9_count) (maxL := 2) (ret := (some .int)) (own := RX9) (by decide) rfl rfl hi (Nat.le_of_ble_eq_true rfl) ?_
  intro p e s m args below meth c X hr
  have iX9 : ∀ w ∈ u_ws RX9 TX9 32, w ∈ wsX9_count := by decide +kernel
  have w0 : Cond.fieldLink RX9 152 "HiddenWorksModel" "tasks" "I" ∈ wsX9_count := by decide +kernel
  have w1 : Cond.fieldLink RX9 114 "HiddenWorksModel" "recipes" "I" ∈ wsX9_count := by decide +kernel
  have w2 : Cond.fieldLink RX9 230 "HiddenWorksModel" "claims" "I" ∈ wsX9_count := by decide +kernel
  have w3 : Cond.fieldLink RX9 90 "HiddenWorksModel" "taped" "I" ∈ wsX9_count := by decide +kernel
  unfold fX9_count at h
  refine zk_iload_n X 1 dX9_count_0 rfl rfl ?_
  refine zk_if_ne X (tgt := 11) dX9_count_1 (by decide) h (fun h => ?_) (fun h => ?_)
  · refine zk_aload_n X 0 dX9_count_4 rfl rfl ?_
    refine zk_get X iX9 (g := 20) (Nat.zero_lt_one) rfl rfl 8 (by decide) w0 rfl dX9_count_5 ?_
    refine zk_goto X (tgt := 49) dX9_count_8 (by decide) ?_
    exact zk_ireturn X hr dX9_count_49 h
  · refine zk_iload_n X 1 dX9_count_11 rfl rfl ?_
    refine zk_iconst X (v := 1) dX9_count_12 (by decide) ?_
    refine zk_icmp_ne X (tgt := 23) dX9_count_13 (by decide) h (fun h => ?_) (fun h => ?_)
    · refine zk_aload_n X 0 dX9_count_16 rfl rfl ?_
      refine zk_get X iX9 (g := 20) (Nat.zero_lt_one) rfl rfl 2 (by decide) w1 rfl dX9_count_17 ?_
      refine zk_goto X (tgt := 49) dX9_count_20 (by decide) ?_
      exact zk_ireturn X hr dX9_count_49 h
    · refine zk_iload_n X 1 dX9_count_23 rfl rfl ?_
      refine zk_iconst X (v := 2) dX9_count_24 (by decide) ?_
      refine zk_icmp_ne X (tgt := 35) dX9_count_25 (by decide) h (fun h => ?_) (fun h => ?_)
      · refine zk_aload_n X 0 dX9_count_28 rfl rfl ?_
        refine zk_get X iX9 (g := 20) (Nat.zero_lt_one) rfl rfl 17 (by decide) w2 rfl dX9_count_29 ?_
        refine zk_goto X (tgt := 49) dX9_count_32 (by decide) ?_
        exact zk_ireturn X hr dX9_count_49 h
      · refine zk_iload_n X 1 dX9_count_35 rfl rfl ?_
        refine zk_iconst X (v := 3) dX9_count_36 (by decide) ?_
        refine zk_icmp_ne X (tgt := 47) dX9_count_37 (by decide) h (fun h => ?_) (fun h => ?_)
        · refine zk_aload_n X 0 dX9_count_40 rfl rfl ?_
          refine zk_get X iX9 (g := 20) (Nat.zero_lt_one) rfl rfl 1 (by decide) w3 rfl dX9_count_41 ?_
          refine zk_goto X (tgt := 49) dX9_count_44 (by decide) ?_
          exact zk_ireturn X hr dX9_count_49 h
        · refine zk_bipush X (v := -2) dX9_count_47 (by decide) ?_
          exact zk_ireturn X hr dX9_count_49 h
def fX9_countsRow_B31 (c4 : Int32 → Int32 → Int32 → zk_Z → Option (Int32 × zk_Z)) (a1 : Int32) (a3 : Int32) (s0 : Int32) (s1 : Int32) (z : zk_Z) : Option (Int32 × zk_Z) := c4 a1 (s1 ||| s0) (a3 + 1) z
def fX9_countsRow_L4 : Nat → Int32 → Int32 → Int32 → zk_Z → Option (Int32 × zk_Z)
  | 0, _, _, _, _ => none
  | n + 1, a1, a2, a3, z => zk_gd (zk_ix a1 9) (if (z.1 28 0 a1.toNatClampNeg) ≤ a3 then some (a2, z) else zk_bd (fX9_more a1 a3 z) (fun r2 z1 => if r2 ≤ 0 then fX9_countsRow_B31 (fX9_countsRow_L4 n) a1 a3 0 a2 z1 else fX9_countsRow_B31 (fX9_countsRow_L4 n) a1 a3 ((1 : Int32) <<< (a3 &&& 31)) a2 z1))
def fX9_countsRow (x1 : Int32) (z : zk_Z) : Option (Int32 × zk_Z) := fX9_countsRow_L4 zk_FU x1 0 0 z
set_option maxRecDepth 100000 in
set_option maxHeartbeats 8000000 in
theorem ct_X9_countsRow (l : Launch) (E : zk_E) (hi : zk_inj E) (x1 : Int32) (z : zk_Z) (r : Int32) (z' : zk_Z) (h : fX9_countsRow  x1 z = some (r, z')) : Met l yX9_countsRow wsX9_countsRow { frames := 1, cells := 0, slots := 0, locals := 24 } (va_Pc [.ref (E.2.1 20 0), .int x1] (zk_W E z)) (zk_Qi E r z') 0 0 (zk_A E) := by
  refine zk_met (cc := cX9_countsRow) (maxL := 4) (ret := (some .int)) (own := RX9) (by decide) rfl rfl hi (Nat.le_of_ble_eq_true rfl) ?_
  intro p e s m args below meth c X hr
  have iX9 : ∀ w ∈ u_ws RX9 TX9 32, w ∈ wsX9_countsRow := by decide +kernel
  have w0 : Cond.fieldLink RX9 31 "HiddenWorksModel" "letters" "[I" ∈ wsX9_countsRow := by decide +kernel
  have B31 : ∀ (c4 : Int32 → Int32 → Int32 → zk_Z → Option (Int32 × zk_Z)) (hc4 : ∀ (a1 : Int32) (a2 : Int32) (a3 : Int32) (z : zk_Z), c4 a1 a2 a3 z = some (r, z') → zk_G p l e (headSpec wsX9_countsRow { frames := 1, cells := 0, slots := 0, locals := 24 }).room s m args below meth c E 4 0 0 (MQ below (zk_Qi E r z') args s 0 0 (zk_A E)) 4 [(0, .ref (E.2.1 20 0)), (1, .int a1), (2, .int a2), (3, .int a3)] [] z) (a1 : Int32) (a3 : Int32) (s0 : Int32) (s1 : Int32) (z : zk_Z), fX9_countsRow_B31 c4 a1 a3 s0 s1 z = some (r, z') → zk_G p l e (headSpec wsX9_countsRow { frames := 1, cells := 0, slots := 0, locals := 24 }).room s m args below meth c E 4 0 0 (MQ below (zk_Qi E r z') args s 0 0 (zk_A E)) 31 [(0, .ref (E.2.1 20 0)), (1, .int a1), (3, .int a3)] [.int s0, .int s1] z := by
    intro c4 hc4 a1 a3 s0 s1 z h
    unfold fX9_countsRow_B31 at h
    refine zk_ior X dX9_countsRow_31 ?_
    refine zk_istore_n X (lv' := [(2, .int (s1 ||| s0)), (0, .ref (E.2.1 20 0)), (1, .int a1), (3, .int a3)]) dX9_countsRow_32 rfl (by decide) rfl ?_
    refine zk_iinc X (lv' := [(3, .int (a3 + 1)), (2, .int (s1 ||| s0)), (0, .ref (E.2.1 20 0)), (1, .int a1)]) 3 dX9_countsRow_33 rfl rfl (by decide) rfl ?_
    refine zk_goto X (tgt := 4) dX9_countsRow_36 (by decide) ?_
    exact zk_sub [2, 3, 1, 0] rfl (hc4 _ _ _ _ h)
  have L4 : ∀ (n : Nat) (a1 : Int32) (a2 : Int32) (a3 : Int32) (z : zk_Z), fX9_countsRow_L4 n a1 a2 a3 z = some (r, z') → zk_G p l e (headSpec wsX9_countsRow { frames := 1, cells := 0, slots := 0, locals := 24 }).room s m args below meth c E 4 0 0 (MQ below (zk_Qi E r z') args s 0 0 (zk_A E)) 4 [(0, .ref (E.2.1 20 0)), (1, .int a1), (2, .int a2), (3, .int a3)] [] z := by
    intro n
    induction n with
    | zero => intro a1 a2 a3 z h; exact absurd h (by simp [fX9_countsRow_L4])
    | succ n ih =>
      intro a1 a2 a3 z h
      rw [fX9_countsRow_L4] at h
      refine zk_iload_n X 3 dX9_countsRow_4 rfl rfl ?_
      refine zk_aload_n X 0 dX9_countsRow_5 rfl rfl ?_
      refine zk_get X iX9 (g := 20) (Nat.zero_lt_one) rfl rfl 10 (by decide) w0 rfl dX9_countsRow_6 ?_
      refine zk_iload_n X 1 dX9_countsRow_9 rfl rfl ?_
      refine zk_iald X (g := 28) (Nat.zero_lt_one) rfl dX9_countsRow_10 h (fun h => ?_)
      refine zk_icmp_ge X (tgt := 39) dX9_countsRow_11 (by decide) h (fun h => ?_) (fun h => ?_)
      · refine zk_iload_n X 2 dX9_countsRow_39 rfl rfl ?_
        exact zk_ireturn X hr dX9_countsRow_40 h
      · refine zk_iload_n X 2 dX9_countsRow_14 rfl rfl ?_
        refine zk_aload_n X 0 dX9_countsRow_15 rfl rfl ?_
        refine zk_iload_n X 1 dX9_countsRow_16 rfl rfl ?_
        refine zk_iload_n X 3 dX9_countsRow_17 rfl rfl ?_
        refine zk_vi X h (fun rr zz hf => ct_X9_more l E hi a1 a3 _ rr zz hf) (cwV 2 X.1.2.2.2.2 gX9_countsRow_X9_more rfl rfl rfl (by decide +kernel) ⟨Nat.le_of_ble_eq_true rfl, Nat.le_of_ble_eq_true rfl⟩) (zk_recv X (g := 20) (Nat.zero_lt_one) rfl rfl) rfl rfl (Nat.le_of_ble_eq_true rfl) dX9_countsRow_18 (fun r2 z1 h => ?_)
        refine zk_if_le X (tgt := 30) dX9_countsRow_21 (by decide) h (fun h => ?_) (fun h => ?_)
        · refine zk_iconst X (v := 0) dX9_countsRow_30 (by decide) ?_
          exact zk_sub [0, 1, 3] rfl (B31 _ ih _ _ _ _ _ h)
        · refine zk_iconst X (v := 1) dX9_countsRow_24 (by decide) ?_
          refine zk_iload_n X 3 dX9_countsRow_25 rfl rfl ?_
          refine zk_ishl X dX9_countsRow_26 ?_
          refine zk_goto X (tgt := 31) dX9_countsRow_27 (by decide) ?_
          exact zk_sub [0, 1, 3] rfl (B31 _ ih _ _ _ _ _ h)
  unfold fX9_countsRow at h
  refine zk_iconst X (v := 0) dX9_countsRow_0 (by decide) ?_
  refine zk_istore_n X (lv' := [(2, .int 0), (0, .ref (E.2.1 20 0)), (1, .int x1)]) dX9_countsRow_1 rfl (by decide) rfl ?_
  refine zk_iconst X (v := 0) dX9_countsRow_2 (by decide) ?_
  refine zk_istore_n X (lv' := [(3, .int 0), (2, .int 0), (0, .ref (E.2.1 20 0)), (1, .int x1)]) dX9_countsRow_3 rfl (by decide) rfl ?_
  exact zk_sub [2, 3, 1, 0] rfl (L4  _ _ _ _ _ h)
def fX9_feed_L32 : Nat → Int64 → Int32 → zk_Z → Option (Int32 × zk_Z)
  | 0, _, _, _ => none
  | n + 1, a1, a4, z => if a4 < 0 then some (z.1 20 0 1, z) else zk_gd (zk_ix (z.1 20 0 1) 80) ((fX9_feed_L32 n) a1 (a4 + (-1)) (zk_sI (zk_sI z 21 0 (z.1 20 0 1).toNatClampNeg (((a1 >>> ((8 * a4).toInt64 &&& 63)) &&& 255).toInt32)) 20 0 1 (((zk_sI z 21 0 (z.1 20 0 1).toNatClampNeg (((a1 >>> ((8 * a4).toInt64 &&& 63)) &&& 255).toInt32)).1 20 0 1) + 1)))
def fX9_feed (x1 : Int64) (x3 : Int32) (z : zk_Z) : Option (Int32 × zk_Z) := zk_bd (fX9_in x3 1 8 z) (fun r2 z1 => if r2 = 0 then some ((-2), z1) else if ((z1.1 20 0 1) + x3) ≤ 80 then fX9_feed_L32 zk_FU x1 (x3 - 1) z1 else some ((-4), z1))
set_option maxRecDepth 100000 in
set_option maxHeartbeats 8000000 in
theorem ct_X9_feed (l : Launch) (E : zk_E) (hi : zk_inj E) (x1 : Int64) (x3 : Int32) (z : zk_Z) (r : Int32) (z' : zk_Z) (h : fX9_feed  x1 x3 z = some (r, z')) : Met l yX9_feed wsX9_feed { frames := 1, cells := 0, slots := 0, locals := 22 } (va_Pc [.ref (E.2.1 20 0), .long x1, .int x3] (zk_W E z)) (zk_Qi E r z') 0 0 (zk_A E) := by
  refine zk_met (cc := cX9_feed) (maxL := 5) (ret := (some .int)) (own := RX9) (by decide) rfl rfl hi (Nat.le_of_ble_eq_true rfl) ?_
  intro p e s m args below meth c X hr
  have iX9 : ∀ w ∈ u_ws RX9 TX9 32, w ∈ wsX9_feed := by decide +kernel
  have w0 : Cond.fieldLink RX9 90 "HiddenWorksModel" "taped" "I" ∈ wsX9_feed := by decide +kernel
  have w1 : Cond.fieldLink RX9 7 "HiddenWorksModel" "tape" "[I" ∈ wsX9_feed := by decide +kernel
  have w2 : Cond.constantLong RX9 94 (255) ∈ wsX9_feed := by decide +kernel
  have L32 : ∀ (n : Nat) (a1 : Int64) (a4 : Int32) (z : zk_Z), fX9_feed_L32 n a1 a4 z = some (r, z') → zk_G p l e (headSpec wsX9_feed { frames := 1, cells := 0, slots := 0, locals := 22 }).room s m args below meth c E 5 0 0 (MQ below (zk_Qi E r z') args s 0 0 (zk_A E)) 32 [(0, .ref (E.2.1 20 0)), (1, .long a1), (4, .int a4)] [] z := by
    intro n
    induction n with
    | zero => intro a1 a4 z h; exact absurd h (by simp [fX9_feed_L32])
    | succ n ih =>
      intro a1 a4 z h
      rw [fX9_feed_L32] at h
      refine zk_iload X 2 dX9_feed_32 rfl ?_
      refine zk_if_lt X (tgt := 74) dX9_feed_34 (by decide) h (fun h => ?_) (fun h => ?_)
      · refine zk_aload_n X 0 dX9_feed_74 rfl rfl ?_
        refine zk_get X iX9 (g := 20) (Nat.zero_lt_one) rfl rfl 1 (by decide) w0 rfl dX9_feed_75 ?_
        exact zk_ireturn X hr dX9_feed_78 h
      · refine zk_aload_n X 0 dX9_feed_37 rfl rfl ?_
        refine zk_get X iX9 (g := 20) (Nat.zero_lt_one) rfl rfl 0 (by decide) w1 rfl dX9_feed_38 ?_
        refine zk_aload_n X 0 dX9_feed_41 rfl rfl ?_
        refine zk_get X iX9 (g := 20) (Nat.zero_lt_one) rfl rfl 1 (by decide) w0 rfl dX9_feed_42 ?_
        refine zk_lload_n X 1 dX9_feed_45 rfl rfl ?_
        refine zk_bipush X (v := 8) dX9_feed_46 (by decide) ?_
        refine zk_iload X 2 dX9_feed_48 rfl ?_
        refine zk_imul X dX9_feed_50 ?_
        refine zk_lshr X dX9_feed_51 ?_
        refine zk_ldc2 X w2 dX9_feed_52 ?_
        refine zk_land X dX9_feed_55 ?_
        refine zk_l2i X dX9_feed_56 ?_
        refine zk_iast X (g := 21) (Nat.zero_lt_one) rfl rfl dX9_feed_57 h (fun h => ?_)
        refine zk_aload_n X 0 dX9_feed_58 rfl rfl ?_
        refine zk_dup X dX9_feed_59 rfl ?_
        refine zk_get X iX9 (g := 20) (Nat.zero_lt_one) rfl rfl 1 (by decide) w0 rfl dX9_feed_60 ?_
        refine zk_iconst X (v := 1) dX9_feed_63 (by decide) ?_
        refine zk_iadd X dX9_feed_64 ?_
        refine zk_putI X (ty := .int) iX9 tyX9 tyX9_ok nmX9 (g := 20) (Nat.zero_lt_one) rfl rfl 1 (by decide) w0 rfl (by decide +kernel) rfl rfl (Nat.le_of_ble_eq_true rfl) rfl dX9_feed_65 ?_
        refine zk_iinc X (lv' := [(4, .int (a4 + (-1))), (0, .ref (E.2.1 20 0)), (1, .long a1)]) 2 dX9_feed_68 rfl rfl (by decide) rfl ?_
        refine zk_goto X (tgt := 32) dX9_feed_71 (by decide) ?_
        exact zk_sub [1, 2, 0] rfl (ih _ _ _ h)
  unfold fX9_feed at h
  refine zk_iload_n X 2 dX9_feed_0 rfl rfl ?_
  refine zk_iconst X (v := 1) dX9_feed_1 (by decide) ?_
  refine zk_bipush X (v := 8) dX9_feed_2 (by decide) ?_
  refine zk_si X h (fun rr zz hf => ct_X9_in l E hi  x3 1 8 _ rr zz hf) (va_cwS 3 X.1.2.2.2.2 gX9_feed_X9_in rfl rfl rfl (by decide +kernel) ⟨Nat.le_of_ble_eq_true rfl, Nat.le_of_ble_eq_true rfl⟩) rfl rfl (Nat.le_of_ble_eq_true rfl) dX9_feed_4 (fun r2 z1 h => ?_)
  refine zk_if_ne X (tgt := 13) dX9_feed_7 (by decide) h (fun h => ?_) (fun h => ?_)
  · refine zk_bipush X (v := -2) dX9_feed_10 (by decide) ?_
    exact zk_ireturn X hr dX9_feed_12 h
  · refine zk_aload_n X 0 dX9_feed_13 rfl rfl ?_
    refine zk_get X iX9 (g := 20) (Nat.zero_lt_one) rfl rfl 1 (by decide) w0 rfl dX9_feed_14 ?_
    refine zk_iload_n X 2 dX9_feed_17 rfl rfl ?_
    refine zk_iadd X dX9_feed_18 ?_
    refine zk_bipush X (v := 80) dX9_feed_19 (by decide) ?_
    refine zk_icmp_le X (tgt := 27) dX9_feed_21 (by decide) h (fun h => ?_) (fun h => ?_)
    · refine zk_iload_n X 2 dX9_feed_27 rfl rfl ?_
      refine zk_iconst X (v := 1) dX9_feed_28 (by decide) ?_
      refine zk_isub X dX9_feed_29 ?_
      refine zk_istore X (lv' := [(4, .int (x3 - 1)), (0, .ref (E.2.1 20 0)), (1, .long x1), (3, .int x3)]) dX9_feed_30 (by decide) rfl ?_
      exact zk_sub [1, 2, 0] rfl (L32  _ _ _ _ h)
    · refine zk_bipush X (v := -4) dX9_feed_24 (by decide) ?_
      exact zk_ireturn X hr dX9_feed_26 h
def fX9_mayBe_B76 (c8 : Int32 → Int32 → Int32 → Int32 → zk_Z → Option (Int32 × zk_Z)) (a1 : Int32) (a2 : Int32) (a4 : Int32) (a5 : Int32) (z : zk_Z) : Option (Int32 × zk_Z) := c8 a1 a2 a4 (a5 + 1) z
def fX9_mayBe_L8 : Nat → Int32 → Int32 → Int32 → Int32 → zk_Z → Option (Int32 × zk_Z)
  | 0, _, _, _, _, _ => none
  | n + 1, a1, a2, a4, a5, z => zk_gd (zk_ix a1 9) (if (z.1 29 0 a1.toNatClampNeg) ≤ a5 then some (1, z) else zk_gd (zk_ix ((24 * a1) + a5) 216) (zk_gd (zk_ix ((24 * a1) + a5) 216) (if (((z.1 33 0 ((24 * a1) + a5).toNatClampNeg) ||| (z.1 34 0 ((24 * a1) + a5).toNatClampNeg)) &&& a4) = 0 then zk_gd (zk_ix a1 9) (zk_bd (fX9_is ((24 * a1) + a5) a2 z) (fun r2 z1 => zk_bd (fX9_wide ((24 * a1) + a5) z1) (fun r4 z3 => zk_bd (fX9_holds (z.1 27 0 a1.toNatClampNeg) r2 r4 z3) (fun r6 z5 => if r6 = 0 then some (0, z5) else fX9_mayBe_B76 (fX9_mayBe_L8 n) a1 a2 a4 a5 z5)))) else fX9_mayBe_B76 (fX9_mayBe_L8 n) a1 a2 a4 a5 z)))
def fX9_mayBe (x1 : Int32) (x2 : Int32) (x3 : Int32) (z : zk_Z) : Option (Int32 × zk_Z) := fX9_mayBe_L8 zk_FU x1 x2 ((-1 : Int32) <<< (x3 &&& 31)) 0 z
set_option maxRecDepth 100000 in
set_option maxHeartbeats 8000000 in
theorem ct_X9_mayBe (l : Launch) (E : zk_E) (hi : zk_inj E) (x1 : Int32) (x2 : Int32) (x3 : Int32) (z : zk_Z) (r : Int32) (z' : zk_Z) (h : fX9_mayBe  x1 x2 x3 z = some (r, z')) : Met l yX9_mayBe wsX9_mayBe { frames := 2, cells := 0, slots := 0, locals := 44 } (va_Pc [.ref (E.2.1 20 0), .int x1, .int x2, .int x3] (zk_W E z)) (zk_Qi E r z') 0 0 (zk_A E) := by
  refine zk_met (cc := cX9_mayBe) (maxL := 7) (ret := (some .boolean)) (own := RX9) (by decide) rfl rfl hi (Nat.le_of_ble_eq_true rfl) ?_
  intro p e s m args below meth c X hr
  have iX9 : ∀ w ∈ u_ws RX9 TX9 32, w ∈ wsX9_mayBe := by decide +kernel
  have w0 : Cond.fieldLink RX9 34 "HiddenWorksModel" "clauses" "[I" ∈ wsX9_mayBe := by decide +kernel
  have w1 : Cond.fieldLink RX9 46 "HiddenWorksModel" "plain" "[I" ∈ wsX9_mayBe := by decide +kernel
  have w2 : Cond.fieldLink RX9 49 "HiddenWorksModel" "against" "[I" ∈ wsX9_mayBe := by decide +kernel
  have w3 : Cond.fieldLink RX9 28 "HiddenWorksModel" "kind" "[I" ∈ wsX9_mayBe := by decide +kernel
  have B76 : ∀ (c8 : Int32 → Int32 → Int32 → Int32 → zk_Z → Option (Int32 × zk_Z)) (hc8 : ∀ (a1 : Int32) (a2 : Int32) (a4 : Int32) (a5 : Int32) (z : zk_Z), c8 a1 a2 a4 a5 z = some (r, z') → zk_G p l e (headSpec wsX9_mayBe { frames := 2, cells := 0, slots := 0, locals := 44 }).room s m args below meth c E 7 0 0 (MQ below (zk_Qi E r z') args s 0 0 (zk_A E)) 8 [(0, .ref (E.2.1 20 0)), (1, .int a1), (2, .int a2), (4, .int a4), (5, .int a5)] [] z) (a1 : Int32) (a2 : Int32) (a4 : Int32) (a5 : Int32) (z : zk_Z), fX9_mayBe_B76 c8 a1 a2 a4 a5 z = some (r, z') → zk_G p l e (headSpec wsX9_mayBe { frames := 2, cells := 0, slots := 0, locals := 44 }).room s m args below meth c E 7 0 0 (MQ below (zk_Qi E r z') args s 0 0 (zk_A E)) 76 [(0, .ref (E.2.1 20 0)), (1, .int a1), (2, .int a2), (4, .int a4), (5, .int a5)] [] z := by
    intro c8 hc8 a1 a2 a4 a5 z h
    unfold fX9_mayBe_B76 at h
    refine zk_iinc X (lv' := [(5, .int (a5 + 1)), (0, .ref (E.2.1 20 0)), (1, .int a1), (2, .int a2), (4, .int a4)]) 4 dX9_mayBe_76 rfl rfl (by decide) rfl ?_
    refine zk_goto X (tgt := 8) dX9_mayBe_79 (by decide) ?_
    exact zk_sub [1, 2, 3, 4, 0] rfl (hc8 _ _ _ _ _ h)
  have L8 : ∀ (n : Nat) (a1 : Int32) (a2 : Int32) (a4 : Int32) (a5 : Int32) (z : zk_Z), fX9_mayBe_L8 n a1 a2 a4 a5 z = some (r, z') → zk_G p l e (headSpec wsX9_mayBe { frames := 2, cells := 0, slots := 0, locals := 44 }).room s m args below meth c E 7 0 0 (MQ below (zk_Qi E r z') args s 0 0 (zk_A E)) 8 [(0, .ref (E.2.1 20 0)), (1, .int a1), (2, .int a2), (4, .int a4), (5, .int a5)] [] z := by
    intro n
    induction n with
    | zero => intro a1 a2 a4 a5 z h; exact absurd h (by simp [fX9_mayBe_L8])
    | succ n ih =>
      intro a1 a2 a4 a5 z h
      rw [fX9_mayBe_L8] at h
      refine zk_iload X 4 dX9_mayBe_8 rfl ?_
      refine zk_aload_n X 0 dX9_mayBe_10 rfl rfl ?_
      refine zk_get X iX9 (g := 20) (Nat.zero_lt_one) rfl rfl 11 (by decide) w0 rfl dX9_mayBe_11 ?_
      refine zk_iload_n X 1 dX9_mayBe_14 rfl rfl ?_
      refine zk_iald X (g := 29) (Nat.zero_lt_one) rfl dX9_mayBe_15 h (fun h => ?_)
      refine zk_icmp_ge X (tgt := 82) dX9_mayBe_16 (by decide) h (fun h => ?_) (fun h => ?_)
      · refine zk_iconst X (v := 1) dX9_mayBe_82 (by decide) ?_
        exact zk_zreturn X hr dX9_mayBe_83 rfl h
      · refine zk_bipush X (v := 24) dX9_mayBe_19 (by decide) ?_
        refine zk_iload_n X 1 dX9_mayBe_21 rfl rfl ?_
        refine zk_imul X dX9_mayBe_22 ?_
        refine zk_iload X 4 dX9_mayBe_23 rfl ?_
        refine zk_iadd X dX9_mayBe_25 ?_
        refine zk_istore X (lv' := [(6, .int ((24 * a1) + a5)), (0, .ref (E.2.1 20 0)), (1, .int a1), (2, .int a2), (4, .int a4), (5, .int a5)]) dX9_mayBe_26 (by decide) rfl ?_
        refine zk_aload_n X 1 dX9_mayBe_28 rfl rfl ?_
        refine zk_get X iX9 (g := 20) (Nat.zero_lt_one) rfl rfl 15 (by decide) w1 rfl dX9_mayBe_29 ?_
        refine zk_iload X 0 dX9_mayBe_32 rfl ?_
        refine zk_iald X (g := 33) (Nat.zero_lt_one) rfl dX9_mayBe_34 h (fun h => ?_)
        refine zk_aload_n X 1 dX9_mayBe_35 rfl rfl ?_
        refine zk_get X iX9 (g := 20) (Nat.zero_lt_one) rfl rfl 16 (by decide) w2 rfl dX9_mayBe_36 ?_
        refine zk_iload X 0 dX9_mayBe_39 rfl ?_
        refine zk_iald X (g := 34) (Nat.zero_lt_one) rfl dX9_mayBe_41 h (fun h => ?_)
        refine zk_ior X dX9_mayBe_42 ?_
        refine zk_iload X 4 dX9_mayBe_43 rfl ?_
        refine zk_iand X dX9_mayBe_45 ?_
        refine zk_if_ne X (tgt := 76) dX9_mayBe_46 (by decide) h (fun h => ?_) (fun h => ?_)
        · refine zk_aload_n X 1 dX9_mayBe_49 rfl rfl ?_
          refine zk_get X iX9 (g := 20) (Nat.zero_lt_one) rfl rfl 9 (by decide) w3 rfl dX9_mayBe_50 ?_
          refine zk_iload_n X 2 dX9_mayBe_53 rfl rfl ?_
          refine zk_iald X (g := 27) (Nat.zero_lt_one) rfl dX9_mayBe_54 h (fun h => ?_)
          refine zk_aload_n X 1 dX9_mayBe_55 rfl rfl ?_
          refine zk_iload X 0 dX9_mayBe_56 rfl ?_
          refine zk_iload_n X 3 dX9_mayBe_58 rfl rfl ?_
          refine zk_vi X h (fun rr zz hf => ct_X9_is l E hi ((24 * a1) + a5) a2 _ rr zz hf) (cwV 2 X.1.2.2.2.2 gX9_mayBe_X9_is rfl rfl rfl (by decide +kernel) ⟨Nat.le_of_ble_eq_true rfl, Nat.le_of_ble_eq_true rfl⟩) (zk_recv X (g := 20) (Nat.zero_lt_one) rfl rfl) rfl rfl (Nat.le_of_ble_eq_true rfl) dX9_mayBe_59 (fun r2 z1 h => ?_)
          refine zk_aload_n X 1 dX9_mayBe_62 rfl rfl ?_
          refine zk_iload X 0 dX9_mayBe_63 rfl ?_
          refine zk_vi X h (fun rr zz hf => ct_X9_wide l E hi ((24 * a1) + a5) _ rr zz hf) (cwV 1 X.1.2.2.2.2 gX9_mayBe_X9_wide rfl rfl rfl (by decide +kernel) ⟨Nat.le_of_ble_eq_true rfl, Nat.le_of_ble_eq_true rfl⟩) (zk_recv X (g := 20) (Nat.zero_lt_one) rfl rfl) rfl rfl (Nat.le_of_ble_eq_true rfl) dX9_mayBe_65 (fun r4 z3 h => ?_)
          refine zk_si X h (fun rr zz hf => ct_X9_holds l E hi (z.1 27 0 a1.toNatClampNeg) r2 r4 _ rr zz hf) (va_cwS 3 X.1.2.2.2.2 gX9_mayBe_X9_holds rfl rfl rfl (by decide +kernel) ⟨Nat.le_of_ble_eq_true rfl, Nat.le_of_ble_eq_true rfl⟩) rfl rfl (Nat.le_of_ble_eq_true rfl) dX9_mayBe_68 (fun r6 z5 h => ?_)
          refine zk_if_ne X (tgt := 76) dX9_mayBe_71 (by decide) h (fun h => ?_) (fun h => ?_)
          · refine zk_iconst X (v := 0) dX9_mayBe_74 (by decide) ?_
            exact zk_zreturn X hr dX9_mayBe_75 rfl h
          · exact zk_sub [1, 2, 3, 4, 5] rfl (B76 _ ih _ _ _ _ _ h)
        · exact zk_sub [1, 2, 3, 4, 5] rfl (B76 _ ih _ _ _ _ _ h)
  unfold fX9_mayBe at h
  refine zk_iconst X (v := -1) dX9_mayBe_0 (by decide) ?_
  refine zk_iload_n X 3 dX9_mayBe_1 rfl rfl ?_
  refine zk_ishl X dX9_mayBe_2 ?_
  refine zk_istore X (lv' := [(4, .int ((-1 : Int32) <<< (x3 &&& 31))), (0, .ref (E.2.1 20 0)), (1, .int x1), (2, .int x2), (3, .int x3)]) dX9_mayBe_3 (by decide) rfl ?_
  refine zk_iconst X (v := 0) dX9_mayBe_5 (by decide) ?_
  refine zk_istore X (lv' := [(5, .int 0), (4, .int ((-1 : Int32) <<< (x3 &&& 31))), (0, .ref (E.2.1 20 0)), (1, .int x1), (2, .int x2), (3, .int x3)]) dX9_mayBe_6 (by decide) rfl ?_
  exact zk_sub [2, 3, 4, 1, 0] rfl (L8  _ _ _ _ _ _ h)
def fX9_searches_B149 (c21 : Int32 → Int32 → Int32 → Int32 → Int32 → Int32 → zk_Z → Option (Int32 × zk_Z)) (a1 : Int32) (a2 : Int32) (a3 : Int32) (a4 : Int32) (a5 : Int32) (a6 : Int32) (z : zk_Z) : Option (Int32 × zk_Z) := c21 a1 a2 a3 a4 a5 a6 z
def fX9_searches_B146 (c21 : Int32 → Int32 → Int32 → Int32 → Int32 → Int32 → zk_Z → Option (Int32 × zk_Z)) (a1 : Int32) (a2 : Int32) (a3 : Int32) (a5 : Int32) (a6 : Int32) (s0 : Int32) (s1 : Int32) (z : zk_Z) : Option (Int32 × zk_Z) := fX9_searches_B149 c21 a1 a2 a3 (s1 ||| s0) a5 a6 z
def fX9_searches_B127 (c21 : Int32 → Int32 → Int32 → Int32 → Int32 → Int32 → zk_Z → Option (Int32 × zk_Z)) (a1 : Int32) (a2 : Int32) (a3 : Int32) (a4 : Int32) (a5 : Int32) (s0 : Int32) (z : zk_Z) : Option (Int32 × zk_Z) := if s0 = 0 then fX9_searches_B146 c21 a1 a2 a3 a5 s0 0 a4 z else fX9_searches_B146 c21 a1 a2 a3 a5 s0 ((1 : Int32) <<< ((a5 - 1) &&& 31)) a4 z
def fX9_searches_B117 (c21 : Int32 → Int32 → Int32 → Int32 → Int32 → Int32 → zk_Z → Option (Int32 × zk_Z)) (a1 : Int32) (a2 : Int32) (a3 : Int32) (a4 : Int32) (a5 : Int32) (z : zk_Z) : Option (Int32 × zk_Z) := if a5 ≤ 0 then fX9_searches_B127 c21 a1 a2 a3 a4 a5 0 z else fX9_searches_B127 c21 a1 a2 a3 a4 a5 1 z
def fX9_searches_L80 (c21 : Int32 → Int32 → Int32 → Int32 → Int32 → Int32 → zk_Z → Option (Int32 × zk_Z)) : Nat → Int32 → Int32 → Int32 → Int32 → Int32 → zk_Z → Option (Int32 × zk_Z)
  | 0, _, _, _, _, _, _ => none
  | n + 1, a1, a2, a3, a4, a5, z => if a5 ≤ 0 then fX9_searches_B117 c21 a1 a2 a3 a4 a5 z else if ((a4 >>> ((a5 - 1) &&& 31)) &&& 1) = 1 then (fX9_searches_L80 c21 n) a1 a2 a3 (a4 &&& (((1 : Int32) <<< ((a5 - 1) &&& 31)) ^^^ (-1))) (a5 + (-1)) z else fX9_searches_B117 c21 a1 a2 a3 a4 a5 z
def fX9_searches_B69 (c21 : Int32 → Int32 → Int32 → Int32 → Int32 → Int32 → zk_Z → Option (Int32 × zk_Z)) (a1 : Int32) (a2 : Int32) (a3 : Int32) (a4 : Int32) (a5 : Int32) (a6 : Int32) (a7 : Int32) (z : zk_Z) : Option (Int32 × zk_Z) := if a7 = 0 then fX9_searches_L80 c21 zk_FU a1 a2 a3 a4 a5 z else fX9_searches_B149 c21 a1 a2 a3 a4 (a5 + 1) a6 z
def fX9_searches_L21 : Nat → Int32 → Int32 → Int32 → Int32 → Int32 → Int32 → zk_Z → Option (Int32 × zk_Z)
  | 0, _, _, _, _, _, _, _ => none
  | n + 1, a1, a2, a3, a4, a5, a6, z => if a6 = 0 then some ((-1), z) else if a2 ≤ (z.1 20 0 30) then some ((-1), z) else zk_bd (fX9_mayBe a1 a4 a5 (zk_sI z 20 0 30 ((z.1 20 0 30) + 1))) (fun r2 z1 => if r2 = 0 then fX9_searches_B69 (fX9_searches_L21 n) a1 a2 a3 a4 a5 a6 r2 z1 else if a5 = a3 then some (a4, z1) else fX9_searches_B69 (fX9_searches_L21 n) a1 a2 a3 a4 a5 a6 r2 z1)
def fX9_searches (x1 : Int32) (x2 : Int32) (z : zk_Z) : Option (Int32 × zk_Z) := zk_gd (zk_ix x1 9) (fX9_searches_L21 zk_FU x1 x2 (z.1 28 0 x1.toNatClampNeg) 0 0 1 (zk_sI z 20 0 30 0))
set_option maxRecDepth 100000 in
set_option maxHeartbeats 8000000 in
theorem ct_X9_searches (l : Launch) (E : zk_E) (hi : zk_inj E) (x1 : Int32) (x2 : Int32) (z : zk_Z) (r : Int32) (z' : zk_Z) (h : fX9_searches  x1 x2 z = some (r, z')) : Met l yX9_searches wsX9_searches { frames := 3, cells := 0, slots := 0, locals := 70 } (va_Pc [.ref (E.2.1 20 0), .int x1, .int x2] (zk_W E z)) (zk_Qi E r z') 0 0 (zk_A E) := by
  refine zk_met (cc := cX9_searches) (maxL := 8) (ret := (some .int)) (own := RX9) (by decide) rfl rfl hi (Nat.le_of_ble_eq_true rfl) ?_
  intro p e s m args below meth c X hr
  have iX9 : ∀ w ∈ u_ws RX9 TX9 32, w ∈ wsX9_searches := by decide +kernel
  have w0 : Cond.fieldLink RX9 31 "HiddenWorksModel" "letters" "[I" ∈ wsX9_searches := by decide +kernel
  have w1 : Cond.fieldLink RX9 196 "HiddenWorksModel" "steps" "I" ∈ wsX9_searches := by decide +kernel
  have B149 : ∀ (c21 : Int32 → Int32 → Int32 → Int32 → Int32 → Int32 → zk_Z → Option (Int32 × zk_Z)) (hc21 : ∀ (a1 : Int32) (a2 : Int32) (a3 : Int32) (a4 : Int32) (a5 : Int32) (a6 : Int32) (z : zk_Z), c21 a1 a2 a3 a4 a5 a6 z = some (r, z') → zk_G p l e (headSpec wsX9_searches { frames := 3, cells := 0, slots := 0, locals := 70 }).room s m args below meth c E 8 0 0 (MQ below (zk_Qi E r z') args s 0 0 (zk_A E)) 21 [(0, .ref (E.2.1 20 0)), (1, .int a1), (2, .int a2), (3, .int a3), (4, .int a4), (5, .int a5), (6, .int a6)] [] z) (a1 : Int32) (a2 : Int32) (a3 : Int32) (a4 : Int32) (a5 : Int32) (a6 : Int32) (z : zk_Z), fX9_searches_B149 c21 a1 a2 a3 a4 a5 a6 z = some (r, z') → zk_G p l e (headSpec wsX9_searches { frames := 3, cells := 0, slots := 0, locals := 70 }).room s m args below meth c E 8 0 0 (MQ below (zk_Qi E r z') args s 0 0 (zk_A E)) 149 [(0, .ref (E.2.1 20 0)), (1, .int a1), (2, .int a2), (3, .int a3), (4, .int a4), (5, .int a5), (6, .int a6)] [] z := by
    intro c21 hc21 a1 a2 a3 a4 a5 a6 z h
    unfold fX9_searches_B149 at h
    refine zk_goto X (tgt := 21) dX9_searches_149 (by decide) ?_
    exact zk_sub [0, 1, 2, 3, 4, 5, 6] rfl (hc21 _ _ _ _ _ _ _ h)
  have B146 : ∀ (c21 : Int32 → Int32 → Int32 → Int32 → Int32 → Int32 → zk_Z → Option (Int32 × zk_Z)) (hc21 : ∀ (a1 : Int32) (a2 : Int32) (a3 : Int32) (a4 : Int32) (a5 : Int32) (a6 : Int32) (z : zk_Z), c21 a1 a2 a3 a4 a5 a6 z = some (r, z') → zk_G p l e (headSpec wsX9_searches { frames := 3, cells := 0, slots := 0, locals := 70 }).room s m args below meth c E 8 0 0 (MQ below (zk_Qi E r z') args s 0 0 (zk_A E)) 21 [(0, .ref (E.2.1 20 0)), (1, .int a1), (2, .int a2), (3, .int a3), (4, .int a4), (5, .int a5), (6, .int a6)] [] z) (a1 : Int32) (a2 : Int32) (a3 : Int32) (a5 : Int32) (a6 : Int32) (s0 : Int32) (s1 : Int32) (z : zk_Z), fX9_searches_B146 c21 a1 a2 a3 a5 a6 s0 s1 z = some (r, z') → zk_G p l e (headSpec wsX9_searches { frames := 3, cells := 0, slots := 0, locals := 70 }).room s m args below meth c E 8 0 0 (MQ below (zk_Qi E r z') args s 0 0 (zk_A E)) 146 [(0, .ref (E.2.1 20 0)), (1, .int a1), (2, .int a2), (3, .int a3), (5, .int a5), (6, .int a6)] [.int s0, .int s1] z := by
    intro c21 hc21 a1 a2 a3 a5 a6 s0 s1 z h
    unfold fX9_searches_B146 at h
    refine zk_ior X dX9_searches_146 ?_
    refine zk_istore X (lv' := [(4, .int (s1 ||| s0)), (0, .ref (E.2.1 20 0)), (1, .int a1), (2, .int a2), (3, .int a3), (5, .int a5), (6, .int a6)]) dX9_searches_147 (by decide) rfl ?_
    exact zk_sub [1, 2, 3, 4, 0, 5, 6] rfl (B149 _ hc21 _ _ _ _ _ _ _ h)
  have B127 : ∀ (c21 : Int32 → Int32 → Int32 → Int32 → Int32 → Int32 → zk_Z → Option (Int32 × zk_Z)) (hc21 : ∀ (a1 : Int32) (a2 : Int32) (a3 : Int32) (a4 : Int32) (a5 : Int32) (a6 : Int32) (z : zk_Z), c21 a1 a2 a3 a4 a5 a6 z = some (r, z') → zk_G p l e (headSpec wsX9_searches { frames := 3, cells := 0, slots := 0, locals := 70 }).room s m args below meth c E 8 0 0 (MQ below (zk_Qi E r z') args s 0 0 (zk_A E)) 21 [(0, .ref (E.2.1 20 0)), (1, .int a1), (2, .int a2), (3, .int a3), (4, .int a4), (5, .int a5), (6, .int a6)] [] z) (a1 : Int32) (a2 : Int32) (a3 : Int32) (a4 : Int32) (a5 : Int32) (s0 : Int32) (z : zk_Z), fX9_searches_B127 c21 a1 a2 a3 a4 a5 s0 z = some (r, z') → zk_G p l e (headSpec wsX9_searches { frames := 3, cells := 0, slots := 0, locals := 70 }).room s m args below meth c E 8 0 0 (MQ below (zk_Qi E r z') args s 0 0 (zk_A E)) 127 [(0, .ref (E.2.1 20 0)), (1, .int a1), (2, .int a2), (3, .int a3), (4, .int a4), (5, .int a5)] [.int s0] z := by
    intro c21 hc21 a1 a2 a3 a4 a5 s0 z h
    unfold fX9_searches_B127 at h
    refine zk_istore X (lv' := [(6, .int s0), (0, .ref (E.2.1 20 0)), (1, .int a1), (2, .int a2), (3, .int a3), (4, .int a4), (5, .int a5)]) dX9_searches_127 (by decide) rfl ?_
    refine zk_iload X 5 dX9_searches_129 rfl ?_
    refine zk_iload X 0 dX9_searches_131 rfl ?_
    refine zk_if_eq X (tgt := 145) dX9_searches_133 (by decide) h (fun h => ?_) (fun h => ?_)
    · refine zk_iconst X (v := 0) dX9_searches_145 (by decide) ?_
      exact zk_sub [1, 2, 3, 4, 6, 0] rfl (B146 _ hc21 _ _ _ _ _ _ _ _ h)
    · refine zk_iconst X (v := 1) dX9_searches_136 (by decide) ?_
      refine zk_iload X 6 dX9_searches_137 rfl ?_
      refine zk_iconst X (v := 1) dX9_searches_139 (by decide) ?_
      refine zk_isub X dX9_searches_140 ?_
      refine zk_ishl X dX9_searches_141 ?_
      refine zk_goto X (tgt := 146) dX9_searches_142 (by decide) ?_
      exact zk_sub [1, 2, 3, 4, 6, 0] rfl (B146 _ hc21 _ _ _ _ _ _ _ _ h)
  have B117 : ∀ (c21 : Int32 → Int32 → Int32 → Int32 → Int32 → Int32 → zk_Z → Option (Int32 × zk_Z)) (hc21 : ∀ (a1 : Int32) (a2 : Int32) (a3 : Int32) (a4 : Int32) (a5 : Int32) (a6 : Int32) (z : zk_Z), c21 a1 a2 a3 a4 a5 a6 z = some (r, z') → zk_G p l e (headSpec wsX9_searches { frames := 3, cells := 0, slots := 0, locals := 70 }).room s m args below meth c E 8 0 0 (MQ below (zk_Qi E r z') args s 0 0 (zk_A E)) 21 [(0, .ref (E.2.1 20 0)), (1, .int a1), (2, .int a2), (3, .int a3), (4, .int a4), (5, .int a5), (6, .int a6)] [] z) (a1 : Int32) (a2 : Int32) (a3 : Int32) (a4 : Int32) (a5 : Int32) (z : zk_Z), fX9_searches_B117 c21 a1 a2 a3 a4 a5 z = some (r, z') → zk_G p l e (headSpec wsX9_searches { frames := 3, cells := 0, slots := 0, locals := 70 }).room s m args below meth c E 8 0 0 (MQ below (zk_Qi E r z') args s 0 0 (zk_A E)) 117 [(0, .ref (E.2.1 20 0)), (1, .int a1), (2, .int a2), (3, .int a3), (4, .int a4), (5, .int a5)] [] z := by
    intro c21 hc21 a1 a2 a3 a4 a5 z h
    unfold fX9_searches_B117 at h
    refine zk_iload X 5 dX9_searches_117 rfl ?_
    refine zk_if_le X (tgt := 126) dX9_searches_119 (by decide) h (fun h => ?_) (fun h => ?_)
    · refine zk_iconst X (v := 0) dX9_searches_126 (by decide) ?_
      exact zk_sub [0, 1, 2, 3, 4, 5] rfl (B127 _ hc21 _ _ _ _ _ _ _ h)
    · refine zk_iconst X (v := 1) dX9_searches_122 (by decide) ?_
      refine zk_goto X (tgt := 127) dX9_searches_123 (by decide) ?_
      exact zk_sub [0, 1, 2, 3, 4, 5] rfl (B127 _ hc21 _ _ _ _ _ _ _ h)
  have L80 : ∀ (c21 : Int32 → Int32 → Int32 → Int32 → Int32 → Int32 → zk_Z → Option (Int32 × zk_Z)) (hc21 : ∀ (a1 : Int32) (a2 : Int32) (a3 : Int32) (a4 : Int32) (a5 : Int32) (a6 : Int32) (z : zk_Z), c21 a1 a2 a3 a4 a5 a6 z = some (r, z') → zk_G p l e (headSpec wsX9_searches { frames := 3, cells := 0, slots := 0, locals := 70 }).room s m args below meth c E 8 0 0 (MQ below (zk_Qi E r z') args s 0 0 (zk_A E)) 21 [(0, .ref (E.2.1 20 0)), (1, .int a1), (2, .int a2), (3, .int a3), (4, .int a4), (5, .int a5), (6, .int a6)] [] z) (n : Nat) (a1 : Int32) (a2 : Int32) (a3 : Int32) (a4 : Int32) (a5 : Int32) (z : zk_Z), fX9_searches_L80 c21 n a1 a2 a3 a4 a5 z = some (r, z') → zk_G p l e (headSpec wsX9_searches { frames := 3, cells := 0, slots := 0, locals := 70 }).room s m args below meth c E 8 0 0 (MQ below (zk_Qi E r z') args s 0 0 (zk_A E)) 80 [(0, .ref (E.2.1 20 0)), (1, .int a1), (2, .int a2), (3, .int a3), (4, .int a4), (5, .int a5)] [] z := by
    intro c21 hc21 n
    induction n with
    | zero => intro a1 a2 a3 a4 a5 z h; exact absurd h (by simp [fX9_searches_L80])
    | succ n ih =>
      intro a1 a2 a3 a4 a5 z h
      rw [fX9_searches_L80] at h
      refine zk_iload X 5 dX9_searches_80 rfl ?_
      refine zk_if_le X (tgt := 117) dX9_searches_82 (by decide) h (fun h => ?_) (fun h => ?_)
      · exact zk_sub [0, 1, 2, 3, 4, 5] rfl (B117 _ hc21 _ _ _ _ _ _ h)
      · refine zk_iload X 4 dX9_searches_85 rfl ?_
        refine zk_iload X 5 dX9_searches_87 rfl ?_
        refine zk_iconst X (v := 1) dX9_searches_89 (by decide) ?_
        refine zk_isub X dX9_searches_90 ?_
        refine zk_ishr X dX9_searches_91 ?_
        refine zk_iconst X (v := 1) dX9_searches_92 (by decide) ?_
        refine zk_iand X dX9_searches_93 ?_
        refine zk_iconst X (v := 1) dX9_searches_94 (by decide) ?_
        refine zk_icmp_ne X (tgt := 117) dX9_searches_95 (by decide) h (fun h => ?_) (fun h => ?_)
        · refine zk_iload X 4 dX9_searches_98 rfl ?_
          refine zk_iconst X (v := 1) dX9_searches_100 (by decide) ?_
          refine zk_iload X 5 dX9_searches_101 rfl ?_
          refine zk_iconst X (v := 1) dX9_searches_103 (by decide) ?_
          refine zk_isub X dX9_searches_104 ?_
          refine zk_ishl X dX9_searches_105 ?_
          refine zk_iconst X (v := -1) dX9_searches_106 (by decide) ?_
          refine zk_ixor X dX9_searches_107 ?_
          refine zk_iand X dX9_searches_108 ?_
          refine zk_istore X (lv' := [(4, .int (a4 &&& (((1 : Int32) <<< ((a5 - 1) &&& 31)) ^^^ (-1)))), (0, .ref (E.2.1 20 0)), (1, .int a1), (2, .int a2), (3, .int a3), (5, .int a5)]) dX9_searches_109 (by decide) rfl ?_
          refine zk_iinc X (lv' := [(5, .int (a5 + (-1))), (4, .int (a4 &&& (((1 : Int32) <<< ((a5 - 1) &&& 31)) ^^^ (-1)))), (0, .ref (E.2.1 20 0)), (1, .int a1), (2, .int a2), (3, .int a3)]) 5 dX9_searches_111 rfl rfl (by decide) rfl ?_
          refine zk_goto X (tgt := 80) dX9_searches_114 (by decide) ?_
          exact zk_sub [2, 3, 4, 5, 1, 0] rfl (ih _ _ _ _ _ _ h)
        · exact zk_sub [0, 1, 2, 3, 4, 5] rfl (B117 _ hc21 _ _ _ _ _ _ h)
  have B69 : ∀ (c21 : Int32 → Int32 → Int32 → Int32 → Int32 → Int32 → zk_Z → Option (Int32 × zk_Z)) (hc21 : ∀ (a1 : Int32) (a2 : Int32) (a3 : Int32) (a4 : Int32) (a5 : Int32) (a6 : Int32) (z : zk_Z), c21 a1 a2 a3 a4 a5 a6 z = some (r, z') → zk_G p l e (headSpec wsX9_searches { frames := 3, cells := 0, slots := 0, locals := 70 }).room s m args below meth c E 8 0 0 (MQ below (zk_Qi E r z') args s 0 0 (zk_A E)) 21 [(0, .ref (E.2.1 20 0)), (1, .int a1), (2, .int a2), (3, .int a3), (4, .int a4), (5, .int a5), (6, .int a6)] [] z) (a1 : Int32) (a2 : Int32) (a3 : Int32) (a4 : Int32) (a5 : Int32) (a6 : Int32) (a7 : Int32) (z : zk_Z), fX9_searches_B69 c21 a1 a2 a3 a4 a5 a6 a7 z = some (r, z') → zk_G p l e (headSpec wsX9_searches { frames := 3, cells := 0, slots := 0, locals := 70 }).room s m args below meth c E 8 0 0 (MQ below (zk_Qi E r z') args s 0 0 (zk_A E)) 69 [(0, .ref (E.2.1 20 0)), (1, .int a1), (2, .int a2), (3, .int a3), (4, .int a4), (5, .int a5), (6, .int a6), (7, .int a7)] [] z := by
    intro c21 hc21 a1 a2 a3 a4 a5 a6 a7 z h
    unfold fX9_searches_B69 at h
    refine zk_iload X 7 dX9_searches_69 rfl ?_
    refine zk_if_eq X (tgt := 80) dX9_searches_71 (by decide) h (fun h => ?_) (fun h => ?_)
    · exact zk_sub [0, 1, 2, 3, 4, 5] rfl (L80 _ hc21 _ _ _ _ _ _ _ h)
    · refine zk_iinc X (lv' := [(5, .int (a5 + 1)), (0, .ref (E.2.1 20 0)), (1, .int a1), (2, .int a2), (3, .int a3), (4, .int a4), (6, .int a6), (7, .int a7)]) 5 dX9_searches_74 rfl rfl (by decide) rfl ?_
      refine zk_goto X (tgt := 149) dX9_searches_77 (by decide) ?_
      exact zk_sub [1, 2, 3, 4, 5, 0, 6] rfl (B149 _ hc21 _ _ _ _ _ _ _ h)
  have L21 : ∀ (n : Nat) (a1 : Int32) (a2 : Int32) (a3 : Int32) (a4 : Int32) (a5 : Int32) (a6 : Int32) (z : zk_Z), fX9_searches_L21 n a1 a2 a3 a4 a5 a6 z = some (r, z') → zk_G p l e (headSpec wsX9_searches { frames := 3, cells := 0, slots := 0, locals := 70 }).room s m args below meth c E 8 0 0 (MQ below (zk_Qi E r z') args s 0 0 (zk_A E)) 21 [(0, .ref (E.2.1 20 0)), (1, .int a1), (2, .int a2), (3, .int a3), (4, .int a4), (5, .int a5), (6, .int a6)] [] z := by
    intro n
    induction n with
    | zero => intro a1 a2 a3 a4 a5 a6 z h; exact absurd h (by simp [fX9_searches_L21])
    | succ n ih =>
      intro a1 a2 a3 a4 a5 a6 z h
      rw [fX9_searches_L21] at h
      refine zk_iload X 6 dX9_searches_21 rfl ?_
      refine zk_if_eq X (tgt := 152) dX9_searches_23 (by decide) h (fun h => ?_) (fun h => ?_)
      · refine zk_iconst X (v := -1) dX9_searches_152 (by decide) ?_
        exact zk_ireturn X hr dX9_searches_153 h
      · refine zk_aload_n X 0 dX9_searches_26 rfl rfl ?_
        refine zk_get X iX9 (g := 20) (Nat.zero_lt_one) rfl rfl 30 (by decide) w1 rfl dX9_searches_27 ?_
        refine zk_iload_n X 2 dX9_searches_30 rfl rfl ?_
        refine zk_icmp_ge X (tgt := 152) dX9_searches_31 (by decide) h (fun h => ?_) (fun h => ?_)
        · refine zk_iconst X (v := -1) dX9_searches_152 (by decide) ?_
          exact zk_ireturn X hr dX9_searches_153 h
        · refine zk_aload_n X 0 dX9_searches_34 rfl rfl ?_
          refine zk_dup X dX9_searches_35 rfl ?_
          refine zk_get X iX9 (g := 20) (Nat.zero_lt_one) rfl rfl 30 (by decide) w1 rfl dX9_searches_36 ?_
          refine zk_iconst X (v := 1) dX9_searches_39 (by decide) ?_
          refine zk_iadd X dX9_searches_40 ?_
          refine zk_putI X (ty := .int) iX9 tyX9 tyX9_ok nmX9 (g := 20) (Nat.zero_lt_one) rfl rfl 30 (by decide) w1 rfl (by decide +kernel) rfl rfl (Nat.le_of_ble_eq_true rfl) rfl dX9_searches_41 ?_
          refine zk_aload_n X 0 dX9_searches_44 rfl rfl ?_
          refine zk_iload_n X 1 dX9_searches_45 rfl rfl ?_
          refine zk_iload X 4 dX9_searches_46 rfl ?_
          refine zk_iload X 5 dX9_searches_48 rfl ?_
          refine zk_vi X h (fun rr zz hf => ct_X9_mayBe l E hi a1 a4 a5 _ rr zz hf) (cwV 3 X.1.2.2.2.2 gX9_searches_X9_mayBe rfl rfl rfl (by decide +kernel) ⟨Nat.le_of_ble_eq_true rfl, Nat.le_of_ble_eq_true rfl⟩) (zk_recv X (g := 20) (Nat.zero_lt_one) rfl rfl) rfl rfl (Nat.le_of_ble_eq_true rfl) dX9_searches_50 (fun r2 z1 h => ?_)
          refine zk_istore X (lv' := [(7, .int r2), (0, .ref (E.2.1 20 0)), (1, .int a1), (2, .int a2), (3, .int a3), (4, .int a4), (5, .int a5), (6, .int a6)]) dX9_searches_53 (by decide) rfl ?_
          refine zk_iload X 0 dX9_searches_55 rfl ?_
          refine zk_if_eq X (tgt := 69) dX9_searches_57 (by decide) h (fun h => ?_) (fun h => ?_)
          · exact zk_sub [1, 2, 3, 4, 5, 6, 7, 0] rfl (B69 _ ih _ _ _ _ _ _ _ _ h)
          · refine zk_iload X 6 dX9_searches_60 rfl ?_
            refine zk_iload_n X 4 dX9_searches_62 rfl rfl ?_
            refine zk_icmp_ne X (tgt := 69) dX9_searches_63 (by decide) h (fun h => ?_) (fun h => ?_)
            · refine zk_iload X 5 dX9_searches_66 rfl ?_
              exact zk_ireturn X hr dX9_searches_68 h
            · exact zk_sub [1, 2, 3, 4, 5, 6, 7, 0] rfl (B69 _ ih _ _ _ _ _ _ _ _ h)
  unfold fX9_searches at h
  refine zk_aload_n X 0 dX9_searches_0 rfl rfl ?_
  refine zk_get X iX9 (g := 20) (Nat.zero_lt_one) rfl rfl 10 (by decide) w0 rfl dX9_searches_1 ?_
  refine zk_iload_n X 1 dX9_searches_4 rfl rfl ?_
  refine zk_iald X (g := 28) (Nat.zero_lt_one) rfl dX9_searches_5 h (fun h => ?_)
  refine zk_istore_n X (lv' := [(3, .int (z.1 28 0 x1.toNatClampNeg)), (0, .ref (E.2.1 20 0)), (1, .int x1), (2, .int x2)]) dX9_searches_6 rfl (by decide) rfl ?_
  refine zk_iconst X (v := 0) dX9_searches_7 (by decide) ?_
  refine zk_istore X (lv' := [(4, .int 0), (3, .int (z.1 28 0 x1.toNatClampNeg)), (0, .ref (E.2.1 20 0)), (1, .int x1), (2, .int x2)]) dX9_searches_8 (by decide) rfl ?_
  refine zk_iconst X (v := 0) dX9_searches_10 (by decide) ?_
  refine zk_istore X (lv' := [(5, .int 0), (4, .int 0), (3, .int (z.1 28 0 x1.toNatClampNeg)), (0, .ref (E.2.1 20 0)), (1, .int x1), (2, .int x2)]) dX9_searches_11 (by decide) rfl ?_
  refine zk_aload_n X 3 dX9_searches_13 rfl rfl ?_
  refine zk_iconst X (v := 0) dX9_searches_14 (by decide) ?_
  refine zk_putI X (ty := .int) iX9 tyX9 tyX9_ok nmX9 (g := 20) (Nat.zero_lt_one) rfl rfl 30 (by decide) w1 rfl (by decide +kernel) rfl rfl (Nat.le_of_ble_eq_true rfl) rfl dX9_searches_15 ?_
  refine zk_iconst X (v := 1) dX9_searches_18 (by decide) ?_
  refine zk_istore X (lv' := [(6, .int 1), (5, .int 0), (4, .int 0), (3, .int (z.1 28 0 x1.toNatClampNeg)), (0, .ref (E.2.1 20 0)), (1, .int x1), (2, .int x2)]) dX9_searches_19 (by decide) rfl ?_
  exact zk_sub [4, 5, 6, 3, 2, 1, 0] rfl (L21  _ _ _ _ _ _ _ _ h)
def fX9_finds_B14 (a1 : Int32) (a3 : Int32) (s0 : Int32) (z : zk_Z) : Option (Int32 × zk_Z) := if a3 ≤ 0 then some ((-1), zk_sI z 20 0 30 s0) else zk_bd (fX9_countsRow a1 (zk_sI z 20 0 30 s0)) (fun r2 z1 => zk_bd (fX9_doesSolve a1 r2 z1) (fun r4 z3 => if r4 = 0 then some ((-1), z3) else zk_bd (fX9_countsRow a1 z3) (fun r6 z5 => some (r6, z5))))
def fX9_finds_B74 (a3 : Int32) (s0 : Int32) (s1 : Int32) (z : zk_Z) : Option (Int32 × zk_Z) := zk_bd (fX9_climbs s1 s0 a3 z) (fun r10 z9 => some (r10, z9))
def fX9_finds (x1 : Int32) (x2 : Int32) (x3 : Int32) (z : zk_Z) : Option (Int32 × zk_Z) := if x2 = 0 then if x3 ≤ 0 then fX9_finds_B14 x1 x3 0 z else fX9_finds_B14 x1 x3 1 z else if x2 = 3 then zk_bd (fX9_searches x1 x3 z) (fun r8 z7 => some (r8, z7)) else if x2 = 1 then fX9_finds_B74 x3 0 x1 z else zk_bd (fX9_countsRow x1 z) (fun r12 z11 => fX9_finds_B74 x3 r12 x1 z11)
set_option maxRecDepth 100000 in
set_option maxHeartbeats 8000000 in
theorem ct_X9_finds (l : Launch) (E : zk_E) (hi : zk_inj E) (x1 : Int32) (x2 : Int32) (x3 : Int32) (z : zk_Z) (r : Int32) (z' : zk_Z) (h : fX9_finds  x1 x2 x3 z = some (r, z')) : Met l yX9_finds wsX9_finds { frames := 5, cells := 0, slots := 0, locals := 117 } (va_Pc [.ref (E.2.1 20 0), .int x1, .int x2, .int x3] (zk_W E z)) (zk_Qi E r z') 0 0 (zk_A E) := by
  refine zk_met (cc := cX9_finds) (maxL := 4) (ret := (some .int)) (own := RX9) (by decide) rfl rfl hi (Nat.le_of_ble_eq_true rfl) ?_
  intro p e s m args below meth c X hr
  have iX9 : ∀ w ∈ u_ws RX9 TX9 32, w ∈ wsX9_finds := by decide +kernel
  have w0 : Cond.fieldLink RX9 196 "HiddenWorksModel" "steps" "I" ∈ wsX9_finds := by decide +kernel
  have B14 : ∀ (a1 : Int32) (a3 : Int32) (s0 : Int32) (z : zk_Z), fX9_finds_B14 a1 a3 s0 z = some (r, z') → zk_G p l e (headSpec wsX9_finds { frames := 5, cells := 0, slots := 0, locals := 117 }).room s m args below meth c E 4 0 0 (MQ below (zk_Qi E r z') args s 0 0 (zk_A E)) 14 [(0, .ref (E.2.1 20 0)), (1, .int a1), (3, .int a3)] [.int s0, .ref (E.2.1 20 0)] z := by
    intro a1 a3 s0 z h
    unfold fX9_finds_B14 at h
    refine zk_putI X (ty := .int) iX9 tyX9 tyX9_ok nmX9 (g := 20) (Nat.zero_lt_one) rfl rfl 30 (by decide) w0 rfl (by decide +kernel) rfl rfl (Nat.le_of_ble_eq_true rfl) rfl dX9_finds_14 ?_
    refine zk_iload_n X 2 dX9_finds_17 rfl rfl ?_
    refine zk_if_le X (tgt := 42) dX9_finds_18 (by decide) h (fun h => ?_) (fun h => ?_)
    · refine zk_iconst X (v := -1) dX9_finds_42 (by decide) ?_
      exact zk_ireturn X hr dX9_finds_43 h
    · refine zk_aload_n X 0 dX9_finds_21 rfl rfl ?_
      refine zk_iload_n X 1 dX9_finds_22 rfl rfl ?_
      refine zk_aload_n X 0 dX9_finds_23 rfl rfl ?_
      refine zk_iload_n X 1 dX9_finds_24 rfl rfl ?_
      refine zk_vi X h (fun rr zz hf => ct_X9_countsRow l E hi a1 _ rr zz hf) (cwV 1 X.1.2.2.2.2 gX9_finds_X9_countsRow rfl rfl rfl (by decide +kernel) ⟨Nat.le_of_ble_eq_true rfl, Nat.le_of_ble_eq_true rfl⟩) (zk_recv X (g := 20) (Nat.zero_lt_one) rfl rfl) rfl rfl (Nat.le_of_ble_eq_true rfl) dX9_finds_25 (fun r2 z1 h => ?_)
      refine zk_vi X h (fun rr zz hf => ct_X9_doesSolve l E hi a1 r2 _ rr zz hf) (cwV 2 X.1.2.2.2.2 gX9_finds_X9_doesSolve rfl rfl rfl (by decide +kernel) ⟨Nat.le_of_ble_eq_true rfl, Nat.le_of_ble_eq_true rfl⟩) (zk_recv X (g := 20) (Nat.zero_lt_one) rfl rfl) rfl rfl (Nat.le_of_ble_eq_true rfl) dX9_finds_28 (fun r4 z3 h => ?_)
      refine zk_if_eq X (tgt := 42) dX9_finds_31 (by decide) h (fun h => ?_) (fun h => ?_)
      · refine zk_iconst X (v := -1) dX9_finds_42 (by decide) ?_
        exact zk_ireturn X hr dX9_finds_43 h
      · refine zk_aload_n X 0 dX9_finds_34 rfl rfl ?_
        refine zk_iload_n X 1 dX9_finds_35 rfl rfl ?_
        refine zk_vi X h (fun rr zz hf => ct_X9_countsRow l E hi a1 _ rr zz hf) (cwV 1 X.1.2.2.2.2 gX9_finds_X9_countsRow rfl rfl rfl (by decide +kernel) ⟨Nat.le_of_ble_eq_true rfl, Nat.le_of_ble_eq_true rfl⟩) (zk_recv X (g := 20) (Nat.zero_lt_one) rfl rfl) rfl rfl (Nat.le_of_ble_eq_true rfl) dX9_finds_36 (fun r6 z5 h => ?_)
        refine zk_goto X (tgt := 43) dX9_finds_39 (by decide) ?_
        exact zk_ireturn X hr dX9_finds_43 h
  have B74 : ∀ (a3 : Int32) (s0 : Int32) (s1 : Int32) (z : zk_Z), fX9_finds_B74 a3 s0 s1 z = some (r, z') → zk_G p l e (headSpec wsX9_finds { frames := 5, cells := 0, slots := 0, locals := 117 }).room s m args below meth c E 4 0 0 (MQ below (zk_Qi E r z') args s 0 0 (zk_A E)) 74 [(3, .int a3)] [.int s0, .int s1, .ref (E.2.1 20 0)] z := by
    intro a3 s0 s1 z h
    unfold fX9_finds_B74 at h
    refine zk_iload_n X 0 dX9_finds_74 rfl rfl ?_
    refine zk_vi X h (fun rr zz hf => ct_X9_climbs l E hi s1 s0 a3 _ rr zz hf) (cwV 3 X.1.2.2.2.2 gX9_finds_X9_climbs rfl rfl rfl (by decide +kernel) ⟨Nat.le_of_ble_eq_true rfl, Nat.le_of_ble_eq_true rfl⟩) (zk_recv X (g := 20) (Nat.zero_lt_one) rfl rfl) rfl rfl (Nat.le_of_ble_eq_true rfl) dX9_finds_75 (fun r10 z9 h => ?_)
    exact zk_ireturn X hr dX9_finds_78 h
  unfold fX9_finds at h
  refine zk_iload_n X 2 dX9_finds_0 rfl rfl ?_
  refine zk_if_ne X (tgt := 44) dX9_finds_1 (by decide) h (fun h => ?_) (fun h => ?_)
  · refine zk_aload_n X 0 dX9_finds_4 rfl rfl ?_
    refine zk_iload_n X 3 dX9_finds_5 rfl rfl ?_
    refine zk_if_le X (tgt := 13) dX9_finds_6 (by decide) h (fun h => ?_) (fun h => ?_)
    · refine zk_iconst X (v := 0) dX9_finds_13 (by decide) ?_
      exact zk_sub [0, 1, 3] rfl (B14  _ _ _ _ h)
    · refine zk_iconst X (v := 1) dX9_finds_9 (by decide) ?_
      refine zk_goto X (tgt := 14) dX9_finds_10 (by decide) ?_
      exact zk_sub [0, 1, 3] rfl (B14  _ _ _ _ h)
  · refine zk_iload_n X 2 dX9_finds_44 rfl rfl ?_
    refine zk_iconst X (v := 3) dX9_finds_45 (by decide) ?_
    refine zk_icmp_ne X (tgt := 58) dX9_finds_46 (by decide) h (fun h => ?_) (fun h => ?_)
    · refine zk_aload_n X 0 dX9_finds_49 rfl rfl ?_
      refine zk_iload_n X 1 dX9_finds_50 rfl rfl ?_
      refine zk_iload_n X 3 dX9_finds_51 rfl rfl ?_
      refine zk_vi X h (fun rr zz hf => ct_X9_searches l E hi  x1 x3 _ rr zz hf) (cwV 2 X.1.2.2.2.2 gX9_finds_X9_searches rfl rfl rfl (by decide +kernel) ⟨Nat.le_of_ble_eq_true rfl, Nat.le_of_ble_eq_true rfl⟩) (zk_recv X (g := 20) (Nat.zero_lt_one) rfl rfl) rfl rfl (Nat.le_of_ble_eq_true rfl) dX9_finds_52 (fun r8 z7 h => ?_)
      refine zk_goto X (tgt := 78) dX9_finds_55 (by decide) ?_
      exact zk_ireturn X hr dX9_finds_78 h
    · refine zk_aload_n X 0 dX9_finds_58 rfl rfl ?_
      refine zk_iload_n X 1 dX9_finds_59 rfl rfl ?_
      refine zk_iload_n X 2 dX9_finds_60 rfl rfl ?_
      refine zk_iconst X (v := 1) dX9_finds_61 (by decide) ?_
      refine zk_icmp_ne X (tgt := 69) dX9_finds_62 (by decide) h (fun h => ?_) (fun h => ?_)
      · refine zk_iconst X (v := 0) dX9_finds_65 (by decide) ?_
        refine zk_goto X (tgt := 74) dX9_finds_66 (by decide) ?_
        exact zk_sub [3] rfl (B74  _ _ _ _ h)
      · refine zk_aload_n X 0 dX9_finds_69 rfl rfl ?_
        refine zk_iload_n X 1 dX9_finds_70 rfl rfl ?_
        refine zk_vi X h (fun rr zz hf => ct_X9_countsRow l E hi  x1 _ rr zz hf) (cwV 1 X.1.2.2.2.2 gX9_finds_X9_countsRow rfl rfl rfl (by decide +kernel) ⟨Nat.le_of_ble_eq_true rfl, Nat.le_of_ble_eq_true rfl⟩) (zk_recv X (g := 20) (Nat.zero_lt_one) rfl rfl) rfl rfl (Nat.le_of_ble_eq_true rfl) dX9_finds_71 (fun r12 z11 h => ?_)
        exact zk_sub [3] rfl (B74  _ _ _ _ h)
def fX9_find (x1 : Int32) (x2 : Int32) (x3 : Int32) (x4 : Int32) (z : zk_Z) : Option (Int32 × zk_Z) := zk_bd (fX9_isTask x1 z) (fun r2 z1 => if r2 = 0 then some ((-5), z1) else zk_bd (fX9_in x2 0 3 z1) (fun r4 z3 => if r4 = 0 then some ((-2), z3) else zk_bd (fX9_in x3 0 2000 z3) (fun r6 z5 => if r6 = 0 then some ((-2), z5) else zk_bd (fX9_in x4 0 2 z5) (fun r8 z7 => if r8 = 0 then some ((-2), z7) else zk_bd (fX9_finds x1 x2 x3 z7) (fun r10 z9 => if x4 = 0 then some (r10, z9) else if x4 = 1 then some (z9.1 20 0 30, z9) else if r10 = (-1) then some (0, z9) else zk_gd (zk_ix x1 9) (if r10 = (z9.1 30 0 x1.toNatClampNeg) then some (1, z9) else some (0, z9)))))))
set_option maxRecDepth 100000 in
set_option maxHeartbeats 8000000 in
theorem ct_X9_find (l : Launch) (E : zk_E) (hi : zk_inj E) (x1 : Int32) (x2 : Int32) (x3 : Int32) (x4 : Int32) (z : zk_Z) (r : Int32) (z' : zk_Z) (h : fX9_find  x1 x2 x3 x4 z = some (r, z')) : Met l yX9_find wsX9_find { frames := 6, cells := 0, slots := 0, locals := 140 } (va_Pc [.ref (E.2.1 20 0), .int x1, .int x2, .int x3, .int x4] (zk_W E z)) (zk_Qi E r z') 0 0 (zk_A E) := by
  refine zk_met (cc := cX9_find) (maxL := 6) (ret := (some .int)) (own := RX9) (by decide) rfl rfl hi (Nat.le_of_ble_eq_true rfl) ?_
  intro p e s m args below meth c X hr
  have iX9 : ∀ w ∈ u_ws RX9 TX9 32, w ∈ wsX9_find := by decide +kernel
  have w0 : Cond.fieldLink RX9 196 "HiddenWorksModel" "steps" "I" ∈ wsX9_find := by decide +kernel
  have w1 : Cond.fieldLink RX9 37 "HiddenWorksModel" "hidden" "[I" ∈ wsX9_find := by decide +kernel
  unfold fX9_find at h
  refine zk_aload_n X 0 dX9_find_0 rfl rfl ?_
  refine zk_iload_n X 1 dX9_find_1 rfl rfl ?_
  refine zk_vi X h (fun rr zz hf => ct_X9_isTask l E hi  x1 _ rr zz hf) (cwV 1 X.1.2.2.2.2 gX9_find_X9_isTask rfl rfl rfl (by decide +kernel) ⟨Nat.le_of_ble_eq_true rfl, Nat.le_of_ble_eq_true rfl⟩) (zk_recv X (g := 20) (Nat.zero_lt_one) rfl rfl) rfl rfl (Nat.le_of_ble_eq_true rfl) dX9_find_2 (fun r2 z1 h => ?_)
  refine zk_if_ne X (tgt := 11) dX9_find_5 (by decide) h (fun h => ?_) (fun h => ?_)
  · refine zk_bipush X (v := -5) dX9_find_8 (by decide) ?_
    exact zk_ireturn X hr dX9_find_10 h
  · refine zk_iload_n X 2 dX9_find_11 rfl rfl ?_
    refine zk_iconst X (v := 0) dX9_find_12 (by decide) ?_
    refine zk_iconst X (v := 3) dX9_find_13 (by decide) ?_
    refine zk_si X h (fun rr zz hf => ct_X9_in l E hi  x2 0 3 _ rr zz hf) (va_cwS 3 X.1.2.2.2.2 gX9_find_X9_in rfl rfl rfl (by decide +kernel) ⟨Nat.le_of_ble_eq_true rfl, Nat.le_of_ble_eq_true rfl⟩) rfl rfl (Nat.le_of_ble_eq_true rfl) dX9_find_14 (fun r4 z3 h => ?_)
    refine zk_if_eq X (tgt := 41) dX9_find_17 (by decide) h (fun h => ?_) (fun h => ?_)
    · refine zk_bipush X (v := -2) dX9_find_41 (by decide) ?_
      exact zk_ireturn X hr dX9_find_43 h
    · refine zk_iload_n X 3 dX9_find_20 rfl rfl ?_
      refine zk_iconst X (v := 0) dX9_find_21 (by decide) ?_
      refine zk_sipush X (v := 2000) dX9_find_22 (by decide) ?_
      refine zk_si X h (fun rr zz hf => ct_X9_in l E hi  x3 0 2000 _ rr zz hf) (va_cwS 3 X.1.2.2.2.2 gX9_find_X9_in rfl rfl rfl (by decide +kernel) ⟨Nat.le_of_ble_eq_true rfl, Nat.le_of_ble_eq_true rfl⟩) rfl rfl (Nat.le_of_ble_eq_true rfl) dX9_find_25 (fun r6 z5 h => ?_)
      refine zk_if_eq X (tgt := 41) dX9_find_28 (by decide) h (fun h => ?_) (fun h => ?_)
      · refine zk_bipush X (v := -2) dX9_find_41 (by decide) ?_
        exact zk_ireturn X hr dX9_find_43 h
      · refine zk_iload X 4 dX9_find_31 rfl ?_
        refine zk_iconst X (v := 0) dX9_find_33 (by decide) ?_
        refine zk_iconst X (v := 2) dX9_find_34 (by decide) ?_
        refine zk_si X h (fun rr zz hf => ct_X9_in l E hi  x4 0 2 _ rr zz hf) (va_cwS 3 X.1.2.2.2.2 gX9_find_X9_in rfl rfl rfl (by decide +kernel) ⟨Nat.le_of_ble_eq_true rfl, Nat.le_of_ble_eq_true rfl⟩) rfl rfl (Nat.le_of_ble_eq_true rfl) dX9_find_35 (fun r8 z7 h => ?_)
        refine zk_if_ne X (tgt := 44) dX9_find_38 (by decide) h (fun h => ?_) (fun h => ?_)
        · refine zk_bipush X (v := -2) dX9_find_41 (by decide) ?_
          exact zk_ireturn X hr dX9_find_43 h
        · refine zk_aload_n X 0 dX9_find_44 rfl rfl ?_
          refine zk_iload_n X 1 dX9_find_45 rfl rfl ?_
          refine zk_iload_n X 2 dX9_find_46 rfl rfl ?_
          refine zk_iload_n X 3 dX9_find_47 rfl rfl ?_
          refine zk_vi X h (fun rr zz hf => ct_X9_finds l E hi  x1 x2 x3 _ rr zz hf) (cwV 3 X.1.2.2.2.2 gX9_find_X9_finds rfl rfl rfl (by decide +kernel) ⟨Nat.le_of_ble_eq_true rfl, Nat.le_of_ble_eq_true rfl⟩) (zk_recv X (g := 20) (Nat.zero_lt_one) rfl rfl) rfl rfl (Nat.le_of_ble_eq_true rfl) dX9_find_48 (fun r10 z9 h => ?_)
          refine zk_istore X (lv' := [(5, .int r10), (0, .ref (E.2.1 20 0)), (1, .int x1), (2, .int x2), (3, .int x3), (4, .int x4)]) dX9_find_51 (by decide) rfl ?_
          refine zk_iload X 5 dX9_find_53 rfl ?_
          refine zk_if_ne X (tgt := 63) dX9_find_55 (by decide) h (fun h => ?_) (fun h => ?_)
          · refine zk_iload X 0 dX9_find_58 rfl ?_
            refine zk_goto X (tgt := 98) dX9_find_60 (by decide) ?_
            exact zk_ireturn X hr dX9_find_98 h
          · refine zk_iload X 5 dX9_find_63 rfl ?_
            refine zk_iconst X (v := 1) dX9_find_65 (by decide) ?_
            refine zk_icmp_ne X (tgt := 76) dX9_find_66 (by decide) h (fun h => ?_) (fun h => ?_)
            · refine zk_aload_n X 1 dX9_find_69 rfl rfl ?_
              refine zk_get X iX9 (g := 20) (Nat.zero_lt_one) rfl rfl 30 (by decide) w0 rfl dX9_find_70 ?_
              refine zk_goto X (tgt := 98) dX9_find_73 (by decide) ?_
              exact zk_ireturn X hr dX9_find_98 h
            · refine zk_iload X 0 dX9_find_76 rfl ?_
              refine zk_iconst X (v := -1) dX9_find_78 (by decide) ?_
              refine zk_icmp_eq X (tgt := 97) dX9_find_79 (by decide) h (fun h => ?_) (fun h => ?_)
              · refine zk_iconst X (v := 0) dX9_find_97 (by decide) ?_
                exact zk_ireturn X hr dX9_find_98 h
              · refine zk_iload X 0 dX9_find_82 rfl ?_
                refine zk_aload_n X 1 dX9_find_84 rfl rfl ?_
                refine zk_get X iX9 (g := 20) (Nat.zero_lt_one) rfl rfl 12 (by decide) w1 rfl dX9_find_85 ?_
                refine zk_iload_n X 2 dX9_find_88 rfl rfl ?_
                refine zk_iald X (g := 30) (Nat.zero_lt_one) rfl dX9_find_89 h (fun h => ?_)
                refine zk_icmp_ne X (tgt := 97) dX9_find_90 (by decide) h (fun h => ?_) (fun h => ?_)
                · refine zk_iconst X (v := 1) dX9_find_93 (by decide) ?_
                  refine zk_goto X (tgt := 98) dX9_find_94 (by decide) ?_
                  exact zk_ireturn X hr dX9_find_98 h
                · refine zk_iconst X (v := 0) dX9_find_97 (by decide) ?_
                  exact zk_ireturn X hr dX9_find_98 h
def fX9_heap_B153 (c60 : Int32 → Int32 → Int32 → Int32 → Int32 → Int32 → Int32 → Int32 → zk_Z → Option (Int32 × zk_Z)) (a1 : Int32) (a2 : Int32) (a3 : Int32) (a4 : Int32) (a5 : Int32) (a6 : Int32) (a7 : Int32) (a8 : Int32) (z : zk_Z) : Option (Int32 × zk_Z) := c60 a1 a2 a3 a4 a5 a6 a7 (a8 + 1) z
def fX9_heap_B102 (c60 : Int32 → Int32 → Int32 → Int32 → Int32 → Int32 → Int32 → Int32 → zk_Z → Option (Int32 × zk_Z)) (a1 : Int32) (a2 : Int32) (a3 : Int32) (a4 : Int32) (a5 : Int32) (a6 : Int32) (a8 : Int32) (s0 : Int32) (s1 : Int32) (z : zk_Z) : Option (Int32 × zk_Z) := fX9_heap_B153 c60 a1 a2 a3 a4 a5 a6 (s1 + s0) a8 z
def fX9_heap_B150 (c60 : Int32 → Int32 → Int32 → Int32 → Int32 → Int32 → Int32 → Int32 → zk_Z → Option (Int32 × zk_Z)) (a1 : Int32) (a2 : Int32) (a3 : Int32) (a4 : Int32) (a5 : Int32) (a6 : Int32) (a8 : Int32) (s0 : Int32) (s1 : Int32) (z : zk_Z) : Option (Int32 × zk_Z) := fX9_heap_B153 c60 a1 a2 a3 a4 a5 a6 (s1 + s0) a8 z
def fX9_heap_B149 (c60 : Int32 → Int32 → Int32 → Int32 → Int32 → Int32 → Int32 → Int32 → zk_Z → Option (Int32 × zk_Z)) (a1 : Int32) (a2 : Int32) (a3 : Int32) (a4 : Int32) (a5 : Int32) (a6 : Int32) (a8 : Int32) (s0 : Int32) (z : zk_Z) : Option (Int32 × zk_Z) := fX9_heap_B150 c60 a1 a2 a3 a4 a5 a6 a8 0 s0 z
def fX9_heap_B145 (c60 : Int32 → Int32 → Int32 → Int32 → Int32 → Int32 → Int32 → Int32 → zk_Z → Option (Int32 × zk_Z)) (a1 : Int32) (a2 : Int32) (a3 : Int32) (a4 : Int32) (a5 : Int32) (a6 : Int32) (a8 : Int32) (s0 : Int32) (z : zk_Z) : Option (Int32 × zk_Z) := fX9_heap_B150 c60 a1 a2 a3 a4 a5 a6 a8 1 s0 z
def fX9_heap_L60 : Nat → Int32 → Int32 → Int32 → Int32 → Int32 → Int32 → Int32 → Int32 → zk_Z → Option (Int32 × zk_Z)
  | 0, _, _, _, _, _, _, _, _, _ => none
  | n + 1, a1, a2, a3, a4, a5, a6, a7, a8, z => if a3 ≤ a8 then some (a7, z) else zk_bd (fX9_makes 8 a1 (a2 + a8) z) (fun _ z11 => if a6 = 2 then zk_bd (fX9_answersOf 8 0 0 z11) (fun r14 z13 => if r14 = 1 then fX9_heap_B102 (fX9_heap_L60 n) a1 a2 a3 a4 a5 a6 a8 1 a7 z13 else fX9_heap_B102 (fX9_heap_L60 n) a1 a2 a3 a4 a5 a6 a8 0 a7 z13) else zk_bd (fX9_finds 8 a4 a5 z11) (fun r16 z15 => if r16 = (-1) then fX9_heap_B149 (fX9_heap_L60 n) a1 a2 a3 a4 a5 a6 a8 a7 z15 else if a6 = 0 then fX9_heap_B145 (fX9_heap_L60 n) a1 a2 a3 a4 a5 a6 a8 a7 z15 else zk_gd (zk_ix (8 : Int32) 9) (if r16 = (z15.1 30 0 (8 : Int32).toNatClampNeg) then fX9_heap_B145 (fX9_heap_L60 n) a1 a2 a3 a4 a5 a6 a8 a7 z15 else fX9_heap_B149 (fX9_heap_L60 n) a1 a2 a3 a4 a5 a6 a8 a7 z15)))
def fX9_heap (x1 : Int32) (x2 : Int32) (x3 : Int32) (x4 : Int32) (x5 : Int32) (x6 : Int32) (z : zk_Z) : Option (Int32 × zk_Z) := zk_bd (fX9_isRecipe x1 z) (fun r2 z1 => if r2 = 0 then some ((-5), z1) else zk_bd (fX9_areSeeds x2 x3 z1) (fun r4 z3 => if r4 = 0 then some ((-2), z3) else zk_bd (fX9_in x4 0 3 z3) (fun r6 z5 => if r6 = 0 then some ((-2), z5) else zk_bd (fX9_in x5 0 200 z5) (fun r8 z7 => if r8 = 0 then some ((-2), z7) else zk_bd (fX9_in x6 0 2 z7) (fun r10 z9 => if r10 = 0 then some ((-2), z9) else fX9_heap_L60 zk_FU x1 x2 x3 x4 x5 x6 0 0 z9)))))
set_option maxRecDepth 100000 in
set_option maxHeartbeats 8000000 in
theorem ct_X9_heap (l : Launch) (E : zk_E) (hi : zk_inj E) (x1 : Int32) (x2 : Int32) (x3 : Int32) (x4 : Int32) (x5 : Int32) (x6 : Int32) (z : zk_Z) (r : Int32) (z' : zk_Z) (h : fX9_heap  x1 x2 x3 x4 x5 x6 z = some (r, z')) : Met l yX9_heap wsX9_heap { frames := 6, cells := 0, slots := 0, locals := 140 } (va_Pc [.ref (E.2.1 20 0), .int x1, .int x2, .int x3, .int x4, .int x5, .int x6] (zk_W E z)) (zk_Qi E r z') 0 0 (zk_A E) := by
  refine zk_met (cc := cX9_heap) (maxL := 10) (ret := (some .int)) (own := RX9) (by decide) rfl rfl hi (Nat.le_of_ble_eq_true rfl) ?_
  intro p e s m args below meth c X hr
  have iX9 : ∀ w ∈ u_ws RX9 TX9 32, w ∈ wsX9_heap := by decide +kernel
  have w0 : Cond.fieldLink RX9 37 "HiddenWorksModel" "hidden" "[I" ∈ wsX9_heap := by decide +kernel
  have B153 : ∀ (c60 : Int32 → Int32 → Int32 → Int32 → Int32 → Int32 → Int32 → Int32 → zk_Z → Option (Int32 × zk_Z)) (hc60 : ∀ (a1 : Int32) (a2 : Int32) (a3 : Int32) (a4 : Int32) (a5 : Int32) (a6 : Int32) (a7 : Int32) (a8 : Int32) (z : zk_Z), c60 a1 a2 a3 a4 a5 a6 a7 a8 z = some (r, z') → zk_G p l e (headSpec wsX9_heap { frames := 6, cells := 0, slots := 0, locals := 140 }).room s m args below meth c E 10 0 0 (MQ below (zk_Qi E r z') args s 0 0 (zk_A E)) 60 [(0, .ref (E.2.1 20 0)), (1, .int a1), (2, .int a2), (3, .int a3), (4, .int a4), (5, .int a5), (6, .int a6), (7, .int a7), (8, .int a8)] [] z) (a1 : Int32) (a2 : Int32) (a3 : Int32) (a4 : Int32) (a5 : Int32) (a6 : Int32) (a7 : Int32) (a8 : Int32) (z : zk_Z), fX9_heap_B153 c60 a1 a2 a3 a4 a5 a6 a7 a8 z = some (r, z') → zk_G p l e (headSpec wsX9_heap { frames := 6, cells := 0, slots := 0, locals := 140 }).room s m args below meth c E 10 0 0 (MQ below (zk_Qi E r z') args s 0 0 (zk_A E)) 153 [(0, .ref (E.2.1 20 0)), (1, .int a1), (2, .int a2), (3, .int a3), (4, .int a4), (5, .int a5), (6, .int a6), (7, .int a7), (8, .int a8)] [] z := by
    intro c60 hc60 a1 a2 a3 a4 a5 a6 a7 a8 z h
    unfold fX9_heap_B153 at h
    refine zk_iinc X (lv' := [(8, .int (a8 + 1)), (0, .ref (E.2.1 20 0)), (1, .int a1), (2, .int a2), (3, .int a3), (4, .int a4), (5, .int a5), (6, .int a6), (7, .int a7)]) 8 dX9_heap_153 rfl rfl (by decide) rfl ?_
    refine zk_goto X (tgt := 60) dX9_heap_156 (by decide) ?_
    exact zk_sub [1, 2, 3, 4, 5, 6, 7, 8, 0] rfl (hc60 _ _ _ _ _ _ _ _ _ h)
  have B102 : ∀ (c60 : Int32 → Int32 → Int32 → Int32 → Int32 → Int32 → Int32 → Int32 → zk_Z → Option (Int32 × zk_Z)) (hc60 : ∀ (a1 : Int32) (a2 : Int32) (a3 : Int32) (a4 : Int32) (a5 : Int32) (a6 : Int32) (a7 : Int32) (a8 : Int32) (z : zk_Z), c60 a1 a2 a3 a4 a5 a6 a7 a8 z = some (r, z') → zk_G p l e (headSpec wsX9_heap { frames := 6, cells := 0, slots := 0, locals := 140 }).room s m args below meth c E 10 0 0 (MQ below (zk_Qi E r z') args s 0 0 (zk_A E)) 60 [(0, .ref (E.2.1 20 0)), (1, .int a1), (2, .int a2), (3, .int a3), (4, .int a4), (5, .int a5), (6, .int a6), (7, .int a7), (8, .int a8)] [] z) (a1 : Int32) (a2 : Int32) (a3 : Int32) (a4 : Int32) (a5 : Int32) (a6 : Int32) (a8 : Int32) (s0 : Int32) (s1 : Int32) (z : zk_Z), fX9_heap_B102 c60 a1 a2 a3 a4 a5 a6 a8 s0 s1 z = some (r, z') → zk_G p l e (headSpec wsX9_heap { frames := 6, cells := 0, slots := 0, locals := 140 }).room s m args below meth c E 10 0 0 (MQ below (zk_Qi E r z') args s 0 0 (zk_A E)) 102 [(0, .ref (E.2.1 20 0)), (1, .int a1), (2, .int a2), (3, .int a3), (4, .int a4), (5, .int a5), (6, .int a6), (8, .int a8)] [.int s0, .int s1] z := by
    intro c60 hc60 a1 a2 a3 a4 a5 a6 a8 s0 s1 z h
    unfold fX9_heap_B102 at h
    refine zk_iadd X dX9_heap_102 ?_
    refine zk_istore X (lv' := [(7, .int (s1 + s0)), (0, .ref (E.2.1 20 0)), (1, .int a1), (2, .int a2), (3, .int a3), (4, .int a4), (5, .int a5), (6, .int a6), (8, .int a8)]) dX9_heap_103 (by decide) rfl ?_
    refine zk_goto X (tgt := 153) dX9_heap_105 (by decide) ?_
    exact zk_sub [1, 2, 3, 4, 5, 6, 7, 0, 8] rfl (B153 _ hc60 _ _ _ _ _ _ _ _ _ h)
  have B150 : ∀ (c60 : Int32 → Int32 → Int32 → Int32 → Int32 → Int32 → Int32 → Int32 → zk_Z → Option (Int32 × zk_Z)) (hc60 : ∀ (a1 : Int32) (a2 : Int32) (a3 : Int32) (a4 : Int32) (a5 : Int32) (a6 : Int32) (a7 : Int32) (a8 : Int32) (z : zk_Z), c60 a1 a2 a3 a4 a5 a6 a7 a8 z = some (r, z') → zk_G p l e (headSpec wsX9_heap { frames := 6, cells := 0, slots := 0, locals := 140 }).room s m args below meth c E 10 0 0 (MQ below (zk_Qi E r z') args s 0 0 (zk_A E)) 60 [(0, .ref (E.2.1 20 0)), (1, .int a1), (2, .int a2), (3, .int a3), (4, .int a4), (5, .int a5), (6, .int a6), (7, .int a7), (8, .int a8)] [] z) (a1 : Int32) (a2 : Int32) (a3 : Int32) (a4 : Int32) (a5 : Int32) (a6 : Int32) (a8 : Int32) (s0 : Int32) (s1 : Int32) (z : zk_Z), fX9_heap_B150 c60 a1 a2 a3 a4 a5 a6 a8 s0 s1 z = some (r, z') → zk_G p l e (headSpec wsX9_heap { frames := 6, cells := 0, slots := 0, locals := 140 }).room s m args below meth c E 10 0 0 (MQ below (zk_Qi E r z') args s 0 0 (zk_A E)) 150 [(0, .ref (E.2.1 20 0)), (1, .int a1), (2, .int a2), (3, .int a3), (4, .int a4), (5, .int a5), (6, .int a6), (8, .int a8)] [.int s0, .int s1] z := by
    intro c60 hc60 a1 a2 a3 a4 a5 a6 a8 s0 s1 z h
    unfold fX9_heap_B150 at h
    refine zk_iadd X dX9_heap_150 ?_
    refine zk_istore X (lv' := [(7, .int (s1 + s0)), (0, .ref (E.2.1 20 0)), (1, .int a1), (2, .int a2), (3, .int a3), (4, .int a4), (5, .int a5), (6, .int a6), (8, .int a8)]) dX9_heap_151 (by decide) rfl ?_
    exact zk_sub [1, 2, 3, 4, 5, 6, 7, 0, 8] rfl (B153 _ hc60 _ _ _ _ _ _ _ _ _ h)
  have B149 : ∀ (c60 : Int32 → Int32 → Int32 → Int32 → Int32 → Int32 → Int32 → Int32 → zk_Z → Option (Int32 × zk_Z)) (hc60 : ∀ (a1 : Int32) (a2 : Int32) (a3 : Int32) (a4 : Int32) (a5 : Int32) (a6 : Int32) (a7 : Int32) (a8 : Int32) (z : zk_Z), c60 a1 a2 a3 a4 a5 a6 a7 a8 z = some (r, z') → zk_G p l e (headSpec wsX9_heap { frames := 6, cells := 0, slots := 0, locals := 140 }).room s m args below meth c E 10 0 0 (MQ below (zk_Qi E r z') args s 0 0 (zk_A E)) 60 [(0, .ref (E.2.1 20 0)), (1, .int a1), (2, .int a2), (3, .int a3), (4, .int a4), (5, .int a5), (6, .int a6), (7, .int a7), (8, .int a8)] [] z) (a1 : Int32) (a2 : Int32) (a3 : Int32) (a4 : Int32) (a5 : Int32) (a6 : Int32) (a8 : Int32) (s0 : Int32) (z : zk_Z), fX9_heap_B149 c60 a1 a2 a3 a4 a5 a6 a8 s0 z = some (r, z') → zk_G p l e (headSpec wsX9_heap { frames := 6, cells := 0, slots := 0, locals := 140 }).room s m args below meth c E 10 0 0 (MQ below (zk_Qi E r z') args s 0 0 (zk_A E)) 149 [(0, .ref (E.2.1 20 0)), (1, .int a1), (2, .int a2), (3, .int a3), (4, .int a4), (5, .int a5), (6, .int a6), (8, .int a8)] [.int s0] z := by
    intro c60 hc60 a1 a2 a3 a4 a5 a6 a8 s0 z h
    unfold fX9_heap_B149 at h
    refine zk_iconst X (v := 0) dX9_heap_149 (by decide) ?_
    exact zk_sub [0, 1, 2, 3, 4, 5, 6, 7] rfl (B150 _ hc60 _ _ _ _ _ _ _ _ _ _ h)
  have B145 : ∀ (c60 : Int32 → Int32 → Int32 → Int32 → Int32 → Int32 → Int32 → Int32 → zk_Z → Option (Int32 × zk_Z)) (hc60 : ∀ (a1 : Int32) (a2 : Int32) (a3 : Int32) (a4 : Int32) (a5 : Int32) (a6 : Int32) (a7 : Int32) (a8 : Int32) (z : zk_Z), c60 a1 a2 a3 a4 a5 a6 a7 a8 z = some (r, z') → zk_G p l e (headSpec wsX9_heap { frames := 6, cells := 0, slots := 0, locals := 140 }).room s m args below meth c E 10 0 0 (MQ below (zk_Qi E r z') args s 0 0 (zk_A E)) 60 [(0, .ref (E.2.1 20 0)), (1, .int a1), (2, .int a2), (3, .int a3), (4, .int a4), (5, .int a5), (6, .int a6), (7, .int a7), (8, .int a8)] [] z) (a1 : Int32) (a2 : Int32) (a3 : Int32) (a4 : Int32) (a5 : Int32) (a6 : Int32) (a8 : Int32) (s0 : Int32) (z : zk_Z), fX9_heap_B145 c60 a1 a2 a3 a4 a5 a6 a8 s0 z = some (r, z') → zk_G p l e (headSpec wsX9_heap { frames := 6, cells := 0, slots := 0, locals := 140 }).room s m args below meth c E 10 0 0 (MQ below (zk_Qi E r z') args s 0 0 (zk_A E)) 145 [(0, .ref (E.2.1 20 0)), (1, .int a1), (2, .int a2), (3, .int a3), (4, .int a4), (5, .int a5), (6, .int a6), (8, .int a8)] [.int s0] z := by
    intro c60 hc60 a1 a2 a3 a4 a5 a6 a8 s0 z h
    unfold fX9_heap_B145 at h
    refine zk_iconst X (v := 1) dX9_heap_145 (by decide) ?_
    refine zk_goto X (tgt := 150) dX9_heap_146 (by decide) ?_
    exact zk_sub [0, 1, 2, 3, 4, 5, 6, 7] rfl (B150 _ hc60 _ _ _ _ _ _ _ _ _ _ h)
  have L60 : ∀ (n : Nat) (a1 : Int32) (a2 : Int32) (a3 : Int32) (a4 : Int32) (a5 : Int32) (a6 : Int32) (a7 : Int32) (a8 : Int32) (z : zk_Z), fX9_heap_L60 n a1 a2 a3 a4 a5 a6 a7 a8 z = some (r, z') → zk_G p l e (headSpec wsX9_heap { frames := 6, cells := 0, slots := 0, locals := 140 }).room s m args below meth c E 10 0 0 (MQ below (zk_Qi E r z') args s 0 0 (zk_A E)) 60 [(0, .ref (E.2.1 20 0)), (1, .int a1), (2, .int a2), (3, .int a3), (4, .int a4), (5, .int a5), (6, .int a6), (7, .int a7), (8, .int a8)] [] z := by
    intro n
    induction n with
    | zero => intro a1 a2 a3 a4 a5 a6 a7 a8 z h; exact absurd h (by simp [fX9_heap_L60])
    | succ n ih =>
      intro a1 a2 a3 a4 a5 a6 a7 a8 z h
      rw [fX9_heap_L60] at h
      refine zk_iload X 8 dX9_heap_60 rfl ?_
      refine zk_iload_n X 3 dX9_heap_62 rfl rfl ?_
      refine zk_icmp_ge X (tgt := 159) dX9_heap_63 (by decide) h (fun h => ?_) (fun h => ?_)
      · refine zk_iload X 7 dX9_heap_159 rfl ?_
        exact zk_ireturn X hr dX9_heap_161 h
      · refine zk_aload_n X 0 dX9_heap_66 rfl rfl ?_
        refine zk_bipush X (v := 8) dX9_heap_67 (by decide) ?_
        refine zk_iload_n X 1 dX9_heap_69 rfl rfl ?_
        refine zk_iload_n X 2 dX9_heap_70 rfl rfl ?_
        refine zk_iload X 8 dX9_heap_71 rfl ?_
        refine zk_iadd X dX9_heap_73 ?_
        refine zk_vv X h (fun rr zz hf => ct_X9_makes l E hi 8 a1 (a2 + a8) _ rr zz hf) (cwV 3 X.1.2.2.2.2 gX9_heap_X9_makes rfl rfl rfl (by decide +kernel) ⟨Nat.le_of_ble_eq_true rfl, Nat.le_of_ble_eq_true rfl⟩) (zk_recv X (g := 20) (Nat.zero_lt_one) rfl rfl) rfl rfl (Nat.le_of_ble_eq_true rfl) dX9_heap_74 (fun z11 h => ?_)
        refine zk_iload X 6 dX9_heap_77 rfl ?_
        refine zk_iconst X (v := 2) dX9_heap_79 (by decide) ?_
        refine zk_icmp_ne X (tgt := 108) dX9_heap_80 (by decide) h (fun h => ?_) (fun h => ?_)
        · refine zk_iload X 7 dX9_heap_83 rfl ?_
          refine zk_aload_n X 0 dX9_heap_85 rfl rfl ?_
          refine zk_bipush X (v := 8) dX9_heap_86 (by decide) ?_
          refine zk_iconst X (v := 0) dX9_heap_88 (by decide) ?_
          refine zk_iconst X (v := 0) dX9_heap_89 (by decide) ?_
          refine zk_vi X h (fun rr zz hf => ct_X9_answersOf l E hi 8 0 0 _ rr zz hf) (cwV 3 X.1.2.2.2.2 gX9_heap_X9_answersOf rfl rfl rfl (by decide +kernel) ⟨Nat.le_of_ble_eq_true rfl, Nat.le_of_ble_eq_true rfl⟩) (zk_recv X (g := 20) (Nat.zero_lt_one) rfl rfl) rfl rfl (Nat.le_of_ble_eq_true rfl) dX9_heap_90 (fun r14 z13 h => ?_)
          refine zk_iconst X (v := 1) dX9_heap_93 (by decide) ?_
          refine zk_icmp_ne X (tgt := 101) dX9_heap_94 (by decide) h (fun h => ?_) (fun h => ?_)
          · refine zk_iconst X (v := 1) dX9_heap_97 (by decide) ?_
            refine zk_goto X (tgt := 102) dX9_heap_98 (by decide) ?_
            exact zk_sub [0, 1, 2, 3, 4, 5, 6, 8] rfl (B102 _ ih _ _ _ _ _ _ _ _ _ _ h)
          · refine zk_iconst X (v := 0) dX9_heap_101 (by decide) ?_
            exact zk_sub [0, 1, 2, 3, 4, 5, 6, 8] rfl (B102 _ ih _ _ _ _ _ _ _ _ _ _ h)
        · refine zk_aload_n X 0 dX9_heap_108 rfl rfl ?_
          refine zk_bipush X (v := 8) dX9_heap_109 (by decide) ?_
          refine zk_iload X 4 dX9_heap_111 rfl ?_
          refine zk_iload X 5 dX9_heap_113 rfl ?_
          refine zk_vi X h (fun rr zz hf => ct_X9_finds l E hi 8 a4 a5 _ rr zz hf) (cwV 3 X.1.2.2.2.2 gX9_heap_X9_finds rfl rfl rfl (by decide +kernel) ⟨Nat.le_of_ble_eq_true rfl, Nat.le_of_ble_eq_true rfl⟩) (zk_recv X (g := 20) (Nat.zero_lt_one) rfl rfl) rfl rfl (Nat.le_of_ble_eq_true rfl) dX9_heap_115 (fun r16 z15 h => ?_)
          refine zk_istore X (lv' := [(9, .int r16), (0, .ref (E.2.1 20 0)), (1, .int a1), (2, .int a2), (3, .int a3), (4, .int a4), (5, .int a5), (6, .int a6), (7, .int a7), (8, .int a8)]) dX9_heap_118 (by decide) rfl ?_
          refine zk_iload X 8 dX9_heap_120 rfl ?_
          refine zk_iload X 0 dX9_heap_122 rfl ?_
          refine zk_iconst X (v := -1) dX9_heap_124 (by decide) ?_
          refine zk_icmp_eq X (tgt := 149) dX9_heap_125 (by decide) h (fun h => ?_) (fun h => ?_)
          · exact zk_sub [1, 2, 3, 4, 5, 6, 7, 9] rfl (B149 _ ih _ _ _ _ _ _ _ _ _ h)
          · refine zk_iload X 7 dX9_heap_128 rfl ?_
            refine zk_if_eq X (tgt := 145) dX9_heap_130 (by decide) h (fun h => ?_) (fun h => ?_)
            · exact zk_sub [1, 2, 3, 4, 5, 6, 7, 9] rfl (B145 _ ih _ _ _ _ _ _ _ _ _ h)
            · refine zk_iload X 0 dX9_heap_133 rfl ?_
              refine zk_aload_n X 1 dX9_heap_135 rfl rfl ?_
              refine zk_get X iX9 (g := 20) (Nat.zero_lt_one) rfl rfl 12 (by decide) w0 rfl dX9_heap_136 ?_
              refine zk_bipush X (v := 8) dX9_heap_139 (by decide) ?_
              refine zk_iald X (g := 30) (Nat.zero_lt_one) rfl dX9_heap_141 h (fun h => ?_)
              refine zk_icmp_ne X (tgt := 149) dX9_heap_142 (by decide) h (fun h => ?_) (fun h => ?_)
              · exact zk_sub [1, 2, 3, 4, 5, 6, 7, 9] rfl (B145 _ ih _ _ _ _ _ _ _ _ _ h)
              · exact zk_sub [1, 2, 3, 4, 5, 6, 7, 9] rfl (B149 _ ih _ _ _ _ _ _ _ _ _ h)
  unfold fX9_heap at h
  refine zk_aload_n X 0 dX9_heap_0 rfl rfl ?_
  refine zk_iload_n X 1 dX9_heap_1 rfl rfl ?_
  refine zk_vi X h (fun rr zz hf => ct_X9_isRecipe l E hi  x1 _ rr zz hf) (cwV 1 X.1.2.2.2.2 gX9_heap_X9_isRecipe rfl rfl rfl (by decide +kernel) ⟨Nat.le_of_ble_eq_true rfl, Nat.le_of_ble_eq_true rfl⟩) (zk_recv X (g := 20) (Nat.zero_lt_one) rfl rfl) rfl rfl (Nat.le_of_ble_eq_true rfl) dX9_heap_2 (fun r2 z1 h => ?_)
  refine zk_if_ne X (tgt := 11) dX9_heap_5 (by decide) h (fun h => ?_) (fun h => ?_)
  · refine zk_bipush X (v := -5) dX9_heap_8 (by decide) ?_
    exact zk_ireturn X hr dX9_heap_10 h
  · refine zk_iload_n X 2 dX9_heap_11 rfl rfl ?_
    refine zk_iload_n X 3 dX9_heap_12 rfl rfl ?_
    refine zk_si X h (fun rr zz hf => ct_X9_areSeeds l E hi  x2 x3 _ rr zz hf) (va_cwS 2 X.1.2.2.2.2 gX9_heap_X9_areSeeds rfl rfl rfl (by decide +kernel) ⟨Nat.le_of_ble_eq_true rfl, Nat.le_of_ble_eq_true rfl⟩) rfl rfl (Nat.le_of_ble_eq_true rfl) dX9_heap_13 (fun r4 z3 h => ?_)
    refine zk_if_eq X (tgt := 51) dX9_heap_16 (by decide) h (fun h => ?_) (fun h => ?_)
    · refine zk_bipush X (v := -2) dX9_heap_51 (by decide) ?_
      exact zk_ireturn X hr dX9_heap_53 h
    · refine zk_iload X 4 dX9_heap_19 rfl ?_
      refine zk_iconst X (v := 0) dX9_heap_21 (by decide) ?_
      refine zk_iconst X (v := 3) dX9_heap_22 (by decide) ?_
      refine zk_si X h (fun rr zz hf => ct_X9_in l E hi  x4 0 3 _ rr zz hf) (va_cwS 3 X.1.2.2.2.2 gX9_heap_X9_in rfl rfl rfl (by decide +kernel) ⟨Nat.le_of_ble_eq_true rfl, Nat.le_of_ble_eq_true rfl⟩) rfl rfl (Nat.le_of_ble_eq_true rfl) dX9_heap_23 (fun r6 z5 h => ?_)
      refine zk_if_eq X (tgt := 51) dX9_heap_26 (by decide) h (fun h => ?_) (fun h => ?_)
      · refine zk_bipush X (v := -2) dX9_heap_51 (by decide) ?_
        exact zk_ireturn X hr dX9_heap_53 h
      · refine zk_iload X 5 dX9_heap_29 rfl ?_
        refine zk_iconst X (v := 0) dX9_heap_31 (by decide) ?_
        refine zk_sipush X (v := 200) dX9_heap_32 (by decide) ?_
        refine zk_si X h (fun rr zz hf => ct_X9_in l E hi  x5 0 200 _ rr zz hf) (va_cwS 3 X.1.2.2.2.2 gX9_heap_X9_in rfl rfl rfl (by decide +kernel) ⟨Nat.le_of_ble_eq_true rfl, Nat.le_of_ble_eq_true rfl⟩) rfl rfl (Nat.le_of_ble_eq_true rfl) dX9_heap_35 (fun r8 z7 h => ?_)
        refine zk_if_eq X (tgt := 51) dX9_heap_38 (by decide) h (fun h => ?_) (fun h => ?_)
        · refine zk_bipush X (v := -2) dX9_heap_51 (by decide) ?_
          exact zk_ireturn X hr dX9_heap_53 h
        · refine zk_iload X 6 dX9_heap_41 rfl ?_
          refine zk_iconst X (v := 0) dX9_heap_43 (by decide) ?_
          refine zk_iconst X (v := 2) dX9_heap_44 (by decide) ?_
          refine zk_si X h (fun rr zz hf => ct_X9_in l E hi  x6 0 2 _ rr zz hf) (va_cwS 3 X.1.2.2.2.2 gX9_heap_X9_in rfl rfl rfl (by decide +kernel) ⟨Nat.le_of_ble_eq_true rfl, Nat.le_of_ble_eq_true rfl⟩) rfl rfl (Nat.le_of_ble_eq_true rfl) dX9_heap_45 (fun r10 z9 h => ?_)
          refine zk_if_ne X (tgt := 54) dX9_heap_48 (by decide) h (fun h => ?_) (fun h => ?_)
          · refine zk_bipush X (v := -2) dX9_heap_51 (by decide) ?_
            exact zk_ireturn X hr dX9_heap_53 h
          · refine zk_iconst X (v := 0) dX9_heap_54 (by decide) ?_
            refine zk_istore X (lv' := [(7, .int 0), (0, .ref (E.2.1 20 0)), (1, .int x1), (2, .int x2), (3, .int x3), (4, .int x4), (5, .int x5), (6, .int x6)]) dX9_heap_55 (by decide) rfl ?_
            refine zk_iconst X (v := 0) dX9_heap_57 (by decide) ?_
            refine zk_istore X (lv' := [(8, .int 0), (7, .int 0), (0, .ref (E.2.1 20 0)), (1, .int x1), (2, .int x2), (3, .int x3), (4, .int x4), (5, .int x5), (6, .int x6)]) dX9_heap_58 (by decide) rfl ?_
            exact zk_sub [2, 3, 4, 5, 6, 7, 8, 1, 0] rfl (L60  _ _ _ _ _ _ _ _ _ _ h)
def fX9_hint_B75 (c18 : Int32 → Int32 → Int32 → Int32 → zk_Z → Option (Int32 × zk_Z)) (a1 : Int32) (a2 : Int32) (a3 : Int32) (a4 : Int32) (z : zk_Z) : Option (Int32 × zk_Z) := c18 a1 a2 a3 (a4 + 1) z
def fX9_hint_B69 (c18 : Int32 → Int32 → Int32 → Int32 → zk_Z → Option (Int32 × zk_Z)) (a1 : Int32) (a4 : Int32) (a5 : Int32) (z : zk_Z) : Option (Int32 × zk_Z) := fX9_hint_B75 c18 a1 a4 a5 a4 z
def fX9_hint_L18 : Nat → Int32 → Int32 → Int32 → Int32 → zk_Z → Option (Int32 × zk_Z)
  | 0, _, _, _, _, _ => none
  | n + 1, a1, a2, a3, a4, z => zk_gd (zk_ix a1 9) (if (2 * (z.1 28 0 a1.toNatClampNeg)) ≤ a4 then some (a2, z) else zk_bd (fX9_answersOf a1 ((1 : Int32) <<< ((a4 / 2) &&& 31)) ((a4 - a4 / 2 * 2) <<< ((a4 / 2) &&& 31)) z) (fun r4 z3 => if r4 ≤ 0 then fX9_hint_B75 (fX9_hint_L18 n) a1 a2 a3 a4 z3 else if a2 = (-1) then fX9_hint_B69 (fX9_hint_L18 n) a1 a4 r4 z3 else if a3 ≤ r4 then fX9_hint_B75 (fX9_hint_L18 n) a1 a2 a3 a4 z3 else fX9_hint_B69 (fX9_hint_L18 n) a1 a4 r4 z3))
def fX9_hint (x1 : Int32) (z : zk_Z) : Option (Int32 × zk_Z) := zk_bd (fX9_isTask x1 z) (fun r2 z1 => if r2 = 0 then some ((-5), z1) else fX9_hint_L18 zk_FU x1 (-1) 0 0 z1)
set_option maxRecDepth 100000 in
set_option maxHeartbeats 8000000 in
theorem ct_X9_hint (l : Launch) (E : zk_E) (hi : zk_inj E) (x1 : Int32) (z : zk_Z) (r : Int32) (z' : zk_Z) (h : fX9_hint  x1 z = some (r, z')) : Met l yX9_hint wsX9_hint { frames := 5, cells := 0, slots := 0, locals := 114 } (va_Pc [.ref (E.2.1 20 0), .int x1] (zk_W E z)) (zk_Qi E r z') 0 0 (zk_A E) := by
  refine zk_met (cc := cX9_hint) (maxL := 6) (ret := (some .int)) (own := RX9) (by decide) rfl rfl hi (Nat.le_of_ble_eq_true rfl) ?_
  intro p e s m args below meth c X hr
  have iX9 : ∀ w ∈ u_ws RX9 TX9 32, w ∈ wsX9_hint := by decide +kernel
  have w0 : Cond.fieldLink RX9 31 "HiddenWorksModel" "letters" "[I" ∈ wsX9_hint := by decide +kernel
  have B75 : ∀ (c18 : Int32 → Int32 → Int32 → Int32 → zk_Z → Option (Int32 × zk_Z)) (hc18 : ∀ (a1 : Int32) (a2 : Int32) (a3 : Int32) (a4 : Int32) (z : zk_Z), c18 a1 a2 a3 a4 z = some (r, z') → zk_G p l e (headSpec wsX9_hint { frames := 5, cells := 0, slots := 0, locals := 114 }).room s m args below meth c E 6 0 0 (MQ below (zk_Qi E r z') args s 0 0 (zk_A E)) 18 [(0, .ref (E.2.1 20 0)), (1, .int a1), (2, .int a2), (3, .int a3), (4, .int a4)] [] z) (a1 : Int32) (a2 : Int32) (a3 : Int32) (a4 : Int32) (z : zk_Z), fX9_hint_B75 c18 a1 a2 a3 a4 z = some (r, z') → zk_G p l e (headSpec wsX9_hint { frames := 5, cells := 0, slots := 0, locals := 114 }).room s m args below meth c E 6 0 0 (MQ below (zk_Qi E r z') args s 0 0 (zk_A E)) 75 [(0, .ref (E.2.1 20 0)), (1, .int a1), (2, .int a2), (3, .int a3), (4, .int a4)] [] z := by
    intro c18 hc18 a1 a2 a3 a4 z h
    unfold fX9_hint_B75 at h
    refine zk_iinc X (lv' := [(4, .int (a4 + 1)), (0, .ref (E.2.1 20 0)), (1, .int a1), (2, .int a2), (3, .int a3)]) 4 dX9_hint_75 rfl rfl (by decide) rfl ?_
    refine zk_goto X (tgt := 18) dX9_hint_78 (by decide) ?_
    exact zk_sub [1, 2, 3, 4, 0] rfl (hc18 _ _ _ _ _ h)
  have B69 : ∀ (c18 : Int32 → Int32 → Int32 → Int32 → zk_Z → Option (Int32 × zk_Z)) (hc18 : ∀ (a1 : Int32) (a2 : Int32) (a3 : Int32) (a4 : Int32) (z : zk_Z), c18 a1 a2 a3 a4 z = some (r, z') → zk_G p l e (headSpec wsX9_hint { frames := 5, cells := 0, slots := 0, locals := 114 }).room s m args below meth c E 6 0 0 (MQ below (zk_Qi E r z') args s 0 0 (zk_A E)) 18 [(0, .ref (E.2.1 20 0)), (1, .int a1), (2, .int a2), (3, .int a3), (4, .int a4)] [] z) (a1 : Int32) (a4 : Int32) (a5 : Int32) (z : zk_Z), fX9_hint_B69 c18 a1 a4 a5 z = some (r, z') → zk_G p l e (headSpec wsX9_hint { frames := 5, cells := 0, slots := 0, locals := 114 }).room s m args below meth c E 6 0 0 (MQ below (zk_Qi E r z') args s 0 0 (zk_A E)) 69 [(0, .ref (E.2.1 20 0)), (1, .int a1), (4, .int a4), (5, .int a5)] [] z := by
    intro c18 hc18 a1 a4 a5 z h
    unfold fX9_hint_B69 at h
    refine zk_iload X 2 dX9_hint_69 rfl ?_
    refine zk_istore_n X (lv' := [(2, .int a4), (0, .ref (E.2.1 20 0)), (1, .int a1), (4, .int a4), (5, .int a5)]) dX9_hint_71 rfl (by decide) rfl ?_
    refine zk_iload X 4 dX9_hint_72 rfl ?_
    refine zk_istore_n X (lv' := [(3, .int a5), (2, .int a4), (0, .ref (E.2.1 20 0)), (1, .int a1), (4, .int a4), (5, .int a5)]) dX9_hint_74 rfl (by decide) rfl ?_
    exact zk_sub [2, 3, 1, 0, 4] rfl (B75 _ hc18 _ _ _ _ _ h)
  have L18 : ∀ (n : Nat) (a1 : Int32) (a2 : Int32) (a3 : Int32) (a4 : Int32) (z : zk_Z), fX9_hint_L18 n a1 a2 a3 a4 z = some (r, z') → zk_G p l e (headSpec wsX9_hint { frames := 5, cells := 0, slots := 0, locals := 114 }).room s m args below meth c E 6 0 0 (MQ below (zk_Qi E r z') args s 0 0 (zk_A E)) 18 [(0, .ref (E.2.1 20 0)), (1, .int a1), (2, .int a2), (3, .int a3), (4, .int a4)] [] z := by
    intro n
    induction n with
    | zero => intro a1 a2 a3 a4 z h; exact absurd h (by simp [fX9_hint_L18])
    | succ n ih =>
      intro a1 a2 a3 a4 z h
      rw [fX9_hint_L18] at h
      refine zk_iload X 4 dX9_hint_18 rfl ?_
      refine zk_iconst X (v := 2) dX9_hint_20 (by decide) ?_
      refine zk_aload_n X 0 dX9_hint_21 rfl rfl ?_
      refine zk_get X iX9 (g := 20) (Nat.zero_lt_one) rfl rfl 10 (by decide) w0 rfl dX9_hint_22 ?_
      refine zk_iload_n X 1 dX9_hint_25 rfl rfl ?_
      refine zk_iald X (g := 28) (Nat.zero_lt_one) rfl dX9_hint_26 h (fun h => ?_)
      refine zk_imul X dX9_hint_27 ?_
      refine zk_icmp_ge X (tgt := 81) dX9_hint_28 (by decide) h (fun h => ?_) (fun h => ?_)
      · refine zk_iload_n X 2 dX9_hint_81 rfl rfl ?_
        exact zk_ireturn X hr dX9_hint_82 h
      · refine zk_aload_n X 0 dX9_hint_31 rfl rfl ?_
        refine zk_iload_n X 1 dX9_hint_32 rfl rfl ?_
        refine zk_iconst X (v := 1) dX9_hint_33 (by decide) ?_
        refine zk_iload X 4 dX9_hint_34 rfl ?_
        refine zk_iconst X (v := 2) dX9_hint_36 (by decide) ?_
        refine zk_idiv X (α := Unit) (a := some ()) (o := ()) dX9_hint_37 rfl (fun _ => ?_)
        refine zk_ishl X dX9_hint_38 ?_
        refine zk_iload X 4 dX9_hint_39 rfl ?_
        refine zk_iconst X (v := 2) dX9_hint_41 (by decide) ?_
        refine zk_irem X (α := Unit) (a := some ()) (o := ()) dX9_hint_42 rfl (fun _ => ?_)
        refine zk_iload X 4 dX9_hint_43 rfl ?_
        refine zk_iconst X (v := 2) dX9_hint_45 (by decide) ?_
        refine zk_idiv X (α := Unit) (a := some ()) (o := ()) dX9_hint_46 rfl (fun _ => ?_)
        refine zk_ishl X dX9_hint_47 ?_
        refine zk_vi X h (fun rr zz hf => ct_X9_answersOf l E hi a1 ((1 : Int32) <<< ((a4 / 2) &&& 31)) ((a4 - a4 / 2 * 2) <<< ((a4 / 2) &&& 31)) _ rr zz hf) (cwV 3 X.1.2.2.2.2 gX9_hint_X9_answersOf rfl rfl rfl (by decide +kernel) ⟨Nat.le_of_ble_eq_true rfl, Nat.le_of_ble_eq_true rfl⟩) (zk_recv X (g := 20) (Nat.zero_lt_one) rfl rfl) rfl rfl (Nat.le_of_ble_eq_true rfl) dX9_hint_48 (fun r4 z3 h => ?_)
        refine zk_istore X (lv' := [(5, .int r4), (0, .ref (E.2.1 20 0)), (1, .int a1), (2, .int a2), (3, .int a3), (4, .int a4)]) dX9_hint_51 (by decide) rfl ?_
        refine zk_iload X 0 dX9_hint_53 rfl ?_
        refine zk_if_le X (tgt := 75) dX9_hint_55 (by decide) h (fun h => ?_) (fun h => ?_)
        · exact zk_sub [1, 2, 3, 4, 5] rfl (B75 _ ih _ _ _ _ _ h)
        · refine zk_iload_n X 3 dX9_hint_58 rfl rfl ?_
          refine zk_iconst X (v := -1) dX9_hint_59 (by decide) ?_
          refine zk_icmp_eq X (tgt := 69) dX9_hint_60 (by decide) h (fun h => ?_) (fun h => ?_)
          · exact zk_sub [1, 2, 5, 0] rfl (B69 _ ih _ _ _ _ h)
          · refine zk_iload X 0 dX9_hint_63 rfl ?_
            refine zk_iload_n X 4 dX9_hint_65 rfl rfl ?_
            refine zk_icmp_ge X (tgt := 75) dX9_hint_66 (by decide) h (fun h => ?_) (fun h => ?_)
            · exact zk_sub [1, 2, 3, 4, 5] rfl (B75 _ ih _ _ _ _ _ h)
            · exact zk_sub [1, 2, 5, 0] rfl (B69 _ ih _ _ _ _ h)
  unfold fX9_hint at h
  refine zk_aload_n X 0 dX9_hint_0 rfl rfl ?_
  refine zk_iload_n X 1 dX9_hint_1 rfl rfl ?_
  refine zk_vi X h (fun rr zz hf => ct_X9_isTask l E hi  x1 _ rr zz hf) (cwV 1 X.1.2.2.2.2 gX9_hint_X9_isTask rfl rfl rfl (by decide +kernel) ⟨Nat.le_of_ble_eq_true rfl, Nat.le_of_ble_eq_true rfl⟩) (zk_recv X (g := 20) (Nat.zero_lt_one) rfl rfl) rfl rfl (Nat.le_of_ble_eq_true rfl) dX9_hint_2 (fun r2 z1 h => ?_)
  refine zk_if_ne X (tgt := 11) dX9_hint_5 (by decide) h (fun h => ?_) (fun h => ?_)
  · refine zk_bipush X (v := -5) dX9_hint_8 (by decide) ?_
    exact zk_ireturn X hr dX9_hint_10 h
  · refine zk_iconst X (v := -1) dX9_hint_11 (by decide) ?_
    refine zk_istore_n X (lv' := [(2, .int (-1)), (0, .ref (E.2.1 20 0)), (1, .int x1)]) dX9_hint_12 rfl (by decide) rfl ?_
    refine zk_iconst X (v := 0) dX9_hint_13 (by decide) ?_
    refine zk_istore_n X (lv' := [(3, .int 0), (2, .int (-1)), (0, .ref (E.2.1 20 0)), (1, .int x1)]) dX9_hint_14 rfl (by decide) rfl ?_
    refine zk_iconst X (v := 0) dX9_hint_15 (by decide) ?_
    refine zk_istore X (lv' := [(4, .int 0), (3, .int 0), (2, .int (-1)), (0, .ref (E.2.1 20 0)), (1, .int x1)]) dX9_hint_16 (by decide) rfl ?_
    exact zk_sub [3, 4, 2, 1, 0] rfl (L18  _ _ _ _ _ _ h)
def fX9_image (z : zk_Z) : Option (Int32 × zk_Z) := some ((zk_sI (zk_sI z 20 0 22 1) 20 0 23 ((zk_sI z 20 0 22 1).1 20 0 8)).1 20 0 8, zk_sI (zk_sI z 20 0 22 1) 20 0 23 ((zk_sI z 20 0 22 1).1 20 0 8))
set_option maxRecDepth 100000 in
set_option maxHeartbeats 8000000 in
theorem ct_X9_image (l : Launch) (E : zk_E) (hi : zk_inj E) (z : zk_Z) (r : Int32) (z' : zk_Z) (h : fX9_image   z = some (r, z')) : Met l yX9_image wsX9_image { frames := 0, cells := 0, slots := 0, locals := 0 } (va_Pc [.ref (E.2.1 20 0)] (zk_W E z)) (zk_Qi E r z') 0 0 (zk_A E) := by
  refine zk_met (cc := cX9_image) (maxL := 1) (ret := (some .int)) (own := RX9) (by decide) rfl rfl hi (Nat.le_of_ble_eq_true rfl) ?_
  intro p e s m args below meth c X hr
  have iX9 : ∀ w ∈ u_ws RX9 TX9 32, w ∈ wsX9_image := by decide +kernel
  have w0 : Cond.fieldLink RX9 236 "HiddenWorksModel" "hasImage" "Z" ∈ wsX9_image := by decide +kernel
  have w1 : Cond.fieldLink RX9 152 "HiddenWorksModel" "tasks" "I" ∈ wsX9_image := by decide +kernel
  have w2 : Cond.fieldLink RX9 240 "HiddenWorksModel" "imaged" "I" ∈ wsX9_image := by decide +kernel
  unfold fX9_image at h
  refine zk_aload_n X 0 dX9_image_0 rfl rfl ?_
  refine zk_iconst X (v := 1) dX9_image_1 (by decide) ?_
  refine zk_putI X (ty := .boolean) iX9 tyX9 tyX9_ok nmX9 (g := 20) (Nat.zero_lt_one) rfl rfl 22 (by decide) w0 rfl (by decide +kernel) rfl rfl (Nat.le_of_ble_eq_true rfl) rfl dX9_image_2 ?_
  refine zk_aload_n X 0 dX9_image_5 rfl rfl ?_
  refine zk_aload_n X 0 dX9_image_6 rfl rfl ?_
  refine zk_get X iX9 (g := 20) (Nat.zero_lt_one) rfl rfl 8 (by decide) w1 rfl dX9_image_7 ?_
  refine zk_putI X (ty := .int) iX9 tyX9 tyX9_ok nmX9 (g := 20) (Nat.zero_lt_one) rfl rfl 23 (by decide) w2 rfl (by decide +kernel) rfl rfl (Nat.le_of_ble_eq_true rfl) rfl dX9_image_10 ?_
  refine zk_aload_n X 0 dX9_image_13 rfl rfl ?_
  refine zk_get X iX9 (g := 20) (Nat.zero_lt_one) rfl rfl 8 (by decide) w1 rfl dX9_image_14 ?_
  exact zk_ireturn X hr dX9_image_17 h
def fX9_isUnder_B19 (a0 : Int32) (a1 : Int32) (z : zk_Z) : Option (Int32 × zk_Z) := if a1 = 2 then if a0 = 4 then some (1, z) else some (0, z) else some (0, z)
def fX9_isUnder (x0 : Int32) (x1 : Int32) (z : zk_Z) : Option (Int32 × zk_Z) := if x1 = 0 then some (1, z) else if x0 = x1 then some (1, z) else if x1 = 1 then if x0 = 3 then some (1, z) else fX9_isUnder_B19 x0 x1 z else fX9_isUnder_B19 x0 x1 z
set_option maxRecDepth 100000 in
set_option maxHeartbeats 8000000 in
theorem ct_X9_isUnder (l : Launch) (E : zk_E) (hi : zk_inj E) (x0 : Int32) (x1 : Int32) (z : zk_Z) (r : Int32) (z' : zk_Z) (h : fX9_isUnder  x0 x1 z = some (r, z')) : Met l yX9_isUnder wsX9_isUnder { frames := 0, cells := 0, slots := 0, locals := 0 } (va_Pc [.int x0, .int x1] (zk_W E z)) (zk_Qi E r z') 0 0 (zk_A E) := by
  refine zk_met (cc := cX9_isUnder) (maxL := 2) (ret := (some .boolean)) (own := RX9) (by decide) rfl rfl hi (Nat.le_of_ble_eq_true rfl) ?_
  intro p e s m args below meth c X hr
  have B19 : ∀ (a0 : Int32) (a1 : Int32) (z : zk_Z), fX9_isUnder_B19 a0 a1 z = some (r, z') → zk_G p l e (headSpec wsX9_isUnder { frames := 0, cells := 0, slots := 0, locals := 0 }).room s m args below meth c E 2 0 0 (MQ below (zk_Qi E r z') args s 0 0 (zk_A E)) 19 [(0, .int a0), (1, .int a1)] [] z := by
    intro a0 a1 z h
    unfold fX9_isUnder_B19 at h
    refine zk_iload_n X 1 dX9_isUnder_19 rfl rfl ?_
    refine zk_iconst X (v := 2) dX9_isUnder_20 (by decide) ?_
    refine zk_icmp_ne X (tgt := 33) dX9_isUnder_21 (by decide) h (fun h => ?_) (fun h => ?_)
    · refine zk_iload_n X 0 dX9_isUnder_24 rfl rfl ?_
      refine zk_iconst X (v := 4) dX9_isUnder_25 (by decide) ?_
      refine zk_icmp_ne X (tgt := 33) dX9_isUnder_26 (by decide) h (fun h => ?_) (fun h => ?_)
      · refine zk_iconst X (v := 1) dX9_isUnder_29 (by decide) ?_
        refine zk_goto X (tgt := 34) dX9_isUnder_30 (by decide) ?_
        exact zk_zreturn X hr dX9_isUnder_34 rfl h
      · refine zk_iconst X (v := 0) dX9_isUnder_33 (by decide) ?_
        exact zk_zreturn X hr dX9_isUnder_34 rfl h
    · refine zk_iconst X (v := 0) dX9_isUnder_33 (by decide) ?_
      exact zk_zreturn X hr dX9_isUnder_34 rfl h
  unfold fX9_isUnder at h
  refine zk_iload_n X 1 dX9_isUnder_0 rfl rfl ?_
  refine zk_if_eq X (tgt := 29) dX9_isUnder_1 (by decide) h (fun h => ?_) (fun h => ?_)
  · refine zk_iconst X (v := 1) dX9_isUnder_29 (by decide) ?_
    refine zk_goto X (tgt := 34) dX9_isUnder_30 (by decide) ?_
    exact zk_zreturn X hr dX9_isUnder_34 rfl h
  · refine zk_iload_n X 0 dX9_isUnder_4 rfl rfl ?_
    refine zk_iload_n X 1 dX9_isUnder_5 rfl rfl ?_
    refine zk_icmp_eq X (tgt := 29) dX9_isUnder_6 (by decide) h (fun h => ?_) (fun h => ?_)
    · refine zk_iconst X (v := 1) dX9_isUnder_29 (by decide) ?_
      refine zk_goto X (tgt := 34) dX9_isUnder_30 (by decide) ?_
      exact zk_zreturn X hr dX9_isUnder_34 rfl h
    · refine zk_iload_n X 1 dX9_isUnder_9 rfl rfl ?_
      refine zk_iconst X (v := 1) dX9_isUnder_10 (by decide) ?_
      refine zk_icmp_ne X (tgt := 19) dX9_isUnder_11 (by decide) h (fun h => ?_) (fun h => ?_)
      · refine zk_iload_n X 0 dX9_isUnder_14 rfl rfl ?_
        refine zk_iconst X (v := 3) dX9_isUnder_15 (by decide) ?_
        refine zk_icmp_eq X (tgt := 29) dX9_isUnder_16 (by decide) h (fun h => ?_) (fun h => ?_)
        · refine zk_iconst X (v := 1) dX9_isUnder_29 (by decide) ?_
          refine zk_goto X (tgt := 34) dX9_isUnder_30 (by decide) ?_
          exact zk_zreturn X hr dX9_isUnder_34 rfl h
        · exact zk_sub [0, 1] rfl (B19  _ _ _ h)
      · exact zk_sub [0, 1] rfl (B19  _ _ _ h)
def fX9_kindTold (x1 : Int32) (x2 : Int32) (x3 : Int32) (x4 : Int32) (z : zk_Z) : Option (Int32 × zk_Z) := zk_bd (fX9_in x1 0 5 z) (fun r2 z1 => if r2 = 0 then some ((-2), z1) else zk_bd (fX9_in x3 1 3 z1) (fun r4 z3 => if r4 = 0 then some ((-2), z3) else zk_bd (fX9_in x2 0 x3 z3) (fun r6 z5 => if r6 = 0 then some ((-2), z5) else zk_bd (fX9_in x4 0 1 z5) (fun r8 z7 => if r8 = 0 then some ((-2), z7) else if x4 = 1 then zk_bd (fX9_worth x1 x2 x3 z7) (fun r10 z9 => some (r10, z9)) else zk_bd (fX9_holds x1 x2 x3 z7) (fun r12 z11 => if r12 = 0 then some (0, z11) else some (1, z11))))))
set_option maxRecDepth 100000 in
set_option maxHeartbeats 8000000 in
theorem ct_X9_kindTold (l : Launch) (E : zk_E) (hi : zk_inj E) (x1 : Int32) (x2 : Int32) (x3 : Int32) (x4 : Int32) (z : zk_Z) (r : Int32) (z' : zk_Z) (h : fX9_kindTold  x1 x2 x3 x4 z = some (r, z')) : Met l yX9_kindTold wsX9_kindTold { frames := 2, cells := 0, slots := 0, locals := 45 } (va_Pc [.ref (E.2.1 20 0), .int x1, .int x2, .int x3, .int x4] (zk_W E z)) (zk_Qi E r z') 0 0 (zk_A E) := by
  refine zk_met (cc := cX9_kindTold) (maxL := 5) (ret := (some .int)) (own := RX9) (by decide) rfl rfl hi (Nat.le_of_ble_eq_true rfl) ?_
  intro p e s m args below meth c X hr
  unfold fX9_kindTold at h
  refine zk_iload_n X 1 dX9_kindTold_0 rfl rfl ?_
  refine zk_iconst X (v := 0) dX9_kindTold_1 (by decide) ?_
  refine zk_iconst X (v := 5) dX9_kindTold_2 (by decide) ?_
  refine zk_si X h (fun rr zz hf => ct_X9_in l E hi  x1 0 5 _ rr zz hf) (va_cwS 3 X.1.2.2.2.2 gX9_kindTold_X9_in rfl rfl rfl (by decide +kernel) ⟨Nat.le_of_ble_eq_true rfl, Nat.le_of_ble_eq_true rfl⟩) rfl rfl (Nat.le_of_ble_eq_true rfl) dX9_kindTold_3 (fun r2 z1 h => ?_)
  refine zk_if_eq X (tgt := 37) dX9_kindTold_6 (by decide) h (fun h => ?_) (fun h => ?_)
  · refine zk_bipush X (v := -2) dX9_kindTold_37 (by decide) ?_
    exact zk_ireturn X hr dX9_kindTold_39 h
  · refine zk_iload_n X 3 dX9_kindTold_9 rfl rfl ?_
    refine zk_iconst X (v := 1) dX9_kindTold_10 (by decide) ?_
    refine zk_iconst X (v := 3) dX9_kindTold_11 (by decide) ?_
    refine zk_si X h (fun rr zz hf => ct_X9_in l E hi  x3 1 3 _ rr zz hf) (va_cwS 3 X.1.2.2.2.2 gX9_kindTold_X9_in rfl rfl rfl (by decide +kernel) ⟨Nat.le_of_ble_eq_true rfl, Nat.le_of_ble_eq_true rfl⟩) rfl rfl (Nat.le_of_ble_eq_true rfl) dX9_kindTold_12 (fun r4 z3 h => ?_)
    refine zk_if_eq X (tgt := 37) dX9_kindTold_15 (by decide) h (fun h => ?_) (fun h => ?_)
    · refine zk_bipush X (v := -2) dX9_kindTold_37 (by decide) ?_
      exact zk_ireturn X hr dX9_kindTold_39 h
    · refine zk_iload_n X 2 dX9_kindTold_18 rfl rfl ?_
      refine zk_iconst X (v := 0) dX9_kindTold_19 (by decide) ?_
      refine zk_iload_n X 3 dX9_kindTold_20 rfl rfl ?_
      refine zk_si X h (fun rr zz hf => ct_X9_in l E hi  x2 0 x3 _ rr zz hf) (va_cwS 3 X.1.2.2.2.2 gX9_kindTold_X9_in rfl rfl rfl (by decide +kernel) ⟨Nat.le_of_ble_eq_true rfl, Nat.le_of_ble_eq_true rfl⟩) rfl rfl (Nat.le_of_ble_eq_true rfl) dX9_kindTold_21 (fun r6 z5 h => ?_)
      refine zk_if_eq X (tgt := 37) dX9_kindTold_24 (by decide) h (fun h => ?_) (fun h => ?_)
      · refine zk_bipush X (v := -2) dX9_kindTold_37 (by decide) ?_
        exact zk_ireturn X hr dX9_kindTold_39 h
      · refine zk_iload X 4 dX9_kindTold_27 rfl ?_
        refine zk_iconst X (v := 0) dX9_kindTold_29 (by decide) ?_
        refine zk_iconst X (v := 1) dX9_kindTold_30 (by decide) ?_
        refine zk_si X h (fun rr zz hf => ct_X9_in l E hi  x4 0 1 _ rr zz hf) (va_cwS 3 X.1.2.2.2.2 gX9_kindTold_X9_in rfl rfl rfl (by decide +kernel) ⟨Nat.le_of_ble_eq_true rfl, Nat.le_of_ble_eq_true rfl⟩) rfl rfl (Nat.le_of_ble_eq_true rfl) dX9_kindTold_31 (fun r8 z7 h => ?_)
        refine zk_if_ne X (tgt := 40) dX9_kindTold_34 (by decide) h (fun h => ?_) (fun h => ?_)
        · refine zk_bipush X (v := -2) dX9_kindTold_37 (by decide) ?_
          exact zk_ireturn X hr dX9_kindTold_39 h
        · refine zk_iload X 4 dX9_kindTold_40 rfl ?_
          refine zk_iconst X (v := 1) dX9_kindTold_42 (by decide) ?_
          refine zk_icmp_ne X (tgt := 55) dX9_kindTold_43 (by decide) h (fun h => ?_) (fun h => ?_)
          · refine zk_iload_n X 1 dX9_kindTold_46 rfl rfl ?_
            refine zk_iload_n X 2 dX9_kindTold_47 rfl rfl ?_
            refine zk_iload_n X 3 dX9_kindTold_48 rfl rfl ?_
            refine zk_si X h (fun rr zz hf => ct_X9_worth l E hi  x1 x2 x3 _ rr zz hf) (va_cwS 3 X.1.2.2.2.2 gX9_kindTold_X9_worth rfl rfl rfl (by decide +kernel) ⟨Nat.le_of_ble_eq_true rfl, Nat.le_of_ble_eq_true rfl⟩) rfl rfl (Nat.le_of_ble_eq_true rfl) dX9_kindTold_49 (fun r10 z9 h => ?_)
            refine zk_goto X (tgt := 69) dX9_kindTold_52 (by decide) ?_
            exact zk_ireturn X hr dX9_kindTold_69 h
          · refine zk_iload_n X 1 dX9_kindTold_55 rfl rfl ?_
            refine zk_iload_n X 2 dX9_kindTold_56 rfl rfl ?_
            refine zk_iload_n X 3 dX9_kindTold_57 rfl rfl ?_
            refine zk_si X h (fun rr zz hf => ct_X9_holds l E hi  x1 x2 x3 _ rr zz hf) (va_cwS 3 X.1.2.2.2.2 gX9_kindTold_X9_holds rfl rfl rfl (by decide +kernel) ⟨Nat.le_of_ble_eq_true rfl, Nat.le_of_ble_eq_true rfl⟩) rfl rfl (Nat.le_of_ble_eq_true rfl) dX9_kindTold_58 (fun r12 z11 h => ?_)
            refine zk_if_eq X (tgt := 68) dX9_kindTold_61 (by decide) h (fun h => ?_) (fun h => ?_)
            · refine zk_iconst X (v := 0) dX9_kindTold_68 (by decide) ?_
              exact zk_ireturn X hr dX9_kindTold_69 h
            · refine zk_iconst X (v := 1) dX9_kindTold_64 (by decide) ?_
              refine zk_goto X (tgt := 69) dX9_kindTold_65 (by decide) ?_
              exact zk_ireturn X hr dX9_kindTold_69 h
def fX9_lean_B68 (a1 : Int32) (a2 : Int32) (s0 : Int32) (z : zk_Z) : Option (Int32 × zk_Z) := if s0 = 0 then zk_bd (fX9_more a1 a2 z) (fun r8 z7 => some (r8, z7)) else zk_bd (fX9_more a1 a2 z) (fun r10 z9 => some (0 - r10, z9))
def fX9_lean_B67 (a1 : Int32) (a2 : Int32) (z : zk_Z) : Option (Int32 × zk_Z) := fX9_lean_B68 a1 a2 0 z
def fX9_lean_B27 (a1 : Int32) (a2 : Int32) (s0 : Int32) (s2 : Int32) (s3 : Int32) (z : zk_Z) : Option (Int32 × zk_Z) := zk_gd (zk_ix s0 9) (zk_bd (fX9_in s3 s2 ((z.1 28 0 s0.toNatClampNeg) - 1) z) (fun r6 z5 => if r6 = 0 then some ((-1000), z5) else zk_gd (zk_ix a1 9) (if (z5.1 30 0 a1.toNatClampNeg) = (-1) then fX9_lean_B67 a1 a2 z5 else zk_gd (zk_ix a1 9) (if (((z5.1 30 0 a1.toNatClampNeg) >>> (a2 &&& 31)) &&& 1) = 0 then fX9_lean_B68 a1 a2 1 z5 else fX9_lean_B67 a1 a2 z5))))
def fX9_lean (x1 : Int32) (x2 : Int32) (z : zk_Z) : Option (Int32 × zk_Z) := zk_bd (fX9_isTask x1 z) (fun r2 z1 => if r2 = 0 then some ((-1000), z1) else zk_bd (fX9_isTask x1 z1) (fun r4 z3 => if r4 = 0 then fX9_lean_B27 x1 x2 0 0 x2 z3 else fX9_lean_B27 x1 x2 x1 0 x2 z3))
set_option maxRecDepth 100000 in
set_option maxHeartbeats 8000000 in
theorem ct_X9_lean (l : Launch) (E : zk_E) (hi : zk_inj E) (x1 : Int32) (x2 : Int32) (z : zk_Z) (r : Int32) (z' : zk_Z) (h : fX9_lean  x1 x2 z = some (r, z')) : Met l yX9_lean wsX9_lean { frames := 2, cells := 0, slots := 0, locals := 43 } (va_Pc [.ref (E.2.1 20 0), .int x1, .int x2] (zk_W E z)) (zk_Qi E r z') 0 0 (zk_A E) := by
  refine zk_met (cc := cX9_lean) (maxL := 4) (ret := (some .int)) (own := RX9) (by decide) rfl rfl hi (Nat.le_of_ble_eq_true rfl) ?_
  intro p e s m args below meth c X hr
  have iX9 : ∀ w ∈ u_ws RX9 TX9 32, w ∈ wsX9_lean := by decide +kernel
  have w0 : Cond.fieldLink RX9 31 "HiddenWorksModel" "letters" "[I" ∈ wsX9_lean := by decide +kernel
  have w1 : Cond.fieldLink RX9 37 "HiddenWorksModel" "hidden" "[I" ∈ wsX9_lean := by decide +kernel
  have B68 : ∀ (a1 : Int32) (a2 : Int32) (s0 : Int32) (z : zk_Z), fX9_lean_B68 a1 a2 s0 z = some (r, z') → zk_G p l e (headSpec wsX9_lean { frames := 2, cells := 0, slots := 0, locals := 43 }).room s m args below meth c E 4 0 0 (MQ below (zk_Qi E r z') args s 0 0 (zk_A E)) 68 [(0, .ref (E.2.1 20 0)), (1, .int a1), (2, .int a2)] [.int s0] z := by
    intro a1 a2 s0 z h
    unfold fX9_lean_B68 at h
    refine zk_istore_n X (lv' := [(3, .int s0), (0, .ref (E.2.1 20 0)), (1, .int a1), (2, .int a2)]) dX9_lean_68 rfl (by decide) rfl ?_
    refine zk_iload_n X 0 dX9_lean_69 rfl rfl ?_
    refine zk_if_eq X (tgt := 83) dX9_lean_70 (by decide) h (fun h => ?_) (fun h => ?_)
    · refine zk_aload_n X 1 dX9_lean_83 rfl rfl ?_
      refine zk_iload_n X 2 dX9_lean_84 rfl rfl ?_
      refine zk_iload_n X 3 dX9_lean_85 rfl rfl ?_
      refine zk_vi X h (fun rr zz hf => ct_X9_more l E hi a1 a2 _ rr zz hf) (cwV 2 X.1.2.2.2.2 gX9_lean_X9_more rfl rfl rfl (by decide +kernel) ⟨Nat.le_of_ble_eq_true rfl, Nat.le_of_ble_eq_true rfl⟩) (zk_recv X (g := 20) (Nat.zero_lt_one) rfl rfl) rfl rfl (Nat.le_of_ble_eq_true rfl) dX9_lean_86 (fun r8 z7 h => ?_)
      exact zk_ireturn X hr dX9_lean_89 h
    · refine zk_aload_n X 1 dX9_lean_73 rfl rfl ?_
      refine zk_iload_n X 2 dX9_lean_74 rfl rfl ?_
      refine zk_iload_n X 3 dX9_lean_75 rfl rfl ?_
      refine zk_vi X h (fun rr zz hf => ct_X9_more l E hi a1 a2 _ rr zz hf) (cwV 2 X.1.2.2.2.2 gX9_lean_X9_more rfl rfl rfl (by decide +kernel) ⟨Nat.le_of_ble_eq_true rfl, Nat.le_of_ble_eq_true rfl⟩) (zk_recv X (g := 20) (Nat.zero_lt_one) rfl rfl) rfl rfl (Nat.le_of_ble_eq_true rfl) dX9_lean_76 (fun r10 z9 h => ?_)
      refine zk_ineg X dX9_lean_79 ?_
      refine zk_goto X (tgt := 89) dX9_lean_80 (by decide) ?_
      exact zk_ireturn X hr dX9_lean_89 h
  have B67 : ∀ (a1 : Int32) (a2 : Int32) (z : zk_Z), fX9_lean_B67 a1 a2 z = some (r, z') → zk_G p l e (headSpec wsX9_lean { frames := 2, cells := 0, slots := 0, locals := 43 }).room s m args below meth c E 4 0 0 (MQ below (zk_Qi E r z') args s 0 0 (zk_A E)) 67 [(0, .ref (E.2.1 20 0)), (1, .int a1), (2, .int a2)] [] z := by
    intro a1 a2 z h
    unfold fX9_lean_B67 at h
    refine zk_iconst X (v := 0) dX9_lean_67 (by decide) ?_
    exact zk_sub [0, 1, 2] rfl (B68 _ _ _ _ h)
  have B27 : ∀ (a1 : Int32) (a2 : Int32) (s0 : Int32) (s2 : Int32) (s3 : Int32) (z : zk_Z), fX9_lean_B27 a1 a2 s0 s2 s3 z = some (r, z') → zk_G p l e (headSpec wsX9_lean { frames := 2, cells := 0, slots := 0, locals := 43 }).room s m args below meth c E 4 0 0 (MQ below (zk_Qi E r z') args s 0 0 (zk_A E)) 27 [(0, .ref (E.2.1 20 0)), (1, .int a1), (2, .int a2)] [.int s0, .ref (E.2.1 28 0), .int s2, .int s3] z := by
    intro a1 a2 s0 s2 s3 z h
    unfold fX9_lean_B27 at h
    refine zk_iald X (g := 28) (Nat.zero_lt_one) rfl dX9_lean_27 h (fun h => ?_)
    refine zk_iconst X (v := 1) dX9_lean_28 (by decide) ?_
    refine zk_isub X dX9_lean_29 ?_
    refine zk_si X h (fun rr zz hf => ct_X9_in l E hi s3 s2 ((z.1 28 0 s0.toNatClampNeg) - 1) _ rr zz hf) (va_cwS 3 X.1.2.2.2.2 gX9_lean_X9_in rfl rfl rfl (by decide +kernel) ⟨Nat.le_of_ble_eq_true rfl, Nat.le_of_ble_eq_true rfl⟩) rfl rfl (Nat.le_of_ble_eq_true rfl) dX9_lean_30 (fun r6 z5 h => ?_)
    refine zk_if_ne X (tgt := 40) dX9_lean_33 (by decide) h (fun h => ?_) (fun h => ?_)
    · refine zk_sipush X (v := -1000) dX9_lean_36 (by decide) ?_
      exact zk_ireturn X hr dX9_lean_39 h
    · refine zk_aload_n X 0 dX9_lean_40 rfl rfl ?_
      refine zk_get X iX9 (g := 20) (Nat.zero_lt_one) rfl rfl 12 (by decide) w1 rfl dX9_lean_41 ?_
      refine zk_iload_n X 1 dX9_lean_44 rfl rfl ?_
      refine zk_iald X (g := 30) (Nat.zero_lt_one) rfl dX9_lean_45 h (fun h => ?_)
      refine zk_iconst X (v := -1) dX9_lean_46 (by decide) ?_
      refine zk_icmp_eq X (tgt := 67) dX9_lean_47 (by decide) h (fun h => ?_) (fun h => ?_)
      · exact zk_sub [0, 1, 2] rfl (B67 _ _ _ h)
      · refine zk_aload_n X 0 dX9_lean_50 rfl rfl ?_
        refine zk_get X iX9 (g := 20) (Nat.zero_lt_one) rfl rfl 12 (by decide) w1 rfl dX9_lean_51 ?_
        refine zk_iload_n X 1 dX9_lean_54 rfl rfl ?_
        refine zk_iald X (g := 30) (Nat.zero_lt_one) rfl dX9_lean_55 h (fun h => ?_)
        refine zk_iload_n X 2 dX9_lean_56 rfl rfl ?_
        refine zk_ishr X dX9_lean_57 ?_
        refine zk_iconst X (v := 1) dX9_lean_58 (by decide) ?_
        refine zk_iand X dX9_lean_59 ?_
        refine zk_if_ne X (tgt := 67) dX9_lean_60 (by decide) h (fun h => ?_) (fun h => ?_)
        · refine zk_iconst X (v := 1) dX9_lean_63 (by decide) ?_
          refine zk_goto X (tgt := 68) dX9_lean_64 (by decide) ?_
          exact zk_sub [0, 1, 2] rfl (B68 _ _ _ _ h)
        · exact zk_sub [0, 1, 2] rfl (B67 _ _ _ h)
  unfold fX9_lean at h
  refine zk_aload_n X 0 dX9_lean_0 rfl rfl ?_
  refine zk_iload_n X 1 dX9_lean_1 rfl rfl ?_
  refine zk_vi X h (fun rr zz hf => ct_X9_isTask l E hi  x1 _ rr zz hf) (cwV 1 X.1.2.2.2.2 gX9_lean_X9_isTask rfl rfl rfl (by decide +kernel) ⟨Nat.le_of_ble_eq_true rfl, Nat.le_of_ble_eq_true rfl⟩) (zk_recv X (g := 20) (Nat.zero_lt_one) rfl rfl) rfl rfl (Nat.le_of_ble_eq_true rfl) dX9_lean_2 (fun r2 z1 h => ?_)
  refine zk_if_eq X (tgt := 36) dX9_lean_5 (by decide) h (fun h => ?_) (fun h => ?_)
  · refine zk_sipush X (v := -1000) dX9_lean_36 (by decide) ?_
    exact zk_ireturn X hr dX9_lean_39 h
  · refine zk_iload_n X 2 dX9_lean_8 rfl rfl ?_
    refine zk_iconst X (v := 0) dX9_lean_9 (by decide) ?_
    refine zk_aload_n X 0 dX9_lean_10 rfl rfl ?_
    refine zk_get X iX9 (g := 20) (Nat.zero_lt_one) rfl rfl 10 (by decide) w0 rfl dX9_lean_11 ?_
    refine zk_aload_n X 0 dX9_lean_14 rfl rfl ?_
    refine zk_iload_n X 1 dX9_lean_15 rfl rfl ?_
    refine zk_vi X h (fun rr zz hf => ct_X9_isTask l E hi  x1 _ rr zz hf) (cwV 1 X.1.2.2.2.2 gX9_lean_X9_isTask rfl rfl rfl (by decide +kernel) ⟨Nat.le_of_ble_eq_true rfl, Nat.le_of_ble_eq_true rfl⟩) (zk_recv X (g := 20) (Nat.zero_lt_one) rfl rfl) rfl rfl (Nat.le_of_ble_eq_true rfl) dX9_lean_16 (fun r4 z3 h => ?_)
    refine zk_if_eq X (tgt := 26) dX9_lean_19 (by decide) h (fun h => ?_) (fun h => ?_)
    · refine zk_iconst X (v := 0) dX9_lean_26 (by decide) ?_
      exact zk_sub [0, 1, 2] rfl (B27  _ _ _ _ _ _ h)
    · refine zk_iload_n X 1 dX9_lean_22 rfl rfl ?_
      refine zk_goto X (tgt := 27) dX9_lean_23 (by decide) ?_
      exact zk_sub [0, 1, 2] rfl (B27  _ _ _ _ _ _ h)
def fX9_lowest_B64 (a5 : Int64) (s0 : Int64) (z : zk_Z) : Option (Int64 × zk_Z) := zk_gd (zk_nzl a5) (some (s0 / a5, z))
def fX9_lowest_L17 : Nat → Int64 → Int64 → Int32 → Int64 → Int64 → zk_Z → Option (Int64 × zk_Z)
  | 0, _, _, _, _, _, _ => none
  | n + 1, a0, a2, a4, a5, a7, z => if (lg_cmp a7 0) = 0 then if (lg_cmp a0 0) = 0 then some (a4.toInt64, z) else if a4 = 0 then fX9_lowest_B64 a5 a0 z else fX9_lowest_B64 a5 a2 z else zk_gd (zk_nzl a7) ((fX9_lowest_L17 n) a0 a2 a4 a7 (a5 - a5 / a7 * a7) z)
def fX9_lowest_B12 (a0 : Int64) (a2 : Int64) (a4 : Int32) (s0 : Int64) (z : zk_Z) : Option (Int64 × zk_Z) := fX9_lowest_L17 zk_FU a0 a2 a4 s0 a2 z
def fX9_lowest (x0 : Int64) (x2 : Int64) (x4 : Int32) (z : zk_Z) : Option (Int64 × zk_Z) := if 0 ≤ (lg_cmp x0 0) then fX9_lowest_B12 x0 x2 x4 x0 z else fX9_lowest_B12 x0 x2 x4 (0 - x0) z
set_option maxRecDepth 100000 in
set_option maxHeartbeats 8000000 in
theorem ct_X9_lowest (l : Launch) (E : zk_E) (hi : zk_inj E) (x0 : Int64) (x2 : Int64) (x4 : Int32) (z : zk_Z) (r : Int64) (z' : zk_Z) (h : fX9_lowest  x0 x2 x4 z = some (r, z')) : Met l yX9_lowest wsX9_lowest { frames := 0, cells := 0, slots := 0, locals := 0 } (va_Pc [.long x0, .long x2, .int x4] (zk_W E z)) (zk_Ql E r z') 0 0 (zk_A E) := by
  refine zk_met (cc := cX9_lowest) (maxL := 11) (ret := (some .long)) (own := RX9) (by decide) rfl rfl hi (Nat.le_of_ble_eq_true rfl) ?_
  intro p e s m args below meth c X hr
  have B64 : ∀ (a5 : Int64) (s0 : Int64) (z : zk_Z), fX9_lowest_B64 a5 s0 z = some (r, z') → zk_G p l e (headSpec wsX9_lowest { frames := 0, cells := 0, slots := 0, locals := 0 }).room s m args below meth c E 11 0 0 (MQ below (zk_Ql E r z') args s 0 0 (zk_A E)) 64 [(5, .long a5)] [.long s0] z := by
    intro a5 s0 z h
    unfold fX9_lowest_B64 at h
    refine zk_lload X 0 dX9_lowest_64 rfl ?_
    refine zk_ldiv X dX9_lowest_66 h (fun h => ?_)
    exact zk_lreturn X hr dX9_lowest_67 h
  have L17 : ∀ (n : Nat) (a0 : Int64) (a2 : Int64) (a4 : Int32) (a5 : Int64) (a7 : Int64) (z : zk_Z), fX9_lowest_L17 n a0 a2 a4 a5 a7 z = some (r, z') → zk_G p l e (headSpec wsX9_lowest { frames := 0, cells := 0, slots := 0, locals := 0 }).room s m args below meth c E 11 0 0 (MQ below (zk_Ql E r z') args s 0 0 (zk_A E)) 17 [(0, .long a0), (2, .long a2), (4, .int a4), (5, .long a5), (7, .long a7)] [] z := by
    intro n
    induction n with
    | zero => intro a0 a2 a4 a5 a7 z h; exact absurd h (by simp [fX9_lowest_L17])
    | succ n ih =>
      intro a0 a2 a4 a5 a7 z h
      rw [fX9_lowest_L17] at h
      refine zk_lload X 4 dX9_lowest_17 rfl ?_
      refine zk_lconst X (v := 0) dX9_lowest_19 (by decide) ?_
      refine zk_lcmp X dX9_lowest_20 ?_
      refine zk_if_eq X (tgt := 42) dX9_lowest_21 (by decide) h (fun h => ?_) (fun h => ?_)
      · refine zk_lload_n X 0 dX9_lowest_42 rfl rfl ?_
        refine zk_lconst X (v := 0) dX9_lowest_43 (by decide) ?_
        refine zk_lcmp X dX9_lowest_44 ?_
        refine zk_if_ne X (tgt := 54) dX9_lowest_45 (by decide) h (fun h => ?_) (fun h => ?_)
        · refine zk_iload X 2 dX9_lowest_48 rfl ?_
          refine zk_i2l X dX9_lowest_50 ?_
          refine zk_goto X (tgt := 67) dX9_lowest_51 (by decide) ?_
          exact zk_lreturn X hr dX9_lowest_67 h
        · refine zk_iload X 2 dX9_lowest_54 rfl ?_
          refine zk_if_ne X (tgt := 63) dX9_lowest_56 (by decide) h (fun h => ?_) (fun h => ?_)
          · refine zk_lload_n X 0 dX9_lowest_59 rfl rfl ?_
            refine zk_goto X (tgt := 64) dX9_lowest_60 (by decide) ?_
            exact zk_sub [3] rfl (B64 _ _ _ h)
          · refine zk_lload_n X 1 dX9_lowest_63 rfl rfl ?_
            exact zk_sub [3] rfl (B64 _ _ _ h)
      · refine zk_lload X 3 dX9_lowest_24 rfl ?_
        refine zk_lload X 4 dX9_lowest_26 rfl ?_
        refine zk_lrem X dX9_lowest_28 h (fun h => ?_)
        refine zk_lstore X (lv' := [(9, .long (a5 - a5 / a7 * a7)), (0, .long a0), (2, .long a2), (4, .int a4), (5, .long a5), (7, .long a7)]) dX9_lowest_29 (by decide) rfl ?_
        refine zk_lload X 5 dX9_lowest_31 rfl ?_
        refine zk_lstore X (lv' := [(5, .long a7), (9, .long (a5 - a5 / a7 * a7)), (0, .long a0), (2, .long a2), (4, .int a4), (7, .long a7)]) dX9_lowest_33 (by decide) rfl ?_
        refine zk_lload X 1 dX9_lowest_35 rfl ?_
        refine zk_lstore X (lv' := [(7, .long (a5 - a5 / a7 * a7)), (5, .long a7), (9, .long (a5 - a5 / a7 * a7)), (0, .long a0), (2, .long a2), (4, .int a4)]) dX9_lowest_37 (by decide) rfl ?_
        refine zk_goto X (tgt := 17) dX9_lowest_39 (by decide) ?_
        exact zk_sub [3, 4, 5, 1, 0] rfl (ih _ _ _ _ _ _ h)
  have B12 : ∀ (a0 : Int64) (a2 : Int64) (a4 : Int32) (s0 : Int64) (z : zk_Z), fX9_lowest_B12 a0 a2 a4 s0 z = some (r, z') → zk_G p l e (headSpec wsX9_lowest { frames := 0, cells := 0, slots := 0, locals := 0 }).room s m args below meth c E 11 0 0 (MQ below (zk_Ql E r z') args s 0 0 (zk_A E)) 12 [(0, .long a0), (2, .long a2), (4, .int a4)] [.long s0] z := by
    intro a0 a2 a4 s0 z h
    unfold fX9_lowest_B12 at h
    refine zk_lstore X (lv' := [(5, .long s0), (0, .long a0), (2, .long a2), (4, .int a4)]) dX9_lowest_12 (by decide) rfl ?_
    refine zk_lload_n X 2 dX9_lowest_14 rfl rfl ?_
    refine zk_lstore X (lv' := [(7, .long a2), (5, .long s0), (0, .long a0), (2, .long a2), (4, .int a4)]) dX9_lowest_15 (by decide) rfl ?_
    exact zk_sub [2, 3, 4, 1, 0] rfl (L17 _ _ _ _ _ _ _ h)
  unfold fX9_lowest at h
  refine zk_lload_n X 0 dX9_lowest_0 rfl rfl ?_
  refine zk_lconst X (v := 0) dX9_lowest_1 (by decide) ?_
  refine zk_lcmp X dX9_lowest_2 ?_
  refine zk_if_ge X (tgt := 11) dX9_lowest_3 (by decide) h (fun h => ?_) (fun h => ?_)
  · refine zk_lload_n X 0 dX9_lowest_11 rfl rfl ?_
    exact zk_sub [0, 1, 2] rfl (B12  _ _ _ _ _ h)
  · refine zk_lload_n X 0 dX9_lowest_6 rfl rfl ?_
    refine zk_lneg X dX9_lowest_7 ?_
    refine zk_goto X (tgt := 12) dX9_lowest_8 (by decide) ?_
    exact zk_sub [0, 1, 2] rfl (B12  _ _ _ _ _ h)
def fX9_leans (x1 : Int32) (x2 : Int32) (z : zk_Z) : Option (Int64 × zk_Z) := zk_bd (fX9_isRecipe x1 z) (fun r2 z1 => if r2 = 0 then some ((-4611686018427387904), z1) else zk_bd (fX9_in x2 0 1 z1) (fun r4 z3 => if r4 = 0 then some ((-4611686018427387904), z3) else zk_bd (fX9_leanSum x1 z3) (fun r6 z5 => zk_bd (fX9_all x1 z5) (fun r8 z7 => zk_gd (zk_ix x1 6) (zk_bd (fX9_lowest r6.toInt64 (r8.toInt64 * ((z7.1 25 0 x1.toNatClampNeg).toInt64)) x2 z7) (fun r10 z9 => some (r10, z9)))))))
set_option maxRecDepth 100000 in
set_option maxHeartbeats 8000000 in
theorem ct_X9_leans (l : Launch) (E : zk_E) (hi : zk_inj E) (x1 : Int32) (x2 : Int32) (z : zk_Z) (r : Int64) (z' : zk_Z) (h : fX9_leans  x1 x2 z = some (r, z')) : Met l yX9_leans wsX9_leans { frames := 2, cells := 0, slots := 0, locals := 44 } (va_Pc [.ref (E.2.1 20 0), .int x1, .int x2] (zk_W E z)) (zk_Ql E r z') 0 0 (zk_A E) := by
  refine zk_met (cc := cX9_leans) (maxL := 3) (ret := (some .long)) (own := RX9) (by decide) rfl rfl hi (Nat.le_of_ble_eq_true rfl) ?_
  intro p e s m args below meth c X hr
  have iX9 : ∀ w ∈ u_ws RX9 TX9 32, w ∈ wsX9_leans := by decide +kernel
  have w0 : Cond.constantLong RX9 194 (-4611686018427387904) ∈ wsX9_leans := by decide +kernel
  have w1 : Cond.fieldLink RX9 22 "HiddenWorksModel" "rWide" "[I" ∈ wsX9_leans := by decide +kernel
  unfold fX9_leans at h
  refine zk_aload_n X 0 dX9_leans_0 rfl rfl ?_
  refine zk_iload_n X 1 dX9_leans_1 rfl rfl ?_
  refine zk_vi X h (fun rr zz hf => ct_X9_isRecipe l E hi  x1 _ rr zz hf) (cwV 1 X.1.2.2.2.2 gX9_leans_X9_isRecipe rfl rfl rfl (by decide +kernel) ⟨Nat.le_of_ble_eq_true rfl, Nat.le_of_ble_eq_true rfl⟩) (zk_recv X (g := 20) (Nat.zero_lt_one) rfl rfl) rfl rfl (Nat.le_of_ble_eq_true rfl) dX9_leans_2 (fun r2 z1 h => ?_)
  refine zk_if_eq X (tgt := 44) dX9_leans_5 (by decide) h (fun h => ?_) (fun h => ?_)
  · refine zk_ldc2 X w0 dX9_leans_44 ?_
    exact zk_lreturn X hr dX9_leans_47 h
  · refine zk_iload_n X 2 dX9_leans_8 rfl rfl ?_
    refine zk_iconst X (v := 0) dX9_leans_9 (by decide) ?_
    refine zk_iconst X (v := 1) dX9_leans_10 (by decide) ?_
    refine zk_si X h (fun rr zz hf => ct_X9_in l E hi  x2 0 1 _ rr zz hf) (va_cwS 3 X.1.2.2.2.2 gX9_leans_X9_in rfl rfl rfl (by decide +kernel) ⟨Nat.le_of_ble_eq_true rfl, Nat.le_of_ble_eq_true rfl⟩) rfl rfl (Nat.le_of_ble_eq_true rfl) dX9_leans_11 (fun r4 z3 h => ?_)
    refine zk_if_eq X (tgt := 44) dX9_leans_14 (by decide) h (fun h => ?_) (fun h => ?_)
    · refine zk_ldc2 X w0 dX9_leans_44 ?_
      exact zk_lreturn X hr dX9_leans_47 h
    · refine zk_aload_n X 0 dX9_leans_17 rfl rfl ?_
      refine zk_iload_n X 1 dX9_leans_18 rfl rfl ?_
      refine zk_vi X h (fun rr zz hf => ct_X9_leanSum l E hi  x1 _ rr zz hf) (cwV 1 X.1.2.2.2.2 gX9_leans_X9_leanSum rfl rfl rfl (by decide +kernel) ⟨Nat.le_of_ble_eq_true rfl, Nat.le_of_ble_eq_true rfl⟩) (zk_recv X (g := 20) (Nat.zero_lt_one) rfl rfl) rfl rfl (Nat.le_of_ble_eq_true rfl) dX9_leans_19 (fun r6 z5 h => ?_)
      refine zk_i2l X dX9_leans_22 ?_
      refine zk_aload_n X 0 dX9_leans_23 rfl rfl ?_
      refine zk_iload_n X 1 dX9_leans_24 rfl rfl ?_
      refine zk_vi X h (fun rr zz hf => ct_X9_all l E hi  x1 _ rr zz hf) (cwV 1 X.1.2.2.2.2 gX9_leans_X9_all rfl rfl rfl (by decide +kernel) ⟨Nat.le_of_ble_eq_true rfl, Nat.le_of_ble_eq_true rfl⟩) (zk_recv X (g := 20) (Nat.zero_lt_one) rfl rfl) rfl rfl (Nat.le_of_ble_eq_true rfl) dX9_leans_25 (fun r8 z7 h => ?_)
      refine zk_i2l X dX9_leans_28 ?_
      refine zk_aload_n X 0 dX9_leans_29 rfl rfl ?_
      refine zk_get X iX9 (g := 20) (Nat.zero_lt_one) rfl rfl 6 (by decide) w1 rfl dX9_leans_30 ?_
      refine zk_iload_n X 1 dX9_leans_33 rfl rfl ?_
      refine zk_iald X (g := 25) (Nat.zero_lt_one) rfl dX9_leans_34 h (fun h => ?_)
      refine zk_i2l X dX9_leans_35 ?_
      refine zk_lmul X dX9_leans_36 ?_
      refine zk_iload_n X 2 dX9_leans_37 rfl rfl ?_
      refine zk_sl X h (fun rr zz hf => ct_X9_lowest l E hi  r6.toInt64 (r8.toInt64 * ((z7.1 25 0 x1.toNatClampNeg).toInt64)) x2 _ rr zz hf) (va_cwS 3 X.1.2.2.2.2 gX9_leans_X9_lowest rfl rfl rfl (by decide +kernel) ⟨Nat.le_of_ble_eq_true rfl, Nat.le_of_ble_eq_true rfl⟩) rfl rfl (Nat.le_of_ble_eq_true rfl) dX9_leans_38 (fun r10 z9 h => ?_)
      refine zk_goto X (tgt := 47) dX9_leans_41 (by decide) ?_
      exact zk_lreturn X hr dX9_leans_47 h
def fX9_make (x1 : Int32) (x2 : Int32) (z : zk_Z) : Option (Int32 × zk_Z) := zk_bd (fX9_isRecipe x1 z) (fun r2 z1 => if r2 = 0 then some ((-1), z1) else zk_bd (fX9_in x2 0 99999 z1) (fun r4 z3 => if r4 = 0 then some ((-2), z3) else if (z3.1 20 0 8) = 8 then some ((-4), z3) else zk_bd (fX9_makes (z3.1 20 0 8) x1 x2 z3) (fun _ z5 => some (((zk_sI z5 20 0 8 ((z5.1 20 0 8) + 1)).1 20 0 8) - 1, zk_sI z5 20 0 8 ((z5.1 20 0 8) + 1)))))
set_option maxRecDepth 100000 in
set_option maxHeartbeats 8000000 in
theorem ct_X9_make (l : Launch) (E : zk_E) (hi : zk_inj E) (x1 : Int32) (x2 : Int32) (z : zk_Z) (r : Int32) (z' : zk_Z) (h : fX9_make  x1 x2 z = some (r, z')) : Met l yX9_make wsX9_make { frames := 4, cells := 0, slots := 0, locals := 100 } (va_Pc [.ref (E.2.1 20 0), .int x1, .int x2] (zk_W E z)) (zk_Qi E r z') 0 0 (zk_A E) := by
  refine zk_met (cc := cX9_make) (maxL := 3) (ret := (some .int)) (own := RX9) (by decide) rfl rfl hi (Nat.le_of_ble_eq_true rfl) ?_
  intro p e s m args below meth c X hr
  have iX9 : ∀ w ∈ u_ws RX9 TX9 32, w ∈ wsX9_make := by decide +kernel
  have w0 : Cond.constant RX9 151 (99999) ∈ wsX9_make := by decide +kernel
  have w1 : Cond.fieldLink RX9 152 "HiddenWorksModel" "tasks" "I" ∈ wsX9_make := by decide +kernel
  unfold fX9_make at h
  refine zk_aload_n X 0 dX9_make_0 rfl rfl ?_
  refine zk_iload_n X 1 dX9_make_1 rfl rfl ?_
  refine zk_vi X h (fun rr zz hf => ct_X9_isRecipe l E hi  x1 _ rr zz hf) (cwV 1 X.1.2.2.2.2 gX9_make_X9_isRecipe rfl rfl rfl (by decide +kernel) ⟨Nat.le_of_ble_eq_true rfl, Nat.le_of_ble_eq_true rfl⟩) (zk_recv X (g := 20) (Nat.zero_lt_one) rfl rfl) rfl rfl (Nat.le_of_ble_eq_true rfl) dX9_make_2 (fun r2 z1 h => ?_)
  refine zk_if_ne X (tgt := 10) dX9_make_5 (by decide) h (fun h => ?_) (fun h => ?_)
  · refine zk_iconst X (v := -1) dX9_make_8 (by decide) ?_
    exact zk_ireturn X hr dX9_make_9 h
  · refine zk_iload_n X 2 dX9_make_10 rfl rfl ?_
    refine zk_iconst X (v := 0) dX9_make_11 (by decide) ?_
    refine zk_ldc X w0 dX9_make_12 ?_
    refine zk_si X h (fun rr zz hf => ct_X9_in l E hi  x2 0 99999 _ rr zz hf) (va_cwS 3 X.1.2.2.2.2 gX9_make_X9_in rfl rfl rfl (by decide +kernel) ⟨Nat.le_of_ble_eq_true rfl, Nat.le_of_ble_eq_true rfl⟩) rfl rfl (Nat.le_of_ble_eq_true rfl) dX9_make_14 (fun r4 z3 h => ?_)
    refine zk_if_ne X (tgt := 23) dX9_make_17 (by decide) h (fun h => ?_) (fun h => ?_)
    · refine zk_bipush X (v := -2) dX9_make_20 (by decide) ?_
      exact zk_ireturn X hr dX9_make_22 h
    · refine zk_aload_n X 0 dX9_make_23 rfl rfl ?_
      refine zk_get X iX9 (g := 20) (Nat.zero_lt_one) rfl rfl 8 (by decide) w1 rfl dX9_make_24 ?_
      refine zk_bipush X (v := 8) dX9_make_27 (by decide) ?_
      refine zk_icmp_ne X (tgt := 35) dX9_make_29 (by decide) h (fun h => ?_) (fun h => ?_)
      · refine zk_bipush X (v := -4) dX9_make_32 (by decide) ?_
        exact zk_ireturn X hr dX9_make_34 h
      · refine zk_aload_n X 0 dX9_make_35 rfl rfl ?_
        refine zk_aload_n X 0 dX9_make_36 rfl rfl ?_
        refine zk_get X iX9 (g := 20) (Nat.zero_lt_one) rfl rfl 8 (by decide) w1 rfl dX9_make_37 ?_
        refine zk_iload_n X 1 dX9_make_40 rfl rfl ?_
        refine zk_iload_n X 2 dX9_make_41 rfl rfl ?_
        refine zk_vv X h (fun rr zz hf => ct_X9_makes l E hi  (z3.1 20 0 8) x1 x2 _ rr zz hf) (cwV 3 X.1.2.2.2.2 gX9_make_X9_makes rfl rfl rfl (by decide +kernel) ⟨Nat.le_of_ble_eq_true rfl, Nat.le_of_ble_eq_true rfl⟩) (zk_recv X (g := 20) (Nat.zero_lt_one) rfl rfl) rfl rfl (Nat.le_of_ble_eq_true rfl) dX9_make_42 (fun z5 h => ?_)
        refine zk_aload_n X 0 dX9_make_45 rfl rfl ?_
        refine zk_dup X dX9_make_46 rfl ?_
        refine zk_get X iX9 (g := 20) (Nat.zero_lt_one) rfl rfl 8 (by decide) w1 rfl dX9_make_47 ?_
        refine zk_iconst X (v := 1) dX9_make_50 (by decide) ?_
        refine zk_iadd X dX9_make_51 ?_
        refine zk_putI X (ty := .int) iX9 tyX9 tyX9_ok nmX9 (g := 20) (Nat.zero_lt_one) rfl rfl 8 (by decide) w1 rfl (by decide +kernel) rfl rfl (Nat.le_of_ble_eq_true rfl) rfl dX9_make_52 ?_
        refine zk_aload_n X 0 dX9_make_55 rfl rfl ?_
        refine zk_get X iX9 (g := 20) (Nat.zero_lt_one) rfl rfl 8 (by decide) w1 rfl dX9_make_56 ?_
        refine zk_iconst X (v := 1) dX9_make_59 (by decide) ?_
        refine zk_isub X dX9_make_60 ?_
        exact zk_ireturn X hr dX9_make_61 h
def fX9_moved_L6 : Nat → Int32 → Int32 → Int32 → Int32 → Int32 → zk_Z → Option (Int32 × zk_Z)
  | 0, _, _, _, _, _, _ => none
  | n + 1, a1, a2, a3, a4, a5, z => if a3 ≤ a5 then some (a4, z) else zk_gd (zk_ix ((40 * a2) + a5) 160) ((fX9_moved_L6 n) a1 a2 a3 (a4 ||| (((a1 >>> (a5 &&& 31)) &&& 1) <<< ((z.1 41 0 ((40 * a2) + a5).toNatClampNeg) &&& 31))) (a5 + 1) z)
def fX9_moved (x1 : Int32) (x2 : Int32) (x3 : Int32) (z : zk_Z) : Option (Int32 × zk_Z) := fX9_moved_L6 zk_FU x1 x2 x3 0 0 z
set_option maxRecDepth 100000 in
set_option maxHeartbeats 8000000 in
theorem ct_X9_moved (l : Launch) (E : zk_E) (hi : zk_inj E) (x1 : Int32) (x2 : Int32) (x3 : Int32) (z : zk_Z) (r : Int32) (z' : zk_Z) (h : fX9_moved  x1 x2 x3 z = some (r, z')) : Met l yX9_moved wsX9_moved { frames := 0, cells := 0, slots := 0, locals := 0 } (va_Pc [.ref (E.2.1 20 0), .int x1, .int x2, .int x3] (zk_W E z)) (zk_Qi E r z') 0 0 (zk_A E) := by
  refine zk_met (cc := cX9_moved) (maxL := 6) (ret := (some .int)) (own := RX9) (by decide) rfl rfl hi (Nat.le_of_ble_eq_true rfl) ?_
  intro p e s m args below meth c X hr
  have iX9 : ∀ w ∈ u_ws RX9 TX9 32, w ∈ wsX9_moved := by decide +kernel
  have w0 : Cond.fieldLink RX9 70 "HiddenWorksModel" "cells" "[I" ∈ wsX9_moved := by decide +kernel
  have L6 : ∀ (n : Nat) (a1 : Int32) (a2 : Int32) (a3 : Int32) (a4 : Int32) (a5 : Int32) (z : zk_Z), fX9_moved_L6 n a1 a2 a3 a4 a5 z = some (r, z') → zk_G p l e (headSpec wsX9_moved { frames := 0, cells := 0, slots := 0, locals := 0 }).room s m args below meth c E 6 0 0 (MQ below (zk_Qi E r z') args s 0 0 (zk_A E)) 6 [(0, .ref (E.2.1 20 0)), (1, .int a1), (2, .int a2), (3, .int a3), (4, .int a4), (5, .int a5)] [] z := by
    intro n
    induction n with
    | zero => intro a1 a2 a3 a4 a5 z h; exact absurd h (by simp [fX9_moved_L6])
    | succ n ih =>
      intro a1 a2 a3 a4 a5 z h
      rw [fX9_moved_L6] at h
      refine zk_iload X 5 dX9_moved_6 rfl ?_
      refine zk_iload_n X 3 dX9_moved_8 rfl rfl ?_
      refine zk_icmp_ge X (tgt := 42) dX9_moved_9 (by decide) h (fun h => ?_) (fun h => ?_)
      · refine zk_iload X 4 dX9_moved_42 rfl ?_
        exact zk_ireturn X hr dX9_moved_44 h
      · refine zk_iload X 4 dX9_moved_12 rfl ?_
        refine zk_iload_n X 1 dX9_moved_14 rfl rfl ?_
        refine zk_iload X 5 dX9_moved_15 rfl ?_
        refine zk_ishr X dX9_moved_17 ?_
        refine zk_iconst X (v := 1) dX9_moved_18 (by decide) ?_
        refine zk_iand X dX9_moved_19 ?_
        refine zk_aload_n X 0 dX9_moved_20 rfl rfl ?_
        refine zk_get X iX9 (g := 20) (Nat.zero_lt_one) rfl rfl 26 (by decide) w0 rfl dX9_moved_21 ?_
        refine zk_bipush X (v := 40) dX9_moved_24 (by decide) ?_
        refine zk_iload_n X 2 dX9_moved_26 rfl rfl ?_
        refine zk_imul X dX9_moved_27 ?_
        refine zk_iload X 5 dX9_moved_28 rfl ?_
        refine zk_iadd X dX9_moved_30 ?_
        refine zk_iald X (g := 41) (Nat.zero_lt_one) rfl dX9_moved_31 h (fun h => ?_)
        refine zk_ishl X dX9_moved_32 ?_
        refine zk_ior X dX9_moved_33 ?_
        refine zk_istore X (lv' := [(4, .int (a4 ||| (((a1 >>> (a5 &&& 31)) &&& 1) <<< ((z.1 41 0 ((40 * a2) + a5).toNatClampNeg) &&& 31)))), (0, .ref (E.2.1 20 0)), (1, .int a1), (2, .int a2), (3, .int a3), (5, .int a5)]) dX9_moved_34 (by decide) rfl ?_
        refine zk_iinc X (lv' := [(5, .int (a5 + 1)), (4, .int (a4 ||| (((a1 >>> (a5 &&& 31)) &&& 1) <<< ((z.1 41 0 ((40 * a2) + a5).toNatClampNeg) &&& 31)))), (0, .ref (E.2.1 20 0)), (1, .int a1), (2, .int a2), (3, .int a3)]) 5 dX9_moved_36 rfl rfl (by decide) rfl ?_
        refine zk_goto X (tgt := 6) dX9_moved_39 (by decide) ?_
        exact zk_sub [2, 3, 4, 5, 1, 0] rfl (ih _ _ _ _ _ _ h)
  unfold fX9_moved at h
  refine zk_iconst X (v := 0) dX9_moved_0 (by decide) ?_
  refine zk_istore X (lv' := [(4, .int 0), (0, .ref (E.2.1 20 0)), (1, .int x1), (2, .int x2), (3, .int x3)]) dX9_moved_1 (by decide) rfl ?_
  refine zk_iconst X (v := 0) dX9_moved_3 (by decide) ?_
  refine zk_istore X (lv' := [(5, .int 0), (4, .int 0), (0, .ref (E.2.1 20 0)), (1, .int x1), (2, .int x2), (3, .int x3)]) dX9_moved_4 (by decide) rfl ?_
  exact zk_sub [2, 3, 4, 5, 1, 0] rfl (L6  _ _ _ _ _ _ _ h)
def fX9_nearest_B75 (c28 : Int32 → Int32 → Int32 → Int32 → zk_Z → Option (Int32 × zk_Z)) (a1 : Int32) (a2 : Int32) (a3 : Int32) (a4 : Int32) (z : zk_Z) : Option (Int32 × zk_Z) := c28 a1 a2 a3 (a4 + 1) z
def fX9_nearest_B72 (c28 : Int32 → Int32 → Int32 → Int32 → zk_Z → Option (Int32 × zk_Z)) (a1 : Int32) (a2 : Int32) (a4 : Int32) (z : zk_Z) : Option (Int32 × zk_Z) := fX9_nearest_B75 c28 a1 a2 a4 a4 z
def fX9_nearest_L28 : Nat → Int32 → Int32 → Int32 → Int32 → zk_Z → Option (Int32 × zk_Z)
  | 0, _, _, _, _, _ => none
  | n + 1, a1, a2, a3, a4, z => zk_gd (zk_ix a1 9) (if ((1 : Int32) <<< ((z.1 28 0 a1.toNatClampNeg) &&& 31)) ≤ a4 then some (a3, z) else zk_bd (fX9_doesSolve a1 a4 z) (fun r6 z5 => if r6 = 0 then fX9_nearest_B75 (fX9_nearest_L28 n) a1 a2 a3 a4 z5 else if a3 = (-1) then fX9_nearest_B72 (fX9_nearest_L28 n) a1 a2 a4 z5 else zk_bd (fX9_ones (a4 ^^^ a2) z5) (fun r8 z7 => zk_bd (fX9_ones (a3 ^^^ a2) z7) (fun r10 z9 => if r10 ≤ r8 then fX9_nearest_B75 (fX9_nearest_L28 n) a1 a2 a3 a4 z9 else fX9_nearest_B72 (fX9_nearest_L28 n) a1 a2 a4 z9))))
def fX9_nearest (x1 : Int32) (x2 : Int32) (z : zk_Z) : Option (Int32 × zk_Z) := zk_bd (fX9_isTask x1 z) (fun r2 z1 => if r2 = 0 then some ((-5), z1) else zk_bd (fX9_isRow x1 x2 z1) (fun r4 z3 => if r4 = 0 then some ((-2), z3) else fX9_nearest_L28 zk_FU x1 x2 (-1) 0 z3))
set_option maxRecDepth 100000 in
set_option maxHeartbeats 8000000 in
theorem ct_X9_nearest (l : Launch) (E : zk_E) (hi : zk_inj E) (x1 : Int32) (x2 : Int32) (z : zk_Z) (r : Int32) (z' : zk_Z) (h : fX9_nearest  x1 x2 z = some (r, z')) : Met l yX9_nearest wsX9_nearest { frames := 4, cells := 0, slots := 0, locals := 89 } (va_Pc [.ref (E.2.1 20 0), .int x1, .int x2] (zk_W E z)) (zk_Qi E r z') 0 0 (zk_A E) := by
  refine zk_met (cc := cX9_nearest) (maxL := 5) (ret := (some .int)) (own := RX9) (by decide) rfl rfl hi (Nat.le_of_ble_eq_true rfl) ?_
  intro p e s m args below meth c X hr
  have iX9 : ∀ w ∈ u_ws RX9 TX9 32, w ∈ wsX9_nearest := by decide +kernel
  have w0 : Cond.fieldLink RX9 31 "HiddenWorksModel" "letters" "[I" ∈ wsX9_nearest := by decide +kernel
  have B75 : ∀ (c28 : Int32 → Int32 → Int32 → Int32 → zk_Z → Option (Int32 × zk_Z)) (hc28 : ∀ (a1 : Int32) (a2 : Int32) (a3 : Int32) (a4 : Int32) (z : zk_Z), c28 a1 a2 a3 a4 z = some (r, z') → zk_G p l e (headSpec wsX9_nearest { frames := 4, cells := 0, slots := 0, locals := 89 }).room s m args below meth c E 5 0 0 (MQ below (zk_Qi E r z') args s 0 0 (zk_A E)) 28 [(0, .ref (E.2.1 20 0)), (1, .int a1), (2, .int a2), (3, .int a3), (4, .int a4)] [] z) (a1 : Int32) (a2 : Int32) (a3 : Int32) (a4 : Int32) (z : zk_Z), fX9_nearest_B75 c28 a1 a2 a3 a4 z = some (r, z') → zk_G p l e (headSpec wsX9_nearest { frames := 4, cells := 0, slots := 0, locals := 89 }).room s m args below meth c E 5 0 0 (MQ below (zk_Qi E r z') args s 0 0 (zk_A E)) 75 [(0, .ref (E.2.1 20 0)), (1, .int a1), (2, .int a2), (3, .int a3), (4, .int a4)] [] z := by
    intro c28 hc28 a1 a2 a3 a4 z h
    unfold fX9_nearest_B75 at h
    refine zk_iinc X (lv' := [(4, .int (a4 + 1)), (0, .ref (E.2.1 20 0)), (1, .int a1), (2, .int a2), (3, .int a3)]) 4 dX9_nearest_75 rfl rfl (by decide) rfl ?_
    refine zk_goto X (tgt := 28) dX9_nearest_78 (by decide) ?_
    exact zk_sub [1, 2, 3, 4, 0] rfl (hc28 _ _ _ _ _ h)
  have B72 : ∀ (c28 : Int32 → Int32 → Int32 → Int32 → zk_Z → Option (Int32 × zk_Z)) (hc28 : ∀ (a1 : Int32) (a2 : Int32) (a3 : Int32) (a4 : Int32) (z : zk_Z), c28 a1 a2 a3 a4 z = some (r, z') → zk_G p l e (headSpec wsX9_nearest { frames := 4, cells := 0, slots := 0, locals := 89 }).room s m args below meth c E 5 0 0 (MQ below (zk_Qi E r z') args s 0 0 (zk_A E)) 28 [(0, .ref (E.2.1 20 0)), (1, .int a1), (2, .int a2), (3, .int a3), (4, .int a4)] [] z) (a1 : Int32) (a2 : Int32) (a4 : Int32) (z : zk_Z), fX9_nearest_B72 c28 a1 a2 a4 z = some (r, z') → zk_G p l e (headSpec wsX9_nearest { frames := 4, cells := 0, slots := 0, locals := 89 }).room s m args below meth c E 5 0 0 (MQ below (zk_Qi E r z') args s 0 0 (zk_A E)) 72 [(0, .ref (E.2.1 20 0)), (1, .int a1), (2, .int a2), (4, .int a4)] [] z := by
    intro c28 hc28 a1 a2 a4 z h
    unfold fX9_nearest_B72 at h
    refine zk_iload X 3 dX9_nearest_72 rfl ?_
    refine zk_istore_n X (lv' := [(3, .int a4), (0, .ref (E.2.1 20 0)), (1, .int a1), (2, .int a2), (4, .int a4)]) dX9_nearest_74 rfl (by decide) rfl ?_
    exact zk_sub [1, 2, 3, 0, 4] rfl (B75 _ hc28 _ _ _ _ _ h)
  have L28 : ∀ (n : Nat) (a1 : Int32) (a2 : Int32) (a3 : Int32) (a4 : Int32) (z : zk_Z), fX9_nearest_L28 n a1 a2 a3 a4 z = some (r, z') → zk_G p l e (headSpec wsX9_nearest { frames := 4, cells := 0, slots := 0, locals := 89 }).room s m args below meth c E 5 0 0 (MQ below (zk_Qi E r z') args s 0 0 (zk_A E)) 28 [(0, .ref (E.2.1 20 0)), (1, .int a1), (2, .int a2), (3, .int a3), (4, .int a4)] [] z := by
    intro n
    induction n with
    | zero => intro a1 a2 a3 a4 z h; exact absurd h (by simp [fX9_nearest_L28])
    | succ n ih =>
      intro a1 a2 a3 a4 z h
      rw [fX9_nearest_L28] at h
      refine zk_iload X 4 dX9_nearest_28 rfl ?_
      refine zk_iconst X (v := 1) dX9_nearest_30 (by decide) ?_
      refine zk_aload_n X 0 dX9_nearest_31 rfl rfl ?_
      refine zk_get X iX9 (g := 20) (Nat.zero_lt_one) rfl rfl 10 (by decide) w0 rfl dX9_nearest_32 ?_
      refine zk_iload_n X 1 dX9_nearest_35 rfl rfl ?_
      refine zk_iald X (g := 28) (Nat.zero_lt_one) rfl dX9_nearest_36 h (fun h => ?_)
      refine zk_ishl X dX9_nearest_37 ?_
      refine zk_icmp_ge X (tgt := 81) dX9_nearest_38 (by decide) h (fun h => ?_) (fun h => ?_)
      · refine zk_iload_n X 3 dX9_nearest_81 rfl rfl ?_
        exact zk_ireturn X hr dX9_nearest_82 h
      · refine zk_aload_n X 0 dX9_nearest_41 rfl rfl ?_
        refine zk_iload_n X 1 dX9_nearest_42 rfl rfl ?_
        refine zk_iload X 4 dX9_nearest_43 rfl ?_
        refine zk_vi X h (fun rr zz hf => ct_X9_doesSolve l E hi a1 a4 _ rr zz hf) (cwV 2 X.1.2.2.2.2 gX9_nearest_X9_doesSolve rfl rfl rfl (by decide +kernel) ⟨Nat.le_of_ble_eq_true rfl, Nat.le_of_ble_eq_true rfl⟩) (zk_recv X (g := 20) (Nat.zero_lt_one) rfl rfl) rfl rfl (Nat.le_of_ble_eq_true rfl) dX9_nearest_45 (fun r6 z5 h => ?_)
        refine zk_if_eq X (tgt := 75) dX9_nearest_48 (by decide) h (fun h => ?_) (fun h => ?_)
        · exact zk_sub [0, 1, 2, 3, 4] rfl (B75 _ ih _ _ _ _ _ h)
        · refine zk_iload_n X 3 dX9_nearest_51 rfl rfl ?_
          refine zk_iconst X (v := -1) dX9_nearest_52 (by decide) ?_
          refine zk_icmp_eq X (tgt := 72) dX9_nearest_53 (by decide) h (fun h => ?_) (fun h => ?_)
          · exact zk_sub [0, 1, 2, 4] rfl (B72 _ ih _ _ _ _ h)
          · refine zk_iload X 4 dX9_nearest_56 rfl ?_
            refine zk_iload_n X 2 dX9_nearest_58 rfl rfl ?_
            refine zk_ixor X dX9_nearest_59 ?_
            refine zk_si X h (fun rr zz hf => ct_X9_ones l E hi (a4 ^^^ a2) _ rr zz hf) (va_cwS 1 X.1.2.2.2.2 gX9_nearest_X9_ones rfl rfl rfl (by decide +kernel) ⟨Nat.le_of_ble_eq_true rfl, Nat.le_of_ble_eq_true rfl⟩) rfl rfl (Nat.le_of_ble_eq_true rfl) dX9_nearest_60 (fun r8 z7 h => ?_)
            refine zk_iload_n X 3 dX9_nearest_63 rfl rfl ?_
            refine zk_iload_n X 2 dX9_nearest_64 rfl rfl ?_
            refine zk_ixor X dX9_nearest_65 ?_
            refine zk_si X h (fun rr zz hf => ct_X9_ones l E hi (a3 ^^^ a2) _ rr zz hf) (va_cwS 1 X.1.2.2.2.2 gX9_nearest_X9_ones rfl rfl rfl (by decide +kernel) ⟨Nat.le_of_ble_eq_true rfl, Nat.le_of_ble_eq_true rfl⟩) rfl rfl (Nat.le_of_ble_eq_true rfl) dX9_nearest_66 (fun r10 z9 h => ?_)
            refine zk_icmp_ge X (tgt := 75) dX9_nearest_69 (by decide) h (fun h => ?_) (fun h => ?_)
            · exact zk_sub [0, 1, 2, 3, 4] rfl (B75 _ ih _ _ _ _ _ h)
            · exact zk_sub [0, 1, 2, 4] rfl (B72 _ ih _ _ _ _ h)
  unfold fX9_nearest at h
  refine zk_aload_n X 0 dX9_nearest_0 rfl rfl ?_
  refine zk_iload_n X 1 dX9_nearest_1 rfl rfl ?_
  refine zk_vi X h (fun rr zz hf => ct_X9_isTask l E hi  x1 _ rr zz hf) (cwV 1 X.1.2.2.2.2 gX9_nearest_X9_isTask rfl rfl rfl (by decide +kernel) ⟨Nat.le_of_ble_eq_true rfl, Nat.le_of_ble_eq_true rfl⟩) (zk_recv X (g := 20) (Nat.zero_lt_one) rfl rfl) rfl rfl (Nat.le_of_ble_eq_true rfl) dX9_nearest_2 (fun r2 z1 h => ?_)
  refine zk_if_ne X (tgt := 11) dX9_nearest_5 (by decide) h (fun h => ?_) (fun h => ?_)
  · refine zk_bipush X (v := -5) dX9_nearest_8 (by decide) ?_
    exact zk_ireturn X hr dX9_nearest_10 h
  · refine zk_aload_n X 0 dX9_nearest_11 rfl rfl ?_
    refine zk_iload_n X 1 dX9_nearest_12 rfl rfl ?_
    refine zk_iload_n X 2 dX9_nearest_13 rfl rfl ?_
    refine zk_vi X h (fun rr zz hf => ct_X9_isRow l E hi  x1 x2 _ rr zz hf) (cwV 2 X.1.2.2.2.2 gX9_nearest_X9_isRow rfl rfl rfl (by decide +kernel) ⟨Nat.le_of_ble_eq_true rfl, Nat.le_of_ble_eq_true rfl⟩) (zk_recv X (g := 20) (Nat.zero_lt_one) rfl rfl) rfl rfl (Nat.le_of_ble_eq_true rfl) dX9_nearest_14 (fun r4 z3 h => ?_)
    refine zk_if_ne X (tgt := 23) dX9_nearest_17 (by decide) h (fun h => ?_) (fun h => ?_)
    · refine zk_bipush X (v := -2) dX9_nearest_20 (by decide) ?_
      exact zk_ireturn X hr dX9_nearest_22 h
    · refine zk_iconst X (v := -1) dX9_nearest_23 (by decide) ?_
      refine zk_istore_n X (lv' := [(3, .int (-1)), (0, .ref (E.2.1 20 0)), (1, .int x1), (2, .int x2)]) dX9_nearest_24 rfl (by decide) rfl ?_
      refine zk_iconst X (v := 0) dX9_nearest_25 (by decide) ?_
      refine zk_istore X (lv' := [(4, .int 0), (3, .int (-1)), (0, .ref (E.2.1 20 0)), (1, .int x1), (2, .int x2)]) dX9_nearest_26 (by decide) rfl ?_
      exact zk_sub [2, 3, 4, 1, 0] rfl (L28  _ _ _ _ _ _ h)
def fX9_needed_B110 (c15 : Int32 → Int32 → Int32 → zk_Z → Option (Int32 × zk_Z)) (a1 : Int32) (a3 : Int32) (s0 : Int32) (s1 : Int32) (z : zk_Z) : Option (Int32 × zk_Z) := c15 a1 (s1 ||| s0) (a3 + 1) z
def fX9_needed_B89 (c15 : Int32 → Int32 → Int32 → zk_Z → Option (Int32 × zk_Z)) (c36 : Int32 → Int32 → Int32 → Int32 → Int32 → Int32 → zk_Z → Option (Int32 × zk_Z)) (a1 : Int32) (a2 : Int32) (a3 : Int32) (a4 : Int32) (a5 : Int32) (a6 : Int32) (z : zk_Z) : Option (Int32 × zk_Z) := c36 a1 a2 a3 a4 a5 (a6 + 1) z
def fX9_needed_L36 (c15 : Int32 → Int32 → Int32 → zk_Z → Option (Int32 × zk_Z)) : Nat → Int32 → Int32 → Int32 → Int32 → Int32 → Int32 → zk_Z → Option (Int32 × zk_Z)
  | 0, _, _, _, _, _, _, _ => none
  | n + 1, a1, a2, a3, a4, a5, a6, z => zk_gd (zk_ix a1 9) (if (z.1 29 0 a1.toNatClampNeg) ≤ a6 then if a4 = 1 then fX9_needed_B110 c15 a1 a3 ((1 : Int32) <<< (a5 &&& 31)) a2 z else fX9_needed_B110 c15 a1 a3 0 a2 z else zk_gd (zk_ix a1 9) (zk_bd (fX9_is ((24 * a1) + a6) a3 z) (fun r4 z3 => zk_bd (fX9_wide ((24 * a1) + a6) z3) (fun r6 z5 => zk_bd (fX9_holds (z.1 27 0 a1.toNatClampNeg) r4 r6 z5) (fun r8 z7 => if r8 = 0 then fX9_needed_B89 c15 (fX9_needed_L36 c15 n) a1 a2 a3 (a4 + 1) a6 a6 z7 else fX9_needed_B89 c15 (fX9_needed_L36 c15 n) a1 a2 a3 a4 a5 a6 z7)))))
def fX9_needed_L15 : Nat → Int32 → Int32 → Int32 → zk_Z → Option (Int32 × zk_Z)
  | 0, _, _, _, _ => none
  | n + 1, a1, a2, a3, z => zk_gd (zk_ix a1 9) (if ((1 : Int32) <<< ((z.1 28 0 a1.toNatClampNeg) &&& 31)) ≤ a3 then some (a2, z) else fX9_needed_L36 (fX9_needed_L15 n) zk_FU a1 a2 a3 0 0 0 z)
def fX9_needed (x1 : Int32) (z : zk_Z) : Option (Int32 × zk_Z) := zk_bd (fX9_isTask x1 z) (fun r2 z1 => if r2 = 0 then some ((-5), z1) else fX9_needed_L15 zk_FU x1 0 0 z1)
set_option maxRecDepth 100000 in
set_option maxHeartbeats 8000000 in
theorem ct_X9_needed (l : Launch) (E : zk_E) (hi : zk_inj E) (x1 : Int32) (z : zk_Z) (r : Int32) (z' : zk_Z) (h : fX9_needed  x1 z = some (r, z')) : Met l yX9_needed wsX9_needed { frames := 2, cells := 0, slots := 0, locals := 44 } (va_Pc [.ref (E.2.1 20 0), .int x1] (zk_W E z)) (zk_Qi E r z') 0 0 (zk_A E) := by
  refine zk_met (cc := cX9_needed) (maxL := 7) (ret := (some .int)) (own := RX9) (by decide) rfl rfl hi (Nat.le_of_ble_eq_true rfl) ?_
  intro p e s m args below meth c X hr
  have iX9 : ∀ w ∈ u_ws RX9 TX9 32, w ∈ wsX9_needed := by decide +kernel
  have w0 : Cond.fieldLink RX9 31 "HiddenWorksModel" "letters" "[I" ∈ wsX9_needed := by decide +kernel
  have w1 : Cond.fieldLink RX9 34 "HiddenWorksModel" "clauses" "[I" ∈ wsX9_needed := by decide +kernel
  have w2 : Cond.fieldLink RX9 28 "HiddenWorksModel" "kind" "[I" ∈ wsX9_needed := by decide +kernel
  have B110 : ∀ (c15 : Int32 → Int32 → Int32 → zk_Z → Option (Int32 × zk_Z)) (hc15 : ∀ (a1 : Int32) (a2 : Int32) (a3 : Int32) (z : zk_Z), c15 a1 a2 a3 z = some (r, z') → zk_G p l e (headSpec wsX9_needed { frames := 2, cells := 0, slots := 0, locals := 44 }).room s m args below meth c E 7 0 0 (MQ below (zk_Qi E r z') args s 0 0 (zk_A E)) 15 [(0, .ref (E.2.1 20 0)), (1, .int a1), (2, .int a2), (3, .int a3)] [] z) (a1 : Int32) (a3 : Int32) (s0 : Int32) (s1 : Int32) (z : zk_Z), fX9_needed_B110 c15 a1 a3 s0 s1 z = some (r, z') → zk_G p l e (headSpec wsX9_needed { frames := 2, cells := 0, slots := 0, locals := 44 }).room s m args below meth c E 7 0 0 (MQ below (zk_Qi E r z') args s 0 0 (zk_A E)) 110 [(0, .ref (E.2.1 20 0)), (1, .int a1), (3, .int a3)] [.int s0, .int s1] z := by
    intro c15 hc15 a1 a3 s0 s1 z h
    unfold fX9_needed_B110 at h
    refine zk_ior X dX9_needed_110 ?_
    refine zk_istore_n X (lv' := [(2, .int (s1 ||| s0)), (0, .ref (E.2.1 20 0)), (1, .int a1), (3, .int a3)]) dX9_needed_111 rfl (by decide) rfl ?_
    refine zk_iinc X (lv' := [(3, .int (a3 + 1)), (2, .int (s1 ||| s0)), (0, .ref (E.2.1 20 0)), (1, .int a1)]) 3 dX9_needed_112 rfl rfl (by decide) rfl ?_
    refine zk_goto X (tgt := 15) dX9_needed_115 (by decide) ?_
    exact zk_sub [2, 3, 1, 0] rfl (hc15 _ _ _ _ h)
  have B89 : ∀ (c15 : Int32 → Int32 → Int32 → zk_Z → Option (Int32 × zk_Z)) (hc15 : ∀ (a1 : Int32) (a2 : Int32) (a3 : Int32) (z : zk_Z), c15 a1 a2 a3 z = some (r, z') → zk_G p l e (headSpec wsX9_needed { frames := 2, cells := 0, slots := 0, locals := 44 }).room s m args below meth c E 7 0 0 (MQ below (zk_Qi E r z') args s 0 0 (zk_A E)) 15 [(0, .ref (E.2.1 20 0)), (1, .int a1), (2, .int a2), (3, .int a3)] [] z) (c36 : Int32 → Int32 → Int32 → Int32 → Int32 → Int32 → zk_Z → Option (Int32 × zk_Z)) (hc36 : ∀ (a1 : Int32) (a2 : Int32) (a3 : Int32) (a4 : Int32) (a5 : Int32) (a6 : Int32) (z : zk_Z), c36 a1 a2 a3 a4 a5 a6 z = some (r, z') → zk_G p l e (headSpec wsX9_needed { frames := 2, cells := 0, slots := 0, locals := 44 }).room s m args below meth c E 7 0 0 (MQ below (zk_Qi E r z') args s 0 0 (zk_A E)) 36 [(0, .ref (E.2.1 20 0)), (1, .int a1), (2, .int a2), (3, .int a3), (4, .int a4), (5, .int a5), (6, .int a6)] [] z) (a1 : Int32) (a2 : Int32) (a3 : Int32) (a4 : Int32) (a5 : Int32) (a6 : Int32) (z : zk_Z), fX9_needed_B89 c15 c36 a1 a2 a3 a4 a5 a6 z = some (r, z') → zk_G p l e (headSpec wsX9_needed { frames := 2, cells := 0, slots := 0, locals := 44 }).room s m args below meth c E 7 0 0 (MQ below (zk_Qi E r z') args s 0 0 (zk_A E)) 89 [(0, .ref (E.2.1 20 0)), (1, .int a1), (2, .int a2), (3, .int a3), (4, .int a4), (5, .int a5), (6, .int a6)] [] z := by
    intro c15 hc15 c36 hc36 a1 a2 a3 a4 a5 a6 z h
    unfold fX9_needed_B89 at h
    refine zk_iinc X (lv' := [(6, .int (a6 + 1)), (0, .ref (E.2.1 20 0)), (1, .int a1), (2, .int a2), (3, .int a3), (4, .int a4), (5, .int a5)]) 6 dX9_needed_89 rfl rfl (by decide) rfl ?_
    refine zk_goto X (tgt := 36) dX9_needed_92 (by decide) ?_
    exact zk_sub [1, 2, 3, 4, 5, 6, 0] rfl (hc36 _ _ _ _ _ _ _ h)
  have L36 : ∀ (c15 : Int32 → Int32 → Int32 → zk_Z → Option (Int32 × zk_Z)) (hc15 : ∀ (a1 : Int32) (a2 : Int32) (a3 : Int32) (z : zk_Z), c15 a1 a2 a3 z = some (r, z') → zk_G p l e (headSpec wsX9_needed { frames := 2, cells := 0, slots := 0, locals := 44 }).room s m args below meth c E 7 0 0 (MQ below (zk_Qi E r z') args s 0 0 (zk_A E)) 15 [(0, .ref (E.2.1 20 0)), (1, .int a1), (2, .int a2), (3, .int a3)] [] z) (n : Nat) (a1 : Int32) (a2 : Int32) (a3 : Int32) (a4 : Int32) (a5 : Int32) (a6 : Int32) (z : zk_Z), fX9_needed_L36 c15 n a1 a2 a3 a4 a5 a6 z = some (r, z') → zk_G p l e (headSpec wsX9_needed { frames := 2, cells := 0, slots := 0, locals := 44 }).room s m args below meth c E 7 0 0 (MQ below (zk_Qi E r z') args s 0 0 (zk_A E)) 36 [(0, .ref (E.2.1 20 0)), (1, .int a1), (2, .int a2), (3, .int a3), (4, .int a4), (5, .int a5), (6, .int a6)] [] z := by
    intro c15 hc15 n
    induction n with
    | zero => intro a1 a2 a3 a4 a5 a6 z h; exact absurd h (by simp [fX9_needed_L36])
    | succ n ih =>
      intro a1 a2 a3 a4 a5 a6 z h
      rw [fX9_needed_L36] at h
      refine zk_iload X 6 dX9_needed_36 rfl ?_
      refine zk_aload_n X 0 dX9_needed_38 rfl rfl ?_
      refine zk_get X iX9 (g := 20) (Nat.zero_lt_one) rfl rfl 11 (by decide) w1 rfl dX9_needed_39 ?_
      refine zk_iload_n X 1 dX9_needed_42 rfl rfl ?_
      refine zk_iald X (g := 29) (Nat.zero_lt_one) rfl dX9_needed_43 h (fun h => ?_)
      refine zk_icmp_ge X (tgt := 95) dX9_needed_44 (by decide) h (fun h => ?_) (fun h => ?_)
      · refine zk_iload_n X 2 dX9_needed_95 rfl rfl ?_
        refine zk_iload X 4 dX9_needed_96 rfl ?_
        refine zk_iconst X (v := 1) dX9_needed_98 (by decide) ?_
        refine zk_icmp_ne X (tgt := 109) dX9_needed_99 (by decide) h (fun h => ?_) (fun h => ?_)
        · refine zk_iconst X (v := 1) dX9_needed_102 (by decide) ?_
          refine zk_iload X 5 dX9_needed_103 rfl ?_
          refine zk_ishl X dX9_needed_105 ?_
          refine zk_goto X (tgt := 110) dX9_needed_106 (by decide) ?_
          exact zk_sub [0, 1, 3] rfl (B110 _ hc15 _ _ _ _ _ h)
        · refine zk_iconst X (v := 0) dX9_needed_109 (by decide) ?_
          exact zk_sub [0, 1, 3] rfl (B110 _ hc15 _ _ _ _ _ h)
      · refine zk_aload_n X 0 dX9_needed_47 rfl rfl ?_
        refine zk_get X iX9 (g := 20) (Nat.zero_lt_one) rfl rfl 9 (by decide) w2 rfl dX9_needed_48 ?_
        refine zk_iload_n X 1 dX9_needed_51 rfl rfl ?_
        refine zk_iald X (g := 27) (Nat.zero_lt_one) rfl dX9_needed_52 h (fun h => ?_)
        refine zk_aload_n X 0 dX9_needed_53 rfl rfl ?_
        refine zk_bipush X (v := 24) dX9_needed_54 (by decide) ?_
        refine zk_iload_n X 1 dX9_needed_56 rfl rfl ?_
        refine zk_imul X dX9_needed_57 ?_
        refine zk_iload X 6 dX9_needed_58 rfl ?_
        refine zk_iadd X dX9_needed_60 ?_
        refine zk_iload_n X 3 dX9_needed_61 rfl rfl ?_
        refine zk_vi X h (fun rr zz hf => ct_X9_is l E hi ((24 * a1) + a6) a3 _ rr zz hf) (cwV 2 X.1.2.2.2.2 gX9_needed_X9_is rfl rfl rfl (by decide +kernel) ⟨Nat.le_of_ble_eq_true rfl, Nat.le_of_ble_eq_true rfl⟩) (zk_recv X (g := 20) (Nat.zero_lt_one) rfl rfl) rfl rfl (Nat.le_of_ble_eq_true rfl) dX9_needed_62 (fun r4 z3 h => ?_)
        refine zk_aload_n X 0 dX9_needed_65 rfl rfl ?_
        refine zk_bipush X (v := 24) dX9_needed_66 (by decide) ?_
        refine zk_iload_n X 1 dX9_needed_68 rfl rfl ?_
        refine zk_imul X dX9_needed_69 ?_
        refine zk_iload X 6 dX9_needed_70 rfl ?_
        refine zk_iadd X dX9_needed_72 ?_
        refine zk_vi X h (fun rr zz hf => ct_X9_wide l E hi ((24 * a1) + a6) _ rr zz hf) (cwV 1 X.1.2.2.2.2 gX9_needed_X9_wide rfl rfl rfl (by decide +kernel) ⟨Nat.le_of_ble_eq_true rfl, Nat.le_of_ble_eq_true rfl⟩) (zk_recv X (g := 20) (Nat.zero_lt_one) rfl rfl) rfl rfl (Nat.le_of_ble_eq_true rfl) dX9_needed_73 (fun r6 z5 h => ?_)
        refine zk_si X h (fun rr zz hf => ct_X9_holds l E hi (z.1 27 0 a1.toNatClampNeg) r4 r6 _ rr zz hf) (va_cwS 3 X.1.2.2.2.2 gX9_needed_X9_holds rfl rfl rfl (by decide +kernel) ⟨Nat.le_of_ble_eq_true rfl, Nat.le_of_ble_eq_true rfl⟩) rfl rfl (Nat.le_of_ble_eq_true rfl) dX9_needed_76 (fun r8 z7 h => ?_)
        refine zk_if_ne X (tgt := 89) dX9_needed_79 (by decide) h (fun h => ?_) (fun h => ?_)
        · refine zk_iinc X (lv' := [(4, .int (a4 + 1)), (0, .ref (E.2.1 20 0)), (1, .int a1), (2, .int a2), (3, .int a3), (5, .int a5), (6, .int a6)]) 4 dX9_needed_82 rfl rfl (by decide) rfl ?_
          refine zk_iload X 6 dX9_needed_85 rfl ?_
          refine zk_istore X (lv' := [(5, .int a6), (4, .int (a4 + 1)), (0, .ref (E.2.1 20 0)), (1, .int a1), (2, .int a2), (3, .int a3), (6, .int a6)]) dX9_needed_87 (by decide) rfl ?_
          exact zk_sub [2, 3, 4, 5, 1, 0, 6] rfl (B89 _ hc15 _ ih _ _ _ _ _ _ _ h)
        · exact zk_sub [0, 1, 2, 3, 4, 5, 6] rfl (B89 _ hc15 _ ih _ _ _ _ _ _ _ h)
  have L15 : ∀ (n : Nat) (a1 : Int32) (a2 : Int32) (a3 : Int32) (z : zk_Z), fX9_needed_L15 n a1 a2 a3 z = some (r, z') → zk_G p l e (headSpec wsX9_needed { frames := 2, cells := 0, slots := 0, locals := 44 }).room s m args below meth c E 7 0 0 (MQ below (zk_Qi E r z') args s 0 0 (zk_A E)) 15 [(0, .ref (E.2.1 20 0)), (1, .int a1), (2, .int a2), (3, .int a3)] [] z := by
    intro n
    induction n with
    | zero => intro a1 a2 a3 z h; exact absurd h (by simp [fX9_needed_L15])
    | succ n ih =>
      intro a1 a2 a3 z h
      rw [fX9_needed_L15] at h
      refine zk_iload_n X 3 dX9_needed_15 rfl rfl ?_
      refine zk_iconst X (v := 1) dX9_needed_16 (by decide) ?_
      refine zk_aload_n X 0 dX9_needed_17 rfl rfl ?_
      refine zk_get X iX9 (g := 20) (Nat.zero_lt_one) rfl rfl 10 (by decide) w0 rfl dX9_needed_18 ?_
      refine zk_iload_n X 1 dX9_needed_21 rfl rfl ?_
      refine zk_iald X (g := 28) (Nat.zero_lt_one) rfl dX9_needed_22 h (fun h => ?_)
      refine zk_ishl X dX9_needed_23 ?_
      refine zk_icmp_ge X (tgt := 118) dX9_needed_24 (by decide) h (fun h => ?_) (fun h => ?_)
      · refine zk_iload_n X 2 dX9_needed_118 rfl rfl ?_
        exact zk_ireturn X hr dX9_needed_119 h
      · refine zk_iconst X (v := 0) dX9_needed_27 (by decide) ?_
        refine zk_istore X (lv' := [(4, .int 0), (0, .ref (E.2.1 20 0)), (1, .int a1), (2, .int a2), (3, .int a3)]) dX9_needed_28 (by decide) rfl ?_
        refine zk_iconst X (v := 0) dX9_needed_30 (by decide) ?_
        refine zk_istore X (lv' := [(5, .int 0), (4, .int 0), (0, .ref (E.2.1 20 0)), (1, .int a1), (2, .int a2), (3, .int a3)]) dX9_needed_31 (by decide) rfl ?_
        refine zk_iconst X (v := 0) dX9_needed_33 (by decide) ?_
        refine zk_istore X (lv' := [(6, .int 0), (5, .int 0), (4, .int 0), (0, .ref (E.2.1 20 0)), (1, .int a1), (2, .int a2), (3, .int a3)]) dX9_needed_34 (by decide) rfl ?_
        exact zk_sub [3, 4, 5, 6, 2, 1, 0] rfl (L36 _ ih _ _ _ _ _ _ _ _ h)
  unfold fX9_needed at h
  refine zk_aload_n X 0 dX9_needed_0 rfl rfl ?_
  refine zk_iload_n X 1 dX9_needed_1 rfl rfl ?_
  refine zk_vi X h (fun rr zz hf => ct_X9_isTask l E hi  x1 _ rr zz hf) (cwV 1 X.1.2.2.2.2 gX9_needed_X9_isTask rfl rfl rfl (by decide +kernel) ⟨Nat.le_of_ble_eq_true rfl, Nat.le_of_ble_eq_true rfl⟩) (zk_recv X (g := 20) (Nat.zero_lt_one) rfl rfl) rfl rfl (Nat.le_of_ble_eq_true rfl) dX9_needed_2 (fun r2 z1 h => ?_)
  refine zk_if_ne X (tgt := 11) dX9_needed_5 (by decide) h (fun h => ?_) (fun h => ?_)
  · refine zk_bipush X (v := -5) dX9_needed_8 (by decide) ?_
    exact zk_ireturn X hr dX9_needed_10 h
  · refine zk_iconst X (v := 0) dX9_needed_11 (by decide) ?_
    refine zk_istore_n X (lv' := [(2, .int 0), (0, .ref (E.2.1 20 0)), (1, .int x1)]) dX9_needed_12 rfl (by decide) rfl ?_
    refine zk_iconst X (v := 0) dX9_needed_13 (by decide) ?_
    refine zk_istore_n X (lv' := [(3, .int 0), (2, .int 0), (0, .ref (E.2.1 20 0)), (1, .int x1)]) dX9_needed_14 rfl (by decide) rfl ?_
    exact zk_sub [2, 3, 1, 0] rfl (L15  _ _ _ _ _ h)
def fX9_number_B62 (a1 : Int32) (a2 : Int32) (a3 : Int32) (a4 : Int32) (a5 : Int32) (z : zk_Z) : Option (Int32 × zk_Z) := if a5 = 0 then some ((-1), z) else zk_bd (fX9_in a4 a1 a2 z) (fun r2 z1 => if r2 = 0 then some ((-1), zk_sI z1 20 0 27 a3) else some (a4, z1))
def fX9_number_L11 : Nat → Int32 → Int32 → Int32 → Int32 → Int32 → zk_Z → Option (Int32 × zk_Z)
  | 0, _, _, _, _, _, _ => none
  | n + 1, a1, a2, a3, a4, a5, z => if 2 ≤ a5 then fX9_number_B62 a1 a2 a3 a4 a5 z else zk_bd (fX9_here  z) (fun r4 z3 => zk_bd (fX9_in r4 48 57 z3) (fun r6 z5 => if r6 = 0 then fX9_number_B62 a1 a2 a3 a4 a5 z5 else zk_bd (fX9_here  z5) (fun r8 z7 => (fX9_number_L11 n) a1 a2 a3 (((10 * a4) + r8) - 48) (a5 + 1) (zk_sI z7 20 0 27 ((z7.1 20 0 27) + 1)))))
def fX9_number (x1 : Int32) (x2 : Int32) (z : zk_Z) : Option (Int32 × zk_Z) := fX9_number_L11 zk_FU x1 x2 (z.1 20 0 27) 0 0 z
set_option maxRecDepth 100000 in
set_option maxHeartbeats 8000000 in
theorem ct_X9_number (l : Launch) (E : zk_E) (hi : zk_inj E) (x1 : Int32) (x2 : Int32) (z : zk_Z) (r : Int32) (z' : zk_Z) (h : fX9_number  x1 x2 z = some (r, z')) : Met l yX9_number wsX9_number { frames := 1, cells := 0, slots := 0, locals := 22 } (va_Pc [.ref (E.2.1 20 0), .int x1, .int x2] (zk_W E z)) (zk_Qi E r z') 0 0 (zk_A E) := by
  refine zk_met (cc := cX9_number) (maxL := 6) (ret := (some .int)) (own := RX9) (by decide) rfl rfl hi (Nat.le_of_ble_eq_true rfl) ?_
  intro p e s m args below meth c X hr
  have iX9 : ∀ w ∈ u_ws RX9 TX9 32, w ∈ wsX9_number := by decide +kernel
  have w0 : Cond.fieldLink RX9 96 "HiddenWorksModel" "at" "I" ∈ wsX9_number := by decide +kernel
  have B62 : ∀ (a1 : Int32) (a2 : Int32) (a3 : Int32) (a4 : Int32) (a5 : Int32) (z : zk_Z), fX9_number_B62 a1 a2 a3 a4 a5 z = some (r, z') → zk_G p l e (headSpec wsX9_number { frames := 1, cells := 0, slots := 0, locals := 22 }).room s m args below meth c E 6 0 0 (MQ below (zk_Qi E r z') args s 0 0 (zk_A E)) 62 [(0, .ref (E.2.1 20 0)), (1, .int a1), (2, .int a2), (3, .int a3), (4, .int a4), (5, .int a5)] [] z := by
    intro a1 a2 a3 a4 a5 z h
    unfold fX9_number_B62 at h
    refine zk_iload X 5 dX9_number_62 rfl ?_
    refine zk_if_ne X (tgt := 69) dX9_number_64 (by decide) h (fun h => ?_) (fun h => ?_)
    · refine zk_iconst X (v := -1) dX9_number_67 (by decide) ?_
      exact zk_ireturn X hr dX9_number_68 h
    · refine zk_iload X 4 dX9_number_69 rfl ?_
      refine zk_iload_n X 1 dX9_number_71 rfl rfl ?_
      refine zk_iload_n X 2 dX9_number_72 rfl rfl ?_
      refine zk_si X h (fun rr zz hf => ct_X9_in l E hi a4 a1 a2 _ rr zz hf) (va_cwS 3 X.1.2.2.2.2 gX9_number_X9_in rfl rfl rfl (by decide +kernel) ⟨Nat.le_of_ble_eq_true rfl, Nat.le_of_ble_eq_true rfl⟩) rfl rfl (Nat.le_of_ble_eq_true rfl) dX9_number_73 (fun r2 z1 h => ?_)
      refine zk_if_ne X (tgt := 86) dX9_number_76 (by decide) h (fun h => ?_) (fun h => ?_)
      · refine zk_aload_n X 0 dX9_number_79 rfl rfl ?_
        refine zk_iload_n X 3 dX9_number_80 rfl rfl ?_
        refine zk_putI X (ty := .int) iX9 tyX9 tyX9_ok nmX9 (g := 20) (Nat.zero_lt_one) rfl rfl 27 (by decide) w0 rfl (by decide +kernel) rfl rfl (Nat.le_of_ble_eq_true rfl) rfl dX9_number_81 ?_
        refine zk_iconst X (v := -1) dX9_number_84 (by decide) ?_
        exact zk_ireturn X hr dX9_number_85 h
      · refine zk_iload X 4 dX9_number_86 rfl ?_
        exact zk_ireturn X hr dX9_number_88 h
  have L11 : ∀ (n : Nat) (a1 : Int32) (a2 : Int32) (a3 : Int32) (a4 : Int32) (a5 : Int32) (z : zk_Z), fX9_number_L11 n a1 a2 a3 a4 a5 z = some (r, z') → zk_G p l e (headSpec wsX9_number { frames := 1, cells := 0, slots := 0, locals := 22 }).room s m args below meth c E 6 0 0 (MQ below (zk_Qi E r z') args s 0 0 (zk_A E)) 11 [(0, .ref (E.2.1 20 0)), (1, .int a1), (2, .int a2), (3, .int a3), (4, .int a4), (5, .int a5)] [] z := by
    intro n
    induction n with
    | zero => intro a1 a2 a3 a4 a5 z h; exact absurd h (by simp [fX9_number_L11])
    | succ n ih =>
      intro a1 a2 a3 a4 a5 z h
      rw [fX9_number_L11] at h
      refine zk_iload X 5 dX9_number_11 rfl ?_
      refine zk_iconst X (v := 2) dX9_number_13 (by decide) ?_
      refine zk_icmp_ge X (tgt := 62) dX9_number_14 (by decide) h (fun h => ?_) (fun h => ?_)
      · exact zk_sub [0, 1, 2, 3, 4, 5] rfl (B62 _ _ _ _ _ _ h)
      · refine zk_aload_n X 0 dX9_number_17 rfl rfl ?_
        refine zk_vi X h (fun rr zz hf => ct_X9_here l E hi _ rr zz hf) (cwV 0 X.1.2.2.2.2 gX9_number_X9_here rfl rfl rfl (by decide +kernel) ⟨Nat.le_of_ble_eq_true rfl, Nat.le_of_ble_eq_true rfl⟩) (zk_recv X (g := 20) (Nat.zero_lt_one) rfl rfl) rfl rfl (Nat.le_of_ble_eq_true rfl) dX9_number_18 (fun r4 z3 h => ?_)
        refine zk_bipush X (v := 48) dX9_number_21 (by decide) ?_
        refine zk_bipush X (v := 57) dX9_number_23 (by decide) ?_
        refine zk_si X h (fun rr zz hf => ct_X9_in l E hi r4 48 57 _ rr zz hf) (va_cwS 3 X.1.2.2.2.2 gX9_number_X9_in rfl rfl rfl (by decide +kernel) ⟨Nat.le_of_ble_eq_true rfl, Nat.le_of_ble_eq_true rfl⟩) rfl rfl (Nat.le_of_ble_eq_true rfl) dX9_number_25 (fun r6 z5 h => ?_)
        refine zk_if_eq X (tgt := 62) dX9_number_28 (by decide) h (fun h => ?_) (fun h => ?_)
        · exact zk_sub [0, 1, 2, 3, 4, 5] rfl (B62 _ _ _ _ _ _ h)
        · refine zk_bipush X (v := 10) dX9_number_31 (by decide) ?_
          refine zk_iload X 4 dX9_number_33 rfl ?_
          refine zk_imul X dX9_number_35 ?_
          refine zk_aload_n X 0 dX9_number_36 rfl rfl ?_
          refine zk_vi X h (fun rr zz hf => ct_X9_here l E hi _ rr zz hf) (cwV 0 X.1.2.2.2.2 gX9_number_X9_here rfl rfl rfl (by decide +kernel) ⟨Nat.le_of_ble_eq_true rfl, Nat.le_of_ble_eq_true rfl⟩) (zk_recv X (g := 20) (Nat.zero_lt_one) rfl rfl) rfl rfl (Nat.le_of_ble_eq_true rfl) dX9_number_37 (fun r8 z7 h => ?_)
          refine zk_iadd X dX9_number_40 ?_
          refine zk_bipush X (v := 48) dX9_number_41 (by decide) ?_
          refine zk_isub X dX9_number_43 ?_
          refine zk_istore X (lv' := [(4, .int (((10 * a4) + r8) - 48)), (0, .ref (E.2.1 20 0)), (1, .int a1), (2, .int a2), (3, .int a3), (5, .int a5)]) dX9_number_44 (by decide) rfl ?_
          refine zk_iinc X (lv' := [(5, .int (a5 + 1)), (4, .int (((10 * a4) + r8) - 48)), (0, .ref (E.2.1 20 0)), (1, .int a1), (2, .int a2), (3, .int a3)]) 5 dX9_number_46 rfl rfl (by decide) rfl ?_
          refine zk_aload_n X 2 dX9_number_49 rfl rfl ?_
          refine zk_dup X dX9_number_50 rfl ?_
          refine zk_get X iX9 (g := 20) (Nat.zero_lt_one) rfl rfl 27 (by decide) w0 rfl dX9_number_51 ?_
          refine zk_iconst X (v := 1) dX9_number_54 (by decide) ?_
          refine zk_iadd X dX9_number_55 ?_
          refine zk_putI X (ty := .int) iX9 tyX9 tyX9_ok nmX9 (g := 20) (Nat.zero_lt_one) rfl rfl 27 (by decide) w0 rfl (by decide +kernel) rfl rfl (Nat.le_of_ble_eq_true rfl) rfl dX9_number_56 ?_
          refine zk_goto X (tgt := 11) dX9_number_59 (by decide) ?_
          exact zk_sub [2, 3, 4, 5, 1, 0] rfl (ih _ _ _ _ _ _ h)
  unfold fX9_number at h
  refine zk_aload_n X 0 dX9_number_0 rfl rfl ?_
  refine zk_get X iX9 (g := 20) (Nat.zero_lt_one) rfl rfl 27 (by decide) w0 rfl dX9_number_1 ?_
  refine zk_istore_n X (lv' := [(3, .int (z.1 20 0 27)), (0, .ref (E.2.1 20 0)), (1, .int x1), (2, .int x2)]) dX9_number_4 rfl (by decide) rfl ?_
  refine zk_iconst X (v := 0) dX9_number_5 (by decide) ?_
  refine zk_istore X (lv' := [(4, .int 0), (3, .int (z.1 20 0 27)), (0, .ref (E.2.1 20 0)), (1, .int x1), (2, .int x2)]) dX9_number_6 (by decide) rfl ?_
  refine zk_iconst X (v := 0) dX9_number_8 (by decide) ?_
  refine zk_istore X (lv' := [(5, .int 0), (4, .int 0), (3, .int (z.1 20 0 27)), (0, .ref (E.2.1 20 0)), (1, .int x1), (2, .int x2)]) dX9_number_9 (by decide) rfl ?_
  exact zk_sub [3, 4, 5, 2, 1, 0] rfl (L11  _ _ _ _ _ _ _ h)
def fX9_pairs_L34 : Nat → Int32 → Int32 → Int32 → Int32 → Int32 → zk_Z → Option (Int64 × zk_Z)
  | 0, _, _, _, _, _, _ => none
  | n + 1, a1, a2, a3, a4, a5, z => if a3 < a5 then if a3 = 1 then some (a2.toInt64, z) else zk_bd (fX9_all a1 z) (fun r6 z5 => zk_bd (fX9_lowest a4.toInt64 (r6.toInt64 * (((a3 * (a3 - 1)) / 2).toInt64)) a2 z5) (fun r8 z7 => some (r8, z7))) else zk_gd (zk_ix ((4 * a1) + a5) 24) (zk_bd (fX9_ways a5 a3 z) (fun r10 z9 => (fX9_pairs_L34 n) a1 a2 a3 (a4 + (((z.1 26 0 ((4 * a1) + a5).toNatClampNeg) * r10) * ((((a5 * (a5 - 1)) / 2) + (((a3 - a5) * ((a3 - a5) - 1)) / 2)) - (a5 * (a3 - a5))))) (a5 + 1) z9))
def fX9_pairs (x1 : Int32) (x2 : Int32) (z : zk_Z) : Option (Int64 × zk_Z) := zk_bd (fX9_isRecipe x1 z) (fun r2 z1 => if r2 = 0 then some ((-4611686018427387904), z1) else zk_bd (fX9_in x2 0 1 z1) (fun r4 z3 => if r4 = 0 then some ((-4611686018427387904), z3) else zk_gd (zk_ix x1 6) (fX9_pairs_L34 zk_FU x1 x2 (z3.1 25 0 x1.toNatClampNeg) 0 0 z3)))
set_option maxRecDepth 100000 in
set_option maxHeartbeats 8000000 in
theorem ct_X9_pairs (l : Launch) (E : zk_E) (hi : zk_inj E) (x1 : Int32) (x2 : Int32) (z : zk_Z) (r : Int64) (z' : zk_Z) (h : fX9_pairs  x1 x2 z = some (r, z')) : Met l yX9_pairs wsX9_pairs { frames := 2, cells := 0, slots := 0, locals := 44 } (va_Pc [.ref (E.2.1 20 0), .int x1, .int x2] (zk_W E z)) (zk_Ql E r z') 0 0 (zk_A E) := by
  refine zk_met (cc := cX9_pairs) (maxL := 7) (ret := (some .long)) (own := RX9) (by decide) rfl rfl hi (Nat.le_of_ble_eq_true rfl) ?_
  intro p e s m args below meth c X hr
  have iX9 : ∀ w ∈ u_ws RX9 TX9 32, w ∈ wsX9_pairs := by decide +kernel
  have w0 : Cond.constantLong RX9 194 (-4611686018427387904) ∈ wsX9_pairs := by decide +kernel
  have w1 : Cond.fieldLink RX9 22 "HiddenWorksModel" "rWide" "[I" ∈ wsX9_pairs := by decide +kernel
  have w2 : Cond.fieldLink RX9 25 "HiddenWorksModel" "rWeight" "[I" ∈ wsX9_pairs := by decide +kernel
  have L34 : ∀ (n : Nat) (a1 : Int32) (a2 : Int32) (a3 : Int32) (a4 : Int32) (a5 : Int32) (z : zk_Z), fX9_pairs_L34 n a1 a2 a3 a4 a5 z = some (r, z') → zk_G p l e (headSpec wsX9_pairs { frames := 2, cells := 0, slots := 0, locals := 44 }).room s m args below meth c E 7 0 0 (MQ below (zk_Ql E r z') args s 0 0 (zk_A E)) 34 [(0, .ref (E.2.1 20 0)), (1, .int a1), (2, .int a2), (3, .int a3), (4, .int a4), (5, .int a5)] [] z := by
    intro n
    induction n with
    | zero => intro a1 a2 a3 a4 a5 z h; exact absurd h (by simp [fX9_pairs_L34])
    | succ n ih =>
      intro a1 a2 a3 a4 a5 z h
      rw [fX9_pairs_L34] at h
      refine zk_iload X 5 dX9_pairs_34 rfl ?_
      refine zk_iload_n X 3 dX9_pairs_36 rfl rfl ?_
      refine zk_icmp_gt X (tgt := 101) dX9_pairs_37 (by decide) h (fun h => ?_) (fun h => ?_)
      · refine zk_iload_n X 3 dX9_pairs_101 rfl rfl ?_
        refine zk_iconst X (v := 1) dX9_pairs_102 (by decide) ?_
        refine zk_icmp_ne X (tgt := 111) dX9_pairs_103 (by decide) h (fun h => ?_) (fun h => ?_)
        · refine zk_iload_n X 2 dX9_pairs_106 rfl rfl ?_
          refine zk_i2l X dX9_pairs_107 ?_
          refine zk_goto X (tgt := 133) dX9_pairs_108 (by decide) ?_
          exact zk_lreturn X hr dX9_pairs_133 h
        · refine zk_iload X 4 dX9_pairs_111 rfl ?_
          refine zk_i2l X dX9_pairs_113 ?_
          refine zk_aload_n X 0 dX9_pairs_114 rfl rfl ?_
          refine zk_iload_n X 1 dX9_pairs_115 rfl rfl ?_
          refine zk_vi X h (fun rr zz hf => ct_X9_all l E hi a1 _ rr zz hf) (cwV 1 X.1.2.2.2.2 gX9_pairs_X9_all rfl rfl rfl (by decide +kernel) ⟨Nat.le_of_ble_eq_true rfl, Nat.le_of_ble_eq_true rfl⟩) (zk_recv X (g := 20) (Nat.zero_lt_one) rfl rfl) rfl rfl (Nat.le_of_ble_eq_true rfl) dX9_pairs_116 (fun r6 z5 h => ?_)
          refine zk_i2l X dX9_pairs_119 ?_
          refine zk_iload_n X 3 dX9_pairs_120 rfl rfl ?_
          refine zk_iload_n X 3 dX9_pairs_121 rfl rfl ?_
          refine zk_iconst X (v := 1) dX9_pairs_122 (by decide) ?_
          refine zk_isub X dX9_pairs_123 ?_
          refine zk_imul X dX9_pairs_124 ?_
          refine zk_iconst X (v := 2) dX9_pairs_125 (by decide) ?_
          refine zk_idiv X (α := Unit) (a := some ()) (o := ()) dX9_pairs_126 rfl (fun _ => ?_)
          refine zk_i2l X dX9_pairs_127 ?_
          refine zk_lmul X dX9_pairs_128 ?_
          refine zk_iload_n X 2 dX9_pairs_129 rfl rfl ?_
          refine zk_sl X h (fun rr zz hf => ct_X9_lowest l E hi a4.toInt64 (r6.toInt64 * (((a3 * (a3 - 1)) / 2).toInt64)) a2 _ rr zz hf) (va_cwS 3 X.1.2.2.2.2 gX9_pairs_X9_lowest rfl rfl rfl (by decide +kernel) ⟨Nat.le_of_ble_eq_true rfl, Nat.le_of_ble_eq_true rfl⟩) rfl rfl (Nat.le_of_ble_eq_true rfl) dX9_pairs_130 (fun r8 z7 h => ?_)
          exact zk_lreturn X hr dX9_pairs_133 h
      · refine zk_iload_n X 3 dX9_pairs_40 rfl rfl ?_
        refine zk_iload X 5 dX9_pairs_41 rfl ?_
        refine zk_isub X dX9_pairs_43 ?_
        refine zk_istore X (lv' := [(6, .int (a3 - a5)), (0, .ref (E.2.1 20 0)), (1, .int a1), (2, .int a2), (3, .int a3), (4, .int a4), (5, .int a5)]) dX9_pairs_44 (by decide) rfl ?_
        refine zk_iload X 5 dX9_pairs_46 rfl ?_
        refine zk_aload_n X 1 dX9_pairs_48 rfl rfl ?_
        refine zk_get X iX9 (g := 20) (Nat.zero_lt_one) rfl rfl 7 (by decide) w2 rfl dX9_pairs_49 ?_
        refine zk_iconst X (v := 4) dX9_pairs_52 (by decide) ?_
        refine zk_iload_n X 2 dX9_pairs_53 rfl rfl ?_
        refine zk_imul X dX9_pairs_54 ?_
        refine zk_iload X 6 dX9_pairs_55 rfl ?_
        refine zk_iadd X dX9_pairs_57 ?_
        refine zk_iald X (g := 26) (Nat.zero_lt_one) rfl dX9_pairs_58 h (fun h => ?_)
        refine zk_iload X 6 dX9_pairs_59 rfl ?_
        refine zk_iload_n X 4 dX9_pairs_61 rfl rfl ?_
        refine zk_si X h (fun rr zz hf => ct_X9_ways l E hi a5 a3 _ rr zz hf) (va_cwS 2 X.1.2.2.2.2 gX9_pairs_X9_ways rfl rfl rfl (by decide +kernel) ⟨Nat.le_of_ble_eq_true rfl, Nat.le_of_ble_eq_true rfl⟩) rfl rfl (Nat.le_of_ble_eq_true rfl) dX9_pairs_62 (fun r10 z9 h => ?_)
        refine zk_imul X dX9_pairs_65 ?_
        refine zk_iload X 6 dX9_pairs_66 rfl ?_
        refine zk_iload X 6 dX9_pairs_68 rfl ?_
        refine zk_iconst X (v := 1) dX9_pairs_70 (by decide) ?_
        refine zk_isub X dX9_pairs_71 ?_
        refine zk_imul X dX9_pairs_72 ?_
        refine zk_iconst X (v := 2) dX9_pairs_73 (by decide) ?_
        refine zk_idiv X (α := Unit) (a := some ()) (o := ()) dX9_pairs_74 rfl (fun _ => ?_)
        refine zk_iload X 0 dX9_pairs_75 rfl ?_
        refine zk_iload X 0 dX9_pairs_77 rfl ?_
        refine zk_iconst X (v := 1) dX9_pairs_79 (by decide) ?_
        refine zk_isub X dX9_pairs_80 ?_
        refine zk_imul X dX9_pairs_81 ?_
        refine zk_iconst X (v := 2) dX9_pairs_82 (by decide) ?_
        refine zk_idiv X (α := Unit) (a := some ()) (o := ()) dX9_pairs_83 rfl (fun _ => ?_)
        refine zk_iadd X dX9_pairs_84 ?_
        refine zk_iload X 6 dX9_pairs_85 rfl ?_
        refine zk_iload X 0 dX9_pairs_87 rfl ?_
        refine zk_imul X dX9_pairs_89 ?_
        refine zk_isub X dX9_pairs_90 ?_
        refine zk_imul X dX9_pairs_91 ?_
        refine zk_iadd X dX9_pairs_92 ?_
        refine zk_istore X (lv' := [(4, .int (a4 + (((z.1 26 0 ((4 * a1) + a5).toNatClampNeg) * r10) * ((((a5 * (a5 - 1)) / 2) + (((a3 - a5) * ((a3 - a5) - 1)) / 2)) - (a5 * (a3 - a5)))))), (6, .int (a3 - a5)), (0, .ref (E.2.1 20 0)), (1, .int a1), (2, .int a2), (3, .int a3), (5, .int a5)]) dX9_pairs_93 (by decide) rfl ?_
        refine zk_iinc X (lv' := [(5, .int (a5 + 1)), (4, .int (a4 + (((z.1 26 0 ((4 * a1) + a5).toNatClampNeg) * r10) * ((((a5 * (a5 - 1)) / 2) + (((a3 - a5) * ((a3 - a5) - 1)) / 2)) - (a5 * (a3 - a5)))))), (6, .int (a3 - a5)), (0, .ref (E.2.1 20 0)), (1, .int a1), (2, .int a2), (3, .int a3)]) 6 dX9_pairs_95 rfl rfl (by decide) rfl ?_
        refine zk_goto X (tgt := 34) dX9_pairs_98 (by decide) ?_
        exact zk_sub [3, 4, 5, 6, 1, 0] rfl (ih _ _ _ _ _ _ h)
  unfold fX9_pairs at h
  refine zk_aload_n X 0 dX9_pairs_0 rfl rfl ?_
  refine zk_iload_n X 1 dX9_pairs_1 rfl rfl ?_
  refine zk_vi X h (fun rr zz hf => ct_X9_isRecipe l E hi  x1 _ rr zz hf) (cwV 1 X.1.2.2.2.2 gX9_pairs_X9_isRecipe rfl rfl rfl (by decide +kernel) ⟨Nat.le_of_ble_eq_true rfl, Nat.le_of_ble_eq_true rfl⟩) (zk_recv X (g := 20) (Nat.zero_lt_one) rfl rfl) rfl rfl (Nat.le_of_ble_eq_true rfl) dX9_pairs_2 (fun r2 z1 h => ?_)
  refine zk_if_eq X (tgt := 17) dX9_pairs_5 (by decide) h (fun h => ?_) (fun h => ?_)
  · refine zk_ldc2 X w0 dX9_pairs_17 ?_
    exact zk_lreturn X hr dX9_pairs_20 h
  · refine zk_iload_n X 2 dX9_pairs_8 rfl rfl ?_
    refine zk_iconst X (v := 0) dX9_pairs_9 (by decide) ?_
    refine zk_iconst X (v := 1) dX9_pairs_10 (by decide) ?_
    refine zk_si X h (fun rr zz hf => ct_X9_in l E hi  x2 0 1 _ rr zz hf) (va_cwS 3 X.1.2.2.2.2 gX9_pairs_X9_in rfl rfl rfl (by decide +kernel) ⟨Nat.le_of_ble_eq_true rfl, Nat.le_of_ble_eq_true rfl⟩) rfl rfl (Nat.le_of_ble_eq_true rfl) dX9_pairs_11 (fun r4 z3 h => ?_)
    refine zk_if_ne X (tgt := 21) dX9_pairs_14 (by decide) h (fun h => ?_) (fun h => ?_)
    · refine zk_ldc2 X w0 dX9_pairs_17 ?_
      exact zk_lreturn X hr dX9_pairs_20 h
    · refine zk_aload_n X 0 dX9_pairs_21 rfl rfl ?_
      refine zk_get X iX9 (g := 20) (Nat.zero_lt_one) rfl rfl 6 (by decide) w1 rfl dX9_pairs_22 ?_
      refine zk_iload_n X 1 dX9_pairs_25 rfl rfl ?_
      refine zk_iald X (g := 25) (Nat.zero_lt_one) rfl dX9_pairs_26 h (fun h => ?_)
      refine zk_istore_n X (lv' := [(3, .int (z3.1 25 0 x1.toNatClampNeg)), (0, .ref (E.2.1 20 0)), (1, .int x1), (2, .int x2)]) dX9_pairs_27 rfl (by decide) rfl ?_
      refine zk_iconst X (v := 0) dX9_pairs_28 (by decide) ?_
      refine zk_istore X (lv' := [(4, .int 0), (3, .int (z3.1 25 0 x1.toNatClampNeg)), (0, .ref (E.2.1 20 0)), (1, .int x1), (2, .int x2)]) dX9_pairs_29 (by decide) rfl ?_
      refine zk_iconst X (v := 0) dX9_pairs_31 (by decide) ?_
      refine zk_istore X (lv' := [(5, .int 0), (4, .int 0), (3, .int (z3.1 25 0 x1.toNatClampNeg)), (0, .ref (E.2.1 20 0)), (1, .int x1), (2, .int x2)]) dX9_pairs_32 (by decide) rfl ?_
      exact zk_sub [3, 4, 5, 2, 1, 0] rfl (L34  _ _ _ _ _ _ _ h)
def fX9_part (x1 : Int32) (x2 : Int32) (x3 : Int32) (z : zk_Z) : Option (Int32 × zk_Z) := zk_bd (fX9_here  z) (fun r2 z1 => if r2 = x1 then zk_bd (fX9_number x2 x3 (zk_sI z1 20 0 27 ((z1.1 20 0 27) + 1))) (fun r4 z3 => some (r4, z3)) else some ((-1), z1))
set_option maxRecDepth 100000 in
set_option maxHeartbeats 8000000 in
theorem ct_X9_part (l : Launch) (E : zk_E) (hi : zk_inj E) (x1 : Int32) (x2 : Int32) (x3 : Int32) (z : zk_Z) (r : Int32) (z' : zk_Z) (h : fX9_part  x1 x2 x3 z = some (r, z')) : Met l yX9_part wsX9_part { frames := 2, cells := 0, slots := 0, locals := 47 } (va_Pc [.ref (E.2.1 20 0), .int x1, .int x2, .int x3] (zk_W E z)) (zk_Qi E r z') 0 0 (zk_A E) := by
  refine zk_met (cc := cX9_part) (maxL := 4) (ret := (some .int)) (own := RX9) (by decide) rfl rfl hi (Nat.le_of_ble_eq_true rfl) ?_
  intro p e s m args below meth c X hr
  have iX9 : ∀ w ∈ u_ws RX9 TX9 32, w ∈ wsX9_part := by decide +kernel
  have w0 : Cond.fieldLink RX9 96 "HiddenWorksModel" "at" "I" ∈ wsX9_part := by decide +kernel
  unfold fX9_part at h
  refine zk_aload_n X 0 dX9_part_0 rfl rfl ?_
  refine zk_vi X h (fun rr zz hf => ct_X9_here l E hi   _ rr zz hf) (cwV 0 X.1.2.2.2.2 gX9_part_X9_here rfl rfl rfl (by decide +kernel) ⟨Nat.le_of_ble_eq_true rfl, Nat.le_of_ble_eq_true rfl⟩) (zk_recv X (g := 20) (Nat.zero_lt_one) rfl rfl) rfl rfl (Nat.le_of_ble_eq_true rfl) dX9_part_1 (fun r2 z1 h => ?_)
  refine zk_iload_n X 1 dX9_part_4 rfl rfl ?_
  refine zk_icmp_eq X (tgt := 10) dX9_part_5 (by decide) h (fun h => ?_) (fun h => ?_)
  · refine zk_aload_n X 0 dX9_part_10 rfl rfl ?_
    refine zk_dup X dX9_part_11 rfl ?_
    refine zk_get X iX9 (g := 20) (Nat.zero_lt_one) rfl rfl 27 (by decide) w0 rfl dX9_part_12 ?_
    refine zk_iconst X (v := 1) dX9_part_15 (by decide) ?_
    refine zk_iadd X dX9_part_16 ?_
    refine zk_putI X (ty := .int) iX9 tyX9 tyX9_ok nmX9 (g := 20) (Nat.zero_lt_one) rfl rfl 27 (by decide) w0 rfl (by decide +kernel) rfl rfl (Nat.le_of_ble_eq_true rfl) rfl dX9_part_17 ?_
    refine zk_aload_n X 0 dX9_part_20 rfl rfl ?_
    refine zk_iload_n X 2 dX9_part_21 rfl rfl ?_
    refine zk_iload_n X 3 dX9_part_22 rfl rfl ?_
    refine zk_vi X h (fun rr zz hf => ct_X9_number l E hi  x2 x3 _ rr zz hf) (cwV 2 X.1.2.2.2.2 gX9_part_X9_number rfl rfl rfl (by decide +kernel) ⟨Nat.le_of_ble_eq_true rfl, Nat.le_of_ble_eq_true rfl⟩) (zk_recv X (g := 20) (Nat.zero_lt_one) rfl rfl) rfl rfl (Nat.le_of_ble_eq_true rfl) dX9_part_23 (fun r4 z3 h => ?_)
    exact zk_ireturn X hr dX9_part_26 h
  · refine zk_iconst X (v := -1) dX9_part_8 (by decide) ?_
    exact zk_ireturn X hr dX9_part_9 h
def fX9_reads_B196 (c150 : Int32 → Int32 → Int32 → zk_Z → Option (Int32 × zk_Z)) (a1 : Int32) (a2 : Int32) (a3 : Int32) (s0 : Int32) (s1 : Int32) (z : zk_Z) : Option (Int32 × zk_Z) := zk_bd (fX9_number s1 s0 z) (fun r20 z19 => if r20 = (-1) then some (0, z19) else zk_gd (zk_ix ((4 * a1) + a3) 24) (c150 a1 (a2 + r20) (a3 + 1) (zk_sI z19 26 0 ((4 * a1) + a3).toNatClampNeg r20)))
def fX9_reads_L150 : Nat → Int32 → Int32 → Int32 → zk_Z → Option (Int32 × zk_Z)
  | 0, _, _, _, _ => none
  | n + 1, a1, a2, a3, z => zk_gd (zk_ix a1 6) (if (z.1 25 0 a1.toNatClampNeg) < a3 then if (z.1 20 0 27) = (z.1 20 0 1) then if a2 ≤ 0 then some (0, z) else some (1, z) else some (0, z) else zk_bd (fX9_blanks  z) (fun r16 z15 => if r16 = 0 then some (0, z15) else zk_gd (zk_ix a1 6) (zk_gd (zk_ix a1 6) (zk_bd (fX9_holds (z15.1 22 0 a1.toNatClampNeg) a3 (z15.1 25 0 a1.toNatClampNeg) z15) (fun r18 z17 => if r18 = 0 then fX9_reads_B196 (fX9_reads_L150 n) a1 a2 a3 0 0 z17 else fX9_reads_B196 (fX9_reads_L150 n) a1 a2 a3 99 0 z17)))))
def fX9_reads_B130 (a1 : Int32) (s0 : Int32) (s1 : Int32) (s2 : Int32) (s4 : Int32) (z : zk_Z) : Option (Int32 × zk_Z) := zk_bd (fX9_part s2 s1 s0 z) (fun r14 z13 => zk_gd (zk_ix s4 6) (zk_gd (zk_ix a1 6) (if ((zk_sI z13 25 0 s4.toNatClampNeg r14).1 25 0 a1.toNatClampNeg) = (-1) then some (0, zk_sI z13 25 0 s4.toNatClampNeg r14) else fX9_reads_L150 zk_FU a1 0 0 (zk_sI z13 25 0 s4.toNatClampNeg r14))))
def fX9_reads (x1 : Int32) (z : zk_Z) : Option (Int32 × zk_Z) := zk_bd (fX9_part 107 0 5 z) (fun r2 z1 => zk_gd (zk_ix x1 6) (zk_gd (zk_ix x1 6) (if ((zk_sI z1 22 0 x1.toNatClampNeg r2).1 22 0 x1.toNatClampNeg) = (-1) then some (0, zk_sI z1 22 0 x1.toNatClampNeg r2) else zk_bd (fX9_blanks  (zk_sI z1 22 0 x1.toNatClampNeg r2)) (fun r4 z3 => if r4 = 0 then some (0, z3) else zk_bd (fX9_part 110 1 10 z3) (fun r6 z5 => zk_gd (zk_ix x1 6) (zk_gd (zk_ix x1 6) (if ((zk_sI z5 23 0 x1.toNatClampNeg r6).1 23 0 x1.toNatClampNeg) = (-1) then some (0, zk_sI z5 23 0 x1.toNatClampNeg r6) else zk_bd (fX9_blanks  (zk_sI z5 23 0 x1.toNatClampNeg r6)) (fun r8 z7 => if r8 = 0 then some (0, z7) else zk_bd (fX9_part 99 0 24 z7) (fun r10 z9 => zk_gd (zk_ix x1 6) (zk_gd (zk_ix x1 6) (if ((zk_sI z9 24 0 x1.toNatClampNeg r10).1 24 0 x1.toNatClampNeg) = (-1) then some (0, zk_sI z9 24 0 x1.toNatClampNeg r10) else zk_bd (fX9_blanks  (zk_sI z9 24 0 x1.toNatClampNeg r10)) (fun r12 z11 => if r12 = 0 then some (0, z11) else zk_gd (zk_ix x1 6) (if 3 ≤ (z11.1 23 0 x1.toNatClampNeg) then fX9_reads_B130 x1 3 1 119 x1 z11 else zk_gd (zk_ix x1 6) (fX9_reads_B130 x1 (z11.1 23 0 x1.toNatClampNeg) 1 119 x1 z11))))))))))))))
set_option maxRecDepth 100000 in
set_option maxHeartbeats 8000000 in
theorem ct_X9_reads (l : Launch) (E : zk_E) (hi : zk_inj E) (x1 : Int32) (z : zk_Z) (r : Int32) (z' : zk_Z) (h : fX9_reads  x1 z = some (r, z')) : Met l yX9_reads wsX9_reads { frames := 3, cells := 0, slots := 0, locals := 70 } (va_Pc [.ref (E.2.1 20 0), .int x1] (zk_W E z)) (zk_Qi E r z') 0 0 (zk_A E) := by
  refine zk_met (cc := cX9_reads) (maxL := 5) (ret := (some .boolean)) (own := RX9) (by decide) rfl rfl hi (Nat.le_of_ble_eq_true rfl) ?_
  intro p e s m args below meth c X hr
  have iX9 : ∀ w ∈ u_ws RX9 TX9 32, w ∈ wsX9_reads := by decide +kernel
  have w0 : Cond.fieldLink RX9 13 "HiddenWorksModel" "rKind" "[I" ∈ wsX9_reads := by decide +kernel
  have w1 : Cond.fieldLink RX9 16 "HiddenWorksModel" "rLetters" "[I" ∈ wsX9_reads := by decide +kernel
  have w2 : Cond.fieldLink RX9 19 "HiddenWorksModel" "rClauses" "[I" ∈ wsX9_reads := by decide +kernel
  have w3 : Cond.fieldLink RX9 22 "HiddenWorksModel" "rWide" "[I" ∈ wsX9_reads := by decide +kernel
  have w4 : Cond.fieldLink RX9 96 "HiddenWorksModel" "at" "I" ∈ wsX9_reads := by decide +kernel
  have w5 : Cond.fieldLink RX9 90 "HiddenWorksModel" "taped" "I" ∈ wsX9_reads := by decide +kernel
  have w6 : Cond.fieldLink RX9 25 "HiddenWorksModel" "rWeight" "[I" ∈ wsX9_reads := by decide +kernel
  have B196 : ∀ (c150 : Int32 → Int32 → Int32 → zk_Z → Option (Int32 × zk_Z)) (hc150 : ∀ (a1 : Int32) (a2 : Int32) (a3 : Int32) (z : zk_Z), c150 a1 a2 a3 z = some (r, z') → zk_G p l e (headSpec wsX9_reads { frames := 3, cells := 0, slots := 0, locals := 70 }).room s m args below meth c E 5 0 0 (MQ below (zk_Qi E r z') args s 0 0 (zk_A E)) 150 [(0, .ref (E.2.1 20 0)), (1, .int a1), (2, .int a2), (3, .int a3)] [] z) (a1 : Int32) (a2 : Int32) (a3 : Int32) (s0 : Int32) (s1 : Int32) (z : zk_Z), fX9_reads_B196 c150 a1 a2 a3 s0 s1 z = some (r, z') → zk_G p l e (headSpec wsX9_reads { frames := 3, cells := 0, slots := 0, locals := 70 }).room s m args below meth c E 5 0 0 (MQ below (zk_Qi E r z') args s 0 0 (zk_A E)) 196 [(0, .ref (E.2.1 20 0)), (1, .int a1), (2, .int a2), (3, .int a3)] [.int s0, .int s1, .ref (E.2.1 20 0)] z := by
    intro c150 hc150 a1 a2 a3 s0 s1 z h
    unfold fX9_reads_B196 at h
    refine zk_vi X h (fun rr zz hf => ct_X9_number l E hi s1 s0 _ rr zz hf) (cwV 2 X.1.2.2.2.2 gX9_reads_X9_number rfl rfl rfl (by decide +kernel) ⟨Nat.le_of_ble_eq_true rfl, Nat.le_of_ble_eq_true rfl⟩) (zk_recv X (g := 20) (Nat.zero_lt_one) rfl rfl) rfl rfl (Nat.le_of_ble_eq_true rfl) dX9_reads_196 (fun r20 z19 h => ?_)
    refine zk_istore X (lv' := [(4, .int r20), (0, .ref (E.2.1 20 0)), (1, .int a1), (2, .int a2), (3, .int a3)]) dX9_reads_199 (by decide) rfl ?_
    refine zk_iload X 0 dX9_reads_201 rfl ?_
    refine zk_iconst X (v := -1) dX9_reads_203 (by decide) ?_
    refine zk_icmp_ne X (tgt := 209) dX9_reads_204 (by decide) h (fun h => ?_) (fun h => ?_)
    · refine zk_iconst X (v := 0) dX9_reads_207 (by decide) ?_
      exact zk_zreturn X hr dX9_reads_208 rfl h
    · refine zk_aload_n X 1 dX9_reads_209 rfl rfl ?_
      refine zk_get X iX9 (g := 20) (Nat.zero_lt_one) rfl rfl 7 (by decide) w6 rfl dX9_reads_210 ?_
      refine zk_iconst X (v := 4) dX9_reads_213 (by decide) ?_
      refine zk_iload_n X 2 dX9_reads_214 rfl rfl ?_
      refine zk_imul X dX9_reads_215 ?_
      refine zk_iload_n X 4 dX9_reads_216 rfl rfl ?_
      refine zk_iadd X dX9_reads_217 ?_
      refine zk_iload X 0 dX9_reads_218 rfl ?_
      refine zk_iast X (g := 26) (Nat.zero_lt_one) rfl rfl dX9_reads_220 h (fun h => ?_)
      refine zk_iload_n X 3 dX9_reads_221 rfl rfl ?_
      refine zk_iload X 0 dX9_reads_222 rfl ?_
      refine zk_iadd X dX9_reads_224 ?_
      refine zk_istore_n X (lv' := [(2, .int (a2 + r20)), (4, .int r20), (0, .ref (E.2.1 20 0)), (1, .int a1), (3, .int a3)]) dX9_reads_225 rfl (by decide) rfl ?_
      refine zk_iinc X (lv' := [(3, .int (a3 + 1)), (2, .int (a2 + r20)), (4, .int r20), (0, .ref (E.2.1 20 0)), (1, .int a1)]) 4 dX9_reads_226 rfl rfl (by decide) rfl ?_
      refine zk_goto X (tgt := 150) dX9_reads_229 (by decide) ?_
      exact zk_sub [3, 4, 1, 0] rfl (hc150 _ _ _ _ h)
  have L150 : ∀ (n : Nat) (a1 : Int32) (a2 : Int32) (a3 : Int32) (z : zk_Z), fX9_reads_L150 n a1 a2 a3 z = some (r, z') → zk_G p l e (headSpec wsX9_reads { frames := 3, cells := 0, slots := 0, locals := 70 }).room s m args below meth c E 5 0 0 (MQ below (zk_Qi E r z') args s 0 0 (zk_A E)) 150 [(0, .ref (E.2.1 20 0)), (1, .int a1), (2, .int a2), (3, .int a3)] [] z := by
    intro n
    induction n with
    | zero => intro a1 a2 a3 z h; exact absurd h (by simp [fX9_reads_L150])
    | succ n ih =>
      intro a1 a2 a3 z h
      rw [fX9_reads_L150] at h
      refine zk_iload_n X 3 dX9_reads_150 rfl rfl ?_
      refine zk_aload_n X 0 dX9_reads_151 rfl rfl ?_
      refine zk_get X iX9 (g := 20) (Nat.zero_lt_one) rfl rfl 6 (by decide) w3 rfl dX9_reads_152 ?_
      refine zk_iload_n X 1 dX9_reads_155 rfl rfl ?_
      refine zk_iald X (g := 25) (Nat.zero_lt_one) rfl dX9_reads_156 h (fun h => ?_)
      refine zk_icmp_gt X (tgt := 232) dX9_reads_157 (by decide) h (fun h => ?_) (fun h => ?_)
      · refine zk_aload_n X 0 dX9_reads_232 rfl rfl ?_
        refine zk_get X iX9 (g := 20) (Nat.zero_lt_one) rfl rfl 27 (by decide) w4 rfl dX9_reads_233 ?_
        refine zk_aload_n X 0 dX9_reads_236 rfl rfl ?_
        refine zk_get X iX9 (g := 20) (Nat.zero_lt_one) rfl rfl 1 (by decide) w5 rfl dX9_reads_237 ?_
        refine zk_icmp_ne X (tgt := 251) dX9_reads_240 (by decide) h (fun h => ?_) (fun h => ?_)
        · refine zk_iload_n X 2 dX9_reads_243 rfl rfl ?_
          refine zk_if_le X (tgt := 251) dX9_reads_244 (by decide) h (fun h => ?_) (fun h => ?_)
          · refine zk_iconst X (v := 0) dX9_reads_251 (by decide) ?_
            exact zk_zreturn X hr dX9_reads_252 rfl h
          · refine zk_iconst X (v := 1) dX9_reads_247 (by decide) ?_
            refine zk_goto X (tgt := 252) dX9_reads_248 (by decide) ?_
            exact zk_zreturn X hr dX9_reads_252 rfl h
        · refine zk_iconst X (v := 0) dX9_reads_251 (by decide) ?_
          exact zk_zreturn X hr dX9_reads_252 rfl h
      · refine zk_aload_n X 0 dX9_reads_160 rfl rfl ?_
        refine zk_vi X h (fun rr zz hf => ct_X9_blanks l E hi _ rr zz hf) (cwV 0 X.1.2.2.2.2 gX9_reads_X9_blanks rfl rfl rfl (by decide +kernel) ⟨Nat.le_of_ble_eq_true rfl, Nat.le_of_ble_eq_true rfl⟩) (zk_recv X (g := 20) (Nat.zero_lt_one) rfl rfl) rfl rfl (Nat.le_of_ble_eq_true rfl) dX9_reads_161 (fun r16 z15 h => ?_)
        refine zk_if_ne X (tgt := 169) dX9_reads_164 (by decide) h (fun h => ?_) (fun h => ?_)
        · refine zk_iconst X (v := 0) dX9_reads_167 (by decide) ?_
          exact zk_zreturn X hr dX9_reads_168 rfl h
        · refine zk_aload_n X 0 dX9_reads_169 rfl rfl ?_
          refine zk_iconst X (v := 0) dX9_reads_170 (by decide) ?_
          refine zk_aload_n X 0 dX9_reads_171 rfl rfl ?_
          refine zk_get X iX9 (g := 20) (Nat.zero_lt_one) rfl rfl 3 (by decide) w0 rfl dX9_reads_172 ?_
          refine zk_iload_n X 1 dX9_reads_175 rfl rfl ?_
          refine zk_iald X (g := 22) (Nat.zero_lt_one) rfl dX9_reads_176 h (fun h => ?_)
          refine zk_iload_n X 3 dX9_reads_177 rfl rfl ?_
          refine zk_aload_n X 0 dX9_reads_178 rfl rfl ?_
          refine zk_get X iX9 (g := 20) (Nat.zero_lt_one) rfl rfl 6 (by decide) w3 rfl dX9_reads_179 ?_
          refine zk_iload_n X 1 dX9_reads_182 rfl rfl ?_
          refine zk_iald X (g := 25) (Nat.zero_lt_one) rfl dX9_reads_183 h (fun h => ?_)
          refine zk_si X h (fun rr zz hf => ct_X9_holds l E hi (z15.1 22 0 a1.toNatClampNeg) a3 (z15.1 25 0 a1.toNatClampNeg) _ rr zz hf) (va_cwS 3 X.1.2.2.2.2 gX9_reads_X9_holds rfl rfl rfl (by decide +kernel) ⟨Nat.le_of_ble_eq_true rfl, Nat.le_of_ble_eq_true rfl⟩) rfl rfl (Nat.le_of_ble_eq_true rfl) dX9_reads_184 (fun r18 z17 h => ?_)
          refine zk_if_eq X (tgt := 195) dX9_reads_187 (by decide) h (fun h => ?_) (fun h => ?_)
          · refine zk_iconst X (v := 0) dX9_reads_195 (by decide) ?_
            exact zk_sub [0, 1, 2, 3] rfl (B196 _ ih _ _ _ _ _ _ h)
          · refine zk_bipush X (v := 99) dX9_reads_190 (by decide) ?_
            refine zk_goto X (tgt := 196) dX9_reads_192 (by decide) ?_
            exact zk_sub [0, 1, 2, 3] rfl (B196 _ ih _ _ _ _ _ _ h)
  have B130 : ∀ (a1 : Int32) (s0 : Int32) (s1 : Int32) (s2 : Int32) (s4 : Int32) (z : zk_Z), fX9_reads_B130 a1 s0 s1 s2 s4 z = some (r, z') → zk_G p l e (headSpec wsX9_reads { frames := 3, cells := 0, slots := 0, locals := 70 }).room s m args below meth c E 5 0 0 (MQ below (zk_Qi E r z') args s 0 0 (zk_A E)) 130 [(0, .ref (E.2.1 20 0)), (1, .int a1)] [.int s0, .int s1, .int s2, .ref (E.2.1 20 0), .int s4, .ref (E.2.1 25 0)] z := by
    intro a1 s0 s1 s2 s4 z h
    unfold fX9_reads_B130 at h
    refine zk_vi X h (fun rr zz hf => ct_X9_part l E hi s2 s1 s0 _ rr zz hf) (cwV 3 X.1.2.2.2.2 gX9_reads_X9_part rfl rfl rfl (by decide +kernel) ⟨Nat.le_of_ble_eq_true rfl, Nat.le_of_ble_eq_true rfl⟩) (zk_recv X (g := 20) (Nat.zero_lt_one) rfl rfl) rfl rfl (Nat.le_of_ble_eq_true rfl) dX9_reads_130 (fun r14 z13 h => ?_)
    refine zk_iast X (g := 25) (Nat.zero_lt_one) rfl rfl dX9_reads_133 h (fun h => ?_)
    refine zk_aload_n X 0 dX9_reads_134 rfl rfl ?_
    refine zk_get X iX9 (g := 20) (Nat.zero_lt_one) rfl rfl 6 (by decide) w3 rfl dX9_reads_135 ?_
    refine zk_iload_n X 1 dX9_reads_138 rfl rfl ?_
    refine zk_iald X (g := 25) (Nat.zero_lt_one) rfl dX9_reads_139 h (fun h => ?_)
    refine zk_iconst X (v := -1) dX9_reads_140 (by decide) ?_
    refine zk_icmp_ne X (tgt := 146) dX9_reads_141 (by decide) h (fun h => ?_) (fun h => ?_)
    · refine zk_iconst X (v := 0) dX9_reads_144 (by decide) ?_
      exact zk_zreturn X hr dX9_reads_145 rfl h
    · refine zk_iconst X (v := 0) dX9_reads_146 (by decide) ?_
      refine zk_istore_n X (lv' := [(2, .int 0), (0, .ref (E.2.1 20 0)), (1, .int a1)]) dX9_reads_147 rfl (by decide) rfl ?_
      refine zk_iconst X (v := 0) dX9_reads_148 (by decide) ?_
      refine zk_istore_n X (lv' := [(3, .int 0), (2, .int 0), (0, .ref (E.2.1 20 0)), (1, .int a1)]) dX9_reads_149 rfl (by decide) rfl ?_
      exact zk_sub [2, 3, 1, 0] rfl (L150 _ _ _ _ _ h)
  unfold fX9_reads at h
  refine zk_aload_n X 0 dX9_reads_0 rfl rfl ?_
  refine zk_get X iX9 (g := 20) (Nat.zero_lt_one) rfl rfl 3 (by decide) w0 rfl dX9_reads_1 ?_
  refine zk_iload_n X 1 dX9_reads_4 rfl rfl ?_
  refine zk_aload_n X 0 dX9_reads_5 rfl rfl ?_
  refine zk_bipush X (v := 107) dX9_reads_6 (by decide) ?_
  refine zk_iconst X (v := 0) dX9_reads_8 (by decide) ?_
  refine zk_iconst X (v := 5) dX9_reads_9 (by decide) ?_
  refine zk_vi X h (fun rr zz hf => ct_X9_part l E hi  107 0 5 _ rr zz hf) (cwV 3 X.1.2.2.2.2 gX9_reads_X9_part rfl rfl rfl (by decide +kernel) ⟨Nat.le_of_ble_eq_true rfl, Nat.le_of_ble_eq_true rfl⟩) (zk_recv X (g := 20) (Nat.zero_lt_one) rfl rfl) rfl rfl (Nat.le_of_ble_eq_true rfl) dX9_reads_10 (fun r2 z1 h => ?_)
  refine zk_iast X (g := 22) (Nat.zero_lt_one) rfl rfl dX9_reads_13 h (fun h => ?_)
  refine zk_aload_n X 0 dX9_reads_14 rfl rfl ?_
  refine zk_get X iX9 (g := 20) (Nat.zero_lt_one) rfl rfl 3 (by decide) w0 rfl dX9_reads_15 ?_
  refine zk_iload_n X 1 dX9_reads_18 rfl rfl ?_
  refine zk_iald X (g := 22) (Nat.zero_lt_one) rfl dX9_reads_19 h (fun h => ?_)
  refine zk_iconst X (v := -1) dX9_reads_20 (by decide) ?_
  refine zk_icmp_eq X (tgt := 31) dX9_reads_21 (by decide) h (fun h => ?_) (fun h => ?_)
  · refine zk_iconst X (v := 0) dX9_reads_31 (by decide) ?_
    exact zk_zreturn X hr dX9_reads_32 rfl h
  · refine zk_aload_n X 0 dX9_reads_24 rfl rfl ?_
    refine zk_vi X h (fun rr zz hf => ct_X9_blanks l E hi   _ rr zz hf) (cwV 0 X.1.2.2.2.2 gX9_reads_X9_blanks rfl rfl rfl (by decide +kernel) ⟨Nat.le_of_ble_eq_true rfl, Nat.le_of_ble_eq_true rfl⟩) (zk_recv X (g := 20) (Nat.zero_lt_one) rfl rfl) rfl rfl (Nat.le_of_ble_eq_true rfl) dX9_reads_25 (fun r4 z3 h => ?_)
    refine zk_if_ne X (tgt := 33) dX9_reads_28 (by decide) h (fun h => ?_) (fun h => ?_)
    · refine zk_iconst X (v := 0) dX9_reads_31 (by decide) ?_
      exact zk_zreturn X hr dX9_reads_32 rfl h
    · refine zk_aload_n X 0 dX9_reads_33 rfl rfl ?_
      refine zk_get X iX9 (g := 20) (Nat.zero_lt_one) rfl rfl 4 (by decide) w1 rfl dX9_reads_34 ?_
      refine zk_iload_n X 1 dX9_reads_37 rfl rfl ?_
      refine zk_aload_n X 0 dX9_reads_38 rfl rfl ?_
      refine zk_bipush X (v := 110) dX9_reads_39 (by decide) ?_
      refine zk_iconst X (v := 1) dX9_reads_41 (by decide) ?_
      refine zk_bipush X (v := 10) dX9_reads_42 (by decide) ?_
      refine zk_vi X h (fun rr zz hf => ct_X9_part l E hi  110 1 10 _ rr zz hf) (cwV 3 X.1.2.2.2.2 gX9_reads_X9_part rfl rfl rfl (by decide +kernel) ⟨Nat.le_of_ble_eq_true rfl, Nat.le_of_ble_eq_true rfl⟩) (zk_recv X (g := 20) (Nat.zero_lt_one) rfl rfl) rfl rfl (Nat.le_of_ble_eq_true rfl) dX9_reads_44 (fun r6 z5 h => ?_)
      refine zk_iast X (g := 23) (Nat.zero_lt_one) rfl rfl dX9_reads_47 h (fun h => ?_)
      refine zk_aload_n X 0 dX9_reads_48 rfl rfl ?_
      refine zk_get X iX9 (g := 20) (Nat.zero_lt_one) rfl rfl 4 (by decide) w1 rfl dX9_reads_49 ?_
      refine zk_iload_n X 1 dX9_reads_52 rfl rfl ?_
      refine zk_iald X (g := 23) (Nat.zero_lt_one) rfl dX9_reads_53 h (fun h => ?_)
      refine zk_iconst X (v := -1) dX9_reads_54 (by decide) ?_
      refine zk_icmp_eq X (tgt := 65) dX9_reads_55 (by decide) h (fun h => ?_) (fun h => ?_)
      · refine zk_iconst X (v := 0) dX9_reads_65 (by decide) ?_
        exact zk_zreturn X hr dX9_reads_66 rfl h
      · refine zk_aload_n X 0 dX9_reads_58 rfl rfl ?_
        refine zk_vi X h (fun rr zz hf => ct_X9_blanks l E hi   _ rr zz hf) (cwV 0 X.1.2.2.2.2 gX9_reads_X9_blanks rfl rfl rfl (by decide +kernel) ⟨Nat.le_of_ble_eq_true rfl, Nat.le_of_ble_eq_true rfl⟩) (zk_recv X (g := 20) (Nat.zero_lt_one) rfl rfl) rfl rfl (Nat.le_of_ble_eq_true rfl) dX9_reads_59 (fun r8 z7 h => ?_)
        refine zk_if_ne X (tgt := 67) dX9_reads_62 (by decide) h (fun h => ?_) (fun h => ?_)
        · refine zk_iconst X (v := 0) dX9_reads_65 (by decide) ?_
          exact zk_zreturn X hr dX9_reads_66 rfl h
        · refine zk_aload_n X 0 dX9_reads_67 rfl rfl ?_
          refine zk_get X iX9 (g := 20) (Nat.zero_lt_one) rfl rfl 5 (by decide) w2 rfl dX9_reads_68 ?_
          refine zk_iload_n X 1 dX9_reads_71 rfl rfl ?_
          refine zk_aload_n X 0 dX9_reads_72 rfl rfl ?_
          refine zk_bipush X (v := 99) dX9_reads_73 (by decide) ?_
          refine zk_iconst X (v := 0) dX9_reads_75 (by decide) ?_
          refine zk_bipush X (v := 24) dX9_reads_76 (by decide) ?_
          refine zk_vi X h (fun rr zz hf => ct_X9_part l E hi  99 0 24 _ rr zz hf) (cwV 3 X.1.2.2.2.2 gX9_reads_X9_part rfl rfl rfl (by decide +kernel) ⟨Nat.le_of_ble_eq_true rfl, Nat.le_of_ble_eq_true rfl⟩) (zk_recv X (g := 20) (Nat.zero_lt_one) rfl rfl) rfl rfl (Nat.le_of_ble_eq_true rfl) dX9_reads_78 (fun r10 z9 h => ?_)
          refine zk_iast X (g := 24) (Nat.zero_lt_one) rfl rfl dX9_reads_81 h (fun h => ?_)
          refine zk_aload_n X 0 dX9_reads_82 rfl rfl ?_
          refine zk_get X iX9 (g := 20) (Nat.zero_lt_one) rfl rfl 5 (by decide) w2 rfl dX9_reads_83 ?_
          refine zk_iload_n X 1 dX9_reads_86 rfl rfl ?_
          refine zk_iald X (g := 24) (Nat.zero_lt_one) rfl dX9_reads_87 h (fun h => ?_)
          refine zk_iconst X (v := -1) dX9_reads_88 (by decide) ?_
          refine zk_icmp_eq X (tgt := 99) dX9_reads_89 (by decide) h (fun h => ?_) (fun h => ?_)
          · refine zk_iconst X (v := 0) dX9_reads_99 (by decide) ?_
            exact zk_zreturn X hr dX9_reads_100 rfl h
          · refine zk_aload_n X 0 dX9_reads_92 rfl rfl ?_
            refine zk_vi X h (fun rr zz hf => ct_X9_blanks l E hi   _ rr zz hf) (cwV 0 X.1.2.2.2.2 gX9_reads_X9_blanks rfl rfl rfl (by decide +kernel) ⟨Nat.le_of_ble_eq_true rfl, Nat.le_of_ble_eq_true rfl⟩) (zk_recv X (g := 20) (Nat.zero_lt_one) rfl rfl) rfl rfl (Nat.le_of_ble_eq_true rfl) dX9_reads_93 (fun r12 z11 h => ?_)
            refine zk_if_ne X (tgt := 101) dX9_reads_96 (by decide) h (fun h => ?_) (fun h => ?_)
            · refine zk_iconst X (v := 0) dX9_reads_99 (by decide) ?_
              exact zk_zreturn X hr dX9_reads_100 rfl h
            · refine zk_aload_n X 0 dX9_reads_101 rfl rfl ?_
              refine zk_get X iX9 (g := 20) (Nat.zero_lt_one) rfl rfl 6 (by decide) w3 rfl dX9_reads_102 ?_
              refine zk_iload_n X 1 dX9_reads_105 rfl rfl ?_
              refine zk_aload_n X 0 dX9_reads_106 rfl rfl ?_
              refine zk_bipush X (v := 119) dX9_reads_107 (by decide) ?_
              refine zk_iconst X (v := 1) dX9_reads_109 (by decide) ?_
              refine zk_aload_n X 0 dX9_reads_110 rfl rfl ?_
              refine zk_get X iX9 (g := 20) (Nat.zero_lt_one) rfl rfl 4 (by decide) w1 rfl dX9_reads_111 ?_
              refine zk_iload_n X 1 dX9_reads_114 rfl rfl ?_
              refine zk_iald X (g := 23) (Nat.zero_lt_one) rfl dX9_reads_115 h (fun h => ?_)
              refine zk_iconst X (v := 3) dX9_reads_116 (by decide) ?_
              refine zk_icmp_ge X (tgt := 129) dX9_reads_117 (by decide) h (fun h => ?_) (fun h => ?_)
              · refine zk_iconst X (v := 3) dX9_reads_129 (by decide) ?_
                exact zk_sub [0, 1] rfl (B130  _ _ _ _ _ _ h)
              · refine zk_aload_n X 0 dX9_reads_120 rfl rfl ?_
                refine zk_get X iX9 (g := 20) (Nat.zero_lt_one) rfl rfl 4 (by decide) w1 rfl dX9_reads_121 ?_
                refine zk_iload_n X 1 dX9_reads_124 rfl rfl ?_
                refine zk_iald X (g := 23) (Nat.zero_lt_one) rfl dX9_reads_125 h (fun h => ?_)
                refine zk_goto X (tgt := 130) dX9_reads_126 (by decide) ?_
                exact zk_sub [0, 1] rfl (B130  _ _ _ _ _ _ h)
def fX9_recipe (z : zk_Z) : Option (Int32 × zk_Z) := if (z.1 20 0 2) = 6 then some ((-4), z) else zk_bd (fX9_reads ((zk_sI z 20 0 27 0).1 20 0 2) (zk_sI z 20 0 27 0)) (fun r2 z1 => if r2 = 0 then some ((-100) - ((zk_sI z1 20 0 1 0).1 20 0 27), zk_sI z1 20 0 1 0) else some (((zk_sI (zk_sI z1 20 0 1 0) 20 0 2 (((zk_sI z1 20 0 1 0).1 20 0 2) + 1)).1 20 0 2) - 1, zk_sI (zk_sI z1 20 0 1 0) 20 0 2 (((zk_sI z1 20 0 1 0).1 20 0 2) + 1)))
set_option maxRecDepth 100000 in
set_option maxHeartbeats 8000000 in
theorem ct_X9_recipe (l : Launch) (E : zk_E) (hi : zk_inj E) (z : zk_Z) (r : Int32) (z' : zk_Z) (h : fX9_recipe   z = some (r, z')) : Met l yX9_recipe wsX9_recipe { frames := 4, cells := 0, slots := 0, locals := 94 } (va_Pc [.ref (E.2.1 20 0)] (zk_W E z)) (zk_Qi E r z') 0 0 (zk_A E) := by
  refine zk_met (cc := cX9_recipe) (maxL := 2) (ret := (some .int)) (own := RX9) (by decide) rfl rfl hi (Nat.le_of_ble_eq_true rfl) ?_
  intro p e s m args below meth c X hr
  have iX9 : ∀ w ∈ u_ws RX9 TX9 32, w ∈ wsX9_recipe := by decide +kernel
  have w0 : Cond.fieldLink RX9 114 "HiddenWorksModel" "recipes" "I" ∈ wsX9_recipe := by decide +kernel
  have w1 : Cond.fieldLink RX9 96 "HiddenWorksModel" "at" "I" ∈ wsX9_recipe := by decide +kernel
  have w2 : Cond.fieldLink RX9 90 "HiddenWorksModel" "taped" "I" ∈ wsX9_recipe := by decide +kernel
  unfold fX9_recipe at h
  refine zk_aload_n X 0 dX9_recipe_0 rfl rfl ?_
  refine zk_get X iX9 (g := 20) (Nat.zero_lt_one) rfl rfl 2 (by decide) w0 rfl dX9_recipe_1 ?_
  refine zk_bipush X (v := 6) dX9_recipe_4 (by decide) ?_
  refine zk_icmp_ne X (tgt := 12) dX9_recipe_6 (by decide) h (fun h => ?_) (fun h => ?_)
  · refine zk_bipush X (v := -4) dX9_recipe_9 (by decide) ?_
    exact zk_ireturn X hr dX9_recipe_11 h
  · refine zk_aload_n X 0 dX9_recipe_12 rfl rfl ?_
    refine zk_iconst X (v := 0) dX9_recipe_13 (by decide) ?_
    refine zk_putI X (ty := .int) iX9 tyX9 tyX9_ok nmX9 (g := 20) (Nat.zero_lt_one) rfl rfl 27 (by decide) w1 rfl (by decide +kernel) rfl rfl (Nat.le_of_ble_eq_true rfl) rfl dX9_recipe_14 ?_
    refine zk_aload_n X 0 dX9_recipe_17 rfl rfl ?_
    refine zk_aload_n X 0 dX9_recipe_18 rfl rfl ?_
    refine zk_get X iX9 (g := 20) (Nat.zero_lt_one) rfl rfl 2 (by decide) w0 rfl dX9_recipe_19 ?_
    refine zk_vi X h (fun rr zz hf => ct_X9_reads l E hi  ((zk_sI z 20 0 27 0).1 20 0 2) _ rr zz hf) (cwV 1 X.1.2.2.2.2 gX9_recipe_X9_reads rfl rfl rfl (by decide +kernel) ⟨Nat.le_of_ble_eq_true rfl, Nat.le_of_ble_eq_true rfl⟩) (zk_recv X (g := 20) (Nat.zero_lt_one) rfl rfl) rfl rfl (Nat.le_of_ble_eq_true rfl) dX9_recipe_22 (fun r2 z1 h => ?_)
    refine zk_istore_n X (lv' := [(1, .int r2), (0, .ref (E.2.1 20 0))]) dX9_recipe_25 rfl (by decide) rfl ?_
    refine zk_aload_n X 1 dX9_recipe_26 rfl rfl ?_
    refine zk_iconst X (v := 0) dX9_recipe_27 (by decide) ?_
    refine zk_putI X (ty := .int) iX9 tyX9 tyX9_ok nmX9 (g := 20) (Nat.zero_lt_one) rfl rfl 1 (by decide) w2 rfl (by decide +kernel) rfl rfl (Nat.le_of_ble_eq_true rfl) rfl dX9_recipe_28 ?_
    refine zk_iload_n X 0 dX9_recipe_31 rfl rfl ?_
    refine zk_if_ne X (tgt := 43) dX9_recipe_32 (by decide) h (fun h => ?_) (fun h => ?_)
    · refine zk_bipush X (v := -100) dX9_recipe_35 (by decide) ?_
      refine zk_aload_n X 1 dX9_recipe_37 rfl rfl ?_
      refine zk_get X iX9 (g := 20) (Nat.zero_lt_one) rfl rfl 27 (by decide) w1 rfl dX9_recipe_38 ?_
      refine zk_isub X dX9_recipe_41 ?_
      exact zk_ireturn X hr dX9_recipe_42 h
    · refine zk_aload_n X 1 dX9_recipe_43 rfl rfl ?_
      refine zk_dup X dX9_recipe_44 rfl ?_
      refine zk_get X iX9 (g := 20) (Nat.zero_lt_one) rfl rfl 2 (by decide) w0 rfl dX9_recipe_45 ?_
      refine zk_iconst X (v := 1) dX9_recipe_48 (by decide) ?_
      refine zk_iadd X dX9_recipe_49 ?_
      refine zk_putI X (ty := .int) iX9 tyX9 tyX9_ok nmX9 (g := 20) (Nat.zero_lt_one) rfl rfl 2 (by decide) w0 rfl (by decide +kernel) rfl rfl (Nat.le_of_ble_eq_true rfl) rfl dX9_recipe_50 ?_
      refine zk_aload_n X 1 dX9_recipe_53 rfl rfl ?_
      refine zk_get X iX9 (g := 20) (Nat.zero_lt_one) rfl rfl 2 (by decide) w0 rfl dX9_recipe_54 ?_
      refine zk_iconst X (v := 1) dX9_recipe_57 (by decide) ?_
      refine zk_isub X dX9_recipe_58 ?_
      exact zk_ireturn X hr dX9_recipe_59 h
def fX9_recipeTold_B112 (s0 : Int32) (s1 : Int32) (z : zk_Z) : Option (Int32 × zk_Z) := zk_gd (zk_ix (s1 + s0) 24) (some (z.1 26 0 (s1 + s0).toNatClampNeg, z))
def fX9_recipeTold (x1 : Int32) (x2 : Int32) (z : zk_Z) : Option (Int32 × zk_Z) := zk_bd (fX9_isRecipe x1 z) (fun r2 z1 => if r2 = 0 then some ((-5), z1) else if x2 = 0 then zk_gd (zk_ix x1 6) (some (z1.1 22 0 x1.toNatClampNeg, z1)) else if x2 = 1 then zk_gd (zk_ix x1 6) (some (z1.1 23 0 x1.toNatClampNeg, z1)) else if x2 = 2 then zk_gd (zk_ix x1 6) (some (z1.1 24 0 x1.toNatClampNeg, z1)) else if x2 = 3 then zk_gd (zk_ix x1 6) (some (z1.1 25 0 x1.toNatClampNeg, z1)) else zk_gd (zk_ix x1 6) (zk_bd (fX9_in x2 4 (4 + (z1.1 25 0 x1.toNatClampNeg)) z1) (fun r8 z7 => if r8 = 0 then some ((-7), z7) else zk_bd (fX9_in x2 4 7 z7) (fun r10 z9 => if r10 = 0 then fX9_recipeTold_B112 0 (4 * x1) z9 else fX9_recipeTold_B112 (x2 - 4) (4 * x1) z9))))
set_option maxRecDepth 100000 in
set_option maxHeartbeats 8000000 in
theorem ct_X9_recipeTold (l : Launch) (E : zk_E) (hi : zk_inj E) (x1 : Int32) (x2 : Int32) (z : zk_Z) (r : Int32) (z' : zk_Z) (h : fX9_recipeTold  x1 x2 z = some (r, z')) : Met l yX9_recipeTold wsX9_recipeTold { frames := 2, cells := 0, slots := 0, locals := 43 } (va_Pc [.ref (E.2.1 20 0), .int x1, .int x2] (zk_W E z)) (zk_Qi E r z') 0 0 (zk_A E) := by
  refine zk_met (cc := cX9_recipeTold) (maxL := 3) (ret := (some .int)) (own := RX9) (by decide) rfl rfl hi (Nat.le_of_ble_eq_true rfl) ?_
  intro p e s m args below meth c X hr
  have iX9 : ∀ w ∈ u_ws RX9 TX9 32, w ∈ wsX9_recipeTold := by decide +kernel
  have w0 : Cond.fieldLink RX9 13 "HiddenWorksModel" "rKind" "[I" ∈ wsX9_recipeTold := by decide +kernel
  have w1 : Cond.fieldLink RX9 16 "HiddenWorksModel" "rLetters" "[I" ∈ wsX9_recipeTold := by decide +kernel
  have w2 : Cond.fieldLink RX9 19 "HiddenWorksModel" "rClauses" "[I" ∈ wsX9_recipeTold := by decide +kernel
  have w3 : Cond.fieldLink RX9 22 "HiddenWorksModel" "rWide" "[I" ∈ wsX9_recipeTold := by decide +kernel
  have w4 : Cond.fieldLink RX9 25 "HiddenWorksModel" "rWeight" "[I" ∈ wsX9_recipeTold := by decide +kernel
  have B112 : ∀ (s0 : Int32) (s1 : Int32) (z : zk_Z), fX9_recipeTold_B112 s0 s1 z = some (r, z') → zk_G p l e (headSpec wsX9_recipeTold { frames := 2, cells := 0, slots := 0, locals := 43 }).room s m args below meth c E 3 0 0 (MQ below (zk_Qi E r z') args s 0 0 (zk_A E)) 112 [] [.int s0, .int s1, .ref (E.2.1 26 0)] z := by
    intro s0 s1 z h
    unfold fX9_recipeTold_B112 at h
    refine zk_iadd X dX9_recipeTold_112 ?_
    refine zk_iald X (g := 26) (Nat.zero_lt_one) rfl dX9_recipeTold_113 h (fun h => ?_)
    refine zk_goto X (tgt := 119) dX9_recipeTold_114 (by decide) ?_
    exact zk_ireturn X hr dX9_recipeTold_119 h
  unfold fX9_recipeTold at h
  refine zk_aload_n X 0 dX9_recipeTold_0 rfl rfl ?_
  refine zk_iload_n X 1 dX9_recipeTold_1 rfl rfl ?_
  refine zk_vi X h (fun rr zz hf => ct_X9_isRecipe l E hi  x1 _ rr zz hf) (cwV 1 X.1.2.2.2.2 gX9_recipeTold_X9_isRecipe rfl rfl rfl (by decide +kernel) ⟨Nat.le_of_ble_eq_true rfl, Nat.le_of_ble_eq_true rfl⟩) (zk_recv X (g := 20) (Nat.zero_lt_one) rfl rfl) rfl rfl (Nat.le_of_ble_eq_true rfl) dX9_recipeTold_2 (fun r2 z1 h => ?_)
  refine zk_if_ne X (tgt := 11) dX9_recipeTold_5 (by decide) h (fun h => ?_) (fun h => ?_)
  · refine zk_bipush X (v := -5) dX9_recipeTold_8 (by decide) ?_
    exact zk_ireturn X hr dX9_recipeTold_10 h
  · refine zk_iload_n X 2 dX9_recipeTold_11 rfl rfl ?_
    rcases zk_if h with ⟨q3, h⟩ | ⟨q3, h⟩
    · refine zk_tsw_in X (v := 0) dX9_recipeTold_12 q3 (by decide) (by decide) (off := 32) rfl (tgt := 44) (by decide) ?_
      refine zk_aload_n X 0 dX9_recipeTold_44 rfl rfl ?_
      refine zk_get X iX9 (g := 20) (Nat.zero_lt_one) rfl rfl 3 (by decide) w0 rfl dX9_recipeTold_45 ?_
      refine zk_iload_n X 1 dX9_recipeTold_48 rfl rfl ?_
      refine zk_iald X (g := 22) (Nat.zero_lt_one) rfl dX9_recipeTold_49 h (fun h => ?_)
      exact zk_ireturn X hr dX9_recipeTold_50 h
    · rcases zk_if h with ⟨q4, h⟩ | ⟨q4, h⟩
      · refine zk_tsw_in X (v := 1) dX9_recipeTold_12 q4 (by decide) (by decide) (off := 39) rfl (tgt := 51) (by decide) ?_
        refine zk_aload_n X 0 dX9_recipeTold_51 rfl rfl ?_
        refine zk_get X iX9 (g := 20) (Nat.zero_lt_one) rfl rfl 4 (by decide) w1 rfl dX9_recipeTold_52 ?_
        refine zk_iload_n X 1 dX9_recipeTold_55 rfl rfl ?_
        refine zk_iald X (g := 23) (Nat.zero_lt_one) rfl dX9_recipeTold_56 h (fun h => ?_)
        exact zk_ireturn X hr dX9_recipeTold_57 h
      · rcases zk_if h with ⟨q5, h⟩ | ⟨q5, h⟩
        · refine zk_tsw_in X (v := 2) dX9_recipeTold_12 q5 (by decide) (by decide) (off := 46) rfl (tgt := 58) (by decide) ?_
          refine zk_aload_n X 0 dX9_recipeTold_58 rfl rfl ?_
          refine zk_get X iX9 (g := 20) (Nat.zero_lt_one) rfl rfl 5 (by decide) w2 rfl dX9_recipeTold_59 ?_
          refine zk_iload_n X 1 dX9_recipeTold_62 rfl rfl ?_
          refine zk_iald X (g := 24) (Nat.zero_lt_one) rfl dX9_recipeTold_63 h (fun h => ?_)
          exact zk_ireturn X hr dX9_recipeTold_64 h
        · rcases zk_if h with ⟨q6, h⟩ | ⟨q6, h⟩
          · refine zk_tsw_in X (v := 3) dX9_recipeTold_12 q6 (by decide) (by decide) (off := 53) rfl (tgt := 65) (by decide) ?_
            refine zk_aload_n X 0 dX9_recipeTold_65 rfl rfl ?_
            refine zk_get X iX9 (g := 20) (Nat.zero_lt_one) rfl rfl 6 (by decide) w3 rfl dX9_recipeTold_66 ?_
            refine zk_iload_n X 1 dX9_recipeTold_69 rfl rfl ?_
            refine zk_iald X (g := 25) (Nat.zero_lt_one) rfl dX9_recipeTold_70 h (fun h => ?_)
            exact zk_ireturn X hr dX9_recipeTold_71 h
          · refine zk_tsw_out X dX9_recipeTold_12 (by have := lv_neT (a := 0) q3 (by decide); have := lv_neT (a := 1) q4 (by decide); have := lv_neT (a := 2) q5 (by decide); have := lv_neT (a := 3) q6 (by decide); omega) (tgt := 72) (by decide) ?_
            refine zk_iload_n X 2 dX9_recipeTold_72 rfl rfl ?_
            refine zk_iconst X (v := 4) dX9_recipeTold_73 (by decide) ?_
            refine zk_iconst X (v := 4) dX9_recipeTold_74 (by decide) ?_
            refine zk_aload_n X 0 dX9_recipeTold_75 rfl rfl ?_
            refine zk_get X iX9 (g := 20) (Nat.zero_lt_one) rfl rfl 6 (by decide) w3 rfl dX9_recipeTold_76 ?_
            refine zk_iload_n X 1 dX9_recipeTold_79 rfl rfl ?_
            refine zk_iald X (g := 25) (Nat.zero_lt_one) rfl dX9_recipeTold_80 h (fun h => ?_)
            refine zk_iadd X dX9_recipeTold_81 ?_
            refine zk_si X h (fun rr zz hf => ct_X9_in l E hi  x2 4 (4 + (z1.1 25 0 x1.toNatClampNeg)) _ rr zz hf) (va_cwS 3 X.1.2.2.2.2 gX9_recipeTold_X9_in rfl rfl rfl (by decide +kernel) ⟨Nat.le_of_ble_eq_true rfl, Nat.le_of_ble_eq_true rfl⟩) rfl rfl (Nat.le_of_ble_eq_true rfl) dX9_recipeTold_82 (fun r8 z7 h => ?_)
            refine zk_if_eq X (tgt := 117) dX9_recipeTold_85 (by decide) h (fun h => ?_) (fun h => ?_)
            · refine zk_bipush X (v := -7) dX9_recipeTold_117 (by decide) ?_
              exact zk_ireturn X hr dX9_recipeTold_119 h
            · refine zk_aload_n X 0 dX9_recipeTold_88 rfl rfl ?_
              refine zk_get X iX9 (g := 20) (Nat.zero_lt_one) rfl rfl 7 (by decide) w4 rfl dX9_recipeTold_89 ?_
              refine zk_iconst X (v := 4) dX9_recipeTold_92 (by decide) ?_
              refine zk_iload_n X 1 dX9_recipeTold_93 rfl rfl ?_
              refine zk_imul X dX9_recipeTold_94 ?_
              refine zk_iload_n X 2 dX9_recipeTold_95 rfl rfl ?_
              refine zk_iconst X (v := 4) dX9_recipeTold_96 (by decide) ?_
              refine zk_bipush X (v := 7) dX9_recipeTold_97 (by decide) ?_
              refine zk_si X h (fun rr zz hf => ct_X9_in l E hi  x2 4 7 _ rr zz hf) (va_cwS 3 X.1.2.2.2.2 gX9_recipeTold_X9_in rfl rfl rfl (by decide +kernel) ⟨Nat.le_of_ble_eq_true rfl, Nat.le_of_ble_eq_true rfl⟩) rfl rfl (Nat.le_of_ble_eq_true rfl) dX9_recipeTold_99 (fun r10 z9 h => ?_)
              refine zk_if_eq X (tgt := 111) dX9_recipeTold_102 (by decide) h (fun h => ?_) (fun h => ?_)
              · refine zk_iconst X (v := 0) dX9_recipeTold_111 (by decide) ?_
                exact zk_sub [] rfl (B112  _ _ _ h)
              · refine zk_iload_n X 2 dX9_recipeTold_105 rfl rfl ?_
                refine zk_iconst X (v := 4) dX9_recipeTold_106 (by decide) ?_
                refine zk_isub X dX9_recipeTold_107 ?_
                refine zk_goto X (tgt := 112) dX9_recipeTold_108 (by decide) ?_
                exact zk_sub [] rfl (B112  _ _ _ h)
def fX9_sheet_L70 : Nat → Int32 → Int32 → zk_Z → Option (Int32 × zk_Z)
  | 0, _, _, _ => none
  | n + 1, a1, a4, z => if 40 ≤ a4 then some (1, z) else zk_gd (zk_ix ((40 * a1) + a4) 160) ((fX9_sheet_L70 n) a1 (a4 + 1) (zk_sI z 41 0 ((40 * a1) + a4).toNatClampNeg 0))
def fX9_sheet_B66 (a1 : Int32) (s0 : Int32) (s1 : Int32) (z : zk_Z) : Option (Int32 × zk_Z) := zk_gd (zk_ix s1 4) (fX9_sheet_L70 zk_FU a1 0 (zk_sI z 40 0 s1.toNatClampNeg s0))
def fX9_sheet_B44 (a1 : Int32) (a2 : Int32) (a3 : Int32) (z : zk_Z) : Option (Int32 × zk_Z) := zk_gd (zk_ix a1 4) (if a2 = (-1) then fX9_sheet_B66 a1 0 a1 (zk_sI z 39 0 a1.toNatClampNeg a2) else fX9_sheet_B66 a1 a3 a1 (zk_sI z 39 0 a1.toNatClampNeg a2))
def fX9_sheet_B32 (a1 : Int32) (a2 : Int32) (a3 : Int32) (z : zk_Z) : Option (Int32 × zk_Z) := if a2 = (-1) then fX9_sheet_B44 a1 a2 a3 z else if 0 ≤ a3 then fX9_sheet_B44 a1 a2 a3 z else some ((-14), z)
def fX9_sheet (x1 : Int32) (x2 : Int32) (x3 : Int32) (z : zk_Z) : Option (Int32 × zk_Z) := zk_bd (fX9_in x1 0 3 z) (fun r2 z1 => if r2 = 0 then some ((-2), z1) else zk_bd (fX9_in x2 (-1) 2 z1) (fun r4 z3 => if r4 = 0 then some ((-2), z3) else if x2 = (-1) then fX9_sheet_B32 x1 x2 x3 z3 else if x3 ≤ 40 then fX9_sheet_B32 x1 x2 x3 z3 else some ((-2), z3)))
set_option maxRecDepth 100000 in
set_option maxHeartbeats 8000000 in
theorem ct_X9_sheet (l : Launch) (E : zk_E) (hi : zk_inj E) (x1 : Int32) (x2 : Int32) (x3 : Int32) (z : zk_Z) (r : Int32) (z' : zk_Z) (h : fX9_sheet  x1 x2 x3 z = some (r, z')) : Met l yX9_sheet wsX9_sheet { frames := 1, cells := 0, slots := 0, locals := 22 } (va_Pc [.ref (E.2.1 20 0), .int x1, .int x2, .int x3] (zk_W E z)) (zk_Qi E r z') 0 0 (zk_A E) := by
  refine zk_met (cc := cX9_sheet) (maxL := 5) (ret := (some .int)) (own := RX9) (by decide) rfl rfl hi (Nat.le_of_ble_eq_true rfl) ?_
  intro p e s m args below meth c X hr
  have iX9 : ∀ w ∈ u_ws RX9 TX9 32, w ∈ wsX9_sheet := by decide +kernel
  have w0 : Cond.fieldLink RX9 64 "HiddenWorksModel" "sheetSort" "[I" ∈ wsX9_sheet := by decide +kernel
  have w1 : Cond.fieldLink RX9 67 "HiddenWorksModel" "sheetSize" "[I" ∈ wsX9_sheet := by decide +kernel
  have w2 : Cond.fieldLink RX9 70 "HiddenWorksModel" "cells" "[I" ∈ wsX9_sheet := by decide +kernel
  have L70 : ∀ (n : Nat) (a1 : Int32) (a4 : Int32) (z : zk_Z), fX9_sheet_L70 n a1 a4 z = some (r, z') → zk_G p l e (headSpec wsX9_sheet { frames := 1, cells := 0, slots := 0, locals := 22 }).room s m args below meth c E 5 0 0 (MQ below (zk_Qi E r z') args s 0 0 (zk_A E)) 70 [(0, .ref (E.2.1 20 0)), (1, .int a1), (4, .int a4)] [] z := by
    intro n
    induction n with
    | zero => intro a1 a4 z h; exact absurd h (by simp [fX9_sheet_L70])
    | succ n ih =>
      intro a1 a4 z h
      rw [fX9_sheet_L70] at h
      refine zk_iload X 2 dX9_sheet_70 rfl ?_
      refine zk_bipush X (v := 40) dX9_sheet_72 (by decide) ?_
      refine zk_icmp_ge X (tgt := 96) dX9_sheet_74 (by decide) h (fun h => ?_) (fun h => ?_)
      · refine zk_iconst X (v := 1) dX9_sheet_96 (by decide) ?_
        exact zk_ireturn X hr dX9_sheet_97 h
      · refine zk_aload_n X 0 dX9_sheet_77 rfl rfl ?_
        refine zk_get X iX9 (g := 20) (Nat.zero_lt_one) rfl rfl 26 (by decide) w2 rfl dX9_sheet_78 ?_
        refine zk_bipush X (v := 40) dX9_sheet_81 (by decide) ?_
        refine zk_iload_n X 1 dX9_sheet_83 rfl rfl ?_
        refine zk_imul X dX9_sheet_84 ?_
        refine zk_iload X 2 dX9_sheet_85 rfl ?_
        refine zk_iadd X dX9_sheet_87 ?_
        refine zk_iconst X (v := 0) dX9_sheet_88 (by decide) ?_
        refine zk_iast X (g := 41) (Nat.zero_lt_one) rfl rfl dX9_sheet_89 h (fun h => ?_)
        refine zk_iinc X (lv' := [(4, .int (a4 + 1)), (0, .ref (E.2.1 20 0)), (1, .int a1)]) 2 dX9_sheet_90 rfl rfl (by decide) rfl ?_
        refine zk_goto X (tgt := 70) dX9_sheet_93 (by decide) ?_
        exact zk_sub [1, 2, 0] rfl (ih _ _ _ h)
  have B66 : ∀ (a1 : Int32) (s0 : Int32) (s1 : Int32) (z : zk_Z), fX9_sheet_B66 a1 s0 s1 z = some (r, z') → zk_G p l e (headSpec wsX9_sheet { frames := 1, cells := 0, slots := 0, locals := 22 }).room s m args below meth c E 5 0 0 (MQ below (zk_Qi E r z') args s 0 0 (zk_A E)) 66 [(0, .ref (E.2.1 20 0)), (1, .int a1)] [.int s0, .int s1, .ref (E.2.1 40 0)] z := by
    intro a1 s0 s1 z h
    unfold fX9_sheet_B66 at h
    refine zk_iast X (g := 40) (Nat.zero_lt_one) rfl rfl dX9_sheet_66 h (fun h => ?_)
    refine zk_iconst X (v := 0) dX9_sheet_67 (by decide) ?_
    refine zk_istore X (lv' := [(4, .int 0), (0, .ref (E.2.1 20 0)), (1, .int a1)]) dX9_sheet_68 (by decide) rfl ?_
    exact zk_sub [1, 2, 0] rfl (L70 _ _ _ _ h)
  have B44 : ∀ (a1 : Int32) (a2 : Int32) (a3 : Int32) (z : zk_Z), fX9_sheet_B44 a1 a2 a3 z = some (r, z') → zk_G p l e (headSpec wsX9_sheet { frames := 1, cells := 0, slots := 0, locals := 22 }).room s m args below meth c E 5 0 0 (MQ below (zk_Qi E r z') args s 0 0 (zk_A E)) 44 [(0, .ref (E.2.1 20 0)), (1, .int a1), (2, .int a2), (3, .int a3)] [] z := by
    intro a1 a2 a3 z h
    unfold fX9_sheet_B44 at h
    refine zk_aload_n X 0 dX9_sheet_44 rfl rfl ?_
    refine zk_get X iX9 (g := 20) (Nat.zero_lt_one) rfl rfl 24 (by decide) w0 rfl dX9_sheet_45 ?_
    refine zk_iload_n X 1 dX9_sheet_48 rfl rfl ?_
    refine zk_iload_n X 2 dX9_sheet_49 rfl rfl ?_
    refine zk_iast X (g := 39) (Nat.zero_lt_one) rfl rfl dX9_sheet_50 h (fun h => ?_)
    refine zk_aload_n X 0 dX9_sheet_51 rfl rfl ?_
    refine zk_get X iX9 (g := 20) (Nat.zero_lt_one) rfl rfl 25 (by decide) w1 rfl dX9_sheet_52 ?_
    refine zk_iload_n X 1 dX9_sheet_55 rfl rfl ?_
    refine zk_iload_n X 2 dX9_sheet_56 rfl rfl ?_
    refine zk_iconst X (v := -1) dX9_sheet_57 (by decide) ?_
    refine zk_icmp_ne X (tgt := 65) dX9_sheet_58 (by decide) h (fun h => ?_) (fun h => ?_)
    · refine zk_iconst X (v := 0) dX9_sheet_61 (by decide) ?_
      refine zk_goto X (tgt := 66) dX9_sheet_62 (by decide) ?_
      exact zk_sub [0, 1] rfl (B66 _ _ _ _ h)
    · refine zk_iload_n X 3 dX9_sheet_65 rfl rfl ?_
      exact zk_sub [0, 1] rfl (B66 _ _ _ _ h)
  have B32 : ∀ (a1 : Int32) (a2 : Int32) (a3 : Int32) (z : zk_Z), fX9_sheet_B32 a1 a2 a3 z = some (r, z') → zk_G p l e (headSpec wsX9_sheet { frames := 1, cells := 0, slots := 0, locals := 22 }).room s m args below meth c E 5 0 0 (MQ below (zk_Qi E r z') args s 0 0 (zk_A E)) 32 [(0, .ref (E.2.1 20 0)), (1, .int a1), (2, .int a2), (3, .int a3)] [] z := by
    intro a1 a2 a3 z h
    unfold fX9_sheet_B32 at h
    refine zk_iload_n X 2 dX9_sheet_32 rfl rfl ?_
    refine zk_iconst X (v := -1) dX9_sheet_33 (by decide) ?_
    refine zk_icmp_eq X (tgt := 44) dX9_sheet_34 (by decide) h (fun h => ?_) (fun h => ?_)
    · exact zk_sub [0, 1, 2, 3] rfl (B44 _ _ _ _ h)
    · refine zk_iload_n X 3 dX9_sheet_37 rfl rfl ?_
      refine zk_if_ge X (tgt := 44) dX9_sheet_38 (by decide) h (fun h => ?_) (fun h => ?_)
      · exact zk_sub [0, 1, 2, 3] rfl (B44 _ _ _ _ h)
      · refine zk_bipush X (v := -14) dX9_sheet_41 (by decide) ?_
        exact zk_ireturn X hr dX9_sheet_43 h
  unfold fX9_sheet at h
  refine zk_iload_n X 1 dX9_sheet_0 rfl rfl ?_
  refine zk_iconst X (v := 0) dX9_sheet_1 (by decide) ?_
  refine zk_iconst X (v := 3) dX9_sheet_2 (by decide) ?_
  refine zk_si X h (fun rr zz hf => ct_X9_in l E hi  x1 0 3 _ rr zz hf) (va_cwS 3 X.1.2.2.2.2 gX9_sheet_X9_in rfl rfl rfl (by decide +kernel) ⟨Nat.le_of_ble_eq_true rfl, Nat.le_of_ble_eq_true rfl⟩) rfl rfl (Nat.le_of_ble_eq_true rfl) dX9_sheet_3 (fun r2 z1 h => ?_)
  refine zk_if_eq X (tgt := 29) dX9_sheet_6 (by decide) h (fun h => ?_) (fun h => ?_)
  · refine zk_bipush X (v := -2) dX9_sheet_29 (by decide) ?_
    exact zk_ireturn X hr dX9_sheet_31 h
  · refine zk_iload_n X 2 dX9_sheet_9 rfl rfl ?_
    refine zk_iconst X (v := -1) dX9_sheet_10 (by decide) ?_
    refine zk_iconst X (v := 2) dX9_sheet_11 (by decide) ?_
    refine zk_si X h (fun rr zz hf => ct_X9_in l E hi  x2 (-1) 2 _ rr zz hf) (va_cwS 3 X.1.2.2.2.2 gX9_sheet_X9_in rfl rfl rfl (by decide +kernel) ⟨Nat.le_of_ble_eq_true rfl, Nat.le_of_ble_eq_true rfl⟩) rfl rfl (Nat.le_of_ble_eq_true rfl) dX9_sheet_12 (fun r4 z3 h => ?_)
    refine zk_if_eq X (tgt := 29) dX9_sheet_15 (by decide) h (fun h => ?_) (fun h => ?_)
    · refine zk_bipush X (v := -2) dX9_sheet_29 (by decide) ?_
      exact zk_ireturn X hr dX9_sheet_31 h
    · refine zk_iload_n X 2 dX9_sheet_18 rfl rfl ?_
      refine zk_iconst X (v := -1) dX9_sheet_19 (by decide) ?_
      refine zk_icmp_eq X (tgt := 32) dX9_sheet_20 (by decide) h (fun h => ?_) (fun h => ?_)
      · exact zk_sub [0, 1, 2, 3] rfl (B32  _ _ _ _ h)
      · refine zk_iload_n X 3 dX9_sheet_23 rfl rfl ?_
        refine zk_bipush X (v := 40) dX9_sheet_24 (by decide) ?_
        refine zk_icmp_le X (tgt := 32) dX9_sheet_26 (by decide) h (fun h => ?_) (fun h => ?_)
        · exact zk_sub [0, 1, 2, 3] rfl (B32  _ _ _ _ h)
        · refine zk_bipush X (v := -2) dX9_sheet_29 (by decide) ?_
          exact zk_ireturn X hr dX9_sheet_31 h
def fX9_solves (x1 : Int32) (x2 : Int32) (z : zk_Z) : Option (Int32 × zk_Z) := zk_bd (fX9_isTask x1 z) (fun r2 z1 => if r2 = 0 then some ((-5), z1) else zk_bd (fX9_isRow x1 x2 z1) (fun r4 z3 => if r4 = 0 then some ((-2), z3) else zk_bd (fX9_firstBroken x1 x2 z3) (fun r6 z5 => some (r6, z5))))
set_option maxRecDepth 100000 in
set_option maxHeartbeats 8000000 in
theorem ct_X9_solves (l : Launch) (E : zk_E) (hi : zk_inj E) (x1 : Int32) (x2 : Int32) (z : zk_Z) (r : Int32) (z' : zk_Z) (h : fX9_solves  x1 x2 z = some (r, z')) : Met l yX9_solves wsX9_solves { frames := 3, cells := 0, slots := 0, locals := 67 } (va_Pc [.ref (E.2.1 20 0), .int x1, .int x2] (zk_W E z)) (zk_Qi E r z') 0 0 (zk_A E) := by
  refine zk_met (cc := cX9_solves) (maxL := 3) (ret := (some .int)) (own := RX9) (by decide) rfl rfl hi (Nat.le_of_ble_eq_true rfl) ?_
  intro p e s m args below meth c X hr
  unfold fX9_solves at h
  refine zk_aload_n X 0 dX9_solves_0 rfl rfl ?_
  refine zk_iload_n X 1 dX9_solves_1 rfl rfl ?_
  refine zk_vi X h (fun rr zz hf => ct_X9_isTask l E hi  x1 _ rr zz hf) (cwV 1 X.1.2.2.2.2 gX9_solves_X9_isTask rfl rfl rfl (by decide +kernel) ⟨Nat.le_of_ble_eq_true rfl, Nat.le_of_ble_eq_true rfl⟩) (zk_recv X (g := 20) (Nat.zero_lt_one) rfl rfl) rfl rfl (Nat.le_of_ble_eq_true rfl) dX9_solves_2 (fun r2 z1 h => ?_)
  refine zk_if_ne X (tgt := 13) dX9_solves_5 (by decide) h (fun h => ?_) (fun h => ?_)
  · refine zk_bipush X (v := -5) dX9_solves_8 (by decide) ?_
    refine zk_goto X (tgt := 33) dX9_solves_10 (by decide) ?_
    exact zk_ireturn X hr dX9_solves_33 h
  · refine zk_aload_n X 0 dX9_solves_13 rfl rfl ?_
    refine zk_iload_n X 1 dX9_solves_14 rfl rfl ?_
    refine zk_iload_n X 2 dX9_solves_15 rfl rfl ?_
    refine zk_vi X h (fun rr zz hf => ct_X9_isRow l E hi  x1 x2 _ rr zz hf) (cwV 2 X.1.2.2.2.2 gX9_solves_X9_isRow rfl rfl rfl (by decide +kernel) ⟨Nat.le_of_ble_eq_true rfl, Nat.le_of_ble_eq_true rfl⟩) (zk_recv X (g := 20) (Nat.zero_lt_one) rfl rfl) rfl rfl (Nat.le_of_ble_eq_true rfl) dX9_solves_16 (fun r4 z3 h => ?_)
    refine zk_if_eq X (tgt := 31) dX9_solves_19 (by decide) h (fun h => ?_) (fun h => ?_)
    · refine zk_bipush X (v := -2) dX9_solves_31 (by decide) ?_
      exact zk_ireturn X hr dX9_solves_33 h
    · refine zk_aload_n X 0 dX9_solves_22 rfl rfl ?_
      refine zk_iload_n X 1 dX9_solves_23 rfl rfl ?_
      refine zk_iload_n X 2 dX9_solves_24 rfl rfl ?_
      refine zk_vi X h (fun rr zz hf => ct_X9_firstBroken l E hi  x1 x2 _ rr zz hf) (cwV 2 X.1.2.2.2.2 gX9_solves_X9_firstBroken rfl rfl rfl (by decide +kernel) ⟨Nat.le_of_ble_eq_true rfl, Nat.le_of_ble_eq_true rfl⟩) (zk_recv X (g := 20) (Nat.zero_lt_one) rfl rfl) rfl rfl (Nat.le_of_ble_eq_true rfl) dX9_solves_25 (fun r6 z5 h => ?_)
      refine zk_goto X (tgt := 33) dX9_solves_28 (by decide) ?_
      exact zk_ireturn X hr dX9_solves_33 h
def fX9_taken (x1 : Int32) (x2 : Int32) (x3 : Int32) (z : zk_Z) : Option (Int32 × zk_Z) := zk_bd (fX9_in x1 0 2 z) (fun r2 z1 => if r2 = 0 then some ((-2), z1) else zk_bd (fX9_in x3 0 7 z1) (fun r4 z3 => if r4 = 0 then some ((-2), z3) else zk_bd (fX9_count x1 z3) (fun r6 z5 => zk_bd (fX9_in x2 0 (r6 - 1) z5) (fun r8 z7 => if r8 = 0 then some ((-11), z7) else if x1 = 0 then if 6 ≤ x3 then some ((-13), z7) else zk_gd (zk_ix x2 9) (zk_bd (fX9_isUnder (z7.1 27 0 x2.toNatClampNeg) x3 z7) (fun r10 z9 => if r10 = 0 then some ((-13), z9) else zk_gd (zk_ix x2 9) (some (z9.1 27 0 x2.toNatClampNeg, z9)))) else if x1 = 1 then if x3 = 6 then zk_gd (zk_ix x2 6) (some (z7.1 25 0 x2.toNatClampNeg, z7)) else some ((-13), z7) else if x3 = 7 then zk_gd (zk_ix x2 20) (some (z7.1 36 0 x2.toNatClampNeg, z7)) else some ((-13), z7)))))
set_option maxRecDepth 100000 in
set_option maxHeartbeats 8000000 in
theorem ct_X9_taken (l : Launch) (E : zk_E) (hi : zk_inj E) (x1 : Int32) (x2 : Int32) (x3 : Int32) (z : zk_Z) (r : Int32) (z' : zk_Z) (h : fX9_taken  x1 x2 x3 z = some (r, z')) : Met l yX9_taken wsX9_taken { frames := 1, cells := 0, slots := 0, locals := 22 } (va_Pc [.ref (E.2.1 20 0), .int x1, .int x2, .int x3] (zk_W E z)) (zk_Qi E r z') 0 0 (zk_A E) := by
  refine zk_met (cc := cX9_taken) (maxL := 4) (ret := (some .int)) (own := RX9) (by decide) rfl rfl hi (Nat.le_of_ble_eq_true rfl) ?_
  intro p e s m args below meth c X hr
  have iX9 : ∀ w ∈ u_ws RX9 TX9 32, w ∈ wsX9_taken := by decide +kernel
  have w0 : Cond.fieldLink RX9 28 "HiddenWorksModel" "kind" "[I" ∈ wsX9_taken := by decide +kernel
  have w1 : Cond.fieldLink RX9 22 "HiddenWorksModel" "rWide" "[I" ∈ wsX9_taken := by decide +kernel
  have w2 : Cond.fieldLink RX9 55 "HiddenWorksModel" "claimSteps" "[I" ∈ wsX9_taken := by decide +kernel
  unfold fX9_taken at h
  refine zk_iload_n X 1 dX9_taken_0 rfl rfl ?_
  refine zk_iconst X (v := 0) dX9_taken_1 (by decide) ?_
  refine zk_iconst X (v := 2) dX9_taken_2 (by decide) ?_
  refine zk_si X h (fun rr zz hf => ct_X9_in l E hi  x1 0 2 _ rr zz hf) (va_cwS 3 X.1.2.2.2.2 gX9_taken_X9_in rfl rfl rfl (by decide +kernel) ⟨Nat.le_of_ble_eq_true rfl, Nat.le_of_ble_eq_true rfl⟩) rfl rfl (Nat.le_of_ble_eq_true rfl) dX9_taken_3 (fun r2 z1 h => ?_)
  refine zk_if_eq X (tgt := 19) dX9_taken_6 (by decide) h (fun h => ?_) (fun h => ?_)
  · refine zk_bipush X (v := -2) dX9_taken_19 (by decide) ?_
    exact zk_ireturn X hr dX9_taken_21 h
  · refine zk_iload_n X 3 dX9_taken_9 rfl rfl ?_
    refine zk_iconst X (v := 0) dX9_taken_10 (by decide) ?_
    refine zk_bipush X (v := 7) dX9_taken_11 (by decide) ?_
    refine zk_si X h (fun rr zz hf => ct_X9_in l E hi  x3 0 7 _ rr zz hf) (va_cwS 3 X.1.2.2.2.2 gX9_taken_X9_in rfl rfl rfl (by decide +kernel) ⟨Nat.le_of_ble_eq_true rfl, Nat.le_of_ble_eq_true rfl⟩) rfl rfl (Nat.le_of_ble_eq_true rfl) dX9_taken_13 (fun r4 z3 h => ?_)
    refine zk_if_ne X (tgt := 22) dX9_taken_16 (by decide) h (fun h => ?_) (fun h => ?_)
    · refine zk_bipush X (v := -2) dX9_taken_19 (by decide) ?_
      exact zk_ireturn X hr dX9_taken_21 h
    · refine zk_iload_n X 2 dX9_taken_22 rfl rfl ?_
      refine zk_iconst X (v := 0) dX9_taken_23 (by decide) ?_
      refine zk_aload_n X 0 dX9_taken_24 rfl rfl ?_
      refine zk_iload_n X 1 dX9_taken_25 rfl rfl ?_
      refine zk_vi X h (fun rr zz hf => ct_X9_count l E hi  x1 _ rr zz hf) (cwV 1 X.1.2.2.2.2 gX9_taken_X9_count rfl rfl rfl (by decide +kernel) ⟨Nat.le_of_ble_eq_true rfl, Nat.le_of_ble_eq_true rfl⟩) (zk_recv X (g := 20) (Nat.zero_lt_one) rfl rfl) rfl rfl (Nat.le_of_ble_eq_true rfl) dX9_taken_26 (fun r6 z5 h => ?_)
      refine zk_iconst X (v := 1) dX9_taken_29 (by decide) ?_
      refine zk_isub X dX9_taken_30 ?_
      refine zk_si X h (fun rr zz hf => ct_X9_in l E hi  x2 0 (r6 - 1) _ rr zz hf) (va_cwS 3 X.1.2.2.2.2 gX9_taken_X9_in rfl rfl rfl (by decide +kernel) ⟨Nat.le_of_ble_eq_true rfl, Nat.le_of_ble_eq_true rfl⟩) rfl rfl (Nat.le_of_ble_eq_true rfl) dX9_taken_31 (fun r8 z7 h => ?_)
      refine zk_if_ne X (tgt := 40) dX9_taken_34 (by decide) h (fun h => ?_) (fun h => ?_)
      · refine zk_bipush X (v := -11) dX9_taken_37 (by decide) ?_
        exact zk_ireturn X hr dX9_taken_39 h
      · refine zk_iload_n X 1 dX9_taken_40 rfl rfl ?_
        refine zk_if_ne X (tgt := 75) dX9_taken_41 (by decide) h (fun h => ?_) (fun h => ?_)
        · refine zk_iload_n X 3 dX9_taken_44 rfl rfl ?_
          refine zk_bipush X (v := 6) dX9_taken_45 (by decide) ?_
          refine zk_icmp_ge X (tgt := 72) dX9_taken_47 (by decide) h (fun h => ?_) (fun h => ?_)
          · refine zk_bipush X (v := -13) dX9_taken_72 (by decide) ?_
            exact zk_ireturn X hr dX9_taken_74 h
          · refine zk_aload_n X 0 dX9_taken_50 rfl rfl ?_
            refine zk_get X iX9 (g := 20) (Nat.zero_lt_one) rfl rfl 9 (by decide) w0 rfl dX9_taken_51 ?_
            refine zk_iload_n X 2 dX9_taken_54 rfl rfl ?_
            refine zk_iald X (g := 27) (Nat.zero_lt_one) rfl dX9_taken_55 h (fun h => ?_)
            refine zk_iload_n X 3 dX9_taken_56 rfl rfl ?_
            refine zk_si X h (fun rr zz hf => ct_X9_isUnder l E hi  (z7.1 27 0 x2.toNatClampNeg) x3 _ rr zz hf) (va_cwS 2 X.1.2.2.2.2 gX9_taken_X9_isUnder rfl rfl rfl (by decide +kernel) ⟨Nat.le_of_ble_eq_true rfl, Nat.le_of_ble_eq_true rfl⟩) rfl rfl (Nat.le_of_ble_eq_true rfl) dX9_taken_57 (fun r10 z9 h => ?_)
            refine zk_if_eq X (tgt := 72) dX9_taken_60 (by decide) h (fun h => ?_) (fun h => ?_)
            · refine zk_bipush X (v := -13) dX9_taken_72 (by decide) ?_
              exact zk_ireturn X hr dX9_taken_74 h
            · refine zk_aload_n X 0 dX9_taken_63 rfl rfl ?_
              refine zk_get X iX9 (g := 20) (Nat.zero_lt_one) rfl rfl 9 (by decide) w0 rfl dX9_taken_64 ?_
              refine zk_iload_n X 2 dX9_taken_67 rfl rfl ?_
              refine zk_iald X (g := 27) (Nat.zero_lt_one) rfl dX9_taken_68 h (fun h => ?_)
              refine zk_goto X (tgt := 74) dX9_taken_69 (by decide) ?_
              exact zk_ireturn X hr dX9_taken_74 h
        · refine zk_iload_n X 1 dX9_taken_75 rfl rfl ?_
          refine zk_iconst X (v := 1) dX9_taken_76 (by decide) ?_
          refine zk_icmp_ne X (tgt := 100) dX9_taken_77 (by decide) h (fun h => ?_) (fun h => ?_)
          · refine zk_iload_n X 3 dX9_taken_80 rfl rfl ?_
            refine zk_bipush X (v := 6) dX9_taken_81 (by decide) ?_
            refine zk_icmp_ne X (tgt := 95) dX9_taken_83 (by decide) h (fun h => ?_) (fun h => ?_)
            · refine zk_aload_n X 0 dX9_taken_86 rfl rfl ?_
              refine zk_get X iX9 (g := 20) (Nat.zero_lt_one) rfl rfl 6 (by decide) w1 rfl dX9_taken_87 ?_
              refine zk_iload_n X 2 dX9_taken_90 rfl rfl ?_
              refine zk_iald X (g := 25) (Nat.zero_lt_one) rfl dX9_taken_91 h (fun h => ?_)
              refine zk_goto X (tgt := 117) dX9_taken_92 (by decide) ?_
              exact zk_ireturn X hr dX9_taken_117 h
            · refine zk_bipush X (v := -13) dX9_taken_95 (by decide) ?_
              refine zk_goto X (tgt := 117) dX9_taken_97 (by decide) ?_
              exact zk_ireturn X hr dX9_taken_117 h
          · refine zk_iload_n X 3 dX9_taken_100 rfl rfl ?_
            refine zk_bipush X (v := 7) dX9_taken_101 (by decide) ?_
            refine zk_icmp_ne X (tgt := 115) dX9_taken_103 (by decide) h (fun h => ?_) (fun h => ?_)
            · refine zk_aload_n X 0 dX9_taken_106 rfl rfl ?_
              refine zk_get X iX9 (g := 20) (Nat.zero_lt_one) rfl rfl 19 (by decide) w2 rfl dX9_taken_107 ?_
              refine zk_iload_n X 2 dX9_taken_110 rfl rfl ?_
              refine zk_iald X (g := 36) (Nat.zero_lt_one) rfl dX9_taken_111 h (fun h => ?_)
              refine zk_goto X (tgt := 117) dX9_taken_112 (by decide) ?_
              exact zk_ireturn X hr dX9_taken_117 h
            · refine zk_bipush X (v := -13) dX9_taken_115 (by decide) ?_
              exact zk_ireturn X hr dX9_taken_117 h
def fX9_taskTold (x1 : Int32) (x2 : Int32) (z : zk_Z) : Option (Int32 × zk_Z) := zk_bd (fX9_isTask x1 z) (fun r2 z1 => if r2 = 0 then some ((-5), z1) else if x2 = 0 then zk_gd (zk_ix x1 9) (some (z1.1 27 0 x1.toNatClampNeg, z1)) else if x2 = 1 then zk_gd (zk_ix x1 9) (some (z1.1 28 0 x1.toNatClampNeg, z1)) else if x2 = 2 then zk_gd (zk_ix x1 9) (some (z1.1 29 0 x1.toNatClampNeg, z1)) else if x2 = 3 then zk_gd (zk_ix x1 9) (some (z1.1 30 0 x1.toNatClampNeg, z1)) else if x2 = 4 then zk_gd (zk_ix x1 9) (some (z1.1 31 0 x1.toNatClampNeg, z1)) else if x2 = 5 then zk_gd (zk_ix x1 9) (some (z1.1 32 0 x1.toNatClampNeg, z1)) else some ((-7), z1))
set_option maxRecDepth 100000 in
set_option maxHeartbeats 8000000 in
theorem ct_X9_taskTold (l : Launch) (E : zk_E) (hi : zk_inj E) (x1 : Int32) (x2 : Int32) (z : zk_Z) (r : Int32) (z' : zk_Z) (h : fX9_taskTold  x1 x2 z = some (r, z')) : Met l yX9_taskTold wsX9_taskTold { frames := 2, cells := 0, slots := 0, locals := 43 } (va_Pc [.ref (E.2.1 20 0), .int x1, .int x2] (zk_W E z)) (zk_Qi E r z') 0 0 (zk_A E) := by
  refine zk_met (cc := cX9_taskTold) (maxL := 3) (ret := (some .int)) (own := RX9) (by decide) rfl rfl hi (Nat.le_of_ble_eq_true rfl) ?_
  intro p e s m args below meth c X hr
  have iX9 : ∀ w ∈ u_ws RX9 TX9 32, w ∈ wsX9_taskTold := by decide +kernel
  have w0 : Cond.fieldLink RX9 28 "HiddenWorksModel" "kind" "[I" ∈ wsX9_taskTold := by decide +kernel
  have w1 : Cond.fieldLink RX9 31 "HiddenWorksModel" "letters" "[I" ∈ wsX9_taskTold := by decide +kernel
  have w2 : Cond.fieldLink RX9 34 "HiddenWorksModel" "clauses" "[I" ∈ wsX9_taskTold := by decide +kernel
  have w3 : Cond.fieldLink RX9 37 "HiddenWorksModel" "hidden" "[I" ∈ wsX9_taskTold := by decide +kernel
  have w4 : Cond.fieldLink RX9 40 "HiddenWorksModel" "recipeOf" "[I" ∈ wsX9_taskTold := by decide +kernel
  have w5 : Cond.fieldLink RX9 43 "HiddenWorksModel" "seedOf" "[I" ∈ wsX9_taskTold := by decide +kernel
  unfold fX9_taskTold at h
  refine zk_aload_n X 0 dX9_taskTold_0 rfl rfl ?_
  refine zk_iload_n X 1 dX9_taskTold_1 rfl rfl ?_
  refine zk_vi X h (fun rr zz hf => ct_X9_isTask l E hi  x1 _ rr zz hf) (cwV 1 X.1.2.2.2.2 gX9_taskTold_X9_isTask rfl rfl rfl (by decide +kernel) ⟨Nat.le_of_ble_eq_true rfl, Nat.le_of_ble_eq_true rfl⟩) (zk_recv X (g := 20) (Nat.zero_lt_one) rfl rfl) rfl rfl (Nat.le_of_ble_eq_true rfl) dX9_taskTold_2 (fun r2 z1 h => ?_)
  refine zk_if_ne X (tgt := 11) dX9_taskTold_5 (by decide) h (fun h => ?_) (fun h => ?_)
  · refine zk_bipush X (v := -5) dX9_taskTold_8 (by decide) ?_
    exact zk_ireturn X hr dX9_taskTold_10 h
  · refine zk_iload_n X 2 dX9_taskTold_11 rfl rfl ?_
    rcases zk_if h with ⟨q3, h⟩ | ⟨q3, h⟩
    · refine zk_tsw_in X (v := 0) dX9_taskTold_12 q3 (by decide) (by decide) (off := 40) rfl (tgt := 52) (by decide) ?_
      refine zk_aload_n X 0 dX9_taskTold_52 rfl rfl ?_
      refine zk_get X iX9 (g := 20) (Nat.zero_lt_one) rfl rfl 9 (by decide) w0 rfl dX9_taskTold_53 ?_
      refine zk_iload_n X 1 dX9_taskTold_56 rfl rfl ?_
      refine zk_iald X (g := 27) (Nat.zero_lt_one) rfl dX9_taskTold_57 h (fun h => ?_)
      exact zk_ireturn X hr dX9_taskTold_58 h
    · rcases zk_if h with ⟨q4, h⟩ | ⟨q4, h⟩
      · refine zk_tsw_in X (v := 1) dX9_taskTold_12 q4 (by decide) (by decide) (off := 47) rfl (tgt := 59) (by decide) ?_
        refine zk_aload_n X 0 dX9_taskTold_59 rfl rfl ?_
        refine zk_get X iX9 (g := 20) (Nat.zero_lt_one) rfl rfl 10 (by decide) w1 rfl dX9_taskTold_60 ?_
        refine zk_iload_n X 1 dX9_taskTold_63 rfl rfl ?_
        refine zk_iald X (g := 28) (Nat.zero_lt_one) rfl dX9_taskTold_64 h (fun h => ?_)
        exact zk_ireturn X hr dX9_taskTold_65 h
      · rcases zk_if h with ⟨q5, h⟩ | ⟨q5, h⟩
        · refine zk_tsw_in X (v := 2) dX9_taskTold_12 q5 (by decide) (by decide) (off := 54) rfl (tgt := 66) (by decide) ?_
          refine zk_aload_n X 0 dX9_taskTold_66 rfl rfl ?_
          refine zk_get X iX9 (g := 20) (Nat.zero_lt_one) rfl rfl 11 (by decide) w2 rfl dX9_taskTold_67 ?_
          refine zk_iload_n X 1 dX9_taskTold_70 rfl rfl ?_
          refine zk_iald X (g := 29) (Nat.zero_lt_one) rfl dX9_taskTold_71 h (fun h => ?_)
          exact zk_ireturn X hr dX9_taskTold_72 h
        · rcases zk_if h with ⟨q6, h⟩ | ⟨q6, h⟩
          · refine zk_tsw_in X (v := 3) dX9_taskTold_12 q6 (by decide) (by decide) (off := 61) rfl (tgt := 73) (by decide) ?_
            refine zk_aload_n X 0 dX9_taskTold_73 rfl rfl ?_
            refine zk_get X iX9 (g := 20) (Nat.zero_lt_one) rfl rfl 12 (by decide) w3 rfl dX9_taskTold_74 ?_
            refine zk_iload_n X 1 dX9_taskTold_77 rfl rfl ?_
            refine zk_iald X (g := 30) (Nat.zero_lt_one) rfl dX9_taskTold_78 h (fun h => ?_)
            exact zk_ireturn X hr dX9_taskTold_79 h
          · rcases zk_if h with ⟨q7, h⟩ | ⟨q7, h⟩
            · refine zk_tsw_in X (v := 4) dX9_taskTold_12 q7 (by decide) (by decide) (off := 68) rfl (tgt := 80) (by decide) ?_
              refine zk_aload_n X 0 dX9_taskTold_80 rfl rfl ?_
              refine zk_get X iX9 (g := 20) (Nat.zero_lt_one) rfl rfl 13 (by decide) w4 rfl dX9_taskTold_81 ?_
              refine zk_iload_n X 1 dX9_taskTold_84 rfl rfl ?_
              refine zk_iald X (g := 31) (Nat.zero_lt_one) rfl dX9_taskTold_85 h (fun h => ?_)
              exact zk_ireturn X hr dX9_taskTold_86 h
            · rcases zk_if h with ⟨q8, h⟩ | ⟨q8, h⟩
              · refine zk_tsw_in X (v := 5) dX9_taskTold_12 q8 (by decide) (by decide) (off := 75) rfl (tgt := 87) (by decide) ?_
                refine zk_aload_n X 0 dX9_taskTold_87 rfl rfl ?_
                refine zk_get X iX9 (g := 20) (Nat.zero_lt_one) rfl rfl 14 (by decide) w5 rfl dX9_taskTold_88 ?_
                refine zk_iload_n X 1 dX9_taskTold_91 rfl rfl ?_
                refine zk_iald X (g := 32) (Nat.zero_lt_one) rfl dX9_taskTold_92 h (fun h => ?_)
                exact zk_ireturn X hr dX9_taskTold_93 h
              · refine zk_tsw_out X dX9_taskTold_12 (by have := lv_neT (a := 0) q3 (by decide); have := lv_neT (a := 1) q4 (by decide); have := lv_neT (a := 2) q5 (by decide); have := lv_neT (a := 3) q6 (by decide); have := lv_neT (a := 4) q7 (by decide); have := lv_neT (a := 5) q8 (by decide); omega) (tgt := 94) (by decide) ?_
                refine zk_bipush X (v := -7) dX9_taskTold_94 (by decide) ?_
                exact zk_ireturn X hr dX9_taskTold_96 h
def fX9_tries_B110 (a1 : Int32) (z : zk_Z) : Option (Int32 × zk_Z) := zk_gd (zk_ix a1 20) (some (z.1 37 0 a1.toNatClampNeg, z))
def fX9_tries_B82 (a1 : Int32) (a2 : Int32) (s0 : Int32) (z : zk_Z) : Option (Int32 × zk_Z) := zk_gd (zk_ix a1 20) (if s0 ≤ (z.1 37 0 a1.toNatClampNeg) then fX9_tries_B110 a1 z else zk_gd (zk_ix a1 20) (zk_gd (zk_ix a1 20) (fX9_tries_B110 a1 (zk_sI (zk_sI z 37 0 a1.toNatClampNeg s0) 38 0 a1.toNatClampNeg a2))))
def fX9_tries (x1 : Int32) (x2 : Int32) (z : zk_Z) : Option (Int32 × zk_Z) := zk_bd (fX9_isClaim x1 z) (fun r2 z1 => if r2 = 0 then some ((-1), z1) else zk_bd (fX9_in x2 0 3 z1) (fun r4 z3 => if r4 = 0 then some ((-2), z3) else zk_gd (zk_ix x1 20) (if (z3.1 37 0 x1.toNatClampNeg) = 2 then some ((-3), z3) else zk_gd (zk_ix x1 20) (zk_gd (zk_ix x1 20) (zk_bd (fX9_finds (z3.1 35 0 x1.toNatClampNeg) x2 (2 * (z3.1 36 0 x1.toNatClampNeg)) z3) (fun r6 z5 => if r6 = (-1) then fX9_tries_B82 x1 x2 0 z5 else zk_gd (zk_ix x1 20) (if (z5.1 36 0 x1.toNatClampNeg) ≤ (z5.1 20 0 30) then fX9_tries_B82 x1 x2 1 z5 else fX9_tries_B82 x1 x2 2 z5)))))))
set_option maxRecDepth 100000 in
set_option maxHeartbeats 8000000 in
theorem ct_X9_tries (l : Launch) (E : zk_E) (hi : zk_inj E) (x1 : Int32) (x2 : Int32) (z : zk_Z) (r : Int32) (z' : zk_Z) (h : fX9_tries  x1 x2 z = some (r, z')) : Met l yX9_tries wsX9_tries { frames := 6, cells := 0, slots := 0, locals := 140 } (va_Pc [.ref (E.2.1 20 0), .int x1, .int x2] (zk_W E z)) (zk_Qi E r z') 0 0 (zk_A E) := by
  refine zk_met (cc := cX9_tries) (maxL := 5) (ret := (some .int)) (own := RX9) (by decide) rfl rfl hi (Nat.le_of_ble_eq_true rfl) ?_
  intro p e s m args below meth c X hr
  have iX9 : ∀ w ∈ u_ws RX9 TX9 32, w ∈ wsX9_tries := by decide +kernel
  have w0 : Cond.fieldLink RX9 58 "HiddenWorksModel" "claimState" "[I" ∈ wsX9_tries := by decide +kernel
  have w1 : Cond.fieldLink RX9 52 "HiddenWorksModel" "claimTask" "[I" ∈ wsX9_tries := by decide +kernel
  have w2 : Cond.fieldLink RX9 55 "HiddenWorksModel" "claimSteps" "[I" ∈ wsX9_tries := by decide +kernel
  have w3 : Cond.fieldLink RX9 61 "HiddenWorksModel" "claimBy" "[I" ∈ wsX9_tries := by decide +kernel
  have w4 : Cond.fieldLink RX9 196 "HiddenWorksModel" "steps" "I" ∈ wsX9_tries := by decide +kernel
  have B110 : ∀ (a1 : Int32) (z : zk_Z), fX9_tries_B110 a1 z = some (r, z') → zk_G p l e (headSpec wsX9_tries { frames := 6, cells := 0, slots := 0, locals := 140 }).room s m args below meth c E 5 0 0 (MQ below (zk_Qi E r z') args s 0 0 (zk_A E)) 110 [(0, .ref (E.2.1 20 0)), (1, .int a1)] [] z := by
    intro a1 z h
    unfold fX9_tries_B110 at h
    refine zk_aload_n X 0 dX9_tries_110 rfl rfl ?_
    refine zk_get X iX9 (g := 20) (Nat.zero_lt_one) rfl rfl 20 (by decide) w0 rfl dX9_tries_111 ?_
    refine zk_iload_n X 1 dX9_tries_114 rfl rfl ?_
    refine zk_iald X (g := 37) (Nat.zero_lt_one) rfl dX9_tries_115 h (fun h => ?_)
    exact zk_ireturn X hr dX9_tries_116 h
  have B82 : ∀ (a1 : Int32) (a2 : Int32) (s0 : Int32) (z : zk_Z), fX9_tries_B82 a1 a2 s0 z = some (r, z') → zk_G p l e (headSpec wsX9_tries { frames := 6, cells := 0, slots := 0, locals := 140 }).room s m args below meth c E 5 0 0 (MQ below (zk_Qi E r z') args s 0 0 (zk_A E)) 82 [(0, .ref (E.2.1 20 0)), (1, .int a1), (2, .int a2)] [.int s0] z := by
    intro a1 a2 s0 z h
    unfold fX9_tries_B82 at h
    refine zk_istore X (lv' := [(4, .int s0), (0, .ref (E.2.1 20 0)), (1, .int a1), (2, .int a2)]) dX9_tries_82 (by decide) rfl ?_
    refine zk_iload X 0 dX9_tries_84 rfl ?_
    refine zk_aload_n X 1 dX9_tries_86 rfl rfl ?_
    refine zk_get X iX9 (g := 20) (Nat.zero_lt_one) rfl rfl 20 (by decide) w0 rfl dX9_tries_87 ?_
    refine zk_iload_n X 2 dX9_tries_90 rfl rfl ?_
    refine zk_iald X (g := 37) (Nat.zero_lt_one) rfl dX9_tries_91 h (fun h => ?_)
    refine zk_icmp_le X (tgt := 110) dX9_tries_92 (by decide) h (fun h => ?_) (fun h => ?_)
    · exact zk_sub [1, 2] rfl (B110 _ _ h)
    · refine zk_aload_n X 1 dX9_tries_95 rfl rfl ?_
      refine zk_get X iX9 (g := 20) (Nat.zero_lt_one) rfl rfl 20 (by decide) w0 rfl dX9_tries_96 ?_
      refine zk_iload_n X 2 dX9_tries_99 rfl rfl ?_
      refine zk_iload X 0 dX9_tries_100 rfl ?_
      refine zk_iast X (g := 37) (Nat.zero_lt_one) rfl rfl dX9_tries_102 h (fun h => ?_)
      refine zk_aload_n X 1 dX9_tries_103 rfl rfl ?_
      refine zk_get X iX9 (g := 20) (Nat.zero_lt_one) rfl rfl 21 (by decide) w3 rfl dX9_tries_104 ?_
      refine zk_iload_n X 2 dX9_tries_107 rfl rfl ?_
      refine zk_iload_n X 3 dX9_tries_108 rfl rfl ?_
      refine zk_iast X (g := 38) (Nat.zero_lt_one) rfl rfl dX9_tries_109 h (fun h => ?_)
      exact zk_sub [1, 2] rfl (B110 _ _ h)
  unfold fX9_tries at h
  refine zk_aload_n X 0 dX9_tries_0 rfl rfl ?_
  refine zk_iload_n X 1 dX9_tries_1 rfl rfl ?_
  refine zk_vi X h (fun rr zz hf => ct_X9_isClaim l E hi  x1 _ rr zz hf) (cwV 1 X.1.2.2.2.2 gX9_tries_X9_isClaim rfl rfl rfl (by decide +kernel) ⟨Nat.le_of_ble_eq_true rfl, Nat.le_of_ble_eq_true rfl⟩) (zk_recv X (g := 20) (Nat.zero_lt_one) rfl rfl) rfl rfl (Nat.le_of_ble_eq_true rfl) dX9_tries_2 (fun r2 z1 h => ?_)
  refine zk_if_ne X (tgt := 10) dX9_tries_5 (by decide) h (fun h => ?_) (fun h => ?_)
  · refine zk_iconst X (v := -1) dX9_tries_8 (by decide) ?_
    exact zk_ireturn X hr dX9_tries_9 h
  · refine zk_iload_n X 2 dX9_tries_10 rfl rfl ?_
    refine zk_iconst X (v := 0) dX9_tries_11 (by decide) ?_
    refine zk_iconst X (v := 3) dX9_tries_12 (by decide) ?_
    refine zk_si X h (fun rr zz hf => ct_X9_in l E hi  x2 0 3 _ rr zz hf) (va_cwS 3 X.1.2.2.2.2 gX9_tries_X9_in rfl rfl rfl (by decide +kernel) ⟨Nat.le_of_ble_eq_true rfl, Nat.le_of_ble_eq_true rfl⟩) rfl rfl (Nat.le_of_ble_eq_true rfl) dX9_tries_13 (fun r4 z3 h => ?_)
    refine zk_if_ne X (tgt := 22) dX9_tries_16 (by decide) h (fun h => ?_) (fun h => ?_)
    · refine zk_bipush X (v := -2) dX9_tries_19 (by decide) ?_
      exact zk_ireturn X hr dX9_tries_21 h
    · refine zk_aload_n X 0 dX9_tries_22 rfl rfl ?_
      refine zk_get X iX9 (g := 20) (Nat.zero_lt_one) rfl rfl 20 (by decide) w0 rfl dX9_tries_23 ?_
      refine zk_iload_n X 1 dX9_tries_26 rfl rfl ?_
      refine zk_iald X (g := 37) (Nat.zero_lt_one) rfl dX9_tries_27 h (fun h => ?_)
      refine zk_iconst X (v := 2) dX9_tries_28 (by decide) ?_
      refine zk_icmp_ne X (tgt := 35) dX9_tries_29 (by decide) h (fun h => ?_) (fun h => ?_)
      · refine zk_bipush X (v := -3) dX9_tries_32 (by decide) ?_
        exact zk_ireturn X hr dX9_tries_34 h
      · refine zk_aload_n X 0 dX9_tries_35 rfl rfl ?_
        refine zk_aload_n X 0 dX9_tries_36 rfl rfl ?_
        refine zk_get X iX9 (g := 20) (Nat.zero_lt_one) rfl rfl 18 (by decide) w1 rfl dX9_tries_37 ?_
        refine zk_iload_n X 1 dX9_tries_40 rfl rfl ?_
        refine zk_iald X (g := 35) (Nat.zero_lt_one) rfl dX9_tries_41 h (fun h => ?_)
        refine zk_iload_n X 2 dX9_tries_42 rfl rfl ?_
        refine zk_iconst X (v := 2) dX9_tries_43 (by decide) ?_
        refine zk_aload_n X 0 dX9_tries_44 rfl rfl ?_
        refine zk_get X iX9 (g := 20) (Nat.zero_lt_one) rfl rfl 19 (by decide) w2 rfl dX9_tries_45 ?_
        refine zk_iload_n X 1 dX9_tries_48 rfl rfl ?_
        refine zk_iald X (g := 36) (Nat.zero_lt_one) rfl dX9_tries_49 h (fun h => ?_)
        refine zk_imul X dX9_tries_50 ?_
        refine zk_vi X h (fun rr zz hf => ct_X9_finds l E hi  (z3.1 35 0 x1.toNatClampNeg) x2 (2 * (z3.1 36 0 x1.toNatClampNeg)) _ rr zz hf) (cwV 3 X.1.2.2.2.2 gX9_tries_X9_finds rfl rfl rfl (by decide +kernel) ⟨Nat.le_of_ble_eq_true rfl, Nat.le_of_ble_eq_true rfl⟩) (zk_recv X (g := 20) (Nat.zero_lt_one) rfl rfl) rfl rfl (Nat.le_of_ble_eq_true rfl) dX9_tries_51 (fun r6 z5 h => ?_)
        refine zk_istore_n X (lv' := [(3, .int r6), (0, .ref (E.2.1 20 0)), (1, .int x1), (2, .int x2)]) dX9_tries_54 rfl (by decide) rfl ?_
        refine zk_iload_n X 0 dX9_tries_55 rfl rfl ?_
        refine zk_iconst X (v := -1) dX9_tries_56 (by decide) ?_
        refine zk_icmp_ne X (tgt := 64) dX9_tries_57 (by decide) h (fun h => ?_) (fun h => ?_)
        · refine zk_iconst X (v := 0) dX9_tries_60 (by decide) ?_
          refine zk_goto X (tgt := 82) dX9_tries_61 (by decide) ?_
          exact zk_sub [1, 2, 3] rfl (B82  _ _ _ _ h)
        · refine zk_aload_n X 1 dX9_tries_64 rfl rfl ?_
          refine zk_get X iX9 (g := 20) (Nat.zero_lt_one) rfl rfl 30 (by decide) w4 rfl dX9_tries_65 ?_
          refine zk_aload_n X 1 dX9_tries_68 rfl rfl ?_
          refine zk_get X iX9 (g := 20) (Nat.zero_lt_one) rfl rfl 19 (by decide) w2 rfl dX9_tries_69 ?_
          refine zk_iload_n X 2 dX9_tries_72 rfl rfl ?_
          refine zk_iald X (g := 36) (Nat.zero_lt_one) rfl dX9_tries_73 h (fun h => ?_)
          refine zk_icmp_ge X (tgt := 81) dX9_tries_74 (by decide) h (fun h => ?_) (fun h => ?_)
          · refine zk_iconst X (v := 1) dX9_tries_81 (by decide) ?_
            exact zk_sub [1, 2, 3] rfl (B82  _ _ _ _ h)
          · refine zk_iconst X (v := 2) dX9_tries_77 (by decide) ?_
            refine zk_goto X (tgt := 82) dX9_tries_78 (by decide) ?_
            exact zk_sub [1, 2, 3] rfl (B82  _ _ _ _ h)
def fX9_twin_L291 : Nat → Int32 → Int32 → Int32 → Int32 → Int32 → Int32 → zk_Z → Option (Int32 × zk_Z)
  | 0, _, _, _, _, _, _, _ => none
  | n + 1, a1, a2, a3, a4, a7, a8, z => zk_gd (zk_ix a1 9) (if (z.1 29 0 a1.toNatClampNeg) ≤ a8 then some (a7, zk_sI z 20 0 8 ((z.1 20 0 8) + 1)) else zk_gd (zk_ix ((24 * a1) + a8) 216) (zk_bd (fX9_moved (z.1 33 0 ((24 * a1) + a8).toNatClampNeg) a2 a4 z) (fun r8 z7 => zk_gd (zk_ix ((24 * a1) + a8) 216) (zk_bd (fX9_moved (z7.1 34 0 ((24 * a1) + a8).toNatClampNeg) a2 a4 z7) (fun r10 z9 => zk_gd (zk_ix ((24 * a7) + a8) 216) (zk_gd (zk_ix ((24 * a7) + a8) 216) ((fX9_twin_L291 n) a1 a2 a3 a4 a7 (a8 + 1) (zk_sI (zk_sI z9 33 0 ((24 * a7) + a8).toNatClampNeg ((r8 &&& (a3 ^^^ (-1))) ||| (r10 &&& a3))) 34 0 ((24 * a7) + a8).toNatClampNeg ((r10 &&& (a3 ^^^ (-1))) ||| (r8 &&& a3))))))))))
def fX9_twin_B271 (a1 : Int32) (a2 : Int32) (a3 : Int32) (a4 : Int32) (a7 : Int32) (s0 : Int32) (s1 : Int32) (z : zk_Z) : Option (Int32 × zk_Z) := zk_gd (zk_ix s1 9) (zk_gd (zk_ix a7 9) (zk_gd (zk_ix a7 9) (fX9_twin_L291 zk_FU a1 a2 a3 a4 a7 0 (zk_sI (zk_sI (zk_sI z 30 0 s1.toNatClampNeg s0) 31 0 a7.toNatClampNeg (-1)) 32 0 a7.toNatClampNeg (-1)))))
def fX9_twin_B175 (a1 : Int32) (a2 : Int32) (a3 : Int32) (a4 : Int32) (a5 : Int32) (z : zk_Z) : Option (Int32 × zk_Z) := if a5 = 0 then some ((-2), z) else if (z.1 20 0 8) = 8 then some ((-4), z) else zk_gd (zk_ix a1 9) (zk_gd (zk_ix (z.1 20 0 8) 9) (zk_gd (zk_ix (z.1 20 0 8) 9) (zk_gd (zk_ix a1 9) (zk_gd (zk_ix (z.1 20 0 8) 9) (zk_gd (zk_ix a1 9) (if ((zk_sI (zk_sI (zk_sI z 27 0 (z.1 20 0 8).toNatClampNeg (z.1 27 0 a1.toNatClampNeg)) 28 0 (z.1 20 0 8).toNatClampNeg a4) 29 0 (z.1 20 0 8).toNatClampNeg ((zk_sI (zk_sI z 27 0 (z.1 20 0 8).toNatClampNeg (z.1 27 0 a1.toNatClampNeg)) 28 0 (z.1 20 0 8).toNatClampNeg a4).1 29 0 a1.toNatClampNeg)).1 30 0 a1.toNatClampNeg) = (-1) then fX9_twin_B271 a1 a2 a3 a4 (z.1 20 0 8) (-1) (z.1 20 0 8) (zk_sI (zk_sI (zk_sI z 27 0 (z.1 20 0 8).toNatClampNeg (z.1 27 0 a1.toNatClampNeg)) 28 0 (z.1 20 0 8).toNatClampNeg a4) 29 0 (z.1 20 0 8).toNatClampNeg ((zk_sI (zk_sI z 27 0 (z.1 20 0 8).toNatClampNeg (z.1 27 0 a1.toNatClampNeg)) 28 0 (z.1 20 0 8).toNatClampNeg a4).1 29 0 a1.toNatClampNeg)) else zk_gd (zk_ix a1 9) (zk_bd (fX9_moved ((zk_sI (zk_sI (zk_sI z 27 0 (z.1 20 0 8).toNatClampNeg (z.1 27 0 a1.toNatClampNeg)) 28 0 (z.1 20 0 8).toNatClampNeg a4) 29 0 (z.1 20 0 8).toNatClampNeg ((zk_sI (zk_sI z 27 0 (z.1 20 0 8).toNatClampNeg (z.1 27 0 a1.toNatClampNeg)) 28 0 (z.1 20 0 8).toNatClampNeg a4).1 29 0 a1.toNatClampNeg)).1 30 0 a1.toNatClampNeg) a2 a4 (zk_sI (zk_sI (zk_sI z 27 0 (z.1 20 0 8).toNatClampNeg (z.1 27 0 a1.toNatClampNeg)) 28 0 (z.1 20 0 8).toNatClampNeg a4) 29 0 (z.1 20 0 8).toNatClampNeg ((zk_sI (zk_sI z 27 0 (z.1 20 0 8).toNatClampNeg (z.1 27 0 a1.toNatClampNeg)) 28 0 (z.1 20 0 8).toNatClampNeg a4).1 29 0 a1.toNatClampNeg))) (fun r12 z11 => fX9_twin_B271 a1 a2 a3 a4 (z.1 20 0 8) (r12 ^^^ a3) (z.1 20 0 8) z11))))))))
def fX9_twin_B166 (c78 : Int32 → Int32 → Int32 → Int32 → Int32 → Int32 → Int32 → zk_Z → Option (Int32 × zk_Z)) (a1 : Int32) (a2 : Int32) (a3 : Int32) (a4 : Int32) (a5 : Int32) (a7 : Int32) (s0 : Int32) (s1 : Int32) (z : zk_Z) : Option (Int32 × zk_Z) := c78 a1 a2 a3 a4 a5 (s1 ||| s0) (a7 + 1) z
def fX9_twin_B149 (c78 : Int32 → Int32 → Int32 → Int32 → Int32 → Int32 → Int32 → zk_Z → Option (Int32 × zk_Z)) (a1 : Int32) (a2 : Int32) (a3 : Int32) (a4 : Int32) (a6 : Int32) (a7 : Int32) (a8 : Int32) (s0 : Int32) (z : zk_Z) : Option (Int32 × zk_Z) := if s0 = 0 then fX9_twin_B166 c78 a1 a2 a3 a4 s0 a7 0 a6 z else fX9_twin_B166 c78 a1 a2 a3 a4 s0 a7 ((1 : Int32) <<< (a8 &&& 31)) a6 z
def fX9_twin_B148 (c78 : Int32 → Int32 → Int32 → Int32 → Int32 → Int32 → Int32 → zk_Z → Option (Int32 × zk_Z)) (a1 : Int32) (a2 : Int32) (a3 : Int32) (a4 : Int32) (a6 : Int32) (a7 : Int32) (a8 : Int32) (z : zk_Z) : Option (Int32 × zk_Z) := fX9_twin_B149 c78 a1 a2 a3 a4 a6 a7 a8 0 z
def fX9_twin_B138 (c78 : Int32 → Int32 → Int32 → Int32 → Int32 → Int32 → Int32 → zk_Z → Option (Int32 × zk_Z)) (a1 : Int32) (a2 : Int32) (a3 : Int32) (a4 : Int32) (a6 : Int32) (a7 : Int32) (a8 : Int32) (s0 : Int32) (s1 : Int32) (z : zk_Z) : Option (Int32 × zk_Z) := if ((s1 >>> (s0 &&& 31)) &&& 1) = 0 then fX9_twin_B149 c78 a1 a2 a3 a4 a6 a7 a8 1 z else fX9_twin_B148 c78 a1 a2 a3 a4 a6 a7 a8 z
def fX9_twin_L78 : Nat → Int32 → Int32 → Int32 → Int32 → Int32 → Int32 → Int32 → zk_Z → Option (Int32 × zk_Z)
  | 0, _, _, _, _, _, _, _, _ => none
  | n + 1, a1, a2, a3, a4, a5, a6, a7, z => if a4 ≤ a7 then fX9_twin_B175 a1 a2 a3 a4 a5 z else if a5 = 0 then fX9_twin_B175 a1 a2 a3 a4 a5 z else zk_gd (zk_ix ((40 * a2) + a7) 160) (zk_bd (fX9_in (z.1 41 0 ((40 * a2) + a7).toNatClampNeg) 0 (a4 - 1) z) (fun r14 z13 => if r14 = 0 then fX9_twin_B148 (fX9_twin_L78 n) a1 a2 a3 a4 a6 a7 (z.1 41 0 ((40 * a2) + a7).toNatClampNeg) z13 else zk_bd (fX9_in (z.1 41 0 ((40 * a2) + a7).toNatClampNeg) 0 (a4 - 1) z13) (fun r16 z15 => if r16 = 0 then fX9_twin_B138 (fX9_twin_L78 n) a1 a2 a3 a4 a6 a7 (z.1 41 0 ((40 * a2) + a7).toNatClampNeg) 0 a6 z15 else fX9_twin_B138 (fX9_twin_L78 n) a1 a2 a3 a4 a6 a7 (z.1 41 0 ((40 * a2) + a7).toNatClampNeg) (z.1 41 0 ((40 * a2) + a7).toNatClampNeg) a6 z15)))
def fX9_twin_B70 (a1 : Int32) (a2 : Int32) (a3 : Int32) (a4 : Int32) (s0 : Int32) (z : zk_Z) : Option (Int32 × zk_Z) := fX9_twin_L78 zk_FU a1 a2 a3 a4 s0 0 0 z
def fX9_twin_B69 (a1 : Int32) (a2 : Int32) (a3 : Int32) (a4 : Int32) (z : zk_Z) : Option (Int32 × zk_Z) := fX9_twin_B70 a1 a2 a3 a4 0 z
def fX9_twin (x1 : Int32) (x2 : Int32) (x3 : Int32) (z : zk_Z) : Option (Int32 × zk_Z) := zk_bd (fX9_isTask x1 z) (fun r2 z1 => if r2 = 0 then some ((-1), z1) else zk_bd (fX9_in x2 0 3 z1) (fun r4 z3 => if r4 = 0 then some ((-1), z3) else zk_gd (zk_ix x2 4) (if (z3.1 39 0 x2.toNatClampNeg) = (-1) then some ((-11), z3) else zk_gd (zk_ix x1 9) (zk_gd (zk_ix x2 4) (if (z3.1 40 0 x2.toNatClampNeg) = (z3.1 28 0 x1.toNatClampNeg) then zk_bd (fX9_in x3 0 (((1 : Int32) <<< ((z3.1 28 0 x1.toNatClampNeg) &&& 31)) - 1) z3) (fun r6 z5 => if r6 = 0 then fX9_twin_B69 x1 x2 x3 (z3.1 28 0 x1.toNatClampNeg) z5 else fX9_twin_B70 x1 x2 x3 (z3.1 28 0 x1.toNatClampNeg) 1 z5) else fX9_twin_B69 x1 x2 x3 (z3.1 28 0 x1.toNatClampNeg) z3)))))
set_option maxRecDepth 100000 in
set_option maxHeartbeats 8000000 in
theorem ct_X9_twin (l : Launch) (E : zk_E) (hi : zk_inj E) (x1 : Int32) (x2 : Int32) (x3 : Int32) (z : zk_Z) (r : Int32) (z' : zk_Z) (h : fX9_twin  x1 x2 x3 z = some (r, z')) : Met l yX9_twin wsX9_twin { frames := 2, cells := 0, slots := 0, locals := 43 } (va_Pc [.ref (E.2.1 20 0), .int x1, .int x2, .int x3] (zk_W E z)) (zk_Qi E r z') 0 0 (zk_A E) := by
  refine zk_met (cc := cX9_twin) (maxL := 11) (ret := (some .int)) (own := RX9) (by decide) rfl rfl hi (Nat.le_of_ble_eq_true rfl) ?_
  intro p e s m args below meth c X hr
  have iX9 : ∀ w ∈ u_ws RX9 TX9 32, w ∈ wsX9_twin := by decide +kernel
  have w0 : Cond.fieldLink RX9 64 "HiddenWorksModel" "sheetSort" "[I" ∈ wsX9_twin := by decide +kernel
  have w1 : Cond.fieldLink RX9 31 "HiddenWorksModel" "letters" "[I" ∈ wsX9_twin := by decide +kernel
  have w2 : Cond.fieldLink RX9 67 "HiddenWorksModel" "sheetSize" "[I" ∈ wsX9_twin := by decide +kernel
  have w3 : Cond.fieldLink RX9 152 "HiddenWorksModel" "tasks" "I" ∈ wsX9_twin := by decide +kernel
  have w4 : Cond.fieldLink RX9 28 "HiddenWorksModel" "kind" "[I" ∈ wsX9_twin := by decide +kernel
  have w5 : Cond.fieldLink RX9 34 "HiddenWorksModel" "clauses" "[I" ∈ wsX9_twin := by decide +kernel
  have w6 : Cond.fieldLink RX9 37 "HiddenWorksModel" "hidden" "[I" ∈ wsX9_twin := by decide +kernel
  have w7 : Cond.fieldLink RX9 40 "HiddenWorksModel" "recipeOf" "[I" ∈ wsX9_twin := by decide +kernel
  have w8 : Cond.fieldLink RX9 43 "HiddenWorksModel" "seedOf" "[I" ∈ wsX9_twin := by decide +kernel
  have w9 : Cond.fieldLink RX9 46 "HiddenWorksModel" "plain" "[I" ∈ wsX9_twin := by decide +kernel
  have w10 : Cond.fieldLink RX9 49 "HiddenWorksModel" "against" "[I" ∈ wsX9_twin := by decide +kernel
  have w11 : Cond.fieldLink RX9 70 "HiddenWorksModel" "cells" "[I" ∈ wsX9_twin := by decide +kernel
  have L291 : ∀ (n : Nat) (a1 : Int32) (a2 : Int32) (a3 : Int32) (a4 : Int32) (a7 : Int32) (a8 : Int32) (z : zk_Z), fX9_twin_L291 n a1 a2 a3 a4 a7 a8 z = some (r, z') → zk_G p l e (headSpec wsX9_twin { frames := 2, cells := 0, slots := 0, locals := 43 }).room s m args below meth c E 11 0 0 (MQ below (zk_Qi E r z') args s 0 0 (zk_A E)) 291 [(0, .ref (E.2.1 20 0)), (1, .int a1), (2, .int a2), (3, .int a3), (4, .int a4), (7, .int a7), (8, .int a8)] [] z := by
    intro n
    induction n with
    | zero => intro a1 a2 a3 a4 a7 a8 z h; exact absurd h (by simp [fX9_twin_L291])
    | succ n ih =>
      intro a1 a2 a3 a4 a7 a8 z h
      rw [fX9_twin_L291] at h
      refine zk_iload X 6 dX9_twin_291 rfl ?_
      refine zk_aload_n X 0 dX9_twin_293 rfl rfl ?_
      refine zk_get X iX9 (g := 20) (Nat.zero_lt_one) rfl rfl 11 (by decide) w5 rfl dX9_twin_294 ?_
      refine zk_iload_n X 1 dX9_twin_297 rfl rfl ?_
      refine zk_iald X (g := 29) (Nat.zero_lt_one) rfl dX9_twin_298 h (fun h => ?_)
      refine zk_icmp_ge X (tgt := 398) dX9_twin_299 (by decide) h (fun h => ?_) (fun h => ?_)
      · refine zk_aload_n X 0 dX9_twin_398 rfl rfl ?_
        refine zk_dup X dX9_twin_399 rfl ?_
        refine zk_get X iX9 (g := 20) (Nat.zero_lt_one) rfl rfl 8 (by decide) w3 rfl dX9_twin_400 ?_
        refine zk_iconst X (v := 1) dX9_twin_403 (by decide) ?_
        refine zk_iadd X dX9_twin_404 ?_
        refine zk_putI X (ty := .int) iX9 tyX9 tyX9_ok nmX9 (g := 20) (Nat.zero_lt_one) rfl rfl 8 (by decide) w3 rfl (by decide +kernel) rfl rfl (Nat.le_of_ble_eq_true rfl) rfl dX9_twin_405 ?_
        refine zk_iload X 5 dX9_twin_408 rfl ?_
        exact zk_ireturn X hr dX9_twin_410 h
      · refine zk_aload_n X 0 dX9_twin_302 rfl rfl ?_
        refine zk_aload_n X 0 dX9_twin_303 rfl rfl ?_
        refine zk_get X iX9 (g := 20) (Nat.zero_lt_one) rfl rfl 15 (by decide) w9 rfl dX9_twin_304 ?_
        refine zk_bipush X (v := 24) dX9_twin_307 (by decide) ?_
        refine zk_iload_n X 1 dX9_twin_309 rfl rfl ?_
        refine zk_imul X dX9_twin_310 ?_
        refine zk_iload X 6 dX9_twin_311 rfl ?_
        refine zk_iadd X dX9_twin_313 ?_
        refine zk_iald X (g := 33) (Nat.zero_lt_one) rfl dX9_twin_314 h (fun h => ?_)
        refine zk_iload_n X 2 dX9_twin_315 rfl rfl ?_
        refine zk_iload X 4 dX9_twin_316 rfl ?_
        refine zk_vi X h (fun rr zz hf => ct_X9_moved l E hi (z.1 33 0 ((24 * a1) + a8).toNatClampNeg) a2 a4 _ rr zz hf) (cwV 3 X.1.2.2.2.2 gX9_twin_X9_moved rfl rfl rfl (by decide +kernel) ⟨Nat.le_of_ble_eq_true rfl, Nat.le_of_ble_eq_true rfl⟩) (zk_recv X (g := 20) (Nat.zero_lt_one) rfl rfl) rfl rfl (Nat.le_of_ble_eq_true rfl) dX9_twin_318 (fun r8 z7 h => ?_)
        refine zk_istore X (lv' := [(9, .int r8), (0, .ref (E.2.1 20 0)), (1, .int a1), (2, .int a2), (3, .int a3), (4, .int a4), (7, .int a7), (8, .int a8)]) dX9_twin_321 (by decide) rfl ?_
        refine zk_aload_n X 1 dX9_twin_323 rfl rfl ?_
        refine zk_aload_n X 1 dX9_twin_324 rfl rfl ?_
        refine zk_get X iX9 (g := 20) (Nat.zero_lt_one) rfl rfl 16 (by decide) w10 rfl dX9_twin_325 ?_
        refine zk_bipush X (v := 24) dX9_twin_328 (by decide) ?_
        refine zk_iload_n X 2 dX9_twin_330 rfl rfl ?_
        refine zk_imul X dX9_twin_331 ?_
        refine zk_iload X 7 dX9_twin_332 rfl ?_
        refine zk_iadd X dX9_twin_334 ?_
        refine zk_iald X (g := 34) (Nat.zero_lt_one) rfl dX9_twin_335 h (fun h => ?_)
        refine zk_iload_n X 3 dX9_twin_336 rfl rfl ?_
        refine zk_iload X 5 dX9_twin_337 rfl ?_
        refine zk_vi X h (fun rr zz hf => ct_X9_moved l E hi (z7.1 34 0 ((24 * a1) + a8).toNatClampNeg) a2 a4 _ rr zz hf) (cwV 3 X.1.2.2.2.2 gX9_twin_X9_moved rfl rfl rfl (by decide +kernel) ⟨Nat.le_of_ble_eq_true rfl, Nat.le_of_ble_eq_true rfl⟩) (zk_recv X (g := 20) (Nat.zero_lt_one) rfl rfl) rfl rfl (Nat.le_of_ble_eq_true rfl) dX9_twin_339 (fun r10 z9 h => ?_)
        refine zk_istore X (lv' := [(10, .int r10), (9, .int r8), (0, .ref (E.2.1 20 0)), (1, .int a1), (2, .int a2), (3, .int a3), (4, .int a4), (7, .int a7), (8, .int a8)]) dX9_twin_342 (by decide) rfl ?_
        refine zk_aload_n X 2 dX9_twin_344 rfl rfl ?_
        refine zk_get X iX9 (g := 20) (Nat.zero_lt_one) rfl rfl 15 (by decide) w9 rfl dX9_twin_345 ?_
        refine zk_bipush X (v := 24) dX9_twin_348 (by decide) ?_
        refine zk_iload X 7 dX9_twin_350 rfl ?_
        refine zk_imul X dX9_twin_352 ?_
        refine zk_iload X 8 dX9_twin_353 rfl ?_
        refine zk_iadd X dX9_twin_355 ?_
        refine zk_iload X 1 dX9_twin_356 rfl ?_
        refine zk_iload_n X 5 dX9_twin_358 rfl rfl ?_
        refine zk_iconst X (v := -1) dX9_twin_359 (by decide) ?_
        refine zk_ixor X dX9_twin_360 ?_
        refine zk_iand X dX9_twin_361 ?_
        refine zk_iload X 0 dX9_twin_362 rfl ?_
        refine zk_iload_n X 5 dX9_twin_364 rfl rfl ?_
        refine zk_iand X dX9_twin_365 ?_
        refine zk_ior X dX9_twin_366 ?_
        refine zk_iast X (g := 33) (Nat.zero_lt_one) rfl rfl dX9_twin_367 h (fun h => ?_)
        refine zk_aload_n X 2 dX9_twin_368 rfl rfl ?_
        refine zk_get X iX9 (g := 20) (Nat.zero_lt_one) rfl rfl 16 (by decide) w10 rfl dX9_twin_369 ?_
        refine zk_bipush X (v := 24) dX9_twin_372 (by decide) ?_
        refine zk_iload X 7 dX9_twin_374 rfl ?_
        refine zk_imul X dX9_twin_376 ?_
        refine zk_iload X 8 dX9_twin_377 rfl ?_
        refine zk_iadd X dX9_twin_379 ?_
        refine zk_iload X 0 dX9_twin_380 rfl ?_
        refine zk_iload_n X 5 dX9_twin_382 rfl rfl ?_
        refine zk_iconst X (v := -1) dX9_twin_383 (by decide) ?_
        refine zk_ixor X dX9_twin_384 ?_
        refine zk_iand X dX9_twin_385 ?_
        refine zk_iload X 1 dX9_twin_386 rfl ?_
        refine zk_iload_n X 5 dX9_twin_388 rfl rfl ?_
        refine zk_iand X dX9_twin_389 ?_
        refine zk_ior X dX9_twin_390 ?_
        refine zk_iast X (g := 34) (Nat.zero_lt_one) rfl rfl dX9_twin_391 h (fun h => ?_)
        refine zk_iinc X (lv' := [(8, .int (a8 + 1)), (10, .int r10), (9, .int r8), (0, .ref (E.2.1 20 0)), (1, .int a1), (2, .int a2), (3, .int a3), (4, .int a4), (7, .int a7)]) 8 dX9_twin_392 rfl rfl (by decide) rfl ?_
        refine zk_goto X (tgt := 291) dX9_twin_395 (by decide) ?_
        exact zk_sub [3, 4, 5, 6, 7, 8, 0] rfl (ih _ _ _ _ _ _ _ h)
  have B271 : ∀ (a1 : Int32) (a2 : Int32) (a3 : Int32) (a4 : Int32) (a7 : Int32) (s0 : Int32) (s1 : Int32) (z : zk_Z), fX9_twin_B271 a1 a2 a3 a4 a7 s0 s1 z = some (r, z') → zk_G p l e (headSpec wsX9_twin { frames := 2, cells := 0, slots := 0, locals := 43 }).room s m args below meth c E 11 0 0 (MQ below (zk_Qi E r z') args s 0 0 (zk_A E)) 271 [(0, .ref (E.2.1 20 0)), (1, .int a1), (2, .int a2), (3, .int a3), (4, .int a4), (7, .int a7)] [.int s0, .int s1, .ref (E.2.1 30 0)] z := by
    intro a1 a2 a3 a4 a7 s0 s1 z h
    unfold fX9_twin_B271 at h
    refine zk_iast X (g := 30) (Nat.zero_lt_one) rfl rfl dX9_twin_271 h (fun h => ?_)
    refine zk_aload_n X 0 dX9_twin_272 rfl rfl ?_
    refine zk_get X iX9 (g := 20) (Nat.zero_lt_one) rfl rfl 13 (by decide) w7 rfl dX9_twin_273 ?_
    refine zk_iload X 5 dX9_twin_276 rfl ?_
    refine zk_iconst X (v := -1) dX9_twin_278 (by decide) ?_
    refine zk_iast X (g := 31) (Nat.zero_lt_one) rfl rfl dX9_twin_279 h (fun h => ?_)
    refine zk_aload_n X 0 dX9_twin_280 rfl rfl ?_
    refine zk_get X iX9 (g := 20) (Nat.zero_lt_one) rfl rfl 14 (by decide) w8 rfl dX9_twin_281 ?_
    refine zk_iload X 5 dX9_twin_284 rfl ?_
    refine zk_iconst X (v := -1) dX9_twin_286 (by decide) ?_
    refine zk_iast X (g := 32) (Nat.zero_lt_one) rfl rfl dX9_twin_287 h (fun h => ?_)
    refine zk_iconst X (v := 0) dX9_twin_288 (by decide) ?_
    refine zk_istore X (lv' := [(8, .int 0), (0, .ref (E.2.1 20 0)), (1, .int a1), (2, .int a2), (3, .int a3), (4, .int a4), (7, .int a7)]) dX9_twin_289 (by decide) rfl ?_
    exact zk_sub [1, 2, 3, 4, 5, 6, 0] rfl (L291 _ _ _ _ _ _ _ _ h)
  have B175 : ∀ (a1 : Int32) (a2 : Int32) (a3 : Int32) (a4 : Int32) (a5 : Int32) (z : zk_Z), fX9_twin_B175 a1 a2 a3 a4 a5 z = some (r, z') → zk_G p l e (headSpec wsX9_twin { frames := 2, cells := 0, slots := 0, locals := 43 }).room s m args below meth c E 11 0 0 (MQ below (zk_Qi E r z') args s 0 0 (zk_A E)) 175 [(0, .ref (E.2.1 20 0)), (1, .int a1), (2, .int a2), (3, .int a3), (4, .int a4), (5, .int a5)] [] z := by
    intro a1 a2 a3 a4 a5 z h
    unfold fX9_twin_B175 at h
    refine zk_iload X 5 dX9_twin_175 rfl ?_
    refine zk_if_ne X (tgt := 183) dX9_twin_177 (by decide) h (fun h => ?_) (fun h => ?_)
    · refine zk_bipush X (v := -2) dX9_twin_180 (by decide) ?_
      exact zk_ireturn X hr dX9_twin_182 h
    · refine zk_aload_n X 0 dX9_twin_183 rfl rfl ?_
      refine zk_get X iX9 (g := 20) (Nat.zero_lt_one) rfl rfl 8 (by decide) w3 rfl dX9_twin_184 ?_
      refine zk_bipush X (v := 8) dX9_twin_187 (by decide) ?_
      refine zk_icmp_ne X (tgt := 195) dX9_twin_189 (by decide) h (fun h => ?_) (fun h => ?_)
      · refine zk_bipush X (v := -4) dX9_twin_192 (by decide) ?_
        exact zk_ireturn X hr dX9_twin_194 h
      · refine zk_aload_n X 0 dX9_twin_195 rfl rfl ?_
        refine zk_get X iX9 (g := 20) (Nat.zero_lt_one) rfl rfl 8 (by decide) w3 rfl dX9_twin_196 ?_
        refine zk_istore X (lv' := [(7, .int (z.1 20 0 8)), (0, .ref (E.2.1 20 0)), (1, .int a1), (2, .int a2), (3, .int a3), (4, .int a4), (5, .int a5)]) dX9_twin_199 (by decide) rfl ?_
        refine zk_aload_n X 1 dX9_twin_201 rfl rfl ?_
        refine zk_get X iX9 (g := 20) (Nat.zero_lt_one) rfl rfl 9 (by decide) w4 rfl dX9_twin_202 ?_
        refine zk_iload X 0 dX9_twin_205 rfl ?_
        refine zk_aload_n X 1 dX9_twin_207 rfl rfl ?_
        refine zk_get X iX9 (g := 20) (Nat.zero_lt_one) rfl rfl 9 (by decide) w4 rfl dX9_twin_208 ?_
        refine zk_iload_n X 2 dX9_twin_211 rfl rfl ?_
        refine zk_iald X (g := 27) (Nat.zero_lt_one) rfl dX9_twin_212 h (fun h => ?_)
        refine zk_iast X (g := 27) (Nat.zero_lt_one) rfl rfl dX9_twin_213 h (fun h => ?_)
        refine zk_aload_n X 1 dX9_twin_214 rfl rfl ?_
        refine zk_get X iX9 (g := 20) (Nat.zero_lt_one) rfl rfl 10 (by decide) w1 rfl dX9_twin_215 ?_
        refine zk_iload X 0 dX9_twin_218 rfl ?_
        refine zk_iload X 5 dX9_twin_220 rfl ?_
        refine zk_iast X (g := 28) (Nat.zero_lt_one) rfl rfl dX9_twin_222 h (fun h => ?_)
        refine zk_aload_n X 1 dX9_twin_223 rfl rfl ?_
        refine zk_get X iX9 (g := 20) (Nat.zero_lt_one) rfl rfl 11 (by decide) w5 rfl dX9_twin_224 ?_
        refine zk_iload X 0 dX9_twin_227 rfl ?_
        refine zk_aload_n X 1 dX9_twin_229 rfl rfl ?_
        refine zk_get X iX9 (g := 20) (Nat.zero_lt_one) rfl rfl 11 (by decide) w5 rfl dX9_twin_230 ?_
        refine zk_iload_n X 2 dX9_twin_233 rfl rfl ?_
        refine zk_iald X (g := 29) (Nat.zero_lt_one) rfl dX9_twin_234 h (fun h => ?_)
        refine zk_iast X (g := 29) (Nat.zero_lt_one) rfl rfl dX9_twin_235 h (fun h => ?_)
        refine zk_aload_n X 1 dX9_twin_236 rfl rfl ?_
        refine zk_get X iX9 (g := 20) (Nat.zero_lt_one) rfl rfl 12 (by decide) w6 rfl dX9_twin_237 ?_
        refine zk_iload X 0 dX9_twin_240 rfl ?_
        refine zk_aload_n X 1 dX9_twin_242 rfl rfl ?_
        refine zk_get X iX9 (g := 20) (Nat.zero_lt_one) rfl rfl 12 (by decide) w6 rfl dX9_twin_243 ?_
        refine zk_iload_n X 2 dX9_twin_246 rfl rfl ?_
        refine zk_iald X (g := 30) (Nat.zero_lt_one) rfl dX9_twin_247 h (fun h => ?_)
        refine zk_iconst X (v := -1) dX9_twin_248 (by decide) ?_
        refine zk_icmp_ne X (tgt := 256) dX9_twin_249 (by decide) h (fun h => ?_) (fun h => ?_)
        · refine zk_iconst X (v := -1) dX9_twin_252 (by decide) ?_
          refine zk_goto X (tgt := 271) dX9_twin_253 (by decide) ?_
          exact zk_sub [1, 2, 3, 4, 5, 0] rfl (B271 _ _ _ _ _ _ _ _ h)
        · refine zk_aload_n X 1 dX9_twin_256 rfl rfl ?_
          refine zk_aload_n X 1 dX9_twin_257 rfl rfl ?_
          refine zk_get X iX9 (g := 20) (Nat.zero_lt_one) rfl rfl 12 (by decide) w6 rfl dX9_twin_258 ?_
          refine zk_iload_n X 2 dX9_twin_261 rfl rfl ?_
          refine zk_iald X (g := 30) (Nat.zero_lt_one) rfl dX9_twin_262 h (fun h => ?_)
          refine zk_iload_n X 3 dX9_twin_263 rfl rfl ?_
          refine zk_iload X 5 dX9_twin_264 rfl ?_
          refine zk_vi X h (fun rr zz hf => ct_X9_moved l E hi ((zk_sI (zk_sI (zk_sI z 27 0 (z.1 20 0 8).toNatClampNeg (z.1 27 0 a1.toNatClampNeg)) 28 0 (z.1 20 0 8).toNatClampNeg a4) 29 0 (z.1 20 0 8).toNatClampNeg ((zk_sI (zk_sI z 27 0 (z.1 20 0 8).toNatClampNeg (z.1 27 0 a1.toNatClampNeg)) 28 0 (z.1 20 0 8).toNatClampNeg a4).1 29 0 a1.toNatClampNeg)).1 30 0 a1.toNatClampNeg) a2 a4 _ rr zz hf) (cwV 3 X.1.2.2.2.2 gX9_twin_X9_moved rfl rfl rfl (by decide +kernel) ⟨Nat.le_of_ble_eq_true rfl, Nat.le_of_ble_eq_true rfl⟩) (zk_recv X (g := 20) (Nat.zero_lt_one) rfl rfl) rfl rfl (Nat.le_of_ble_eq_true rfl) dX9_twin_266 (fun r12 z11 h => ?_)
          refine zk_iload_n X 4 dX9_twin_269 rfl rfl ?_
          refine zk_ixor X dX9_twin_270 ?_
          exact zk_sub [1, 2, 3, 4, 5, 0] rfl (B271 _ _ _ _ _ _ _ _ h)
  have B166 : ∀ (c78 : Int32 → Int32 → Int32 → Int32 → Int32 → Int32 → Int32 → zk_Z → Option (Int32 × zk_Z)) (hc78 : ∀ (a1 : Int32) (a2 : Int32) (a3 : Int32) (a4 : Int32) (a5 : Int32) (a6 : Int32) (a7 : Int32) (z : zk_Z), c78 a1 a2 a3 a4 a5 a6 a7 z = some (r, z') → zk_G p l e (headSpec wsX9_twin { frames := 2, cells := 0, slots := 0, locals := 43 }).room s m args below meth c E 11 0 0 (MQ below (zk_Qi E r z') args s 0 0 (zk_A E)) 78 [(0, .ref (E.2.1 20 0)), (1, .int a1), (2, .int a2), (3, .int a3), (4, .int a4), (5, .int a5), (6, .int a6), (7, .int a7)] [] z) (a1 : Int32) (a2 : Int32) (a3 : Int32) (a4 : Int32) (a5 : Int32) (a7 : Int32) (s0 : Int32) (s1 : Int32) (z : zk_Z), fX9_twin_B166 c78 a1 a2 a3 a4 a5 a7 s0 s1 z = some (r, z') → zk_G p l e (headSpec wsX9_twin { frames := 2, cells := 0, slots := 0, locals := 43 }).room s m args below meth c E 11 0 0 (MQ below (zk_Qi E r z') args s 0 0 (zk_A E)) 166 [(0, .ref (E.2.1 20 0)), (1, .int a1), (2, .int a2), (3, .int a3), (4, .int a4), (5, .int a5), (7, .int a7)] [.int s0, .int s1] z := by
    intro c78 hc78 a1 a2 a3 a4 a5 a7 s0 s1 z h
    unfold fX9_twin_B166 at h
    refine zk_ior X dX9_twin_166 ?_
    refine zk_istore X (lv' := [(6, .int (s1 ||| s0)), (0, .ref (E.2.1 20 0)), (1, .int a1), (2, .int a2), (3, .int a3), (4, .int a4), (5, .int a5), (7, .int a7)]) dX9_twin_167 (by decide) rfl ?_
    refine zk_iinc X (lv' := [(7, .int (a7 + 1)), (6, .int (s1 ||| s0)), (0, .ref (E.2.1 20 0)), (1, .int a1), (2, .int a2), (3, .int a3), (4, .int a4), (5, .int a5)]) 7 dX9_twin_169 rfl rfl (by decide) rfl ?_
    refine zk_goto X (tgt := 78) dX9_twin_172 (by decide) ?_
    exact zk_sub [2, 3, 4, 5, 6, 7, 1, 0] rfl (hc78 _ _ _ _ _ _ _ _ h)
  have B149 : ∀ (c78 : Int32 → Int32 → Int32 → Int32 → Int32 → Int32 → Int32 → zk_Z → Option (Int32 × zk_Z)) (hc78 : ∀ (a1 : Int32) (a2 : Int32) (a3 : Int32) (a4 : Int32) (a5 : Int32) (a6 : Int32) (a7 : Int32) (z : zk_Z), c78 a1 a2 a3 a4 a5 a6 a7 z = some (r, z') → zk_G p l e (headSpec wsX9_twin { frames := 2, cells := 0, slots := 0, locals := 43 }).room s m args below meth c E 11 0 0 (MQ below (zk_Qi E r z') args s 0 0 (zk_A E)) 78 [(0, .ref (E.2.1 20 0)), (1, .int a1), (2, .int a2), (3, .int a3), (4, .int a4), (5, .int a5), (6, .int a6), (7, .int a7)] [] z) (a1 : Int32) (a2 : Int32) (a3 : Int32) (a4 : Int32) (a6 : Int32) (a7 : Int32) (a8 : Int32) (s0 : Int32) (z : zk_Z), fX9_twin_B149 c78 a1 a2 a3 a4 a6 a7 a8 s0 z = some (r, z') → zk_G p l e (headSpec wsX9_twin { frames := 2, cells := 0, slots := 0, locals := 43 }).room s m args below meth c E 11 0 0 (MQ below (zk_Qi E r z') args s 0 0 (zk_A E)) 149 [(0, .ref (E.2.1 20 0)), (1, .int a1), (2, .int a2), (3, .int a3), (4, .int a4), (6, .int a6), (7, .int a7), (8, .int a8)] [.int s0] z := by
    intro c78 hc78 a1 a2 a3 a4 a6 a7 a8 s0 z h
    unfold fX9_twin_B149 at h
    refine zk_istore X (lv' := [(5, .int s0), (0, .ref (E.2.1 20 0)), (1, .int a1), (2, .int a2), (3, .int a3), (4, .int a4), (6, .int a6), (7, .int a7), (8, .int a8)]) dX9_twin_149 (by decide) rfl ?_
    refine zk_iload X 6 dX9_twin_151 rfl ?_
    refine zk_iload X 0 dX9_twin_153 rfl ?_
    refine zk_if_eq X (tgt := 165) dX9_twin_155 (by decide) h (fun h => ?_) (fun h => ?_)
    · refine zk_iconst X (v := 0) dX9_twin_165 (by decide) ?_
      exact zk_sub [1, 2, 3, 4, 5, 0, 7] rfl (B166 _ hc78 _ _ _ _ _ _ _ _ _ h)
    · refine zk_iconst X (v := 1) dX9_twin_158 (by decide) ?_
      refine zk_iload X 8 dX9_twin_159 rfl ?_
      refine zk_ishl X dX9_twin_161 ?_
      refine zk_goto X (tgt := 166) dX9_twin_162 (by decide) ?_
      exact zk_sub [1, 2, 3, 4, 5, 0, 7] rfl (B166 _ hc78 _ _ _ _ _ _ _ _ _ h)
  have B148 : ∀ (c78 : Int32 → Int32 → Int32 → Int32 → Int32 → Int32 → Int32 → zk_Z → Option (Int32 × zk_Z)) (hc78 : ∀ (a1 : Int32) (a2 : Int32) (a3 : Int32) (a4 : Int32) (a5 : Int32) (a6 : Int32) (a7 : Int32) (z : zk_Z), c78 a1 a2 a3 a4 a5 a6 a7 z = some (r, z') → zk_G p l e (headSpec wsX9_twin { frames := 2, cells := 0, slots := 0, locals := 43 }).room s m args below meth c E 11 0 0 (MQ below (zk_Qi E r z') args s 0 0 (zk_A E)) 78 [(0, .ref (E.2.1 20 0)), (1, .int a1), (2, .int a2), (3, .int a3), (4, .int a4), (5, .int a5), (6, .int a6), (7, .int a7)] [] z) (a1 : Int32) (a2 : Int32) (a3 : Int32) (a4 : Int32) (a6 : Int32) (a7 : Int32) (a8 : Int32) (z : zk_Z), fX9_twin_B148 c78 a1 a2 a3 a4 a6 a7 a8 z = some (r, z') → zk_G p l e (headSpec wsX9_twin { frames := 2, cells := 0, slots := 0, locals := 43 }).room s m args below meth c E 11 0 0 (MQ below (zk_Qi E r z') args s 0 0 (zk_A E)) 148 [(0, .ref (E.2.1 20 0)), (1, .int a1), (2, .int a2), (3, .int a3), (4, .int a4), (6, .int a6), (7, .int a7), (8, .int a8)] [] z := by
    intro c78 hc78 a1 a2 a3 a4 a6 a7 a8 z h
    unfold fX9_twin_B148 at h
    refine zk_iconst X (v := 0) dX9_twin_148 (by decide) ?_
    exact zk_sub [0, 1, 2, 3, 4, 5, 6, 7] rfl (B149 _ hc78 _ _ _ _ _ _ _ _ _ h)
  have B138 : ∀ (c78 : Int32 → Int32 → Int32 → Int32 → Int32 → Int32 → Int32 → zk_Z → Option (Int32 × zk_Z)) (hc78 : ∀ (a1 : Int32) (a2 : Int32) (a3 : Int32) (a4 : Int32) (a5 : Int32) (a6 : Int32) (a7 : Int32) (z : zk_Z), c78 a1 a2 a3 a4 a5 a6 a7 z = some (r, z') → zk_G p l e (headSpec wsX9_twin { frames := 2, cells := 0, slots := 0, locals := 43 }).room s m args below meth c E 11 0 0 (MQ below (zk_Qi E r z') args s 0 0 (zk_A E)) 78 [(0, .ref (E.2.1 20 0)), (1, .int a1), (2, .int a2), (3, .int a3), (4, .int a4), (5, .int a5), (6, .int a6), (7, .int a7)] [] z) (a1 : Int32) (a2 : Int32) (a3 : Int32) (a4 : Int32) (a6 : Int32) (a7 : Int32) (a8 : Int32) (s0 : Int32) (s1 : Int32) (z : zk_Z), fX9_twin_B138 c78 a1 a2 a3 a4 a6 a7 a8 s0 s1 z = some (r, z') → zk_G p l e (headSpec wsX9_twin { frames := 2, cells := 0, slots := 0, locals := 43 }).room s m args below meth c E 11 0 0 (MQ below (zk_Qi E r z') args s 0 0 (zk_A E)) 138 [(0, .ref (E.2.1 20 0)), (1, .int a1), (2, .int a2), (3, .int a3), (4, .int a4), (6, .int a6), (7, .int a7), (8, .int a8)] [.int s0, .int s1] z := by
    intro c78 hc78 a1 a2 a3 a4 a6 a7 a8 s0 s1 z h
    unfold fX9_twin_B138 at h
    refine zk_ishr X dX9_twin_138 ?_
    refine zk_iconst X (v := 1) dX9_twin_139 (by decide) ?_
    refine zk_iand X dX9_twin_140 ?_
    refine zk_if_ne X (tgt := 148) dX9_twin_141 (by decide) h (fun h => ?_) (fun h => ?_)
    · refine zk_iconst X (v := 1) dX9_twin_144 (by decide) ?_
      refine zk_goto X (tgt := 149) dX9_twin_145 (by decide) ?_
      exact zk_sub [0, 1, 2, 3, 4, 5, 6, 7] rfl (B149 _ hc78 _ _ _ _ _ _ _ _ _ h)
    · exact zk_sub [0, 1, 2, 3, 4, 5, 6, 7] rfl (B148 _ hc78 _ _ _ _ _ _ _ _ h)
  have L78 : ∀ (n : Nat) (a1 : Int32) (a2 : Int32) (a3 : Int32) (a4 : Int32) (a5 : Int32) (a6 : Int32) (a7 : Int32) (z : zk_Z), fX9_twin_L78 n a1 a2 a3 a4 a5 a6 a7 z = some (r, z') → zk_G p l e (headSpec wsX9_twin { frames := 2, cells := 0, slots := 0, locals := 43 }).room s m args below meth c E 11 0 0 (MQ below (zk_Qi E r z') args s 0 0 (zk_A E)) 78 [(0, .ref (E.2.1 20 0)), (1, .int a1), (2, .int a2), (3, .int a3), (4, .int a4), (5, .int a5), (6, .int a6), (7, .int a7)] [] z := by
    intro n
    induction n with
    | zero => intro a1 a2 a3 a4 a5 a6 a7 z h; exact absurd h (by simp [fX9_twin_L78])
    | succ n ih =>
      intro a1 a2 a3 a4 a5 a6 a7 z h
      rw [fX9_twin_L78] at h
      refine zk_iload X 7 dX9_twin_78 rfl ?_
      refine zk_iload X 4 dX9_twin_80 rfl ?_
      refine zk_icmp_ge X (tgt := 175) dX9_twin_82 (by decide) h (fun h => ?_) (fun h => ?_)
      · exact zk_sub [0, 1, 2, 3, 4, 5] rfl (B175 _ _ _ _ _ _ h)
      · refine zk_iload X 5 dX9_twin_85 rfl ?_
        refine zk_if_eq X (tgt := 175) dX9_twin_87 (by decide) h (fun h => ?_) (fun h => ?_)
        · exact zk_sub [0, 1, 2, 3, 4, 5] rfl (B175 _ _ _ _ _ _ h)
        · refine zk_aload_n X 0 dX9_twin_90 rfl rfl ?_
          refine zk_get X iX9 (g := 20) (Nat.zero_lt_one) rfl rfl 26 (by decide) w11 rfl dX9_twin_91 ?_
          refine zk_bipush X (v := 40) dX9_twin_94 (by decide) ?_
          refine zk_iload_n X 2 dX9_twin_96 rfl rfl ?_
          refine zk_imul X dX9_twin_97 ?_
          refine zk_iload X 7 dX9_twin_98 rfl ?_
          refine zk_iadd X dX9_twin_100 ?_
          refine zk_iald X (g := 41) (Nat.zero_lt_one) rfl dX9_twin_101 h (fun h => ?_)
          refine zk_istore X (lv' := [(8, .int (z.1 41 0 ((40 * a2) + a7).toNatClampNeg)), (0, .ref (E.2.1 20 0)), (1, .int a1), (2, .int a2), (3, .int a3), (4, .int a4), (5, .int a5), (6, .int a6), (7, .int a7)]) dX9_twin_102 (by decide) rfl ?_
          refine zk_iload X 0 dX9_twin_104 rfl ?_
          refine zk_iconst X (v := 0) dX9_twin_106 (by decide) ?_
          refine zk_iload X 5 dX9_twin_107 rfl ?_
          refine zk_iconst X (v := 1) dX9_twin_109 (by decide) ?_
          refine zk_isub X dX9_twin_110 ?_
          refine zk_si X h (fun rr zz hf => ct_X9_in l E hi (z.1 41 0 ((40 * a2) + a7).toNatClampNeg) 0 (a4 - 1) _ rr zz hf) (va_cwS 3 X.1.2.2.2.2 gX9_twin_X9_in rfl rfl rfl (by decide +kernel) ⟨Nat.le_of_ble_eq_true rfl, Nat.le_of_ble_eq_true rfl⟩) rfl rfl (Nat.le_of_ble_eq_true rfl) dX9_twin_111 (fun r14 z13 h => ?_)
          refine zk_if_eq X (tgt := 148) dX9_twin_114 (by decide) h (fun h => ?_) (fun h => ?_)
          · exact zk_sub [1, 2, 3, 4, 5, 7, 8, 0] rfl (B148 _ ih _ _ _ _ _ _ _ _ h)
          · refine zk_iload X 7 dX9_twin_117 rfl ?_
            refine zk_iload X 0 dX9_twin_119 rfl ?_
            refine zk_iconst X (v := 0) dX9_twin_121 (by decide) ?_
            refine zk_iload X 5 dX9_twin_122 rfl ?_
            refine zk_iconst X (v := 1) dX9_twin_124 (by decide) ?_
            refine zk_isub X dX9_twin_125 ?_
            refine zk_si X h (fun rr zz hf => ct_X9_in l E hi (z.1 41 0 ((40 * a2) + a7).toNatClampNeg) 0 (a4 - 1) _ rr zz hf) (va_cwS 3 X.1.2.2.2.2 gX9_twin_X9_in rfl rfl rfl (by decide +kernel) ⟨Nat.le_of_ble_eq_true rfl, Nat.le_of_ble_eq_true rfl⟩) rfl rfl (Nat.le_of_ble_eq_true rfl) dX9_twin_126 (fun r16 z15 h => ?_)
            refine zk_if_eq X (tgt := 137) dX9_twin_129 (by decide) h (fun h => ?_) (fun h => ?_)
            · refine zk_iconst X (v := 0) dX9_twin_137 (by decide) ?_
              exact zk_sub [1, 2, 3, 4, 5, 7, 8, 0] rfl (B138 _ ih _ _ _ _ _ _ _ _ _ _ h)
            · refine zk_iload X 0 dX9_twin_132 rfl ?_
              refine zk_goto X (tgt := 138) dX9_twin_134 (by decide) ?_
              exact zk_sub [1, 2, 3, 4, 5, 7, 8, 0] rfl (B138 _ ih _ _ _ _ _ _ _ _ _ _ h)
  have B70 : ∀ (a1 : Int32) (a2 : Int32) (a3 : Int32) (a4 : Int32) (s0 : Int32) (z : zk_Z), fX9_twin_B70 a1 a2 a3 a4 s0 z = some (r, z') → zk_G p l e (headSpec wsX9_twin { frames := 2, cells := 0, slots := 0, locals := 43 }).room s m args below meth c E 11 0 0 (MQ below (zk_Qi E r z') args s 0 0 (zk_A E)) 70 [(0, .ref (E.2.1 20 0)), (1, .int a1), (2, .int a2), (3, .int a3), (4, .int a4)] [.int s0] z := by
    intro a1 a2 a3 a4 s0 z h
    unfold fX9_twin_B70 at h
    refine zk_istore X (lv' := [(5, .int s0), (0, .ref (E.2.1 20 0)), (1, .int a1), (2, .int a2), (3, .int a3), (4, .int a4)]) dX9_twin_70 (by decide) rfl ?_
    refine zk_iconst X (v := 0) dX9_twin_72 (by decide) ?_
    refine zk_istore X (lv' := [(6, .int 0), (5, .int s0), (0, .ref (E.2.1 20 0)), (1, .int a1), (2, .int a2), (3, .int a3), (4, .int a4)]) dX9_twin_73 (by decide) rfl ?_
    refine zk_iconst X (v := 0) dX9_twin_75 (by decide) ?_
    refine zk_istore X (lv' := [(7, .int 0), (6, .int 0), (5, .int s0), (0, .ref (E.2.1 20 0)), (1, .int a1), (2, .int a2), (3, .int a3), (4, .int a4)]) dX9_twin_76 (by decide) rfl ?_
    exact zk_sub [3, 4, 5, 6, 7, 2, 1, 0] rfl (L78 _ _ _ _ _ _ _ _ _ h)
  have B69 : ∀ (a1 : Int32) (a2 : Int32) (a3 : Int32) (a4 : Int32) (z : zk_Z), fX9_twin_B69 a1 a2 a3 a4 z = some (r, z') → zk_G p l e (headSpec wsX9_twin { frames := 2, cells := 0, slots := 0, locals := 43 }).room s m args below meth c E 11 0 0 (MQ below (zk_Qi E r z') args s 0 0 (zk_A E)) 69 [(0, .ref (E.2.1 20 0)), (1, .int a1), (2, .int a2), (3, .int a3), (4, .int a4)] [] z := by
    intro a1 a2 a3 a4 z h
    unfold fX9_twin_B69 at h
    refine zk_iconst X (v := 0) dX9_twin_69 (by decide) ?_
    exact zk_sub [0, 1, 2, 3, 4] rfl (B70 _ _ _ _ _ _ h)
  unfold fX9_twin at h
  refine zk_aload_n X 0 dX9_twin_0 rfl rfl ?_
  refine zk_iload_n X 1 dX9_twin_1 rfl rfl ?_
  refine zk_vi X h (fun rr zz hf => ct_X9_isTask l E hi  x1 _ rr zz hf) (cwV 1 X.1.2.2.2.2 gX9_twin_X9_isTask rfl rfl rfl (by decide +kernel) ⟨Nat.le_of_ble_eq_true rfl, Nat.le_of_ble_eq_true rfl⟩) (zk_recv X (g := 20) (Nat.zero_lt_one) rfl rfl) rfl rfl (Nat.le_of_ble_eq_true rfl) dX9_twin_2 (fun r2 z1 h => ?_)
  refine zk_if_eq X (tgt := 17) dX9_twin_5 (by decide) h (fun h => ?_) (fun h => ?_)
  · refine zk_iconst X (v := -1) dX9_twin_17 (by decide) ?_
    exact zk_ireturn X hr dX9_twin_18 h
  · refine zk_iload_n X 2 dX9_twin_8 rfl rfl ?_
    refine zk_iconst X (v := 0) dX9_twin_9 (by decide) ?_
    refine zk_iconst X (v := 3) dX9_twin_10 (by decide) ?_
    refine zk_si X h (fun rr zz hf => ct_X9_in l E hi  x2 0 3 _ rr zz hf) (va_cwS 3 X.1.2.2.2.2 gX9_twin_X9_in rfl rfl rfl (by decide +kernel) ⟨Nat.le_of_ble_eq_true rfl, Nat.le_of_ble_eq_true rfl⟩) rfl rfl (Nat.le_of_ble_eq_true rfl) dX9_twin_11 (fun r4 z3 h => ?_)
    refine zk_if_ne X (tgt := 19) dX9_twin_14 (by decide) h (fun h => ?_) (fun h => ?_)
    · refine zk_iconst X (v := -1) dX9_twin_17 (by decide) ?_
      exact zk_ireturn X hr dX9_twin_18 h
    · refine zk_aload_n X 0 dX9_twin_19 rfl rfl ?_
      refine zk_get X iX9 (g := 20) (Nat.zero_lt_one) rfl rfl 24 (by decide) w0 rfl dX9_twin_20 ?_
      refine zk_iload_n X 2 dX9_twin_23 rfl rfl ?_
      refine zk_iald X (g := 39) (Nat.zero_lt_one) rfl dX9_twin_24 h (fun h => ?_)
      refine zk_iconst X (v := -1) dX9_twin_25 (by decide) ?_
      refine zk_icmp_ne X (tgt := 32) dX9_twin_26 (by decide) h (fun h => ?_) (fun h => ?_)
      · refine zk_bipush X (v := -11) dX9_twin_29 (by decide) ?_
        exact zk_ireturn X hr dX9_twin_31 h
      · refine zk_aload_n X 0 dX9_twin_32 rfl rfl ?_
        refine zk_get X iX9 (g := 20) (Nat.zero_lt_one) rfl rfl 10 (by decide) w1 rfl dX9_twin_33 ?_
        refine zk_iload_n X 1 dX9_twin_36 rfl rfl ?_
        refine zk_iald X (g := 28) (Nat.zero_lt_one) rfl dX9_twin_37 h (fun h => ?_)
        refine zk_istore X (lv' := [(4, .int (z3.1 28 0 x1.toNatClampNeg)), (0, .ref (E.2.1 20 0)), (1, .int x1), (2, .int x2), (3, .int x3)]) dX9_twin_38 (by decide) rfl ?_
        refine zk_aload_n X 1 dX9_twin_40 rfl rfl ?_
        refine zk_get X iX9 (g := 20) (Nat.zero_lt_one) rfl rfl 25 (by decide) w2 rfl dX9_twin_41 ?_
        refine zk_iload_n X 3 dX9_twin_44 rfl rfl ?_
        refine zk_iald X (g := 40) (Nat.zero_lt_one) rfl dX9_twin_45 h (fun h => ?_)
        refine zk_iload X 0 dX9_twin_46 rfl ?_
        refine zk_icmp_ne X (tgt := 69) dX9_twin_48 (by decide) h (fun h => ?_) (fun h => ?_)
        · refine zk_iload_n X 4 dX9_twin_51 rfl rfl ?_
          refine zk_iconst X (v := 0) dX9_twin_52 (by decide) ?_
          refine zk_iconst X (v := 1) dX9_twin_53 (by decide) ?_
          refine zk_iload X 0 dX9_twin_54 rfl ?_
          refine zk_ishl X dX9_twin_56 ?_
          refine zk_iconst X (v := 1) dX9_twin_57 (by decide) ?_
          refine zk_isub X dX9_twin_58 ?_
          refine zk_si X h (fun rr zz hf => ct_X9_in l E hi  x3 0 (((1 : Int32) <<< ((z3.1 28 0 x1.toNatClampNeg) &&& 31)) - 1) _ rr zz hf) (va_cwS 3 X.1.2.2.2.2 gX9_twin_X9_in rfl rfl rfl (by decide +kernel) ⟨Nat.le_of_ble_eq_true rfl, Nat.le_of_ble_eq_true rfl⟩) rfl rfl (Nat.le_of_ble_eq_true rfl) dX9_twin_59 (fun r6 z5 h => ?_)
          refine zk_if_eq X (tgt := 69) dX9_twin_62 (by decide) h (fun h => ?_) (fun h => ?_)
          · exact zk_sub [1, 2, 3, 4, 0] rfl (B69  _ _ _ _ _ h)
          · refine zk_iconst X (v := 1) dX9_twin_65 (by decide) ?_
            refine zk_goto X (tgt := 70) dX9_twin_66 (by decide) ?_
            exact zk_sub [1, 2, 3, 4, 0] rfl (B70  _ _ _ _ _ _ h)
        · exact zk_sub [1, 2, 3, 4, 0] rfl (B69  _ _ _ _ _ h)
def fX9_wild_L268 : Nat → Int32 → Int32 → zk_Z → Option (Int32 × zk_Z)
  | 0, _, _, _ => none
  | n + 1, a3, a5, z => zk_gd (zk_ix (z.1 20 0 8) 9) (if (z.1 29 0 (z.1 20 0 8).toNatClampNeg) ≤ a5 then some (((zk_sI z 20 0 8 ((z.1 20 0 8) + 1)).1 20 0 8) - 1, zk_sI z 20 0 8 ((z.1 20 0 8) + 1)) else zk_gd (zk_ix ((40 * a3) + (2 * a5)) 160) (zk_gd (zk_ix ((24 * (z.1 20 0 8)) + a5) 216) (zk_gd (zk_ix (((40 * a3) + (2 * a5)) + 1) 160) (zk_gd (zk_ix ((24 * ((zk_sI z 33 0 ((24 * (z.1 20 0 8)) + a5).toNatClampNeg (z.1 41 0 ((40 * a3) + (2 * a5)).toNatClampNeg)).1 20 0 8)) + a5) 216) ((fX9_wild_L268 n) a3 (a5 + 1) (zk_sI (zk_sI z 33 0 ((24 * (z.1 20 0 8)) + a5).toNatClampNeg (z.1 41 0 ((40 * a3) + (2 * a5)).toNatClampNeg)) 34 0 ((24 * ((zk_sI z 33 0 ((24 * (z.1 20 0 8)) + a5).toNatClampNeg (z.1 41 0 ((40 * a3) + (2 * a5)).toNatClampNeg)).1 20 0 8)) + a5).toNatClampNeg ((zk_sI z 33 0 ((24 * (z.1 20 0 8)) + a5).toNatClampNeg (z.1 41 0 ((40 * a3) + (2 * a5)).toNatClampNeg)).1 41 0 (((40 * a3) + (2 * a5)) + 1).toNatClampNeg)))))))
def fX9_wild_B178 (a1 : Int32) (a2 : Int32) (a3 : Int32) (a4 : Int32) (z : zk_Z) : Option (Int32 × zk_Z) := if a4 = 0 then some ((-2), z) else if (z.1 20 0 8) = 8 then some ((-4), z) else zk_gd (zk_ix (z.1 20 0 8) 9) (zk_gd (zk_ix ((zk_sI z 27 0 (z.1 20 0 8).toNatClampNeg a1).1 20 0 8) 9) (zk_gd (zk_ix a3 4) (zk_gd (zk_ix ((zk_sI (zk_sI z 27 0 (z.1 20 0 8).toNatClampNeg a1) 28 0 ((zk_sI z 27 0 (z.1 20 0 8).toNatClampNeg a1).1 20 0 8).toNatClampNeg a2).1 20 0 8) 9) (zk_gd (zk_ix ((zk_sI (zk_sI (zk_sI z 27 0 (z.1 20 0 8).toNatClampNeg a1) 28 0 ((zk_sI z 27 0 (z.1 20 0 8).toNatClampNeg a1).1 20 0 8).toNatClampNeg a2) 29 0 ((zk_sI (zk_sI z 27 0 (z.1 20 0 8).toNatClampNeg a1) 28 0 ((zk_sI z 27 0 (z.1 20 0 8).toNatClampNeg a1).1 20 0 8).toNatClampNeg a2).1 20 0 8).toNatClampNeg (((zk_sI (zk_sI z 27 0 (z.1 20 0 8).toNatClampNeg a1) 28 0 ((zk_sI z 27 0 (z.1 20 0 8).toNatClampNeg a1).1 20 0 8).toNatClampNeg a2).1 40 0 a3.toNatClampNeg) / 2)).1 20 0 8) 9) (zk_gd (zk_ix ((zk_sI (zk_sI (zk_sI (zk_sI z 27 0 (z.1 20 0 8).toNatClampNeg a1) 28 0 ((zk_sI z 27 0 (z.1 20 0 8).toNatClampNeg a1).1 20 0 8).toNatClampNeg a2) 29 0 ((zk_sI (zk_sI z 27 0 (z.1 20 0 8).toNatClampNeg a1) 28 0 ((zk_sI z 27 0 (z.1 20 0 8).toNatClampNeg a1).1 20 0 8).toNatClampNeg a2).1 20 0 8).toNatClampNeg (((zk_sI (zk_sI z 27 0 (z.1 20 0 8).toNatClampNeg a1) 28 0 ((zk_sI z 27 0 (z.1 20 0 8).toNatClampNeg a1).1 20 0 8).toNatClampNeg a2).1 40 0 a3.toNatClampNeg) / 2)) 30 0 ((zk_sI (zk_sI (zk_sI z 27 0 (z.1 20 0 8).toNatClampNeg a1) 28 0 ((zk_sI z 27 0 (z.1 20 0 8).toNatClampNeg a1).1 20 0 8).toNatClampNeg a2) 29 0 ((zk_sI (zk_sI z 27 0 (z.1 20 0 8).toNatClampNeg a1) 28 0 ((zk_sI z 27 0 (z.1 20 0 8).toNatClampNeg a1).1 20 0 8).toNatClampNeg a2).1 20 0 8).toNatClampNeg (((zk_sI (zk_sI z 27 0 (z.1 20 0 8).toNatClampNeg a1) 28 0 ((zk_sI z 27 0 (z.1 20 0 8).toNatClampNeg a1).1 20 0 8).toNatClampNeg a2).1 40 0 a3.toNatClampNeg) / 2)).1 20 0 8).toNatClampNeg (-1)).1 20 0 8) 9) (zk_gd (zk_ix ((zk_sI (zk_sI (zk_sI (zk_sI (zk_sI z 27 0 (z.1 20 0 8).toNatClampNeg a1) 28 0 ((zk_sI z 27 0 (z.1 20 0 8).toNatClampNeg a1).1 20 0 8).toNatClampNeg a2) 29 0 ((zk_sI (zk_sI z 27 0 (z.1 20 0 8).toNatClampNeg a1) 28 0 ((zk_sI z 27 0 (z.1 20 0 8).toNatClampNeg a1).1 20 0 8).toNatClampNeg a2).1 20 0 8).toNatClampNeg (((zk_sI (zk_sI z 27 0 (z.1 20 0 8).toNatClampNeg a1) 28 0 ((zk_sI z 27 0 (z.1 20 0 8).toNatClampNeg a1).1 20 0 8).toNatClampNeg a2).1 40 0 a3.toNatClampNeg) / 2)) 30 0 ((zk_sI (zk_sI (zk_sI z 27 0 (z.1 20 0 8).toNatClampNeg a1) 28 0 ((zk_sI z 27 0 (z.1 20 0 8).toNatClampNeg a1).1 20 0 8).toNatClampNeg a2) 29 0 ((zk_sI (zk_sI z 27 0 (z.1 20 0 8).toNatClampNeg a1) 28 0 ((zk_sI z 27 0 (z.1 20 0 8).toNatClampNeg a1).1 20 0 8).toNatClampNeg a2).1 20 0 8).toNatClampNeg (((zk_sI (zk_sI z 27 0 (z.1 20 0 8).toNatClampNeg a1) 28 0 ((zk_sI z 27 0 (z.1 20 0 8).toNatClampNeg a1).1 20 0 8).toNatClampNeg a2).1 40 0 a3.toNatClampNeg) / 2)).1 20 0 8).toNatClampNeg (-1)) 31 0 ((zk_sI (zk_sI (zk_sI (zk_sI z 27 0 (z.1 20 0 8).toNatClampNeg a1) 28 0 ((zk_sI z 27 0 (z.1 20 0 8).toNatClampNeg a1).1 20 0 8).toNatClampNeg a2) 29 0 ((zk_sI (zk_sI z 27 0 (z.1 20 0 8).toNatClampNeg a1) 28 0 ((zk_sI z 27 0 (z.1 20 0 8).toNatClampNeg a1).1 20 0 8).toNatClampNeg a2).1 20 0 8).toNatClampNeg (((zk_sI (zk_sI z 27 0 (z.1 20 0 8).toNatClampNeg a1) 28 0 ((zk_sI z 27 0 (z.1 20 0 8).toNatClampNeg a1).1 20 0 8).toNatClampNeg a2).1 40 0 a3.toNatClampNeg) / 2)) 30 0 ((zk_sI (zk_sI (zk_sI z 27 0 (z.1 20 0 8).toNatClampNeg a1) 28 0 ((zk_sI z 27 0 (z.1 20 0 8).toNatClampNeg a1).1 20 0 8).toNatClampNeg a2) 29 0 ((zk_sI (zk_sI z 27 0 (z.1 20 0 8).toNatClampNeg a1) 28 0 ((zk_sI z 27 0 (z.1 20 0 8).toNatClampNeg a1).1 20 0 8).toNatClampNeg a2).1 20 0 8).toNatClampNeg (((zk_sI (zk_sI z 27 0 (z.1 20 0 8).toNatClampNeg a1) 28 0 ((zk_sI z 27 0 (z.1 20 0 8).toNatClampNeg a1).1 20 0 8).toNatClampNeg a2).1 40 0 a3.toNatClampNeg) / 2)).1 20 0 8).toNatClampNeg (-1)).1 20 0 8).toNatClampNeg (-1)).1 20 0 8) 9) (fX9_wild_L268 zk_FU a3 0 (zk_sI (zk_sI (zk_sI (zk_sI (zk_sI (zk_sI z 27 0 (z.1 20 0 8).toNatClampNeg a1) 28 0 ((zk_sI z 27 0 (z.1 20 0 8).toNatClampNeg a1).1 20 0 8).toNatClampNeg a2) 29 0 ((zk_sI (zk_sI z 27 0 (z.1 20 0 8).toNatClampNeg a1) 28 0 ((zk_sI z 27 0 (z.1 20 0 8).toNatClampNeg a1).1 20 0 8).toNatClampNeg a2).1 20 0 8).toNatClampNeg (((zk_sI (zk_sI z 27 0 (z.1 20 0 8).toNatClampNeg a1) 28 0 ((zk_sI z 27 0 (z.1 20 0 8).toNatClampNeg a1).1 20 0 8).toNatClampNeg a2).1 40 0 a3.toNatClampNeg) / 2)) 30 0 ((zk_sI (zk_sI (zk_sI z 27 0 (z.1 20 0 8).toNatClampNeg a1) 28 0 ((zk_sI z 27 0 (z.1 20 0 8).toNatClampNeg a1).1 20 0 8).toNatClampNeg a2) 29 0 ((zk_sI (zk_sI z 27 0 (z.1 20 0 8).toNatClampNeg a1) 28 0 ((zk_sI z 27 0 (z.1 20 0 8).toNatClampNeg a1).1 20 0 8).toNatClampNeg a2).1 20 0 8).toNatClampNeg (((zk_sI (zk_sI z 27 0 (z.1 20 0 8).toNatClampNeg a1) 28 0 ((zk_sI z 27 0 (z.1 20 0 8).toNatClampNeg a1).1 20 0 8).toNatClampNeg a2).1 40 0 a3.toNatClampNeg) / 2)).1 20 0 8).toNatClampNeg (-1)) 31 0 ((zk_sI (zk_sI (zk_sI (zk_sI z 27 0 (z.1 20 0 8).toNatClampNeg a1) 28 0 ((zk_sI z 27 0 (z.1 20 0 8).toNatClampNeg a1).1 20 0 8).toNatClampNeg a2) 29 0 ((zk_sI (zk_sI z 27 0 (z.1 20 0 8).toNatClampNeg a1) 28 0 ((zk_sI z 27 0 (z.1 20 0 8).toNatClampNeg a1).1 20 0 8).toNatClampNeg a2).1 20 0 8).toNatClampNeg (((zk_sI (zk_sI z 27 0 (z.1 20 0 8).toNatClampNeg a1) 28 0 ((zk_sI z 27 0 (z.1 20 0 8).toNatClampNeg a1).1 20 0 8).toNatClampNeg a2).1 40 0 a3.toNatClampNeg) / 2)) 30 0 ((zk_sI (zk_sI (zk_sI z 27 0 (z.1 20 0 8).toNatClampNeg a1) 28 0 ((zk_sI z 27 0 (z.1 20 0 8).toNatClampNeg a1).1 20 0 8).toNatClampNeg a2) 29 0 ((zk_sI (zk_sI z 27 0 (z.1 20 0 8).toNatClampNeg a1) 28 0 ((zk_sI z 27 0 (z.1 20 0 8).toNatClampNeg a1).1 20 0 8).toNatClampNeg a2).1 20 0 8).toNatClampNeg (((zk_sI (zk_sI z 27 0 (z.1 20 0 8).toNatClampNeg a1) 28 0 ((zk_sI z 27 0 (z.1 20 0 8).toNatClampNeg a1).1 20 0 8).toNatClampNeg a2).1 40 0 a3.toNatClampNeg) / 2)).1 20 0 8).toNatClampNeg (-1)).1 20 0 8).toNatClampNeg (-1)) 32 0 ((zk_sI (zk_sI (zk_sI (zk_sI (zk_sI z 27 0 (z.1 20 0 8).toNatClampNeg a1) 28 0 ((zk_sI z 27 0 (z.1 20 0 8).toNatClampNeg a1).1 20 0 8).toNatClampNeg a2) 29 0 ((zk_sI (zk_sI z 27 0 (z.1 20 0 8).toNatClampNeg a1) 28 0 ((zk_sI z 27 0 (z.1 20 0 8).toNatClampNeg a1).1 20 0 8).toNatClampNeg a2).1 20 0 8).toNatClampNeg (((zk_sI (zk_sI z 27 0 (z.1 20 0 8).toNatClampNeg a1) 28 0 ((zk_sI z 27 0 (z.1 20 0 8).toNatClampNeg a1).1 20 0 8).toNatClampNeg a2).1 40 0 a3.toNatClampNeg) / 2)) 30 0 ((zk_sI (zk_sI (zk_sI z 27 0 (z.1 20 0 8).toNatClampNeg a1) 28 0 ((zk_sI z 27 0 (z.1 20 0 8).toNatClampNeg a1).1 20 0 8).toNatClampNeg a2) 29 0 ((zk_sI (zk_sI z 27 0 (z.1 20 0 8).toNatClampNeg a1) 28 0 ((zk_sI z 27 0 (z.1 20 0 8).toNatClampNeg a1).1 20 0 8).toNatClampNeg a2).1 20 0 8).toNatClampNeg (((zk_sI (zk_sI z 27 0 (z.1 20 0 8).toNatClampNeg a1) 28 0 ((zk_sI z 27 0 (z.1 20 0 8).toNatClampNeg a1).1 20 0 8).toNatClampNeg a2).1 40 0 a3.toNatClampNeg) / 2)).1 20 0 8).toNatClampNeg (-1)) 31 0 ((zk_sI (zk_sI (zk_sI (zk_sI z 27 0 (z.1 20 0 8).toNatClampNeg a1) 28 0 ((zk_sI z 27 0 (z.1 20 0 8).toNatClampNeg a1).1 20 0 8).toNatClampNeg a2) 29 0 ((zk_sI (zk_sI z 27 0 (z.1 20 0 8).toNatClampNeg a1) 28 0 ((zk_sI z 27 0 (z.1 20 0 8).toNatClampNeg a1).1 20 0 8).toNatClampNeg a2).1 20 0 8).toNatClampNeg (((zk_sI (zk_sI z 27 0 (z.1 20 0 8).toNatClampNeg a1) 28 0 ((zk_sI z 27 0 (z.1 20 0 8).toNatClampNeg a1).1 20 0 8).toNatClampNeg a2).1 40 0 a3.toNatClampNeg) / 2)) 30 0 ((zk_sI (zk_sI (zk_sI z 27 0 (z.1 20 0 8).toNatClampNeg a1) 28 0 ((zk_sI z 27 0 (z.1 20 0 8).toNatClampNeg a1).1 20 0 8).toNatClampNeg a2) 29 0 ((zk_sI (zk_sI z 27 0 (z.1 20 0 8).toNatClampNeg a1) 28 0 ((zk_sI z 27 0 (z.1 20 0 8).toNatClampNeg a1).1 20 0 8).toNatClampNeg a2).1 20 0 8).toNatClampNeg (((zk_sI (zk_sI z 27 0 (z.1 20 0 8).toNatClampNeg a1) 28 0 ((zk_sI z 27 0 (z.1 20 0 8).toNatClampNeg a1).1 20 0 8).toNatClampNeg a2).1 40 0 a3.toNatClampNeg) / 2)).1 20 0 8).toNatClampNeg (-1)).1 20 0 8).toNatClampNeg (-1)).1 20 0 8).toNatClampNeg (-1)))))))))
def fX9_wild_B170 (c67 : Int32 → Int32 → Int32 → Int32 → Int32 → zk_Z → Option (Int32 × zk_Z)) (a1 : Int32) (a2 : Int32) (a3 : Int32) (a5 : Int32) (s0 : Int32) (z : zk_Z) : Option (Int32 × zk_Z) := c67 a1 a2 a3 s0 (a5 + 2) z
def fX9_wild_B169 (c67 : Int32 → Int32 → Int32 → Int32 → Int32 → zk_Z → Option (Int32 × zk_Z)) (a1 : Int32) (a2 : Int32) (a3 : Int32) (a5 : Int32) (z : zk_Z) : Option (Int32 × zk_Z) := fX9_wild_B170 c67 a1 a2 a3 a5 0 z
def fX9_wild_B113 (c67 : Int32 → Int32 → Int32 → Int32 → Int32 → zk_Z → Option (Int32 × zk_Z)) (a1 : Int32) (a2 : Int32) (a3 : Int32) (a5 : Int32) (a6 : Int32) (a7 : Int32) (z : zk_Z) : Option (Int32 × zk_Z) := zk_bd (fX9_in a6 0 (((1 : Int32) <<< (a2 &&& 31)) - 1) z) (fun r8 z7 => if r8 = 0 then fX9_wild_B169 c67 a1 a2 a3 a5 z7 else zk_bd (fX9_in a7 0 (((1 : Int32) <<< (a2 &&& 31)) - 1) z7) (fun r10 z9 => if r10 = 0 then fX9_wild_B169 c67 a1 a2 a3 a5 z9 else if (a6 &&& a7) = 0 then zk_bd (fX9_ones (a6 ||| a7) z9) (fun r12 z11 => zk_bd (fX9_in r12 1 3 z11) (fun r14 z13 => if r14 = 0 then fX9_wild_B169 c67 a1 a2 a3 a5 z13 else fX9_wild_B170 c67 a1 a2 a3 a5 1 z13)) else fX9_wild_B169 c67 a1 a2 a3 a5 z9))
def fX9_wild_L67 : Nat → Int32 → Int32 → Int32 → Int32 → Int32 → zk_Z → Option (Int32 × zk_Z)
  | 0, _, _, _, _, _, _ => none
  | n + 1, a1, a2, a3, a4, a5, z => zk_gd (zk_ix a3 4) (if (z.1 40 0 a3.toNatClampNeg) ≤ a5 then fX9_wild_B178 a1 a2 a3 a4 z else if a4 = 0 then fX9_wild_B178 a1 a2 a3 a4 z else zk_gd (zk_ix ((40 * a3) + a5) 160) (zk_gd (zk_ix (((40 * a3) + a5) + 1) 160) (fX9_wild_B113 (fX9_wild_L67 n) a1 a2 a3 a5 (z.1 41 0 ((40 * a3) + a5).toNatClampNeg) (z.1 41 0 (((40 * a3) + a5) + 1).toNatClampNeg) z)))
def fX9_wild_B62 (a1 : Int32) (a2 : Int32) (a3 : Int32) (s0 : Int32) (z : zk_Z) : Option (Int32 × zk_Z) := fX9_wild_L67 zk_FU a1 a2 a3 s0 0 z
def fX9_wild (x1 : Int32) (x2 : Int32) (x3 : Int32) (z : zk_Z) : Option (Int32 × zk_Z) := zk_bd (fX9_in x3 0 3 z) (fun r2 z1 => if r2 = 0 then some ((-1), z1) else zk_bd (fX9_in x1 0 5 z1) (fun r4 z3 => if r4 = 0 then some ((-2), z3) else zk_bd (fX9_in x2 1 10 z3) (fun r6 z5 => if r6 = 0 then some ((-2), z5) else zk_gd (zk_ix x3 4) (if (z5.1 39 0 x3.toNatClampNeg) = (-1) then some ((-11), z5) else zk_gd (zk_ix x3 4) (if ((z5.1 40 0 x3.toNatClampNeg) - (z5.1 40 0 x3.toNatClampNeg) / 2 * 2) = 0 then fX9_wild_B62 x1 x2 x3 1 z5 else fX9_wild_B62 x1 x2 x3 0 z5)))))
set_option maxRecDepth 100000 in
set_option maxHeartbeats 8000000 in
theorem ct_X9_wild (l : Launch) (E : zk_E) (hi : zk_inj E) (x1 : Int32) (x2 : Int32) (x3 : Int32) (z : zk_Z) (r : Int32) (z' : zk_Z) (h : fX9_wild  x1 x2 x3 z = some (r, z')) : Met l yX9_wild wsX9_wild { frames := 1, cells := 0, slots := 0, locals := 22 } (va_Pc [.ref (E.2.1 20 0), .int x1, .int x2, .int x3] (zk_W E z)) (zk_Qi E r z') 0 0 (zk_A E) := by
  refine zk_met (cc := cX9_wild) (maxL := 8) (ret := (some .int)) (own := RX9) (by decide) rfl rfl hi (Nat.le_of_ble_eq_true rfl) ?_
  intro p e s m args below meth c X hr
  have iX9 : ∀ w ∈ u_ws RX9 TX9 32, w ∈ wsX9_wild := by decide +kernel
  have w0 : Cond.fieldLink RX9 64 "HiddenWorksModel" "sheetSort" "[I" ∈ wsX9_wild := by decide +kernel
  have w1 : Cond.fieldLink RX9 67 "HiddenWorksModel" "sheetSize" "[I" ∈ wsX9_wild := by decide +kernel
  have w2 : Cond.fieldLink RX9 152 "HiddenWorksModel" "tasks" "I" ∈ wsX9_wild := by decide +kernel
  have w3 : Cond.fieldLink RX9 28 "HiddenWorksModel" "kind" "[I" ∈ wsX9_wild := by decide +kernel
  have w4 : Cond.fieldLink RX9 31 "HiddenWorksModel" "letters" "[I" ∈ wsX9_wild := by decide +kernel
  have w5 : Cond.fieldLink RX9 34 "HiddenWorksModel" "clauses" "[I" ∈ wsX9_wild := by decide +kernel
  have w6 : Cond.fieldLink RX9 37 "HiddenWorksModel" "hidden" "[I" ∈ wsX9_wild := by decide +kernel
  have w7 : Cond.fieldLink RX9 40 "HiddenWorksModel" "recipeOf" "[I" ∈ wsX9_wild := by decide +kernel
  have w8 : Cond.fieldLink RX9 43 "HiddenWorksModel" "seedOf" "[I" ∈ wsX9_wild := by decide +kernel
  have w9 : Cond.fieldLink RX9 46 "HiddenWorksModel" "plain" "[I" ∈ wsX9_wild := by decide +kernel
  have w10 : Cond.fieldLink RX9 70 "HiddenWorksModel" "cells" "[I" ∈ wsX9_wild := by decide +kernel
  have w11 : Cond.fieldLink RX9 49 "HiddenWorksModel" "against" "[I" ∈ wsX9_wild := by decide +kernel
  have L268 : ∀ (n : Nat) (a3 : Int32) (a5 : Int32) (z : zk_Z), fX9_wild_L268 n a3 a5 z = some (r, z') → zk_G p l e (headSpec wsX9_wild { frames := 1, cells := 0, slots := 0, locals := 22 }).room s m args below meth c E 8 0 0 (MQ below (zk_Qi E r z') args s 0 0 (zk_A E)) 268 [(0, .ref (E.2.1 20 0)), (3, .int a3), (5, .int a5)] [] z := by
    intro n
    induction n with
    | zero => intro a3 a5 z h; exact absurd h (by simp [fX9_wild_L268])
    | succ n ih =>
      intro a3 a5 z h
      rw [fX9_wild_L268] at h
      refine zk_iload X 2 dX9_wild_268 rfl ?_
      refine zk_aload_n X 0 dX9_wild_270 rfl rfl ?_
      refine zk_get X iX9 (g := 20) (Nat.zero_lt_one) rfl rfl 11 (by decide) w5 rfl dX9_wild_271 ?_
      refine zk_aload_n X 0 dX9_wild_274 rfl rfl ?_
      refine zk_get X iX9 (g := 20) (Nat.zero_lt_one) rfl rfl 8 (by decide) w2 rfl dX9_wild_275 ?_
      refine zk_iald X (g := 29) (Nat.zero_lt_one) rfl dX9_wild_278 h (fun h => ?_)
      refine zk_icmp_ge X (tgt := 348) dX9_wild_279 (by decide) h (fun h => ?_) (fun h => ?_)
      · refine zk_aload_n X 0 dX9_wild_348 rfl rfl ?_
        refine zk_dup X dX9_wild_349 rfl ?_
        refine zk_get X iX9 (g := 20) (Nat.zero_lt_one) rfl rfl 8 (by decide) w2 rfl dX9_wild_350 ?_
        refine zk_iconst X (v := 1) dX9_wild_353 (by decide) ?_
        refine zk_iadd X dX9_wild_354 ?_
        refine zk_putI X (ty := .int) iX9 tyX9 tyX9_ok nmX9 (g := 20) (Nat.zero_lt_one) rfl rfl 8 (by decide) w2 rfl (by decide +kernel) rfl rfl (Nat.le_of_ble_eq_true rfl) rfl dX9_wild_355 ?_
        refine zk_aload_n X 0 dX9_wild_358 rfl rfl ?_
        refine zk_get X iX9 (g := 20) (Nat.zero_lt_one) rfl rfl 8 (by decide) w2 rfl dX9_wild_359 ?_
        refine zk_iconst X (v := 1) dX9_wild_362 (by decide) ?_
        refine zk_isub X dX9_wild_363 ?_
        exact zk_ireturn X hr dX9_wild_364 h
      · refine zk_aload_n X 0 dX9_wild_282 rfl rfl ?_
        refine zk_get X iX9 (g := 20) (Nat.zero_lt_one) rfl rfl 15 (by decide) w9 rfl dX9_wild_283 ?_
        refine zk_bipush X (v := 24) dX9_wild_286 (by decide) ?_
        refine zk_aload_n X 0 dX9_wild_288 rfl rfl ?_
        refine zk_get X iX9 (g := 20) (Nat.zero_lt_one) rfl rfl 8 (by decide) w2 rfl dX9_wild_289 ?_
        refine zk_imul X dX9_wild_292 ?_
        refine zk_iload X 2 dX9_wild_293 rfl ?_
        refine zk_iadd X dX9_wild_295 ?_
        refine zk_aload_n X 0 dX9_wild_296 rfl rfl ?_
        refine zk_get X iX9 (g := 20) (Nat.zero_lt_one) rfl rfl 26 (by decide) w10 rfl dX9_wild_297 ?_
        refine zk_bipush X (v := 40) dX9_wild_300 (by decide) ?_
        refine zk_iload_n X 1 dX9_wild_302 rfl rfl ?_
        refine zk_imul X dX9_wild_303 ?_
        refine zk_iconst X (v := 2) dX9_wild_304 (by decide) ?_
        refine zk_iload X 2 dX9_wild_305 rfl ?_
        refine zk_imul X dX9_wild_307 ?_
        refine zk_iadd X dX9_wild_308 ?_
        refine zk_iald X (g := 41) (Nat.zero_lt_one) rfl dX9_wild_309 h (fun h => ?_)
        refine zk_iast X (g := 33) (Nat.zero_lt_one) rfl rfl dX9_wild_310 h (fun h => ?_)
        refine zk_aload_n X 0 dX9_wild_311 rfl rfl ?_
        refine zk_get X iX9 (g := 20) (Nat.zero_lt_one) rfl rfl 16 (by decide) w11 rfl dX9_wild_312 ?_
        refine zk_bipush X (v := 24) dX9_wild_315 (by decide) ?_
        refine zk_aload_n X 0 dX9_wild_317 rfl rfl ?_
        refine zk_get X iX9 (g := 20) (Nat.zero_lt_one) rfl rfl 8 (by decide) w2 rfl dX9_wild_318 ?_
        refine zk_imul X dX9_wild_321 ?_
        refine zk_iload X 2 dX9_wild_322 rfl ?_
        refine zk_iadd X dX9_wild_324 ?_
        refine zk_aload_n X 0 dX9_wild_325 rfl rfl ?_
        refine zk_get X iX9 (g := 20) (Nat.zero_lt_one) rfl rfl 26 (by decide) w10 rfl dX9_wild_326 ?_
        refine zk_bipush X (v := 40) dX9_wild_329 (by decide) ?_
        refine zk_iload_n X 1 dX9_wild_331 rfl rfl ?_
        refine zk_imul X dX9_wild_332 ?_
        refine zk_iconst X (v := 2) dX9_wild_333 (by decide) ?_
        refine zk_iload X 2 dX9_wild_334 rfl ?_
        refine zk_imul X dX9_wild_336 ?_
        refine zk_iadd X dX9_wild_337 ?_
        refine zk_iconst X (v := 1) dX9_wild_338 (by decide) ?_
        refine zk_iadd X dX9_wild_339 ?_
        refine zk_iald X (g := 41) (Nat.zero_lt_one) rfl dX9_wild_340 h (fun h => ?_)
        refine zk_iast X (g := 34) (Nat.zero_lt_one) rfl rfl dX9_wild_341 h (fun h => ?_)
        refine zk_iinc X (lv' := [(5, .int (a5 + 1)), (0, .ref (E.2.1 20 0)), (3, .int a3)]) 2 dX9_wild_342 rfl rfl (by decide) rfl ?_
        refine zk_goto X (tgt := 268) dX9_wild_345 (by decide) ?_
        exact zk_sub [1, 2, 0] rfl (ih _ _ _ h)
  have B178 : ∀ (a1 : Int32) (a2 : Int32) (a3 : Int32) (a4 : Int32) (z : zk_Z), fX9_wild_B178 a1 a2 a3 a4 z = some (r, z') → zk_G p l e (headSpec wsX9_wild { frames := 1, cells := 0, slots := 0, locals := 22 }).room s m args below meth c E 8 0 0 (MQ below (zk_Qi E r z') args s 0 0 (zk_A E)) 178 [(0, .ref (E.2.1 20 0)), (1, .int a1), (2, .int a2), (3, .int a3), (4, .int a4)] [] z := by
    intro a1 a2 a3 a4 z h
    unfold fX9_wild_B178 at h
    refine zk_iload X 4 dX9_wild_178 rfl ?_
    refine zk_if_ne X (tgt := 186) dX9_wild_180 (by decide) h (fun h => ?_) (fun h => ?_)
    · refine zk_bipush X (v := -2) dX9_wild_183 (by decide) ?_
      exact zk_ireturn X hr dX9_wild_185 h
    · refine zk_aload_n X 0 dX9_wild_186 rfl rfl ?_
      refine zk_get X iX9 (g := 20) (Nat.zero_lt_one) rfl rfl 8 (by decide) w2 rfl dX9_wild_187 ?_
      refine zk_bipush X (v := 8) dX9_wild_190 (by decide) ?_
      refine zk_icmp_ne X (tgt := 198) dX9_wild_192 (by decide) h (fun h => ?_) (fun h => ?_)
      · refine zk_bipush X (v := -4) dX9_wild_195 (by decide) ?_
        exact zk_ireturn X hr dX9_wild_197 h
      · refine zk_aload_n X 0 dX9_wild_198 rfl rfl ?_
        refine zk_get X iX9 (g := 20) (Nat.zero_lt_one) rfl rfl 9 (by decide) w3 rfl dX9_wild_199 ?_
        refine zk_aload_n X 0 dX9_wild_202 rfl rfl ?_
        refine zk_get X iX9 (g := 20) (Nat.zero_lt_one) rfl rfl 8 (by decide) w2 rfl dX9_wild_203 ?_
        refine zk_iload_n X 1 dX9_wild_206 rfl rfl ?_
        refine zk_iast X (g := 27) (Nat.zero_lt_one) rfl rfl dX9_wild_207 h (fun h => ?_)
        refine zk_aload_n X 0 dX9_wild_208 rfl rfl ?_
        refine zk_get X iX9 (g := 20) (Nat.zero_lt_one) rfl rfl 10 (by decide) w4 rfl dX9_wild_209 ?_
        refine zk_aload_n X 0 dX9_wild_212 rfl rfl ?_
        refine zk_get X iX9 (g := 20) (Nat.zero_lt_one) rfl rfl 8 (by decide) w2 rfl dX9_wild_213 ?_
        refine zk_iload_n X 2 dX9_wild_216 rfl rfl ?_
        refine zk_iast X (g := 28) (Nat.zero_lt_one) rfl rfl dX9_wild_217 h (fun h => ?_)
        refine zk_aload_n X 0 dX9_wild_218 rfl rfl ?_
        refine zk_get X iX9 (g := 20) (Nat.zero_lt_one) rfl rfl 11 (by decide) w5 rfl dX9_wild_219 ?_
        refine zk_aload_n X 0 dX9_wild_222 rfl rfl ?_
        refine zk_get X iX9 (g := 20) (Nat.zero_lt_one) rfl rfl 8 (by decide) w2 rfl dX9_wild_223 ?_
        refine zk_aload_n X 0 dX9_wild_226 rfl rfl ?_
        refine zk_get X iX9 (g := 20) (Nat.zero_lt_one) rfl rfl 25 (by decide) w1 rfl dX9_wild_227 ?_
        refine zk_iload_n X 3 dX9_wild_230 rfl rfl ?_
        refine zk_iald X (g := 40) (Nat.zero_lt_one) rfl dX9_wild_231 h (fun h => ?_)
        refine zk_iconst X (v := 2) dX9_wild_232 (by decide) ?_
        refine zk_idiv X (α := Unit) (a := some ()) (o := ()) dX9_wild_233 rfl (fun _ => ?_)
        refine zk_iast X (g := 29) (Nat.zero_lt_one) rfl rfl dX9_wild_234 h (fun h => ?_)
        refine zk_aload_n X 0 dX9_wild_235 rfl rfl ?_
        refine zk_get X iX9 (g := 20) (Nat.zero_lt_one) rfl rfl 12 (by decide) w6 rfl dX9_wild_236 ?_
        refine zk_aload_n X 0 dX9_wild_239 rfl rfl ?_
        refine zk_get X iX9 (g := 20) (Nat.zero_lt_one) rfl rfl 8 (by decide) w2 rfl dX9_wild_240 ?_
        refine zk_iconst X (v := -1) dX9_wild_243 (by decide) ?_
        refine zk_iast X (g := 30) (Nat.zero_lt_one) rfl rfl dX9_wild_244 h (fun h => ?_)
        refine zk_aload_n X 0 dX9_wild_245 rfl rfl ?_
        refine zk_get X iX9 (g := 20) (Nat.zero_lt_one) rfl rfl 13 (by decide) w7 rfl dX9_wild_246 ?_
        refine zk_aload_n X 0 dX9_wild_249 rfl rfl ?_
        refine zk_get X iX9 (g := 20) (Nat.zero_lt_one) rfl rfl 8 (by decide) w2 rfl dX9_wild_250 ?_
        refine zk_iconst X (v := -1) dX9_wild_253 (by decide) ?_
        refine zk_iast X (g := 31) (Nat.zero_lt_one) rfl rfl dX9_wild_254 h (fun h => ?_)
        refine zk_aload_n X 0 dX9_wild_255 rfl rfl ?_
        refine zk_get X iX9 (g := 20) (Nat.zero_lt_one) rfl rfl 14 (by decide) w8 rfl dX9_wild_256 ?_
        refine zk_aload_n X 0 dX9_wild_259 rfl rfl ?_
        refine zk_get X iX9 (g := 20) (Nat.zero_lt_one) rfl rfl 8 (by decide) w2 rfl dX9_wild_260 ?_
        refine zk_iconst X (v := -1) dX9_wild_263 (by decide) ?_
        refine zk_iast X (g := 32) (Nat.zero_lt_one) rfl rfl dX9_wild_264 h (fun h => ?_)
        refine zk_iconst X (v := 0) dX9_wild_265 (by decide) ?_
        refine zk_istore X (lv' := [(5, .int 0), (0, .ref (E.2.1 20 0)), (1, .int a1), (2, .int a2), (3, .int a3), (4, .int a4)]) dX9_wild_266 (by decide) rfl ?_
        exact zk_sub [1, 4, 0] rfl (L268 _ _ _ _ h)
  have B170 : ∀ (c67 : Int32 → Int32 → Int32 → Int32 → Int32 → zk_Z → Option (Int32 × zk_Z)) (hc67 : ∀ (a1 : Int32) (a2 : Int32) (a3 : Int32) (a4 : Int32) (a5 : Int32) (z : zk_Z), c67 a1 a2 a3 a4 a5 z = some (r, z') → zk_G p l e (headSpec wsX9_wild { frames := 1, cells := 0, slots := 0, locals := 22 }).room s m args below meth c E 8 0 0 (MQ below (zk_Qi E r z') args s 0 0 (zk_A E)) 67 [(0, .ref (E.2.1 20 0)), (1, .int a1), (2, .int a2), (3, .int a3), (4, .int a4), (5, .int a5)] [] z) (a1 : Int32) (a2 : Int32) (a3 : Int32) (a5 : Int32) (s0 : Int32) (z : zk_Z), fX9_wild_B170 c67 a1 a2 a3 a5 s0 z = some (r, z') → zk_G p l e (headSpec wsX9_wild { frames := 1, cells := 0, slots := 0, locals := 22 }).room s m args below meth c E 8 0 0 (MQ below (zk_Qi E r z') args s 0 0 (zk_A E)) 170 [(0, .ref (E.2.1 20 0)), (1, .int a1), (2, .int a2), (3, .int a3), (5, .int a5)] [.int s0] z := by
    intro c67 hc67 a1 a2 a3 a5 s0 z h
    unfold fX9_wild_B170 at h
    refine zk_istore X (lv' := [(4, .int s0), (0, .ref (E.2.1 20 0)), (1, .int a1), (2, .int a2), (3, .int a3), (5, .int a5)]) dX9_wild_170 (by decide) rfl ?_
    refine zk_iinc X (lv' := [(5, .int (a5 + 2)), (4, .int s0), (0, .ref (E.2.1 20 0)), (1, .int a1), (2, .int a2), (3, .int a3)]) 5 dX9_wild_172 rfl rfl (by decide) rfl ?_
    refine zk_goto X (tgt := 67) dX9_wild_175 (by decide) ?_
    exact zk_sub [2, 3, 4, 5, 1, 0] rfl (hc67 _ _ _ _ _ _ h)
  have B169 : ∀ (c67 : Int32 → Int32 → Int32 → Int32 → Int32 → zk_Z → Option (Int32 × zk_Z)) (hc67 : ∀ (a1 : Int32) (a2 : Int32) (a3 : Int32) (a4 : Int32) (a5 : Int32) (z : zk_Z), c67 a1 a2 a3 a4 a5 z = some (r, z') → zk_G p l e (headSpec wsX9_wild { frames := 1, cells := 0, slots := 0, locals := 22 }).room s m args below meth c E 8 0 0 (MQ below (zk_Qi E r z') args s 0 0 (zk_A E)) 67 [(0, .ref (E.2.1 20 0)), (1, .int a1), (2, .int a2), (3, .int a3), (4, .int a4), (5, .int a5)] [] z) (a1 : Int32) (a2 : Int32) (a3 : Int32) (a5 : Int32) (z : zk_Z), fX9_wild_B169 c67 a1 a2 a3 a5 z = some (r, z') → zk_G p l e (headSpec wsX9_wild { frames := 1, cells := 0, slots := 0, locals := 22 }).room s m args below meth c E 8 0 0 (MQ below (zk_Qi E r z') args s 0 0 (zk_A E)) 169 [(0, .ref (E.2.1 20 0)), (1, .int a1), (2, .int a2), (3, .int a3), (5, .int a5)] [] z := by
    intro c67 hc67 a1 a2 a3 a5 z h
    unfold fX9_wild_B169 at h
    refine zk_iconst X (v := 0) dX9_wild_169 (by decide) ?_
    exact zk_sub [0, 1, 2, 3, 4] rfl (B170 _ hc67 _ _ _ _ _ _ h)
  have B113 : ∀ (c67 : Int32 → Int32 → Int32 → Int32 → Int32 → zk_Z → Option (Int32 × zk_Z)) (hc67 : ∀ (a1 : Int32) (a2 : Int32) (a3 : Int32) (a4 : Int32) (a5 : Int32) (z : zk_Z), c67 a1 a2 a3 a4 a5 z = some (r, z') → zk_G p l e (headSpec wsX9_wild { frames := 1, cells := 0, slots := 0, locals := 22 }).room s m args below meth c E 8 0 0 (MQ below (zk_Qi E r z') args s 0 0 (zk_A E)) 67 [(0, .ref (E.2.1 20 0)), (1, .int a1), (2, .int a2), (3, .int a3), (4, .int a4), (5, .int a5)] [] z) (a1 : Int32) (a2 : Int32) (a3 : Int32) (a5 : Int32) (a6 : Int32) (a7 : Int32) (z : zk_Z), fX9_wild_B113 c67 a1 a2 a3 a5 a6 a7 z = some (r, z') → zk_G p l e (headSpec wsX9_wild { frames := 1, cells := 0, slots := 0, locals := 22 }).room s m args below meth c E 8 0 0 (MQ below (zk_Qi E r z') args s 0 0 (zk_A E)) 113 [(0, .ref (E.2.1 20 0)), (1, .int a1), (2, .int a2), (3, .int a3), (5, .int a5), (6, .int a6), (7, .int a7)] [] z := by
    intro c67 hc67 a1 a2 a3 a5 a6 a7 z h
    unfold fX9_wild_B113 at h
    refine zk_iload X 5 dX9_wild_113 rfl ?_
    refine zk_iconst X (v := 0) dX9_wild_115 (by decide) ?_
    refine zk_iconst X (v := 1) dX9_wild_116 (by decide) ?_
    refine zk_iload_n X 2 dX9_wild_117 rfl rfl ?_
    refine zk_ishl X dX9_wild_118 ?_
    refine zk_iconst X (v := 1) dX9_wild_119 (by decide) ?_
    refine zk_isub X dX9_wild_120 ?_
    refine zk_si X h (fun rr zz hf => ct_X9_in l E hi a6 0 (((1 : Int32) <<< (a2 &&& 31)) - 1) _ rr zz hf) (va_cwS 3 X.1.2.2.2.2 gX9_wild_X9_in rfl rfl rfl (by decide +kernel) ⟨Nat.le_of_ble_eq_true rfl, Nat.le_of_ble_eq_true rfl⟩) rfl rfl (Nat.le_of_ble_eq_true rfl) dX9_wild_121 (fun r8 z7 h => ?_)
    refine zk_if_eq X (tgt := 169) dX9_wild_124 (by decide) h (fun h => ?_) (fun h => ?_)
    · exact zk_sub [0, 1, 2, 3, 4] rfl (B169 _ hc67 _ _ _ _ _ h)
    · refine zk_iload X 6 dX9_wild_127 rfl ?_
      refine zk_iconst X (v := 0) dX9_wild_129 (by decide) ?_
      refine zk_iconst X (v := 1) dX9_wild_130 (by decide) ?_
      refine zk_iload_n X 2 dX9_wild_131 rfl rfl ?_
      refine zk_ishl X dX9_wild_132 ?_
      refine zk_iconst X (v := 1) dX9_wild_133 (by decide) ?_
      refine zk_isub X dX9_wild_134 ?_
      refine zk_si X h (fun rr zz hf => ct_X9_in l E hi a7 0 (((1 : Int32) <<< (a2 &&& 31)) - 1) _ rr zz hf) (va_cwS 3 X.1.2.2.2.2 gX9_wild_X9_in rfl rfl rfl (by decide +kernel) ⟨Nat.le_of_ble_eq_true rfl, Nat.le_of_ble_eq_true rfl⟩) rfl rfl (Nat.le_of_ble_eq_true rfl) dX9_wild_135 (fun r10 z9 h => ?_)
      refine zk_if_eq X (tgt := 169) dX9_wild_138 (by decide) h (fun h => ?_) (fun h => ?_)
      · exact zk_sub [0, 1, 2, 3, 4] rfl (B169 _ hc67 _ _ _ _ _ h)
      · refine zk_iload X 5 dX9_wild_141 rfl ?_
        refine zk_iload X 6 dX9_wild_143 rfl ?_
        refine zk_iand X dX9_wild_145 ?_
        refine zk_if_ne X (tgt := 169) dX9_wild_146 (by decide) h (fun h => ?_) (fun h => ?_)
        · refine zk_iload X 5 dX9_wild_149 rfl ?_
          refine zk_iload X 6 dX9_wild_151 rfl ?_
          refine zk_ior X dX9_wild_153 ?_
          refine zk_si X h (fun rr zz hf => ct_X9_ones l E hi (a6 ||| a7) _ rr zz hf) (va_cwS 1 X.1.2.2.2.2 gX9_wild_X9_ones rfl rfl rfl (by decide +kernel) ⟨Nat.le_of_ble_eq_true rfl, Nat.le_of_ble_eq_true rfl⟩) rfl rfl (Nat.le_of_ble_eq_true rfl) dX9_wild_154 (fun r12 z11 h => ?_)
          refine zk_iconst X (v := 1) dX9_wild_157 (by decide) ?_
          refine zk_iconst X (v := 3) dX9_wild_158 (by decide) ?_
          refine zk_si X h (fun rr zz hf => ct_X9_in l E hi r12 1 3 _ rr zz hf) (va_cwS 3 X.1.2.2.2.2 gX9_wild_X9_in rfl rfl rfl (by decide +kernel) ⟨Nat.le_of_ble_eq_true rfl, Nat.le_of_ble_eq_true rfl⟩) rfl rfl (Nat.le_of_ble_eq_true rfl) dX9_wild_159 (fun r14 z13 h => ?_)
          refine zk_if_eq X (tgt := 169) dX9_wild_162 (by decide) h (fun h => ?_) (fun h => ?_)
          · exact zk_sub [0, 1, 2, 3, 4] rfl (B169 _ hc67 _ _ _ _ _ h)
          · refine zk_iconst X (v := 1) dX9_wild_165 (by decide) ?_
            refine zk_goto X (tgt := 170) dX9_wild_166 (by decide) ?_
            exact zk_sub [0, 1, 2, 3, 4] rfl (B170 _ hc67 _ _ _ _ _ _ h)
        · exact zk_sub [0, 1, 2, 3, 4] rfl (B169 _ hc67 _ _ _ _ _ h)
  have L67 : ∀ (n : Nat) (a1 : Int32) (a2 : Int32) (a3 : Int32) (a4 : Int32) (a5 : Int32) (z : zk_Z), fX9_wild_L67 n a1 a2 a3 a4 a5 z = some (r, z') → zk_G p l e (headSpec wsX9_wild { frames := 1, cells := 0, slots := 0, locals := 22 }).room s m args below meth c E 8 0 0 (MQ below (zk_Qi E r z') args s 0 0 (zk_A E)) 67 [(0, .ref (E.2.1 20 0)), (1, .int a1), (2, .int a2), (3, .int a3), (4, .int a4), (5, .int a5)] [] z := by
    intro n
    induction n with
    | zero => intro a1 a2 a3 a4 a5 z h; exact absurd h (by simp [fX9_wild_L67])
    | succ n ih =>
      intro a1 a2 a3 a4 a5 z h
      rw [fX9_wild_L67] at h
      refine zk_iload X 5 dX9_wild_67 rfl ?_
      refine zk_aload_n X 0 dX9_wild_69 rfl rfl ?_
      refine zk_get X iX9 (g := 20) (Nat.zero_lt_one) rfl rfl 25 (by decide) w1 rfl dX9_wild_70 ?_
      refine zk_iload_n X 3 dX9_wild_73 rfl rfl ?_
      refine zk_iald X (g := 40) (Nat.zero_lt_one) rfl dX9_wild_74 h (fun h => ?_)
      refine zk_icmp_ge X (tgt := 178) dX9_wild_75 (by decide) h (fun h => ?_) (fun h => ?_)
      · exact zk_sub [0, 1, 2, 3, 4] rfl (B178 _ _ _ _ _ h)
      · refine zk_iload X 4 dX9_wild_78 rfl ?_
        refine zk_if_eq X (tgt := 178) dX9_wild_80 (by decide) h (fun h => ?_) (fun h => ?_)
        · exact zk_sub [0, 1, 2, 3, 4] rfl (B178 _ _ _ _ _ h)
        · refine zk_aload_n X 0 dX9_wild_83 rfl rfl ?_
          refine zk_get X iX9 (g := 20) (Nat.zero_lt_one) rfl rfl 26 (by decide) w10 rfl dX9_wild_84 ?_
          refine zk_bipush X (v := 40) dX9_wild_87 (by decide) ?_
          refine zk_iload_n X 3 dX9_wild_89 rfl rfl ?_
          refine zk_imul X dX9_wild_90 ?_
          refine zk_iload X 5 dX9_wild_91 rfl ?_
          refine zk_iadd X dX9_wild_93 ?_
          refine zk_iald X (g := 41) (Nat.zero_lt_one) rfl dX9_wild_94 h (fun h => ?_)
          refine zk_istore X (lv' := [(6, .int (z.1 41 0 ((40 * a3) + a5).toNatClampNeg)), (0, .ref (E.2.1 20 0)), (1, .int a1), (2, .int a2), (3, .int a3), (4, .int a4), (5, .int a5)]) dX9_wild_95 (by decide) rfl ?_
          refine zk_aload_n X 1 dX9_wild_97 rfl rfl ?_
          refine zk_get X iX9 (g := 20) (Nat.zero_lt_one) rfl rfl 26 (by decide) w10 rfl dX9_wild_98 ?_
          refine zk_bipush X (v := 40) dX9_wild_101 (by decide) ?_
          refine zk_iload_n X 4 dX9_wild_103 rfl rfl ?_
          refine zk_imul X dX9_wild_104 ?_
          refine zk_iload X 6 dX9_wild_105 rfl ?_
          refine zk_iadd X dX9_wild_107 ?_
          refine zk_iconst X (v := 1) dX9_wild_108 (by decide) ?_
          refine zk_iadd X dX9_wild_109 ?_
          refine zk_iald X (g := 41) (Nat.zero_lt_one) rfl dX9_wild_110 h (fun h => ?_)
          refine zk_istore X (lv' := [(7, .int (z.1 41 0 (((40 * a3) + a5) + 1).toNatClampNeg)), (6, .int (z.1 41 0 ((40 * a3) + a5).toNatClampNeg)), (0, .ref (E.2.1 20 0)), (1, .int a1), (2, .int a2), (3, .int a3), (4, .int a4), (5, .int a5)]) dX9_wild_111 (by decide) rfl ?_
          exact zk_sub [2, 3, 4, 5, 7, 1, 0] rfl (B113 _ ih _ _ _ _ _ _ _ h)
  have B62 : ∀ (a1 : Int32) (a2 : Int32) (a3 : Int32) (s0 : Int32) (z : zk_Z), fX9_wild_B62 a1 a2 a3 s0 z = some (r, z') → zk_G p l e (headSpec wsX9_wild { frames := 1, cells := 0, slots := 0, locals := 22 }).room s m args below meth c E 8 0 0 (MQ below (zk_Qi E r z') args s 0 0 (zk_A E)) 62 [(0, .ref (E.2.1 20 0)), (1, .int a1), (2, .int a2), (3, .int a3)] [.int s0] z := by
    intro a1 a2 a3 s0 z h
    unfold fX9_wild_B62 at h
    refine zk_istore X (lv' := [(4, .int s0), (0, .ref (E.2.1 20 0)), (1, .int a1), (2, .int a2), (3, .int a3)]) dX9_wild_62 (by decide) rfl ?_
    refine zk_iconst X (v := 0) dX9_wild_64 (by decide) ?_
    refine zk_istore X (lv' := [(5, .int 0), (4, .int s0), (0, .ref (E.2.1 20 0)), (1, .int a1), (2, .int a2), (3, .int a3)]) dX9_wild_65 (by decide) rfl ?_
    exact zk_sub [2, 3, 4, 5, 1, 0] rfl (L67 _ _ _ _ _ _ _ h)
  unfold fX9_wild at h
  refine zk_iload_n X 3 dX9_wild_0 rfl rfl ?_
  refine zk_iconst X (v := 0) dX9_wild_1 (by decide) ?_
  refine zk_iconst X (v := 3) dX9_wild_2 (by decide) ?_
  refine zk_si X h (fun rr zz hf => ct_X9_in l E hi  x3 0 3 _ rr zz hf) (va_cwS 3 X.1.2.2.2.2 gX9_wild_X9_in rfl rfl rfl (by decide +kernel) ⟨Nat.le_of_ble_eq_true rfl, Nat.le_of_ble_eq_true rfl⟩) rfl rfl (Nat.le_of_ble_eq_true rfl) dX9_wild_3 (fun r2 z1 h => ?_)
  refine zk_if_ne X (tgt := 11) dX9_wild_6 (by decide) h (fun h => ?_) (fun h => ?_)
  · refine zk_iconst X (v := -1) dX9_wild_9 (by decide) ?_
    exact zk_ireturn X hr dX9_wild_10 h
  · refine zk_iload_n X 1 dX9_wild_11 rfl rfl ?_
    refine zk_iconst X (v := 0) dX9_wild_12 (by decide) ?_
    refine zk_iconst X (v := 5) dX9_wild_13 (by decide) ?_
    refine zk_si X h (fun rr zz hf => ct_X9_in l E hi  x1 0 5 _ rr zz hf) (va_cwS 3 X.1.2.2.2.2 gX9_wild_X9_in rfl rfl rfl (by decide +kernel) ⟨Nat.le_of_ble_eq_true rfl, Nat.le_of_ble_eq_true rfl⟩) rfl rfl (Nat.le_of_ble_eq_true rfl) dX9_wild_14 (fun r4 z3 h => ?_)
    refine zk_if_eq X (tgt := 30) dX9_wild_17 (by decide) h (fun h => ?_) (fun h => ?_)
    · refine zk_bipush X (v := -2) dX9_wild_30 (by decide) ?_
      exact zk_ireturn X hr dX9_wild_32 h
    · refine zk_iload_n X 2 dX9_wild_20 rfl rfl ?_
      refine zk_iconst X (v := 1) dX9_wild_21 (by decide) ?_
      refine zk_bipush X (v := 10) dX9_wild_22 (by decide) ?_
      refine zk_si X h (fun rr zz hf => ct_X9_in l E hi  x2 1 10 _ rr zz hf) (va_cwS 3 X.1.2.2.2.2 gX9_wild_X9_in rfl rfl rfl (by decide +kernel) ⟨Nat.le_of_ble_eq_true rfl, Nat.le_of_ble_eq_true rfl⟩) rfl rfl (Nat.le_of_ble_eq_true rfl) dX9_wild_24 (fun r6 z5 h => ?_)
      refine zk_if_ne X (tgt := 33) dX9_wild_27 (by decide) h (fun h => ?_) (fun h => ?_)
      · refine zk_bipush X (v := -2) dX9_wild_30 (by decide) ?_
        exact zk_ireturn X hr dX9_wild_32 h
      · refine zk_aload_n X 0 dX9_wild_33 rfl rfl ?_
        refine zk_get X iX9 (g := 20) (Nat.zero_lt_one) rfl rfl 24 (by decide) w0 rfl dX9_wild_34 ?_
        refine zk_iload_n X 3 dX9_wild_37 rfl rfl ?_
        refine zk_iald X (g := 39) (Nat.zero_lt_one) rfl dX9_wild_38 h (fun h => ?_)
        refine zk_iconst X (v := -1) dX9_wild_39 (by decide) ?_
        refine zk_icmp_ne X (tgt := 46) dX9_wild_40 (by decide) h (fun h => ?_) (fun h => ?_)
        · refine zk_bipush X (v := -11) dX9_wild_43 (by decide) ?_
          exact zk_ireturn X hr dX9_wild_45 h
        · refine zk_aload_n X 0 dX9_wild_46 rfl rfl ?_
          refine zk_get X iX9 (g := 20) (Nat.zero_lt_one) rfl rfl 25 (by decide) w1 rfl dX9_wild_47 ?_
          refine zk_iload_n X 3 dX9_wild_50 rfl rfl ?_
          refine zk_iald X (g := 40) (Nat.zero_lt_one) rfl dX9_wild_51 h (fun h => ?_)
          refine zk_iconst X (v := 2) dX9_wild_52 (by decide) ?_
          refine zk_irem X (α := Unit) (a := some ()) (o := ()) dX9_wild_53 rfl (fun _ => ?_)
          refine zk_if_ne X (tgt := 61) dX9_wild_54 (by decide) h (fun h => ?_) (fun h => ?_)
          · refine zk_iconst X (v := 1) dX9_wild_57 (by decide) ?_
            refine zk_goto X (tgt := 62) dX9_wild_58 (by decide) ?_
            exact zk_sub [0, 1, 2, 3] rfl (B62  _ _ _ _ _ h)
          · refine zk_iconst X (v := 0) dX9_wild_61 (by decide) ?_
            exact zk_sub [0, 1, 2, 3] rfl (B62  _ _ _ _ _ h)
