def fJ6_bitCount_0f7a4_B41 (a0 : Int32) (z : zk_Z) : Option (Int32 × zk_Z) := some ((a0 + ((a0.toUInt32 >>> ((16 : Int32).toUInt32 &&& Int32.toUInt32 31)).toInt32)) &&& 63, z)
def fJ6_bitCount_0f7a4_B34 (a0 : Int32) (z : zk_Z) : Option (Int32 × zk_Z) := fJ6_bitCount_0f7a4_B41 (a0 + ((a0.toUInt32 >>> ((8 : Int32).toUInt32 &&& Int32.toUInt32 31)).toInt32)) z
def fJ6_bitCount_0f7a4_B24 (a0 : Int32) (z : zk_Z) : Option (Int32 × zk_Z) := fJ6_bitCount_0f7a4_B34 ((a0 + ((a0.toUInt32 >>> ((4 : Int32).toUInt32 &&& Int32.toUInt32 31)).toInt32)) &&& 252645135) z
def fJ6_bitCount_0f7a4_B10 (a0 : Int32) (z : zk_Z) : Option (Int32 × zk_Z) := fJ6_bitCount_0f7a4_B24 ((a0 &&& 858993459) + (((a0.toUInt32 >>> ((2 : Int32).toUInt32 &&& Int32.toUInt32 31)).toInt32) &&& 858993459)) z
def fJ6_bitCount_0f7a4 (x0 : Int32) (z : zk_Z) : Option (Int32 × zk_Z) := fJ6_bitCount_0f7a4_B10 (x0 - (((x0.toUInt32 >>> ((1 : Int32).toUInt32 &&& Int32.toUInt32 31)).toInt32) &&& 1431655765)) z
set_option maxRecDepth 100000 in
set_option maxHeartbeats 8000000 in
theorem ct_J6_bitCount_0f7a4 (l : Launch) (E : zk_E) (hi : zk_inj E) (x0 : Int32) (z : zk_Z) (r : Int32) (z' : zk_Z) (h : fJ6_bitCount_0f7a4  x0 z = some (r, z')) : Met l yJ6_bitCount_0f7a4 wsJ6_bitCount_0f7a4 { frames := 0, cells := 0, slots := 0, locals := 0 } (va_Pc [.int x0] (zk_W E z)) (zk_Qi E r z') 0 0 (zk_A E) := by
  refine zk_met (cc := cJ6_bitCount_0f7a4) (maxL := 1) (ret := (some .int)) (own := RJ6) (by decide) rfl rfl hi (Nat.le_of_ble_eq_true rfl) ?_
  intro p e s m args below meth c X hr
  have w0 : Cond.constant RJ6 265 (1431655765) ∈ wsJ6_bitCount_0f7a4 := by decide +kernel
  have w1 : Cond.constant RJ6 266 (858993459) ∈ wsJ6_bitCount_0f7a4 := by decide +kernel
  have w2 : Cond.constant RJ6 267 (252645135) ∈ wsJ6_bitCount_0f7a4 := by decide +kernel
  have B41 : ∀ (a0 : Int32) (z : zk_Z), fJ6_bitCount_0f7a4_B41 a0 z = some (r, z') → zk_G p l e (headSpec wsJ6_bitCount_0f7a4 { frames := 0, cells := 0, slots := 0, locals := 0 }).room s m args below meth c E 1 0 0 (MQ below (zk_Qi E r z') args s 0 0 (zk_A E)) 41 [(0, .int a0)] [] z := by
    intro a0 z h
    unfold fJ6_bitCount_0f7a4_B41 at h
    refine zk_iload_n X 0 dJ6_bitCount_0f7a4_41 rfl rfl ?_
    refine zk_iload_n X 0 dJ6_bitCount_0f7a4_42 rfl rfl ?_
    refine zk_bipush X (v := 16) dJ6_bitCount_0f7a4_43 (by decide) ?_
    refine zk_iushr X dJ6_bitCount_0f7a4_45 ?_
    refine zk_iadd X dJ6_bitCount_0f7a4_46 ?_
    refine zk_istore_n X (lv' := [(0, .int (a0 + ((a0.toUInt32 >>> ((16 : Int32).toUInt32 &&& Int32.toUInt32 31)).toInt32)))]) dJ6_bitCount_0f7a4_47 rfl (by decide) rfl ?_
    refine zk_iload_n X 0 dJ6_bitCount_0f7a4_48 rfl rfl ?_
    refine zk_bipush X (v := 63) dJ6_bitCount_0f7a4_49 (by decide) ?_
    refine zk_iand X dJ6_bitCount_0f7a4_51 ?_
    exact zk_ireturn X hr dJ6_bitCount_0f7a4_52 h
  have B34 : ∀ (a0 : Int32) (z : zk_Z), fJ6_bitCount_0f7a4_B34 a0 z = some (r, z') → zk_G p l e (headSpec wsJ6_bitCount_0f7a4 { frames := 0, cells := 0, slots := 0, locals := 0 }).room s m args below meth c E 1 0 0 (MQ below (zk_Qi E r z') args s 0 0 (zk_A E)) 34 [(0, .int a0)] [] z := by
    intro a0 z h
    unfold fJ6_bitCount_0f7a4_B34 at h
    refine zk_iload_n X 0 dJ6_bitCount_0f7a4_34 rfl rfl ?_
    refine zk_iload_n X 0 dJ6_bitCount_0f7a4_35 rfl rfl ?_
    refine zk_bipush X (v := 8) dJ6_bitCount_0f7a4_36 (by decide) ?_
    refine zk_iushr X dJ6_bitCount_0f7a4_38 ?_
    refine zk_iadd X dJ6_bitCount_0f7a4_39 ?_
    refine zk_istore_n X (lv' := [(0, .int (a0 + ((a0.toUInt32 >>> ((8 : Int32).toUInt32 &&& Int32.toUInt32 31)).toInt32)))]) dJ6_bitCount_0f7a4_40 rfl (by decide) rfl ?_
    exact zk_sub [0] rfl (B41 _ _ h)
  have B24 : ∀ (a0 : Int32) (z : zk_Z), fJ6_bitCount_0f7a4_B24 a0 z = some (r, z') → zk_G p l e (headSpec wsJ6_bitCount_0f7a4 { frames := 0, cells := 0, slots := 0, locals := 0 }).room s m args below meth c E 1 0 0 (MQ below (zk_Qi E r z') args s 0 0 (zk_A E)) 24 [(0, .int a0)] [] z := by
    intro a0 z h
    unfold fJ6_bitCount_0f7a4_B24 at h
    refine zk_iload_n X 0 dJ6_bitCount_0f7a4_24 rfl rfl ?_
    refine zk_iload_n X 0 dJ6_bitCount_0f7a4_25 rfl rfl ?_
    refine zk_iconst X (v := 4) dJ6_bitCount_0f7a4_26 (by decide) ?_
    refine zk_iushr X dJ6_bitCount_0f7a4_27 ?_
    refine zk_iadd X dJ6_bitCount_0f7a4_28 ?_
    refine zk_ldcw X w2 dJ6_bitCount_0f7a4_29 ?_
    refine zk_iand X dJ6_bitCount_0f7a4_32 ?_
    refine zk_istore_n X (lv' := [(0, .int ((a0 + ((a0.toUInt32 >>> ((4 : Int32).toUInt32 &&& Int32.toUInt32 31)).toInt32)) &&& 252645135))]) dJ6_bitCount_0f7a4_33 rfl (by decide) rfl ?_
    exact zk_sub [0] rfl (B34 _ _ h)
  have B10 : ∀ (a0 : Int32) (z : zk_Z), fJ6_bitCount_0f7a4_B10 a0 z = some (r, z') → zk_G p l e (headSpec wsJ6_bitCount_0f7a4 { frames := 0, cells := 0, slots := 0, locals := 0 }).room s m args below meth c E 1 0 0 (MQ below (zk_Qi E r z') args s 0 0 (zk_A E)) 10 [(0, .int a0)] [] z := by
    intro a0 z h
    unfold fJ6_bitCount_0f7a4_B10 at h
    refine zk_iload_n X 0 dJ6_bitCount_0f7a4_10 rfl rfl ?_
    refine zk_ldcw X w1 dJ6_bitCount_0f7a4_11 ?_
    refine zk_iand X dJ6_bitCount_0f7a4_14 ?_
    refine zk_iload_n X 0 dJ6_bitCount_0f7a4_15 rfl rfl ?_
    refine zk_iconst X (v := 2) dJ6_bitCount_0f7a4_16 (by decide) ?_
    refine zk_iushr X dJ6_bitCount_0f7a4_17 ?_
    refine zk_ldcw X w1 dJ6_bitCount_0f7a4_18 ?_
    refine zk_iand X dJ6_bitCount_0f7a4_21 ?_
    refine zk_iadd X dJ6_bitCount_0f7a4_22 ?_
    refine zk_istore_n X (lv' := [(0, .int ((a0 &&& 858993459) + (((a0.toUInt32 >>> ((2 : Int32).toUInt32 &&& Int32.toUInt32 31)).toInt32) &&& 858993459)))]) dJ6_bitCount_0f7a4_23 rfl (by decide) rfl ?_
    exact zk_sub [0] rfl (B24 _ _ h)
  unfold fJ6_bitCount_0f7a4 at h
  refine zk_iload_n X 0 dJ6_bitCount_0f7a4_0 rfl rfl ?_
  refine zk_iload_n X 0 dJ6_bitCount_0f7a4_1 rfl rfl ?_
  refine zk_iconst X (v := 1) dJ6_bitCount_0f7a4_2 (by decide) ?_
  refine zk_iushr X dJ6_bitCount_0f7a4_3 ?_
  refine zk_ldcw X w0 dJ6_bitCount_0f7a4_4 ?_
  refine zk_iand X dJ6_bitCount_0f7a4_7 ?_
  refine zk_isub X dJ6_bitCount_0f7a4_8 ?_
  refine zk_istore_n X (lv' := [(0, .int (x0 - (((x0.toUInt32 >>> ((1 : Int32).toUInt32 &&& Int32.toUInt32 31)).toInt32) &&& 1431655765)))]) dJ6_bitCount_0f7a4_9 rfl (by decide) rfl ?_
  exact zk_sub [0] rfl (B10  _ _ h)
def fJ7_fill_53178_g19_L5 : Nat → Int32 → Int32 → Int32 → zk_Z → Option (Unit × zk_Z)
  | 0, _, _, _, _ => none
  | n + 1, a1, a2, a3, z => if a3 ≤ a2 then some ((), z) else zk_gd (zk_ix a2 10) ((fJ7_fill_53178_g19_L5 n) a1 (a2 + 1) a3 (zk_sI z 19 0 a2.toNatClampNeg a1))
def fJ7_fill_53178_g19 (x1 : Int32) (z : zk_Z) : Option (Unit × zk_Z) := fJ7_fill_53178_g19_L5 zk_FU x1 0 10 z
set_option maxRecDepth 100000 in
set_option maxHeartbeats 8000000 in
theorem ct_J7_fill_53178_g19 (l : Launch) (E : zk_E) (hi : zk_inj E) (x1 : Int32) (z : zk_Z) (r : Unit) (z' : zk_Z) (h : fJ7_fill_53178_g19  x1 z = some (r, z')) : Met l yJ7_fill_53178 wsJ7_fill_53178 { frames := 0, cells := 0, slots := 0, locals := 0 } (va_Pc [.ref (E.2.1 19 0), .int x1] (zk_W E z)) (zk_Qv E z') 0 0 (zk_A E) := by
  refine zk_met (cc := cJ7_fill_53178) (maxL := 4) (ret := none) (own := RJ7) (by decide) rfl rfl hi (Nat.le_of_ble_eq_true rfl) ?_
  intro p e s m args below meth c X hr
  have L5 : ∀ (n : Nat) (a1 : Int32) (a2 : Int32) (a3 : Int32) (z : zk_Z), fJ7_fill_53178_g19_L5 n a1 a2 a3 z = some (r, z') → zk_G p l e (headSpec wsJ7_fill_53178 { frames := 0, cells := 0, slots := 0, locals := 0 }).room s m args below meth c E 4 0 0 (MQ below (zk_Qv E z') args s 0 0 (zk_A E)) 5 [(0, .ref (E.2.1 19 0)), (1, .int a1), (2, .int a2), (3, .int a3)] [] z := by
    intro n
    induction n with
    | zero => intro a1 a2 a3 z h; exact absurd h (by simp [fJ7_fill_53178_g19_L5])
    | succ n ih =>
      intro a1 a2 a3 z h
      rw [fJ7_fill_53178_g19_L5] at h
      refine zk_iload_n X 2 dJ7_fill_53178_5 rfl rfl ?_
      refine zk_iload_n X 3 dJ7_fill_53178_6 rfl rfl ?_
      refine zk_icmp_ge X (tgt := 20) dJ7_fill_53178_7 (by decide) h (fun h => ?_) (fun h => ?_)
      · exact zk_vreturn X hr dJ7_fill_53178_20 h
      · refine zk_aload_n X 0 dJ7_fill_53178_10 rfl rfl ?_
        refine zk_iload_n X 2 dJ7_fill_53178_11 rfl rfl ?_
        refine zk_iload_n X 1 dJ7_fill_53178_12 rfl rfl ?_
        refine zk_iast X (g := 19) (Nat.zero_lt_one) rfl rfl dJ7_fill_53178_13 h (fun h => ?_)
        refine zk_iinc X (lv' := [(2, .int (a2 + 1)), (0, .ref (E.2.1 19 0)), (1, .int a1), (3, .int a3)]) 2 dJ7_fill_53178_14 rfl rfl (by decide) rfl ?_
        refine zk_goto X (tgt := 5) dJ7_fill_53178_17 (by decide) ?_
        exact zk_sub [1, 2, 0, 3] rfl (ih _ _ _ _ h)
  unfold fJ7_fill_53178_g19 at h
  refine zk_iconst X (v := 0) dJ7_fill_53178_0 (by decide) ?_
  refine zk_istore_n X (lv' := [(2, .int 0), (0, .ref (E.2.1 19 0)), (1, .int x1)]) dJ7_fill_53178_1 rfl (by decide) rfl ?_
  refine zk_aload_n X 1 dJ7_fill_53178_2 rfl rfl ?_
  refine zk_alen X (v := 10) (g := 19) (Nat.zero_lt_one) rfl (by decide) dJ7_fill_53178_3 ?_
  refine zk_istore_n X (lv' := [(3, .int 10), (2, .int 0), (0, .ref (E.2.1 19 0)), (1, .int x1)]) dJ7_fill_53178_4 rfl (by decide) rfl ?_
  exact zk_sub [2, 3, 1, 0] rfl (L5  _ _ _ _ _ h)
def fJ7_fill_53178_g14_L5 (k0 : Nat) : Nat → Int32 → Int32 → Int32 → zk_Z → Option (Unit × zk_Z)
  | 0, _, _, _, _ => none
  | n + 1, a1, a2, a3, z => if a3 ≤ a2 then some ((), z) else zk_gd (zk_ix a2 40) ((fJ7_fill_53178_g14_L5 k0 n) a1 (a2 + 1) a3 (zk_sI z 14 k0 a2.toNatClampNeg a1))
def fJ7_fill_53178_g14 (k0 : Nat) (x1 : Int32) (z : zk_Z) : Option (Unit × zk_Z) := fJ7_fill_53178_g14_L5 k0 zk_FU x1 0 40 z
set_option maxRecDepth 100000 in
set_option maxHeartbeats 8000000 in
theorem ct_J7_fill_53178_g14 (l : Launch) (E : zk_E) (hi : zk_inj E) (k0 : Nat) (hk0 : k0 < zk_cnt 14) (x1 : Int32) (z : zk_Z) (r : Unit) (z' : zk_Z) (h : fJ7_fill_53178_g14 k0 x1 z = some (r, z')) : Met l yJ7_fill_53178 wsJ7_fill_53178 { frames := 0, cells := 0, slots := 0, locals := 0 } (va_Pc [.ref (E.2.1 14 k0), .int x1] (zk_W E z)) (zk_Qv E z') 0 0 (zk_A E) := by
  refine zk_met (cc := cJ7_fill_53178) (maxL := 4) (ret := none) (own := RJ7) (by decide) rfl rfl hi (Nat.le_of_ble_eq_true rfl) ?_
  intro p e s m args below meth c X hr
  have L5 : ∀ (n : Nat) (a1 : Int32) (a2 : Int32) (a3 : Int32) (z : zk_Z), fJ7_fill_53178_g14_L5 k0 n a1 a2 a3 z = some (r, z') → zk_G p l e (headSpec wsJ7_fill_53178 { frames := 0, cells := 0, slots := 0, locals := 0 }).room s m args below meth c E 4 0 0 (MQ below (zk_Qv E z') args s 0 0 (zk_A E)) 5 [(0, .ref (E.2.1 14 k0)), (1, .int a1), (2, .int a2), (3, .int a3)] [] z := by
    intro n
    induction n with
    | zero => intro a1 a2 a3 z h; exact absurd h (by simp [fJ7_fill_53178_g14_L5])
    | succ n ih =>
      intro a1 a2 a3 z h
      rw [fJ7_fill_53178_g14_L5] at h
      refine zk_iload_n X 2 dJ7_fill_53178_5 rfl rfl ?_
      refine zk_iload_n X 3 dJ7_fill_53178_6 rfl rfl ?_
      refine zk_icmp_ge X (tgt := 20) dJ7_fill_53178_7 (by decide) h (fun h => ?_) (fun h => ?_)
      · exact zk_vreturn X hr dJ7_fill_53178_20 h
      · refine zk_aload_n X 0 dJ7_fill_53178_10 rfl rfl ?_
        refine zk_iload_n X 2 dJ7_fill_53178_11 rfl rfl ?_
        refine zk_iload_n X 1 dJ7_fill_53178_12 rfl rfl ?_
        refine zk_iast X (g := 14) (hk0) rfl rfl dJ7_fill_53178_13 h (fun h => ?_)
        refine zk_iinc X (lv' := [(2, .int (a2 + 1)), (0, .ref (E.2.1 14 k0)), (1, .int a1), (3, .int a3)]) 2 dJ7_fill_53178_14 rfl rfl (by decide) rfl ?_
        refine zk_goto X (tgt := 5) dJ7_fill_53178_17 (by decide) ?_
        exact zk_sub [1, 2, 0, 3] rfl (ih _ _ _ _ h)
  unfold fJ7_fill_53178_g14 at h
  refine zk_iconst X (v := 0) dJ7_fill_53178_0 (by decide) ?_
  refine zk_istore_n X (lv' := [(2, .int 0), (0, .ref (E.2.1 14 k0)), (1, .int x1)]) dJ7_fill_53178_1 rfl (by decide) rfl ?_
  refine zk_aload_n X 1 dJ7_fill_53178_2 rfl rfl ?_
  refine zk_alen X (v := 40) (g := 14) (hk0) rfl (by decide) dJ7_fill_53178_3 ?_
  refine zk_istore_n X (lv' := [(3, .int 40), (2, .int 0), (0, .ref (E.2.1 14 k0)), (1, .int x1)]) dJ7_fill_53178_4 rfl (by decide) rfl ?_
  exact zk_sub [2, 3, 1, 0] rfl (L5  _ _ _ _ _ h)
def fX0_become (k : Nat) (k1 : Nat) (z : zk_Z) : Option (Unit × zk_Z) := some ((), zk_sI (zk_sI (zk_sI (zk_sI z 11 k 0 (z.1 11 k1 0)) 11 k 1 ((zk_sI z 11 k 0 (z.1 11 k1 0)).1 11 k1 1)) 11 k 2 ((zk_sI (zk_sI z 11 k 0 (z.1 11 k1 0)) 11 k 1 ((zk_sI z 11 k 0 (z.1 11 k1 0)).1 11 k1 1)).1 11 k1 2)) 11 k 3 ((zk_sI (zk_sI (zk_sI z 11 k 0 (z.1 11 k1 0)) 11 k 1 ((zk_sI z 11 k 0 (z.1 11 k1 0)).1 11 k1 1)) 11 k 2 ((zk_sI (zk_sI z 11 k 0 (z.1 11 k1 0)) 11 k 1 ((zk_sI z 11 k 0 (z.1 11 k1 0)).1 11 k1 1)).1 11 k1 2)).1 11 k1 3))
set_option maxRecDepth 100000 in
set_option maxHeartbeats 8000000 in
theorem ct_X0_become (l : Launch) (E : zk_E) (hi : zk_inj E) (k : Nat) (hk : k < zk_cnt 11) (k1 : Nat) (hk1 : k1 < zk_cnt 11) (z : zk_Z) (r : Unit) (z' : zk_Z) (h : fX0_become k k1  z = some (r, z')) : Met l yX0_become wsX0_become { frames := 0, cells := 0, slots := 0, locals := 0 } (va_Pc [.ref (E.2.1 11 k), .ref (E.2.1 11 k1)] (zk_W E z)) (zk_Qv E z') 0 0 (zk_A E) := by
  refine zk_met (cc := cX0_become) (maxL := 2) (ret := none) (own := RX0) (by decide) rfl rfl hi (Nat.le_of_ble_eq_true rfl) ?_
  intro p e s m args below meth c X hr
  have iX0 : ∀ w ∈ u_ws RX0 TX0 4, w ∈ wsX0_become := by decide +kernel
  have w0 : Cond.fieldLink RX0 9 "HiddenWorks$Claim" "task" "I" ∈ wsX0_become := by decide +kernel
  have w1 : Cond.fieldLink RX0 15 "HiddenWorks$Claim" "steps" "I" ∈ wsX0_become := by decide +kernel
  have w2 : Cond.fieldLink RX0 18 "HiddenWorks$Claim" "state" "I" ∈ wsX0_become := by decide +kernel
  have w3 : Cond.fieldLink RX0 21 "HiddenWorks$Claim" "finder" "I" ∈ wsX0_become := by decide +kernel
  unfold fX0_become at h
  refine zk_aload_n X 0 dX0_become_0 rfl rfl ?_
  refine zk_aload_n X 1 dX0_become_1 rfl rfl ?_
  refine zk_get X iX0 (g := 11) (hk1) rfl rfl 0 (by decide) w0 rfl dX0_become_2 ?_
  refine zk_putI X (ty := .int) iX0 tyX0 tyX0_ok nmX0 (g := 11) (hk) rfl rfl 0 (by decide) w0 rfl (by decide +kernel) rfl rfl (Nat.le_of_ble_eq_true rfl) rfl dX0_become_5 ?_
  refine zk_aload_n X 0 dX0_become_8 rfl rfl ?_
  refine zk_aload_n X 1 dX0_become_9 rfl rfl ?_
  refine zk_get X iX0 (g := 11) (hk1) rfl rfl 1 (by decide) w1 rfl dX0_become_10 ?_
  refine zk_putI X (ty := .int) iX0 tyX0 tyX0_ok nmX0 (g := 11) (hk) rfl rfl 1 (by decide) w1 rfl (by decide +kernel) rfl rfl (Nat.le_of_ble_eq_true rfl) rfl dX0_become_13 ?_
  refine zk_aload_n X 0 dX0_become_16 rfl rfl ?_
  refine zk_aload_n X 1 dX0_become_17 rfl rfl ?_
  refine zk_get X iX0 (g := 11) (hk1) rfl rfl 2 (by decide) w2 rfl dX0_become_18 ?_
  refine zk_putI X (ty := .int) iX0 tyX0 tyX0_ok nmX0 (g := 11) (hk) rfl rfl 2 (by decide) w2 rfl (by decide +kernel) rfl rfl (Nat.le_of_ble_eq_true rfl) rfl dX0_become_21 ?_
  refine zk_aload_n X 0 dX0_become_24 rfl rfl ?_
  refine zk_aload_n X 1 dX0_become_25 rfl rfl ?_
  refine zk_get X iX0 (g := 11) (hk1) rfl rfl 3 (by decide) w3 rfl dX0_become_26 ?_
  refine zk_putI X (ty := .int) iX0 tyX0 tyX0_ok nmX0 (g := 11) (hk) rfl rfl 3 (by decide) w3 rfl (by decide +kernel) rfl rfl (Nat.le_of_ble_eq_true rfl) rfl dX0_become_29 ?_
  exact zk_vreturn X hr dX0_become_32 h
def fX0_begin (k : Nat) (x1 : Int32) (x2 : Int32) (z : zk_Z) : Option (Unit × zk_Z) := some ((), zk_sI (zk_sI (zk_sI (zk_sI z 11 k 0 x1) 11 k 1 x2) 11 k 2 0) 11 k 3 (-1))
set_option maxRecDepth 100000 in
set_option maxHeartbeats 8000000 in
theorem ct_X0_begin (l : Launch) (E : zk_E) (hi : zk_inj E) (k : Nat) (hk : k < zk_cnt 11) (x1 : Int32) (x2 : Int32) (z : zk_Z) (r : Unit) (z' : zk_Z) (h : fX0_begin k x1 x2 z = some (r, z')) : Met l yX0_begin wsX0_begin { frames := 0, cells := 0, slots := 0, locals := 0 } (va_Pc [.ref (E.2.1 11 k), .int x1, .int x2] (zk_W E z)) (zk_Qv E z') 0 0 (zk_A E) := by
  refine zk_met (cc := cX0_begin) (maxL := 3) (ret := none) (own := RX0) (by decide) rfl rfl hi (Nat.le_of_ble_eq_true rfl) ?_
  intro p e s m args below meth c X hr
  have iX0 : ∀ w ∈ u_ws RX0 TX0 4, w ∈ wsX0_begin := by decide +kernel
  have w0 : Cond.fieldLink RX0 9 "HiddenWorks$Claim" "task" "I" ∈ wsX0_begin := by decide +kernel
  have w1 : Cond.fieldLink RX0 15 "HiddenWorks$Claim" "steps" "I" ∈ wsX0_begin := by decide +kernel
  have w2 : Cond.fieldLink RX0 18 "HiddenWorks$Claim" "state" "I" ∈ wsX0_begin := by decide +kernel
  have w3 : Cond.fieldLink RX0 21 "HiddenWorks$Claim" "finder" "I" ∈ wsX0_begin := by decide +kernel
  unfold fX0_begin at h
  refine zk_aload_n X 0 dX0_begin_0 rfl rfl ?_
  refine zk_iload_n X 1 dX0_begin_1 rfl rfl ?_
  refine zk_putI X (ty := .int) iX0 tyX0 tyX0_ok nmX0 (g := 11) (hk) rfl rfl 0 (by decide) w0 rfl (by decide +kernel) rfl rfl (Nat.le_of_ble_eq_true rfl) rfl dX0_begin_2 ?_
  refine zk_aload_n X 0 dX0_begin_5 rfl rfl ?_
  refine zk_iload_n X 2 dX0_begin_6 rfl rfl ?_
  refine zk_putI X (ty := .int) iX0 tyX0 tyX0_ok nmX0 (g := 11) (hk) rfl rfl 1 (by decide) w1 rfl (by decide +kernel) rfl rfl (Nat.le_of_ble_eq_true rfl) rfl dX0_begin_7 ?_
  refine zk_aload_n X 0 dX0_begin_10 rfl rfl ?_
  refine zk_iconst X (v := 0) dX0_begin_11 (by decide) ?_
  refine zk_putI X (ty := .int) iX0 tyX0 tyX0_ok nmX0 (g := 11) (hk) rfl rfl 2 (by decide) w2 rfl (by decide +kernel) rfl rfl (Nat.le_of_ble_eq_true rfl) rfl dX0_begin_12 ?_
  refine zk_aload_n X 0 dX0_begin_15 rfl rfl ?_
  refine zk_iconst X (v := -1) dX0_begin_16 (by decide) ?_
  refine zk_putI X (ty := .int) iX0 tyX0 tyX0_ok nmX0 (g := 11) (hk) rfl rfl 3 (by decide) w3 rfl (by decide +kernel) rfl rfl (Nat.le_of_ble_eq_true rfl) rfl dX0_begin_17 ?_
  exact zk_vreturn X hr dX0_begin_20 h
def fX0_worsen (k : Nat) (x1 : Int32) (x2 : Int32) (z : zk_Z) : Option (Unit × zk_Z) := if x1 ≤ (z.1 11 k 2) then some ((), z) else some ((), zk_sI (zk_sI z 11 k 2 x1) 11 k 3 x2)
set_option maxRecDepth 100000 in
set_option maxHeartbeats 8000000 in
theorem ct_X0_worsen (l : Launch) (E : zk_E) (hi : zk_inj E) (k : Nat) (hk : k < zk_cnt 11) (x1 : Int32) (x2 : Int32) (z : zk_Z) (r : Unit) (z' : zk_Z) (h : fX0_worsen k x1 x2 z = some (r, z')) : Met l yX0_worsen wsX0_worsen { frames := 0, cells := 0, slots := 0, locals := 0 } (va_Pc [.ref (E.2.1 11 k), .int x1, .int x2] (zk_W E z)) (zk_Qv E z') 0 0 (zk_A E) := by
  refine zk_met (cc := cX0_worsen) (maxL := 3) (ret := none) (own := RX0) (by decide) rfl rfl hi (Nat.le_of_ble_eq_true rfl) ?_
  intro p e s m args below meth c X hr
  have iX0 : ∀ w ∈ u_ws RX0 TX0 4, w ∈ wsX0_worsen := by decide +kernel
  have w0 : Cond.fieldLink RX0 18 "HiddenWorks$Claim" "state" "I" ∈ wsX0_worsen := by decide +kernel
  have w1 : Cond.fieldLink RX0 21 "HiddenWorks$Claim" "finder" "I" ∈ wsX0_worsen := by decide +kernel
  unfold fX0_worsen at h
  refine zk_iload_n X 1 dX0_worsen_0 rfl rfl ?_
  refine zk_aload_n X 0 dX0_worsen_1 rfl rfl ?_
  refine zk_get X iX0 (g := 11) (hk) rfl rfl 2 (by decide) w0 rfl dX0_worsen_2 ?_
  refine zk_icmp_le X (tgt := 18) dX0_worsen_5 (by decide) h (fun h => ?_) (fun h => ?_)
  · exact zk_vreturn X hr dX0_worsen_18 h
  · refine zk_aload_n X 0 dX0_worsen_8 rfl rfl ?_
    refine zk_iload_n X 1 dX0_worsen_9 rfl rfl ?_
    refine zk_putI X (ty := .int) iX0 tyX0 tyX0_ok nmX0 (g := 11) (hk) rfl rfl 2 (by decide) w0 rfl (by decide +kernel) rfl rfl (Nat.le_of_ble_eq_true rfl) rfl dX0_worsen_10 ?_
    refine zk_aload_n X 0 dX0_worsen_13 rfl rfl ?_
    refine zk_iload_n X 2 dX0_worsen_14 rfl rfl ?_
    refine zk_putI X (ty := .int) iX0 tyX0 tyX0_ok nmX0 (g := 11) (hk) rfl rfl 3 (by decide) w1 rfl (by decide +kernel) rfl rfl (Nat.le_of_ble_eq_true rfl) rfl dX0_worsen_15 ?_
    exact zk_vreturn X hr dX0_worsen_18 h
def fX2_holds (x0 : Int32) (x1 : Int32) (x2 : Int32) (z : zk_Z) : Option (Int32 × zk_Z) := if x0 = 1 then if x1 ≤ 0 then some (0, z) else if x1 < x2 then some (1, z) else if x2 = 1 then some (1, z) else some (0, z) else if x0 = 2 then if (x1 - x1 / 2 * 2) = 1 then some (1, z) else some (0, z) else if x0 = 3 then if x1 = 1 then some (1, z) else some (0, z) else if x0 = 4 then if (x1 - x1 / 2 * 2) = 0 then some (1, z) else some (0, z) else if x0 = 5 then if x1 ≤ 0 then some (0, z) else if (2 * x1) ≤ x2 then some (0, z) else some (1, z) else if x1 ≤ 0 then some (0, z) else some (1, z)
set_option maxRecDepth 100000 in
set_option maxHeartbeats 8000000 in
theorem ct_X2_holds (l : Launch) (E : zk_E) (hi : zk_inj E) (x0 : Int32) (x1 : Int32) (x2 : Int32) (z : zk_Z) (r : Int32) (z' : zk_Z) (h : fX2_holds  x0 x1 x2 z = some (r, z')) : Met l yX2_holds wsX2_holds { frames := 0, cells := 0, slots := 0, locals := 0 } (va_Pc [.int x0, .int x1, .int x2] (zk_W E z)) (zk_Qi E r z') 0 0 (zk_A E) := by
  refine zk_met (cc := cX2_holds) (maxL := 3) (ret := (some .boolean)) (own := RX2) (by decide) rfl rfl hi (Nat.le_of_ble_eq_true rfl) ?_
  intro p e s m args below meth c X hr
  unfold fX2_holds at h
  refine zk_iload_n X 0 dX2_holds_0 rfl rfl ?_
  rcases zk_if h with ⟨q1, h⟩ | ⟨q1, h⟩
  · refine zk_tsw_in X (v := 1) dX2_holds_1 q1 (by decide) (by decide) (off := 35) rfl (tgt := 36) (by decide) ?_
    refine zk_iload_n X 1 dX2_holds_36 rfl rfl ?_
    refine zk_if_le X (tgt := 54) dX2_holds_37 (by decide) h (fun h => ?_) (fun h => ?_)
    · refine zk_iconst X (v := 0) dX2_holds_54 (by decide) ?_
      exact zk_zreturn X hr dX2_holds_55 rfl h
    · refine zk_iload_n X 1 dX2_holds_40 rfl rfl ?_
      refine zk_iload_n X 2 dX2_holds_41 rfl rfl ?_
      refine zk_icmp_lt X (tgt := 50) dX2_holds_42 (by decide) h (fun h => ?_) (fun h => ?_)
      · refine zk_iconst X (v := 1) dX2_holds_50 (by decide) ?_
        refine zk_goto X (tgt := 55) dX2_holds_51 (by decide) ?_
        exact zk_zreturn X hr dX2_holds_55 rfl h
      · refine zk_iload_n X 2 dX2_holds_45 rfl rfl ?_
        refine zk_iconst X (v := 1) dX2_holds_46 (by decide) ?_
        refine zk_icmp_ne X (tgt := 54) dX2_holds_47 (by decide) h (fun h => ?_) (fun h => ?_)
        · refine zk_iconst X (v := 1) dX2_holds_50 (by decide) ?_
          refine zk_goto X (tgt := 55) dX2_holds_51 (by decide) ?_
          exact zk_zreturn X hr dX2_holds_55 rfl h
        · refine zk_iconst X (v := 0) dX2_holds_54 (by decide) ?_
          exact zk_zreturn X hr dX2_holds_55 rfl h
  · rcases zk_if h with ⟨q2, h⟩ | ⟨q2, h⟩
    · refine zk_tsw_in X (v := 2) dX2_holds_1 q2 (by decide) (by decide) (off := 55) rfl (tgt := 56) (by decide) ?_
      refine zk_iload_n X 1 dX2_holds_56 rfl rfl ?_
      refine zk_iconst X (v := 2) dX2_holds_57 (by decide) ?_
      refine zk_irem X (α := Unit) (a := some ()) (o := ()) dX2_holds_58 rfl (fun _ => ?_)
      refine zk_iconst X (v := 1) dX2_holds_59 (by decide) ?_
      refine zk_icmp_ne X (tgt := 67) dX2_holds_60 (by decide) h (fun h => ?_) (fun h => ?_)
      · refine zk_iconst X (v := 1) dX2_holds_63 (by decide) ?_
        refine zk_goto X (tgt := 68) dX2_holds_64 (by decide) ?_
        exact zk_zreturn X hr dX2_holds_68 rfl h
      · refine zk_iconst X (v := 0) dX2_holds_67 (by decide) ?_
        exact zk_zreturn X hr dX2_holds_68 rfl h
    · rcases zk_if h with ⟨q3, h⟩ | ⟨q3, h⟩
      · refine zk_tsw_in X (v := 3) dX2_holds_1 q3 (by decide) (by decide) (off := 68) rfl (tgt := 69) (by decide) ?_
        refine zk_iload_n X 1 dX2_holds_69 rfl rfl ?_
        refine zk_iconst X (v := 1) dX2_holds_70 (by decide) ?_
        refine zk_icmp_ne X (tgt := 78) dX2_holds_71 (by decide) h (fun h => ?_) (fun h => ?_)
        · refine zk_iconst X (v := 1) dX2_holds_74 (by decide) ?_
          refine zk_goto X (tgt := 79) dX2_holds_75 (by decide) ?_
          exact zk_zreturn X hr dX2_holds_79 rfl h
        · refine zk_iconst X (v := 0) dX2_holds_78 (by decide) ?_
          exact zk_zreturn X hr dX2_holds_79 rfl h
      · rcases zk_if h with ⟨q4, h⟩ | ⟨q4, h⟩
        · refine zk_tsw_in X (v := 4) dX2_holds_1 q4 (by decide) (by decide) (off := 79) rfl (tgt := 80) (by decide) ?_
          refine zk_iload_n X 1 dX2_holds_80 rfl rfl ?_
          refine zk_iconst X (v := 2) dX2_holds_81 (by decide) ?_
          refine zk_irem X (α := Unit) (a := some ()) (o := ()) dX2_holds_82 rfl (fun _ => ?_)
          refine zk_if_ne X (tgt := 90) dX2_holds_83 (by decide) h (fun h => ?_) (fun h => ?_)
          · refine zk_iconst X (v := 1) dX2_holds_86 (by decide) ?_
            refine zk_goto X (tgt := 91) dX2_holds_87 (by decide) ?_
            exact zk_zreturn X hr dX2_holds_91 rfl h
          · refine zk_iconst X (v := 0) dX2_holds_90 (by decide) ?_
            exact zk_zreturn X hr dX2_holds_91 rfl h
        · rcases zk_if h with ⟨q5, h⟩ | ⟨q5, h⟩
          · refine zk_tsw_in X (v := 5) dX2_holds_1 q5 (by decide) (by decide) (off := 91) rfl (tgt := 92) (by decide) ?_
            refine zk_iload_n X 1 dX2_holds_92 rfl rfl ?_
            refine zk_if_le X (tgt := 107) dX2_holds_93 (by decide) h (fun h => ?_) (fun h => ?_)
            · refine zk_iconst X (v := 0) dX2_holds_107 (by decide) ?_
              exact zk_zreturn X hr dX2_holds_108 rfl h
            · refine zk_iconst X (v := 2) dX2_holds_96 (by decide) ?_
              refine zk_iload_n X 1 dX2_holds_97 rfl rfl ?_
              refine zk_imul X dX2_holds_98 ?_
              refine zk_iload_n X 2 dX2_holds_99 rfl rfl ?_
              refine zk_icmp_le X (tgt := 107) dX2_holds_100 (by decide) h (fun h => ?_) (fun h => ?_)
              · refine zk_iconst X (v := 0) dX2_holds_107 (by decide) ?_
                exact zk_zreturn X hr dX2_holds_108 rfl h
              · refine zk_iconst X (v := 1) dX2_holds_103 (by decide) ?_
                refine zk_goto X (tgt := 108) dX2_holds_104 (by decide) ?_
                exact zk_zreturn X hr dX2_holds_108 rfl h
          · refine zk_tsw_out X dX2_holds_1 (by have := lv_neT (a := 1) q1 (by decide); have := lv_neT (a := 2) q2 (by decide); have := lv_neT (a := 3) q3 (by decide); have := lv_neT (a := 4) q4 (by decide); have := lv_neT (a := 5) q5 (by decide); omega) (tgt := 109) (by decide) ?_
            refine zk_iload_n X 1 dX2_holds_109 rfl rfl ?_
            refine zk_if_le X (tgt := 117) dX2_holds_110 (by decide) h (fun h => ?_) (fun h => ?_)
            · refine zk_iconst X (v := 0) dX2_holds_117 (by decide) ?_
              exact zk_zreturn X hr dX2_holds_118 rfl h
            · refine zk_iconst X (v := 1) dX2_holds_113 (by decide) ?_
              refine zk_goto X (tgt := 118) dX2_holds_114 (by decide) ?_
              exact zk_zreturn X hr dX2_holds_118 rfl h
def fX2_worth_B28 (a0 : Int32) (a1 : Int32) (a3 : Int32) (z : zk_Z) : Option (Int32 × zk_Z) := if a0 = 5 then some (a3 + a1, z) else some (a3, z)
def fX2_worth_B14 (a0 : Int32) (a1 : Int32) (s0 : Int32) (z : zk_Z) : Option (Int32 × zk_Z) := if a0 = 3 then if a1 = 0 then some (s0 - 1, z) else fX2_worth_B28 a0 a1 s0 z else fX2_worth_B28 a0 a1 s0 z
def fX2_worth (x0 : Int32) (x1 : Int32) (x2 : Int32) (z : zk_Z) : Option (Int32 × zk_Z) := zk_bd (fX2_holds x0 x1 x2 z) (fun r2 z1 => if r2 = 0 then fX2_worth_B14 x0 x1 0 z1 else fX2_worth_B14 x0 x1 3 z1)
set_option maxRecDepth 100000 in
set_option maxHeartbeats 8000000 in
theorem ct_X2_worth (l : Launch) (E : zk_E) (hi : zk_inj E) (x0 : Int32) (x1 : Int32) (x2 : Int32) (z : zk_Z) (r : Int32) (z' : zk_Z) (h : fX2_worth  x0 x1 x2 z = some (r, z')) : Met l yX2_worth wsX2_worth { frames := 1, cells := 0, slots := 0, locals := 22 } (va_Pc [.int x0, .int x1, .int x2] (zk_W E z)) (zk_Qi E r z') 0 0 (zk_A E) := by
  refine zk_met (cc := cX2_worth) (maxL := 4) (ret := (some .int)) (own := RX2) (by decide) rfl rfl hi (Nat.le_of_ble_eq_true rfl) ?_
  intro p e s m args below meth c X hr
  have B28 : ∀ (a0 : Int32) (a1 : Int32) (a3 : Int32) (z : zk_Z), fX2_worth_B28 a0 a1 a3 z = some (r, z') → zk_G p l e (headSpec wsX2_worth { frames := 1, cells := 0, slots := 0, locals := 22 }).room s m args below meth c E 4 0 0 (MQ below (zk_Qi E r z') args s 0 0 (zk_A E)) 28 [(0, .int a0), (1, .int a1), (3, .int a3)] [] z := by
    intro a0 a1 a3 z h
    unfold fX2_worth_B28 at h
    refine zk_iload_n X 0 dX2_worth_28 rfl rfl ?_
    refine zk_iconst X (v := 5) dX2_worth_29 (by decide) ?_
    refine zk_icmp_ne X (tgt := 39) dX2_worth_30 (by decide) h (fun h => ?_) (fun h => ?_)
    · refine zk_iload_n X 2 dX2_worth_33 rfl rfl ?_
      refine zk_iload_n X 1 dX2_worth_34 rfl rfl ?_
      refine zk_iadd X dX2_worth_35 ?_
      refine zk_goto X (tgt := 40) dX2_worth_36 (by decide) ?_
      exact zk_ireturn X hr dX2_worth_40 h
    · refine zk_iload_n X 2 dX2_worth_39 rfl rfl ?_
      exact zk_ireturn X hr dX2_worth_40 h
  have B14 : ∀ (a0 : Int32) (a1 : Int32) (s0 : Int32) (z : zk_Z), fX2_worth_B14 a0 a1 s0 z = some (r, z') → zk_G p l e (headSpec wsX2_worth { frames := 1, cells := 0, slots := 0, locals := 22 }).room s m args below meth c E 4 0 0 (MQ below (zk_Qi E r z') args s 0 0 (zk_A E)) 14 [(0, .int a0), (1, .int a1)] [.int s0] z := by
    intro a0 a1 s0 z h
    unfold fX2_worth_B14 at h
    refine zk_istore_n X (lv' := [(3, .int s0), (0, .int a0), (1, .int a1)]) dX2_worth_14 rfl (by decide) rfl ?_
    refine zk_iload_n X 1 dX2_worth_15 rfl rfl ?_
    refine zk_iconst X (v := 3) dX2_worth_16 (by decide) ?_
    refine zk_icmp_ne X (tgt := 28) dX2_worth_17 (by decide) h (fun h => ?_) (fun h => ?_)
    · refine zk_iload_n X 2 dX2_worth_20 rfl rfl ?_
      refine zk_if_ne X (tgt := 28) dX2_worth_21 (by decide) h (fun h => ?_) (fun h => ?_)
      · refine zk_iload_n X 0 dX2_worth_24 rfl rfl ?_
        refine zk_iconst X (v := 1) dX2_worth_25 (by decide) ?_
        refine zk_isub X dX2_worth_26 ?_
        exact zk_ireturn X hr dX2_worth_27 h
      · exact zk_sub [1, 2, 0] rfl (B28 _ _ _ _ h)
    · exact zk_sub [1, 2, 0] rfl (B28 _ _ _ _ h)
  unfold fX2_worth at h
  refine zk_iload_n X 0 dX2_worth_0 rfl rfl ?_
  refine zk_iload_n X 1 dX2_worth_1 rfl rfl ?_
  refine zk_iload_n X 2 dX2_worth_2 rfl rfl ?_
  refine zk_si X h (fun rr zz hf => ct_X2_holds l E hi  x0 x1 x2 _ rr zz hf) (va_cwS 3 X.1.2.2.2.2 gX2_worth_X2_holds rfl rfl rfl (by decide +kernel) ⟨Nat.le_of_ble_eq_true rfl, Nat.le_of_ble_eq_true rfl⟩) rfl rfl (Nat.le_of_ble_eq_true rfl) dX2_worth_3 (fun r2 z1 h => ?_)
  refine zk_if_eq X (tgt := 13) dX2_worth_6 (by decide) h (fun h => ?_) (fun h => ?_)
  · refine zk_iconst X (v := 0) dX2_worth_13 (by decide) ?_
    exact zk_sub [0, 1] rfl (B14  _ _ _ _ h)
  · refine zk_iconst X (v := 3) dX2_worth_9 (by decide) ?_
    refine zk_goto X (tgt := 14) dX2_worth_10 (by decide) ?_
    exact zk_sub [0, 1] rfl (B14  _ _ _ _ h)
def fX7_trueOnes (k : Nat) (x1 : Int32) (x2 : Int32) (z : zk_Z) : Option (Int32 × zk_Z) := zk_gd (zk_ix x1 24) (zk_gd (zk_ix x1 24) (zk_bd (fJ6_bitCount_0f7a4 (((z.1 8 k x1.toNatClampNeg) &&& x2) ||| ((z.1 9 k x1.toNatClampNeg) &&& (x2 ^^^ (-1)))) z) (fun r2 z1 => some (r2, z1))))
set_option maxRecDepth 100000 in
set_option maxHeartbeats 8000000 in
theorem ct_X7_trueOnes (l : Launch) (E : zk_E) (hi : zk_inj E) (k : Nat) (hk : k < zk_cnt 7) (x1 : Int32) (x2 : Int32) (z : zk_Z) (r : Int32) (z' : zk_Z) (h : fX7_trueOnes k x1 x2 z = some (r, z')) : Met l yX7_trueOnes wsX7_trueOnes { frames := 1, cells := 0, slots := 0, locals := 20 } (va_Pc [.ref (E.2.1 7 k), .int x1, .int x2] (zk_W E z)) (zk_Qi E r z') 0 0 (zk_A E) := by
  refine zk_met (cc := cX7_trueOnes) (maxL := 3) (ret := (some .int)) (own := RX7) (by decide) rfl rfl hi (Nat.le_of_ble_eq_true rfl) ?_
  intro p e s m args below meth c X hr
  have iX7 : ∀ w ∈ u_ws RX7 TX7 8, w ∈ wsX7_trueOnes := by decide +kernel
  have w0 : Cond.fieldLink RX7 9 "HiddenWorks$Task" "plain" "[I" ∈ wsX7_trueOnes := by decide +kernel
  have w1 : Cond.fieldLink RX7 15 "HiddenWorks$Task" "against" "[I" ∈ wsX7_trueOnes := by decide +kernel
  unfold fX7_trueOnes at h
  refine zk_aload_n X 0 dX7_trueOnes_0 rfl rfl ?_
  refine zk_get X iX7 (g := 7) (hk) rfl rfl 6 (by decide) w0 rfl dX7_trueOnes_1 ?_
  refine zk_iload_n X 1 dX7_trueOnes_4 rfl rfl ?_
  refine zk_iald X (g := 8) (hk) rfl dX7_trueOnes_5 h (fun h => ?_)
  refine zk_iload_n X 2 dX7_trueOnes_6 rfl rfl ?_
  refine zk_iand X dX7_trueOnes_7 ?_
  refine zk_aload_n X 0 dX7_trueOnes_8 rfl rfl ?_
  refine zk_get X iX7 (g := 7) (hk) rfl rfl 7 (by decide) w1 rfl dX7_trueOnes_9 ?_
  refine zk_iload_n X 1 dX7_trueOnes_12 rfl rfl ?_
  refine zk_iald X (g := 9) (hk) rfl dX7_trueOnes_13 h (fun h => ?_)
  refine zk_iload_n X 2 dX7_trueOnes_14 rfl rfl ?_
  refine zk_iconst X (v := -1) dX7_trueOnes_15 (by decide) ?_
  refine zk_ixor X dX7_trueOnes_16 ?_
  refine zk_iand X dX7_trueOnes_17 ?_
  refine zk_ior X dX7_trueOnes_18 ?_
  refine zk_si X h (fun rr zz hf => ct_J6_bitCount_0f7a4 l E hi  (((z.1 8 k x1.toNatClampNeg) &&& x2) ||| ((z.1 9 k x1.toNatClampNeg) &&& (x2 ^^^ (-1)))) _ rr zz hf) (va_cwS 1 X.1.2.2.2.2 gX7_trueOnes_J6_bitCount_0f7a4 rfl rfl rfl (by decide +kernel) ⟨Nat.le_of_ble_eq_true rfl, Nat.le_of_ble_eq_true rfl⟩) rfl rfl (Nat.le_of_ble_eq_true rfl) dX7_trueOnes_19 (fun r2 z1 h => ?_)
  exact zk_ireturn X hr dX7_trueOnes_22 h
def fX7_width (k : Nat) (x1 : Int32) (z : zk_Z) : Option (Int32 × zk_Z) := zk_gd (zk_ix x1 24) (zk_gd (zk_ix x1 24) (zk_bd (fJ6_bitCount_0f7a4 ((z.1 8 k x1.toNatClampNeg) ||| (z.1 9 k x1.toNatClampNeg)) z) (fun r2 z1 => some (r2, z1))))
set_option maxRecDepth 100000 in
set_option maxHeartbeats 8000000 in
theorem ct_X7_width (l : Launch) (E : zk_E) (hi : zk_inj E) (k : Nat) (hk : k < zk_cnt 7) (x1 : Int32) (z : zk_Z) (r : Int32) (z' : zk_Z) (h : fX7_width k x1 z = some (r, z')) : Met l yX7_width wsX7_width { frames := 1, cells := 0, slots := 0, locals := 20 } (va_Pc [.ref (E.2.1 7 k), .int x1] (zk_W E z)) (zk_Qi E r z') 0 0 (zk_A E) := by
  refine zk_met (cc := cX7_width) (maxL := 2) (ret := (some .int)) (own := RX7) (by decide) rfl rfl hi (Nat.le_of_ble_eq_true rfl) ?_
  intro p e s m args below meth c X hr
  have iX7 : ∀ w ∈ u_ws RX7 TX7 8, w ∈ wsX7_width := by decide +kernel
  have w0 : Cond.fieldLink RX7 9 "HiddenWorks$Task" "plain" "[I" ∈ wsX7_width := by decide +kernel
  have w1 : Cond.fieldLink RX7 15 "HiddenWorks$Task" "against" "[I" ∈ wsX7_width := by decide +kernel
  unfold fX7_width at h
  refine zk_aload_n X 0 dX7_width_0 rfl rfl ?_
  refine zk_get X iX7 (g := 7) (hk) rfl rfl 6 (by decide) w0 rfl dX7_width_1 ?_
  refine zk_iload_n X 1 dX7_width_4 rfl rfl ?_
  refine zk_iald X (g := 8) (hk) rfl dX7_width_5 h (fun h => ?_)
  refine zk_aload_n X 0 dX7_width_6 rfl rfl ?_
  refine zk_get X iX7 (g := 7) (hk) rfl rfl 7 (by decide) w1 rfl dX7_width_7 ?_
  refine zk_iload_n X 1 dX7_width_10 rfl rfl ?_
  refine zk_iald X (g := 9) (hk) rfl dX7_width_11 h (fun h => ?_)
  refine zk_ior X dX7_width_12 ?_
  refine zk_si X h (fun rr zz hf => ct_J6_bitCount_0f7a4 l E hi  ((z.1 8 k x1.toNatClampNeg) ||| (z.1 9 k x1.toNatClampNeg)) _ rr zz hf) (va_cwS 1 X.1.2.2.2.2 gX7_width_J6_bitCount_0f7a4 rfl rfl rfl (by decide +kernel) ⟨Nat.le_of_ble_eq_true rfl, Nat.le_of_ble_eq_true rfl⟩) rfl rfl (Nat.le_of_ble_eq_true rfl) dX7_width_13 (fun r2 z1 h => ?_)
  exact zk_ireturn X hr dX7_width_16 h
def fX7_gainByTurning_B87 (k : Nat) (c10 : Int32 → Int32 → Int32 → Int32 → zk_Z → Option (Int32 × zk_Z)) (a2 : Int32) (a3 : Int32) (a4 : Int32) (a5 : Int32) (z : zk_Z) : Option (Int32 × zk_Z) := c10 a2 a3 a4 (a5 + 1) z
def fX7_gainByTurning_L10 (k : Nat) : Nat → Int32 → Int32 → Int32 → Int32 → zk_Z → Option (Int32 × zk_Z)
  | 0, _, _, _, _, _ => none
  | n + 1, a2, a3, a4, a5, z => if (z.1 7 k 2) ≤ a5 then some (a4, z) else zk_gd (zk_ix a5 24) (zk_gd (zk_ix a5 24) (if (((z.1 8 k a5.toNatClampNeg) ||| (z.1 9 k a5.toNatClampNeg)) &&& a3) = 0 then fX7_gainByTurning_B87 k (fX7_gainByTurning_L10 k n) a2 a3 a4 a5 z else zk_bd (fX7_width k a5 z) (fun r2 z1 => zk_bd (fX7_trueOnes k a5 (a2 ^^^ a3) z1) (fun r4 z3 => zk_bd (fX2_worth (z1.1 7 k 0) r4 r2 z3) (fun r6 z5 => zk_bd (fX7_trueOnes k a5 a2 z5) (fun r8 z7 => zk_bd (fX2_worth (z5.1 7 k 0) r8 r2 z7) (fun r10 z9 => fX7_gainByTurning_B87 k (fX7_gainByTurning_L10 k n) a2 a3 (a4 + (r6 - r10)) a5 z9)))))))
def fX7_gainByTurning (k : Nat) (x1 : Int32) (x2 : Int32) (z : zk_Z) : Option (Int32 × zk_Z) := fX7_gainByTurning_L10 k zk_FU x2 ((1 : Int32) <<< (x1 &&& 31)) 0 0 z
set_option maxRecDepth 100000 in
set_option maxHeartbeats 8000000 in
theorem ct_X7_gainByTurning (l : Launch) (E : zk_E) (hi : zk_inj E) (k : Nat) (hk : k < zk_cnt 7) (x1 : Int32) (x2 : Int32) (z : zk_Z) (r : Int32) (z' : zk_Z) (h : fX7_gainByTurning k x1 x2 z = some (r, z')) : Met l yX7_gainByTurning wsX7_gainByTurning { frames := 2, cells := 0, slots := 0, locals := 45 } (va_Pc [.ref (E.2.1 7 k), .int x1, .int x2] (zk_W E z)) (zk_Qi E r z') 0 0 (zk_A E) := by
  refine zk_met (cc := cX7_gainByTurning) (maxL := 7) (ret := (some .int)) (own := RX7) (by decide) rfl rfl hi (Nat.le_of_ble_eq_true rfl) ?_
  intro p e s m args below meth c X hr
  have iX7 : ∀ w ∈ u_ws RX7 TX7 8, w ∈ wsX7_gainByTurning := by decide +kernel
  have w0 : Cond.fieldLink RX7 25 "HiddenWorks$Task" "clauses" "I" ∈ wsX7_gainByTurning := by decide +kernel
  have w1 : Cond.fieldLink RX7 9 "HiddenWorks$Task" "plain" "[I" ∈ wsX7_gainByTurning := by decide +kernel
  have w2 : Cond.fieldLink RX7 15 "HiddenWorks$Task" "against" "[I" ∈ wsX7_gainByTurning := by decide +kernel
  have w3 : Cond.fieldLink RX7 18 "HiddenWorks$Task" "kind" "I" ∈ wsX7_gainByTurning := by decide +kernel
  have B87 : ∀ (c10 : Int32 → Int32 → Int32 → Int32 → zk_Z → Option (Int32 × zk_Z)) (hc10 : ∀ (a2 : Int32) (a3 : Int32) (a4 : Int32) (a5 : Int32) (z : zk_Z), c10 a2 a3 a4 a5 z = some (r, z') → zk_G p l e (headSpec wsX7_gainByTurning { frames := 2, cells := 0, slots := 0, locals := 45 }).room s m args below meth c E 7 0 0 (MQ below (zk_Qi E r z') args s 0 0 (zk_A E)) 10 [(0, .ref (E.2.1 7 k)), (2, .int a2), (3, .int a3), (4, .int a4), (5, .int a5)] [] z) (a2 : Int32) (a3 : Int32) (a4 : Int32) (a5 : Int32) (z : zk_Z), fX7_gainByTurning_B87 k c10 a2 a3 a4 a5 z = some (r, z') → zk_G p l e (headSpec wsX7_gainByTurning { frames := 2, cells := 0, slots := 0, locals := 45 }).room s m args below meth c E 7 0 0 (MQ below (zk_Qi E r z') args s 0 0 (zk_A E)) 87 [(0, .ref (E.2.1 7 k)), (2, .int a2), (3, .int a3), (4, .int a4), (5, .int a5)] [] z := by
    intro c10 hc10 a2 a3 a4 a5 z h
    unfold fX7_gainByTurning_B87 at h
    refine zk_iinc X (lv' := [(5, .int (a5 + 1)), (0, .ref (E.2.1 7 k)), (2, .int a2), (3, .int a3), (4, .int a4)]) 4 dX7_gainByTurning_87 rfl rfl (by decide) rfl ?_
    refine zk_goto X (tgt := 10) dX7_gainByTurning_90 (by decide) ?_
    exact zk_sub [1, 2, 3, 4, 0] rfl (hc10 _ _ _ _ _ h)
  have L10 : ∀ (n : Nat) (a2 : Int32) (a3 : Int32) (a4 : Int32) (a5 : Int32) (z : zk_Z), fX7_gainByTurning_L10 k n a2 a3 a4 a5 z = some (r, z') → zk_G p l e (headSpec wsX7_gainByTurning { frames := 2, cells := 0, slots := 0, locals := 45 }).room s m args below meth c E 7 0 0 (MQ below (zk_Qi E r z') args s 0 0 (zk_A E)) 10 [(0, .ref (E.2.1 7 k)), (2, .int a2), (3, .int a3), (4, .int a4), (5, .int a5)] [] z := by
    intro n
    induction n with
    | zero => intro a2 a3 a4 a5 z h; exact absurd h (by simp [fX7_gainByTurning_L10])
    | succ n ih =>
      intro a2 a3 a4 a5 z h
      rw [fX7_gainByTurning_L10] at h
      refine zk_iload X 4 dX7_gainByTurning_10 rfl ?_
      refine zk_aload_n X 0 dX7_gainByTurning_12 rfl rfl ?_
      refine zk_get X iX7 (g := 7) (hk) rfl rfl 2 (by decide) w0 rfl dX7_gainByTurning_13 ?_
      refine zk_icmp_ge X (tgt := 93) dX7_gainByTurning_16 (by decide) h (fun h => ?_) (fun h => ?_)
      · refine zk_iload X 3 dX7_gainByTurning_93 rfl ?_
        exact zk_ireturn X hr dX7_gainByTurning_95 h
      · refine zk_aload_n X 0 dX7_gainByTurning_19 rfl rfl ?_
        refine zk_get X iX7 (g := 7) (hk) rfl rfl 6 (by decide) w1 rfl dX7_gainByTurning_20 ?_
        refine zk_iload X 4 dX7_gainByTurning_23 rfl ?_
        refine zk_iald X (g := 8) (hk) rfl dX7_gainByTurning_25 h (fun h => ?_)
        refine zk_aload_n X 0 dX7_gainByTurning_26 rfl rfl ?_
        refine zk_get X iX7 (g := 7) (hk) rfl rfl 7 (by decide) w2 rfl dX7_gainByTurning_27 ?_
        refine zk_iload X 4 dX7_gainByTurning_30 rfl ?_
        refine zk_iald X (g := 9) (hk) rfl dX7_gainByTurning_32 h (fun h => ?_)
        refine zk_ior X dX7_gainByTurning_33 ?_
        refine zk_iload_n X 2 dX7_gainByTurning_34 rfl rfl ?_
        refine zk_iand X dX7_gainByTurning_35 ?_
        refine zk_if_eq X (tgt := 87) dX7_gainByTurning_36 (by decide) h (fun h => ?_) (fun h => ?_)
        · exact zk_sub [0, 1, 2, 3, 4] rfl (B87 _ ih _ _ _ _ _ h)
        · refine zk_aload_n X 0 dX7_gainByTurning_39 rfl rfl ?_
          refine zk_iload X 4 dX7_gainByTurning_40 rfl ?_
          refine zk_vi X h (fun rr zz hf => ct_X7_width l E hi k (hk) a5 _ rr zz hf) (cwV 1 X.1.2.2.2.2 gX7_gainByTurning_X7_width rfl rfl rfl (by decide +kernel) ⟨Nat.le_of_ble_eq_true rfl, Nat.le_of_ble_eq_true rfl⟩) (zk_recv X (g := 7) (hk) rfl rfl) rfl rfl (Nat.le_of_ble_eq_true rfl) dX7_gainByTurning_42 (fun r2 z1 h => ?_)
          refine zk_istore X (lv' := [(6, .int r2), (0, .ref (E.2.1 7 k)), (2, .int a2), (3, .int a3), (4, .int a4), (5, .int a5)]) dX7_gainByTurning_45 (by decide) rfl ?_
          refine zk_iload X 4 dX7_gainByTurning_47 rfl ?_
          refine zk_aload_n X 1 dX7_gainByTurning_49 rfl rfl ?_
          refine zk_get X iX7 (g := 7) (hk) rfl rfl 0 (by decide) w3 rfl dX7_gainByTurning_50 ?_
          refine zk_aload_n X 1 dX7_gainByTurning_53 rfl rfl ?_
          refine zk_iload X 5 dX7_gainByTurning_54 rfl ?_
          refine zk_iload_n X 2 dX7_gainByTurning_56 rfl rfl ?_
          refine zk_iload_n X 3 dX7_gainByTurning_57 rfl rfl ?_
          refine zk_ixor X dX7_gainByTurning_58 ?_
          refine zk_vi X h (fun rr zz hf => ct_X7_trueOnes l E hi k (hk) a5 (a2 ^^^ a3) _ rr zz hf) (cwV 2 X.1.2.2.2.2 gX7_gainByTurning_X7_trueOnes rfl rfl rfl (by decide +kernel) ⟨Nat.le_of_ble_eq_true rfl, Nat.le_of_ble_eq_true rfl⟩) (zk_recv X (g := 7) (hk) rfl rfl) rfl rfl (Nat.le_of_ble_eq_true rfl) dX7_gainByTurning_59 (fun r4 z3 h => ?_)
          refine zk_iload X 0 dX7_gainByTurning_62 rfl ?_
          refine zk_si X h (fun rr zz hf => ct_X2_worth l E hi (z1.1 7 k 0) r4 r2 _ rr zz hf) (va_cwS 3 X.1.2.2.2.2 gX7_gainByTurning_X2_worth rfl rfl rfl (by decide +kernel) ⟨Nat.le_of_ble_eq_true rfl, Nat.le_of_ble_eq_true rfl⟩) rfl rfl (Nat.le_of_ble_eq_true rfl) dX7_gainByTurning_64 (fun r6 z5 h => ?_)
          refine zk_aload_n X 1 dX7_gainByTurning_67 rfl rfl ?_
          refine zk_get X iX7 (g := 7) (hk) rfl rfl 0 (by decide) w3 rfl dX7_gainByTurning_68 ?_
          refine zk_aload_n X 1 dX7_gainByTurning_71 rfl rfl ?_
          refine zk_iload X 5 dX7_gainByTurning_72 rfl ?_
          refine zk_iload_n X 2 dX7_gainByTurning_74 rfl rfl ?_
          refine zk_vi X h (fun rr zz hf => ct_X7_trueOnes l E hi k (hk) a5 a2 _ rr zz hf) (cwV 2 X.1.2.2.2.2 gX7_gainByTurning_X7_trueOnes rfl rfl rfl (by decide +kernel) ⟨Nat.le_of_ble_eq_true rfl, Nat.le_of_ble_eq_true rfl⟩) (zk_recv X (g := 7) (hk) rfl rfl) rfl rfl (Nat.le_of_ble_eq_true rfl) dX7_gainByTurning_75 (fun r8 z7 h => ?_)
          refine zk_iload X 0 dX7_gainByTurning_78 rfl ?_
          refine zk_si X h (fun rr zz hf => ct_X2_worth l E hi (z5.1 7 k 0) r8 r2 _ rr zz hf) (va_cwS 3 X.1.2.2.2.2 gX7_gainByTurning_X2_worth rfl rfl rfl (by decide +kernel) ⟨Nat.le_of_ble_eq_true rfl, Nat.le_of_ble_eq_true rfl⟩) rfl rfl (Nat.le_of_ble_eq_true rfl) dX7_gainByTurning_80 (fun r10 z9 h => ?_)
          refine zk_isub X dX7_gainByTurning_83 ?_
          refine zk_iadd X dX7_gainByTurning_84 ?_
          refine zk_istore X (lv' := [(4, .int (a4 + (r6 - r10))), (6, .int r2), (0, .ref (E.2.1 7 k)), (2, .int a2), (3, .int a3), (5, .int a5)]) dX7_gainByTurning_85 (by decide) rfl ?_
          exact zk_sub [2, 3, 4, 0, 5] rfl (B87 _ ih _ _ _ _ _ h)
  unfold fX7_gainByTurning at h
  refine zk_iconst X (v := 1) dX7_gainByTurning_0 (by decide) ?_
  refine zk_iload_n X 1 dX7_gainByTurning_1 rfl rfl ?_
  refine zk_ishl X dX7_gainByTurning_2 ?_
  refine zk_istore_n X (lv' := [(3, .int ((1 : Int32) <<< (x1 &&& 31))), (0, .ref (E.2.1 7 k)), (1, .int x1), (2, .int x2)]) dX7_gainByTurning_3 rfl (by decide) rfl ?_
  refine zk_iconst X (v := 0) dX7_gainByTurning_4 (by decide) ?_
  refine zk_istore X (lv' := [(4, .int 0), (3, .int ((1 : Int32) <<< (x1 &&& 31))), (0, .ref (E.2.1 7 k)), (1, .int x1), (2, .int x2)]) dX7_gainByTurning_5 (by decide) rfl ?_
  refine zk_iconst X (v := 0) dX7_gainByTurning_7 (by decide) ?_
  refine zk_istore X (lv' := [(5, .int 0), (4, .int 0), (3, .int ((1 : Int32) <<< (x1 &&& 31))), (0, .ref (E.2.1 7 k)), (1, .int x1), (2, .int x2)]) dX7_gainByTurning_8 (by decide) rfl ?_
  exact zk_sub [3, 5, 2, 1, 0] rfl (L10  _ _ _ _ _ _ h)
def fX7_rows (k : Nat) (z : zk_Z) : Option (Int32 × zk_Z) := some ((1 : Int32) <<< ((z.1 7 k 1) &&& 31), z)
set_option maxRecDepth 100000 in
set_option maxHeartbeats 8000000 in
theorem ct_X7_rows (l : Launch) (E : zk_E) (hi : zk_inj E) (k : Nat) (hk : k < zk_cnt 7) (z : zk_Z) (r : Int32) (z' : zk_Z) (h : fX7_rows k  z = some (r, z')) : Met l yX7_rows wsX7_rows { frames := 0, cells := 0, slots := 0, locals := 0 } (va_Pc [.ref (E.2.1 7 k)] (zk_W E z)) (zk_Qi E r z') 0 0 (zk_A E) := by
  refine zk_met (cc := cX7_rows) (maxL := 1) (ret := (some .int)) (own := RX7) (by decide) rfl rfl hi (Nat.le_of_ble_eq_true rfl) ?_
  intro p e s m args below meth c X hr
  have iX7 : ∀ w ∈ u_ws RX7 TX7 8, w ∈ wsX7_rows := by decide +kernel
  have w0 : Cond.fieldLink RX7 22 "HiddenWorks$Task" "letters" "I" ∈ wsX7_rows := by decide +kernel
  unfold fX7_rows at h
  refine zk_iconst X (v := 1) dX7_rows_0 (by decide) ?_
  refine zk_aload_n X 0 dX7_rows_1 rfl rfl ?_
  refine zk_get X iX7 (g := 7) (hk) rfl rfl 1 (by decide) w0 rfl dX7_rows_2 ?_
  refine zk_ishl X dX7_rows_5 ?_
  exact zk_ireturn X hr dX7_rows_6 h
def fX1_rowAfter_B60 (k1 : Nat) (c24 : Int32 → Int32 → Int32 → Int32 → zk_Z → Option (Int32 × zk_Z)) (a2 : Int32) (a3 : Int32) (a4 : Int32) (a5 : Int32) (z : zk_Z) : Option (Int32 × zk_Z) := c24 a2 a3 a4 (a5 + 1) z
def fX1_rowAfter_L24 (k1 : Nat) : Nat → Int32 → Int32 → Int32 → Int32 → zk_Z → Option (Int32 × zk_Z)
  | 0, _, _, _, _, _ => none
  | n + 1, a2, a3, a4, a5, z => if (z.1 7 k1 1) ≤ a5 then some (a3, z) else zk_bd (fX7_gainByTurning k1 a5 a2 z) (fun r4 z3 => if r4 ≤ a4 then fX1_rowAfter_B60 k1 (fX1_rowAfter_L24 k1 n) a2 a3 a4 a5 z3 else fX1_rowAfter_B60 k1 (fX1_rowAfter_L24 k1 n) a2 (a2 ^^^ ((1 : Int32) <<< (a5 &&& 31))) r4 a5 z3)
def fX1_rowAfter (k1 : Nat) (x2 : Int32) (z : zk_Z) : Option (Int32 × zk_Z) := zk_bd (fX7_rows k1 z) (fun r2 z1 => fX1_rowAfter_L24 k1 zk_FU x2 ((((5 * x2) + 3) + (z.1 16 0 1)) &&& (r2 - 1)) 0 0 z1)
set_option maxRecDepth 100000 in
set_option maxHeartbeats 8000000 in
theorem ct_X1_rowAfter (l : Launch) (E : zk_E) (hi : zk_inj E) (k1 : Nat) (hk1 : k1 < zk_cnt 7) (x2 : Int32) (z : zk_Z) (r : Int32) (z' : zk_Z) (h : fX1_rowAfter k1 x2 z = some (r, z')) : Met l yX1_rowAfter wsX1_rowAfter { frames := 3, cells := 0, slots := 0, locals := 71 } (va_Pc [.ref (E.2.1 16 0), .ref (E.2.1 7 k1), .int x2] (zk_W E z)) (zk_Qi E r z') 0 0 (zk_A E) := by
  refine zk_met (cc := cX1_rowAfter) (maxL := 7) (ret := (some .int)) (own := RX1) (by decide) rfl rfl hi (Nat.le_of_ble_eq_true rfl) ?_
  intro p e s m args below meth c X hr
  have iX1 : ∀ w ∈ u_ws RX1 TX1 2, w ∈ wsX1_rowAfter := by decide +kernel
  have iX7 : ∀ w ∈ u_ws RX7 TX7 8, w ∈ wsX1_rowAfter := by decide +kernel
  have w0 : Cond.fieldLink RX1 13 "HiddenWorks$Finder" "steps" "I" ∈ wsX1_rowAfter := by decide +kernel
  have w1 : Cond.fieldLink RX1 50 "HiddenWorks$Task" "letters" "I" ∈ wsX1_rowAfter := by decide +kernel
  have B60 : ∀ (c24 : Int32 → Int32 → Int32 → Int32 → zk_Z → Option (Int32 × zk_Z)) (hc24 : ∀ (a2 : Int32) (a3 : Int32) (a4 : Int32) (a5 : Int32) (z : zk_Z), c24 a2 a3 a4 a5 z = some (r, z') → zk_G p l e (headSpec wsX1_rowAfter { frames := 3, cells := 0, slots := 0, locals := 71 }).room s m args below meth c E 7 0 0 (MQ below (zk_Qi E r z') args s 0 0 (zk_A E)) 24 [(1, .ref (E.2.1 7 k1)), (2, .int a2), (3, .int a3), (4, .int a4), (5, .int a5)] [] z) (a2 : Int32) (a3 : Int32) (a4 : Int32) (a5 : Int32) (z : zk_Z), fX1_rowAfter_B60 k1 c24 a2 a3 a4 a5 z = some (r, z') → zk_G p l e (headSpec wsX1_rowAfter { frames := 3, cells := 0, slots := 0, locals := 71 }).room s m args below meth c E 7 0 0 (MQ below (zk_Qi E r z') args s 0 0 (zk_A E)) 60 [(1, .ref (E.2.1 7 k1)), (2, .int a2), (3, .int a3), (4, .int a4), (5, .int a5)] [] z := by
    intro c24 hc24 a2 a3 a4 a5 z h
    unfold fX1_rowAfter_B60 at h
    refine zk_iinc X (lv' := [(5, .int (a5 + 1)), (1, .ref (E.2.1 7 k1)), (2, .int a2), (3, .int a3), (4, .int a4)]) 4 dX1_rowAfter_60 rfl rfl (by decide) rfl ?_
    refine zk_goto X (tgt := 24) dX1_rowAfter_63 (by decide) ?_
    exact zk_sub [1, 2, 3, 4, 0] rfl (hc24 _ _ _ _ _ h)
  have L24 : ∀ (n : Nat) (a2 : Int32) (a3 : Int32) (a4 : Int32) (a5 : Int32) (z : zk_Z), fX1_rowAfter_L24 k1 n a2 a3 a4 a5 z = some (r, z') → zk_G p l e (headSpec wsX1_rowAfter { frames := 3, cells := 0, slots := 0, locals := 71 }).room s m args below meth c E 7 0 0 (MQ below (zk_Qi E r z') args s 0 0 (zk_A E)) 24 [(1, .ref (E.2.1 7 k1)), (2, .int a2), (3, .int a3), (4, .int a4), (5, .int a5)] [] z := by
    intro n
    induction n with
    | zero => intro a2 a3 a4 a5 z h; exact absurd h (by simp [fX1_rowAfter_L24])
    | succ n ih =>
      intro a2 a3 a4 a5 z h
      rw [fX1_rowAfter_L24] at h
      refine zk_iload X 4 dX1_rowAfter_24 rfl ?_
      refine zk_aload_n X 0 dX1_rowAfter_26 rfl rfl ?_
      refine zk_get X iX7 (g := 7) (hk1) rfl rfl 1 (by decide) w1 rfl dX1_rowAfter_27 ?_
      refine zk_icmp_ge X (tgt := 66) dX1_rowAfter_30 (by decide) h (fun h => ?_) (fun h => ?_)
      · refine zk_iload_n X 2 dX1_rowAfter_66 rfl rfl ?_
        exact zk_ireturn X hr dX1_rowAfter_67 h
      · refine zk_aload_n X 0 dX1_rowAfter_33 rfl rfl ?_
        refine zk_iload X 4 dX1_rowAfter_34 rfl ?_
        refine zk_iload_n X 1 dX1_rowAfter_36 rfl rfl ?_
        refine zk_vi X h (fun rr zz hf => ct_X7_gainByTurning l E hi k1 (hk1) a5 a2 _ rr zz hf) (cwV 2 X.1.2.2.2.2 gX1_rowAfter_X7_gainByTurning rfl rfl rfl (by decide +kernel) ⟨Nat.le_of_ble_eq_true rfl, Nat.le_of_ble_eq_true rfl⟩) (zk_recv X (g := 7) (hk1) rfl rfl) rfl rfl (Nat.le_of_ble_eq_true rfl) dX1_rowAfter_37 (fun r4 z3 h => ?_)
        refine zk_istore X (lv' := [(6, .int r4), (1, .ref (E.2.1 7 k1)), (2, .int a2), (3, .int a3), (4, .int a4), (5, .int a5)]) dX1_rowAfter_40 (by decide) rfl ?_
        refine zk_iload X 0 dX1_rowAfter_42 rfl ?_
        refine zk_iload X 4 dX1_rowAfter_44 rfl ?_
        refine zk_icmp_le X (tgt := 60) dX1_rowAfter_46 (by decide) h (fun h => ?_) (fun h => ?_)
        · exact zk_sub [1, 2, 3, 4, 5] rfl (B60 _ ih _ _ _ _ _ h)
        · refine zk_iload_n X 2 dX1_rowAfter_49 rfl rfl ?_
          refine zk_iconst X (v := 1) dX1_rowAfter_50 (by decide) ?_
          refine zk_iload X 5 dX1_rowAfter_51 rfl ?_
          refine zk_ishl X dX1_rowAfter_53 ?_
          refine zk_ixor X dX1_rowAfter_54 ?_
          refine zk_istore_n X (lv' := [(3, .int (a2 ^^^ ((1 : Int32) <<< (a5 &&& 31)))), (6, .int r4), (1, .ref (E.2.1 7 k1)), (2, .int a2), (4, .int a4), (5, .int a5)]) dX1_rowAfter_55 rfl (by decide) rfl ?_
          refine zk_iload X 1 dX1_rowAfter_56 rfl ?_
          refine zk_istore X (lv' := [(4, .int r4), (3, .int (a2 ^^^ ((1 : Int32) <<< (a5 &&& 31)))), (6, .int r4), (1, .ref (E.2.1 7 k1)), (2, .int a2), (5, .int a5)]) dX1_rowAfter_58 (by decide) rfl ?_
          exact zk_sub [3, 4, 1, 0, 5] rfl (B60 _ ih _ _ _ _ _ h)
  unfold fX1_rowAfter at h
  refine zk_iconst X (v := 5) dX1_rowAfter_0 (by decide) ?_
  refine zk_iload_n X 2 dX1_rowAfter_1 rfl rfl ?_
  refine zk_imul X dX1_rowAfter_2 ?_
  refine zk_iconst X (v := 3) dX1_rowAfter_3 (by decide) ?_
  refine zk_iadd X dX1_rowAfter_4 ?_
  refine zk_aload_n X 0 dX1_rowAfter_5 rfl rfl ?_
  refine zk_get X iX1 (g := 16) (Nat.zero_lt_one) rfl rfl 1 (by decide) w0 rfl dX1_rowAfter_6 ?_
  refine zk_iadd X dX1_rowAfter_9 ?_
  refine zk_aload_n X 1 dX1_rowAfter_10 rfl rfl ?_
  refine zk_vi X h (fun rr zz hf => ct_X7_rows l E hi k1 (hk1)  _ rr zz hf) (cwV 0 X.1.2.2.2.2 gX1_rowAfter_X7_rows rfl rfl rfl (by decide +kernel) ⟨Nat.le_of_ble_eq_true rfl, Nat.le_of_ble_eq_true rfl⟩) (zk_recv X (g := 7) (hk1) rfl rfl) rfl rfl (Nat.le_of_ble_eq_true rfl) dX1_rowAfter_11 (fun r2 z1 h => ?_)
  refine zk_iconst X (v := 1) dX1_rowAfter_14 (by decide) ?_
  refine zk_isub X dX1_rowAfter_15 ?_
  refine zk_iand X dX1_rowAfter_16 ?_
  refine zk_istore_n X (lv' := [(3, .int ((((5 * x2) + 3) + (z.1 16 0 1)) &&& (r2 - 1))), (0, .ref (E.2.1 16 0)), (1, .ref (E.2.1 7 k1)), (2, .int x2)]) dX1_rowAfter_17 rfl (by decide) rfl ?_
  refine zk_iconst X (v := 0) dX1_rowAfter_18 (by decide) ?_
  refine zk_istore X (lv' := [(4, .int 0), (3, .int ((((5 * x2) + 3) + (z.1 16 0 1)) &&& (r2 - 1))), (0, .ref (E.2.1 16 0)), (1, .ref (E.2.1 7 k1)), (2, .int x2)]) dX1_rowAfter_19 (by decide) rfl ?_
  refine zk_iconst X (v := 0) dX1_rowAfter_21 (by decide) ?_
  refine zk_istore X (lv' := [(5, .int 0), (4, .int 0), (3, .int ((((5 * x2) + 3) + (z.1 16 0 1)) &&& (r2 - 1))), (0, .ref (E.2.1 16 0)), (1, .ref (E.2.1 7 k1)), (2, .int x2)]) dX1_rowAfter_22 (by decide) rfl ?_
  exact zk_sub [4, 5, 2, 1, 0] rfl (L24  _ _ _ _ _ _ h)
def fX7_holds (k : Nat) (x1 : Int32) (x2 : Int32) (z : zk_Z) : Option (Int32 × zk_Z) := zk_bd (fX7_trueOnes k x1 x2 z) (fun r2 z1 => zk_bd (fX7_width k x1 z1) (fun r4 z3 => zk_bd (fX2_holds (z.1 7 k 0) r2 r4 z3) (fun r6 z5 => zk_gd (zk_bz r6) (some (r6, z5)))))
set_option maxRecDepth 100000 in
set_option maxHeartbeats 8000000 in
theorem ct_X7_holds (l : Launch) (E : zk_E) (hi : zk_inj E) (k : Nat) (hk : k < zk_cnt 7) (x1 : Int32) (x2 : Int32) (z : zk_Z) (r : Int32) (z' : zk_Z) (h : fX7_holds k x1 x2 z = some (r, z')) : Met l yX7_holds wsX7_holds { frames := 2, cells := 0, slots := 0, locals := 42 } (va_Pc [.ref (E.2.1 7 k), .int x1, .int x2] (zk_W E z)) (zk_Qi E r z') 0 0 (zk_A E) := by
  refine zk_met (cc := cX7_holds) (maxL := 3) (ret := (some .boolean)) (own := RX7) (by decide) rfl rfl hi (Nat.le_of_ble_eq_true rfl) ?_
  intro p e s m args below meth c X hr
  have iX7 : ∀ w ∈ u_ws RX7 TX7 8, w ∈ wsX7_holds := by decide +kernel
  have w0 : Cond.fieldLink RX7 18 "HiddenWorks$Task" "kind" "I" ∈ wsX7_holds := by decide +kernel
  unfold fX7_holds at h
  refine zk_aload_n X 0 dX7_holds_0 rfl rfl ?_
  refine zk_get X iX7 (g := 7) (hk) rfl rfl 0 (by decide) w0 rfl dX7_holds_1 ?_
  refine zk_aload_n X 0 dX7_holds_4 rfl rfl ?_
  refine zk_iload_n X 1 dX7_holds_5 rfl rfl ?_
  refine zk_iload_n X 2 dX7_holds_6 rfl rfl ?_
  refine zk_vi X h (fun rr zz hf => ct_X7_trueOnes l E hi k (hk) x1 x2 _ rr zz hf) (cwV 2 X.1.2.2.2.2 gX7_holds_X7_trueOnes rfl rfl rfl (by decide +kernel) ⟨Nat.le_of_ble_eq_true rfl, Nat.le_of_ble_eq_true rfl⟩) (zk_recv X (g := 7) (hk) rfl rfl) rfl rfl (Nat.le_of_ble_eq_true rfl) dX7_holds_7 (fun r2 z1 h => ?_)
  refine zk_aload_n X 0 dX7_holds_10 rfl rfl ?_
  refine zk_iload_n X 1 dX7_holds_11 rfl rfl ?_
  refine zk_vi X h (fun rr zz hf => ct_X7_width l E hi k (hk) x1 _ rr zz hf) (cwV 1 X.1.2.2.2.2 gX7_holds_X7_width rfl rfl rfl (by decide +kernel) ⟨Nat.le_of_ble_eq_true rfl, Nat.le_of_ble_eq_true rfl⟩) (zk_recv X (g := 7) (hk) rfl rfl) rfl rfl (Nat.le_of_ble_eq_true rfl) dX7_holds_12 (fun r4 z3 h => ?_)
  refine zk_si X h (fun rr zz hf => ct_X2_holds l E hi  (z.1 7 k 0) r2 r4 _ rr zz hf) (va_cwS 3 X.1.2.2.2.2 gX7_holds_X2_holds rfl rfl rfl (by decide +kernel) ⟨Nat.le_of_ble_eq_true rfl, Nat.le_of_ble_eq_true rfl⟩) rfl rfl (Nat.le_of_ble_eq_true rfl) dX7_holds_15 (fun r6 z5 h => ?_)
  exact zk_zreturnG X hr dX7_holds_18 h
def fX7_brokenFrom_L2 (k : Nat) : Nat → Int32 → Int32 → zk_Z → Option (Int32 × zk_Z)
  | 0, _, _, _ => none
  | n + 1, a2, a3, z => if (z.1 7 k 2) ≤ a3 then some ((-1), z) else zk_bd (fX7_holds k a3 a2 z) (fun r2 z1 => if r2 = 0 then some (a3, z1) else (fX7_brokenFrom_L2 k n) a2 (a3 + 1) z1)
def fX7_brokenFrom (k : Nat) (x1 : Int32) (x2 : Int32) (z : zk_Z) : Option (Int32 × zk_Z) := fX7_brokenFrom_L2 k zk_FU x2 x1 z
set_option maxRecDepth 100000 in
set_option maxHeartbeats 8000000 in
theorem ct_X7_brokenFrom (l : Launch) (E : zk_E) (hi : zk_inj E) (k : Nat) (hk : k < zk_cnt 7) (x1 : Int32) (x2 : Int32) (z : zk_Z) (r : Int32) (z' : zk_Z) (h : fX7_brokenFrom k x1 x2 z = some (r, z')) : Met l yX7_brokenFrom wsX7_brokenFrom { frames := 3, cells := 0, slots := 0, locals := 64 } (va_Pc [.ref (E.2.1 7 k), .int x1, .int x2] (zk_W E z)) (zk_Qi E r z') 0 0 (zk_A E) := by
  refine zk_met (cc := cX7_brokenFrom) (maxL := 4) (ret := (some .int)) (own := RX7) (by decide) rfl rfl hi (Nat.le_of_ble_eq_true rfl) ?_
  intro p e s m args below meth c X hr
  have iX7 : ∀ w ∈ u_ws RX7 TX7 8, w ∈ wsX7_brokenFrom := by decide +kernel
  have w0 : Cond.fieldLink RX7 25 "HiddenWorks$Task" "clauses" "I" ∈ wsX7_brokenFrom := by decide +kernel
  have L2 : ∀ (n : Nat) (a2 : Int32) (a3 : Int32) (z : zk_Z), fX7_brokenFrom_L2 k n a2 a3 z = some (r, z') → zk_G p l e (headSpec wsX7_brokenFrom { frames := 3, cells := 0, slots := 0, locals := 64 }).room s m args below meth c E 4 0 0 (MQ below (zk_Qi E r z') args s 0 0 (zk_A E)) 2 [(0, .ref (E.2.1 7 k)), (2, .int a2), (3, .int a3)] [] z := by
    intro n
    induction n with
    | zero => intro a2 a3 z h; exact absurd h (by simp [fX7_brokenFrom_L2])
    | succ n ih =>
      intro a2 a3 z h
      rw [fX7_brokenFrom_L2] at h
      refine zk_iload_n X 2 dX7_brokenFrom_2 rfl rfl ?_
      refine zk_aload_n X 0 dX7_brokenFrom_3 rfl rfl ?_
      refine zk_get X iX7 (g := 7) (hk) rfl rfl 2 (by decide) w0 rfl dX7_brokenFrom_4 ?_
      refine zk_icmp_ge X (tgt := 27) dX7_brokenFrom_7 (by decide) h (fun h => ?_) (fun h => ?_)
      · refine zk_iconst X (v := -1) dX7_brokenFrom_27 (by decide) ?_
        exact zk_ireturn X hr dX7_brokenFrom_28 h
      · refine zk_aload_n X 0 dX7_brokenFrom_10 rfl rfl ?_
        refine zk_iload_n X 2 dX7_brokenFrom_11 rfl rfl ?_
        refine zk_iload_n X 1 dX7_brokenFrom_12 rfl rfl ?_
        refine zk_vi X h (fun rr zz hf => ct_X7_holds l E hi k (hk) a3 a2 _ rr zz hf) (cwV 2 X.1.2.2.2.2 gX7_brokenFrom_X7_holds rfl rfl rfl (by decide +kernel) ⟨Nat.le_of_ble_eq_true rfl, Nat.le_of_ble_eq_true rfl⟩) (zk_recv X (g := 7) (hk) rfl rfl) rfl rfl (Nat.le_of_ble_eq_true rfl) dX7_brokenFrom_13 (fun r2 z1 h => ?_)
        refine zk_if_ne X (tgt := 21) dX7_brokenFrom_16 (by decide) h (fun h => ?_) (fun h => ?_)
        · refine zk_iload_n X 2 dX7_brokenFrom_19 rfl rfl ?_
          exact zk_ireturn X hr dX7_brokenFrom_20 h
        · refine zk_iinc X (lv' := [(3, .int (a3 + 1)), (0, .ref (E.2.1 7 k)), (2, .int a2)]) 2 dX7_brokenFrom_21 rfl rfl (by decide) rfl ?_
          refine zk_goto X (tgt := 2) dX7_brokenFrom_24 (by decide) ?_
          exact zk_sub [1, 2, 0] rfl (ih _ _ _ h)
  unfold fX7_brokenFrom at h
  refine zk_iload_n X 1 dX7_brokenFrom_0 rfl rfl ?_
  refine zk_istore_n X (lv' := [(3, .int x1), (0, .ref (E.2.1 7 k)), (1, .int x1), (2, .int x2)]) dX7_brokenFrom_1 rfl (by decide) rfl ?_
  exact zk_sub [1, 3, 0] rfl (L2  _ _ _ _ h)
def fX7_isSolvedBy (k : Nat) (x1 : Int32) (z : zk_Z) : Option (Int32 × zk_Z) := zk_bd (fX7_brokenFrom k 0 x1 z) (fun r2 z1 => if 0 ≤ r2 then some (0, z1) else some (1, z1))
set_option maxRecDepth 100000 in
set_option maxHeartbeats 8000000 in
theorem ct_X7_isSolvedBy (l : Launch) (E : zk_E) (hi : zk_inj E) (k : Nat) (hk : k < zk_cnt 7) (x1 : Int32) (z : zk_Z) (r : Int32) (z' : zk_Z) (h : fX7_isSolvedBy k x1 z = some (r, z')) : Met l yX7_isSolvedBy wsX7_isSolvedBy { frames := 4, cells := 0, slots := 0, locals := 87 } (va_Pc [.ref (E.2.1 7 k), .int x1] (zk_W E z)) (zk_Qi E r z') 0 0 (zk_A E) := by
  refine zk_met (cc := cX7_isSolvedBy) (maxL := 2) (ret := (some .boolean)) (own := RX7) (by decide) rfl rfl hi (Nat.le_of_ble_eq_true rfl) ?_
  intro p e s m args below meth c X hr
  unfold fX7_isSolvedBy at h
  refine zk_aload_n X 0 dX7_isSolvedBy_0 rfl rfl ?_
  refine zk_iconst X (v := 0) dX7_isSolvedBy_1 (by decide) ?_
  refine zk_iload_n X 1 dX7_isSolvedBy_2 rfl rfl ?_
  refine zk_vi X h (fun rr zz hf => ct_X7_brokenFrom l E hi k (hk) 0 x1 _ rr zz hf) (cwV 2 X.1.2.2.2.2 gX7_isSolvedBy_X7_brokenFrom rfl rfl rfl (by decide +kernel) ⟨Nat.le_of_ble_eq_true rfl, Nat.le_of_ble_eq_true rfl⟩) (zk_recv X (g := 7) (hk) rfl rfl) rfl rfl (Nat.le_of_ble_eq_true rfl) dX7_isSolvedBy_3 (fun r2 z1 h => ?_)
  refine zk_if_ge X (tgt := 13) dX7_isSolvedBy_6 (by decide) h (fun h => ?_) (fun h => ?_)
  · refine zk_iconst X (v := 0) dX7_isSolvedBy_13 (by decide) ?_
    exact zk_zreturn X hr dX7_isSolvedBy_14 rfl h
  · refine zk_iconst X (v := 1) dX7_isSolvedBy_9 (by decide) ?_
    refine zk_goto X (tgt := 14) dX7_isSolvedBy_10 (by decide) ?_
    exact zk_zreturn X hr dX7_isSolvedBy_14 rfl h
def fX1_climb_L6 (k1 : Nat) : Nat → Int32 → Int32 → Int32 → zk_Z → Option (Unit × zk_Z)
  | 0, _, _, _, _ => none
  | n + 1, a3, a4, a5, z => if a3 < a5 then some ((), z) else zk_bd (fX7_isSolvedBy k1 a4 (zk_sI z 16 0 1 a5)) (fun r2 z1 => if r2 = 0 then zk_bd (fX1_rowAfter k1 a4 z1) (fun r4 z3 => (fX1_climb_L6 k1 n) a3 r4 (a5 + 1) z3) else some ((), zk_sI z1 16 0 0 a4))
def fX1_climb (k1 : Nat) (x2 : Int32) (x3 : Int32) (z : zk_Z) : Option (Unit × zk_Z) := fX1_climb_L6 k1 zk_FU x3 x2 1 z
set_option maxRecDepth 100000 in
set_option maxHeartbeats 8000000 in
theorem ct_X1_climb (l : Launch) (E : zk_E) (hi : zk_inj E) (k1 : Nat) (hk1 : k1 < zk_cnt 7) (x2 : Int32) (x3 : Int32) (z : zk_Z) (r : Unit) (z' : zk_Z) (h : fX1_climb k1 x2 x3 z = some (r, z')) : Met l yX1_climb wsX1_climb { frames := 5, cells := 0, slots := 0, locals := 108 } (va_Pc [.ref (E.2.1 16 0), .ref (E.2.1 7 k1), .int x2, .int x3] (zk_W E z)) (zk_Qv E z') 0 0 (zk_A E) := by
  refine zk_met (cc := cX1_climb) (maxL := 6) (ret := none) (own := RX1) (by decide) rfl rfl hi (Nat.le_of_ble_eq_true rfl) ?_
  intro p e s m args below meth c X hr
  have iX1 : ∀ w ∈ u_ws RX1 TX1 2, w ∈ wsX1_climb := by decide +kernel
  have w0 : Cond.fieldLink RX1 13 "HiddenWorks$Finder" "steps" "I" ∈ wsX1_climb := by decide +kernel
  have w1 : Cond.fieldLink RX1 7 "HiddenWorks$Finder" "found" "I" ∈ wsX1_climb := by decide +kernel
  have L6 : ∀ (n : Nat) (a3 : Int32) (a4 : Int32) (a5 : Int32) (z : zk_Z), fX1_climb_L6 k1 n a3 a4 a5 z = some (r, z') → zk_G p l e (headSpec wsX1_climb { frames := 5, cells := 0, slots := 0, locals := 108 }).room s m args below meth c E 6 0 0 (MQ below (zk_Qv E z') args s 0 0 (zk_A E)) 6 [(0, .ref (E.2.1 16 0)), (1, .ref (E.2.1 7 k1)), (3, .int a3), (4, .int a4), (5, .int a5)] [] z := by
    intro n
    induction n with
    | zero => intro a3 a4 a5 z h; exact absurd h (by simp [fX1_climb_L6])
    | succ n ih =>
      intro a3 a4 a5 z h
      rw [fX1_climb_L6] at h
      refine zk_iload X 4 dX1_climb_6 rfl ?_
      refine zk_iload_n X 2 dX1_climb_8 rfl rfl ?_
      refine zk_icmp_gt X (tgt := 49) dX1_climb_9 (by decide) h (fun h => ?_) (fun h => ?_)
      · exact zk_vreturn X hr dX1_climb_49 h
      · refine zk_aload_n X 0 dX1_climb_12 rfl rfl ?_
        refine zk_iload X 4 dX1_climb_13 rfl ?_
        refine zk_putI X (ty := .int) iX1 tyX1 tyX1_ok nmX1 (g := 16) (Nat.zero_lt_one) rfl rfl 1 (by decide) w0 rfl (by decide +kernel) rfl rfl (Nat.le_of_ble_eq_true rfl) rfl dX1_climb_15 ?_
        refine zk_aload_n X 1 dX1_climb_18 rfl rfl ?_
        refine zk_iload X 3 dX1_climb_19 rfl ?_
        refine zk_vi X h (fun rr zz hf => ct_X7_isSolvedBy l E hi k1 (hk1) a4 _ rr zz hf) (cwV 1 X.1.2.2.2.2 gX1_climb_X7_isSolvedBy rfl rfl rfl (by decide +kernel) ⟨Nat.le_of_ble_eq_true rfl, Nat.le_of_ble_eq_true rfl⟩) (zk_recv X (g := 7) (hk1) rfl rfl) rfl rfl (Nat.le_of_ble_eq_true rfl) dX1_climb_21 (fun r2 z1 h => ?_)
        refine zk_if_eq X (tgt := 34) dX1_climb_24 (by decide) h (fun h => ?_) (fun h => ?_)
        · refine zk_aload_n X 0 dX1_climb_34 rfl rfl ?_
          refine zk_aload_n X 1 dX1_climb_35 rfl rfl ?_
          refine zk_iload X 3 dX1_climb_36 rfl ?_
          refine zk_vi X h (fun rr zz hf => ct_X1_rowAfter l E hi k1 (hk1) a4 _ rr zz hf) (cwV 2 X.1.2.2.2.2 gX1_climb_X1_rowAfter rfl rfl rfl (by decide +kernel) ⟨Nat.le_of_ble_eq_true rfl, Nat.le_of_ble_eq_true rfl⟩) (zk_recv X (g := 16) (Nat.zero_lt_one) rfl rfl) rfl rfl (Nat.le_of_ble_eq_true rfl) dX1_climb_38 (fun r4 z3 h => ?_)
          refine zk_istore X (lv' := [(4, .int r4), (0, .ref (E.2.1 16 0)), (1, .ref (E.2.1 7 k1)), (3, .int a3), (5, .int a5)]) dX1_climb_41 (by decide) rfl ?_
          refine zk_iinc X (lv' := [(5, .int (a5 + 1)), (4, .int r4), (0, .ref (E.2.1 16 0)), (1, .ref (E.2.1 7 k1)), (3, .int a3)]) 4 dX1_climb_43 rfl rfl (by decide) rfl ?_
          refine zk_goto X (tgt := 6) dX1_climb_46 (by decide) ?_
          exact zk_sub [2, 3, 4, 1, 0] rfl (ih _ _ _ _ h)
        · refine zk_aload_n X 0 dX1_climb_27 rfl rfl ?_
          refine zk_iload X 3 dX1_climb_28 rfl ?_
          refine zk_putI X (ty := .int) iX1 tyX1 tyX1_ok nmX1 (g := 16) (Nat.zero_lt_one) rfl rfl 0 (by decide) w1 rfl (by decide +kernel) rfl rfl (Nat.le_of_ble_eq_true rfl) rfl dX1_climb_30 ?_
          exact zk_vreturn X hr dX1_climb_33 h
  unfold fX1_climb at h
  refine zk_iload_n X 2 dX1_climb_0 rfl rfl ?_
  refine zk_istore X (lv' := [(4, .int x2), (0, .ref (E.2.1 16 0)), (1, .ref (E.2.1 7 k1)), (2, .int x2), (3, .int x3)]) dX1_climb_1 (by decide) rfl ?_
  refine zk_iconst X (v := 1) dX1_climb_3 (by decide) ?_
  refine zk_istore X (lv' := [(5, .int 1), (4, .int x2), (0, .ref (E.2.1 16 0)), (1, .ref (E.2.1 7 k1)), (2, .int x2), (3, .int x3)]) dX1_climb_4 (by decide) rfl ?_
  exact zk_sub [2, 3, 5, 1, 0] rfl (L6  _ _ _ _ _ h)
def fX1_foundHidden (k1 : Nat) (z : zk_Z) : Option (Int32 × zk_Z) := if (z.1 16 0 0) < 0 then some (0, z) else if (z.1 16 0 0) = (z.1 7 k1 3) then some (1, z) else some (0, z)
set_option maxRecDepth 100000 in
set_option maxHeartbeats 8000000 in
theorem ct_X1_foundHidden (l : Launch) (E : zk_E) (hi : zk_inj E) (k1 : Nat) (hk1 : k1 < zk_cnt 7) (z : zk_Z) (r : Int32) (z' : zk_Z) (h : fX1_foundHidden k1  z = some (r, z')) : Met l yX1_foundHidden wsX1_foundHidden { frames := 0, cells := 0, slots := 0, locals := 0 } (va_Pc [.ref (E.2.1 16 0), .ref (E.2.1 7 k1)] (zk_W E z)) (zk_Qi E r z') 0 0 (zk_A E) := by
  refine zk_met (cc := cX1_foundHidden) (maxL := 2) (ret := (some .boolean)) (own := RX1) (by decide) rfl rfl hi (Nat.le_of_ble_eq_true rfl) ?_
  intro p e s m args below meth c X hr
  have iX1 : ∀ w ∈ u_ws RX1 TX1 2, w ∈ wsX1_foundHidden := by decide +kernel
  have iX7 : ∀ w ∈ u_ws RX7 TX7 8, w ∈ wsX1_foundHidden := by decide +kernel
  have w0 : Cond.fieldLink RX1 7 "HiddenWorks$Finder" "found" "I" ∈ wsX1_foundHidden := by decide +kernel
  have w1 : Cond.fieldLink RX1 36 "HiddenWorks$Task" "hidden" "I" ∈ wsX1_foundHidden := by decide +kernel
  unfold fX1_foundHidden at h
  refine zk_aload_n X 0 dX1_foundHidden_0 rfl rfl ?_
  refine zk_get X iX1 (g := 16) (Nat.zero_lt_one) rfl rfl 0 (by decide) w0 rfl dX1_foundHidden_1 ?_
  refine zk_if_lt X (tgt := 22) dX1_foundHidden_4 (by decide) h (fun h => ?_) (fun h => ?_)
  · refine zk_iconst X (v := 0) dX1_foundHidden_22 (by decide) ?_
    exact zk_zreturn X hr dX1_foundHidden_23 rfl h
  · refine zk_aload_n X 0 dX1_foundHidden_7 rfl rfl ?_
    refine zk_get X iX1 (g := 16) (Nat.zero_lt_one) rfl rfl 0 (by decide) w0 rfl dX1_foundHidden_8 ?_
    refine zk_aload_n X 1 dX1_foundHidden_11 rfl rfl ?_
    refine zk_get X iX7 (g := 7) (hk1) rfl rfl 3 (by decide) w1 rfl dX1_foundHidden_12 ?_
    refine zk_icmp_ne X (tgt := 22) dX1_foundHidden_15 (by decide) h (fun h => ?_) (fun h => ?_)
    · refine zk_iconst X (v := 1) dX1_foundHidden_18 (by decide) ?_
      refine zk_goto X (tgt := 23) dX1_foundHidden_19 (by decide) ?_
      exact zk_zreturn X hr dX1_foundHidden_23 rfl h
    · refine zk_iconst X (v := 0) dX1_foundHidden_22 (by decide) ?_
      exact zk_zreturn X hr dX1_foundHidden_23 rfl h
def fX7_holdsSoFar_B52 (k : Nat) (c11 : Int32 → Int32 → Int32 → zk_Z → Option (Int32 × zk_Z)) (a2 : Int32) (a3 : Int32) (a4 : Int32) (z : zk_Z) : Option (Int32 × zk_Z) := c11 a2 a3 (a4 + 1) z
def fX7_holdsSoFar_L11 (k : Nat) : Nat → Int32 → Int32 → Int32 → zk_Z → Option (Int32 × zk_Z)
  | 0, _, _, _, _ => none
  | n + 1, a2, a3, a4, z => if (z.1 7 k 2) ≤ a4 then some (1, z) else zk_gd (zk_ix a4 24) (zk_gd (zk_ix a4 24) (if (((z.1 8 k a4.toNatClampNeg) ||| (z.1 9 k a4.toNatClampNeg)) &&& a3) = 0 then zk_bd (fX7_holds k a4 a2 z) (fun r2 z1 => if r2 = 0 then some (0, z1) else fX7_holdsSoFar_B52 k (fX7_holdsSoFar_L11 k n) a2 a3 a4 z1) else fX7_holdsSoFar_B52 k (fX7_holdsSoFar_L11 k n) a2 a3 a4 z))
def fX7_holdsSoFar (k : Nat) (x1 : Int32) (x2 : Int32) (z : zk_Z) : Option (Int32 × zk_Z) := fX7_holdsSoFar_L11 k zk_FU x2 ((((1 : Int32) <<< (x1 &&& 31)) - 1) ^^^ (-1)) 0 z
set_option maxRecDepth 100000 in
set_option maxHeartbeats 8000000 in
theorem ct_X7_holdsSoFar (l : Launch) (E : zk_E) (hi : zk_inj E) (k : Nat) (hk : k < zk_cnt 7) (x1 : Int32) (x2 : Int32) (z : zk_Z) (r : Int32) (z' : zk_Z) (h : fX7_holdsSoFar k x1 x2 z = some (r, z')) : Met l yX7_holdsSoFar wsX7_holdsSoFar { frames := 3, cells := 0, slots := 0, locals := 64 } (va_Pc [.ref (E.2.1 7 k), .int x1, .int x2] (zk_W E z)) (zk_Qi E r z') 0 0 (zk_A E) := by
  refine zk_met (cc := cX7_holdsSoFar) (maxL := 5) (ret := (some .boolean)) (own := RX7) (by decide) rfl rfl hi (Nat.le_of_ble_eq_true rfl) ?_
  intro p e s m args below meth c X hr
  have iX7 : ∀ w ∈ u_ws RX7 TX7 8, w ∈ wsX7_holdsSoFar := by decide +kernel
  have w0 : Cond.fieldLink RX7 25 "HiddenWorks$Task" "clauses" "I" ∈ wsX7_holdsSoFar := by decide +kernel
  have w1 : Cond.fieldLink RX7 9 "HiddenWorks$Task" "plain" "[I" ∈ wsX7_holdsSoFar := by decide +kernel
  have w2 : Cond.fieldLink RX7 15 "HiddenWorks$Task" "against" "[I" ∈ wsX7_holdsSoFar := by decide +kernel
  have B52 : ∀ (c11 : Int32 → Int32 → Int32 → zk_Z → Option (Int32 × zk_Z)) (hc11 : ∀ (a2 : Int32) (a3 : Int32) (a4 : Int32) (z : zk_Z), c11 a2 a3 a4 z = some (r, z') → zk_G p l e (headSpec wsX7_holdsSoFar { frames := 3, cells := 0, slots := 0, locals := 64 }).room s m args below meth c E 5 0 0 (MQ below (zk_Qi E r z') args s 0 0 (zk_A E)) 11 [(0, .ref (E.2.1 7 k)), (2, .int a2), (3, .int a3), (4, .int a4)] [] z) (a2 : Int32) (a3 : Int32) (a4 : Int32) (z : zk_Z), fX7_holdsSoFar_B52 k c11 a2 a3 a4 z = some (r, z') → zk_G p l e (headSpec wsX7_holdsSoFar { frames := 3, cells := 0, slots := 0, locals := 64 }).room s m args below meth c E 5 0 0 (MQ below (zk_Qi E r z') args s 0 0 (zk_A E)) 52 [(0, .ref (E.2.1 7 k)), (2, .int a2), (3, .int a3), (4, .int a4)] [] z := by
    intro c11 hc11 a2 a3 a4 z h
    unfold fX7_holdsSoFar_B52 at h
    refine zk_iinc X (lv' := [(4, .int (a4 + 1)), (0, .ref (E.2.1 7 k)), (2, .int a2), (3, .int a3)]) 3 dX7_holdsSoFar_52 rfl rfl (by decide) rfl ?_
    refine zk_goto X (tgt := 11) dX7_holdsSoFar_55 (by decide) ?_
    exact zk_sub [1, 2, 3, 0] rfl (hc11 _ _ _ _ h)
  have L11 : ∀ (n : Nat) (a2 : Int32) (a3 : Int32) (a4 : Int32) (z : zk_Z), fX7_holdsSoFar_L11 k n a2 a3 a4 z = some (r, z') → zk_G p l e (headSpec wsX7_holdsSoFar { frames := 3, cells := 0, slots := 0, locals := 64 }).room s m args below meth c E 5 0 0 (MQ below (zk_Qi E r z') args s 0 0 (zk_A E)) 11 [(0, .ref (E.2.1 7 k)), (2, .int a2), (3, .int a3), (4, .int a4)] [] z := by
    intro n
    induction n with
    | zero => intro a2 a3 a4 z h; exact absurd h (by simp [fX7_holdsSoFar_L11])
    | succ n ih =>
      intro a2 a3 a4 z h
      rw [fX7_holdsSoFar_L11] at h
      refine zk_iload X 3 dX7_holdsSoFar_11 rfl ?_
      refine zk_aload_n X 0 dX7_holdsSoFar_13 rfl rfl ?_
      refine zk_get X iX7 (g := 7) (hk) rfl rfl 2 (by decide) w0 rfl dX7_holdsSoFar_14 ?_
      refine zk_icmp_ge X (tgt := 58) dX7_holdsSoFar_17 (by decide) h (fun h => ?_) (fun h => ?_)
      · refine zk_iconst X (v := 1) dX7_holdsSoFar_58 (by decide) ?_
        exact zk_zreturn X hr dX7_holdsSoFar_59 rfl h
      · refine zk_aload_n X 0 dX7_holdsSoFar_20 rfl rfl ?_
        refine zk_get X iX7 (g := 7) (hk) rfl rfl 6 (by decide) w1 rfl dX7_holdsSoFar_21 ?_
        refine zk_iload X 3 dX7_holdsSoFar_24 rfl ?_
        refine zk_iald X (g := 8) (hk) rfl dX7_holdsSoFar_26 h (fun h => ?_)
        refine zk_aload_n X 0 dX7_holdsSoFar_27 rfl rfl ?_
        refine zk_get X iX7 (g := 7) (hk) rfl rfl 7 (by decide) w2 rfl dX7_holdsSoFar_28 ?_
        refine zk_iload X 3 dX7_holdsSoFar_31 rfl ?_
        refine zk_iald X (g := 9) (hk) rfl dX7_holdsSoFar_33 h (fun h => ?_)
        refine zk_ior X dX7_holdsSoFar_34 ?_
        refine zk_iload_n X 2 dX7_holdsSoFar_35 rfl rfl ?_
        refine zk_iand X dX7_holdsSoFar_36 ?_
        refine zk_if_ne X (tgt := 52) dX7_holdsSoFar_37 (by decide) h (fun h => ?_) (fun h => ?_)
        · refine zk_aload_n X 0 dX7_holdsSoFar_40 rfl rfl ?_
          refine zk_iload X 3 dX7_holdsSoFar_41 rfl ?_
          refine zk_iload_n X 1 dX7_holdsSoFar_43 rfl rfl ?_
          refine zk_vi X h (fun rr zz hf => ct_X7_holds l E hi k (hk) a4 a2 _ rr zz hf) (cwV 2 X.1.2.2.2.2 gX7_holdsSoFar_X7_holds rfl rfl rfl (by decide +kernel) ⟨Nat.le_of_ble_eq_true rfl, Nat.le_of_ble_eq_true rfl⟩) (zk_recv X (g := 7) (hk) rfl rfl) rfl rfl (Nat.le_of_ble_eq_true rfl) dX7_holdsSoFar_44 (fun r2 z1 h => ?_)
          refine zk_if_ne X (tgt := 52) dX7_holdsSoFar_47 (by decide) h (fun h => ?_) (fun h => ?_)
          · refine zk_iconst X (v := 0) dX7_holdsSoFar_50 (by decide) ?_
            exact zk_zreturn X hr dX7_holdsSoFar_51 rfl h
          · exact zk_sub [0, 1, 2, 3] rfl (B52 _ ih _ _ _ _ h)
        · exact zk_sub [0, 1, 2, 3] rfl (B52 _ ih _ _ _ _ h)
  unfold fX7_holdsSoFar at h
  refine zk_iconst X (v := 1) dX7_holdsSoFar_0 (by decide) ?_
  refine zk_iload_n X 1 dX7_holdsSoFar_1 rfl rfl ?_
  refine zk_ishl X dX7_holdsSoFar_2 ?_
  refine zk_iconst X (v := 1) dX7_holdsSoFar_3 (by decide) ?_
  refine zk_isub X dX7_holdsSoFar_4 ?_
  refine zk_iconst X (v := -1) dX7_holdsSoFar_5 (by decide) ?_
  refine zk_ixor X dX7_holdsSoFar_6 ?_
  refine zk_istore_n X (lv' := [(3, .int ((((1 : Int32) <<< (x1 &&& 31)) - 1) ^^^ (-1))), (0, .ref (E.2.1 7 k)), (1, .int x1), (2, .int x2)]) dX7_holdsSoFar_7 rfl (by decide) rfl ?_
  refine zk_iconst X (v := 0) dX7_holdsSoFar_8 (by decide) ?_
  refine zk_istore X (lv' := [(4, .int 0), (3, .int ((((1 : Int32) <<< (x1 &&& 31)) - 1) ^^^ (-1))), (0, .ref (E.2.1 7 k)), (1, .int x1), (2, .int x2)]) dX7_holdsSoFar_9 (by decide) rfl ?_
  exact zk_sub [2, 4, 1, 0] rfl (L11  _ _ _ _ _ h)
def fX1_search_B98 (k1 : Nat) (c8 : Int32 → Int32 → Int32 → Int32 → zk_Z → Option (Unit × zk_Z)) (a2 : Int32) (a3 : Int32) (a4 : Int32) (a5 : Int32) (z : zk_Z) : Option (Unit × zk_Z) := c8 a2 a3 a4 (a5 + 1) z
def fX1_search_B83 (k1 : Nat) (c8 : Int32 → Int32 → Int32 → Int32 → zk_Z → Option (Unit × zk_Z)) (a2 : Int32) (a3 : Int32) (a4 : Int32) (a5 : Int32) (z : zk_Z) : Option (Unit × zk_Z) := if a3 = 0 then some ((), z) else fX1_search_B98 k1 c8 a2 a3 (a4 ||| ((1 : Int32) <<< ((a3 - 1) &&& 31))) a5 z
def fX1_search_L51 (k1 : Nat) (c8 : Int32 → Int32 → Int32 → Int32 → zk_Z → Option (Unit × zk_Z)) : Nat → Int32 → Int32 → Int32 → Int32 → zk_Z → Option (Unit × zk_Z)
  | 0, _, _, _, _, _ => none
  | n + 1, a2, a3, a4, a5, z => if a3 ≤ 0 then fX1_search_B83 k1 c8 a2 a3 a4 a5 z else if ((a4 >>> ((a3 - 1) &&& 31)) &&& 1) = 1 then (fX1_search_L51 k1 c8 n) a2 (a3 + (-1)) (a4 &&& (((1 : Int32) <<< ((a3 + (-1)) &&& 31)) ^^^ (-1))) a5 z else fX1_search_B83 k1 c8 a2 a3 a4 a5 z
def fX1_search_L8 (k1 : Nat) : Nat → Int32 → Int32 → Int32 → Int32 → zk_Z → Option (Unit × zk_Z)
  | 0, _, _, _, _, _ => none
  | n + 1, a2, a3, a4, a5, z => if a2 < a5 then some ((), z) else zk_bd (fX7_holdsSoFar k1 a3 a4 (zk_sI z 16 0 1 a5)) (fun r2 z1 => if r2 = 0 then fX1_search_L51 k1 (fX1_search_L8 k1 n) zk_FU a2 a3 a4 a5 z1 else if a3 = (z1.1 7 k1 1) then some ((), zk_sI z1 16 0 0 a4) else fX1_search_B98 k1 (fX1_search_L8 k1 n) a2 (a3 + 1) a4 a5 z1)
def fX1_search (k1 : Nat) (x2 : Int32) (z : zk_Z) : Option (Unit × zk_Z) := fX1_search_L8 k1 zk_FU x2 0 0 1 z
set_option maxRecDepth 100000 in
set_option maxHeartbeats 8000000 in
theorem ct_X1_search (l : Launch) (E : zk_E) (hi : zk_inj E) (k1 : Nat) (hk1 : k1 < zk_cnt 7) (x2 : Int32) (z : zk_Z) (r : Unit) (z' : zk_Z) (h : fX1_search k1 x2 z = some (r, z')) : Met l yX1_search wsX1_search { frames := 4, cells := 0, slots := 0, locals := 88 } (va_Pc [.ref (E.2.1 16 0), .ref (E.2.1 7 k1), .int x2] (zk_W E z)) (zk_Qv E z') 0 0 (zk_A E) := by
  refine zk_met (cc := cX1_search) (maxL := 6) (ret := none) (own := RX1) (by decide) rfl rfl hi (Nat.le_of_ble_eq_true rfl) ?_
  intro p e s m args below meth c X hr
  have iX1 : ∀ w ∈ u_ws RX1 TX1 2, w ∈ wsX1_search := by decide +kernel
  have iX7 : ∀ w ∈ u_ws RX7 TX7 8, w ∈ wsX1_search := by decide +kernel
  have w0 : Cond.fieldLink RX1 13 "HiddenWorks$Finder" "steps" "I" ∈ wsX1_search := by decide +kernel
  have w1 : Cond.fieldLink RX1 50 "HiddenWorks$Task" "letters" "I" ∈ wsX1_search := by decide +kernel
  have w2 : Cond.fieldLink RX1 7 "HiddenWorks$Finder" "found" "I" ∈ wsX1_search := by decide +kernel
  have B98 : ∀ (c8 : Int32 → Int32 → Int32 → Int32 → zk_Z → Option (Unit × zk_Z)) (hc8 : ∀ (a2 : Int32) (a3 : Int32) (a4 : Int32) (a5 : Int32) (z : zk_Z), c8 a2 a3 a4 a5 z = some (r, z') → zk_G p l e (headSpec wsX1_search { frames := 4, cells := 0, slots := 0, locals := 88 }).room s m args below meth c E 6 0 0 (MQ below (zk_Qv E z') args s 0 0 (zk_A E)) 8 [(0, .ref (E.2.1 16 0)), (1, .ref (E.2.1 7 k1)), (2, .int a2), (3, .int a3), (4, .int a4), (5, .int a5)] [] z) (a2 : Int32) (a3 : Int32) (a4 : Int32) (a5 : Int32) (z : zk_Z), fX1_search_B98 k1 c8 a2 a3 a4 a5 z = some (r, z') → zk_G p l e (headSpec wsX1_search { frames := 4, cells := 0, slots := 0, locals := 88 }).room s m args below meth c E 6 0 0 (MQ below (zk_Qv E z') args s 0 0 (zk_A E)) 98 [(0, .ref (E.2.1 16 0)), (1, .ref (E.2.1 7 k1)), (2, .int a2), (3, .int a3), (4, .int a4), (5, .int a5)] [] z := by
    intro c8 hc8 a2 a3 a4 a5 z h
    unfold fX1_search_B98 at h
    refine zk_iinc X (lv' := [(5, .int (a5 + 1)), (0, .ref (E.2.1 16 0)), (1, .ref (E.2.1 7 k1)), (2, .int a2), (3, .int a3), (4, .int a4)]) 5 dX1_search_98 rfl rfl (by decide) rfl ?_
    refine zk_goto X (tgt := 8) dX1_search_101 (by decide) ?_
    exact zk_sub [1, 2, 3, 4, 5, 0] rfl (hc8 _ _ _ _ _ h)
  have B83 : ∀ (c8 : Int32 → Int32 → Int32 → Int32 → zk_Z → Option (Unit × zk_Z)) (hc8 : ∀ (a2 : Int32) (a3 : Int32) (a4 : Int32) (a5 : Int32) (z : zk_Z), c8 a2 a3 a4 a5 z = some (r, z') → zk_G p l e (headSpec wsX1_search { frames := 4, cells := 0, slots := 0, locals := 88 }).room s m args below meth c E 6 0 0 (MQ below (zk_Qv E z') args s 0 0 (zk_A E)) 8 [(0, .ref (E.2.1 16 0)), (1, .ref (E.2.1 7 k1)), (2, .int a2), (3, .int a3), (4, .int a4), (5, .int a5)] [] z) (a2 : Int32) (a3 : Int32) (a4 : Int32) (a5 : Int32) (z : zk_Z), fX1_search_B83 k1 c8 a2 a3 a4 a5 z = some (r, z') → zk_G p l e (headSpec wsX1_search { frames := 4, cells := 0, slots := 0, locals := 88 }).room s m args below meth c E 6 0 0 (MQ below (zk_Qv E z') args s 0 0 (zk_A E)) 83 [(0, .ref (E.2.1 16 0)), (1, .ref (E.2.1 7 k1)), (2, .int a2), (3, .int a3), (4, .int a4), (5, .int a5)] [] z := by
    intro c8 hc8 a2 a3 a4 a5 z h
    unfold fX1_search_B83 at h
    refine zk_iload_n X 3 dX1_search_83 rfl rfl ?_
    refine zk_if_ne X (tgt := 88) dX1_search_84 (by decide) h (fun h => ?_) (fun h => ?_)
    · exact zk_vreturn X hr dX1_search_87 h
    · refine zk_iload X 4 dX1_search_88 rfl ?_
      refine zk_iconst X (v := 1) dX1_search_90 (by decide) ?_
      refine zk_iload_n X 3 dX1_search_91 rfl rfl ?_
      refine zk_iconst X (v := 1) dX1_search_92 (by decide) ?_
      refine zk_isub X dX1_search_93 ?_
      refine zk_ishl X dX1_search_94 ?_
      refine zk_ior X dX1_search_95 ?_
      refine zk_istore X (lv' := [(4, .int (a4 ||| ((1 : Int32) <<< ((a3 - 1) &&& 31)))), (0, .ref (E.2.1 16 0)), (1, .ref (E.2.1 7 k1)), (2, .int a2), (3, .int a3), (5, .int a5)]) dX1_search_96 (by decide) rfl ?_
      exact zk_sub [1, 2, 3, 4, 0, 5] rfl (B98 _ hc8 _ _ _ _ _ h)
  have L51 : ∀ (c8 : Int32 → Int32 → Int32 → Int32 → zk_Z → Option (Unit × zk_Z)) (hc8 : ∀ (a2 : Int32) (a3 : Int32) (a4 : Int32) (a5 : Int32) (z : zk_Z), c8 a2 a3 a4 a5 z = some (r, z') → zk_G p l e (headSpec wsX1_search { frames := 4, cells := 0, slots := 0, locals := 88 }).room s m args below meth c E 6 0 0 (MQ below (zk_Qv E z') args s 0 0 (zk_A E)) 8 [(0, .ref (E.2.1 16 0)), (1, .ref (E.2.1 7 k1)), (2, .int a2), (3, .int a3), (4, .int a4), (5, .int a5)] [] z) (n : Nat) (a2 : Int32) (a3 : Int32) (a4 : Int32) (a5 : Int32) (z : zk_Z), fX1_search_L51 k1 c8 n a2 a3 a4 a5 z = some (r, z') → zk_G p l e (headSpec wsX1_search { frames := 4, cells := 0, slots := 0, locals := 88 }).room s m args below meth c E 6 0 0 (MQ below (zk_Qv E z') args s 0 0 (zk_A E)) 51 [(0, .ref (E.2.1 16 0)), (1, .ref (E.2.1 7 k1)), (2, .int a2), (3, .int a3), (4, .int a4), (5, .int a5)] [] z := by
    intro c8 hc8 n
    induction n with
    | zero => intro a2 a3 a4 a5 z h; exact absurd h (by simp [fX1_search_L51])
    | succ n ih =>
      intro a2 a3 a4 a5 z h
      rw [fX1_search_L51] at h
      refine zk_iload_n X 3 dX1_search_51 rfl rfl ?_
      refine zk_if_le X (tgt := 83) dX1_search_52 (by decide) h (fun h => ?_) (fun h => ?_)
      · exact zk_sub [0, 1, 2, 3, 4, 5] rfl (B83 _ hc8 _ _ _ _ _ h)
      · refine zk_iload X 4 dX1_search_55 rfl ?_
        refine zk_iload_n X 3 dX1_search_57 rfl rfl ?_
        refine zk_iconst X (v := 1) dX1_search_58 (by decide) ?_
        refine zk_isub X dX1_search_59 ?_
        refine zk_ishr X dX1_search_60 ?_
        refine zk_iconst X (v := 1) dX1_search_61 (by decide) ?_
        refine zk_iand X dX1_search_62 ?_
        refine zk_iconst X (v := 1) dX1_search_63 (by decide) ?_
        refine zk_icmp_ne X (tgt := 83) dX1_search_64 (by decide) h (fun h => ?_) (fun h => ?_)
        · refine zk_iinc X (lv' := [(3, .int (a3 + (-1))), (0, .ref (E.2.1 16 0)), (1, .ref (E.2.1 7 k1)), (2, .int a2), (4, .int a4), (5, .int a5)]) 3 dX1_search_67 rfl rfl (by decide) rfl ?_
          refine zk_iload X 4 dX1_search_70 rfl ?_
          refine zk_iconst X (v := 1) dX1_search_72 (by decide) ?_
          refine zk_iload_n X 0 dX1_search_73 rfl rfl ?_
          refine zk_ishl X dX1_search_74 ?_
          refine zk_iconst X (v := -1) dX1_search_75 (by decide) ?_
          refine zk_ixor X dX1_search_76 ?_
          refine zk_iand X dX1_search_77 ?_
          refine zk_istore X (lv' := [(4, .int (a4 &&& (((1 : Int32) <<< ((a3 + (-1)) &&& 31)) ^^^ (-1)))), (3, .int (a3 + (-1))), (0, .ref (E.2.1 16 0)), (1, .ref (E.2.1 7 k1)), (2, .int a2), (5, .int a5)]) dX1_search_78 (by decide) rfl ?_
          refine zk_goto X (tgt := 51) dX1_search_80 (by decide) ?_
          exact zk_sub [2, 3, 4, 1, 0, 5] rfl (ih _ _ _ _ _ h)
        · exact zk_sub [0, 1, 2, 3, 4, 5] rfl (B83 _ hc8 _ _ _ _ _ h)
  have L8 : ∀ (n : Nat) (a2 : Int32) (a3 : Int32) (a4 : Int32) (a5 : Int32) (z : zk_Z), fX1_search_L8 k1 n a2 a3 a4 a5 z = some (r, z') → zk_G p l e (headSpec wsX1_search { frames := 4, cells := 0, slots := 0, locals := 88 }).room s m args below meth c E 6 0 0 (MQ below (zk_Qv E z') args s 0 0 (zk_A E)) 8 [(0, .ref (E.2.1 16 0)), (1, .ref (E.2.1 7 k1)), (2, .int a2), (3, .int a3), (4, .int a4), (5, .int a5)] [] z := by
    intro n
    induction n with
    | zero => intro a2 a3 a4 a5 z h; exact absurd h (by simp [fX1_search_L8])
    | succ n ih =>
      intro a2 a3 a4 a5 z h
      rw [fX1_search_L8] at h
      refine zk_iload X 5 dX1_search_8 rfl ?_
      refine zk_iload_n X 2 dX1_search_10 rfl rfl ?_
      refine zk_icmp_gt X (tgt := 104) dX1_search_11 (by decide) h (fun h => ?_) (fun h => ?_)
      · exact zk_vreturn X hr dX1_search_104 h
      · refine zk_aload_n X 0 dX1_search_14 rfl rfl ?_
        refine zk_iload X 5 dX1_search_15 rfl ?_
        refine zk_putI X (ty := .int) iX1 tyX1 tyX1_ok nmX1 (g := 16) (Nat.zero_lt_one) rfl rfl 1 (by decide) w0 rfl (by decide +kernel) rfl rfl (Nat.le_of_ble_eq_true rfl) rfl dX1_search_17 ?_
        refine zk_aload_n X 1 dX1_search_20 rfl rfl ?_
        refine zk_iload_n X 3 dX1_search_21 rfl rfl ?_
        refine zk_iload X 4 dX1_search_22 rfl ?_
        refine zk_vi X h (fun rr zz hf => ct_X7_holdsSoFar l E hi k1 (hk1) a3 a4 _ rr zz hf) (cwV 2 X.1.2.2.2.2 gX1_search_X7_holdsSoFar rfl rfl rfl (by decide +kernel) ⟨Nat.le_of_ble_eq_true rfl, Nat.le_of_ble_eq_true rfl⟩) (zk_recv X (g := 7) (hk1) rfl rfl) rfl rfl (Nat.le_of_ble_eq_true rfl) dX1_search_24 (fun r2 z1 h => ?_)
        refine zk_if_eq X (tgt := 51) dX1_search_27 (by decide) h (fun h => ?_) (fun h => ?_)
        · exact zk_sub [0, 1, 2, 3, 4, 5] rfl (L51 _ ih _ _ _ _ _ _ h)
        · refine zk_iload_n X 3 dX1_search_30 rfl rfl ?_
          refine zk_aload_n X 1 dX1_search_31 rfl rfl ?_
          refine zk_get X iX7 (g := 7) (hk1) rfl rfl 1 (by decide) w1 rfl dX1_search_32 ?_
          refine zk_icmp_ne X (tgt := 45) dX1_search_35 (by decide) h (fun h => ?_) (fun h => ?_)
          · refine zk_aload_n X 0 dX1_search_38 rfl rfl ?_
            refine zk_iload X 4 dX1_search_39 rfl ?_
            refine zk_putI X (ty := .int) iX1 tyX1 tyX1_ok nmX1 (g := 16) (Nat.zero_lt_one) rfl rfl 0 (by decide) w2 rfl (by decide +kernel) rfl rfl (Nat.le_of_ble_eq_true rfl) rfl dX1_search_41 ?_
            exact zk_vreturn X hr dX1_search_44 h
          · refine zk_iinc X (lv' := [(3, .int (a3 + 1)), (0, .ref (E.2.1 16 0)), (1, .ref (E.2.1 7 k1)), (2, .int a2), (4, .int a4), (5, .int a5)]) 3 dX1_search_45 rfl rfl (by decide) rfl ?_
            refine zk_goto X (tgt := 98) dX1_search_48 (by decide) ?_
            exact zk_sub [1, 2, 3, 0, 4, 5] rfl (B98 _ ih _ _ _ _ _ h)
  unfold fX1_search at h
  refine zk_iconst X (v := 0) dX1_search_0 (by decide) ?_
  refine zk_istore_n X (lv' := [(3, .int 0), (0, .ref (E.2.1 16 0)), (1, .ref (E.2.1 7 k1)), (2, .int x2)]) dX1_search_1 rfl (by decide) rfl ?_
  refine zk_iconst X (v := 0) dX1_search_2 (by decide) ?_
  refine zk_istore X (lv' := [(4, .int 0), (3, .int 0), (0, .ref (E.2.1 16 0)), (1, .ref (E.2.1 7 k1)), (2, .int x2)]) dX1_search_3 (by decide) rfl ?_
  refine zk_iconst X (v := 1) dX1_search_5 (by decide) ?_
  refine zk_istore X (lv' := [(5, .int 1), (4, .int 0), (3, .int 0), (0, .ref (E.2.1 16 0)), (1, .ref (E.2.1 7 k1)), (2, .int x2)]) dX1_search_6 (by decide) rfl ?_
  exact zk_sub [3, 4, 5, 2, 1, 0] rfl (L8  _ _ _ _ _ _ h)
def fX7_excess_L4 (k : Nat) : Nat → Int32 → Int32 → Int32 → zk_Z → Option (Int32 × zk_Z)
  | 0, _, _, _, _ => none
  | n + 1, a1, a2, a3, z => if (z.1 7 k 2) ≤ a3 then some (a2, z) else zk_gd (zk_ix a3 24) (zk_gd (zk_ix a3 24) ((fX7_excess_L4 k n) a1 (a2 + ((((z.1 8 k a3.toNatClampNeg) >>> (a1 &&& 31)) &&& 1) - (((z.1 9 k a3.toNatClampNeg) >>> (a1 &&& 31)) &&& 1))) (a3 + 1) z))
def fX7_excess (k : Nat) (x1 : Int32) (z : zk_Z) : Option (Int32 × zk_Z) := fX7_excess_L4 k zk_FU x1 0 0 z
set_option maxRecDepth 100000 in
set_option maxHeartbeats 8000000 in
theorem ct_X7_excess (l : Launch) (E : zk_E) (hi : zk_inj E) (k : Nat) (hk : k < zk_cnt 7) (x1 : Int32) (z : zk_Z) (r : Int32) (z' : zk_Z) (h : fX7_excess k x1 z = some (r, z')) : Met l yX7_excess wsX7_excess { frames := 0, cells := 0, slots := 0, locals := 0 } (va_Pc [.ref (E.2.1 7 k), .int x1] (zk_W E z)) (zk_Qi E r z') 0 0 (zk_A E) := by
  refine zk_met (cc := cX7_excess) (maxL := 4) (ret := (some .int)) (own := RX7) (by decide) rfl rfl hi (Nat.le_of_ble_eq_true rfl) ?_
  intro p e s m args below meth c X hr
  have iX7 : ∀ w ∈ u_ws RX7 TX7 8, w ∈ wsX7_excess := by decide +kernel
  have w0 : Cond.fieldLink RX7 25 "HiddenWorks$Task" "clauses" "I" ∈ wsX7_excess := by decide +kernel
  have w1 : Cond.fieldLink RX7 9 "HiddenWorks$Task" "plain" "[I" ∈ wsX7_excess := by decide +kernel
  have w2 : Cond.fieldLink RX7 15 "HiddenWorks$Task" "against" "[I" ∈ wsX7_excess := by decide +kernel
  have L4 : ∀ (n : Nat) (a1 : Int32) (a2 : Int32) (a3 : Int32) (z : zk_Z), fX7_excess_L4 k n a1 a2 a3 z = some (r, z') → zk_G p l e (headSpec wsX7_excess { frames := 0, cells := 0, slots := 0, locals := 0 }).room s m args below meth c E 4 0 0 (MQ below (zk_Qi E r z') args s 0 0 (zk_A E)) 4 [(0, .ref (E.2.1 7 k)), (1, .int a1), (2, .int a2), (3, .int a3)] [] z := by
    intro n
    induction n with
    | zero => intro a1 a2 a3 z h; exact absurd h (by simp [fX7_excess_L4])
    | succ n ih =>
      intro a1 a2 a3 z h
      rw [fX7_excess_L4] at h
      refine zk_iload_n X 3 dX7_excess_4 rfl rfl ?_
      refine zk_aload_n X 0 dX7_excess_5 rfl rfl ?_
      refine zk_get X iX7 (g := 7) (hk) rfl rfl 2 (by decide) w0 rfl dX7_excess_6 ?_
      refine zk_icmp_ge X (tgt := 42) dX7_excess_9 (by decide) h (fun h => ?_) (fun h => ?_)
      · refine zk_iload_n X 2 dX7_excess_42 rfl rfl ?_
        exact zk_ireturn X hr dX7_excess_43 h
      · refine zk_iload_n X 2 dX7_excess_12 rfl rfl ?_
        refine zk_aload_n X 0 dX7_excess_13 rfl rfl ?_
        refine zk_get X iX7 (g := 7) (hk) rfl rfl 6 (by decide) w1 rfl dX7_excess_14 ?_
        refine zk_iload_n X 3 dX7_excess_17 rfl rfl ?_
        refine zk_iald X (g := 8) (hk) rfl dX7_excess_18 h (fun h => ?_)
        refine zk_iload_n X 1 dX7_excess_19 rfl rfl ?_
        refine zk_ishr X dX7_excess_20 ?_
        refine zk_iconst X (v := 1) dX7_excess_21 (by decide) ?_
        refine zk_iand X dX7_excess_22 ?_
        refine zk_aload_n X 0 dX7_excess_23 rfl rfl ?_
        refine zk_get X iX7 (g := 7) (hk) rfl rfl 7 (by decide) w2 rfl dX7_excess_24 ?_
        refine zk_iload_n X 3 dX7_excess_27 rfl rfl ?_
        refine zk_iald X (g := 9) (hk) rfl dX7_excess_28 h (fun h => ?_)
        refine zk_iload_n X 1 dX7_excess_29 rfl rfl ?_
        refine zk_ishr X dX7_excess_30 ?_
        refine zk_iconst X (v := 1) dX7_excess_31 (by decide) ?_
        refine zk_iand X dX7_excess_32 ?_
        refine zk_isub X dX7_excess_33 ?_
        refine zk_iadd X dX7_excess_34 ?_
        refine zk_istore_n X (lv' := [(2, .int (a2 + ((((z.1 8 k a3.toNatClampNeg) >>> (a1 &&& 31)) &&& 1) - (((z.1 9 k a3.toNatClampNeg) >>> (a1 &&& 31)) &&& 1)))), (0, .ref (E.2.1 7 k)), (1, .int a1), (3, .int a3)]) dX7_excess_35 rfl (by decide) rfl ?_
        refine zk_iinc X (lv' := [(3, .int (a3 + 1)), (2, .int (a2 + ((((z.1 8 k a3.toNatClampNeg) >>> (a1 &&& 31)) &&& 1) - (((z.1 9 k a3.toNatClampNeg) >>> (a1 &&& 31)) &&& 1)))), (0, .ref (E.2.1 7 k)), (1, .int a1)]) 3 dX7_excess_36 rfl rfl (by decide) rfl ?_
        refine zk_goto X (tgt := 4) dX7_excess_39 (by decide) ?_
        exact zk_sub [2, 3, 1, 0] rfl (ih _ _ _ _ h)
  unfold fX7_excess at h
  refine zk_iconst X (v := 0) dX7_excess_0 (by decide) ?_
  refine zk_istore_n X (lv' := [(2, .int 0), (0, .ref (E.2.1 7 k)), (1, .int x1)]) dX7_excess_1 rfl (by decide) rfl ?_
  refine zk_iconst X (v := 0) dX7_excess_2 (by decide) ?_
  refine zk_istore_n X (lv' := [(3, .int 0), (2, .int 0), (0, .ref (E.2.1 7 k)), (1, .int x1)]) dX7_excess_3 rfl (by decide) rfl ?_
  exact zk_sub [2, 3, 1, 0] rfl (L4  _ _ _ _ _ h)
def fX7_countsRow_B26 (k : Nat) (c4 : Int32 → Int32 → zk_Z → Option (Int32 × zk_Z)) (a1 : Int32) (a2 : Int32) (z : zk_Z) : Option (Int32 × zk_Z) := c4 a1 (a2 + 1) z
def fX7_countsRow_L4 (k : Nat) : Nat → Int32 → Int32 → zk_Z → Option (Int32 × zk_Z)
  | 0, _, _, _ => none
  | n + 1, a1, a2, z => if (z.1 7 k 1) ≤ a2 then some (a1, z) else zk_bd (fX7_excess k a2 z) (fun r2 z1 => if r2 ≤ 0 then fX7_countsRow_B26 k (fX7_countsRow_L4 k n) a1 a2 z1 else fX7_countsRow_B26 k (fX7_countsRow_L4 k n) (a1 ||| ((1 : Int32) <<< (a2 &&& 31))) a2 z1)
def fX7_countsRow (k : Nat) (z : zk_Z) : Option (Int32 × zk_Z) := fX7_countsRow_L4 k zk_FU 0 0 z
set_option maxRecDepth 100000 in
set_option maxHeartbeats 8000000 in
theorem ct_X7_countsRow (l : Launch) (E : zk_E) (hi : zk_inj E) (k : Nat) (hk : k < zk_cnt 7) (z : zk_Z) (r : Int32) (z' : zk_Z) (h : fX7_countsRow k  z = some (r, z')) : Met l yX7_countsRow wsX7_countsRow { frames := 1, cells := 0, slots := 0, locals := 23 } (va_Pc [.ref (E.2.1 7 k)] (zk_W E z)) (zk_Qi E r z') 0 0 (zk_A E) := by
  refine zk_met (cc := cX7_countsRow) (maxL := 3) (ret := (some .int)) (own := RX7) (by decide) rfl rfl hi (Nat.le_of_ble_eq_true rfl) ?_
  intro p e s m args below meth c X hr
  have iX7 : ∀ w ∈ u_ws RX7 TX7 8, w ∈ wsX7_countsRow := by decide +kernel
  have w0 : Cond.fieldLink RX7 22 "HiddenWorks$Task" "letters" "I" ∈ wsX7_countsRow := by decide +kernel
  have B26 : ∀ (c4 : Int32 → Int32 → zk_Z → Option (Int32 × zk_Z)) (hc4 : ∀ (a1 : Int32) (a2 : Int32) (z : zk_Z), c4 a1 a2 z = some (r, z') → zk_G p l e (headSpec wsX7_countsRow { frames := 1, cells := 0, slots := 0, locals := 23 }).room s m args below meth c E 3 0 0 (MQ below (zk_Qi E r z') args s 0 0 (zk_A E)) 4 [(0, .ref (E.2.1 7 k)), (1, .int a1), (2, .int a2)] [] z) (a1 : Int32) (a2 : Int32) (z : zk_Z), fX7_countsRow_B26 k c4 a1 a2 z = some (r, z') → zk_G p l e (headSpec wsX7_countsRow { frames := 1, cells := 0, slots := 0, locals := 23 }).room s m args below meth c E 3 0 0 (MQ below (zk_Qi E r z') args s 0 0 (zk_A E)) 26 [(0, .ref (E.2.1 7 k)), (1, .int a1), (2, .int a2)] [] z := by
    intro c4 hc4 a1 a2 z h
    unfold fX7_countsRow_B26 at h
    refine zk_iinc X (lv' := [(2, .int (a2 + 1)), (0, .ref (E.2.1 7 k)), (1, .int a1)]) 2 dX7_countsRow_26 rfl rfl (by decide) rfl ?_
    refine zk_goto X (tgt := 4) dX7_countsRow_29 (by decide) ?_
    exact zk_sub [1, 2, 0] rfl (hc4 _ _ _ h)
  have L4 : ∀ (n : Nat) (a1 : Int32) (a2 : Int32) (z : zk_Z), fX7_countsRow_L4 k n a1 a2 z = some (r, z') → zk_G p l e (headSpec wsX7_countsRow { frames := 1, cells := 0, slots := 0, locals := 23 }).room s m args below meth c E 3 0 0 (MQ below (zk_Qi E r z') args s 0 0 (zk_A E)) 4 [(0, .ref (E.2.1 7 k)), (1, .int a1), (2, .int a2)] [] z := by
    intro n
    induction n with
    | zero => intro a1 a2 z h; exact absurd h (by simp [fX7_countsRow_L4])
    | succ n ih =>
      intro a1 a2 z h
      rw [fX7_countsRow_L4] at h
      refine zk_iload_n X 2 dX7_countsRow_4 rfl rfl ?_
      refine zk_aload_n X 0 dX7_countsRow_5 rfl rfl ?_
      refine zk_get X iX7 (g := 7) (hk) rfl rfl 1 (by decide) w0 rfl dX7_countsRow_6 ?_
      refine zk_icmp_ge X (tgt := 32) dX7_countsRow_9 (by decide) h (fun h => ?_) (fun h => ?_)
      · refine zk_iload_n X 1 dX7_countsRow_32 rfl rfl ?_
        exact zk_ireturn X hr dX7_countsRow_33 h
      · refine zk_aload_n X 0 dX7_countsRow_12 rfl rfl ?_
        refine zk_iload_n X 2 dX7_countsRow_13 rfl rfl ?_
        refine zk_vi X h (fun rr zz hf => ct_X7_excess l E hi k (hk) a2 _ rr zz hf) (cwV 1 X.1.2.2.2.2 gX7_countsRow_X7_excess rfl rfl rfl (by decide +kernel) ⟨Nat.le_of_ble_eq_true rfl, Nat.le_of_ble_eq_true rfl⟩) (zk_recv X (g := 7) (hk) rfl rfl) rfl rfl (Nat.le_of_ble_eq_true rfl) dX7_countsRow_14 (fun r2 z1 h => ?_)
        refine zk_if_le X (tgt := 26) dX7_countsRow_17 (by decide) h (fun h => ?_) (fun h => ?_)
        · exact zk_sub [0, 1, 2] rfl (B26 _ ih _ _ _ h)
        · refine zk_iload_n X 1 dX7_countsRow_20 rfl rfl ?_
          refine zk_iconst X (v := 1) dX7_countsRow_21 (by decide) ?_
          refine zk_iload_n X 2 dX7_countsRow_22 rfl rfl ?_
          refine zk_ishl X dX7_countsRow_23 ?_
          refine zk_ior X dX7_countsRow_24 ?_
          refine zk_istore_n X (lv' := [(1, .int (a1 ||| ((1 : Int32) <<< (a2 &&& 31)))), (0, .ref (E.2.1 7 k)), (2, .int a2)]) dX7_countsRow_25 rfl (by decide) rfl ?_
          exact zk_sub [1, 0, 2] rfl (B26 _ ih _ _ _ h)
  unfold fX7_countsRow at h
  refine zk_iconst X (v := 0) dX7_countsRow_0 (by decide) ?_
  refine zk_istore_n X (lv' := [(1, .int 0), (0, .ref (E.2.1 7 k))]) dX7_countsRow_1 rfl (by decide) rfl ?_
  refine zk_iconst X (v := 0) dX7_countsRow_2 (by decide) ?_
  refine zk_istore_n X (lv' := [(2, .int 0), (1, .int 0), (0, .ref (E.2.1 7 k))]) dX7_countsRow_3 rfl (by decide) rfl ?_
  exact zk_sub [2, 1, 0] rfl (L4  _ _ _ _ h)
def fX1_seek (k1 : Nat) (x2 : Int32) (x3 : Int32) (z : zk_Z) : Option (Unit × zk_Z) := if x2 = 0 then zk_bd (fX7_countsRow k1 (zk_sI (zk_sI z 16 0 0 (-1)) 16 0 1 0)) (fun r2 z1 => zk_bd (fX1_climb k1 r2 (if 1 < x3 then 1 else x3) z1) (fun _ z3 => some ((), z3))) else if x2 = 1 then zk_bd (fX1_climb k1 0 x3 (zk_sI (zk_sI z 16 0 0 (-1)) 16 0 1 0)) (fun _ z6 => some ((), z6)) else if x2 = 2 then zk_bd (fX7_countsRow k1 (zk_sI (zk_sI z 16 0 0 (-1)) 16 0 1 0)) (fun r10 z9 => zk_bd (fX1_climb k1 r10 x3 z9) (fun _ z11 => some ((), z11))) else zk_bd (fX1_search k1 x3 (zk_sI (zk_sI z 16 0 0 (-1)) 16 0 1 0)) (fun _ z14 => some ((), z14))
set_option maxRecDepth 100000 in
set_option maxHeartbeats 8000000 in
theorem ct_X1_seek (l : Launch) (E : zk_E) (hi : zk_inj E) (k1 : Nat) (hk1 : k1 < zk_cnt 7) (x2 : Int32) (x3 : Int32) (z : zk_Z) (r : Unit) (z' : zk_Z) (h : fX1_seek k1 x2 x3 z = some (r, z')) : Met l yX1_seek wsX1_seek { frames := 6, cells := 0, slots := 0, locals := 133 } (va_Pc [.ref (E.2.1 16 0), .ref (E.2.1 7 k1), .int x2, .int x3] (zk_W E z)) (zk_Qv E z') 0 0 (zk_A E) := by
  refine zk_met (cc := cX1_seek) (maxL := 4) (ret := none) (own := RX1) (by decide) rfl rfl hi (Nat.le_of_ble_eq_true rfl) ?_
  intro p e s m args below meth c X hr
  have iX1 : ∀ w ∈ u_ws RX1 TX1 2, w ∈ wsX1_seek := by decide +kernel
  have w0 : Cond.fieldLink RX1 7 "HiddenWorks$Finder" "found" "I" ∈ wsX1_seek := by decide +kernel
  have w1 : Cond.fieldLink RX1 13 "HiddenWorks$Finder" "steps" "I" ∈ wsX1_seek := by decide +kernel
  have w2 : Cond.methodLink RX1 22 Lib.Math.min.name ∈ wsX1_seek := by decide +kernel
  have w3 : Cond.static Lib.Math.min.name ∈ wsX1_seek := by decide +kernel
  have w4 : Cond.initialized "java/lang/Math" ∈ wsX1_seek := by decide +kernel
  have w5 : Cond.code Lib.Math.min.name Lib.Math.min.code 2 (some .int) ∈ wsX1_seek := by decide +kernel
  unfold fX1_seek at h
  refine zk_aload_n X 0 dX1_seek_0 rfl rfl ?_
  refine zk_iconst X (v := -1) dX1_seek_1 (by decide) ?_
  refine zk_putI X (ty := .int) iX1 tyX1 tyX1_ok nmX1 (g := 16) (Nat.zero_lt_one) rfl rfl 0 (by decide) w0 rfl (by decide +kernel) rfl rfl (Nat.le_of_ble_eq_true rfl) rfl dX1_seek_2 ?_
  refine zk_aload_n X 0 dX1_seek_5 rfl rfl ?_
  refine zk_iconst X (v := 0) dX1_seek_6 (by decide) ?_
  refine zk_putI X (ty := .int) iX1 tyX1 tyX1_ok nmX1 (g := 16) (Nat.zero_lt_one) rfl rfl 1 (by decide) w1 rfl (by decide +kernel) rfl rfl (Nat.le_of_ble_eq_true rfl) rfl dX1_seek_7 ?_
  refine zk_iload_n X 2 dX1_seek_10 rfl rfl ?_
  rcases zk_if h with ⟨q5, h⟩ | ⟨q5, h⟩
  · refine zk_tsw_in X (v := 0) dX1_seek_11 q5 (by decide) (by decide) (off := 25) rfl (tgt := 36) (by decide) ?_
    refine zk_aload_n X 0 dX1_seek_36 rfl rfl ?_
    refine zk_aload_n X 1 dX1_seek_37 rfl rfl ?_
    refine zk_aload_n X 1 dX1_seek_38 rfl rfl ?_
    refine zk_vi X h (fun rr zz hf => ct_X7_countsRow l E hi k1 (hk1)  _ rr zz hf) (cwV 0 X.1.2.2.2.2 gX1_seek_X7_countsRow rfl rfl rfl (by decide +kernel) ⟨Nat.le_of_ble_eq_true rfl, Nat.le_of_ble_eq_true rfl⟩) (zk_recv X (g := 7) (hk1) rfl rfl) rfl rfl (Nat.le_of_ble_eq_true rfl) dX1_seek_39 (fun r2 z1 h => ?_)
    refine zk_iload_n X 3 dX1_seek_42 rfl rfl ?_
    refine zk_iconst X (v := 1) dX1_seek_43 (by decide) ?_
    refine zk_min X w2 w3 w4 w5 (Nat.le_of_ble_eq_true rfl) (Nat.le_of_ble_eq_true rfl) dX1_seek_44 ?_
    refine zk_vv X h (fun rr zz hf => ct_X1_climb l E hi k1 (hk1) r2 (if 1 < x3 then 1 else x3) _ rr zz hf) (cwV 3 X.1.2.2.2.2 gX1_seek_X1_climb rfl rfl rfl (by decide +kernel) ⟨Nat.le_of_ble_eq_true rfl, Nat.le_of_ble_eq_true rfl⟩) (zk_recv X (g := 16) (Nat.zero_lt_one) rfl rfl) rfl rfl (Nat.le_of_ble_eq_true rfl) dX1_seek_47 (fun z3 h => ?_)
    refine zk_goto X (tgt := 82) dX1_seek_50 (by decide) ?_
    exact zk_vreturn X hr dX1_seek_82 h
  · rcases zk_if h with ⟨q8, h⟩ | ⟨q8, h⟩
    · refine zk_tsw_in X (v := 1) dX1_seek_11 q8 (by decide) (by decide) (off := 42) rfl (tgt := 53) (by decide) ?_
      refine zk_aload_n X 0 dX1_seek_53 rfl rfl ?_
      refine zk_aload_n X 1 dX1_seek_54 rfl rfl ?_
      refine zk_iconst X (v := 0) dX1_seek_55 (by decide) ?_
      refine zk_iload_n X 3 dX1_seek_56 rfl rfl ?_
      refine zk_vv X h (fun rr zz hf => ct_X1_climb l E hi k1 (hk1) 0 x3 _ rr zz hf) (cwV 3 X.1.2.2.2.2 gX1_seek_X1_climb rfl rfl rfl (by decide +kernel) ⟨Nat.le_of_ble_eq_true rfl, Nat.le_of_ble_eq_true rfl⟩) (zk_recv X (g := 16) (Nat.zero_lt_one) rfl rfl) rfl rfl (Nat.le_of_ble_eq_true rfl) dX1_seek_57 (fun z6 h => ?_)
      refine zk_goto X (tgt := 82) dX1_seek_60 (by decide) ?_
      exact zk_vreturn X hr dX1_seek_82 h
    · rcases zk_if h with ⟨q13, h⟩ | ⟨q13, h⟩
      · refine zk_tsw_in X (v := 2) dX1_seek_11 q13 (by decide) (by decide) (off := 52) rfl (tgt := 63) (by decide) ?_
        refine zk_aload_n X 0 dX1_seek_63 rfl rfl ?_
        refine zk_aload_n X 1 dX1_seek_64 rfl rfl ?_
        refine zk_aload_n X 1 dX1_seek_65 rfl rfl ?_
        refine zk_vi X h (fun rr zz hf => ct_X7_countsRow l E hi k1 (hk1)  _ rr zz hf) (cwV 0 X.1.2.2.2.2 gX1_seek_X7_countsRow rfl rfl rfl (by decide +kernel) ⟨Nat.le_of_ble_eq_true rfl, Nat.le_of_ble_eq_true rfl⟩) (zk_recv X (g := 7) (hk1) rfl rfl) rfl rfl (Nat.le_of_ble_eq_true rfl) dX1_seek_66 (fun r10 z9 h => ?_)
        refine zk_iload_n X 3 dX1_seek_69 rfl rfl ?_
        refine zk_vv X h (fun rr zz hf => ct_X1_climb l E hi k1 (hk1) r10 x3 _ rr zz hf) (cwV 3 X.1.2.2.2.2 gX1_seek_X1_climb rfl rfl rfl (by decide +kernel) ⟨Nat.le_of_ble_eq_true rfl, Nat.le_of_ble_eq_true rfl⟩) (zk_recv X (g := 16) (Nat.zero_lt_one) rfl rfl) rfl rfl (Nat.le_of_ble_eq_true rfl) dX1_seek_70 (fun z11 h => ?_)
        refine zk_goto X (tgt := 82) dX1_seek_73 (by decide) ?_
        exact zk_vreturn X hr dX1_seek_82 h
      · refine zk_tsw_out X dX1_seek_11 (by have := lv_neT (a := 0) q5 (by decide); have := lv_neT (a := 1) q8 (by decide); have := lv_neT (a := 2) q13 (by decide); omega) (tgt := 76) (by decide) ?_
        refine zk_aload_n X 0 dX1_seek_76 rfl rfl ?_
        refine zk_aload_n X 1 dX1_seek_77 rfl rfl ?_
        refine zk_iload_n X 3 dX1_seek_78 rfl rfl ?_
        refine zk_vv X h (fun rr zz hf => ct_X1_search l E hi k1 (hk1) x3 _ rr zz hf) (cwV 2 X.1.2.2.2.2 gX1_seek_X1_search rfl rfl rfl (by decide +kernel) ⟨Nat.le_of_ble_eq_true rfl, Nat.le_of_ble_eq_true rfl⟩) (zk_recv X (g := 16) (Nat.zero_lt_one) rfl rfl) rfl rfl (Nat.le_of_ble_eq_true rfl) dX1_seek_79 (fun z14 h => ?_)
        exact zk_vreturn X hr dX1_seek_82 h
def fX2_exists (x0 : Int32) (z : zk_Z) : Option (Int32 × zk_Z) := if x0 < 0 then some (0, z) else if 6 ≤ x0 then some (0, z) else some (1, z)
set_option maxRecDepth 100000 in
set_option maxHeartbeats 8000000 in
theorem ct_X2_exists (l : Launch) (E : zk_E) (hi : zk_inj E) (x0 : Int32) (z : zk_Z) (r : Int32) (z' : zk_Z) (h : fX2_exists  x0 z = some (r, z')) : Met l yX2_exists wsX2_exists { frames := 0, cells := 0, slots := 0, locals := 0 } (va_Pc [.int x0] (zk_W E z)) (zk_Qi E r z') 0 0 (zk_A E) := by
  refine zk_met (cc := cX2_exists) (maxL := 1) (ret := (some .boolean)) (own := RX2) (by decide) rfl rfl hi (Nat.le_of_ble_eq_true rfl) ?_
  intro p e s m args below meth c X hr
  unfold fX2_exists at h
  refine zk_iload_n X 0 dX2_exists_0 rfl rfl ?_
  refine zk_if_lt X (tgt := 14) dX2_exists_1 (by decide) h (fun h => ?_) (fun h => ?_)
  · refine zk_iconst X (v := 0) dX2_exists_14 (by decide) ?_
    exact zk_zreturn X hr dX2_exists_15 rfl h
  · refine zk_iload_n X 0 dX2_exists_4 rfl rfl ?_
    refine zk_bipush X (v := 6) dX2_exists_5 (by decide) ?_
    refine zk_icmp_ge X (tgt := 14) dX2_exists_7 (by decide) h (fun h => ?_) (fun h => ?_)
    · refine zk_iconst X (v := 0) dX2_exists_14 (by decide) ?_
      exact zk_zreturn X hr dX2_exists_15 rfl h
    · refine zk_iconst X (v := 1) dX2_exists_10 (by decide) ?_
      refine zk_goto X (tgt := 15) dX2_exists_11 (by decide) ?_
      exact zk_zreturn X hr dX2_exists_15 rfl h
def fX2_isOne_L4 : Nat → Int32 → Int32 → Int32 → zk_Z → Option (Int32 × zk_Z)
  | 0, _, _, _, _ => none
  | n + 1, a1, a2, a3, z => if 6 ≤ a3 then some (0, z) else if a2 < 0 then some (0, z) else if 6 ≤ a2 then some (0, z) else if a2 = a1 then some (1, z) else zk_gd (zk_ix a2 6) ((fX2_isOne_L4 n) a1 (zk_above a2.toNatClampNeg) (a3 + 1) z)
def fX2_isOne (x0 : Int32) (x1 : Int32) (z : zk_Z) : Option (Int32 × zk_Z) := fX2_isOne_L4 zk_FU x1 x0 0 z
set_option maxRecDepth 100000 in
set_option maxHeartbeats 8000000 in
theorem ct_X2_isOne (l : Launch) (E : zk_E) (hi : zk_inj E) (x0 : Int32) (x1 : Int32) (z : zk_Z) (r : Int32) (z' : zk_Z) (h : fX2_isOne  x0 x1 z = some (r, z')) : Met l yX2_isOne wsX2_isOne { frames := 0, cells := 0, slots := 0, locals := 0 } (va_Pc [.int x0, .int x1] (zk_W E z)) (zk_Qi E r z') 0 0 (zk_A E) := by
  refine zk_met (cc := cX2_isOne) (maxL := 4) (ret := (some .boolean)) (own := RX2) (by decide) rfl rfl hi (Nat.le_of_ble_eq_true rfl) ?_
  intro p e s m args below meth c X hr
  have w0 : Cond.fieldLink RX2 13 "HiddenWorks$Kind" "ABOVE" "[I" ∈ wsX2_isOne := by decide +kernel
  have L4 : ∀ (n : Nat) (a1 : Int32) (a2 : Int32) (a3 : Int32) (z : zk_Z), fX2_isOne_L4 n a1 a2 a3 z = some (r, z') → zk_G p l e (headSpec wsX2_isOne { frames := 0, cells := 0, slots := 0, locals := 0 }).room s m args below meth c E 4 0 0 (MQ below (zk_Qi E r z') args s 0 0 (zk_A E)) 4 [(1, .int a1), (2, .int a2), (3, .int a3)] [] z := by
    intro n
    induction n with
    | zero => intro a1 a2 a3 z h; exact absurd h (by simp [fX2_isOne_L4])
    | succ n ih =>
      intro a1 a2 a3 z h
      rw [fX2_isOne_L4] at h
      refine zk_iload_n X 2 dX2_isOne_4 rfl rfl ?_
      refine zk_bipush X (v := 6) dX2_isOne_5 (by decide) ?_
      refine zk_icmp_ge X (tgt := 39) dX2_isOne_7 (by decide) h (fun h => ?_) (fun h => ?_)
      · refine zk_iconst X (v := 0) dX2_isOne_39 (by decide) ?_
        exact zk_zreturn X hr dX2_isOne_40 rfl h
      · refine zk_iload_n X 1 dX2_isOne_10 rfl rfl ?_
        refine zk_if_lt X (tgt := 39) dX2_isOne_11 (by decide) h (fun h => ?_) (fun h => ?_)
        · refine zk_iconst X (v := 0) dX2_isOne_39 (by decide) ?_
          exact zk_zreturn X hr dX2_isOne_40 rfl h
        · refine zk_iload_n X 1 dX2_isOne_14 rfl rfl ?_
          refine zk_bipush X (v := 6) dX2_isOne_15 (by decide) ?_
          refine zk_icmp_ge X (tgt := 39) dX2_isOne_17 (by decide) h (fun h => ?_) (fun h => ?_)
          · refine zk_iconst X (v := 0) dX2_isOne_39 (by decide) ?_
            exact zk_zreturn X hr dX2_isOne_40 rfl h
          · refine zk_iload_n X 1 dX2_isOne_20 rfl rfl ?_
            refine zk_iload_n X 0 dX2_isOne_21 rfl rfl ?_
            refine zk_icmp_ne X (tgt := 27) dX2_isOne_22 (by decide) h (fun h => ?_) (fun h => ?_)
            · refine zk_iconst X (v := 1) dX2_isOne_25 (by decide) ?_
              exact zk_zreturn X hr dX2_isOne_26 rfl h
            · refine zk_getT X w0 dX2_isOne_27 (fun tb hT => ?_)
              refine zk_iload_n X 1 dX2_isOne_30 rfl rfl ?_
              refine zk_iaT X hT dX2_isOne_31 h (fun h => ?_)
              refine zk_istore_n X (lv' := [(2, .int (zk_above a2.toNatClampNeg)), (1, .int a1), (3, .int a3)]) dX2_isOne_32 rfl (by decide) rfl ?_
              refine zk_iinc X (lv' := [(3, .int (a3 + 1)), (2, .int (zk_above a2.toNatClampNeg)), (1, .int a1)]) 2 dX2_isOne_33 rfl rfl (by decide) rfl ?_
              refine zk_goto X (tgt := 4) dX2_isOne_36 (by decide) ?_
              exact zk_sub [2, 1, 0] rfl (ih _ _ _ _ h)
  unfold fX2_isOne at h
  refine zk_iload_n X 0 dX2_isOne_0 rfl rfl ?_
  refine zk_istore_n X (lv' := [(2, .int x0), (0, .int x0), (1, .int x1)]) dX2_isOne_1 rfl (by decide) rfl ?_
  refine zk_iconst X (v := 0) dX2_isOne_2 (by decide) ?_
  refine zk_istore_n X (lv' := [(3, .int 0), (2, .int x0), (0, .int x0), (1, .int x1)]) dX2_isOne_3 rfl (by decide) rfl ?_
  exact zk_sub [3, 1, 0] rfl (L4  _ _ _ _ _ h)
def fX3_bitAt_B31 (c4 : Int32 → Int32 → Int32 → Int32 → zk_Z → Option (Int32 × zk_Z)) (a0 : Int32) (a1 : Int32) (a2 : Int32) (a3 : Int32) (z : zk_Z) : Option (Int32 × zk_Z) := c4 a0 a1 a2 (a3 + 1) z
def fX3_bitAt_L4 : Nat → Int32 → Int32 → Int32 → Int32 → zk_Z → Option (Int32 × zk_Z)
  | 0, _, _, _, _, _ => none
  | n + 1, a0, a1, a2, a3, z => if 10 ≤ a3 then some (0, z) else if ((a0 >>> (a3 &&& 31)) &&& 1) = 1 then if a2 = a1 then some ((1 : Int32) <<< (a3 &&& 31), z) else fX3_bitAt_B31 (fX3_bitAt_L4 n) a0 a1 (a2 + 1) a3 z else fX3_bitAt_B31 (fX3_bitAt_L4 n) a0 a1 a2 a3 z
def fX3_bitAt (x0 : Int32) (x1 : Int32) (z : zk_Z) : Option (Int32 × zk_Z) := fX3_bitAt_L4 zk_FU x0 x1 0 0 z
set_option maxRecDepth 100000 in
set_option maxHeartbeats 8000000 in
theorem ct_X3_bitAt (l : Launch) (E : zk_E) (hi : zk_inj E) (x0 : Int32) (x1 : Int32) (z : zk_Z) (r : Int32) (z' : zk_Z) (h : fX3_bitAt  x0 x1 z = some (r, z')) : Met l yX3_bitAt wsX3_bitAt { frames := 0, cells := 0, slots := 0, locals := 0 } (va_Pc [.int x0, .int x1] (zk_W E z)) (zk_Qi E r z') 0 0 (zk_A E) := by
  refine zk_met (cc := cX3_bitAt) (maxL := 4) (ret := (some .int)) (own := RX3) (by decide) rfl rfl hi (Nat.le_of_ble_eq_true rfl) ?_
  intro p e s m args below meth c X hr
  have B31 : ∀ (c4 : Int32 → Int32 → Int32 → Int32 → zk_Z → Option (Int32 × zk_Z)) (hc4 : ∀ (a0 : Int32) (a1 : Int32) (a2 : Int32) (a3 : Int32) (z : zk_Z), c4 a0 a1 a2 a3 z = some (r, z') → zk_G p l e (headSpec wsX3_bitAt { frames := 0, cells := 0, slots := 0, locals := 0 }).room s m args below meth c E 4 0 0 (MQ below (zk_Qi E r z') args s 0 0 (zk_A E)) 4 [(0, .int a0), (1, .int a1), (2, .int a2), (3, .int a3)] [] z) (a0 : Int32) (a1 : Int32) (a2 : Int32) (a3 : Int32) (z : zk_Z), fX3_bitAt_B31 c4 a0 a1 a2 a3 z = some (r, z') → zk_G p l e (headSpec wsX3_bitAt { frames := 0, cells := 0, slots := 0, locals := 0 }).room s m args below meth c E 4 0 0 (MQ below (zk_Qi E r z') args s 0 0 (zk_A E)) 31 [(0, .int a0), (1, .int a1), (2, .int a2), (3, .int a3)] [] z := by
    intro c4 hc4 a0 a1 a2 a3 z h
    unfold fX3_bitAt_B31 at h
    refine zk_iinc X (lv' := [(3, .int (a3 + 1)), (0, .int a0), (1, .int a1), (2, .int a2)]) 3 dX3_bitAt_31 rfl rfl (by decide) rfl ?_
    refine zk_goto X (tgt := 4) dX3_bitAt_34 (by decide) ?_
    exact zk_sub [1, 2, 3, 0] rfl (hc4 _ _ _ _ _ h)
  have L4 : ∀ (n : Nat) (a0 : Int32) (a1 : Int32) (a2 : Int32) (a3 : Int32) (z : zk_Z), fX3_bitAt_L4 n a0 a1 a2 a3 z = some (r, z') → zk_G p l e (headSpec wsX3_bitAt { frames := 0, cells := 0, slots := 0, locals := 0 }).room s m args below meth c E 4 0 0 (MQ below (zk_Qi E r z') args s 0 0 (zk_A E)) 4 [(0, .int a0), (1, .int a1), (2, .int a2), (3, .int a3)] [] z := by
    intro n
    induction n with
    | zero => intro a0 a1 a2 a3 z h; exact absurd h (by simp [fX3_bitAt_L4])
    | succ n ih =>
      intro a0 a1 a2 a3 z h
      rw [fX3_bitAt_L4] at h
      refine zk_iload_n X 3 dX3_bitAt_4 rfl rfl ?_
      refine zk_bipush X (v := 10) dX3_bitAt_5 (by decide) ?_
      refine zk_icmp_ge X (tgt := 37) dX3_bitAt_7 (by decide) h (fun h => ?_) (fun h => ?_)
      · refine zk_iconst X (v := 0) dX3_bitAt_37 (by decide) ?_
        exact zk_ireturn X hr dX3_bitAt_38 h
      · refine zk_iload_n X 0 dX3_bitAt_10 rfl rfl ?_
        refine zk_iload_n X 3 dX3_bitAt_11 rfl rfl ?_
        refine zk_ishr X dX3_bitAt_12 ?_
        refine zk_iconst X (v := 1) dX3_bitAt_13 (by decide) ?_
        refine zk_iand X dX3_bitAt_14 ?_
        refine zk_iconst X (v := 1) dX3_bitAt_15 (by decide) ?_
        refine zk_icmp_ne X (tgt := 31) dX3_bitAt_16 (by decide) h (fun h => ?_) (fun h => ?_)
        · refine zk_iload_n X 2 dX3_bitAt_19 rfl rfl ?_
          refine zk_iload_n X 1 dX3_bitAt_20 rfl rfl ?_
          refine zk_icmp_ne X (tgt := 28) dX3_bitAt_21 (by decide) h (fun h => ?_) (fun h => ?_)
          · refine zk_iconst X (v := 1) dX3_bitAt_24 (by decide) ?_
            refine zk_iload_n X 3 dX3_bitAt_25 rfl rfl ?_
            refine zk_ishl X dX3_bitAt_26 ?_
            exact zk_ireturn X hr dX3_bitAt_27 h
          · refine zk_iinc X (lv' := [(2, .int (a2 + 1)), (0, .int a0), (1, .int a1), (3, .int a3)]) 2 dX3_bitAt_28 rfl rfl (by decide) rfl ?_
            exact zk_sub [1, 2, 0, 3] rfl (B31 _ ih _ _ _ _ _ h)
        · exact zk_sub [0, 1, 2, 3] rfl (B31 _ ih _ _ _ _ _ h)
  unfold fX3_bitAt at h
  refine zk_iconst X (v := 0) dX3_bitAt_0 (by decide) ?_
  refine zk_istore_n X (lv' := [(2, .int 0), (0, .int x0), (1, .int x1)]) dX3_bitAt_1 rfl (by decide) rfl ?_
  refine zk_iconst X (v := 0) dX3_bitAt_2 (by decide) ?_
  refine zk_istore_n X (lv' := [(3, .int 0), (2, .int 0), (0, .int x0), (1, .int x1)]) dX3_bitAt_3 rfl (by decide) rfl ?_
  exact zk_sub [2, 3, 1, 0] rfl (L4  _ _ _ _ _ _ h)
def fX3_draw (x1 : Int32) (z : zk_Z) : Option (Int32 × zk_Z) := if 1 ≤ x1 then zk_gd (zk_nzl x1.toInt64) (some (((((zk_sL z 0 (((z.2 0) * 48271) - ((z.2 0) * 48271) / 2147483647 * 2147483647)).2 0) / 16) - (((zk_sL z 0 (((z.2 0) * 48271) - ((z.2 0) * 48271) / 2147483647 * 2147483647)).2 0) / 16) / x1.toInt64 * x1.toInt64).toInt32, zk_sL z 0 (((z.2 0) * 48271) - ((z.2 0) * 48271) / 2147483647 * 2147483647))) else some (0, zk_sL z 0 (((z.2 0) * 48271) - ((z.2 0) * 48271) / 2147483647 * 2147483647))
set_option maxRecDepth 100000 in
set_option maxHeartbeats 8000000 in
theorem ct_X3_draw (l : Launch) (E : zk_E) (hi : zk_inj E) (x1 : Int32) (z : zk_Z) (r : Int32) (z' : zk_Z) (h : fX3_draw  x1 z = some (r, z')) : Met l yX3_draw wsX3_draw { frames := 0, cells := 0, slots := 0, locals := 0 } (va_Pc [.ref (E.2.1 15 0), .int x1] (zk_W E z)) (zk_Qi E r z') 0 0 (zk_A E) := by
  refine zk_met (cc := cX3_draw) (maxL := 2) (ret := (some .int)) (own := RX3) (by decide) rfl rfl hi (Nat.le_of_ble_eq_true rfl) ?_
  intro p e s m args below meth c X hr
  have iX3 : ∀ w ∈ u_ws RX3 TX3 1, w ∈ wsX3_draw := by decide +kernel
  have w0 : Cond.fieldLink RX3 9 "HiddenWorks$Maker" "lot" "J" ∈ wsX3_draw := by decide +kernel
  have w1 : Cond.constantLong RX3 54 (48271) ∈ wsX3_draw := by decide +kernel
  have w2 : Cond.constantLong RX3 56 (2147483647) ∈ wsX3_draw := by decide +kernel
  have w3 : Cond.constantLong RX3 58 (16) ∈ wsX3_draw := by decide +kernel
  unfold fX3_draw at h
  refine zk_aload_n X 0 dX3_draw_0 rfl rfl ?_
  refine zk_aload_n X 0 dX3_draw_1 rfl rfl ?_
  refine zk_get X iX3 (g := 15) (Nat.zero_lt_one) rfl rfl 0 (by decide) w0 rfl dX3_draw_2 ?_
  refine zk_ldc2 X w1 dX3_draw_5 ?_
  refine zk_lmul X dX3_draw_8 ?_
  refine zk_ldc2 X w2 dX3_draw_9 ?_
  refine zk_lrem X (α := Unit) (a := some ()) (o := ()) dX3_draw_12 rfl (fun _ => ?_)
  refine zk_putL X iX3 tyX3 tyX3_ok nmX3 (g := 15) (Nat.zero_lt_one) rfl rfl 0 0 (by decide) w0 rfl (by decide +kernel) (Nat.le_of_ble_eq_true rfl) rfl (Or.inl ⟨rfl, rfl⟩) dX3_draw_13 ?_
  refine zk_iload_n X 1 dX3_draw_16 rfl rfl ?_
  refine zk_iconst X (v := 1) dX3_draw_17 (by decide) ?_
  refine zk_icmp_ge X (tgt := 25) dX3_draw_18 (by decide) h (fun h => ?_) (fun h => ?_)
  · refine zk_aload_n X 0 dX3_draw_25 rfl rfl ?_
    refine zk_get X iX3 (g := 15) (Nat.zero_lt_one) rfl rfl 0 (by decide) w0 rfl dX3_draw_26 ?_
    refine zk_ldc2 X w3 dX3_draw_29 ?_
    refine zk_ldiv X (α := Unit) (a := some ()) (o := ()) dX3_draw_32 rfl (fun _ => ?_)
    refine zk_iload_n X 1 dX3_draw_33 rfl rfl ?_
    refine zk_i2l X dX3_draw_34 ?_
    refine zk_lrem X dX3_draw_35 h (fun h => ?_)
    refine zk_l2i X dX3_draw_36 ?_
    exact zk_ireturn X hr dX3_draw_37 h
  · refine zk_iconst X (v := 0) dX3_draw_21 (by decide) ?_
    refine zk_goto X (tgt := 37) dX3_draw_22 (by decide) ?_
    exact zk_ireturn X hr dX3_draw_37 h
def fX3_drawLetters_L12 : Nat → Int32 → Int32 → Int32 → Int32 → Int32 → zk_Z → Option (Int32 × zk_Z)
  | 0, _, _, _, _, _, _ => none
  | n + 1, a1, a2, a3, a4, a5, z => if a2 ≤ a5 then some (a4, z) else zk_bd (fX3_draw (a1 - a5) z) (fun r2 z1 => zk_bd (fX3_bitAt a3 r2 z1) (fun r4 z3 => (fX3_drawLetters_L12 n) a1 a2 (a3 &&& (r4 ^^^ (-1))) (a4 ||| r4) (a5 + 1) z3))
def fX3_drawLetters (x1 : Int32) (x2 : Int32) (z : zk_Z) : Option (Int32 × zk_Z) := fX3_drawLetters_L12 zk_FU x1 x2 (((1 : Int32) <<< (x1 &&& 31)) - 1) 0 0 z
set_option maxRecDepth 100000 in
set_option maxHeartbeats 8000000 in
theorem ct_X3_drawLetters (l : Launch) (E : zk_E) (hi : zk_inj E) (x1 : Int32) (x2 : Int32) (z : zk_Z) (r : Int32) (z' : zk_Z) (h : fX3_drawLetters  x1 x2 z = some (r, z')) : Met l yX3_drawLetters wsX3_drawLetters { frames := 1, cells := 0, slots := 0, locals := 23 } (va_Pc [.ref (E.2.1 15 0), .int x1, .int x2] (zk_W E z)) (zk_Qi E r z') 0 0 (zk_A E) := by
  refine zk_met (cc := cX3_drawLetters) (maxL := 7) (ret := (some .int)) (own := RX3) (by decide) rfl rfl hi (Nat.le_of_ble_eq_true rfl) ?_
  intro p e s m args below meth c X hr
  have L12 : ∀ (n : Nat) (a1 : Int32) (a2 : Int32) (a3 : Int32) (a4 : Int32) (a5 : Int32) (z : zk_Z), fX3_drawLetters_L12 n a1 a2 a3 a4 a5 z = some (r, z') → zk_G p l e (headSpec wsX3_drawLetters { frames := 1, cells := 0, slots := 0, locals := 23 }).room s m args below meth c E 7 0 0 (MQ below (zk_Qi E r z') args s 0 0 (zk_A E)) 12 [(0, .ref (E.2.1 15 0)), (1, .int a1), (2, .int a2), (3, .int a3), (4, .int a4), (5, .int a5)] [] z := by
    intro n
    induction n with
    | zero => intro a1 a2 a3 a4 a5 z h; exact absurd h (by simp [fX3_drawLetters_L12])
    | succ n ih =>
      intro a1 a2 a3 a4 a5 z h
      rw [fX3_drawLetters_L12] at h
      refine zk_iload X 5 dX3_drawLetters_12 rfl ?_
      refine zk_iload_n X 2 dX3_drawLetters_14 rfl rfl ?_
      refine zk_icmp_ge X (tgt := 52) dX3_drawLetters_15 (by decide) h (fun h => ?_) (fun h => ?_)
      · refine zk_iload X 4 dX3_drawLetters_52 rfl ?_
        exact zk_ireturn X hr dX3_drawLetters_54 h
      · refine zk_iload_n X 3 dX3_drawLetters_18 rfl rfl ?_
        refine zk_aload_n X 0 dX3_drawLetters_19 rfl rfl ?_
        refine zk_iload_n X 1 dX3_drawLetters_20 rfl rfl ?_
        refine zk_iload X 5 dX3_drawLetters_21 rfl ?_
        refine zk_isub X dX3_drawLetters_23 ?_
        refine zk_vi X h (fun rr zz hf => ct_X3_draw l E hi (a1 - a5) _ rr zz hf) (cwV 1 X.1.2.2.2.2 gX3_drawLetters_X3_draw rfl rfl rfl (by decide +kernel) ⟨Nat.le_of_ble_eq_true rfl, Nat.le_of_ble_eq_true rfl⟩) (zk_recv X (g := 15) (Nat.zero_lt_one) rfl rfl) rfl rfl (Nat.le_of_ble_eq_true rfl) dX3_drawLetters_24 (fun r2 z1 h => ?_)
        refine zk_si X h (fun rr zz hf => ct_X3_bitAt l E hi a3 r2 _ rr zz hf) (va_cwS 2 X.1.2.2.2.2 gX3_drawLetters_X3_bitAt rfl rfl rfl (by decide +kernel) ⟨Nat.le_of_ble_eq_true rfl, Nat.le_of_ble_eq_true rfl⟩) rfl rfl (Nat.le_of_ble_eq_true rfl) dX3_drawLetters_27 (fun r4 z3 h => ?_)
        refine zk_istore X (lv' := [(6, .int r4), (0, .ref (E.2.1 15 0)), (1, .int a1), (2, .int a2), (3, .int a3), (4, .int a4), (5, .int a5)]) dX3_drawLetters_30 (by decide) rfl ?_
        refine zk_iload X 5 dX3_drawLetters_32 rfl ?_
        refine zk_iload X 0 dX3_drawLetters_34 rfl ?_
        refine zk_ior X dX3_drawLetters_36 ?_
        refine zk_istore X (lv' := [(4, .int (a4 ||| r4)), (6, .int r4), (0, .ref (E.2.1 15 0)), (1, .int a1), (2, .int a2), (3, .int a3), (5, .int a5)]) dX3_drawLetters_37 (by decide) rfl ?_
        refine zk_iload_n X 5 dX3_drawLetters_39 rfl rfl ?_
        refine zk_iload X 1 dX3_drawLetters_40 rfl ?_
        refine zk_iconst X (v := -1) dX3_drawLetters_42 (by decide) ?_
        refine zk_ixor X dX3_drawLetters_43 ?_
        refine zk_iand X dX3_drawLetters_44 ?_
        refine zk_istore_n X (lv' := [(3, .int (a3 &&& (r4 ^^^ (-1)))), (4, .int (a4 ||| r4)), (6, .int r4), (0, .ref (E.2.1 15 0)), (1, .int a1), (2, .int a2), (5, .int a5)]) dX3_drawLetters_45 rfl (by decide) rfl ?_
        refine zk_iinc X (lv' := [(5, .int (a5 + 1)), (3, .int (a3 &&& (r4 ^^^ (-1)))), (4, .int (a4 ||| r4)), (6, .int r4), (0, .ref (E.2.1 15 0)), (1, .int a1), (2, .int a2)]) 6 dX3_drawLetters_46 rfl rfl (by decide) rfl ?_
        refine zk_goto X (tgt := 12) dX3_drawLetters_49 (by decide) ?_
        exact zk_sub [4, 5, 6, 1, 2, 0] rfl (ih _ _ _ _ _ _ h)
  unfold fX3_drawLetters at h
  refine zk_iconst X (v := 1) dX3_drawLetters_0 (by decide) ?_
  refine zk_iload_n X 1 dX3_drawLetters_1 rfl rfl ?_
  refine zk_ishl X dX3_drawLetters_2 ?_
  refine zk_iconst X (v := 1) dX3_drawLetters_3 (by decide) ?_
  refine zk_isub X dX3_drawLetters_4 ?_
  refine zk_istore_n X (lv' := [(3, .int (((1 : Int32) <<< (x1 &&& 31)) - 1)), (0, .ref (E.2.1 15 0)), (1, .int x1), (2, .int x2)]) dX3_drawLetters_5 rfl (by decide) rfl ?_
  refine zk_iconst X (v := 0) dX3_drawLetters_6 (by decide) ?_
  refine zk_istore X (lv' := [(4, .int 0), (3, .int (((1 : Int32) <<< (x1 &&& 31)) - 1)), (0, .ref (E.2.1 15 0)), (1, .int x1), (2, .int x2)]) dX3_drawLetters_7 (by decide) rfl ?_
  refine zk_iconst X (v := 0) dX3_drawLetters_9 (by decide) ?_
  refine zk_istore X (lv' := [(5, .int 0), (4, .int 0), (3, .int (((1 : Int32) <<< (x1 &&& 31)) - 1)), (0, .ref (E.2.1 15 0)), (1, .int x1), (2, .int x2)]) dX3_drawLetters_10 (by decide) rfl ?_
  exact zk_sub [3, 4, 5, 2, 1, 0] rfl (L12  _ _ _ _ _ _ _ h)
def fX3_trueByWay (x0 : Int32) (x1 : Int32) (x2 : Int32) (x3 : Int32) (z : zk_Z) : Option (Int32 × zk_Z) := if x1 = 0 then some (0, z) else if x1 = x2 then some (x0, z) else zk_bd (fX3_bitAt x0 x3 z) (fun r2 z1 => if x1 = 1 then some (r2, z1) else some (x0 &&& (r2 ^^^ (-1)), z1))
set_option maxRecDepth 100000 in
set_option maxHeartbeats 8000000 in
theorem ct_X3_trueByWay (l : Launch) (E : zk_E) (hi : zk_inj E) (x0 : Int32) (x1 : Int32) (x2 : Int32) (x3 : Int32) (z : zk_Z) (r : Int32) (z' : zk_Z) (h : fX3_trueByWay  x0 x1 x2 x3 z = some (r, z')) : Met l yX3_trueByWay wsX3_trueByWay { frames := 1, cells := 0, slots := 0, locals := 23 } (va_Pc [.int x0, .int x1, .int x2, .int x3] (zk_W E z)) (zk_Qi E r z') 0 0 (zk_A E) := by
  refine zk_met (cc := cX3_trueByWay) (maxL := 5) (ret := (some .int)) (own := RX3) (by decide) rfl rfl hi (Nat.le_of_ble_eq_true rfl) ?_
  intro p e s m args below meth c X hr
  unfold fX3_trueByWay at h
  refine zk_iload_n X 1 dX3_trueByWay_0 rfl rfl ?_
  refine zk_if_ne X (tgt := 6) dX3_trueByWay_1 (by decide) h (fun h => ?_) (fun h => ?_)
  · refine zk_iconst X (v := 0) dX3_trueByWay_4 (by decide) ?_
    exact zk_ireturn X hr dX3_trueByWay_5 h
  · refine zk_iload_n X 1 dX3_trueByWay_6 rfl rfl ?_
    refine zk_iload_n X 2 dX3_trueByWay_7 rfl rfl ?_
    refine zk_icmp_ne X (tgt := 13) dX3_trueByWay_8 (by decide) h (fun h => ?_) (fun h => ?_)
    · refine zk_iload_n X 0 dX3_trueByWay_11 rfl rfl ?_
      exact zk_ireturn X hr dX3_trueByWay_12 h
    · refine zk_iload_n X 0 dX3_trueByWay_13 rfl rfl ?_
      refine zk_iload_n X 3 dX3_trueByWay_14 rfl rfl ?_
      refine zk_si X h (fun rr zz hf => ct_X3_bitAt l E hi  x0 x3 _ rr zz hf) (va_cwS 2 X.1.2.2.2.2 gX3_trueByWay_X3_bitAt rfl rfl rfl (by decide +kernel) ⟨Nat.le_of_ble_eq_true rfl, Nat.le_of_ble_eq_true rfl⟩) rfl rfl (Nat.le_of_ble_eq_true rfl) dX3_trueByWay_15 (fun r2 z1 h => ?_)
      refine zk_istore X (lv' := [(4, .int r2), (0, .int x0), (1, .int x1), (2, .int x2), (3, .int x3)]) dX3_trueByWay_18 (by decide) rfl ?_
      refine zk_iload_n X 2 dX3_trueByWay_20 rfl rfl ?_
      refine zk_iconst X (v := 1) dX3_trueByWay_21 (by decide) ?_
      refine zk_icmp_ne X (tgt := 30) dX3_trueByWay_22 (by decide) h (fun h => ?_) (fun h => ?_)
      · refine zk_iload X 0 dX3_trueByWay_25 rfl ?_
        refine zk_goto X (tgt := 36) dX3_trueByWay_27 (by decide) ?_
        exact zk_ireturn X hr dX3_trueByWay_36 h
      · refine zk_iload_n X 1 dX3_trueByWay_30 rfl rfl ?_
        refine zk_iload X 0 dX3_trueByWay_31 rfl ?_
        refine zk_iconst X (v := -1) dX3_trueByWay_33 (by decide) ?_
        refine zk_ixor X dX3_trueByWay_34 ?_
        refine zk_iand X dX3_trueByWay_35 ?_
        exact zk_ireturn X hr dX3_trueByWay_36 h
def fX4_ways (k : Nat) (x1 : Int32) (z : zk_Z) : Option (Int32 × zk_Z) := if x1 = 0 then some (1, z) else if x1 = (z.1 4 k 3) then some (1, z) else some (z.1 4 k 3, z)
set_option maxRecDepth 100000 in
set_option maxHeartbeats 8000000 in
theorem ct_X4_ways (l : Launch) (E : zk_E) (hi : zk_inj E) (k : Nat) (hk : k < zk_cnt 4) (x1 : Int32) (z : zk_Z) (r : Int32) (z' : zk_Z) (h : fX4_ways k x1 z = some (r, z')) : Met l yX4_ways wsX4_ways { frames := 0, cells := 0, slots := 0, locals := 0 } (va_Pc [.ref (E.2.1 4 k), .int x1] (zk_W E z)) (zk_Qi E r z') 0 0 (zk_A E) := by
  refine zk_met (cc := cX4_ways) (maxL := 2) (ret := (some .int)) (own := RX4) (by decide) rfl rfl hi (Nat.le_of_ble_eq_true rfl) ?_
  intro p e s m args below meth c X hr
  have iX4 : ∀ w ∈ u_ws RX4 TX4 5, w ∈ wsX4_ways := by decide +kernel
  have w0 : Cond.fieldLink RX4 15 "HiddenWorks$Recipe" "wide" "I" ∈ wsX4_ways := by decide +kernel
  unfold fX4_ways at h
  refine zk_iload_n X 1 dX4_ways_0 rfl rfl ?_
  refine zk_if_eq X (tgt := 12) dX4_ways_1 (by decide) h (fun h => ?_) (fun h => ?_)
  · refine zk_iconst X (v := 1) dX4_ways_12 (by decide) ?_
    refine zk_goto X (tgt := 20) dX4_ways_13 (by decide) ?_
    exact zk_ireturn X hr dX4_ways_20 h
  · refine zk_iload_n X 1 dX4_ways_4 rfl rfl ?_
    refine zk_aload_n X 0 dX4_ways_5 rfl rfl ?_
    refine zk_get X iX4 (g := 4) (hk) rfl rfl 3 (by decide) w0 rfl dX4_ways_6 ?_
    refine zk_icmp_ne X (tgt := 16) dX4_ways_9 (by decide) h (fun h => ?_) (fun h => ?_)
    · refine zk_iconst X (v := 1) dX4_ways_12 (by decide) ?_
      refine zk_goto X (tgt := 20) dX4_ways_13 (by decide) ?_
      exact zk_ireturn X hr dX4_ways_20 h
    · refine zk_aload_n X 0 dX4_ways_16 rfl rfl ?_
      refine zk_get X iX4 (g := 4) (hk) rfl rfl 3 (by decide) w0 rfl dX4_ways_17 ?_
      exact zk_ireturn X hr dX4_ways_20 h
def fX4_share (k : Nat) (x1 : Int32) (z : zk_Z) : Option (Int32 × zk_Z) := zk_gd (zk_ix x1 4) (zk_bd (fX4_ways k x1 z) (fun r2 z1 => some ((z.1 5 k x1.toNatClampNeg) * r2, z1)))
set_option maxRecDepth 100000 in
set_option maxHeartbeats 8000000 in
theorem ct_X4_share (l : Launch) (E : zk_E) (hi : zk_inj E) (k : Nat) (hk : k < zk_cnt 4) (x1 : Int32) (z : zk_Z) (r : Int32) (z' : zk_Z) (h : fX4_share k x1 z = some (r, z')) : Met l yX4_share wsX4_share { frames := 1, cells := 0, slots := 0, locals := 21 } (va_Pc [.ref (E.2.1 4 k), .int x1] (zk_W E z)) (zk_Qi E r z') 0 0 (zk_A E) := by
  refine zk_met (cc := cX4_share) (maxL := 2) (ret := (some .int)) (own := RX4) (by decide) rfl rfl hi (Nat.le_of_ble_eq_true rfl) ?_
  intro p e s m args below meth c X hr
  have iX4 : ∀ w ∈ u_ws RX4 TX4 5, w ∈ wsX4_share := by decide +kernel
  have w0 : Cond.fieldLink RX4 9 "HiddenWorks$Recipe" "weights" "[I" ∈ wsX4_share := by decide +kernel
  unfold fX4_share at h
  refine zk_aload_n X 0 dX4_share_0 rfl rfl ?_
  refine zk_get X iX4 (g := 4) (hk) rfl rfl 4 (by decide) w0 rfl dX4_share_1 ?_
  refine zk_iload_n X 1 dX4_share_4 rfl rfl ?_
  refine zk_iald X (g := 5) (hk) rfl dX4_share_5 h (fun h => ?_)
  refine zk_aload_n X 0 dX4_share_6 rfl rfl ?_
  refine zk_iload_n X 1 dX4_share_7 rfl rfl ?_
  refine zk_vi X h (fun rr zz hf => ct_X4_ways l E hi k (hk) x1 _ rr zz hf) (cwV 1 X.1.2.2.2.2 gX4_share_X4_ways rfl rfl rfl (by decide +kernel) ⟨Nat.le_of_ble_eq_true rfl, Nat.le_of_ble_eq_true rfl⟩) (zk_recv X (g := 4) (hk) rfl rfl) rfl rfl (Nat.le_of_ble_eq_true rfl) dX4_share_8 (fun r2 z1 h => ?_)
  refine zk_imul X dX4_share_11 ?_
  exact zk_ireturn X hr dX4_share_12 h
def fX4_allWays_L4 (k : Nat) : Nat → Int32 → Int32 → zk_Z → Option (Int32 × zk_Z)
  | 0, _, _, _ => none
  | n + 1, a1, a2, z => if (z.1 4 k 3) < a2 then some (a1, z) else zk_bd (fX4_share k a2 z) (fun r2 z1 => (fX4_allWays_L4 k n) (a1 + r2) (a2 + 1) z1)
def fX4_allWays (k : Nat) (z : zk_Z) : Option (Int32 × zk_Z) := fX4_allWays_L4 k zk_FU 0 0 z
set_option maxRecDepth 100000 in
set_option maxHeartbeats 8000000 in
theorem ct_X4_allWays (l : Launch) (E : zk_E) (hi : zk_inj E) (k : Nat) (hk : k < zk_cnt 4) (z : zk_Z) (r : Int32) (z' : zk_Z) (h : fX4_allWays k  z = some (r, z')) : Met l yX4_allWays wsX4_allWays { frames := 2, cells := 0, slots := 0, locals := 42 } (va_Pc [.ref (E.2.1 4 k)] (zk_W E z)) (zk_Qi E r z') 0 0 (zk_A E) := by
  refine zk_met (cc := cX4_allWays) (maxL := 3) (ret := (some .int)) (own := RX4) (by decide) rfl rfl hi (Nat.le_of_ble_eq_true rfl) ?_
  intro p e s m args below meth c X hr
  have iX4 : ∀ w ∈ u_ws RX4 TX4 5, w ∈ wsX4_allWays := by decide +kernel
  have w0 : Cond.fieldLink RX4 15 "HiddenWorks$Recipe" "wide" "I" ∈ wsX4_allWays := by decide +kernel
  have L4 : ∀ (n : Nat) (a1 : Int32) (a2 : Int32) (z : zk_Z), fX4_allWays_L4 k n a1 a2 z = some (r, z') → zk_G p l e (headSpec wsX4_allWays { frames := 2, cells := 0, slots := 0, locals := 42 }).room s m args below meth c E 3 0 0 (MQ below (zk_Qi E r z') args s 0 0 (zk_A E)) 4 [(0, .ref (E.2.1 4 k)), (1, .int a1), (2, .int a2)] [] z := by
    intro n
    induction n with
    | zero => intro a1 a2 z h; exact absurd h (by simp [fX4_allWays_L4])
    | succ n ih =>
      intro a1 a2 z h
      rw [fX4_allWays_L4] at h
      refine zk_iload_n X 2 dX4_allWays_4 rfl rfl ?_
      refine zk_aload_n X 0 dX4_allWays_5 rfl rfl ?_
      refine zk_get X iX4 (g := 4) (hk) rfl rfl 3 (by decide) w0 rfl dX4_allWays_6 ?_
      refine zk_icmp_gt X (tgt := 26) dX4_allWays_9 (by decide) h (fun h => ?_) (fun h => ?_)
      · refine zk_iload_n X 1 dX4_allWays_26 rfl rfl ?_
        exact zk_ireturn X hr dX4_allWays_27 h
      · refine zk_iload_n X 1 dX4_allWays_12 rfl rfl ?_
        refine zk_aload_n X 0 dX4_allWays_13 rfl rfl ?_
        refine zk_iload_n X 2 dX4_allWays_14 rfl rfl ?_
        refine zk_vi X h (fun rr zz hf => ct_X4_share l E hi k (hk) a2 _ rr zz hf) (cwV 1 X.1.2.2.2.2 gX4_allWays_X4_share rfl rfl rfl (by decide +kernel) ⟨Nat.le_of_ble_eq_true rfl, Nat.le_of_ble_eq_true rfl⟩) (zk_recv X (g := 4) (hk) rfl rfl) rfl rfl (Nat.le_of_ble_eq_true rfl) dX4_allWays_15 (fun r2 z1 h => ?_)
        refine zk_iadd X dX4_allWays_18 ?_
        refine zk_istore_n X (lv' := [(1, .int (a1 + r2)), (0, .ref (E.2.1 4 k)), (2, .int a2)]) dX4_allWays_19 rfl (by decide) rfl ?_
        refine zk_iinc X (lv' := [(2, .int (a2 + 1)), (1, .int (a1 + r2)), (0, .ref (E.2.1 4 k))]) 2 dX4_allWays_20 rfl rfl (by decide) rfl ?_
        refine zk_goto X (tgt := 4) dX4_allWays_23 (by decide) ?_
        exact zk_sub [2, 1, 0] rfl (ih _ _ _ h)
  unfold fX4_allWays at h
  refine zk_iconst X (v := 0) dX4_allWays_0 (by decide) ?_
  refine zk_istore_n X (lv' := [(1, .int 0), (0, .ref (E.2.1 4 k))]) dX4_allWays_1 rfl (by decide) rfl ?_
  refine zk_iconst X (v := 0) dX4_allWays_2 (by decide) ?_
  refine zk_istore_n X (lv' := [(2, .int 0), (1, .int 0), (0, .ref (E.2.1 4 k))]) dX4_allWays_3 rfl (by decide) rfl ?_
  exact zk_sub [2, 1, 0] rfl (L4  _ _ _ _ h)
def fX3_drawTrue_B64 (k1 : Nat) (c12 : Int32 → Int32 → Int32 → zk_Z → Option (Int32 × zk_Z)) (a2 : Int32) (a3 : Int32) (a4 : Int32) (a6 : Int32) (z : zk_Z) : Option (Int32 × zk_Z) := c12 a2 (a3 - a6) (a4 + 1) z
def fX3_drawTrue_L12 (k1 : Nat) : Nat → Int32 → Int32 → Int32 → zk_Z → Option (Int32 × zk_Z)
  | 0, _, _, _, _ => none
  | n + 1, a2, a3, a4, z => if (z.1 4 k1 3) < a4 then some (0, z) else zk_gd (zk_ix a4 4) (zk_bd (fX4_share k1 a4 z) (fun r6 z5 => if (z.1 5 k1 a4.toNatClampNeg) ≤ 0 then fX3_drawTrue_B64 k1 (fX3_drawTrue_L12 k1 n) a2 a3 a4 r6 z5 else if r6 ≤ a3 then fX3_drawTrue_B64 k1 (fX3_drawTrue_L12 k1 n) a2 a3 a4 r6 z5 else zk_gd (zk_nz (z.1 5 k1 a4.toNatClampNeg)) (zk_bd (fX3_trueByWay a2 a4 (z5.1 4 k1 3) (a3 / (z.1 5 k1 a4.toNatClampNeg)) z5) (fun r8 z7 => some (r8, z7)))))
def fX3_drawTrue (k1 : Nat) (x2 : Int32) (z : zk_Z) : Option (Int32 × zk_Z) := zk_bd (fX4_allWays k1 z) (fun r2 z1 => zk_bd (fX3_draw r2 z1) (fun r4 z3 => fX3_drawTrue_L12 k1 zk_FU x2 r4 0 z3))
set_option maxRecDepth 100000 in
set_option maxHeartbeats 8000000 in
theorem ct_X3_drawTrue (l : Launch) (E : zk_E) (hi : zk_inj E) (k1 : Nat) (hk1 : k1 < zk_cnt 4) (x2 : Int32) (z : zk_Z) (r : Int32) (z' : zk_Z) (h : fX3_drawTrue k1 x2 z = some (r, z')) : Met l yX3_drawTrue wsX3_drawTrue { frames := 3, cells := 0, slots := 0, locals := 64 } (va_Pc [.ref (E.2.1 15 0), .ref (E.2.1 4 k1), .int x2] (zk_W E z)) (zk_Qi E r z') 0 0 (zk_A E) := by
  refine zk_met (cc := cX3_drawTrue) (maxL := 7) (ret := (some .int)) (own := RX3) (by decide) rfl rfl hi (Nat.le_of_ble_eq_true rfl) ?_
  intro p e s m args below meth c X hr
  have iX4 : ∀ w ∈ u_ws RX4 TX4 5, w ∈ wsX3_drawTrue := by decide +kernel
  have w0 : Cond.fieldLink RX3 40 "HiddenWorks$Recipe" "wide" "I" ∈ wsX3_drawTrue := by decide +kernel
  have w1 : Cond.fieldLink RX3 67 "HiddenWorks$Recipe" "weights" "[I" ∈ wsX3_drawTrue := by decide +kernel
  have B64 : ∀ (c12 : Int32 → Int32 → Int32 → zk_Z → Option (Int32 × zk_Z)) (hc12 : ∀ (a2 : Int32) (a3 : Int32) (a4 : Int32) (z : zk_Z), c12 a2 a3 a4 z = some (r, z') → zk_G p l e (headSpec wsX3_drawTrue { frames := 3, cells := 0, slots := 0, locals := 64 }).room s m args below meth c E 7 0 0 (MQ below (zk_Qi E r z') args s 0 0 (zk_A E)) 12 [(1, .ref (E.2.1 4 k1)), (2, .int a2), (3, .int a3), (4, .int a4)] [] z) (a2 : Int32) (a3 : Int32) (a4 : Int32) (a6 : Int32) (z : zk_Z), fX3_drawTrue_B64 k1 c12 a2 a3 a4 a6 z = some (r, z') → zk_G p l e (headSpec wsX3_drawTrue { frames := 3, cells := 0, slots := 0, locals := 64 }).room s m args below meth c E 7 0 0 (MQ below (zk_Qi E r z') args s 0 0 (zk_A E)) 64 [(1, .ref (E.2.1 4 k1)), (2, .int a2), (3, .int a3), (4, .int a4), (6, .int a6)] [] z := by
    intro c12 hc12 a2 a3 a4 a6 z h
    unfold fX3_drawTrue_B64 at h
    refine zk_iload_n X 2 dX3_drawTrue_64 rfl rfl ?_
    refine zk_iload X 4 dX3_drawTrue_65 rfl ?_
    refine zk_isub X dX3_drawTrue_67 ?_
    refine zk_istore_n X (lv' := [(3, .int (a3 - a6)), (1, .ref (E.2.1 4 k1)), (2, .int a2), (4, .int a4), (6, .int a6)]) dX3_drawTrue_68 rfl (by decide) rfl ?_
    refine zk_iinc X (lv' := [(4, .int (a4 + 1)), (3, .int (a3 - a6)), (1, .ref (E.2.1 4 k1)), (2, .int a2), (6, .int a6)]) 3 dX3_drawTrue_69 rfl rfl (by decide) rfl ?_
    refine zk_goto X (tgt := 12) dX3_drawTrue_72 (by decide) ?_
    exact zk_sub [2, 3, 1, 0] rfl (hc12 _ _ _ _ h)
  have L12 : ∀ (n : Nat) (a2 : Int32) (a3 : Int32) (a4 : Int32) (z : zk_Z), fX3_drawTrue_L12 k1 n a2 a3 a4 z = some (r, z') → zk_G p l e (headSpec wsX3_drawTrue { frames := 3, cells := 0, slots := 0, locals := 64 }).room s m args below meth c E 7 0 0 (MQ below (zk_Qi E r z') args s 0 0 (zk_A E)) 12 [(1, .ref (E.2.1 4 k1)), (2, .int a2), (3, .int a3), (4, .int a4)] [] z := by
    intro n
    induction n with
    | zero => intro a2 a3 a4 z h; exact absurd h (by simp [fX3_drawTrue_L12])
    | succ n ih =>
      intro a2 a3 a4 z h
      rw [fX3_drawTrue_L12] at h
      refine zk_iload X 3 dX3_drawTrue_12 rfl ?_
      refine zk_aload_n X 0 dX3_drawTrue_14 rfl rfl ?_
      refine zk_get X iX4 (g := 4) (hk1) rfl rfl 3 (by decide) w0 rfl dX3_drawTrue_15 ?_
      refine zk_icmp_gt X (tgt := 75) dX3_drawTrue_18 (by decide) h (fun h => ?_) (fun h => ?_)
      · refine zk_iconst X (v := 0) dX3_drawTrue_75 (by decide) ?_
        exact zk_ireturn X hr dX3_drawTrue_76 h
      · refine zk_aload_n X 0 dX3_drawTrue_21 rfl rfl ?_
        refine zk_get X iX4 (g := 4) (hk1) rfl rfl 4 (by decide) w1 rfl dX3_drawTrue_22 ?_
        refine zk_iload X 3 dX3_drawTrue_25 rfl ?_
        refine zk_iald X (g := 5) (hk1) rfl dX3_drawTrue_27 h (fun h => ?_)
        refine zk_istore X (lv' := [(5, .int (z.1 5 k1 a4.toNatClampNeg)), (1, .ref (E.2.1 4 k1)), (2, .int a2), (3, .int a3), (4, .int a4)]) dX3_drawTrue_28 (by decide) rfl ?_
        refine zk_aload_n X 1 dX3_drawTrue_30 rfl rfl ?_
        refine zk_iload X 4 dX3_drawTrue_31 rfl ?_
        refine zk_vi X h (fun rr zz hf => ct_X4_share l E hi k1 (hk1) a4 _ rr zz hf) (cwV 1 X.1.2.2.2.2 gX3_drawTrue_X4_share rfl rfl rfl (by decide +kernel) ⟨Nat.le_of_ble_eq_true rfl, Nat.le_of_ble_eq_true rfl⟩) (zk_recv X (g := 4) (hk1) rfl rfl) rfl rfl (Nat.le_of_ble_eq_true rfl) dX3_drawTrue_33 (fun r6 z5 h => ?_)
        refine zk_istore X (lv' := [(6, .int r6), (5, .int (z.1 5 k1 a4.toNatClampNeg)), (1, .ref (E.2.1 4 k1)), (2, .int a2), (3, .int a3), (4, .int a4)]) dX3_drawTrue_36 (by decide) rfl ?_
        refine zk_iload X 1 dX3_drawTrue_38 rfl ?_
        refine zk_if_le X (tgt := 64) dX3_drawTrue_40 (by decide) h (fun h => ?_) (fun h => ?_)
        · exact zk_sub [2, 3, 4, 5, 0] rfl (B64 _ ih _ _ _ _ _ h)
        · refine zk_iload_n X 4 dX3_drawTrue_43 rfl rfl ?_
          refine zk_iload X 0 dX3_drawTrue_44 rfl ?_
          refine zk_icmp_ge X (tgt := 64) dX3_drawTrue_46 (by decide) h (fun h => ?_) (fun h => ?_)
          · exact zk_sub [2, 3, 4, 5, 0] rfl (B64 _ ih _ _ _ _ _ h)
          · refine zk_iload_n X 3 dX3_drawTrue_49 rfl rfl ?_
            refine zk_iload X 5 dX3_drawTrue_50 rfl ?_
            refine zk_aload_n X 2 dX3_drawTrue_52 rfl rfl ?_
            refine zk_get X iX4 (g := 4) (hk1) rfl rfl 3 (by decide) w0 rfl dX3_drawTrue_53 ?_
            refine zk_iload_n X 4 dX3_drawTrue_56 rfl rfl ?_
            refine zk_iload X 1 dX3_drawTrue_57 rfl ?_
            refine zk_idiv X dX3_drawTrue_59 h (fun h => ?_)
            refine zk_si X h (fun rr zz hf => ct_X3_trueByWay l E hi a2 a4 (z5.1 4 k1 3) (a3 / (z.1 5 k1 a4.toNatClampNeg)) _ rr zz hf) (va_cwS 4 X.1.2.2.2.2 gX3_drawTrue_X3_trueByWay rfl rfl rfl (by decide +kernel) ⟨Nat.le_of_ble_eq_true rfl, Nat.le_of_ble_eq_true rfl⟩) rfl rfl (Nat.le_of_ble_eq_true rfl) dX3_drawTrue_60 (fun r8 z7 h => ?_)
            exact zk_ireturn X hr dX3_drawTrue_63 h
  unfold fX3_drawTrue at h
  refine zk_aload_n X 0 dX3_drawTrue_0 rfl rfl ?_
  refine zk_aload_n X 1 dX3_drawTrue_1 rfl rfl ?_
  refine zk_vi X h (fun rr zz hf => ct_X4_allWays l E hi k1 (hk1)  _ rr zz hf) (cwV 0 X.1.2.2.2.2 gX3_drawTrue_X4_allWays rfl rfl rfl (by decide +kernel) ⟨Nat.le_of_ble_eq_true rfl, Nat.le_of_ble_eq_true rfl⟩) (zk_recv X (g := 4) (hk1) rfl rfl) rfl rfl (Nat.le_of_ble_eq_true rfl) dX3_drawTrue_2 (fun r2 z1 h => ?_)
  refine zk_vi X h (fun rr zz hf => ct_X3_draw l E hi  r2 _ rr zz hf) (cwV 1 X.1.2.2.2.2 gX3_drawTrue_X3_draw rfl rfl rfl (by decide +kernel) ⟨Nat.le_of_ble_eq_true rfl, Nat.le_of_ble_eq_true rfl⟩) (zk_recv X (g := 15) (Nat.zero_lt_one) rfl rfl) rfl rfl (Nat.le_of_ble_eq_true rfl) dX3_drawTrue_5 (fun r4 z3 h => ?_)
  refine zk_istore_n X (lv' := [(3, .int r4), (0, .ref (E.2.1 15 0)), (1, .ref (E.2.1 4 k1)), (2, .int x2)]) dX3_drawTrue_8 rfl (by decide) rfl ?_
  refine zk_iconst X (v := 0) dX3_drawTrue_9 (by decide) ?_
  refine zk_istore X (lv' := [(4, .int 0), (3, .int r4), (0, .ref (E.2.1 15 0)), (1, .ref (E.2.1 4 k1)), (2, .int x2)]) dX3_drawTrue_10 (by decide) rfl ?_
  exact zk_sub [3, 4, 1, 0] rfl (L12  _ _ _ _ _ h)
def fX7_addClause (k : Nat) (x1 : Int32) (x2 : Int32) (z : zk_Z) : Option (Unit × zk_Z) := if 24 ≤ (z.1 7 k 2) then some ((), z) else zk_gd (zk_ix (z.1 7 k 2) 24) (zk_gd (zk_ix ((zk_sI z 8 k (z.1 7 k 2).toNatClampNeg x1).1 7 k 2) 24) (some ((), zk_sI (zk_sI (zk_sI z 8 k (z.1 7 k 2).toNatClampNeg x1) 9 k ((zk_sI z 8 k (z.1 7 k 2).toNatClampNeg x1).1 7 k 2).toNatClampNeg x2) 7 k 2 (((zk_sI (zk_sI z 8 k (z.1 7 k 2).toNatClampNeg x1) 9 k ((zk_sI z 8 k (z.1 7 k 2).toNatClampNeg x1).1 7 k 2).toNatClampNeg x2).1 7 k 2) + 1))))
set_option maxRecDepth 100000 in
set_option maxHeartbeats 8000000 in
theorem ct_X7_addClause (l : Launch) (E : zk_E) (hi : zk_inj E) (k : Nat) (hk : k < zk_cnt 7) (x1 : Int32) (x2 : Int32) (z : zk_Z) (r : Unit) (z' : zk_Z) (h : fX7_addClause k x1 x2 z = some (r, z')) : Met l yX7_addClause wsX7_addClause { frames := 0, cells := 0, slots := 0, locals := 0 } (va_Pc [.ref (E.2.1 7 k), .int x1, .int x2] (zk_W E z)) (zk_Qv E z') 0 0 (zk_A E) := by
  refine zk_met (cc := cX7_addClause) (maxL := 3) (ret := none) (own := RX7) (by decide) rfl rfl hi (Nat.le_of_ble_eq_true rfl) ?_
  intro p e s m args below meth c X hr
  have iX7 : ∀ w ∈ u_ws RX7 TX7 8, w ∈ wsX7_addClause := by decide +kernel
  have w0 : Cond.fieldLink RX7 25 "HiddenWorks$Task" "clauses" "I" ∈ wsX7_addClause := by decide +kernel
  have w1 : Cond.fieldLink RX7 9 "HiddenWorks$Task" "plain" "[I" ∈ wsX7_addClause := by decide +kernel
  have w2 : Cond.fieldLink RX7 15 "HiddenWorks$Task" "against" "[I" ∈ wsX7_addClause := by decide +kernel
  unfold fX7_addClause at h
  refine zk_aload_n X 0 dX7_addClause_0 rfl rfl ?_
  refine zk_get X iX7 (g := 7) (hk) rfl rfl 2 (by decide) w0 rfl dX7_addClause_1 ?_
  refine zk_bipush X (v := 24) dX7_addClause_4 (by decide) ?_
  refine zk_icmp_ge X (tgt := 39) dX7_addClause_6 (by decide) h (fun h => ?_) (fun h => ?_)
  · exact zk_vreturn X hr dX7_addClause_39 h
  · refine zk_aload_n X 0 dX7_addClause_9 rfl rfl ?_
    refine zk_get X iX7 (g := 7) (hk) rfl rfl 6 (by decide) w1 rfl dX7_addClause_10 ?_
    refine zk_aload_n X 0 dX7_addClause_13 rfl rfl ?_
    refine zk_get X iX7 (g := 7) (hk) rfl rfl 2 (by decide) w0 rfl dX7_addClause_14 ?_
    refine zk_iload_n X 1 dX7_addClause_17 rfl rfl ?_
    refine zk_iast X (g := 8) (hk) rfl rfl dX7_addClause_18 h (fun h => ?_)
    refine zk_aload_n X 0 dX7_addClause_19 rfl rfl ?_
    refine zk_get X iX7 (g := 7) (hk) rfl rfl 7 (by decide) w2 rfl dX7_addClause_20 ?_
    refine zk_aload_n X 0 dX7_addClause_23 rfl rfl ?_
    refine zk_get X iX7 (g := 7) (hk) rfl rfl 2 (by decide) w0 rfl dX7_addClause_24 ?_
    refine zk_iload_n X 2 dX7_addClause_27 rfl rfl ?_
    refine zk_iast X (g := 9) (hk) rfl rfl dX7_addClause_28 h (fun h => ?_)
    refine zk_aload_n X 0 dX7_addClause_29 rfl rfl ?_
    refine zk_dup X dX7_addClause_30 rfl ?_
    refine zk_get X iX7 (g := 7) (hk) rfl rfl 2 (by decide) w0 rfl dX7_addClause_31 ?_
    refine zk_iconst X (v := 1) dX7_addClause_34 (by decide) ?_
    refine zk_iadd X dX7_addClause_35 ?_
    refine zk_putI X (ty := .int) iX7 tyX7 tyX7_ok nmX7 (g := 7) (hk) rfl rfl 2 (by decide) w0 rfl (by decide +kernel) rfl rfl (Nat.le_of_ble_eq_true rfl) rfl dX7_addClause_36 ?_
    exact zk_vreturn X hr dX7_addClause_39 h
def fX7_begin (k : Nat) (x1 : Int32) (x2 : Int32) (z : zk_Z) : Option (Unit × zk_Z) := some ((), zk_sI (zk_sI (zk_sI (zk_sI (zk_sI (zk_sI z 7 k 0 x1) 7 k 1 x2) 7 k 2 0) 7 k 3 (-1)) 7 k 4 (-1)) 7 k 5 (-1))
set_option maxRecDepth 100000 in
set_option maxHeartbeats 8000000 in
theorem ct_X7_begin (l : Launch) (E : zk_E) (hi : zk_inj E) (k : Nat) (hk : k < zk_cnt 7) (x1 : Int32) (x2 : Int32) (z : zk_Z) (r : Unit) (z' : zk_Z) (h : fX7_begin k x1 x2 z = some (r, z')) : Met l yX7_begin wsX7_begin { frames := 0, cells := 0, slots := 0, locals := 0 } (va_Pc [.ref (E.2.1 7 k), .int x1, .int x2] (zk_W E z)) (zk_Qv E z') 0 0 (zk_A E) := by
  refine zk_met (cc := cX7_begin) (maxL := 3) (ret := none) (own := RX7) (by decide) rfl rfl hi (Nat.le_of_ble_eq_true rfl) ?_
  intro p e s m args below meth c X hr
  have iX7 : ∀ w ∈ u_ws RX7 TX7 8, w ∈ wsX7_begin := by decide +kernel
  have w0 : Cond.fieldLink RX7 18 "HiddenWorks$Task" "kind" "I" ∈ wsX7_begin := by decide +kernel
  have w1 : Cond.fieldLink RX7 22 "HiddenWorks$Task" "letters" "I" ∈ wsX7_begin := by decide +kernel
  have w2 : Cond.fieldLink RX7 25 "HiddenWorks$Task" "clauses" "I" ∈ wsX7_begin := by decide +kernel
  have w3 : Cond.fieldLink RX7 28 "HiddenWorks$Task" "hidden" "I" ∈ wsX7_begin := by decide +kernel
  have w4 : Cond.fieldLink RX7 31 "HiddenWorks$Task" "recipe" "I" ∈ wsX7_begin := by decide +kernel
  have w5 : Cond.fieldLink RX7 34 "HiddenWorks$Task" "seed" "I" ∈ wsX7_begin := by decide +kernel
  unfold fX7_begin at h
  refine zk_aload_n X 0 dX7_begin_0 rfl rfl ?_
  refine zk_iload_n X 1 dX7_begin_1 rfl rfl ?_
  refine zk_putI X (ty := .int) iX7 tyX7 tyX7_ok nmX7 (g := 7) (hk) rfl rfl 0 (by decide) w0 rfl (by decide +kernel) rfl rfl (Nat.le_of_ble_eq_true rfl) rfl dX7_begin_2 ?_
  refine zk_aload_n X 0 dX7_begin_5 rfl rfl ?_
  refine zk_iload_n X 2 dX7_begin_6 rfl rfl ?_
  refine zk_putI X (ty := .int) iX7 tyX7 tyX7_ok nmX7 (g := 7) (hk) rfl rfl 1 (by decide) w1 rfl (by decide +kernel) rfl rfl (Nat.le_of_ble_eq_true rfl) rfl dX7_begin_7 ?_
  refine zk_aload_n X 0 dX7_begin_10 rfl rfl ?_
  refine zk_iconst X (v := 0) dX7_begin_11 (by decide) ?_
  refine zk_putI X (ty := .int) iX7 tyX7 tyX7_ok nmX7 (g := 7) (hk) rfl rfl 2 (by decide) w2 rfl (by decide +kernel) rfl rfl (Nat.le_of_ble_eq_true rfl) rfl dX7_begin_12 ?_
  refine zk_aload_n X 0 dX7_begin_15 rfl rfl ?_
  refine zk_iconst X (v := -1) dX7_begin_16 (by decide) ?_
  refine zk_putI X (ty := .int) iX7 tyX7 tyX7_ok nmX7 (g := 7) (hk) rfl rfl 3 (by decide) w3 rfl (by decide +kernel) rfl rfl (Nat.le_of_ble_eq_true rfl) rfl dX7_begin_17 ?_
  refine zk_aload_n X 0 dX7_begin_20 rfl rfl ?_
  refine zk_iconst X (v := -1) dX7_begin_21 (by decide) ?_
  refine zk_putI X (ty := .int) iX7 tyX7 tyX7_ok nmX7 (g := 7) (hk) rfl rfl 4 (by decide) w4 rfl (by decide +kernel) rfl rfl (Nat.le_of_ble_eq_true rfl) rfl dX7_begin_22 ?_
  refine zk_aload_n X 0 dX7_begin_25 rfl rfl ?_
  refine zk_iconst X (v := -1) dX7_begin_26 (by decide) ?_
  refine zk_putI X (ty := .int) iX7 tyX7 tyX7_ok nmX7 (g := 7) (hk) rfl rfl 5 (by decide) w5 rfl (by decide +kernel) rfl rfl (Nat.le_of_ble_eq_true rfl) rfl dX7_begin_27 ?_
  exact zk_vreturn X hr dX7_begin_30 h
def fX3_fill_L63 (k1 : Nat) (k2 : Nat) : Nat → Int32 → Int32 → zk_Z → Option (Unit × zk_Z)
  | 0, _, _, _ => none
  | n + 1, a4, a5, z => if (z.1 4 k2 2) ≤ a5 then some ((), z) else zk_bd (fX3_drawLetters (z.1 4 k2 1) (z.1 4 k2 3) z) (fun r4 z3 => zk_bd (fX3_drawTrue k2 r4 z3) (fun r6 z5 => zk_bd (fX7_addClause k1 (r4 &&& ((r4 &&& (r6 ^^^ a4)) ^^^ (-1))) (r4 &&& (r6 ^^^ a4)) z5) (fun _ z7 => (fX3_fill_L63 k1 k2 n) a4 (a5 + 1) z7)))
def fX3_fill_L26 (k1 : Nat) (k2 : Nat) : Nat → Int32 → Int32 → zk_Z → Option (Unit × zk_Z)
  | 0, _, _, _ => none
  | n + 1, a4, a5, z => if (z.1 4 k2 1) ≤ a5 then fX3_fill_L63 k1 k2 zk_FU a4 0 (zk_sI z 7 k1 3 a4) else zk_bd (fX3_draw 2 z) (fun r10 z9 => (fX3_fill_L26 k1 k2 n) (a4 ||| (r10 <<< (a5 &&& 31))) (a5 + 1) z9)
def fX3_fill (k1 : Nat) (k2 : Nat) (x3 : Int32) (z : zk_Z) : Option (Unit × zk_Z) := zk_bd (fX7_begin k1 ((zk_sL z 0 (x3.toInt64 + 1)).1 4 k2 0) ((zk_sL z 0 (x3.toInt64 + 1)).1 4 k2 1) (zk_sL z 0 (x3.toInt64 + 1))) (fun _ z1 => fX3_fill_L26 k1 k2 zk_FU 0 0 z1)
set_option maxRecDepth 100000 in
set_option maxHeartbeats 8000000 in
theorem ct_X3_fill (l : Launch) (E : zk_E) (hi : zk_inj E) (k1 : Nat) (hk1 : k1 < zk_cnt 7) (k2 : Nat) (hk2 : k2 < zk_cnt 4) (x3 : Int32) (z : zk_Z) (r : Unit) (z' : zk_Z) (h : fX3_fill k1 k2 x3 z = some (r, z')) : Met l yX3_fill wsX3_fill { frames := 4, cells := 0, slots := 0, locals := 90 } (va_Pc [.ref (E.2.1 15 0), .ref (E.2.1 7 k1), .ref (E.2.1 4 k2), .int x3] (zk_W E z)) (zk_Qv E z') 0 0 (zk_A E) := by
  refine zk_met (cc := cX3_fill) (maxL := 8) (ret := none) (own := RX3) (by decide) rfl rfl hi (Nat.le_of_ble_eq_true rfl) ?_
  intro p e s m args below meth c X hr
  have iX3 : ∀ w ∈ u_ws RX3 TX3 1, w ∈ wsX3_fill := by decide +kernel
  have iX4 : ∀ w ∈ u_ws RX4 TX4 5, w ∈ wsX3_fill := by decide +kernel
  have iX7 : ∀ w ∈ u_ws RX7 TX7 8, w ∈ wsX3_fill := by decide +kernel
  have w0 : Cond.fieldLink RX3 9 "HiddenWorks$Maker" "lot" "J" ∈ wsX3_fill := by decide +kernel
  have w1 : Cond.fieldLink RX3 15 "HiddenWorks$Recipe" "kind" "I" ∈ wsX3_fill := by decide +kernel
  have w2 : Cond.fieldLink RX3 21 "HiddenWorks$Recipe" "letters" "I" ∈ wsX3_fill := by decide +kernel
  have w3 : Cond.fieldLink RX3 34 "HiddenWorks$Task" "hidden" "I" ∈ wsX3_fill := by decide +kernel
  have w4 : Cond.fieldLink RX3 37 "HiddenWorks$Recipe" "clauses" "I" ∈ wsX3_fill := by decide +kernel
  have w5 : Cond.fieldLink RX3 40 "HiddenWorks$Recipe" "wide" "I" ∈ wsX3_fill := by decide +kernel
  have L63 : ∀ (n : Nat) (a4 : Int32) (a5 : Int32) (z : zk_Z), fX3_fill_L63 k1 k2 n a4 a5 z = some (r, z') → zk_G p l e (headSpec wsX3_fill { frames := 4, cells := 0, slots := 0, locals := 90 }).room s m args below meth c E 8 0 0 (MQ below (zk_Qv E z') args s 0 0 (zk_A E)) 63 [(0, .ref (E.2.1 15 0)), (1, .ref (E.2.1 7 k1)), (2, .ref (E.2.1 4 k2)), (4, .int a4), (5, .int a5)] [] z := by
    intro n
    induction n with
    | zero => intro a4 a5 z h; exact absurd h (by simp [fX3_fill_L63])
    | succ n ih =>
      intro a4 a5 z h
      rw [fX3_fill_L63] at h
      refine zk_iload X 4 dX3_fill_63 rfl ?_
      refine zk_aload_n X 2 dX3_fill_65 rfl rfl ?_
      refine zk_get X iX4 (g := 4) (hk2) rfl rfl 2 (by decide) w4 rfl dX3_fill_66 ?_
      refine zk_icmp_ge X (tgt := 120) dX3_fill_69 (by decide) h (fun h => ?_) (fun h => ?_)
      · exact zk_vreturn X hr dX3_fill_120 h
      · refine zk_aload_n X 0 dX3_fill_72 rfl rfl ?_
        refine zk_aload_n X 2 dX3_fill_73 rfl rfl ?_
        refine zk_get X iX4 (g := 4) (hk2) rfl rfl 1 (by decide) w2 rfl dX3_fill_74 ?_
        refine zk_aload_n X 2 dX3_fill_77 rfl rfl ?_
        refine zk_get X iX4 (g := 4) (hk2) rfl rfl 3 (by decide) w5 rfl dX3_fill_78 ?_
        refine zk_vi X h (fun rr zz hf => ct_X3_drawLetters l E hi (z.1 4 k2 1) (z.1 4 k2 3) _ rr zz hf) (cwV 2 X.1.2.2.2.2 gX3_fill_X3_drawLetters rfl rfl rfl (by decide +kernel) ⟨Nat.le_of_ble_eq_true rfl, Nat.le_of_ble_eq_true rfl⟩) (zk_recv X (g := 15) (Nat.zero_lt_one) rfl rfl) rfl rfl (Nat.le_of_ble_eq_true rfl) dX3_fill_81 (fun r4 z3 h => ?_)
        refine zk_istore X (lv' := [(6, .int r4), (0, .ref (E.2.1 15 0)), (1, .ref (E.2.1 7 k1)), (2, .ref (E.2.1 4 k2)), (4, .int a4), (5, .int a5)]) dX3_fill_84 (by decide) rfl ?_
        refine zk_iload X 0 dX3_fill_86 rfl ?_
        refine zk_aload_n X 1 dX3_fill_88 rfl rfl ?_
        refine zk_aload_n X 3 dX3_fill_89 rfl rfl ?_
        refine zk_iload X 0 dX3_fill_90 rfl ?_
        refine zk_vi X h (fun rr zz hf => ct_X3_drawTrue l E hi k2 (hk2) r4 _ rr zz hf) (cwV 2 X.1.2.2.2.2 gX3_fill_X3_drawTrue rfl rfl rfl (by decide +kernel) ⟨Nat.le_of_ble_eq_true rfl, Nat.le_of_ble_eq_true rfl⟩) (zk_recv X (g := 15) (Nat.zero_lt_one) rfl rfl) rfl rfl (Nat.le_of_ble_eq_true rfl) dX3_fill_92 (fun r6 z5 h => ?_)
        refine zk_iload X 4 dX3_fill_95 rfl ?_
        refine zk_ixor X dX3_fill_97 ?_
        refine zk_iand X dX3_fill_98 ?_
        refine zk_istore X (lv' := [(7, .int (r4 &&& (r6 ^^^ a4))), (6, .int r4), (0, .ref (E.2.1 15 0)), (1, .ref (E.2.1 7 k1)), (2, .ref (E.2.1 4 k2)), (4, .int a4), (5, .int a5)]) dX3_fill_99 (by decide) rfl ?_
        refine zk_aload_n X 3 dX3_fill_101 rfl rfl ?_
        refine zk_iload X 1 dX3_fill_102 rfl ?_
        refine zk_iload X 0 dX3_fill_104 rfl ?_
        refine zk_iconst X (v := -1) dX3_fill_106 (by decide) ?_
        refine zk_ixor X dX3_fill_107 ?_
        refine zk_iand X dX3_fill_108 ?_
        refine zk_iload X 0 dX3_fill_109 rfl ?_
        refine zk_vv X h (fun rr zz hf => ct_X7_addClause l E hi k1 (hk1) (r4 &&& ((r4 &&& (r6 ^^^ a4)) ^^^ (-1))) (r4 &&& (r6 ^^^ a4)) _ rr zz hf) (cwV 2 X.1.2.2.2.2 gX3_fill_X7_addClause rfl rfl rfl (by decide +kernel) ⟨Nat.le_of_ble_eq_true rfl, Nat.le_of_ble_eq_true rfl⟩) (zk_recv X (g := 7) (hk1) rfl rfl) rfl rfl (Nat.le_of_ble_eq_true rfl) dX3_fill_111 (fun z7 h => ?_)
        refine zk_iinc X (lv' := [(5, .int (a5 + 1)), (7, .int (r4 &&& (r6 ^^^ a4))), (6, .int r4), (0, .ref (E.2.1 15 0)), (1, .ref (E.2.1 7 k1)), (2, .ref (E.2.1 4 k2)), (4, .int a4)]) 6 dX3_fill_114 rfl rfl (by decide) rfl ?_
        refine zk_goto X (tgt := 63) dX3_fill_117 (by decide) ?_
        exact zk_sub [3, 4, 5, 6, 0] rfl (ih _ _ _ h)
  have L26 : ∀ (n : Nat) (a4 : Int32) (a5 : Int32) (z : zk_Z), fX3_fill_L26 k1 k2 n a4 a5 z = some (r, z') → zk_G p l e (headSpec wsX3_fill { frames := 4, cells := 0, slots := 0, locals := 90 }).room s m args below meth c E 8 0 0 (MQ below (zk_Qv E z') args s 0 0 (zk_A E)) 26 [(0, .ref (E.2.1 15 0)), (1, .ref (E.2.1 7 k1)), (2, .ref (E.2.1 4 k2)), (4, .int a4), (5, .int a5)] [] z := by
    intro n
    induction n with
    | zero => intro a4 a5 z h; exact absurd h (by simp [fX3_fill_L26])
    | succ n ih =>
      intro a4 a5 z h
      rw [fX3_fill_L26] at h
      refine zk_iload X 4 dX3_fill_26 rfl ?_
      refine zk_aload_n X 2 dX3_fill_28 rfl rfl ?_
      refine zk_get X iX4 (g := 4) (hk2) rfl rfl 1 (by decide) w2 rfl dX3_fill_29 ?_
      refine zk_icmp_ge X (tgt := 54) dX3_fill_32 (by decide) h (fun h => ?_) (fun h => ?_)
      · refine zk_aload_n X 1 dX3_fill_54 rfl rfl ?_
        refine zk_iload X 3 dX3_fill_55 rfl ?_
        refine zk_putI X (ty := .int) iX7 tyX7 tyX7_ok nmX7 (g := 7) (hk1) rfl rfl 3 (by decide) w3 rfl (by decide +kernel) rfl rfl (Nat.le_of_ble_eq_true rfl) rfl dX3_fill_57 ?_
        refine zk_iconst X (v := 0) dX3_fill_60 (by decide) ?_
        refine zk_istore X (lv' := [(5, .int 0), (0, .ref (E.2.1 15 0)), (1, .ref (E.2.1 7 k1)), (2, .ref (E.2.1 4 k2)), (4, .int a4)]) dX3_fill_61 (by decide) rfl ?_
        exact zk_sub [1, 2, 3, 4, 0] rfl (L63 _ _ _ _ h)
      · refine zk_iload X 3 dX3_fill_35 rfl ?_
        refine zk_aload_n X 0 dX3_fill_37 rfl rfl ?_
        refine zk_iconst X (v := 2) dX3_fill_38 (by decide) ?_
        refine zk_vi X h (fun rr zz hf => ct_X3_draw l E hi 2 _ rr zz hf) (cwV 1 X.1.2.2.2.2 gX3_fill_X3_draw rfl rfl rfl (by decide +kernel) ⟨Nat.le_of_ble_eq_true rfl, Nat.le_of_ble_eq_true rfl⟩) (zk_recv X (g := 15) (Nat.zero_lt_one) rfl rfl) rfl rfl (Nat.le_of_ble_eq_true rfl) dX3_fill_39 (fun r10 z9 h => ?_)
        refine zk_iload X 4 dX3_fill_42 rfl ?_
        refine zk_ishl X dX3_fill_44 ?_
        refine zk_ior X dX3_fill_45 ?_
        refine zk_istore X (lv' := [(4, .int (a4 ||| (r10 <<< (a5 &&& 31)))), (0, .ref (E.2.1 15 0)), (1, .ref (E.2.1 7 k1)), (2, .ref (E.2.1 4 k2)), (5, .int a5)]) dX3_fill_46 (by decide) rfl ?_
        refine zk_iinc X (lv' := [(5, .int (a5 + 1)), (4, .int (a4 ||| (r10 <<< (a5 &&& 31)))), (0, .ref (E.2.1 15 0)), (1, .ref (E.2.1 7 k1)), (2, .ref (E.2.1 4 k2))]) 4 dX3_fill_48 rfl rfl (by decide) rfl ?_
        refine zk_goto X (tgt := 26) dX3_fill_51 (by decide) ?_
        exact zk_sub [2, 3, 4, 1, 0] rfl (ih _ _ _ h)
  unfold fX3_fill at h
  refine zk_aload_n X 0 dX3_fill_0 rfl rfl ?_
  refine zk_iload_n X 3 dX3_fill_1 rfl rfl ?_
  refine zk_i2l X dX3_fill_2 ?_
  refine zk_lconst X (v := 1) dX3_fill_3 (by decide) ?_
  refine zk_ladd X dX3_fill_4 ?_
  refine zk_putL X iX3 tyX3 tyX3_ok nmX3 (g := 15) (Nat.zero_lt_one) rfl rfl 0 0 (by decide) w0 rfl (by decide +kernel) (Nat.le_of_ble_eq_true rfl) rfl (Or.inl ⟨rfl, rfl⟩) dX3_fill_5 ?_
  refine zk_aload_n X 1 dX3_fill_8 rfl rfl ?_
  refine zk_aload_n X 2 dX3_fill_9 rfl rfl ?_
  refine zk_get X iX4 (g := 4) (hk2) rfl rfl 0 (by decide) w1 rfl dX3_fill_10 ?_
  refine zk_aload_n X 2 dX3_fill_13 rfl rfl ?_
  refine zk_get X iX4 (g := 4) (hk2) rfl rfl 1 (by decide) w2 rfl dX3_fill_14 ?_
  refine zk_vv X h (fun rr zz hf => ct_X7_begin l E hi k1 (hk1) ((zk_sL z 0 (x3.toInt64 + 1)).1 4 k2 0) ((zk_sL z 0 (x3.toInt64 + 1)).1 4 k2 1) _ rr zz hf) (cwV 2 X.1.2.2.2.2 gX3_fill_X7_begin rfl rfl rfl (by decide +kernel) ⟨Nat.le_of_ble_eq_true rfl, Nat.le_of_ble_eq_true rfl⟩) (zk_recv X (g := 7) (hk1) rfl rfl) rfl rfl (Nat.le_of_ble_eq_true rfl) dX3_fill_17 (fun z1 h => ?_)
  refine zk_iconst X (v := 0) dX3_fill_20 (by decide) ?_
  refine zk_istore X (lv' := [(4, .int 0), (0, .ref (E.2.1 15 0)), (1, .ref (E.2.1 7 k1)), (2, .ref (E.2.1 4 k2)), (3, .int x3)]) dX3_fill_21 (by decide) rfl ?_
  refine zk_iconst X (v := 0) dX3_fill_23 (by decide) ?_
  refine zk_istore X (lv' := [(5, .int 0), (4, .int 0), (0, .ref (E.2.1 15 0)), (1, .ref (E.2.1 7 k1)), (2, .ref (E.2.1 4 k2)), (3, .int x3)]) dX3_fill_24 (by decide) rfl ?_
  exact zk_sub [2, 3, 4, 1, 0] rfl (L26  _ _ _ _ h)
def fX4_leaning_L4 (k : Nat) : Nat → Int32 → Int32 → zk_Z → Option (Int32 × zk_Z)
  | 0, _, _, _ => none
  | n + 1, a1, a2, z => if (z.1 4 k 3) < a2 then some (a1, z) else zk_bd (fX4_share k a2 z) (fun r2 z1 => (fX4_leaning_L4 k n) (a1 + (r2 * ((2 * a2) - (z1.1 4 k 3)))) (a2 + 1) z1)
def fX4_leaning (k : Nat) (z : zk_Z) : Option (Int32 × zk_Z) := fX4_leaning_L4 k zk_FU 0 0 z
set_option maxRecDepth 100000 in
set_option maxHeartbeats 8000000 in
theorem ct_X4_leaning (l : Launch) (E : zk_E) (hi : zk_inj E) (k : Nat) (hk : k < zk_cnt 4) (z : zk_Z) (r : Int32) (z' : zk_Z) (h : fX4_leaning k  z = some (r, z')) : Met l yX4_leaning wsX4_leaning { frames := 2, cells := 0, slots := 0, locals := 42 } (va_Pc [.ref (E.2.1 4 k)] (zk_W E z)) (zk_Qi E r z') 0 0 (zk_A E) := by
  refine zk_met (cc := cX4_leaning) (maxL := 3) (ret := (some .int)) (own := RX4) (by decide) rfl rfl hi (Nat.le_of_ble_eq_true rfl) ?_
  intro p e s m args below meth c X hr
  have iX4 : ∀ w ∈ u_ws RX4 TX4 5, w ∈ wsX4_leaning := by decide +kernel
  have w0 : Cond.fieldLink RX4 15 "HiddenWorks$Recipe" "wide" "I" ∈ wsX4_leaning := by decide +kernel
  have L4 : ∀ (n : Nat) (a1 : Int32) (a2 : Int32) (z : zk_Z), fX4_leaning_L4 k n a1 a2 z = some (r, z') → zk_G p l e (headSpec wsX4_leaning { frames := 2, cells := 0, slots := 0, locals := 42 }).room s m args below meth c E 3 0 0 (MQ below (zk_Qi E r z') args s 0 0 (zk_A E)) 4 [(0, .ref (E.2.1 4 k)), (1, .int a1), (2, .int a2)] [] z := by
    intro n
    induction n with
    | zero => intro a1 a2 z h; exact absurd h (by simp [fX4_leaning_L4])
    | succ n ih =>
      intro a1 a2 z h
      rw [fX4_leaning_L4] at h
      refine zk_iload_n X 2 dX4_leaning_4 rfl rfl ?_
      refine zk_aload_n X 0 dX4_leaning_5 rfl rfl ?_
      refine zk_get X iX4 (g := 4) (hk) rfl rfl 3 (by decide) w0 rfl dX4_leaning_6 ?_
      refine zk_icmp_gt X (tgt := 35) dX4_leaning_9 (by decide) h (fun h => ?_) (fun h => ?_)
      · refine zk_iload_n X 1 dX4_leaning_35 rfl rfl ?_
        exact zk_ireturn X hr dX4_leaning_36 h
      · refine zk_iload_n X 1 dX4_leaning_12 rfl rfl ?_
        refine zk_aload_n X 0 dX4_leaning_13 rfl rfl ?_
        refine zk_iload_n X 2 dX4_leaning_14 rfl rfl ?_
        refine zk_vi X h (fun rr zz hf => ct_X4_share l E hi k (hk) a2 _ rr zz hf) (cwV 1 X.1.2.2.2.2 gX4_leaning_X4_share rfl rfl rfl (by decide +kernel) ⟨Nat.le_of_ble_eq_true rfl, Nat.le_of_ble_eq_true rfl⟩) (zk_recv X (g := 4) (hk) rfl rfl) rfl rfl (Nat.le_of_ble_eq_true rfl) dX4_leaning_15 (fun r2 z1 h => ?_)
        refine zk_iconst X (v := 2) dX4_leaning_18 (by decide) ?_
        refine zk_iload_n X 2 dX4_leaning_19 rfl rfl ?_
        refine zk_imul X dX4_leaning_20 ?_
        refine zk_aload_n X 0 dX4_leaning_21 rfl rfl ?_
        refine zk_get X iX4 (g := 4) (hk) rfl rfl 3 (by decide) w0 rfl dX4_leaning_22 ?_
        refine zk_isub X dX4_leaning_25 ?_
        refine zk_imul X dX4_leaning_26 ?_
        refine zk_iadd X dX4_leaning_27 ?_
        refine zk_istore_n X (lv' := [(1, .int (a1 + (r2 * ((2 * a2) - (z1.1 4 k 3))))), (0, .ref (E.2.1 4 k)), (2, .int a2)]) dX4_leaning_28 rfl (by decide) rfl ?_
        refine zk_iinc X (lv' := [(2, .int (a2 + 1)), (1, .int (a1 + (r2 * ((2 * a2) - (z1.1 4 k 3))))), (0, .ref (E.2.1 4 k))]) 2 dX4_leaning_29 rfl rfl (by decide) rfl ?_
        refine zk_goto X (tgt := 4) dX4_leaning_32 (by decide) ?_
        exact zk_sub [2, 1, 0] rfl (ih _ _ _ h)
  unfold fX4_leaning at h
  refine zk_iconst X (v := 0) dX4_leaning_0 (by decide) ?_
  refine zk_istore_n X (lv' := [(1, .int 0), (0, .ref (E.2.1 4 k))]) dX4_leaning_1 rfl (by decide) rfl ?_
  refine zk_iconst X (v := 0) dX4_leaning_2 (by decide) ?_
  refine zk_istore_n X (lv' := [(2, .int 0), (1, .int 0), (0, .ref (E.2.1 4 k))]) dX4_leaning_3 rfl (by decide) rfl ?_
  exact zk_sub [2, 1, 0] rfl (L4  _ _ _ _ h)
def fX4_balancesWith_B50 (k : Nat) (a1 : Int32) (a3 : Int32) (s0 : Int32) (z : zk_Z) : Option (Int32 × zk_Z) := zk_gd (zk_ix a1 4) (zk_gd (zk_bz s0) (some (s0, zk_sI z 5 k a1.toNatClampNeg a3)))
def fX4_balancesWith_B49 (k : Nat) (a1 : Int32) (a3 : Int32) (z : zk_Z) : Option (Int32 × zk_Z) := fX4_balancesWith_B50 k a1 a3 0 z
def fX4_balancesWith (k : Nat) (x1 : Int32) (x2 : Int32) (z : zk_Z) : Option (Int32 × zk_Z) := zk_bd (fX2_holds (z.1 4 k 0) x1 (z.1 4 k 3) z) (fun r2 z1 => if r2 = 0 then some (0, z1) else zk_gd (zk_ix x1 4) (zk_gd (zk_ix x1 4) (zk_bd (fX4_leaning k (zk_sI z1 5 k x1.toNatClampNeg x2)) (fun r4 z3 => if r4 = 0 then zk_bd (fX4_allWays k z3) (fun r6 z5 => if r6 ≤ 0 then fX4_balancesWith_B49 k x1 (z1.1 5 k x1.toNatClampNeg) z5 else fX4_balancesWith_B50 k x1 (z1.1 5 k x1.toNatClampNeg) 1 z5) else fX4_balancesWith_B49 k x1 (z1.1 5 k x1.toNatClampNeg) z3))))
set_option maxRecDepth 100000 in
set_option maxHeartbeats 8000000 in
theorem ct_X4_balancesWith (l : Launch) (E : zk_E) (hi : zk_inj E) (k : Nat) (hk : k < zk_cnt 4) (x1 : Int32) (x2 : Int32) (z : zk_Z) (r : Int32) (z' : zk_Z) (h : fX4_balancesWith k x1 x2 z = some (r, z')) : Met l yX4_balancesWith wsX4_balancesWith { frames := 3, cells := 0, slots := 0, locals := 64 } (va_Pc [.ref (E.2.1 4 k), .int x1, .int x2] (zk_W E z)) (zk_Qi E r z') 0 0 (zk_A E) := by
  refine zk_met (cc := cX4_balancesWith) (maxL := 5) (ret := (some .boolean)) (own := RX4) (by decide) rfl rfl hi (Nat.le_of_ble_eq_true rfl) ?_
  intro p e s m args below meth c X hr
  have iX4 : ∀ w ∈ u_ws RX4 TX4 5, w ∈ wsX4_balancesWith := by decide +kernel
  have w0 : Cond.fieldLink RX4 30 "HiddenWorks$Recipe" "kind" "I" ∈ wsX4_balancesWith := by decide +kernel
  have w1 : Cond.fieldLink RX4 15 "HiddenWorks$Recipe" "wide" "I" ∈ wsX4_balancesWith := by decide +kernel
  have w2 : Cond.fieldLink RX4 9 "HiddenWorks$Recipe" "weights" "[I" ∈ wsX4_balancesWith := by decide +kernel
  have B50 : ∀ (a1 : Int32) (a3 : Int32) (s0 : Int32) (z : zk_Z), fX4_balancesWith_B50 k a1 a3 s0 z = some (r, z') → zk_G p l e (headSpec wsX4_balancesWith { frames := 3, cells := 0, slots := 0, locals := 64 }).room s m args below meth c E 5 0 0 (MQ below (zk_Qi E r z') args s 0 0 (zk_A E)) 50 [(0, .ref (E.2.1 4 k)), (1, .int a1), (3, .int a3)] [.int s0] z := by
    intro a1 a3 s0 z h
    unfold fX4_balancesWith_B50 at h
    refine zk_istore X (lv' := [(4, .int s0), (0, .ref (E.2.1 4 k)), (1, .int a1), (3, .int a3)]) dX4_balancesWith_50 (by decide) rfl ?_
    refine zk_aload_n X 1 dX4_balancesWith_52 rfl rfl ?_
    refine zk_get X iX4 (g := 4) (hk) rfl rfl 4 (by decide) w2 rfl dX4_balancesWith_53 ?_
    refine zk_iload_n X 2 dX4_balancesWith_56 rfl rfl ?_
    refine zk_iload_n X 3 dX4_balancesWith_57 rfl rfl ?_
    refine zk_iast X (g := 5) (hk) rfl rfl dX4_balancesWith_58 h (fun h => ?_)
    refine zk_iload X 0 dX4_balancesWith_59 rfl ?_
    exact zk_zreturnG X hr dX4_balancesWith_61 h
  have B49 : ∀ (a1 : Int32) (a3 : Int32) (z : zk_Z), fX4_balancesWith_B49 k a1 a3 z = some (r, z') → zk_G p l e (headSpec wsX4_balancesWith { frames := 3, cells := 0, slots := 0, locals := 64 }).room s m args below meth c E 5 0 0 (MQ below (zk_Qi E r z') args s 0 0 (zk_A E)) 49 [(0, .ref (E.2.1 4 k)), (1, .int a1), (3, .int a3)] [] z := by
    intro a1 a3 z h
    unfold fX4_balancesWith_B49 at h
    refine zk_iconst X (v := 0) dX4_balancesWith_49 (by decide) ?_
    exact zk_sub [0, 1, 2] rfl (B50 _ _ _ _ h)
  unfold fX4_balancesWith at h
  refine zk_aload_n X 0 dX4_balancesWith_0 rfl rfl ?_
  refine zk_get X iX4 (g := 4) (hk) rfl rfl 0 (by decide) w0 rfl dX4_balancesWith_1 ?_
  refine zk_iload_n X 1 dX4_balancesWith_4 rfl rfl ?_
  refine zk_aload_n X 0 dX4_balancesWith_5 rfl rfl ?_
  refine zk_get X iX4 (g := 4) (hk) rfl rfl 3 (by decide) w1 rfl dX4_balancesWith_6 ?_
  refine zk_si X h (fun rr zz hf => ct_X2_holds l E hi  (z.1 4 k 0) x1 (z.1 4 k 3) _ rr zz hf) (va_cwS 3 X.1.2.2.2.2 gX4_balancesWith_X2_holds rfl rfl rfl (by decide +kernel) ⟨Nat.le_of_ble_eq_true rfl, Nat.le_of_ble_eq_true rfl⟩) rfl rfl (Nat.le_of_ble_eq_true rfl) dX4_balancesWith_9 (fun r2 z1 h => ?_)
  refine zk_if_ne X (tgt := 17) dX4_balancesWith_12 (by decide) h (fun h => ?_) (fun h => ?_)
  · refine zk_iconst X (v := 0) dX4_balancesWith_15 (by decide) ?_
    exact zk_zreturn X hr dX4_balancesWith_16 rfl h
  · refine zk_aload_n X 0 dX4_balancesWith_17 rfl rfl ?_
    refine zk_get X iX4 (g := 4) (hk) rfl rfl 4 (by decide) w2 rfl dX4_balancesWith_18 ?_
    refine zk_iload_n X 1 dX4_balancesWith_21 rfl rfl ?_
    refine zk_iald X (g := 5) (hk) rfl dX4_balancesWith_22 h (fun h => ?_)
    refine zk_istore_n X (lv' := [(3, .int (z1.1 5 k x1.toNatClampNeg)), (0, .ref (E.2.1 4 k)), (1, .int x1), (2, .int x2)]) dX4_balancesWith_23 rfl (by decide) rfl ?_
    refine zk_aload_n X 1 dX4_balancesWith_24 rfl rfl ?_
    refine zk_get X iX4 (g := 4) (hk) rfl rfl 4 (by decide) w2 rfl dX4_balancesWith_25 ?_
    refine zk_iload_n X 2 dX4_balancesWith_28 rfl rfl ?_
    refine zk_iload_n X 3 dX4_balancesWith_29 rfl rfl ?_
    refine zk_iast X (g := 5) (hk) rfl rfl dX4_balancesWith_30 h (fun h => ?_)
    refine zk_aload_n X 1 dX4_balancesWith_31 rfl rfl ?_
    refine zk_vi X h (fun rr zz hf => ct_X4_leaning l E hi k (hk)  _ rr zz hf) (cwV 0 X.1.2.2.2.2 gX4_balancesWith_X4_leaning rfl rfl rfl (by decide +kernel) ⟨Nat.le_of_ble_eq_true rfl, Nat.le_of_ble_eq_true rfl⟩) (zk_recv X (g := 4) (hk) rfl rfl) rfl rfl (Nat.le_of_ble_eq_true rfl) dX4_balancesWith_32 (fun r4 z3 h => ?_)
    refine zk_if_ne X (tgt := 49) dX4_balancesWith_35 (by decide) h (fun h => ?_) (fun h => ?_)
    · refine zk_aload_n X 1 dX4_balancesWith_38 rfl rfl ?_
      refine zk_vi X h (fun rr zz hf => ct_X4_allWays l E hi k (hk)  _ rr zz hf) (cwV 0 X.1.2.2.2.2 gX4_balancesWith_X4_allWays rfl rfl rfl (by decide +kernel) ⟨Nat.le_of_ble_eq_true rfl, Nat.le_of_ble_eq_true rfl⟩) (zk_recv X (g := 4) (hk) rfl rfl) rfl rfl (Nat.le_of_ble_eq_true rfl) dX4_balancesWith_39 (fun r6 z5 h => ?_)
      refine zk_if_le X (tgt := 49) dX4_balancesWith_42 (by decide) h (fun h => ?_) (fun h => ?_)
      · exact zk_sub [1, 2, 0] rfl (B49  _ _ _ h)
      · refine zk_iconst X (v := 1) dX4_balancesWith_45 (by decide) ?_
        refine zk_goto X (tgt := 50) dX4_balancesWith_46 (by decide) ?_
        exact zk_sub [1, 2, 0] rfl (B50  _ _ _ _ h)
    · exact zk_sub [1, 2, 0] rfl (B49  _ _ _ h)
def fX4_pairCount (k : Nat) (z : zk_Z) : Option (Int32 × zk_Z) := some (((z.1 4 k 3) * ((z.1 4 k 3) - 1)) / 2, z)
set_option maxRecDepth 100000 in
set_option maxHeartbeats 8000000 in
theorem ct_X4_pairCount (l : Launch) (E : zk_E) (hi : zk_inj E) (k : Nat) (hk : k < zk_cnt 4) (z : zk_Z) (r : Int32) (z' : zk_Z) (h : fX4_pairCount k  z = some (r, z')) : Met l yX4_pairCount wsX4_pairCount { frames := 0, cells := 0, slots := 0, locals := 0 } (va_Pc [.ref (E.2.1 4 k)] (zk_W E z)) (zk_Qi E r z') 0 0 (zk_A E) := by
  refine zk_met (cc := cX4_pairCount) (maxL := 1) (ret := (some .int)) (own := RX4) (by decide) rfl rfl hi (Nat.le_of_ble_eq_true rfl) ?_
  intro p e s m args below meth c X hr
  have iX4 : ∀ w ∈ u_ws RX4 TX4 5, w ∈ wsX4_pairCount := by decide +kernel
  have w0 : Cond.fieldLink RX4 15 "HiddenWorks$Recipe" "wide" "I" ∈ wsX4_pairCount := by decide +kernel
  unfold fX4_pairCount at h
  refine zk_aload_n X 0 dX4_pairCount_0 rfl rfl ?_
  refine zk_get X iX4 (g := 4) (hk) rfl rfl 3 (by decide) w0 rfl dX4_pairCount_1 ?_
  refine zk_aload_n X 0 dX4_pairCount_4 rfl rfl ?_
  refine zk_get X iX4 (g := 4) (hk) rfl rfl 3 (by decide) w0 rfl dX4_pairCount_5 ?_
  refine zk_iconst X (v := 1) dX4_pairCount_8 (by decide) ?_
  refine zk_isub X dX4_pairCount_9 ?_
  refine zk_imul X dX4_pairCount_10 ?_
  refine zk_iconst X (v := 2) dX4_pairCount_11 (by decide) ?_
  refine zk_idiv X (α := Unit) (a := some ()) (o := ()) dX4_pairCount_12 rfl (fun _ => ?_)
  exact zk_ireturn X hr dX4_pairCount_13 h
def fX4_pairing_L4 (k : Nat) : Nat → Int32 → Int32 → zk_Z → Option (Int32 × zk_Z)
  | 0, _, _, _ => none
  | n + 1, a1, a2, z => if (z.1 4 k 3) < a2 then some (a1, z) else zk_bd (fX4_share k a2 z) (fun r2 z1 => zk_bd (fX4_pairCount k z1) (fun r4 z3 => (fX4_pairing_L4 k n) (a1 + (r2 * (r4 - (2 * (a2 * ((z.1 4 k 3) - a2)))))) (a2 + 1) z3))
def fX4_pairing (k : Nat) (z : zk_Z) : Option (Int32 × zk_Z) := fX4_pairing_L4 k zk_FU 0 0 z
set_option maxRecDepth 100000 in
set_option maxHeartbeats 8000000 in
theorem ct_X4_pairing (l : Launch) (E : zk_E) (hi : zk_inj E) (k : Nat) (hk : k < zk_cnt 4) (z : zk_Z) (r : Int32) (z' : zk_Z) (h : fX4_pairing k  z = some (r, z')) : Met l yX4_pairing wsX4_pairing { frames := 2, cells := 0, slots := 0, locals := 42 } (va_Pc [.ref (E.2.1 4 k)] (zk_W E z)) (zk_Qi E r z') 0 0 (zk_A E) := by
  refine zk_met (cc := cX4_pairing) (maxL := 4) (ret := (some .int)) (own := RX4) (by decide) rfl rfl hi (Nat.le_of_ble_eq_true rfl) ?_
  intro p e s m args below meth c X hr
  have iX4 : ∀ w ∈ u_ws RX4 TX4 5, w ∈ wsX4_pairing := by decide +kernel
  have w0 : Cond.fieldLink RX4 15 "HiddenWorks$Recipe" "wide" "I" ∈ wsX4_pairing := by decide +kernel
  have L4 : ∀ (n : Nat) (a1 : Int32) (a2 : Int32) (z : zk_Z), fX4_pairing_L4 k n a1 a2 z = some (r, z') → zk_G p l e (headSpec wsX4_pairing { frames := 2, cells := 0, slots := 0, locals := 42 }).room s m args below meth c E 4 0 0 (MQ below (zk_Qi E r z') args s 0 0 (zk_A E)) 4 [(0, .ref (E.2.1 4 k)), (1, .int a1), (2, .int a2)] [] z := by
    intro n
    induction n with
    | zero => intro a1 a2 z h; exact absurd h (by simp [fX4_pairing_L4])
    | succ n ih =>
      intro a1 a2 z h
      rw [fX4_pairing_L4] at h
      refine zk_iload_n X 2 dX4_pairing_4 rfl rfl ?_
      refine zk_aload_n X 0 dX4_pairing_5 rfl rfl ?_
      refine zk_get X iX4 (g := 4) (hk) rfl rfl 3 (by decide) w0 rfl dX4_pairing_6 ?_
      refine zk_icmp_gt X (tgt := 44) dX4_pairing_9 (by decide) h (fun h => ?_) (fun h => ?_)
      · refine zk_iload_n X 1 dX4_pairing_44 rfl rfl ?_
        exact zk_ireturn X hr dX4_pairing_45 h
      · refine zk_iload_n X 2 dX4_pairing_12 rfl rfl ?_
        refine zk_aload_n X 0 dX4_pairing_13 rfl rfl ?_
        refine zk_get X iX4 (g := 4) (hk) rfl rfl 3 (by decide) w0 rfl dX4_pairing_14 ?_
        refine zk_iload_n X 2 dX4_pairing_17 rfl rfl ?_
        refine zk_isub X dX4_pairing_18 ?_
        refine zk_imul X dX4_pairing_19 ?_
        refine zk_istore_n X (lv' := [(3, .int (a2 * ((z.1 4 k 3) - a2))), (0, .ref (E.2.1 4 k)), (1, .int a1), (2, .int a2)]) dX4_pairing_20 rfl (by decide) rfl ?_
        refine zk_iload_n X 2 dX4_pairing_21 rfl rfl ?_
        refine zk_aload_n X 1 dX4_pairing_22 rfl rfl ?_
        refine zk_iload_n X 3 dX4_pairing_23 rfl rfl ?_
        refine zk_vi X h (fun rr zz hf => ct_X4_share l E hi k (hk) a2 _ rr zz hf) (cwV 1 X.1.2.2.2.2 gX4_pairing_X4_share rfl rfl rfl (by decide +kernel) ⟨Nat.le_of_ble_eq_true rfl, Nat.le_of_ble_eq_true rfl⟩) (zk_recv X (g := 4) (hk) rfl rfl) rfl rfl (Nat.le_of_ble_eq_true rfl) dX4_pairing_24 (fun r2 z1 h => ?_)
        refine zk_aload_n X 1 dX4_pairing_27 rfl rfl ?_
        refine zk_vi X h (fun rr zz hf => ct_X4_pairCount l E hi k (hk) _ rr zz hf) (cwV 0 X.1.2.2.2.2 gX4_pairing_X4_pairCount rfl rfl rfl (by decide +kernel) ⟨Nat.le_of_ble_eq_true rfl, Nat.le_of_ble_eq_true rfl⟩) (zk_recv X (g := 4) (hk) rfl rfl) rfl rfl (Nat.le_of_ble_eq_true rfl) dX4_pairing_28 (fun r4 z3 h => ?_)
        refine zk_iconst X (v := 2) dX4_pairing_31 (by decide) ?_
        refine zk_iload_n X 0 dX4_pairing_32 rfl rfl ?_
        refine zk_imul X dX4_pairing_33 ?_
        refine zk_isub X dX4_pairing_34 ?_
        refine zk_imul X dX4_pairing_35 ?_
        refine zk_iadd X dX4_pairing_36 ?_
        refine zk_istore_n X (lv' := [(1, .int (a1 + (r2 * (r4 - (2 * (a2 * ((z.1 4 k 3) - a2))))))), (3, .int (a2 * ((z.1 4 k 3) - a2))), (0, .ref (E.2.1 4 k)), (2, .int a2)]) dX4_pairing_37 rfl (by decide) rfl ?_
        refine zk_iinc X (lv' := [(2, .int (a2 + 1)), (1, .int (a1 + (r2 * (r4 - (2 * (a2 * ((z.1 4 k 3) - a2))))))), (3, .int (a2 * ((z.1 4 k 3) - a2))), (0, .ref (E.2.1 4 k))]) 3 dX4_pairing_38 rfl rfl (by decide) rfl ?_
        refine zk_goto X (tgt := 4) dX4_pairing_41 (by decide) ?_
        exact zk_sub [3, 1, 0] rfl (ih _ _ _ h)
  unfold fX4_pairing at h
  refine zk_iconst X (v := 0) dX4_pairing_0 (by decide) ?_
  refine zk_istore_n X (lv' := [(1, .int 0), (0, .ref (E.2.1 4 k))]) dX4_pairing_1 rfl (by decide) rfl ?_
  refine zk_iconst X (v := 0) dX4_pairing_2 (by decide) ?_
  refine zk_istore_n X (lv' := [(2, .int 0), (1, .int 0), (0, .ref (E.2.1 4 k))]) dX4_pairing_3 rfl (by decide) rfl ?_
  exact zk_sub [2, 1, 0] rfl (L4  _ _ _ _ h)
def fX5_begin (k : Nat) (x1 : Int32) (x2 : Int32) (z : zk_Z) : Option (Unit × zk_Z) := zk_bd (fJ7_fill_53178_g14 k 0 (zk_sI (zk_sI z 13 k 0 x1) 13 k 1 x2)) (fun _ z1 => some ((), z1))
set_option maxRecDepth 100000 in
set_option maxHeartbeats 8000000 in
theorem ct_X5_begin (l : Launch) (E : zk_E) (hi : zk_inj E) (k : Nat) (hk : k < zk_cnt 13) (x1 : Int32) (x2 : Int32) (z : zk_Z) (r : Unit) (z' : zk_Z) (h : fX5_begin k x1 x2 z = some (r, z')) : Met l yX5_begin wsX5_begin { frames := 1, cells := 0, slots := 0, locals := 23 } (va_Pc [.ref (E.2.1 13 k), .int x1, .int x2] (zk_W E z)) (zk_Qv E z') 0 0 (zk_A E) := by
  refine zk_met (cc := cX5_begin) (maxL := 3) (ret := none) (own := RX5) (by decide) rfl rfl hi (Nat.le_of_ble_eq_true rfl) ?_
  intro p e s m args below meth c X hr
  have iX5 : ∀ w ∈ u_ws RX5 TX5 3, w ∈ wsX5_begin := by decide +kernel
  have w0 : Cond.fieldLink RX5 9 "HiddenWorks$Sheet" "sort" "I" ∈ wsX5_begin := by decide +kernel
  have w1 : Cond.fieldLink RX5 19 "HiddenWorks$Sheet" "size" "I" ∈ wsX5_begin := by decide +kernel
  have w2 : Cond.fieldLink RX5 15 "HiddenWorks$Sheet" "cells" "[I" ∈ wsX5_begin := by decide +kernel
  unfold fX5_begin at h
  refine zk_aload_n X 0 dX5_begin_0 rfl rfl ?_
  refine zk_iload_n X 1 dX5_begin_1 rfl rfl ?_
  refine zk_putI X (ty := .int) iX5 tyX5 tyX5_ok nmX5 (g := 13) (hk) rfl rfl 0 (by decide) w0 rfl (by decide +kernel) rfl rfl (Nat.le_of_ble_eq_true rfl) rfl dX5_begin_2 ?_
  refine zk_aload_n X 0 dX5_begin_5 rfl rfl ?_
  refine zk_iload_n X 2 dX5_begin_6 rfl rfl ?_
  refine zk_putI X (ty := .int) iX5 tyX5 tyX5_ok nmX5 (g := 13) (hk) rfl rfl 1 (by decide) w1 rfl (by decide +kernel) rfl rfl (Nat.le_of_ble_eq_true rfl) rfl dX5_begin_7 ?_
  refine zk_aload_n X 0 dX5_begin_10 rfl rfl ?_
  refine zk_get X iX5 (g := 13) (hk) rfl rfl 2 (by decide) w2 rfl dX5_begin_11 ?_
  refine zk_iconst X (v := 0) dX5_begin_14 (by decide) ?_
  refine zk_sv X h (fun rr zz hf => ct_J7_fill_53178_g14 l E hi k (hk) 0 _ rr zz hf) (va_cwS 2 X.1.2.2.2.2 gX5_begin_J7_fill_53178 rfl rfl rfl (by decide +kernel) ⟨Nat.le_of_ble_eq_true rfl, Nat.le_of_ble_eq_true rfl⟩) rfl rfl (Nat.le_of_ble_eq_true rfl) dX5_begin_15 (fun z1 h => ?_)
  exact zk_vreturn X hr dX5_begin_18 h
def fX5_cut (k : Nat) (x1 : Int32) (z : zk_Z) : Option (Int32 × zk_Z) := if (z.1 13 k 0) = 0 then some (x1.toInt8.toInt32, z) else if (z.1 13 k 0) = 1 then some (x1.toInt16.toInt32, z) else some (x1, z)
set_option maxRecDepth 100000 in
set_option maxHeartbeats 8000000 in
theorem ct_X5_cut (l : Launch) (E : zk_E) (hi : zk_inj E) (k : Nat) (hk : k < zk_cnt 13) (x1 : Int32) (z : zk_Z) (r : Int32) (z' : zk_Z) (h : fX5_cut k x1 z = some (r, z')) : Met l yX5_cut wsX5_cut { frames := 0, cells := 0, slots := 0, locals := 0 } (va_Pc [.ref (E.2.1 13 k), .int x1] (zk_W E z)) (zk_Qi E r z') 0 0 (zk_A E) := by
  refine zk_met (cc := cX5_cut) (maxL := 2) (ret := (some .int)) (own := RX5) (by decide) rfl rfl hi (Nat.le_of_ble_eq_true rfl) ?_
  intro p e s m args below meth c X hr
  have iX5 : ∀ w ∈ u_ws RX5 TX5 3, w ∈ wsX5_cut := by decide +kernel
  have w0 : Cond.fieldLink RX5 9 "HiddenWorks$Sheet" "sort" "I" ∈ wsX5_cut := by decide +kernel
  unfold fX5_cut at h
  refine zk_aload_n X 0 dX5_cut_0 rfl rfl ?_
  refine zk_get X iX5 (g := 13) (hk) rfl rfl 0 (by decide) w0 rfl dX5_cut_1 ?_
  rcases zk_if h with ⟨q1, h⟩ | ⟨q1, h⟩
  · refine zk_lsw X dX5_cut_4 (by decide) (off := 28) (by rw [q1]; decide) (tgt := 32) (by decide) ?_
    refine zk_iload_n X 1 dX5_cut_32 rfl rfl ?_
    refine zk_i2b X dX5_cut_33 ?_
    exact zk_ireturn X hr dX5_cut_34 h
  · rcases zk_if h with ⟨q2, h⟩ | ⟨q2, h⟩
    · refine zk_lsw X dX5_cut_4 (by decide) (off := 31) (by rw [q2]; decide) (tgt := 35) (by decide) ?_
      refine zk_iload_n X 1 dX5_cut_35 rfl rfl ?_
      refine zk_i2s X dX5_cut_36 ?_
      exact zk_ireturn X hr dX5_cut_37 h
    · refine zk_lsw X dX5_cut_4 (by decide) (off := 34) (by show Op.lookupswitch.offset [(0, 28), (1, 31)] _ _ = _; rw [lv_osw q1 (by decide), lv_osw q2 (by decide)]; rfl) (tgt := 38) (by decide) ?_
      refine zk_iload_n X 1 dX5_cut_38 rfl rfl ?_
      exact zk_ireturn X hr dX5_cut_39 h
def fX5_hasRange (k : Nat) (x1 : Int32) (x2 : Int32) (z : zk_Z) : Option (Int32 × zk_Z) := if x1 < 0 then some (0, z) else if x2 < 0 then some (0, z) else if (z.1 13 k 1) < x1 then some (0, z) else if ((z.1 13 k 1) - x1) < x2 then some (0, z) else some (1, z)
set_option maxRecDepth 100000 in
set_option maxHeartbeats 8000000 in
theorem ct_X5_hasRange (l : Launch) (E : zk_E) (hi : zk_inj E) (k : Nat) (hk : k < zk_cnt 13) (x1 : Int32) (x2 : Int32) (z : zk_Z) (r : Int32) (z' : zk_Z) (h : fX5_hasRange k x1 x2 z = some (r, z')) : Met l yX5_hasRange wsX5_hasRange { frames := 0, cells := 0, slots := 0, locals := 0 } (va_Pc [.ref (E.2.1 13 k), .int x1, .int x2] (zk_W E z)) (zk_Qi E r z') 0 0 (zk_A E) := by
  refine zk_met (cc := cX5_hasRange) (maxL := 3) (ret := (some .boolean)) (own := RX5) (by decide) rfl rfl hi (Nat.le_of_ble_eq_true rfl) ?_
  intro p e s m args below meth c X hr
  have iX5 : ∀ w ∈ u_ws RX5 TX5 3, w ∈ wsX5_hasRange := by decide +kernel
  have w0 : Cond.fieldLink RX5 19 "HiddenWorks$Sheet" "size" "I" ∈ wsX5_hasRange := by decide +kernel
  unfold fX5_hasRange at h
  refine zk_iload_n X 1 dX5_hasRange_0 rfl rfl ?_
  refine zk_if_lt X (tgt := 30) dX5_hasRange_1 (by decide) h (fun h => ?_) (fun h => ?_)
  · refine zk_iconst X (v := 0) dX5_hasRange_30 (by decide) ?_
    exact zk_zreturn X hr dX5_hasRange_31 rfl h
  · refine zk_iload_n X 2 dX5_hasRange_4 rfl rfl ?_
    refine zk_if_lt X (tgt := 30) dX5_hasRange_5 (by decide) h (fun h => ?_) (fun h => ?_)
    · refine zk_iconst X (v := 0) dX5_hasRange_30 (by decide) ?_
      exact zk_zreturn X hr dX5_hasRange_31 rfl h
    · refine zk_iload_n X 1 dX5_hasRange_8 rfl rfl ?_
      refine zk_aload_n X 0 dX5_hasRange_9 rfl rfl ?_
      refine zk_get X iX5 (g := 13) (hk) rfl rfl 1 (by decide) w0 rfl dX5_hasRange_10 ?_
      refine zk_icmp_gt X (tgt := 30) dX5_hasRange_13 (by decide) h (fun h => ?_) (fun h => ?_)
      · refine zk_iconst X (v := 0) dX5_hasRange_30 (by decide) ?_
        exact zk_zreturn X hr dX5_hasRange_31 rfl h
      · refine zk_iload_n X 2 dX5_hasRange_16 rfl rfl ?_
        refine zk_aload_n X 0 dX5_hasRange_17 rfl rfl ?_
        refine zk_get X iX5 (g := 13) (hk) rfl rfl 1 (by decide) w0 rfl dX5_hasRange_18 ?_
        refine zk_iload_n X 1 dX5_hasRange_21 rfl rfl ?_
        refine zk_isub X dX5_hasRange_22 ?_
        refine zk_icmp_gt X (tgt := 30) dX5_hasRange_23 (by decide) h (fun h => ?_) (fun h => ?_)
        · refine zk_iconst X (v := 0) dX5_hasRange_30 (by decide) ?_
          exact zk_zreturn X hr dX5_hasRange_31 rfl h
        · refine zk_iconst X (v := 1) dX5_hasRange_26 (by decide) ?_
          refine zk_goto X (tgt := 31) dX5_hasRange_27 (by decide) ?_
          exact zk_zreturn X hr dX5_hasRange_31 rfl h
def fX5_isMissing (k : Nat) (z : zk_Z) : Option (Int32 × zk_Z) := if 0 ≤ (z.1 13 k 0) then some (0, z) else some (1, z)
set_option maxRecDepth 100000 in
set_option maxHeartbeats 8000000 in
theorem ct_X5_isMissing (l : Launch) (E : zk_E) (hi : zk_inj E) (k : Nat) (hk : k < zk_cnt 13) (z : zk_Z) (r : Int32) (z' : zk_Z) (h : fX5_isMissing k  z = some (r, z')) : Met l yX5_isMissing wsX5_isMissing { frames := 0, cells := 0, slots := 0, locals := 0 } (va_Pc [.ref (E.2.1 13 k)] (zk_W E z)) (zk_Qi E r z') 0 0 (zk_A E) := by
  refine zk_met (cc := cX5_isMissing) (maxL := 1) (ret := (some .boolean)) (own := RX5) (by decide) rfl rfl hi (Nat.le_of_ble_eq_true rfl) ?_
  intro p e s m args below meth c X hr
  have iX5 : ∀ w ∈ u_ws RX5 TX5 3, w ∈ wsX5_isMissing := by decide +kernel
  have w0 : Cond.fieldLink RX5 9 "HiddenWorks$Sheet" "sort" "I" ∈ wsX5_isMissing := by decide +kernel
  unfold fX5_isMissing at h
  refine zk_aload_n X 0 dX5_isMissing_0 rfl rfl ?_
  refine zk_get X iX5 (g := 13) (hk) rfl rfl 0 (by decide) w0 rfl dX5_isMissing_1 ?_
  refine zk_if_ge X (tgt := 11) dX5_isMissing_4 (by decide) h (fun h => ?_) (fun h => ?_)
  · refine zk_iconst X (v := 0) dX5_isMissing_11 (by decide) ?_
    exact zk_zreturn X hr dX5_isMissing_12 rfl h
  · refine zk_iconst X (v := 1) dX5_isMissing_7 (by decide) ?_
    refine zk_goto X (tgt := 12) dX5_isMissing_8 (by decide) ?_
    exact zk_zreturn X hr dX5_isMissing_12 rfl h
def fX5_isOrderOf_L4 (k : Nat) : Nat → Int32 → Int32 → Int32 → zk_Z → Option (Int32 × zk_Z)
  | 0, _, _, _, _ => none
  | n + 1, a1, a2, a3, z => if (z.1 13 k 1) ≤ a3 then if (z.1 13 k 1) = a1 then if a2 = (((1 : Int32) <<< (a1 &&& 31)) - 1) then some (1, z) else some (0, z) else some (0, z) else zk_gd (zk_ix a3 40) (if (z.1 14 k a3.toNatClampNeg) < 0 then some (0, z) else zk_gd (zk_ix a3 40) (if (z.1 14 k a3.toNatClampNeg) < a1 then zk_gd (zk_ix a3 40) ((fX5_isOrderOf_L4 k n) a1 (a2 ||| ((1 : Int32) <<< ((z.1 14 k a3.toNatClampNeg) &&& 31))) (a3 + 1) z) else some (0, z)))
def fX5_isOrderOf (k : Nat) (x1 : Int32) (z : zk_Z) : Option (Int32 × zk_Z) := fX5_isOrderOf_L4 k zk_FU x1 0 0 z
set_option maxRecDepth 100000 in
set_option maxHeartbeats 8000000 in
theorem ct_X5_isOrderOf (l : Launch) (E : zk_E) (hi : zk_inj E) (k : Nat) (hk : k < zk_cnt 13) (x1 : Int32) (z : zk_Z) (r : Int32) (z' : zk_Z) (h : fX5_isOrderOf k x1 z = some (r, z')) : Met l yX5_isOrderOf wsX5_isOrderOf { frames := 0, cells := 0, slots := 0, locals := 0 } (va_Pc [.ref (E.2.1 13 k), .int x1] (zk_W E z)) (zk_Qi E r z') 0 0 (zk_A E) := by
  refine zk_met (cc := cX5_isOrderOf) (maxL := 4) (ret := (some .boolean)) (own := RX5) (by decide) rfl rfl hi (Nat.le_of_ble_eq_true rfl) ?_
  intro p e s m args below meth c X hr
  have iX5 : ∀ w ∈ u_ws RX5 TX5 3, w ∈ wsX5_isOrderOf := by decide +kernel
  have w0 : Cond.fieldLink RX5 19 "HiddenWorks$Sheet" "size" "I" ∈ wsX5_isOrderOf := by decide +kernel
  have w1 : Cond.fieldLink RX5 15 "HiddenWorks$Sheet" "cells" "[I" ∈ wsX5_isOrderOf := by decide +kernel
  have L4 : ∀ (n : Nat) (a1 : Int32) (a2 : Int32) (a3 : Int32) (z : zk_Z), fX5_isOrderOf_L4 k n a1 a2 a3 z = some (r, z') → zk_G p l e (headSpec wsX5_isOrderOf { frames := 0, cells := 0, slots := 0, locals := 0 }).room s m args below meth c E 4 0 0 (MQ below (zk_Qi E r z') args s 0 0 (zk_A E)) 4 [(0, .ref (E.2.1 13 k)), (1, .int a1), (2, .int a2), (3, .int a3)] [] z := by
    intro n
    induction n with
    | zero => intro a1 a2 a3 z h; exact absurd h (by simp [fX5_isOrderOf_L4])
    | succ n ih =>
      intro a1 a2 a3 z h
      rw [fX5_isOrderOf_L4] at h
      refine zk_iload_n X 3 dX5_isOrderOf_4 rfl rfl ?_
      refine zk_aload_n X 0 dX5_isOrderOf_5 rfl rfl ?_
      refine zk_get X iX5 (g := 13) (hk) rfl rfl 1 (by decide) w0 rfl dX5_isOrderOf_6 ?_
      refine zk_icmp_ge X (tgt := 50) dX5_isOrderOf_9 (by decide) h (fun h => ?_) (fun h => ?_)
      · refine zk_aload_n X 0 dX5_isOrderOf_50 rfl rfl ?_
        refine zk_get X iX5 (g := 13) (hk) rfl rfl 1 (by decide) w0 rfl dX5_isOrderOf_51 ?_
        refine zk_iload_n X 1 dX5_isOrderOf_54 rfl rfl ?_
        refine zk_icmp_ne X (tgt := 71) dX5_isOrderOf_55 (by decide) h (fun h => ?_) (fun h => ?_)
        · refine zk_iload_n X 2 dX5_isOrderOf_58 rfl rfl ?_
          refine zk_iconst X (v := 1) dX5_isOrderOf_59 (by decide) ?_
          refine zk_iload_n X 1 dX5_isOrderOf_60 rfl rfl ?_
          refine zk_ishl X dX5_isOrderOf_61 ?_
          refine zk_iconst X (v := 1) dX5_isOrderOf_62 (by decide) ?_
          refine zk_isub X dX5_isOrderOf_63 ?_
          refine zk_icmp_ne X (tgt := 71) dX5_isOrderOf_64 (by decide) h (fun h => ?_) (fun h => ?_)
          · refine zk_iconst X (v := 1) dX5_isOrderOf_67 (by decide) ?_
            refine zk_goto X (tgt := 72) dX5_isOrderOf_68 (by decide) ?_
            exact zk_zreturn X hr dX5_isOrderOf_72 rfl h
          · refine zk_iconst X (v := 0) dX5_isOrderOf_71 (by decide) ?_
            exact zk_zreturn X hr dX5_isOrderOf_72 rfl h
        · refine zk_iconst X (v := 0) dX5_isOrderOf_71 (by decide) ?_
          exact zk_zreturn X hr dX5_isOrderOf_72 rfl h
      · refine zk_aload_n X 0 dX5_isOrderOf_12 rfl rfl ?_
        refine zk_get X iX5 (g := 13) (hk) rfl rfl 2 (by decide) w1 rfl dX5_isOrderOf_13 ?_
        refine zk_iload_n X 3 dX5_isOrderOf_16 rfl rfl ?_
        refine zk_iald X (g := 14) (hk) rfl dX5_isOrderOf_17 h (fun h => ?_)
        refine zk_if_lt X (tgt := 31) dX5_isOrderOf_18 (by decide) h (fun h => ?_) (fun h => ?_)
        · refine zk_iconst X (v := 0) dX5_isOrderOf_31 (by decide) ?_
          exact zk_zreturn X hr dX5_isOrderOf_32 rfl h
        · refine zk_aload_n X 0 dX5_isOrderOf_21 rfl rfl ?_
          refine zk_get X iX5 (g := 13) (hk) rfl rfl 2 (by decide) w1 rfl dX5_isOrderOf_22 ?_
          refine zk_iload_n X 3 dX5_isOrderOf_25 rfl rfl ?_
          refine zk_iald X (g := 14) (hk) rfl dX5_isOrderOf_26 h (fun h => ?_)
          refine zk_iload_n X 1 dX5_isOrderOf_27 rfl rfl ?_
          refine zk_icmp_lt X (tgt := 33) dX5_isOrderOf_28 (by decide) h (fun h => ?_) (fun h => ?_)
          · refine zk_iload_n X 2 dX5_isOrderOf_33 rfl rfl ?_
            refine zk_iconst X (v := 1) dX5_isOrderOf_34 (by decide) ?_
            refine zk_aload_n X 0 dX5_isOrderOf_35 rfl rfl ?_
            refine zk_get X iX5 (g := 13) (hk) rfl rfl 2 (by decide) w1 rfl dX5_isOrderOf_36 ?_
            refine zk_iload_n X 3 dX5_isOrderOf_39 rfl rfl ?_
            refine zk_iald X (g := 14) (hk) rfl dX5_isOrderOf_40 h (fun h => ?_)
            refine zk_ishl X dX5_isOrderOf_41 ?_
            refine zk_ior X dX5_isOrderOf_42 ?_
            refine zk_istore_n X (lv' := [(2, .int (a2 ||| ((1 : Int32) <<< ((z.1 14 k a3.toNatClampNeg) &&& 31)))), (0, .ref (E.2.1 13 k)), (1, .int a1), (3, .int a3)]) dX5_isOrderOf_43 rfl (by decide) rfl ?_
            refine zk_iinc X (lv' := [(3, .int (a3 + 1)), (2, .int (a2 ||| ((1 : Int32) <<< ((z.1 14 k a3.toNatClampNeg) &&& 31)))), (0, .ref (E.2.1 13 k)), (1, .int a1)]) 3 dX5_isOrderOf_44 rfl rfl (by decide) rfl ?_
            refine zk_goto X (tgt := 4) dX5_isOrderOf_47 (by decide) ?_
            exact zk_sub [2, 3, 1, 0] rfl (ih _ _ _ _ h)
          · refine zk_iconst X (v := 0) dX5_isOrderOf_31 (by decide) ?_
            exact zk_zreturn X hr dX5_isOrderOf_32 rfl h
  unfold fX5_isOrderOf at h
  refine zk_iconst X (v := 0) dX5_isOrderOf_0 (by decide) ?_
  refine zk_istore_n X (lv' := [(2, .int 0), (0, .ref (E.2.1 13 k)), (1, .int x1)]) dX5_isOrderOf_1 rfl (by decide) rfl ?_
  refine zk_iconst X (v := 0) dX5_isOrderOf_2 (by decide) ?_
  refine zk_istore_n X (lv' := [(3, .int 0), (2, .int 0), (0, .ref (E.2.1 13 k)), (1, .int x1)]) dX5_isOrderOf_3 rfl (by decide) rfl ?_
  exact zk_sub [2, 3, 1, 0] rfl (L4  _ _ _ _ _ h)
def fX5_renumbered_B38 (k : Nat) (c4 : Int32 → Int32 → Int32 → zk_Z → Option (Int32 × zk_Z)) (a1 : Int32) (a2 : Int32) (a3 : Int32) (z : zk_Z) : Option (Int32 × zk_Z) := c4 a1 a2 (a3 + 1) z
def fX5_renumbered_L4 (k : Nat) : Nat → Int32 → Int32 → Int32 → zk_Z → Option (Int32 × zk_Z)
  | 0, _, _, _, _ => none
  | n + 1, a1, a2, a3, z => if (z.1 13 k 1) ≤ a3 then some (a2, z) else if 10 ≤ a3 then some (a2, z) else if ((a1 >>> (a3 &&& 31)) &&& 1) = 1 then zk_gd (zk_ix a3 40) (fX5_renumbered_B38 k (fX5_renumbered_L4 k n) a1 (a2 ||| ((1 : Int32) <<< ((z.1 14 k a3.toNatClampNeg) &&& 31))) a3 z) else fX5_renumbered_B38 k (fX5_renumbered_L4 k n) a1 a2 a3 z
def fX5_renumbered (k : Nat) (x1 : Int32) (z : zk_Z) : Option (Int32 × zk_Z) := fX5_renumbered_L4 k zk_FU x1 0 0 z
set_option maxRecDepth 100000 in
set_option maxHeartbeats 8000000 in
theorem ct_X5_renumbered (l : Launch) (E : zk_E) (hi : zk_inj E) (k : Nat) (hk : k < zk_cnt 13) (x1 : Int32) (z : zk_Z) (r : Int32) (z' : zk_Z) (h : fX5_renumbered k x1 z = some (r, z')) : Met l yX5_renumbered wsX5_renumbered { frames := 0, cells := 0, slots := 0, locals := 0 } (va_Pc [.ref (E.2.1 13 k), .int x1] (zk_W E z)) (zk_Qi E r z') 0 0 (zk_A E) := by
  refine zk_met (cc := cX5_renumbered) (maxL := 4) (ret := (some .int)) (own := RX5) (by decide) rfl rfl hi (Nat.le_of_ble_eq_true rfl) ?_
  intro p e s m args below meth c X hr
  have iX5 : ∀ w ∈ u_ws RX5 TX5 3, w ∈ wsX5_renumbered := by decide +kernel
  have w0 : Cond.fieldLink RX5 19 "HiddenWorks$Sheet" "size" "I" ∈ wsX5_renumbered := by decide +kernel
  have w1 : Cond.fieldLink RX5 15 "HiddenWorks$Sheet" "cells" "[I" ∈ wsX5_renumbered := by decide +kernel
  have B38 : ∀ (c4 : Int32 → Int32 → Int32 → zk_Z → Option (Int32 × zk_Z)) (hc4 : ∀ (a1 : Int32) (a2 : Int32) (a3 : Int32) (z : zk_Z), c4 a1 a2 a3 z = some (r, z') → zk_G p l e (headSpec wsX5_renumbered { frames := 0, cells := 0, slots := 0, locals := 0 }).room s m args below meth c E 4 0 0 (MQ below (zk_Qi E r z') args s 0 0 (zk_A E)) 4 [(0, .ref (E.2.1 13 k)), (1, .int a1), (2, .int a2), (3, .int a3)] [] z) (a1 : Int32) (a2 : Int32) (a3 : Int32) (z : zk_Z), fX5_renumbered_B38 k c4 a1 a2 a3 z = some (r, z') → zk_G p l e (headSpec wsX5_renumbered { frames := 0, cells := 0, slots := 0, locals := 0 }).room s m args below meth c E 4 0 0 (MQ below (zk_Qi E r z') args s 0 0 (zk_A E)) 38 [(0, .ref (E.2.1 13 k)), (1, .int a1), (2, .int a2), (3, .int a3)] [] z := by
    intro c4 hc4 a1 a2 a3 z h
    unfold fX5_renumbered_B38 at h
    refine zk_iinc X (lv' := [(3, .int (a3 + 1)), (0, .ref (E.2.1 13 k)), (1, .int a1), (2, .int a2)]) 3 dX5_renumbered_38 rfl rfl (by decide) rfl ?_
    refine zk_goto X (tgt := 4) dX5_renumbered_41 (by decide) ?_
    exact zk_sub [1, 2, 3, 0] rfl (hc4 _ _ _ _ h)
  have L4 : ∀ (n : Nat) (a1 : Int32) (a2 : Int32) (a3 : Int32) (z : zk_Z), fX5_renumbered_L4 k n a1 a2 a3 z = some (r, z') → zk_G p l e (headSpec wsX5_renumbered { frames := 0, cells := 0, slots := 0, locals := 0 }).room s m args below meth c E 4 0 0 (MQ below (zk_Qi E r z') args s 0 0 (zk_A E)) 4 [(0, .ref (E.2.1 13 k)), (1, .int a1), (2, .int a2), (3, .int a3)] [] z := by
    intro n
    induction n with
    | zero => intro a1 a2 a3 z h; exact absurd h (by simp [fX5_renumbered_L4])
    | succ n ih =>
      intro a1 a2 a3 z h
      rw [fX5_renumbered_L4] at h
      refine zk_iload_n X 3 dX5_renumbered_4 rfl rfl ?_
      refine zk_aload_n X 0 dX5_renumbered_5 rfl rfl ?_
      refine zk_get X iX5 (g := 13) (hk) rfl rfl 1 (by decide) w0 rfl dX5_renumbered_6 ?_
      refine zk_icmp_ge X (tgt := 44) dX5_renumbered_9 (by decide) h (fun h => ?_) (fun h => ?_)
      · refine zk_iload_n X 2 dX5_renumbered_44 rfl rfl ?_
        exact zk_ireturn X hr dX5_renumbered_45 h
      · refine zk_iload_n X 3 dX5_renumbered_12 rfl rfl ?_
        refine zk_bipush X (v := 10) dX5_renumbered_13 (by decide) ?_
        refine zk_icmp_ge X (tgt := 44) dX5_renumbered_15 (by decide) h (fun h => ?_) (fun h => ?_)
        · refine zk_iload_n X 2 dX5_renumbered_44 rfl rfl ?_
          exact zk_ireturn X hr dX5_renumbered_45 h
        · refine zk_iload_n X 1 dX5_renumbered_18 rfl rfl ?_
          refine zk_iload_n X 3 dX5_renumbered_19 rfl rfl ?_
          refine zk_ishr X dX5_renumbered_20 ?_
          refine zk_iconst X (v := 1) dX5_renumbered_21 (by decide) ?_
          refine zk_iand X dX5_renumbered_22 ?_
          refine zk_iconst X (v := 1) dX5_renumbered_23 (by decide) ?_
          refine zk_icmp_ne X (tgt := 38) dX5_renumbered_24 (by decide) h (fun h => ?_) (fun h => ?_)
          · refine zk_iload_n X 2 dX5_renumbered_27 rfl rfl ?_
            refine zk_iconst X (v := 1) dX5_renumbered_28 (by decide) ?_
            refine zk_aload_n X 0 dX5_renumbered_29 rfl rfl ?_
            refine zk_get X iX5 (g := 13) (hk) rfl rfl 2 (by decide) w1 rfl dX5_renumbered_30 ?_
            refine zk_iload_n X 3 dX5_renumbered_33 rfl rfl ?_
            refine zk_iald X (g := 14) (hk) rfl dX5_renumbered_34 h (fun h => ?_)
            refine zk_ishl X dX5_renumbered_35 ?_
            refine zk_ior X dX5_renumbered_36 ?_
            refine zk_istore_n X (lv' := [(2, .int (a2 ||| ((1 : Int32) <<< ((z.1 14 k a3.toNatClampNeg) &&& 31)))), (0, .ref (E.2.1 13 k)), (1, .int a1), (3, .int a3)]) dX5_renumbered_37 rfl (by decide) rfl ?_
            exact zk_sub [1, 2, 0, 3] rfl (B38 _ ih _ _ _ _ h)
          · exact zk_sub [0, 1, 2, 3] rfl (B38 _ ih _ _ _ _ h)
  unfold fX5_renumbered at h
  refine zk_iconst X (v := 0) dX5_renumbered_0 (by decide) ?_
  refine zk_istore_n X (lv' := [(2, .int 0), (0, .ref (E.2.1 13 k)), (1, .int x1)]) dX5_renumbered_1 rfl (by decide) rfl ?_
  refine zk_iconst X (v := 0) dX5_renumbered_2 (by decide) ?_
  refine zk_istore_n X (lv' := [(3, .int 0), (2, .int 0), (0, .ref (E.2.1 13 k)), (1, .int x1)]) dX5_renumbered_3 rfl (by decide) rfl ?_
  exact zk_sub [2, 3, 1, 0] rfl (L4  _ _ _ _ _ h)
def fX6_byteHere (z : zk_Z) : Option (Int32 × zk_Z) := if (z.1 1 0 2) < 0 then some ((-1), z) else if (z.1 1 0 1) ≤ (z.1 1 0 2) then some ((-1), z) else if 80 ≤ (z.1 1 0 2) then some ((-1), z) else zk_gd (zk_ix (z.1 1 0 2) 80) (some (z.1 2 0 (z.1 1 0 2).toNatClampNeg, z))
set_option maxRecDepth 100000 in
set_option maxHeartbeats 8000000 in
theorem ct_X6_byteHere (l : Launch) (E : zk_E) (hi : zk_inj E) (z : zk_Z) (r : Int32) (z' : zk_Z) (h : fX6_byteHere   z = some (r, z')) : Met l yX6_byteHere wsX6_byteHere { frames := 0, cells := 0, slots := 0, locals := 0 } (va_Pc [.ref (E.2.1 1 0)] (zk_W E z)) (zk_Qi E r z') 0 0 (zk_A E) := by
  refine zk_met (cc := cX6_byteHere) (maxL := 1) (ret := (some .int)) (own := RX6) (by decide) rfl rfl hi (Nat.le_of_ble_eq_true rfl) ?_
  intro p e s m args below meth c X hr
  have iX6 : ∀ w ∈ u_ws RX6 TX6 4, w ∈ wsX6_byteHere := by decide +kernel
  have w0 : Cond.fieldLink RX6 19 "HiddenWorks$Tape" "place" "I" ∈ wsX6_byteHere := by decide +kernel
  have w1 : Cond.fieldLink RX6 15 "HiddenWorks$Tape" "size" "I" ∈ wsX6_byteHere := by decide +kernel
  have w2 : Cond.fieldLink RX6 9 "HiddenWorks$Tape" "bytes" "[I" ∈ wsX6_byteHere := by decide +kernel
  unfold fX6_byteHere at h
  refine zk_aload_n X 0 dX6_byteHere_0 rfl rfl ?_
  refine zk_get X iX6 (g := 1) (Nat.zero_lt_one) rfl rfl 2 (by decide) w0 rfl dX6_byteHere_1 ?_
  refine zk_if_lt X (tgt := 42) dX6_byteHere_4 (by decide) h (fun h => ?_) (fun h => ?_)
  · refine zk_iconst X (v := -1) dX6_byteHere_42 (by decide) ?_
    exact zk_ireturn X hr dX6_byteHere_43 h
  · refine zk_aload_n X 0 dX6_byteHere_7 rfl rfl ?_
    refine zk_get X iX6 (g := 1) (Nat.zero_lt_one) rfl rfl 2 (by decide) w0 rfl dX6_byteHere_8 ?_
    refine zk_aload_n X 0 dX6_byteHere_11 rfl rfl ?_
    refine zk_get X iX6 (g := 1) (Nat.zero_lt_one) rfl rfl 1 (by decide) w1 rfl dX6_byteHere_12 ?_
    refine zk_icmp_ge X (tgt := 42) dX6_byteHere_15 (by decide) h (fun h => ?_) (fun h => ?_)
    · refine zk_iconst X (v := -1) dX6_byteHere_42 (by decide) ?_
      exact zk_ireturn X hr dX6_byteHere_43 h
    · refine zk_aload_n X 0 dX6_byteHere_18 rfl rfl ?_
      refine zk_get X iX6 (g := 1) (Nat.zero_lt_one) rfl rfl 2 (by decide) w0 rfl dX6_byteHere_19 ?_
      refine zk_aload_n X 0 dX6_byteHere_22 rfl rfl ?_
      refine zk_get X iX6 (g := 1) (Nat.zero_lt_one) rfl rfl 0 (by decide) w2 rfl dX6_byteHere_23 ?_
      refine zk_alen X (v := 80) (g := 2) (Nat.zero_lt_one) rfl (by decide) dX6_byteHere_26 ?_
      refine zk_icmp_ge X (tgt := 42) dX6_byteHere_27 (by decide) h (fun h => ?_) (fun h => ?_)
      · refine zk_iconst X (v := -1) dX6_byteHere_42 (by decide) ?_
        exact zk_ireturn X hr dX6_byteHere_43 h
      · refine zk_aload_n X 0 dX6_byteHere_30 rfl rfl ?_
        refine zk_get X iX6 (g := 1) (Nat.zero_lt_one) rfl rfl 0 (by decide) w2 rfl dX6_byteHere_31 ?_
        refine zk_aload_n X 0 dX6_byteHere_34 rfl rfl ?_
        refine zk_get X iX6 (g := 1) (Nat.zero_lt_one) rfl rfl 2 (by decide) w0 rfl dX6_byteHere_35 ?_
        refine zk_iald X (g := 2) (Nat.zero_lt_one) rfl dX6_byteHere_38 h (fun h => ?_)
        refine zk_goto X (tgt := 43) dX6_byteHere_39 (by decide) ?_
        exact zk_ireturn X hr dX6_byteHere_43 h
def fX6_gap_L27 : Nat → Int32 → zk_Z → Option (Unit × zk_Z)
  | 0, _, _ => none
  | n + 1, a1, z => if 80 ≤ a1 then some ((), z) else zk_bd (fX6_byteHere  z) (fun r4 z3 => if r4 = 32 then (fX6_gap_L27 n) (a1 + 1) (zk_sI z3 1 0 2 ((z3.1 1 0 2) + 1)) else some ((), z3))
def fX6_gap_B25 (z : zk_Z) : Option (Unit × zk_Z) := fX6_gap_L27 zk_FU 0 z
def fX6_gap (z : zk_Z) : Option (Unit × zk_Z) := if (z.1 1 0 3) < 0 then zk_bd (fX6_byteHere  z) (fun r2 z1 => if r2 = 32 then fX6_gap_B25 z1 else fX6_gap_B25 (zk_sI z1 1 0 3 (z1.1 1 0 2))) else some ((), z)
set_option maxRecDepth 100000 in
set_option maxHeartbeats 8000000 in
theorem ct_X6_gap (l : Launch) (E : zk_E) (hi : zk_inj E) (z : zk_Z) (r : Unit) (z' : zk_Z) (h : fX6_gap   z = some (r, z')) : Met l yX6_gap wsX6_gap { frames := 1, cells := 0, slots := 0, locals := 20 } (va_Pc [.ref (E.2.1 1 0)] (zk_W E z)) (zk_Qv E z') 0 0 (zk_A E) := by
  refine zk_met (cc := cX6_gap) (maxL := 2) (ret := none) (own := RX6) (by decide) rfl rfl hi (Nat.le_of_ble_eq_true rfl) ?_
  intro p e s m args below meth c X hr
  have iX6 : ∀ w ∈ u_ws RX6 TX6 4, w ∈ wsX6_gap := by decide +kernel
  have w0 : Cond.fieldLink RX6 22 "HiddenWorks$Tape" "fault" "I" ∈ wsX6_gap := by decide +kernel
  have w1 : Cond.fieldLink RX6 19 "HiddenWorks$Tape" "place" "I" ∈ wsX6_gap := by decide +kernel
  have L27 : ∀ (n : Nat) (a1 : Int32) (z : zk_Z), fX6_gap_L27 n a1 z = some (r, z') → zk_G p l e (headSpec wsX6_gap { frames := 1, cells := 0, slots := 0, locals := 20 }).room s m args below meth c E 2 0 0 (MQ below (zk_Qv E z') args s 0 0 (zk_A E)) 27 [(0, .ref (E.2.1 1 0)), (1, .int a1)] [] z := by
    intro n
    induction n with
    | zero => intro a1 z h; exact absurd h (by simp [fX6_gap_L27])
    | succ n ih =>
      intro a1 z h
      rw [fX6_gap_L27] at h
      refine zk_iload_n X 1 dX6_gap_27 rfl rfl ?_
      refine zk_bipush X (v := 80) dX6_gap_28 (by decide) ?_
      refine zk_icmp_ge X (tgt := 58) dX6_gap_30 (by decide) h (fun h => ?_) (fun h => ?_)
      · exact zk_vreturn X hr dX6_gap_58 h
      · refine zk_aload_n X 0 dX6_gap_33 rfl rfl ?_
        refine zk_vi X h (fun rr zz hf => ct_X6_byteHere l E hi _ rr zz hf) (cwV 0 X.1.2.2.2.2 gX6_gap_X6_byteHere rfl rfl rfl (by decide +kernel) ⟨Nat.le_of_ble_eq_true rfl, Nat.le_of_ble_eq_true rfl⟩) (zk_recv X (g := 1) (Nat.zero_lt_one) rfl rfl) rfl rfl (Nat.le_of_ble_eq_true rfl) dX6_gap_34 (fun r4 z3 h => ?_)
        refine zk_bipush X (v := 32) dX6_gap_37 (by decide) ?_
        refine zk_icmp_ne X (tgt := 58) dX6_gap_39 (by decide) h (fun h => ?_) (fun h => ?_)
        · refine zk_aload_n X 0 dX6_gap_42 rfl rfl ?_
          refine zk_dup X dX6_gap_43 rfl ?_
          refine zk_get X iX6 (g := 1) (Nat.zero_lt_one) rfl rfl 2 (by decide) w1 rfl dX6_gap_44 ?_
          refine zk_iconst X (v := 1) dX6_gap_47 (by decide) ?_
          refine zk_iadd X dX6_gap_48 ?_
          refine zk_putI X (ty := .int) iX6 tyX6 tyX6_ok nmX6 (g := 1) (Nat.zero_lt_one) rfl rfl 2 (by decide) w1 rfl (by decide +kernel) rfl rfl (Nat.le_of_ble_eq_true rfl) rfl dX6_gap_49 ?_
          refine zk_iinc X (lv' := [(1, .int (a1 + 1)), (0, .ref (E.2.1 1 0))]) 1 dX6_gap_52 rfl rfl (by decide) rfl ?_
          refine zk_goto X (tgt := 27) dX6_gap_55 (by decide) ?_
          exact zk_sub [1, 0] rfl (ih _ _ h)
        · exact zk_vreturn X hr dX6_gap_58 h
  have B25 : ∀ (z : zk_Z), fX6_gap_B25 z = some (r, z') → zk_G p l e (headSpec wsX6_gap { frames := 1, cells := 0, slots := 0, locals := 20 }).room s m args below meth c E 2 0 0 (MQ below (zk_Qv E z') args s 0 0 (zk_A E)) 25 [(0, .ref (E.2.1 1 0))] [] z := by
    intro z h
    unfold fX6_gap_B25 at h
    refine zk_iconst X (v := 0) dX6_gap_25 (by decide) ?_
    refine zk_istore_n X (lv' := [(1, .int 0), (0, .ref (E.2.1 1 0))]) dX6_gap_26 rfl (by decide) rfl ?_
    exact zk_sub [1, 0] rfl (L27 _ _ _ h)
  unfold fX6_gap at h
  refine zk_aload_n X 0 dX6_gap_0 rfl rfl ?_
  refine zk_get X iX6 (g := 1) (Nat.zero_lt_one) rfl rfl 3 (by decide) w0 rfl dX6_gap_1 ?_
  refine zk_if_lt X (tgt := 8) dX6_gap_4 (by decide) h (fun h => ?_) (fun h => ?_)
  · refine zk_aload_n X 0 dX6_gap_8 rfl rfl ?_
    refine zk_vi X h (fun rr zz hf => ct_X6_byteHere l E hi   _ rr zz hf) (cwV 0 X.1.2.2.2.2 gX6_gap_X6_byteHere rfl rfl rfl (by decide +kernel) ⟨Nat.le_of_ble_eq_true rfl, Nat.le_of_ble_eq_true rfl⟩) (zk_recv X (g := 1) (Nat.zero_lt_one) rfl rfl) rfl rfl (Nat.le_of_ble_eq_true rfl) dX6_gap_9 (fun r2 z1 h => ?_)
    refine zk_bipush X (v := 32) dX6_gap_12 (by decide) ?_
    refine zk_icmp_eq X (tgt := 25) dX6_gap_14 (by decide) h (fun h => ?_) (fun h => ?_)
    · exact zk_sub [0] rfl (B25   _ h)
    · refine zk_aload_n X 0 dX6_gap_17 rfl rfl ?_
      refine zk_aload_n X 0 dX6_gap_18 rfl rfl ?_
      refine zk_get X iX6 (g := 1) (Nat.zero_lt_one) rfl rfl 2 (by decide) w1 rfl dX6_gap_19 ?_
      refine zk_putI X (ty := .int) iX6 tyX6 tyX6_ok nmX6 (g := 1) (Nat.zero_lt_one) rfl rfl 3 (by decide) w0 rfl (by decide +kernel) rfl rfl (Nat.le_of_ble_eq_true rfl) rfl dX6_gap_22 ?_
      exact zk_sub [0] rfl (B25   _ h)
  · exact zk_vreturn X hr dX6_gap_7 h
def fX6_number_B95 (a3 : Int32) (z : zk_Z) : Option (Int32 × zk_Z) := some (0, zk_sI z 1 0 3 a3)
def fX6_number_B75 (a1 : Int32) (a2 : Int32) (a3 : Int32) (a4 : Int32) (z : zk_Z) : Option (Int32 × zk_Z) := if (z.1 1 0 2) = a3 then fX6_number_B95 a3 z else if a4 < a1 then fX6_number_B95 a3 z else if a4 ≤ a2 then some (a4, z) else fX6_number_B95 a3 z
def fX6_number_L20 : Nat → Int32 → Int32 → Int32 → Int32 → Int32 → zk_Z → Option (Int32 × zk_Z)
  | 0, _, _, _, _, _, _ => none
  | n + 1, a1, a2, a3, a4, a5, z => if 2 ≤ a5 then fX6_number_B75 a1 a2 a3 a4 z else zk_bd (fX6_byteHere  z) (fun r2 z1 => if r2 < 48 then fX6_number_B75 a1 a2 a3 a4 z1 else zk_bd (fX6_byteHere  z1) (fun r4 z3 => if 57 < r4 then fX6_number_B75 a1 a2 a3 a4 z3 else zk_bd (fX6_byteHere  z3) (fun r6 z5 => (fX6_number_L20 n) a1 a2 a3 (((10 * a4) + r6) - 48) (a5 + 1) (zk_sI z5 1 0 2 ((z5.1 1 0 2) + 1)))))
def fX6_number (x1 : Int32) (x2 : Int32) (z : zk_Z) : Option (Int32 × zk_Z) := if (z.1 1 0 3) < 0 then fX6_number_L20 zk_FU x1 x2 (z.1 1 0 2) 0 0 z else some (0, z)
set_option maxRecDepth 100000 in
set_option maxHeartbeats 8000000 in
theorem ct_X6_number (l : Launch) (E : zk_E) (hi : zk_inj E) (x1 : Int32) (x2 : Int32) (z : zk_Z) (r : Int32) (z' : zk_Z) (h : fX6_number  x1 x2 z = some (r, z')) : Met l yX6_number wsX6_number { frames := 1, cells := 0, slots := 0, locals := 20 } (va_Pc [.ref (E.2.1 1 0), .int x1, .int x2] (zk_W E z)) (zk_Qi E r z') 0 0 (zk_A E) := by
  refine zk_met (cc := cX6_number) (maxL := 6) (ret := (some .int)) (own := RX6) (by decide) rfl rfl hi (Nat.le_of_ble_eq_true rfl) ?_
  intro p e s m args below meth c X hr
  have iX6 : ∀ w ∈ u_ws RX6 TX6 4, w ∈ wsX6_number := by decide +kernel
  have w0 : Cond.fieldLink RX6 22 "HiddenWorks$Tape" "fault" "I" ∈ wsX6_number := by decide +kernel
  have w1 : Cond.fieldLink RX6 19 "HiddenWorks$Tape" "place" "I" ∈ wsX6_number := by decide +kernel
  have B95 : ∀ (a3 : Int32) (z : zk_Z), fX6_number_B95 a3 z = some (r, z') → zk_G p l e (headSpec wsX6_number { frames := 1, cells := 0, slots := 0, locals := 20 }).room s m args below meth c E 6 0 0 (MQ below (zk_Qi E r z') args s 0 0 (zk_A E)) 95 [(0, .ref (E.2.1 1 0)), (3, .int a3)] [] z := by
    intro a3 z h
    unfold fX6_number_B95 at h
    refine zk_aload_n X 0 dX6_number_95 rfl rfl ?_
    refine zk_iload_n X 1 dX6_number_96 rfl rfl ?_
    refine zk_putI X (ty := .int) iX6 tyX6 tyX6_ok nmX6 (g := 1) (Nat.zero_lt_one) rfl rfl 3 (by decide) w0 rfl (by decide +kernel) rfl rfl (Nat.le_of_ble_eq_true rfl) rfl dX6_number_97 ?_
    refine zk_iconst X (v := 0) dX6_number_100 (by decide) ?_
    exact zk_ireturn X hr dX6_number_101 h
  have B75 : ∀ (a1 : Int32) (a2 : Int32) (a3 : Int32) (a4 : Int32) (z : zk_Z), fX6_number_B75 a1 a2 a3 a4 z = some (r, z') → zk_G p l e (headSpec wsX6_number { frames := 1, cells := 0, slots := 0, locals := 20 }).room s m args below meth c E 6 0 0 (MQ below (zk_Qi E r z') args s 0 0 (zk_A E)) 75 [(0, .ref (E.2.1 1 0)), (1, .int a1), (2, .int a2), (3, .int a3), (4, .int a4)] [] z := by
    intro a1 a2 a3 a4 z h
    unfold fX6_number_B75 at h
    refine zk_aload_n X 0 dX6_number_75 rfl rfl ?_
    refine zk_get X iX6 (g := 1) (Nat.zero_lt_one) rfl rfl 2 (by decide) w1 rfl dX6_number_76 ?_
    refine zk_iload_n X 3 dX6_number_79 rfl rfl ?_
    refine zk_icmp_eq X (tgt := 95) dX6_number_80 (by decide) h (fun h => ?_) (fun h => ?_)
    · exact zk_sub [0, 3] rfl (B95 _ _ h)
    · refine zk_iload X 4 dX6_number_83 rfl ?_
      refine zk_iload_n X 1 dX6_number_85 rfl rfl ?_
      refine zk_icmp_lt X (tgt := 95) dX6_number_86 (by decide) h (fun h => ?_) (fun h => ?_)
      · exact zk_sub [0, 3] rfl (B95 _ _ h)
      · refine zk_iload X 4 dX6_number_89 rfl ?_
        refine zk_iload_n X 2 dX6_number_91 rfl rfl ?_
        refine zk_icmp_le X (tgt := 102) dX6_number_92 (by decide) h (fun h => ?_) (fun h => ?_)
        · refine zk_iload X 4 dX6_number_102 rfl ?_
          exact zk_ireturn X hr dX6_number_104 h
        · exact zk_sub [0, 3] rfl (B95 _ _ h)
  have L20 : ∀ (n : Nat) (a1 : Int32) (a2 : Int32) (a3 : Int32) (a4 : Int32) (a5 : Int32) (z : zk_Z), fX6_number_L20 n a1 a2 a3 a4 a5 z = some (r, z') → zk_G p l e (headSpec wsX6_number { frames := 1, cells := 0, slots := 0, locals := 20 }).room s m args below meth c E 6 0 0 (MQ below (zk_Qi E r z') args s 0 0 (zk_A E)) 20 [(0, .ref (E.2.1 1 0)), (1, .int a1), (2, .int a2), (3, .int a3), (4, .int a4), (5, .int a5)] [] z := by
    intro n
    induction n with
    | zero => intro a1 a2 a3 a4 a5 z h; exact absurd h (by simp [fX6_number_L20])
    | succ n ih =>
      intro a1 a2 a3 a4 a5 z h
      rw [fX6_number_L20] at h
      refine zk_iload X 5 dX6_number_20 rfl ?_
      refine zk_iconst X (v := 2) dX6_number_22 (by decide) ?_
      refine zk_icmp_ge X (tgt := 75) dX6_number_23 (by decide) h (fun h => ?_) (fun h => ?_)
      · exact zk_sub [0, 1, 2, 3, 4] rfl (B75 _ _ _ _ _ h)
      · refine zk_aload_n X 0 dX6_number_26 rfl rfl ?_
        refine zk_vi X h (fun rr zz hf => ct_X6_byteHere l E hi _ rr zz hf) (cwV 0 X.1.2.2.2.2 gX6_number_X6_byteHere rfl rfl rfl (by decide +kernel) ⟨Nat.le_of_ble_eq_true rfl, Nat.le_of_ble_eq_true rfl⟩) (zk_recv X (g := 1) (Nat.zero_lt_one) rfl rfl) rfl rfl (Nat.le_of_ble_eq_true rfl) dX6_number_27 (fun r2 z1 h => ?_)
        refine zk_bipush X (v := 48) dX6_number_30 (by decide) ?_
        refine zk_icmp_lt X (tgt := 75) dX6_number_32 (by decide) h (fun h => ?_) (fun h => ?_)
        · exact zk_sub [0, 1, 2, 3, 4] rfl (B75 _ _ _ _ _ h)
        · refine zk_aload_n X 0 dX6_number_35 rfl rfl ?_
          refine zk_vi X h (fun rr zz hf => ct_X6_byteHere l E hi _ rr zz hf) (cwV 0 X.1.2.2.2.2 gX6_number_X6_byteHere rfl rfl rfl (by decide +kernel) ⟨Nat.le_of_ble_eq_true rfl, Nat.le_of_ble_eq_true rfl⟩) (zk_recv X (g := 1) (Nat.zero_lt_one) rfl rfl) rfl rfl (Nat.le_of_ble_eq_true rfl) dX6_number_36 (fun r4 z3 h => ?_)
          refine zk_bipush X (v := 57) dX6_number_39 (by decide) ?_
          refine zk_icmp_gt X (tgt := 75) dX6_number_41 (by decide) h (fun h => ?_) (fun h => ?_)
          · exact zk_sub [0, 1, 2, 3, 4] rfl (B75 _ _ _ _ _ h)
          · refine zk_bipush X (v := 10) dX6_number_44 (by decide) ?_
            refine zk_iload X 4 dX6_number_46 rfl ?_
            refine zk_imul X dX6_number_48 ?_
            refine zk_aload_n X 0 dX6_number_49 rfl rfl ?_
            refine zk_vi X h (fun rr zz hf => ct_X6_byteHere l E hi _ rr zz hf) (cwV 0 X.1.2.2.2.2 gX6_number_X6_byteHere rfl rfl rfl (by decide +kernel) ⟨Nat.le_of_ble_eq_true rfl, Nat.le_of_ble_eq_true rfl⟩) (zk_recv X (g := 1) (Nat.zero_lt_one) rfl rfl) rfl rfl (Nat.le_of_ble_eq_true rfl) dX6_number_50 (fun r6 z5 h => ?_)
            refine zk_iadd X dX6_number_53 ?_
            refine zk_bipush X (v := 48) dX6_number_54 (by decide) ?_
            refine zk_isub X dX6_number_56 ?_
            refine zk_istore X (lv' := [(4, .int (((10 * a4) + r6) - 48)), (0, .ref (E.2.1 1 0)), (1, .int a1), (2, .int a2), (3, .int a3), (5, .int a5)]) dX6_number_57 (by decide) rfl ?_
            refine zk_aload_n X 1 dX6_number_59 rfl rfl ?_
            refine zk_dup X dX6_number_60 rfl ?_
            refine zk_get X iX6 (g := 1) (Nat.zero_lt_one) rfl rfl 2 (by decide) w1 rfl dX6_number_61 ?_
            refine zk_iconst X (v := 1) dX6_number_64 (by decide) ?_
            refine zk_iadd X dX6_number_65 ?_
            refine zk_putI X (ty := .int) iX6 tyX6 tyX6_ok nmX6 (g := 1) (Nat.zero_lt_one) rfl rfl 2 (by decide) w1 rfl (by decide +kernel) rfl rfl (Nat.le_of_ble_eq_true rfl) rfl dX6_number_66 ?_
            refine zk_iinc X (lv' := [(5, .int (a5 + 1)), (4, .int (((10 * a4) + r6) - 48)), (0, .ref (E.2.1 1 0)), (1, .int a1), (2, .int a2), (3, .int a3)]) 5 dX6_number_69 rfl rfl (by decide) rfl ?_
            refine zk_goto X (tgt := 20) dX6_number_72 (by decide) ?_
            exact zk_sub [2, 3, 4, 5, 1, 0] rfl (ih _ _ _ _ _ _ h)
  unfold fX6_number at h
  refine zk_aload_n X 0 dX6_number_0 rfl rfl ?_
  refine zk_get X iX6 (g := 1) (Nat.zero_lt_one) rfl rfl 3 (by decide) w0 rfl dX6_number_1 ?_
  refine zk_if_lt X (tgt := 9) dX6_number_4 (by decide) h (fun h => ?_) (fun h => ?_)
  · refine zk_aload_n X 0 dX6_number_9 rfl rfl ?_
    refine zk_get X iX6 (g := 1) (Nat.zero_lt_one) rfl rfl 2 (by decide) w1 rfl dX6_number_10 ?_
    refine zk_istore_n X (lv' := [(3, .int (z.1 1 0 2)), (0, .ref (E.2.1 1 0)), (1, .int x1), (2, .int x2)]) dX6_number_13 rfl (by decide) rfl ?_
    refine zk_iconst X (v := 0) dX6_number_14 (by decide) ?_
    refine zk_istore X (lv' := [(4, .int 0), (3, .int (z.1 1 0 2)), (0, .ref (E.2.1 1 0)), (1, .int x1), (2, .int x2)]) dX6_number_15 (by decide) rfl ?_
    refine zk_iconst X (v := 0) dX6_number_17 (by decide) ?_
    refine zk_istore X (lv' := [(5, .int 0), (4, .int 0), (3, .int (z.1 1 0 2)), (0, .ref (E.2.1 1 0)), (1, .int x1), (2, .int x2)]) dX6_number_18 (by decide) rfl ?_
    exact zk_sub [3, 4, 5, 2, 1, 0] rfl (L20  _ _ _ _ _ _ _ h)
  · refine zk_iconst X (v := 0) dX6_number_7 (by decide) ?_
    exact zk_ireturn X hr dX6_number_8 h
def fX6_named (x1 : Int32) (x2 : Int32) (x3 : Int32) (z : zk_Z) : Option (Int32 × zk_Z) := if (z.1 1 0 3) < 0 then zk_bd (fX6_byteHere  z) (fun r2 z1 => if r2 = x1 then zk_bd (fX6_number x2 x3 (zk_sI z1 1 0 2 ((z1.1 1 0 2) + 1))) (fun r4 z3 => some (r4, z3)) else some (0, zk_sI z1 1 0 3 (z1.1 1 0 2))) else some (0, z)
set_option maxRecDepth 100000 in
set_option maxHeartbeats 8000000 in
theorem ct_X6_named (l : Launch) (E : zk_E) (hi : zk_inj E) (x1 : Int32) (x2 : Int32) (x3 : Int32) (z : zk_Z) (r : Int32) (z' : zk_Z) (h : fX6_named  x1 x2 x3 z = some (r, z')) : Met l yX6_named wsX6_named { frames := 2, cells := 0, slots := 0, locals := 45 } (va_Pc [.ref (E.2.1 1 0), .int x1, .int x2, .int x3] (zk_W E z)) (zk_Qi E r z') 0 0 (zk_A E) := by
  refine zk_met (cc := cX6_named) (maxL := 4) (ret := (some .int)) (own := RX6) (by decide) rfl rfl hi (Nat.le_of_ble_eq_true rfl) ?_
  intro p e s m args below meth c X hr
  have iX6 : ∀ w ∈ u_ws RX6 TX6 4, w ∈ wsX6_named := by decide +kernel
  have w0 : Cond.fieldLink RX6 22 "HiddenWorks$Tape" "fault" "I" ∈ wsX6_named := by decide +kernel
  have w1 : Cond.fieldLink RX6 19 "HiddenWorks$Tape" "place" "I" ∈ wsX6_named := by decide +kernel
  unfold fX6_named at h
  refine zk_aload_n X 0 dX6_named_0 rfl rfl ?_
  refine zk_get X iX6 (g := 1) (Nat.zero_lt_one) rfl rfl 3 (by decide) w0 rfl dX6_named_1 ?_
  refine zk_if_lt X (tgt := 9) dX6_named_4 (by decide) h (fun h => ?_) (fun h => ?_)
  · refine zk_aload_n X 0 dX6_named_9 rfl rfl ?_
    refine zk_vi X h (fun rr zz hf => ct_X6_byteHere l E hi   _ rr zz hf) (cwV 0 X.1.2.2.2.2 gX6_named_X6_byteHere rfl rfl rfl (by decide +kernel) ⟨Nat.le_of_ble_eq_true rfl, Nat.le_of_ble_eq_true rfl⟩) (zk_recv X (g := 1) (Nat.zero_lt_one) rfl rfl) rfl rfl (Nat.le_of_ble_eq_true rfl) dX6_named_10 (fun r2 z1 h => ?_)
    refine zk_iload_n X 1 dX6_named_13 rfl rfl ?_
    refine zk_icmp_eq X (tgt := 27) dX6_named_14 (by decide) h (fun h => ?_) (fun h => ?_)
    · refine zk_aload_n X 0 dX6_named_27 rfl rfl ?_
      refine zk_dup X dX6_named_28 rfl ?_
      refine zk_get X iX6 (g := 1) (Nat.zero_lt_one) rfl rfl 2 (by decide) w1 rfl dX6_named_29 ?_
      refine zk_iconst X (v := 1) dX6_named_32 (by decide) ?_
      refine zk_iadd X dX6_named_33 ?_
      refine zk_putI X (ty := .int) iX6 tyX6 tyX6_ok nmX6 (g := 1) (Nat.zero_lt_one) rfl rfl 2 (by decide) w1 rfl (by decide +kernel) rfl rfl (Nat.le_of_ble_eq_true rfl) rfl dX6_named_34 ?_
      refine zk_aload_n X 0 dX6_named_37 rfl rfl ?_
      refine zk_iload_n X 2 dX6_named_38 rfl rfl ?_
      refine zk_iload_n X 3 dX6_named_39 rfl rfl ?_
      refine zk_vi X h (fun rr zz hf => ct_X6_number l E hi  x2 x3 _ rr zz hf) (cwV 2 X.1.2.2.2.2 gX6_named_X6_number rfl rfl rfl (by decide +kernel) ⟨Nat.le_of_ble_eq_true rfl, Nat.le_of_ble_eq_true rfl⟩) (zk_recv X (g := 1) (Nat.zero_lt_one) rfl rfl) rfl rfl (Nat.le_of_ble_eq_true rfl) dX6_named_40 (fun r4 z3 h => ?_)
      exact zk_ireturn X hr dX6_named_43 h
    · refine zk_aload_n X 0 dX6_named_17 rfl rfl ?_
      refine zk_aload_n X 0 dX6_named_18 rfl rfl ?_
      refine zk_get X iX6 (g := 1) (Nat.zero_lt_one) rfl rfl 2 (by decide) w1 rfl dX6_named_19 ?_
      refine zk_putI X (ty := .int) iX6 tyX6 tyX6_ok nmX6 (g := 1) (Nat.zero_lt_one) rfl rfl 3 (by decide) w0 rfl (by decide +kernel) rfl rfl (Nat.le_of_ble_eq_true rfl) rfl dX6_named_22 ?_
      refine zk_iconst X (v := 0) dX6_named_25 (by decide) ?_
      exact zk_ireturn X hr dX6_named_26 h
  · refine zk_iconst X (v := 0) dX6_named_7 (by decide) ?_
    exact zk_ireturn X hr dX6_named_8 h
def fX6_put (x1 : Int32) (z : zk_Z) : Option (Unit × zk_Z) := if 80 ≤ (z.1 1 0 1) then some ((), z) else zk_gd (zk_ix (z.1 1 0 1) 80) (some ((), zk_sI (zk_sI z 2 0 (z.1 1 0 1).toNatClampNeg x1) 1 0 1 (((zk_sI z 2 0 (z.1 1 0 1).toNatClampNeg x1).1 1 0 1) + 1)))
set_option maxRecDepth 100000 in
set_option maxHeartbeats 8000000 in
theorem ct_X6_put (l : Launch) (E : zk_E) (hi : zk_inj E) (x1 : Int32) (z : zk_Z) (r : Unit) (z' : zk_Z) (h : fX6_put  x1 z = some (r, z')) : Met l yX6_put wsX6_put { frames := 0, cells := 0, slots := 0, locals := 0 } (va_Pc [.ref (E.2.1 1 0), .int x1] (zk_W E z)) (zk_Qv E z') 0 0 (zk_A E) := by
  refine zk_met (cc := cX6_put) (maxL := 2) (ret := none) (own := RX6) (by decide) rfl rfl hi (Nat.le_of_ble_eq_true rfl) ?_
  intro p e s m args below meth c X hr
  have iX6 : ∀ w ∈ u_ws RX6 TX6 4, w ∈ wsX6_put := by decide +kernel
  have w0 : Cond.fieldLink RX6 15 "HiddenWorks$Tape" "size" "I" ∈ wsX6_put := by decide +kernel
  have w1 : Cond.fieldLink RX6 9 "HiddenWorks$Tape" "bytes" "[I" ∈ wsX6_put := by decide +kernel
  unfold fX6_put at h
  refine zk_aload_n X 0 dX6_put_0 rfl rfl ?_
  refine zk_get X iX6 (g := 1) (Nat.zero_lt_one) rfl rfl 1 (by decide) w0 rfl dX6_put_1 ?_
  refine zk_aload_n X 0 dX6_put_4 rfl rfl ?_
  refine zk_get X iX6 (g := 1) (Nat.zero_lt_one) rfl rfl 0 (by decide) w1 rfl dX6_put_5 ?_
  refine zk_alen X (v := 80) (g := 2) (Nat.zero_lt_one) rfl (by decide) dX6_put_8 ?_
  refine zk_icmp_ge X (tgt := 32) dX6_put_9 (by decide) h (fun h => ?_) (fun h => ?_)
  · exact zk_vreturn X hr dX6_put_32 h
  · refine zk_aload_n X 0 dX6_put_12 rfl rfl ?_
    refine zk_get X iX6 (g := 1) (Nat.zero_lt_one) rfl rfl 0 (by decide) w1 rfl dX6_put_13 ?_
    refine zk_aload_n X 0 dX6_put_16 rfl rfl ?_
    refine zk_get X iX6 (g := 1) (Nat.zero_lt_one) rfl rfl 1 (by decide) w0 rfl dX6_put_17 ?_
    refine zk_iload_n X 1 dX6_put_20 rfl rfl ?_
    refine zk_iast X (g := 2) (Nat.zero_lt_one) rfl rfl dX6_put_21 h (fun h => ?_)
    refine zk_aload_n X 0 dX6_put_22 rfl rfl ?_
    refine zk_dup X dX6_put_23 rfl ?_
    refine zk_get X iX6 (g := 1) (Nat.zero_lt_one) rfl rfl 1 (by decide) w0 rfl dX6_put_24 ?_
    refine zk_iconst X (v := 1) dX6_put_27 (by decide) ?_
    refine zk_iadd X dX6_put_28 ?_
    refine zk_putI X (ty := .int) iX6 tyX6 tyX6_ok nmX6 (g := 1) (Nat.zero_lt_one) rfl rfl 1 (by decide) w0 rfl (by decide +kernel) rfl rfl (Nat.le_of_ble_eq_true rfl) rfl dX6_put_29 ?_
    exact zk_vreturn X hr dX6_put_32 h
def fX6_readInto_B171 (k1 : Nat) (z : zk_Z) : Option (Int32 × zk_Z) := some (z.1 1 0 3, z)
def fX6_readInto_B163 (k1 : Nat) (z : zk_Z) : Option (Int32 × zk_Z) := fX6_readInto_B171 k1 (zk_sI z 1 0 3 (z.1 1 0 2))
def fX6_readInto_B138 (k1 : Nat) (z : zk_Z) : Option (Int32 × zk_Z) := if 0 ≤ (z.1 1 0 3) then fX6_readInto_B171 k1 z else if (z.1 1 0 2) < (z.1 1 0 1) then fX6_readInto_B163 k1 z else zk_bd (fX4_allWays k1 z) (fun r16 z15 => if r16 = 0 then fX6_readInto_B163 k1 z15 else fX6_readInto_B171 k1 z15)
def fX6_readInto_B128 (k1 : Nat) (c81 : Int32 → zk_Z → Option (Int32 × zk_Z)) (a2 : Int32) (s0 : Int32) (s1 : Int32) (s3 : Int32) (z : zk_Z) : Option (Int32 × zk_Z) := zk_bd (fX6_number s1 s0 z) (fun r22 z21 => zk_gd (zk_ix s3 4) (c81 (a2 + 1) (zk_sI z21 5 k1 s3.toNatClampNeg r22)))
def fX6_readInto_L81 (k1 : Nat) : Nat → Int32 → zk_Z → Option (Int32 × zk_Z)
  | 0, _, _ => none
  | n + 1, a2, z => if (z.1 4 k1 3) < a2 then fX6_readInto_B138 k1 z else if 0 ≤ (z.1 1 0 3) then fX6_readInto_B138 k1 z else zk_bd (fX6_gap  z) (fun _ z17 => zk_bd (fX2_holds (z17.1 4 k1 0) a2 (z17.1 4 k1 3) z17) (fun r20 z19 => if r20 = 0 then fX6_readInto_B128 k1 (fX6_readInto_L81 k1 n) a2 0 0 a2 z19 else fX6_readInto_B128 k1 (fX6_readInto_L81 k1 n) a2 99 0 a2 z19))
def fX6_readInto (k1 : Nat) (z : zk_Z) : Option (Int32 × zk_Z) := zk_bd (fX6_named 107 0 5 (zk_sI (zk_sI z 1 0 2 0) 1 0 3 (-1))) (fun r2 z1 => zk_bd (fX6_gap  (zk_sI z1 4 k1 0 r2)) (fun _ z3 => zk_bd (fX6_named 110 1 10 z3) (fun r6 z5 => zk_bd (fX6_gap  (zk_sI z5 4 k1 1 r6)) (fun _ z7 => zk_bd (fX6_named 99 0 24 z7) (fun r10 z9 => zk_bd (fX6_gap  (zk_sI z9 4 k1 2 r10)) (fun _ z11 => zk_bd (fX6_named 119 1 (if (z11.1 4 k1 1) < 3 then z11.1 4 k1 1 else 3) z11) (fun r14 z13 => fX6_readInto_L81 k1 zk_FU 0 (zk_sI z13 4 k1 3 r14))))))))
set_option maxRecDepth 100000 in
set_option maxHeartbeats 8000000 in
theorem ct_X6_readInto (l : Launch) (E : zk_E) (hi : zk_inj E) (k1 : Nat) (hk1 : k1 < zk_cnt 4) (z : zk_Z) (r : Int32) (z' : zk_Z) (h : fX6_readInto k1  z = some (r, z')) : Met l yX6_readInto wsX6_readInto { frames := 3, cells := 0, slots := 0, locals := 68 } (va_Pc [.ref (E.2.1 1 0), .ref (E.2.1 4 k1)] (zk_W E z)) (zk_Qi E r z') 0 0 (zk_A E) := by
  refine zk_met (cc := cX6_readInto) (maxL := 3) (ret := (some .int)) (own := RX6) (by decide) rfl rfl hi (Nat.le_of_ble_eq_true rfl) ?_
  intro p e s m args below meth c X hr
  have iX4 : ∀ w ∈ u_ws RX4 TX4 5, w ∈ wsX6_readInto := by decide +kernel
  have iX6 : ∀ w ∈ u_ws RX6 TX6 4, w ∈ wsX6_readInto := by decide +kernel
  have w0 : Cond.fieldLink RX6 19 "HiddenWorks$Tape" "place" "I" ∈ wsX6_readInto := by decide +kernel
  have w1 : Cond.fieldLink RX6 22 "HiddenWorks$Tape" "fault" "I" ∈ wsX6_readInto := by decide +kernel
  have w2 : Cond.fieldLink RX6 31 "HiddenWorks$Recipe" "kind" "I" ∈ wsX6_readInto := by decide +kernel
  have w3 : Cond.fieldLink RX6 39 "HiddenWorks$Recipe" "letters" "I" ∈ wsX6_readInto := by decide +kernel
  have w4 : Cond.fieldLink RX6 42 "HiddenWorks$Recipe" "clauses" "I" ∈ wsX6_readInto := by decide +kernel
  have w5 : Cond.methodLink RX6 45 Lib.Math.min.name ∈ wsX6_readInto := by decide +kernel
  have w6 : Cond.static Lib.Math.min.name ∈ wsX6_readInto := by decide +kernel
  have w7 : Cond.initialized "java/lang/Math" ∈ wsX6_readInto := by decide +kernel
  have w8 : Cond.code Lib.Math.min.name Lib.Math.min.code 2 (some .int) ∈ wsX6_readInto := by decide +kernel
  have w9 : Cond.fieldLink RX6 51 "HiddenWorks$Recipe" "wide" "I" ∈ wsX6_readInto := by decide +kernel
  have w10 : Cond.fieldLink RX6 15 "HiddenWorks$Tape" "size" "I" ∈ wsX6_readInto := by decide +kernel
  have w11 : Cond.fieldLink RX6 54 "HiddenWorks$Recipe" "weights" "[I" ∈ wsX6_readInto := by decide +kernel
  have B171 : ∀ (z : zk_Z), fX6_readInto_B171 k1 z = some (r, z') → zk_G p l e (headSpec wsX6_readInto { frames := 3, cells := 0, slots := 0, locals := 68 }).room s m args below meth c E 3 0 0 (MQ below (zk_Qi E r z') args s 0 0 (zk_A E)) 171 [(0, .ref (E.2.1 1 0))] [] z := by
    intro z h
    unfold fX6_readInto_B171 at h
    refine zk_aload_n X 0 dX6_readInto_171 rfl rfl ?_
    refine zk_get X iX6 (g := 1) (Nat.zero_lt_one) rfl rfl 3 (by decide) w1 rfl dX6_readInto_172 ?_
    exact zk_ireturn X hr dX6_readInto_175 h
  have B163 : ∀ (z : zk_Z), fX6_readInto_B163 k1 z = some (r, z') → zk_G p l e (headSpec wsX6_readInto { frames := 3, cells := 0, slots := 0, locals := 68 }).room s m args below meth c E 3 0 0 (MQ below (zk_Qi E r z') args s 0 0 (zk_A E)) 163 [(0, .ref (E.2.1 1 0))] [] z := by
    intro z h
    unfold fX6_readInto_B163 at h
    refine zk_aload_n X 0 dX6_readInto_163 rfl rfl ?_
    refine zk_aload_n X 0 dX6_readInto_164 rfl rfl ?_
    refine zk_get X iX6 (g := 1) (Nat.zero_lt_one) rfl rfl 2 (by decide) w0 rfl dX6_readInto_165 ?_
    refine zk_putI X (ty := .int) iX6 tyX6 tyX6_ok nmX6 (g := 1) (Nat.zero_lt_one) rfl rfl 3 (by decide) w1 rfl (by decide +kernel) rfl rfl (Nat.le_of_ble_eq_true rfl) rfl dX6_readInto_168 ?_
    exact zk_sub [0] rfl (B171 _ h)
  have B138 : ∀ (z : zk_Z), fX6_readInto_B138 k1 z = some (r, z') → zk_G p l e (headSpec wsX6_readInto { frames := 3, cells := 0, slots := 0, locals := 68 }).room s m args below meth c E 3 0 0 (MQ below (zk_Qi E r z') args s 0 0 (zk_A E)) 138 [(0, .ref (E.2.1 1 0)), (1, .ref (E.2.1 4 k1))] [] z := by
    intro z h
    unfold fX6_readInto_B138 at h
    refine zk_aload_n X 0 dX6_readInto_138 rfl rfl ?_
    refine zk_get X iX6 (g := 1) (Nat.zero_lt_one) rfl rfl 3 (by decide) w1 rfl dX6_readInto_139 ?_
    refine zk_if_ge X (tgt := 171) dX6_readInto_142 (by decide) h (fun h => ?_) (fun h => ?_)
    · exact zk_sub [0] rfl (B171 _ h)
    · refine zk_aload_n X 0 dX6_readInto_145 rfl rfl ?_
      refine zk_get X iX6 (g := 1) (Nat.zero_lt_one) rfl rfl 2 (by decide) w0 rfl dX6_readInto_146 ?_
      refine zk_aload_n X 0 dX6_readInto_149 rfl rfl ?_
      refine zk_get X iX6 (g := 1) (Nat.zero_lt_one) rfl rfl 1 (by decide) w10 rfl dX6_readInto_150 ?_
      refine zk_icmp_lt X (tgt := 163) dX6_readInto_153 (by decide) h (fun h => ?_) (fun h => ?_)
      · exact zk_sub [0] rfl (B163 _ h)
      · refine zk_aload_n X 1 dX6_readInto_156 rfl rfl ?_
        refine zk_vi X h (fun rr zz hf => ct_X4_allWays l E hi k1 (hk1) _ rr zz hf) (cwV 0 X.1.2.2.2.2 gX6_readInto_X4_allWays rfl rfl rfl (by decide +kernel) ⟨Nat.le_of_ble_eq_true rfl, Nat.le_of_ble_eq_true rfl⟩) (zk_recv X (g := 4) (hk1) rfl rfl) rfl rfl (Nat.le_of_ble_eq_true rfl) dX6_readInto_157 (fun r16 z15 h => ?_)
        refine zk_if_ne X (tgt := 171) dX6_readInto_160 (by decide) h (fun h => ?_) (fun h => ?_)
        · exact zk_sub [0] rfl (B163 _ h)
        · exact zk_sub [0] rfl (B171 _ h)
  have B128 : ∀ (c81 : Int32 → zk_Z → Option (Int32 × zk_Z)) (hc81 : ∀ (a2 : Int32) (z : zk_Z), c81 a2 z = some (r, z') → zk_G p l e (headSpec wsX6_readInto { frames := 3, cells := 0, slots := 0, locals := 68 }).room s m args below meth c E 3 0 0 (MQ below (zk_Qi E r z') args s 0 0 (zk_A E)) 81 [(0, .ref (E.2.1 1 0)), (1, .ref (E.2.1 4 k1)), (2, .int a2)] [] z) (a2 : Int32) (s0 : Int32) (s1 : Int32) (s3 : Int32) (z : zk_Z), fX6_readInto_B128 k1 c81 a2 s0 s1 s3 z = some (r, z') → zk_G p l e (headSpec wsX6_readInto { frames := 3, cells := 0, slots := 0, locals := 68 }).room s m args below meth c E 3 0 0 (MQ below (zk_Qi E r z') args s 0 0 (zk_A E)) 128 [(0, .ref (E.2.1 1 0)), (1, .ref (E.2.1 4 k1)), (2, .int a2)] [.int s0, .int s1, .ref (E.2.1 1 0), .int s3, .ref (E.2.1 5 k1)] z := by
    intro c81 hc81 a2 s0 s1 s3 z h
    unfold fX6_readInto_B128 at h
    refine zk_vi X h (fun rr zz hf => ct_X6_number l E hi s1 s0 _ rr zz hf) (cwV 2 X.1.2.2.2.2 gX6_readInto_X6_number rfl rfl rfl (by decide +kernel) ⟨Nat.le_of_ble_eq_true rfl, Nat.le_of_ble_eq_true rfl⟩) (zk_recv X (g := 1) (Nat.zero_lt_one) rfl rfl) rfl rfl (Nat.le_of_ble_eq_true rfl) dX6_readInto_128 (fun r22 z21 h => ?_)
    refine zk_iast X (g := 5) (hk1) rfl rfl dX6_readInto_131 h (fun h => ?_)
    refine zk_iinc X (lv' := [(2, .int (a2 + 1)), (0, .ref (E.2.1 1 0)), (1, .ref (E.2.1 4 k1))]) 2 dX6_readInto_132 rfl rfl (by decide) rfl ?_
    refine zk_goto X (tgt := 81) dX6_readInto_135 (by decide) ?_
    exact zk_sub [1, 2, 0] rfl (hc81 _ _ h)
  have L81 : ∀ (n : Nat) (a2 : Int32) (z : zk_Z), fX6_readInto_L81 k1 n a2 z = some (r, z') → zk_G p l e (headSpec wsX6_readInto { frames := 3, cells := 0, slots := 0, locals := 68 }).room s m args below meth c E 3 0 0 (MQ below (zk_Qi E r z') args s 0 0 (zk_A E)) 81 [(0, .ref (E.2.1 1 0)), (1, .ref (E.2.1 4 k1)), (2, .int a2)] [] z := by
    intro n
    induction n with
    | zero => intro a2 z h; exact absurd h (by simp [fX6_readInto_L81])
    | succ n ih =>
      intro a2 z h
      rw [fX6_readInto_L81] at h
      refine zk_iload_n X 2 dX6_readInto_81 rfl rfl ?_
      refine zk_aload_n X 1 dX6_readInto_82 rfl rfl ?_
      refine zk_get X iX4 (g := 4) (hk1) rfl rfl 3 (by decide) w9 rfl dX6_readInto_83 ?_
      refine zk_icmp_gt X (tgt := 138) dX6_readInto_86 (by decide) h (fun h => ?_) (fun h => ?_)
      · exact zk_sub [0, 1] rfl (B138 _ h)
      · refine zk_aload_n X 0 dX6_readInto_89 rfl rfl ?_
        refine zk_get X iX6 (g := 1) (Nat.zero_lt_one) rfl rfl 3 (by decide) w1 rfl dX6_readInto_90 ?_
        refine zk_if_ge X (tgt := 138) dX6_readInto_93 (by decide) h (fun h => ?_) (fun h => ?_)
        · exact zk_sub [0, 1] rfl (B138 _ h)
        · refine zk_aload_n X 0 dX6_readInto_96 rfl rfl ?_
          refine zk_vv X h (fun rr zz hf => ct_X6_gap l E hi _ rr zz hf) (cwV 0 X.1.2.2.2.2 gX6_readInto_X6_gap rfl rfl rfl (by decide +kernel) ⟨Nat.le_of_ble_eq_true rfl, Nat.le_of_ble_eq_true rfl⟩) (zk_recv X (g := 1) (Nat.zero_lt_one) rfl rfl) rfl rfl (Nat.le_of_ble_eq_true rfl) dX6_readInto_97 (fun z17 h => ?_)
          refine zk_aload_n X 1 dX6_readInto_100 rfl rfl ?_
          refine zk_get X iX4 (g := 4) (hk1) rfl rfl 4 (by decide) w11 rfl dX6_readInto_101 ?_
          refine zk_iload_n X 2 dX6_readInto_104 rfl rfl ?_
          refine zk_aload_n X 0 dX6_readInto_105 rfl rfl ?_
          refine zk_iconst X (v := 0) dX6_readInto_106 (by decide) ?_
          refine zk_aload_n X 1 dX6_readInto_107 rfl rfl ?_
          refine zk_get X iX4 (g := 4) (hk1) rfl rfl 0 (by decide) w2 rfl dX6_readInto_108 ?_
          refine zk_iload_n X 2 dX6_readInto_111 rfl rfl ?_
          refine zk_aload_n X 1 dX6_readInto_112 rfl rfl ?_
          refine zk_get X iX4 (g := 4) (hk1) rfl rfl 3 (by decide) w9 rfl dX6_readInto_113 ?_
          refine zk_si X h (fun rr zz hf => ct_X2_holds l E hi (z17.1 4 k1 0) a2 (z17.1 4 k1 3) _ rr zz hf) (va_cwS 3 X.1.2.2.2.2 gX6_readInto_X2_holds rfl rfl rfl (by decide +kernel) ⟨Nat.le_of_ble_eq_true rfl, Nat.le_of_ble_eq_true rfl⟩) rfl rfl (Nat.le_of_ble_eq_true rfl) dX6_readInto_116 (fun r20 z19 h => ?_)
          refine zk_if_eq X (tgt := 127) dX6_readInto_119 (by decide) h (fun h => ?_) (fun h => ?_)
          · refine zk_iconst X (v := 0) dX6_readInto_127 (by decide) ?_
            exact zk_sub [0, 1, 2] rfl (B128 _ ih _ _ _ _ _ h)
          · refine zk_bipush X (v := 99) dX6_readInto_122 (by decide) ?_
            refine zk_goto X (tgt := 128) dX6_readInto_124 (by decide) ?_
            exact zk_sub [0, 1, 2] rfl (B128 _ ih _ _ _ _ _ h)
  unfold fX6_readInto at h
  refine zk_aload_n X 0 dX6_readInto_0 rfl rfl ?_
  refine zk_iconst X (v := 0) dX6_readInto_1 (by decide) ?_
  refine zk_putI X (ty := .int) iX6 tyX6 tyX6_ok nmX6 (g := 1) (Nat.zero_lt_one) rfl rfl 2 (by decide) w0 rfl (by decide +kernel) rfl rfl (Nat.le_of_ble_eq_true rfl) rfl dX6_readInto_2 ?_
  refine zk_aload_n X 0 dX6_readInto_5 rfl rfl ?_
  refine zk_iconst X (v := -1) dX6_readInto_6 (by decide) ?_
  refine zk_putI X (ty := .int) iX6 tyX6 tyX6_ok nmX6 (g := 1) (Nat.zero_lt_one) rfl rfl 3 (by decide) w1 rfl (by decide +kernel) rfl rfl (Nat.le_of_ble_eq_true rfl) rfl dX6_readInto_7 ?_
  refine zk_aload_n X 1 dX6_readInto_10 rfl rfl ?_
  refine zk_aload_n X 0 dX6_readInto_11 rfl rfl ?_
  refine zk_bipush X (v := 107) dX6_readInto_12 (by decide) ?_
  refine zk_iconst X (v := 0) dX6_readInto_14 (by decide) ?_
  refine zk_iconst X (v := 5) dX6_readInto_15 (by decide) ?_
  refine zk_vi X h (fun rr zz hf => ct_X6_named l E hi  107 0 5 _ rr zz hf) (cwV 3 X.1.2.2.2.2 gX6_readInto_X6_named rfl rfl rfl (by decide +kernel) ⟨Nat.le_of_ble_eq_true rfl, Nat.le_of_ble_eq_true rfl⟩) (zk_recv X (g := 1) (Nat.zero_lt_one) rfl rfl) rfl rfl (Nat.le_of_ble_eq_true rfl) dX6_readInto_16 (fun r2 z1 h => ?_)
  refine zk_putI X (ty := .int) iX4 tyX4 tyX4_ok nmX4 (g := 4) (hk1) rfl rfl 0 (by decide) w2 rfl (by decide +kernel) rfl rfl (Nat.le_of_ble_eq_true rfl) rfl dX6_readInto_19 ?_
  refine zk_aload_n X 0 dX6_readInto_22 rfl rfl ?_
  refine zk_vv X h (fun rr zz hf => ct_X6_gap l E hi   _ rr zz hf) (cwV 0 X.1.2.2.2.2 gX6_readInto_X6_gap rfl rfl rfl (by decide +kernel) ⟨Nat.le_of_ble_eq_true rfl, Nat.le_of_ble_eq_true rfl⟩) (zk_recv X (g := 1) (Nat.zero_lt_one) rfl rfl) rfl rfl (Nat.le_of_ble_eq_true rfl) dX6_readInto_23 (fun z3 h => ?_)
  refine zk_aload_n X 1 dX6_readInto_26 rfl rfl ?_
  refine zk_aload_n X 0 dX6_readInto_27 rfl rfl ?_
  refine zk_bipush X (v := 110) dX6_readInto_28 (by decide) ?_
  refine zk_iconst X (v := 1) dX6_readInto_30 (by decide) ?_
  refine zk_bipush X (v := 10) dX6_readInto_31 (by decide) ?_
  refine zk_vi X h (fun rr zz hf => ct_X6_named l E hi  110 1 10 _ rr zz hf) (cwV 3 X.1.2.2.2.2 gX6_readInto_X6_named rfl rfl rfl (by decide +kernel) ⟨Nat.le_of_ble_eq_true rfl, Nat.le_of_ble_eq_true rfl⟩) (zk_recv X (g := 1) (Nat.zero_lt_one) rfl rfl) rfl rfl (Nat.le_of_ble_eq_true rfl) dX6_readInto_33 (fun r6 z5 h => ?_)
  refine zk_putI X (ty := .int) iX4 tyX4 tyX4_ok nmX4 (g := 4) (hk1) rfl rfl 1 (by decide) w3 rfl (by decide +kernel) rfl rfl (Nat.le_of_ble_eq_true rfl) rfl dX6_readInto_36 ?_
  refine zk_aload_n X 0 dX6_readInto_39 rfl rfl ?_
  refine zk_vv X h (fun rr zz hf => ct_X6_gap l E hi   _ rr zz hf) (cwV 0 X.1.2.2.2.2 gX6_readInto_X6_gap rfl rfl rfl (by decide +kernel) ⟨Nat.le_of_ble_eq_true rfl, Nat.le_of_ble_eq_true rfl⟩) (zk_recv X (g := 1) (Nat.zero_lt_one) rfl rfl) rfl rfl (Nat.le_of_ble_eq_true rfl) dX6_readInto_40 (fun z7 h => ?_)
  refine zk_aload_n X 1 dX6_readInto_43 rfl rfl ?_
  refine zk_aload_n X 0 dX6_readInto_44 rfl rfl ?_
  refine zk_bipush X (v := 99) dX6_readInto_45 (by decide) ?_
  refine zk_iconst X (v := 0) dX6_readInto_47 (by decide) ?_
  refine zk_bipush X (v := 24) dX6_readInto_48 (by decide) ?_
  refine zk_vi X h (fun rr zz hf => ct_X6_named l E hi  99 0 24 _ rr zz hf) (cwV 3 X.1.2.2.2.2 gX6_readInto_X6_named rfl rfl rfl (by decide +kernel) ⟨Nat.le_of_ble_eq_true rfl, Nat.le_of_ble_eq_true rfl⟩) (zk_recv X (g := 1) (Nat.zero_lt_one) rfl rfl) rfl rfl (Nat.le_of_ble_eq_true rfl) dX6_readInto_50 (fun r10 z9 h => ?_)
  refine zk_putI X (ty := .int) iX4 tyX4 tyX4_ok nmX4 (g := 4) (hk1) rfl rfl 2 (by decide) w4 rfl (by decide +kernel) rfl rfl (Nat.le_of_ble_eq_true rfl) rfl dX6_readInto_53 ?_
  refine zk_aload_n X 0 dX6_readInto_56 rfl rfl ?_
  refine zk_vv X h (fun rr zz hf => ct_X6_gap l E hi   _ rr zz hf) (cwV 0 X.1.2.2.2.2 gX6_readInto_X6_gap rfl rfl rfl (by decide +kernel) ⟨Nat.le_of_ble_eq_true rfl, Nat.le_of_ble_eq_true rfl⟩) (zk_recv X (g := 1) (Nat.zero_lt_one) rfl rfl) rfl rfl (Nat.le_of_ble_eq_true rfl) dX6_readInto_57 (fun z11 h => ?_)
  refine zk_aload_n X 1 dX6_readInto_60 rfl rfl ?_
  refine zk_aload_n X 0 dX6_readInto_61 rfl rfl ?_
  refine zk_bipush X (v := 119) dX6_readInto_62 (by decide) ?_
  refine zk_iconst X (v := 1) dX6_readInto_64 (by decide) ?_
  refine zk_iconst X (v := 3) dX6_readInto_65 (by decide) ?_
  refine zk_aload_n X 1 dX6_readInto_66 rfl rfl ?_
  refine zk_get X iX4 (g := 4) (hk1) rfl rfl 1 (by decide) w3 rfl dX6_readInto_67 ?_
  refine zk_min X w5 w6 w7 w8 (Nat.le_of_ble_eq_true rfl) (Nat.le_of_ble_eq_true rfl) dX6_readInto_70 ?_
  refine zk_vi X h (fun rr zz hf => ct_X6_named l E hi  119 1 (if (z11.1 4 k1 1) < 3 then z11.1 4 k1 1 else 3) _ rr zz hf) (cwV 3 X.1.2.2.2.2 gX6_readInto_X6_named rfl rfl rfl (by decide +kernel) ⟨Nat.le_of_ble_eq_true rfl, Nat.le_of_ble_eq_true rfl⟩) (zk_recv X (g := 1) (Nat.zero_lt_one) rfl rfl) rfl rfl (Nat.le_of_ble_eq_true rfl) dX6_readInto_73 (fun r14 z13 h => ?_)
  refine zk_putI X (ty := .int) iX4 tyX4 tyX4_ok nmX4 (g := 4) (hk1) rfl rfl 3 (by decide) w9 rfl (by decide +kernel) rfl rfl (Nat.le_of_ble_eq_true rfl) rfl dX6_readInto_76 ?_
  refine zk_iconst X (v := 0) dX6_readInto_79 (by decide) ?_
  refine zk_istore_n X (lv' := [(2, .int 0), (0, .ref (E.2.1 1 0)), (1, .ref (E.2.1 4 k1))]) dX6_readInto_80 rfl (by decide) rfl ?_
  exact zk_sub [1, 2, 0] rfl (L81  _ _ _ h)
def fX7_countAnswers_B34 (k : Nat) (c5 : Int32 → Int32 → Int32 → Int32 → zk_Z → Option (Int32 × zk_Z)) (a1 : Int32) (a2 : Int32) (a3 : Int32) (a4 : Int32) (z : zk_Z) : Option (Int32 × zk_Z) := c5 a1 a2 a3 (a4 + 1) z
def fX7_countAnswers_L5 (k : Nat) : Nat → Int32 → Int32 → Int32 → Int32 → zk_Z → Option (Int32 × zk_Z)
  | 0, _, _, _, _, _ => none
  | n + 1, a1, a2, a3, a4, z => zk_bd (fX7_rows k z) (fun r2 z1 => if r2 ≤ a4 then some (a3, z1) else if (a4 &&& a1) = a2 then zk_bd (fX7_isSolvedBy k a4 z1) (fun r4 z3 => if r4 = 0 then fX7_countAnswers_B34 k (fX7_countAnswers_L5 k n) a1 a2 a3 a4 z3 else fX7_countAnswers_B34 k (fX7_countAnswers_L5 k n) a1 a2 (a3 + 1) a4 z3) else fX7_countAnswers_B34 k (fX7_countAnswers_L5 k n) a1 a2 a3 a4 z1)
def fX7_countAnswers (k : Nat) (x1 : Int32) (x2 : Int32) (z : zk_Z) : Option (Int32 × zk_Z) := fX7_countAnswers_L5 k zk_FU x1 x2 0 0 z
set_option maxRecDepth 100000 in
set_option maxHeartbeats 8000000 in
theorem ct_X7_countAnswers (l : Launch) (E : zk_E) (hi : zk_inj E) (k : Nat) (hk : k < zk_cnt 7) (x1 : Int32) (x2 : Int32) (z : zk_Z) (r : Int32) (z' : zk_Z) (h : fX7_countAnswers k x1 x2 z = some (r, z')) : Met l yX7_countAnswers wsX7_countAnswers { frames := 5, cells := 0, slots := 0, locals := 108 } (va_Pc [.ref (E.2.1 7 k), .int x1, .int x2] (zk_W E z)) (zk_Qi E r z') 0 0 (zk_A E) := by
  refine zk_met (cc := cX7_countAnswers) (maxL := 5) (ret := (some .int)) (own := RX7) (by decide) rfl rfl hi (Nat.le_of_ble_eq_true rfl) ?_
  intro p e s m args below meth c X hr
  have B34 : ∀ (c5 : Int32 → Int32 → Int32 → Int32 → zk_Z → Option (Int32 × zk_Z)) (hc5 : ∀ (a1 : Int32) (a2 : Int32) (a3 : Int32) (a4 : Int32) (z : zk_Z), c5 a1 a2 a3 a4 z = some (r, z') → zk_G p l e (headSpec wsX7_countAnswers { frames := 5, cells := 0, slots := 0, locals := 108 }).room s m args below meth c E 5 0 0 (MQ below (zk_Qi E r z') args s 0 0 (zk_A E)) 5 [(0, .ref (E.2.1 7 k)), (1, .int a1), (2, .int a2), (3, .int a3), (4, .int a4)] [] z) (a1 : Int32) (a2 : Int32) (a3 : Int32) (a4 : Int32) (z : zk_Z), fX7_countAnswers_B34 k c5 a1 a2 a3 a4 z = some (r, z') → zk_G p l e (headSpec wsX7_countAnswers { frames := 5, cells := 0, slots := 0, locals := 108 }).room s m args below meth c E 5 0 0 (MQ below (zk_Qi E r z') args s 0 0 (zk_A E)) 34 [(0, .ref (E.2.1 7 k)), (1, .int a1), (2, .int a2), (3, .int a3), (4, .int a4)] [] z := by
    intro c5 hc5 a1 a2 a3 a4 z h
    unfold fX7_countAnswers_B34 at h
    refine zk_iinc X (lv' := [(4, .int (a4 + 1)), (0, .ref (E.2.1 7 k)), (1, .int a1), (2, .int a2), (3, .int a3)]) 4 dX7_countAnswers_34 rfl rfl (by decide) rfl ?_
    refine zk_goto X (tgt := 5) dX7_countAnswers_37 (by decide) ?_
    exact zk_sub [1, 2, 3, 4, 0] rfl (hc5 _ _ _ _ _ h)
  have L5 : ∀ (n : Nat) (a1 : Int32) (a2 : Int32) (a3 : Int32) (a4 : Int32) (z : zk_Z), fX7_countAnswers_L5 k n a1 a2 a3 a4 z = some (r, z') → zk_G p l e (headSpec wsX7_countAnswers { frames := 5, cells := 0, slots := 0, locals := 108 }).room s m args below meth c E 5 0 0 (MQ below (zk_Qi E r z') args s 0 0 (zk_A E)) 5 [(0, .ref (E.2.1 7 k)), (1, .int a1), (2, .int a2), (3, .int a3), (4, .int a4)] [] z := by
    intro n
    induction n with
    | zero => intro a1 a2 a3 a4 z h; exact absurd h (by simp [fX7_countAnswers_L5])
    | succ n ih =>
      intro a1 a2 a3 a4 z h
      rw [fX7_countAnswers_L5] at h
      refine zk_iload X 4 dX7_countAnswers_5 rfl ?_
      refine zk_aload_n X 0 dX7_countAnswers_7 rfl rfl ?_
      refine zk_vi X h (fun rr zz hf => ct_X7_rows l E hi k (hk) _ rr zz hf) (cwV 0 X.1.2.2.2.2 gX7_countAnswers_X7_rows rfl rfl rfl (by decide +kernel) ⟨Nat.le_of_ble_eq_true rfl, Nat.le_of_ble_eq_true rfl⟩) (zk_recv X (g := 7) (hk) rfl rfl) rfl rfl (Nat.le_of_ble_eq_true rfl) dX7_countAnswers_8 (fun r2 z1 h => ?_)
      refine zk_icmp_ge X (tgt := 40) dX7_countAnswers_11 (by decide) h (fun h => ?_) (fun h => ?_)
      · refine zk_iload_n X 3 dX7_countAnswers_40 rfl rfl ?_
        exact zk_ireturn X hr dX7_countAnswers_41 h
      · refine zk_iload X 4 dX7_countAnswers_14 rfl ?_
        refine zk_iload_n X 1 dX7_countAnswers_16 rfl rfl ?_
        refine zk_iand X dX7_countAnswers_17 ?_
        refine zk_iload_n X 2 dX7_countAnswers_18 rfl rfl ?_
        refine zk_icmp_ne X (tgt := 34) dX7_countAnswers_19 (by decide) h (fun h => ?_) (fun h => ?_)
        · refine zk_aload_n X 0 dX7_countAnswers_22 rfl rfl ?_
          refine zk_iload X 4 dX7_countAnswers_23 rfl ?_
          refine zk_vi X h (fun rr zz hf => ct_X7_isSolvedBy l E hi k (hk) a4 _ rr zz hf) (cwV 1 X.1.2.2.2.2 gX7_countAnswers_X7_isSolvedBy rfl rfl rfl (by decide +kernel) ⟨Nat.le_of_ble_eq_true rfl, Nat.le_of_ble_eq_true rfl⟩) (zk_recv X (g := 7) (hk) rfl rfl) rfl rfl (Nat.le_of_ble_eq_true rfl) dX7_countAnswers_25 (fun r4 z3 h => ?_)
          refine zk_if_eq X (tgt := 34) dX7_countAnswers_28 (by decide) h (fun h => ?_) (fun h => ?_)
          · exact zk_sub [0, 1, 2, 3, 4] rfl (B34 _ ih _ _ _ _ _ h)
          · refine zk_iinc X (lv' := [(3, .int (a3 + 1)), (0, .ref (E.2.1 7 k)), (1, .int a1), (2, .int a2), (4, .int a4)]) 3 dX7_countAnswers_31 rfl rfl (by decide) rfl ?_
            exact zk_sub [1, 2, 3, 0, 4] rfl (B34 _ ih _ _ _ _ _ h)
        · exact zk_sub [0, 1, 2, 3, 4] rfl (B34 _ ih _ _ _ _ _ h)
  unfold fX7_countAnswers at h
  refine zk_iconst X (v := 0) dX7_countAnswers_0 (by decide) ?_
  refine zk_istore_n X (lv' := [(3, .int 0), (0, .ref (E.2.1 7 k)), (1, .int x1), (2, .int x2)]) dX7_countAnswers_1 rfl (by decide) rfl ?_
  refine zk_iconst X (v := 0) dX7_countAnswers_2 (by decide) ?_
  refine zk_istore X (lv' := [(4, .int 0), (3, .int 0), (0, .ref (E.2.1 7 k)), (1, .int x1), (2, .int x2)]) dX7_countAnswers_3 (by decide) rfl ?_
  exact zk_sub [2, 3, 4, 1, 0] rfl (L5  _ _ _ _ _ _ h)
def fX7_sign_L4 (k : Nat) : Nat → Int32 → Int32 → zk_Z → Option (Int32 × zk_Z)
  | 0, _, _, _ => none
  | n + 1, a1, a2, z => if (z.1 7 k 1) ≤ a2 then some (a1, z) else zk_bd (fX7_excess k a2 z) (fun r2 z1 => (fX7_sign_L4 k n) (a1 + (r2 * r2)) (a2 + 1) z1)
def fX7_sign (k : Nat) (z : zk_Z) : Option (Int32 × zk_Z) := fX7_sign_L4 k zk_FU 0 0 z
set_option maxRecDepth 100000 in
set_option maxHeartbeats 8000000 in
theorem ct_X7_sign (l : Launch) (E : zk_E) (hi : zk_inj E) (k : Nat) (hk : k < zk_cnt 7) (z : zk_Z) (r : Int32) (z' : zk_Z) (h : fX7_sign k  z = some (r, z')) : Met l yX7_sign wsX7_sign { frames := 1, cells := 0, slots := 0, locals := 23 } (va_Pc [.ref (E.2.1 7 k)] (zk_W E z)) (zk_Qi E r z') 0 0 (zk_A E) := by
  refine zk_met (cc := cX7_sign) (maxL := 4) (ret := (some .int)) (own := RX7) (by decide) rfl rfl hi (Nat.le_of_ble_eq_true rfl) ?_
  intro p e s m args below meth c X hr
  have iX7 : ∀ w ∈ u_ws RX7 TX7 8, w ∈ wsX7_sign := by decide +kernel
  have w0 : Cond.fieldLink RX7 22 "HiddenWorks$Task" "letters" "I" ∈ wsX7_sign := by decide +kernel
  have L4 : ∀ (n : Nat) (a1 : Int32) (a2 : Int32) (z : zk_Z), fX7_sign_L4 k n a1 a2 z = some (r, z') → zk_G p l e (headSpec wsX7_sign { frames := 1, cells := 0, slots := 0, locals := 23 }).room s m args below meth c E 4 0 0 (MQ below (zk_Qi E r z') args s 0 0 (zk_A E)) 4 [(0, .ref (E.2.1 7 k)), (1, .int a1), (2, .int a2)] [] z := by
    intro n
    induction n with
    | zero => intro a1 a2 z h; exact absurd h (by simp [fX7_sign_L4])
    | succ n ih =>
      intro a1 a2 z h
      rw [fX7_sign_L4] at h
      refine zk_iload_n X 2 dX7_sign_4 rfl rfl ?_
      refine zk_aload_n X 0 dX7_sign_5 rfl rfl ?_
      refine zk_get X iX7 (g := 7) (hk) rfl rfl 1 (by decide) w0 rfl dX7_sign_6 ?_
      refine zk_icmp_ge X (tgt := 30) dX7_sign_9 (by decide) h (fun h => ?_) (fun h => ?_)
      · refine zk_iload_n X 1 dX7_sign_30 rfl rfl ?_
        exact zk_ireturn X hr dX7_sign_31 h
      · refine zk_aload_n X 0 dX7_sign_12 rfl rfl ?_
        refine zk_iload_n X 2 dX7_sign_13 rfl rfl ?_
        refine zk_vi X h (fun rr zz hf => ct_X7_excess l E hi k (hk) a2 _ rr zz hf) (cwV 1 X.1.2.2.2.2 gX7_sign_X7_excess rfl rfl rfl (by decide +kernel) ⟨Nat.le_of_ble_eq_true rfl, Nat.le_of_ble_eq_true rfl⟩) (zk_recv X (g := 7) (hk) rfl rfl) rfl rfl (Nat.le_of_ble_eq_true rfl) dX7_sign_14 (fun r2 z1 h => ?_)
        refine zk_istore_n X (lv' := [(3, .int r2), (0, .ref (E.2.1 7 k)), (1, .int a1), (2, .int a2)]) dX7_sign_17 rfl (by decide) rfl ?_
        refine zk_iload_n X 2 dX7_sign_18 rfl rfl ?_
        refine zk_iload_n X 0 dX7_sign_19 rfl rfl ?_
        refine zk_iload_n X 0 dX7_sign_20 rfl rfl ?_
        refine zk_imul X dX7_sign_21 ?_
        refine zk_iadd X dX7_sign_22 ?_
        refine zk_istore_n X (lv' := [(1, .int (a1 + (r2 * r2))), (3, .int r2), (0, .ref (E.2.1 7 k)), (2, .int a2)]) dX7_sign_23 rfl (by decide) rfl ?_
        refine zk_iinc X (lv' := [(2, .int (a2 + 1)), (1, .int (a1 + (r2 * r2))), (3, .int r2), (0, .ref (E.2.1 7 k))]) 3 dX7_sign_24 rfl rfl (by decide) rfl ?_
        refine zk_goto X (tgt := 4) dX7_sign_27 (by decide) ?_
        exact zk_sub [3, 1, 0] rfl (ih _ _ _ h)
  unfold fX7_sign at h
  refine zk_iconst X (v := 0) dX7_sign_0 (by decide) ?_
  refine zk_istore_n X (lv' := [(1, .int 0), (0, .ref (E.2.1 7 k))]) dX7_sign_1 rfl (by decide) rfl ?_
  refine zk_iconst X (v := 0) dX7_sign_2 (by decide) ?_
  refine zk_istore_n X (lv' := [(2, .int 0), (1, .int 0), (0, .ref (E.2.1 7 k))]) dX7_sign_3 rfl (by decide) rfl ?_
  exact zk_sub [2, 1, 0] rfl (L4  _ _ _ _ h)
def fX7_tallyAnswers_B66 (k : Nat) (c9 : Int32 → Int32 → zk_Z → Option (Int32 × zk_Z)) (a2 : Int32) (a3 : Int32) (z : zk_Z) : Option (Int32 × zk_Z) := c9 a2 (a3 + 1) z
def fX7_tallyAnswers_L31 (k : Nat) (c9 : Int32 → Int32 → zk_Z → Option (Int32 × zk_Z)) : Nat → Int32 → Int32 → Int32 → zk_Z → Option (Int32 × zk_Z)
  | 0, _, _, _, _ => none
  | n + 1, a2, a3, a4, z => if (z.1 7 k 1) ≤ a4 then fX7_tallyAnswers_B66 k c9 a2 a3 z else if 10 ≤ a4 then fX7_tallyAnswers_B66 k c9 a2 a3 z else zk_gd (zk_ix a4 10) (zk_gd (zk_ix a4 10) ((fX7_tallyAnswers_L31 k c9 n) a2 a3 (a4 + 1) (zk_sI z 19 0 a4.toNatClampNeg ((z.1 19 0 a4.toNatClampNeg) + ((a3 >>> (a4 &&& 31)) &&& 1)))))
def fX7_tallyAnswers_L9 (k : Nat) : Nat → Int32 → Int32 → zk_Z → Option (Int32 × zk_Z)
  | 0, _, _, _ => none
  | n + 1, a2, a3, z => zk_bd (fX7_rows k z) (fun r4 z3 => if r4 ≤ a3 then some (a2, z3) else zk_bd (fX7_isSolvedBy k a3 z3) (fun r6 z5 => if r6 = 0 then fX7_tallyAnswers_B66 k (fX7_tallyAnswers_L9 k n) a2 a3 z5 else fX7_tallyAnswers_L31 k (fX7_tallyAnswers_L9 k n) zk_FU (a2 + 1) a3 0 z5))
def fX7_tallyAnswers (k : Nat) (z : zk_Z) : Option (Int32 × zk_Z) := zk_bd (fJ7_fill_53178_g19 0 z) (fun _ z1 => fX7_tallyAnswers_L9 k zk_FU 0 0 z1)
set_option maxRecDepth 100000 in
set_option maxHeartbeats 8000000 in
theorem ct_X7_tallyAnswers (l : Launch) (E : zk_E) (hi : zk_inj E) (k : Nat) (hk : k < zk_cnt 7) (z : zk_Z) (r : Int32) (z' : zk_Z) (h : fX7_tallyAnswers k  z = some (r, z')) : Met l yX7_tallyAnswers wsX7_tallyAnswers { frames := 5, cells := 0, slots := 0, locals := 108 } (va_Pc [.ref (E.2.1 7 k), .ref (E.2.1 19 0)] (zk_W E z)) (zk_Qi E r z') 0 0 (zk_A E) := by
  refine zk_met (cc := cX7_tallyAnswers) (maxL := 5) (ret := (some .int)) (own := RX7) (by decide) rfl rfl hi (Nat.le_of_ble_eq_true rfl) ?_
  intro p e s m args below meth c X hr
  have iX7 : ∀ w ∈ u_ws RX7 TX7 8, w ∈ wsX7_tallyAnswers := by decide +kernel
  have w0 : Cond.fieldLink RX7 22 "HiddenWorks$Task" "letters" "I" ∈ wsX7_tallyAnswers := by decide +kernel
  have B66 : ∀ (c9 : Int32 → Int32 → zk_Z → Option (Int32 × zk_Z)) (hc9 : ∀ (a2 : Int32) (a3 : Int32) (z : zk_Z), c9 a2 a3 z = some (r, z') → zk_G p l e (headSpec wsX7_tallyAnswers { frames := 5, cells := 0, slots := 0, locals := 108 }).room s m args below meth c E 5 0 0 (MQ below (zk_Qi E r z') args s 0 0 (zk_A E)) 9 [(0, .ref (E.2.1 7 k)), (1, .ref (E.2.1 19 0)), (2, .int a2), (3, .int a3)] [] z) (a2 : Int32) (a3 : Int32) (z : zk_Z), fX7_tallyAnswers_B66 k c9 a2 a3 z = some (r, z') → zk_G p l e (headSpec wsX7_tallyAnswers { frames := 5, cells := 0, slots := 0, locals := 108 }).room s m args below meth c E 5 0 0 (MQ below (zk_Qi E r z') args s 0 0 (zk_A E)) 66 [(0, .ref (E.2.1 7 k)), (1, .ref (E.2.1 19 0)), (2, .int a2), (3, .int a3)] [] z := by
    intro c9 hc9 a2 a3 z h
    unfold fX7_tallyAnswers_B66 at h
    refine zk_iinc X (lv' := [(3, .int (a3 + 1)), (0, .ref (E.2.1 7 k)), (1, .ref (E.2.1 19 0)), (2, .int a2)]) 3 dX7_tallyAnswers_66 rfl rfl (by decide) rfl ?_
    refine zk_goto X (tgt := 9) dX7_tallyAnswers_69 (by decide) ?_
    exact zk_sub [1, 2, 3, 0] rfl (hc9 _ _ _ h)
  have L31 : ∀ (c9 : Int32 → Int32 → zk_Z → Option (Int32 × zk_Z)) (hc9 : ∀ (a2 : Int32) (a3 : Int32) (z : zk_Z), c9 a2 a3 z = some (r, z') → zk_G p l e (headSpec wsX7_tallyAnswers { frames := 5, cells := 0, slots := 0, locals := 108 }).room s m args below meth c E 5 0 0 (MQ below (zk_Qi E r z') args s 0 0 (zk_A E)) 9 [(0, .ref (E.2.1 7 k)), (1, .ref (E.2.1 19 0)), (2, .int a2), (3, .int a3)] [] z) (n : Nat) (a2 : Int32) (a3 : Int32) (a4 : Int32) (z : zk_Z), fX7_tallyAnswers_L31 k c9 n a2 a3 a4 z = some (r, z') → zk_G p l e (headSpec wsX7_tallyAnswers { frames := 5, cells := 0, slots := 0, locals := 108 }).room s m args below meth c E 5 0 0 (MQ below (zk_Qi E r z') args s 0 0 (zk_A E)) 31 [(0, .ref (E.2.1 7 k)), (1, .ref (E.2.1 19 0)), (2, .int a2), (3, .int a3), (4, .int a4)] [] z := by
    intro c9 hc9 n
    induction n with
    | zero => intro a2 a3 a4 z h; exact absurd h (by simp [fX7_tallyAnswers_L31])
    | succ n ih =>
      intro a2 a3 a4 z h
      rw [fX7_tallyAnswers_L31] at h
      refine zk_iload X 4 dX7_tallyAnswers_31 rfl ?_
      refine zk_aload_n X 0 dX7_tallyAnswers_33 rfl rfl ?_
      refine zk_get X iX7 (g := 7) (hk) rfl rfl 1 (by decide) w0 rfl dX7_tallyAnswers_34 ?_
      refine zk_icmp_ge X (tgt := 66) dX7_tallyAnswers_37 (by decide) h (fun h => ?_) (fun h => ?_)
      · exact zk_sub [0, 1, 2, 3] rfl (B66 _ hc9 _ _ _ h)
      · refine zk_iload X 4 dX7_tallyAnswers_40 rfl ?_
        refine zk_aload_n X 1 dX7_tallyAnswers_42 rfl rfl ?_
        refine zk_alen X (v := 10) (g := 19) (Nat.zero_lt_one) rfl (by decide) dX7_tallyAnswers_43 ?_
        refine zk_icmp_ge X (tgt := 66) dX7_tallyAnswers_44 (by decide) h (fun h => ?_) (fun h => ?_)
        · exact zk_sub [0, 1, 2, 3] rfl (B66 _ hc9 _ _ _ h)
        · refine zk_aload_n X 1 dX7_tallyAnswers_47 rfl rfl ?_
          refine zk_iload X 4 dX7_tallyAnswers_48 rfl ?_
          refine zk_dup2 X dX7_tallyAnswers_50 rfl rfl ?_
          refine zk_iald X (g := 19) (Nat.zero_lt_one) rfl dX7_tallyAnswers_51 h (fun h => ?_)
          refine zk_iload_n X 3 dX7_tallyAnswers_52 rfl rfl ?_
          refine zk_iload X 4 dX7_tallyAnswers_53 rfl ?_
          refine zk_ishr X dX7_tallyAnswers_55 ?_
          refine zk_iconst X (v := 1) dX7_tallyAnswers_56 (by decide) ?_
          refine zk_iand X dX7_tallyAnswers_57 ?_
          refine zk_iadd X dX7_tallyAnswers_58 ?_
          refine zk_iast X (g := 19) (Nat.zero_lt_one) rfl rfl dX7_tallyAnswers_59 h (fun h => ?_)
          refine zk_iinc X (lv' := [(4, .int (a4 + 1)), (0, .ref (E.2.1 7 k)), (1, .ref (E.2.1 19 0)), (2, .int a2), (3, .int a3)]) 4 dX7_tallyAnswers_60 rfl rfl (by decide) rfl ?_
          refine zk_goto X (tgt := 31) dX7_tallyAnswers_63 (by decide) ?_
          exact zk_sub [1, 2, 3, 4, 0] rfl (ih _ _ _ _ h)
  have L9 : ∀ (n : Nat) (a2 : Int32) (a3 : Int32) (z : zk_Z), fX7_tallyAnswers_L9 k n a2 a3 z = some (r, z') → zk_G p l e (headSpec wsX7_tallyAnswers { frames := 5, cells := 0, slots := 0, locals := 108 }).room s m args below meth c E 5 0 0 (MQ below (zk_Qi E r z') args s 0 0 (zk_A E)) 9 [(0, .ref (E.2.1 7 k)), (1, .ref (E.2.1 19 0)), (2, .int a2), (3, .int a3)] [] z := by
    intro n
    induction n with
    | zero => intro a2 a3 z h; exact absurd h (by simp [fX7_tallyAnswers_L9])
    | succ n ih =>
      intro a2 a3 z h
      rw [fX7_tallyAnswers_L9] at h
      refine zk_iload_n X 3 dX7_tallyAnswers_9 rfl rfl ?_
      refine zk_aload_n X 0 dX7_tallyAnswers_10 rfl rfl ?_
      refine zk_vi X h (fun rr zz hf => ct_X7_rows l E hi k (hk) _ rr zz hf) (cwV 0 X.1.2.2.2.2 gX7_tallyAnswers_X7_rows rfl rfl rfl (by decide +kernel) ⟨Nat.le_of_ble_eq_true rfl, Nat.le_of_ble_eq_true rfl⟩) (zk_recv X (g := 7) (hk) rfl rfl) rfl rfl (Nat.le_of_ble_eq_true rfl) dX7_tallyAnswers_11 (fun r4 z3 h => ?_)
      refine zk_icmp_ge X (tgt := 72) dX7_tallyAnswers_14 (by decide) h (fun h => ?_) (fun h => ?_)
      · refine zk_iload_n X 2 dX7_tallyAnswers_72 rfl rfl ?_
        exact zk_ireturn X hr dX7_tallyAnswers_73 h
      · refine zk_aload_n X 0 dX7_tallyAnswers_17 rfl rfl ?_
        refine zk_iload_n X 3 dX7_tallyAnswers_18 rfl rfl ?_
        refine zk_vi X h (fun rr zz hf => ct_X7_isSolvedBy l E hi k (hk) a3 _ rr zz hf) (cwV 1 X.1.2.2.2.2 gX7_tallyAnswers_X7_isSolvedBy rfl rfl rfl (by decide +kernel) ⟨Nat.le_of_ble_eq_true rfl, Nat.le_of_ble_eq_true rfl⟩) (zk_recv X (g := 7) (hk) rfl rfl) rfl rfl (Nat.le_of_ble_eq_true rfl) dX7_tallyAnswers_19 (fun r6 z5 h => ?_)
        refine zk_if_eq X (tgt := 66) dX7_tallyAnswers_22 (by decide) h (fun h => ?_) (fun h => ?_)
        · exact zk_sub [0, 1, 2, 3] rfl (B66 _ ih _ _ _ h)
        · refine zk_iinc X (lv' := [(2, .int (a2 + 1)), (0, .ref (E.2.1 7 k)), (1, .ref (E.2.1 19 0)), (3, .int a3)]) 2 dX7_tallyAnswers_25 rfl rfl (by decide) rfl ?_
          refine zk_iconst X (v := 0) dX7_tallyAnswers_28 (by decide) ?_
          refine zk_istore X (lv' := [(4, .int 0), (2, .int (a2 + 1)), (0, .ref (E.2.1 7 k)), (1, .ref (E.2.1 19 0)), (3, .int a3)]) dX7_tallyAnswers_29 (by decide) rfl ?_
          exact zk_sub [2, 3, 1, 4, 0] rfl (L31 _ ih _ _ _ _ _ h)
  unfold fX7_tallyAnswers at h
  refine zk_aload_n X 1 dX7_tallyAnswers_0 rfl rfl ?_
  refine zk_iconst X (v := 0) dX7_tallyAnswers_1 (by decide) ?_
  refine zk_sv X h (fun rr zz hf => ct_J7_fill_53178_g19 l E hi  0 _ rr zz hf) (va_cwS 2 X.1.2.2.2.2 gX7_tallyAnswers_J7_fill_53178 rfl rfl rfl (by decide +kernel) ⟨Nat.le_of_ble_eq_true rfl, Nat.le_of_ble_eq_true rfl⟩) rfl rfl (Nat.le_of_ble_eq_true rfl) dX7_tallyAnswers_2 (fun z1 h => ?_)
  refine zk_iconst X (v := 0) dX7_tallyAnswers_5 (by decide) ?_
  refine zk_istore_n X (lv' := [(2, .int 0), (0, .ref (E.2.1 7 k)), (1, .ref (E.2.1 19 0))]) dX7_tallyAnswers_6 rfl (by decide) rfl ?_
  refine zk_iconst X (v := 0) dX7_tallyAnswers_7 (by decide) ?_
  refine zk_istore_n X (lv' := [(3, .int 0), (2, .int 0), (0, .ref (E.2.1 7 k)), (1, .ref (E.2.1 19 0))]) dX7_tallyAnswers_8 rfl (by decide) rfl ?_
  exact zk_sub [2, 3, 1, 0] rfl (L9  _ _ _ _ h)
