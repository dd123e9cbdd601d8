def fX9_ways (x0 : Int32) (x1 : Int32) (z : zk_Z) : Option (Int32 × zk_Z) := if x0 = 0 then some (1, z) else if x0 = x1 then some (1, z) else some (x1, z)
set_option maxRecDepth 100000 in
set_option maxHeartbeats 8000000 in
theorem ct_X9_ways (l : Launch) (E : zk_E) (hi : zk_inj E) (x0 : Int32) (x1 : Int32) (z : zk_Z) (r : Int32) (z' : zk_Z) (h : fX9_ways  x0 x1 z = some (r, z')) : Met l yX9_ways wsX9_ways { frames := 0, cells := 0, slots := 0, locals := 0 } (va_Pc [.int x0, .int x1] (zk_W E z)) (zk_Qi E r z') 0 0 (zk_A E) := by
  refine zk_met (cc := cX9_ways) (maxL := 2) (ret := (some .int)) (own := RX9) (by decide) rfl rfl hi (Nat.le_of_ble_eq_true rfl) ?_
  intro p e s m args below meth c X hr
  unfold fX9_ways at h
  refine zk_iload_n X 0 dX9_ways_0 rfl rfl ?_
  refine zk_if_eq X (tgt := 9) dX9_ways_1 (by decide) h (fun h => ?_) (fun h => ?_)
  · refine zk_iconst X (v := 1) dX9_ways_9 (by decide) ?_
    refine zk_goto X (tgt := 14) dX9_ways_10 (by decide) ?_
    exact zk_ireturn X hr dX9_ways_14 h
  · refine zk_iload_n X 0 dX9_ways_4 rfl rfl ?_
    refine zk_iload_n X 1 dX9_ways_5 rfl rfl ?_
    refine zk_icmp_ne X (tgt := 13) dX9_ways_6 (by decide) h (fun h => ?_) (fun h => ?_)
    · refine zk_iconst X (v := 1) dX9_ways_9 (by decide) ?_
      refine zk_goto X (tgt := 14) dX9_ways_10 (by decide) ?_
      exact zk_ireturn X hr dX9_ways_14 h
    · refine zk_iload_n X 1 dX9_ways_13 rfl rfl ?_
      exact zk_ireturn X hr dX9_ways_14 h
def fX9_all_L4 : Nat → Int32 → Int32 → Int32 → zk_Z → Option (Int32 × zk_Z)
  | 0, _, _, _, _ => none
  | n + 1, a1, a2, a3, z => zk_gd (zk_ix a1 6) (if (z.1 25 0 a1.toNatClampNeg) < a3 then some (a2, z) else zk_gd (zk_ix ((4 * a1) + a3) 24) (zk_gd (zk_ix a1 6) (zk_bd (fX9_ways a3 (z.1 25 0 a1.toNatClampNeg) z) (fun r2 z1 => (fX9_all_L4 n) a1 (a2 + ((z.1 26 0 ((4 * a1) + a3).toNatClampNeg) * r2)) (a3 + 1) z1))))
def fX9_all (x1 : Int32) (z : zk_Z) : Option (Int32 × zk_Z) := fX9_all_L4 zk_FU x1 0 0 z
set_option maxRecDepth 100000 in
set_option maxHeartbeats 8000000 in
theorem ct_X9_all (l : Launch) (E : zk_E) (hi : zk_inj E) (x1 : Int32) (z : zk_Z) (r : Int32) (z' : zk_Z) (h : fX9_all  x1 z = some (r, z')) : Met l yX9_all wsX9_all { frames := 1, cells := 0, slots := 0, locals := 21 } (va_Pc [.ref (E.2.1 20 0), .int x1] (zk_W E z)) (zk_Qi E r z') 0 0 (zk_A E) := by
  refine zk_met (cc := cX9_all) (maxL := 4) (ret := (some .int)) (own := RX9) (by decide) rfl rfl hi (Nat.le_of_ble_eq_true rfl) ?_
  intro p e s m args below meth c X hr
  have iX9 : ∀ w ∈ u_ws RX9 TX9 32, w ∈ wsX9_all := by decide +kernel
  have w0 : Cond.fieldLink RX9 22 "HiddenWorksModel" "rWide" "[I" ∈ wsX9_all := by decide +kernel
  have w1 : Cond.fieldLink RX9 25 "HiddenWorksModel" "rWeight" "[I" ∈ wsX9_all := by decide +kernel
  have L4 : ∀ (n : Nat) (a1 : Int32) (a2 : Int32) (a3 : Int32) (z : zk_Z), fX9_all_L4 n a1 a2 a3 z = some (r, z') → zk_G p l e (headSpec wsX9_all { frames := 1, cells := 0, slots := 0, locals := 21 }).room s m args below meth c E 4 0 0 (MQ below (zk_Qi E r z') args s 0 0 (zk_A E)) 4 [(0, .ref (E.2.1 20 0)), (1, .int a1), (2, .int a2), (3, .int a3)] [] z := by
    intro n
    induction n with
    | zero => intro a1 a2 a3 z h; exact absurd h (by simp [fX9_all_L4])
    | succ n ih =>
      intro a1 a2 a3 z h
      rw [fX9_all_L4] at h
      refine zk_iload_n X 3 dX9_all_4 rfl rfl ?_
      refine zk_aload_n X 0 dX9_all_5 rfl rfl ?_
      refine zk_get X iX9 (g := 20) (Nat.zero_lt_one) rfl rfl 6 (by decide) w0 rfl dX9_all_6 ?_
      refine zk_iload_n X 1 dX9_all_9 rfl rfl ?_
      refine zk_iald X (g := 25) (Nat.zero_lt_one) rfl dX9_all_10 h (fun h => ?_)
      refine zk_icmp_gt X (tgt := 44) dX9_all_11 (by decide) h (fun h => ?_) (fun h => ?_)
      · refine zk_iload_n X 2 dX9_all_44 rfl rfl ?_
        exact zk_ireturn X hr dX9_all_45 h
      · refine zk_iload_n X 2 dX9_all_14 rfl rfl ?_
        refine zk_aload_n X 0 dX9_all_15 rfl rfl ?_
        refine zk_get X iX9 (g := 20) (Nat.zero_lt_one) rfl rfl 7 (by decide) w1 rfl dX9_all_16 ?_
        refine zk_iconst X (v := 4) dX9_all_19 (by decide) ?_
        refine zk_iload_n X 1 dX9_all_20 rfl rfl ?_
        refine zk_imul X dX9_all_21 ?_
        refine zk_iload_n X 3 dX9_all_22 rfl rfl ?_
        refine zk_iadd X dX9_all_23 ?_
        refine zk_iald X (g := 26) (Nat.zero_lt_one) rfl dX9_all_24 h (fun h => ?_)
        refine zk_iload_n X 3 dX9_all_25 rfl rfl ?_
        refine zk_aload_n X 0 dX9_all_26 rfl rfl ?_
        refine zk_get X iX9 (g := 20) (Nat.zero_lt_one) rfl rfl 6 (by decide) w0 rfl dX9_all_27 ?_
        refine zk_iload_n X 1 dX9_all_30 rfl rfl ?_
        refine zk_iald X (g := 25) (Nat.zero_lt_one) rfl dX9_all_31 h (fun h => ?_)
        refine zk_si X h (fun rr zz hf => ct_X9_ways l E hi a3 (z.1 25 0 a1.toNatClampNeg) _ rr zz hf) (va_cwS 2 X.1.2.2.2.2 gX9_all_X9_ways rfl rfl rfl (by decide +kernel) ⟨Nat.le_of_ble_eq_true rfl, Nat.le_of_ble_eq_true rfl⟩) rfl rfl (Nat.le_of_ble_eq_true rfl) dX9_all_32 (fun r2 z1 h => ?_)
        refine zk_imul X dX9_all_35 ?_
        refine zk_iadd X dX9_all_36 ?_
        refine zk_istore_n X (lv' := [(2, .int (a2 + ((z.1 26 0 ((4 * a1) + a3).toNatClampNeg) * r2))), (0, .ref (E.2.1 20 0)), (1, .int a1), (3, .int a3)]) dX9_all_37 rfl (by decide) rfl ?_
        refine zk_iinc X (lv' := [(3, .int (a3 + 1)), (2, .int (a2 + ((z.1 26 0 ((4 * a1) + a3).toNatClampNeg) * r2))), (0, .ref (E.2.1 20 0)), (1, .int a1)]) 3 dX9_all_38 rfl rfl (by decide) rfl ?_
        refine zk_goto X (tgt := 4) dX9_all_41 (by decide) ?_
        exact zk_sub [2, 3, 1, 0] rfl (ih _ _ _ _ h)
  unfold fX9_all at h
  refine zk_iconst X (v := 0) dX9_all_0 (by decide) ?_
  refine zk_istore_n X (lv' := [(2, .int 0), (0, .ref (E.2.1 20 0)), (1, .int x1)]) dX9_all_1 rfl (by decide) rfl ?_
  refine zk_iconst X (v := 0) dX9_all_2 (by decide) ?_
  refine zk_istore_n X (lv' := [(3, .int 0), (2, .int 0), (0, .ref (E.2.1 20 0)), (1, .int x1)]) dX9_all_3 rfl (by decide) rfl ?_
  exact zk_sub [2, 3, 1, 0] rfl (L4  _ _ _ _ _ h)
def fX9_holds (x0 : Int32) (x1 : Int32) (x2 : Int32) (z : zk_Z) : Option (Int32 × zk_Z) := if x0 = 1 then if x1 ≤ 0 then some (0, z) else if x1 < x2 then some (1, z) else if x2 = 1 then some (1, z) else some (0, z) else if x0 = 2 then if (x1 - x1 / 2 * 2) = 1 then some (1, z) else some (0, z) else if x0 = 3 then if x1 = 1 then if x1 < x2 then some (1, z) else if x2 = 1 then some (1, z) else some (0, z) else some (0, z) else if x0 = 4 then if (x1 - x1 / 2 * 2) = 0 then some (1, z) else some (0, z) else if x0 = 5 then if x1 ≤ 0 then some (0, z) else if (2 * x1) ≤ x2 then some (0, z) else some (1, z) else if x1 ≤ 0 then some (0, z) else some (1, z)
set_option maxRecDepth 100000 in
set_option maxHeartbeats 8000000 in
theorem ct_X9_holds (l : Launch) (E : zk_E) (hi : zk_inj E) (x0 : Int32) (x1 : Int32) (x2 : Int32) (z : zk_Z) (r : Int32) (z' : zk_Z) (h : fX9_holds  x0 x1 x2 z = some (r, z')) : Met l yX9_holds wsX9_holds { frames := 0, cells := 0, slots := 0, locals := 0 } (va_Pc [.int x0, .int x1, .int x2] (zk_W E z)) (zk_Qi E r z') 0 0 (zk_A E) := by
  refine zk_met (cc := cX9_holds) (maxL := 3) (ret := (some .boolean)) (own := RX9) (by decide) rfl rfl hi (Nat.le_of_ble_eq_true rfl) ?_
  intro p e s m args below meth c X hr
  unfold fX9_holds at h
  refine zk_iload_n X 0 dX9_holds_0 rfl rfl ?_
  rcases zk_if h with ⟨q1, h⟩ | ⟨q1, h⟩
  · refine zk_tsw_in X (v := 1) dX9_holds_1 q1 (by decide) (by decide) (off := 35) rfl (tgt := 36) (by decide) ?_
    refine zk_iload_n X 1 dX9_holds_36 rfl rfl ?_
    refine zk_if_le X (tgt := 54) dX9_holds_37 (by decide) h (fun h => ?_) (fun h => ?_)
    · refine zk_iconst X (v := 0) dX9_holds_54 (by decide) ?_
      exact zk_zreturn X hr dX9_holds_55 rfl h
    · refine zk_iload_n X 1 dX9_holds_40 rfl rfl ?_
      refine zk_iload_n X 2 dX9_holds_41 rfl rfl ?_
      refine zk_icmp_lt X (tgt := 50) dX9_holds_42 (by decide) h (fun h => ?_) (fun h => ?_)
      · refine zk_iconst X (v := 1) dX9_holds_50 (by decide) ?_
        refine zk_goto X (tgt := 55) dX9_holds_51 (by decide) ?_
        exact zk_zreturn X hr dX9_holds_55 rfl h
      · refine zk_iload_n X 2 dX9_holds_45 rfl rfl ?_
        refine zk_iconst X (v := 1) dX9_holds_46 (by decide) ?_
        refine zk_icmp_ne X (tgt := 54) dX9_holds_47 (by decide) h (fun h => ?_) (fun h => ?_)
        · refine zk_iconst X (v := 1) dX9_holds_50 (by decide) ?_
          refine zk_goto X (tgt := 55) dX9_holds_51 (by decide) ?_
          exact zk_zreturn X hr dX9_holds_55 rfl h
        · refine zk_iconst X (v := 0) dX9_holds_54 (by decide) ?_
          exact zk_zreturn X hr dX9_holds_55 rfl h
  · rcases zk_if h with ⟨q2, h⟩ | ⟨q2, h⟩
    · refine zk_tsw_in X (v := 2) dX9_holds_1 q2 (by decide) (by decide) (off := 55) rfl (tgt := 56) (by decide) ?_
      refine zk_iload_n X 1 dX9_holds_56 rfl rfl ?_
      refine zk_iconst X (v := 2) dX9_holds_57 (by decide) ?_
      refine zk_irem X (α := Unit) (a := some ()) (o := ()) dX9_holds_58 rfl (fun _ => ?_)
      refine zk_iconst X (v := 1) dX9_holds_59 (by decide) ?_
      refine zk_icmp_ne X (tgt := 67) dX9_holds_60 (by decide) h (fun h => ?_) (fun h => ?_)
      · refine zk_iconst X (v := 1) dX9_holds_63 (by decide) ?_
        refine zk_goto X (tgt := 68) dX9_holds_64 (by decide) ?_
        exact zk_zreturn X hr dX9_holds_68 rfl h
      · refine zk_iconst X (v := 0) dX9_holds_67 (by decide) ?_
        exact zk_zreturn X hr dX9_holds_68 rfl h
    · rcases zk_if h with ⟨q3, h⟩ | ⟨q3, h⟩
      · refine zk_tsw_in X (v := 3) dX9_holds_1 q3 (by decide) (by decide) (off := 68) rfl (tgt := 69) (by decide) ?_
        refine zk_iload_n X 1 dX9_holds_69 rfl rfl ?_
        refine zk_iconst X (v := 1) dX9_holds_70 (by decide) ?_
        refine zk_icmp_ne X (tgt := 88) dX9_holds_71 (by decide) h (fun h => ?_) (fun h => ?_)
        · refine zk_iload_n X 1 dX9_holds_74 rfl rfl ?_
          refine zk_iload_n X 2 dX9_holds_75 rfl rfl ?_
          refine zk_icmp_lt X (tgt := 84) dX9_holds_76 (by decide) h (fun h => ?_) (fun h => ?_)
          · refine zk_iconst X (v := 1) dX9_holds_84 (by decide) ?_
            refine zk_goto X (tgt := 89) dX9_holds_85 (by decide) ?_
            exact zk_zreturn X hr dX9_holds_89 rfl h
          · refine zk_iload_n X 2 dX9_holds_79 rfl rfl ?_
            refine zk_iconst X (v := 1) dX9_holds_80 (by decide) ?_
            refine zk_icmp_ne X (tgt := 88) dX9_holds_81 (by decide) h (fun h => ?_) (fun h => ?_)
            · refine zk_iconst X (v := 1) dX9_holds_84 (by decide) ?_
              refine zk_goto X (tgt := 89) dX9_holds_85 (by decide) ?_
              exact zk_zreturn X hr dX9_holds_89 rfl h
            · refine zk_iconst X (v := 0) dX9_holds_88 (by decide) ?_
              exact zk_zreturn X hr dX9_holds_89 rfl h
        · refine zk_iconst X (v := 0) dX9_holds_88 (by decide) ?_
          exact zk_zreturn X hr dX9_holds_89 rfl h
      · rcases zk_if h with ⟨q4, h⟩ | ⟨q4, h⟩
        · refine zk_tsw_in X (v := 4) dX9_holds_1 q4 (by decide) (by decide) (off := 89) rfl (tgt := 90) (by decide) ?_
          refine zk_iload_n X 1 dX9_holds_90 rfl rfl ?_
          refine zk_iconst X (v := 2) dX9_holds_91 (by decide) ?_
          refine zk_irem X (α := Unit) (a := some ()) (o := ()) dX9_holds_92 rfl (fun _ => ?_)
          refine zk_if_ne X (tgt := 100) dX9_holds_93 (by decide) h (fun h => ?_) (fun h => ?_)
          · refine zk_iconst X (v := 1) dX9_holds_96 (by decide) ?_
            refine zk_goto X (tgt := 101) dX9_holds_97 (by decide) ?_
            exact zk_zreturn X hr dX9_holds_101 rfl h
          · refine zk_iconst X (v := 0) dX9_holds_100 (by decide) ?_
            exact zk_zreturn X hr dX9_holds_101 rfl h
        · rcases zk_if h with ⟨q5, h⟩ | ⟨q5, h⟩
          · refine zk_tsw_in X (v := 5) dX9_holds_1 q5 (by decide) (by decide) (off := 101) rfl (tgt := 102) (by decide) ?_
            refine zk_iload_n X 1 dX9_holds_102 rfl rfl ?_
            refine zk_if_le X (tgt := 117) dX9_holds_103 (by decide) h (fun h => ?_) (fun h => ?_)
            · refine zk_iconst X (v := 0) dX9_holds_117 (by decide) ?_
              exact zk_zreturn X hr dX9_holds_118 rfl h
            · refine zk_iconst X (v := 2) dX9_holds_106 (by decide) ?_
              refine zk_iload_n X 1 dX9_holds_107 rfl rfl ?_
              refine zk_imul X dX9_holds_108 ?_
              refine zk_iload_n X 2 dX9_holds_109 rfl rfl ?_
              refine zk_icmp_le X (tgt := 117) dX9_holds_110 (by decide) h (fun h => ?_) (fun h => ?_)
              · refine zk_iconst X (v := 0) dX9_holds_117 (by decide) ?_
                exact zk_zreturn X hr dX9_holds_118 rfl h
              · refine zk_iconst X (v := 1) dX9_holds_113 (by decide) ?_
                refine zk_goto X (tgt := 118) dX9_holds_114 (by decide) ?_
                exact zk_zreturn X hr dX9_holds_118 rfl h
          · refine zk_tsw_out X dX9_holds_1 (by have := lv_neT (a := 1) q1 (by decide); have := lv_neT (a := 2) q2 (by decide); have := lv_neT (a := 3) q3 (by decide); have := lv_neT (a := 4) q4 (by decide); have := lv_neT (a := 5) q5 (by decide); omega) (tgt := 119) (by decide) ?_
            refine zk_iload_n X 1 dX9_holds_119 rfl rfl ?_
            refine zk_if_le X (tgt := 127) dX9_holds_120 (by decide) h (fun h => ?_) (fun h => ?_)
            · refine zk_iconst X (v := 0) dX9_holds_127 (by decide) ?_
              exact zk_zreturn X hr dX9_holds_128 rfl h
            · refine zk_iconst X (v := 1) dX9_holds_123 (by decide) ?_
              refine zk_goto X (tgt := 128) dX9_holds_124 (by decide) ?_
              exact zk_zreturn X hr dX9_holds_128 rfl h
def fX9_ones_L4 : Nat → Int32 → Int32 → Int32 → zk_Z → Option (Int32 × zk_Z)
  | 0, _, _, _, _ => none
  | n + 1, a0, a1, a2, z => if 31 ≤ a2 then some (a1, z) else (fX9_ones_L4 n) a0 (a1 + ((a0 >>> (a2 &&& 31)) &&& 1)) (a2 + 1) z
def fX9_ones (x0 : Int32) (z : zk_Z) : Option (Int32 × zk_Z) := fX9_ones_L4 zk_FU x0 0 0 z
set_option maxRecDepth 100000 in
set_option maxHeartbeats 8000000 in
theorem ct_X9_ones (l : Launch) (E : zk_E) (hi : zk_inj E) (x0 : Int32) (z : zk_Z) (r : Int32) (z' : zk_Z) (h : fX9_ones  x0 z = some (r, z')) : Met l yX9_ones wsX9_ones { frames := 0, cells := 0, slots := 0, locals := 0 } (va_Pc [.int x0] (zk_W E z)) (zk_Qi E r z') 0 0 (zk_A E) := by
  refine zk_met (cc := cX9_ones) (maxL := 3) (ret := (some .int)) (own := RX9) (by decide) rfl rfl hi (Nat.le_of_ble_eq_true rfl) ?_
  intro p e s m args below meth c X hr
  have L4 : ∀ (n : Nat) (a0 : Int32) (a1 : Int32) (a2 : Int32) (z : zk_Z), fX9_ones_L4 n a0 a1 a2 z = some (r, z') → zk_G p l e (headSpec wsX9_ones { frames := 0, cells := 0, slots := 0, locals := 0 }).room s m args below meth c E 3 0 0 (MQ below (zk_Qi E r z') args s 0 0 (zk_A E)) 4 [(0, .int a0), (1, .int a1), (2, .int a2)] [] z := by
    intro n
    induction n with
    | zero => intro a0 a1 a2 z h; exact absurd h (by simp [fX9_ones_L4])
    | succ n ih =>
      intro a0 a1 a2 z h
      rw [fX9_ones_L4] at h
      refine zk_iload_n X 2 dX9_ones_4 rfl rfl ?_
      refine zk_bipush X (v := 31) dX9_ones_5 (by decide) ?_
      refine zk_icmp_ge X (tgt := 24) dX9_ones_7 (by decide) h (fun h => ?_) (fun h => ?_)
      · refine zk_iload_n X 1 dX9_ones_24 rfl rfl ?_
        exact zk_ireturn X hr dX9_ones_25 h
      · refine zk_iload_n X 1 dX9_ones_10 rfl rfl ?_
        refine zk_iload_n X 0 dX9_ones_11 rfl rfl ?_
        refine zk_iload_n X 2 dX9_ones_12 rfl rfl ?_
        refine zk_ishr X dX9_ones_13 ?_
        refine zk_iconst X (v := 1) dX9_ones_14 (by decide) ?_
        refine zk_iand X dX9_ones_15 ?_
        refine zk_iadd X dX9_ones_16 ?_
        refine zk_istore_n X (lv' := [(1, .int (a1 + ((a0 >>> (a2 &&& 31)) &&& 1))), (0, .int a0), (2, .int a2)]) dX9_ones_17 rfl (by decide) rfl ?_
        refine zk_iinc X (lv' := [(2, .int (a2 + 1)), (1, .int (a1 + ((a0 >>> (a2 &&& 31)) &&& 1))), (0, .int a0)]) 2 dX9_ones_18 rfl rfl (by decide) rfl ?_
        refine zk_goto X (tgt := 4) dX9_ones_21 (by decide) ?_
        exact zk_sub [2, 1, 0] rfl (ih _ _ _ _ h)
  unfold fX9_ones at h
  refine zk_iconst X (v := 0) dX9_ones_0 (by decide) ?_
  refine zk_istore_n X (lv' := [(1, .int 0), (0, .int x0)]) dX9_ones_1 rfl (by decide) rfl ?_
  refine zk_iconst X (v := 0) dX9_ones_2 (by decide) ?_
  refine zk_istore_n X (lv' := [(2, .int 0), (1, .int 0), (0, .int x0)]) dX9_ones_3 rfl (by decide) rfl ?_
  exact zk_sub [2, 1, 0] rfl (L4  _ _ _ _ _ h)
def fX9_is (x1 : Int32) (x2 : Int32) (z : zk_Z) : Option (Int32 × zk_Z) := zk_gd (zk_ix x1 216) (zk_bd (fX9_ones ((z.1 33 0 x1.toNatClampNeg) &&& x2) z) (fun r2 z1 => zk_gd (zk_ix x1 216) (zk_bd (fX9_ones ((z1.1 34 0 x1.toNatClampNeg) &&& (x2 ^^^ (-1))) z1) (fun r4 z3 => some (r2 + r4, z3)))))
set_option maxRecDepth 100000 in
set_option maxHeartbeats 8000000 in
theorem ct_X9_is (l : Launch) (E : zk_E) (hi : zk_inj E) (x1 : Int32) (x2 : Int32) (z : zk_Z) (r : Int32) (z' : zk_Z) (h : fX9_is  x1 x2 z = some (r, z')) : Met l yX9_is wsX9_is { frames := 1, cells := 0, slots := 0, locals := 22 } (va_Pc [.ref (E.2.1 20 0), .int x1, .int x2] (zk_W E z)) (zk_Qi E r z') 0 0 (zk_A E) := by
  refine zk_met (cc := cX9_is) (maxL := 3) (ret := (some .int)) (own := RX9) (by decide) rfl rfl hi (Nat.le_of_ble_eq_true rfl) ?_
  intro p e s m args below meth c X hr
  have iX9 : ∀ w ∈ u_ws RX9 TX9 32, w ∈ wsX9_is := by decide +kernel
  have w0 : Cond.fieldLink RX9 46 "HiddenWorksModel" "plain" "[I" ∈ wsX9_is := by decide +kernel
  have w1 : Cond.fieldLink RX9 49 "HiddenWorksModel" "against" "[I" ∈ wsX9_is := by decide +kernel
  unfold fX9_is at h
  refine zk_aload_n X 0 dX9_is_0 rfl rfl ?_
  refine zk_get X iX9 (g := 20) (Nat.zero_lt_one) rfl rfl 15 (by decide) w0 rfl dX9_is_1 ?_
  refine zk_iload_n X 1 dX9_is_4 rfl rfl ?_
  refine zk_iald X (g := 33) (Nat.zero_lt_one) rfl dX9_is_5 h (fun h => ?_)
  refine zk_iload_n X 2 dX9_is_6 rfl rfl ?_
  refine zk_iand X dX9_is_7 ?_
  refine zk_si X h (fun rr zz hf => ct_X9_ones l E hi  ((z.1 33 0 x1.toNatClampNeg) &&& x2) _ rr zz hf) (va_cwS 1 X.1.2.2.2.2 gX9_is_X9_ones rfl rfl rfl (by decide +kernel) ⟨Nat.le_of_ble_eq_true rfl, Nat.le_of_ble_eq_true rfl⟩) rfl rfl (Nat.le_of_ble_eq_true rfl) dX9_is_8 (fun r2 z1 h => ?_)
  refine zk_aload_n X 0 dX9_is_11 rfl rfl ?_
  refine zk_get X iX9 (g := 20) (Nat.zero_lt_one) rfl rfl 16 (by decide) w1 rfl dX9_is_12 ?_
  refine zk_iload_n X 1 dX9_is_15 rfl rfl ?_
  refine zk_iald X (g := 34) (Nat.zero_lt_one) rfl dX9_is_16 h (fun h => ?_)
  refine zk_iload_n X 2 dX9_is_17 rfl rfl ?_
  refine zk_iconst X (v := -1) dX9_is_18 (by decide) ?_
  refine zk_ixor X dX9_is_19 ?_
  refine zk_iand X dX9_is_20 ?_
  refine zk_si X h (fun rr zz hf => ct_X9_ones l E hi  ((z1.1 34 0 x1.toNatClampNeg) &&& (x2 ^^^ (-1))) _ rr zz hf) (va_cwS 1 X.1.2.2.2.2 gX9_is_X9_ones rfl rfl rfl (by decide +kernel) ⟨Nat.le_of_ble_eq_true rfl, Nat.le_of_ble_eq_true rfl⟩) rfl rfl (Nat.le_of_ble_eq_true rfl) dX9_is_21 (fun r4 z3 h => ?_)
  refine zk_iadd X dX9_is_24 ?_
  exact zk_ireturn X hr dX9_is_25 h
def fX9_wide (x1 : Int32) (z : zk_Z) : Option (Int32 × zk_Z) := zk_gd (zk_ix x1 216) (zk_gd (zk_ix x1 216) (zk_bd (fX9_ones ((z.1 33 0 x1.toNatClampNeg) ||| (z.1 34 0 x1.toNatClampNeg)) z) (fun r2 z1 => some (r2, z1))))
set_option maxRecDepth 100000 in
set_option maxHeartbeats 8000000 in
theorem ct_X9_wide (l : Launch) (E : zk_E) (hi : zk_inj E) (x1 : Int32) (z : zk_Z) (r : Int32) (z' : zk_Z) (h : fX9_wide  x1 z = some (r, z')) : Met l yX9_wide wsX9_wide { frames := 1, cells := 0, slots := 0, locals := 22 } (va_Pc [.ref (E.2.1 20 0), .int x1] (zk_W E z)) (zk_Qi E r z') 0 0 (zk_A E) := by
  refine zk_met (cc := cX9_wide) (maxL := 2) (ret := (some .int)) (own := RX9) (by decide) rfl rfl hi (Nat.le_of_ble_eq_true rfl) ?_
  intro p e s m args below meth c X hr
  have iX9 : ∀ w ∈ u_ws RX9 TX9 32, w ∈ wsX9_wide := by decide +kernel
  have w0 : Cond.fieldLink RX9 46 "HiddenWorksModel" "plain" "[I" ∈ wsX9_wide := by decide +kernel
  have w1 : Cond.fieldLink RX9 49 "HiddenWorksModel" "against" "[I" ∈ wsX9_wide := by decide +kernel
  unfold fX9_wide at h
  refine zk_aload_n X 0 dX9_wide_0 rfl rfl ?_
  refine zk_get X iX9 (g := 20) (Nat.zero_lt_one) rfl rfl 15 (by decide) w0 rfl dX9_wide_1 ?_
  refine zk_iload_n X 1 dX9_wide_4 rfl rfl ?_
  refine zk_iald X (g := 33) (Nat.zero_lt_one) rfl dX9_wide_5 h (fun h => ?_)
  refine zk_aload_n X 0 dX9_wide_6 rfl rfl ?_
  refine zk_get X iX9 (g := 20) (Nat.zero_lt_one) rfl rfl 16 (by decide) w1 rfl dX9_wide_7 ?_
  refine zk_iload_n X 1 dX9_wide_10 rfl rfl ?_
  refine zk_iald X (g := 34) (Nat.zero_lt_one) rfl dX9_wide_11 h (fun h => ?_)
  refine zk_ior X dX9_wide_12 ?_
  refine zk_si X h (fun rr zz hf => ct_X9_ones l E hi  ((z.1 33 0 x1.toNatClampNeg) ||| (z.1 34 0 x1.toNatClampNeg)) _ rr zz hf) (va_cwS 1 X.1.2.2.2.2 gX9_wide_X9_ones rfl rfl rfl (by decide +kernel) ⟨Nat.le_of_ble_eq_true rfl, Nat.le_of_ble_eq_true rfl⟩) rfl rfl (Nat.le_of_ble_eq_true rfl) dX9_wide_13 (fun r2 z1 h => ?_)
  exact zk_ireturn X hr dX9_wide_16 h
def fX9_firstBroken_L2 : Nat → Int32 → Int32 → Int32 → zk_Z → Option (Int32 × zk_Z)
  | 0, _, _, _, _ => none
  | n + 1, a1, a2, a3, z => zk_gd (zk_ix a1 9) (if (z.1 29 0 a1.toNatClampNeg) ≤ a3 then some ((-1), z) else zk_gd (zk_ix a1 9) (zk_bd (fX9_is ((24 * a1) + a3) a2 z) (fun r2 z1 => zk_bd (fX9_wide ((24 * a1) + a3) z1) (fun r4 z3 => zk_bd (fX9_holds (z.1 27 0 a1.toNatClampNeg) r2 r4 z3) (fun r6 z5 => if r6 = 0 then some (a3, z5) else (fX9_firstBroken_L2 n) a1 a2 (a3 + 1) z5)))))
def fX9_firstBroken (x1 : Int32) (x2 : Int32) (z : zk_Z) : Option (Int32 × zk_Z) := fX9_firstBroken_L2 zk_FU x1 x2 0 z
set_option maxRecDepth 100000 in
set_option maxHeartbeats 8000000 in
theorem ct_X9_firstBroken (l : Launch) (E : zk_E) (hi : zk_inj E) (x1 : Int32) (x2 : Int32) (z : zk_Z) (r : Int32) (z' : zk_Z) (h : fX9_firstBroken  x1 x2 z = some (r, z')) : Met l yX9_firstBroken wsX9_firstBroken { frames := 2, cells := 0, slots := 0, locals := 44 } (va_Pc [.ref (E.2.1 20 0), .int x1, .int x2] (zk_W E z)) (zk_Qi E r z') 0 0 (zk_A E) := by
  refine zk_met (cc := cX9_firstBroken) (maxL := 4) (ret := (some .int)) (own := RX9) (by decide) rfl rfl hi (Nat.le_of_ble_eq_true rfl) ?_
  intro p e s m args below meth c X hr
  have iX9 : ∀ w ∈ u_ws RX9 TX9 32, w ∈ wsX9_firstBroken := by decide +kernel
  have w0 : Cond.fieldLink RX9 34 "HiddenWorksModel" "clauses" "[I" ∈ wsX9_firstBroken := by decide +kernel
  have w1 : Cond.fieldLink RX9 28 "HiddenWorksModel" "kind" "[I" ∈ wsX9_firstBroken := by decide +kernel
  have L2 : ∀ (n : Nat) (a1 : Int32) (a2 : Int32) (a3 : Int32) (z : zk_Z), fX9_firstBroken_L2 n a1 a2 a3 z = some (r, z') → zk_G p l e (headSpec wsX9_firstBroken { frames := 2, cells := 0, slots := 0, locals := 44 }).room s m args below meth c E 4 0 0 (MQ below (zk_Qi E r z') args s 0 0 (zk_A E)) 2 [(0, .ref (E.2.1 20 0)), (1, .int a1), (2, .int a2), (3, .int a3)] [] z := by
    intro n
    induction n with
    | zero => intro a1 a2 a3 z h; exact absurd h (by simp [fX9_firstBroken_L2])
    | succ n ih =>
      intro a1 a2 a3 z h
      rw [fX9_firstBroken_L2] at h
      refine zk_iload_n X 3 dX9_firstBroken_2 rfl rfl ?_
      refine zk_aload_n X 0 dX9_firstBroken_3 rfl rfl ?_
      refine zk_get X iX9 (g := 20) (Nat.zero_lt_one) rfl rfl 11 (by decide) w0 rfl dX9_firstBroken_4 ?_
      refine zk_iload_n X 1 dX9_firstBroken_7 rfl rfl ?_
      refine zk_iald X (g := 29) (Nat.zero_lt_one) rfl dX9_firstBroken_8 h (fun h => ?_)
      refine zk_icmp_ge X (tgt := 53) dX9_firstBroken_9 (by decide) h (fun h => ?_) (fun h => ?_)
      · refine zk_iconst X (v := -1) dX9_firstBroken_53 (by decide) ?_
        exact zk_ireturn X hr dX9_firstBroken_54 h
      · refine zk_aload_n X 0 dX9_firstBroken_12 rfl rfl ?_
        refine zk_get X iX9 (g := 20) (Nat.zero_lt_one) rfl rfl 9 (by decide) w1 rfl dX9_firstBroken_13 ?_
        refine zk_iload_n X 1 dX9_firstBroken_16 rfl rfl ?_
        refine zk_iald X (g := 27) (Nat.zero_lt_one) rfl dX9_firstBroken_17 h (fun h => ?_)
        refine zk_aload_n X 0 dX9_firstBroken_18 rfl rfl ?_
        refine zk_bipush X (v := 24) dX9_firstBroken_19 (by decide) ?_
        refine zk_iload_n X 1 dX9_firstBroken_21 rfl rfl ?_
        refine zk_imul X dX9_firstBroken_22 ?_
        refine zk_iload_n X 3 dX9_firstBroken_23 rfl rfl ?_
        refine zk_iadd X dX9_firstBroken_24 ?_
        refine zk_iload_n X 2 dX9_firstBroken_25 rfl rfl ?_
        refine zk_vi X h (fun rr zz hf => ct_X9_is l E hi ((24 * a1) + a3) a2 _ rr zz hf) (cwV 2 X.1.2.2.2.2 gX9_firstBroken_X9_is rfl rfl rfl (by decide +kernel) ⟨Nat.le_of_ble_eq_true rfl, Nat.le_of_ble_eq_true rfl⟩) (zk_recv X (g := 20) (Nat.zero_lt_one) rfl rfl) rfl rfl (Nat.le_of_ble_eq_true rfl) dX9_firstBroken_26 (fun r2 z1 h => ?_)
        refine zk_aload_n X 0 dX9_firstBroken_29 rfl rfl ?_
        refine zk_bipush X (v := 24) dX9_firstBroken_30 (by decide) ?_
        refine zk_iload_n X 1 dX9_firstBroken_32 rfl rfl ?_
        refine zk_imul X dX9_firstBroken_33 ?_
        refine zk_iload_n X 3 dX9_firstBroken_34 rfl rfl ?_
        refine zk_iadd X dX9_firstBroken_35 ?_
        refine zk_vi X h (fun rr zz hf => ct_X9_wide l E hi ((24 * a1) + a3) _ rr zz hf) (cwV 1 X.1.2.2.2.2 gX9_firstBroken_X9_wide rfl rfl rfl (by decide +kernel) ⟨Nat.le_of_ble_eq_true rfl, Nat.le_of_ble_eq_true rfl⟩) (zk_recv X (g := 20) (Nat.zero_lt_one) rfl rfl) rfl rfl (Nat.le_of_ble_eq_true rfl) dX9_firstBroken_36 (fun r4 z3 h => ?_)
        refine zk_si X h (fun rr zz hf => ct_X9_holds l E hi (z.1 27 0 a1.toNatClampNeg) r2 r4 _ rr zz hf) (va_cwS 3 X.1.2.2.2.2 gX9_firstBroken_X9_holds rfl rfl rfl (by decide +kernel) ⟨Nat.le_of_ble_eq_true rfl, Nat.le_of_ble_eq_true rfl⟩) rfl rfl (Nat.le_of_ble_eq_true rfl) dX9_firstBroken_39 (fun r6 z5 h => ?_)
        refine zk_if_ne X (tgt := 47) dX9_firstBroken_42 (by decide) h (fun h => ?_) (fun h => ?_)
        · refine zk_iload_n X 3 dX9_firstBroken_45 rfl rfl ?_
          exact zk_ireturn X hr dX9_firstBroken_46 h
        · refine zk_iinc X (lv' := [(3, .int (a3 + 1)), (0, .ref (E.2.1 20 0)), (1, .int a1), (2, .int a2)]) 3 dX9_firstBroken_47 rfl rfl (by decide) rfl ?_
          refine zk_goto X (tgt := 2) dX9_firstBroken_50 (by decide) ?_
          exact zk_sub [1, 2, 3, 0] rfl (ih _ _ _ _ h)
  unfold fX9_firstBroken at h
  refine zk_iconst X (v := 0) dX9_firstBroken_0 (by decide) ?_
  refine zk_istore_n X (lv' := [(3, .int 0), (0, .ref (E.2.1 20 0)), (1, .int x1), (2, .int x2)]) dX9_firstBroken_1 rfl (by decide) rfl ?_
  exact zk_sub [1, 2, 3, 0] rfl (L2  _ _ _ _ _ h)
def fX9_doesSolve (x1 : Int32) (x2 : Int32) (z : zk_Z) : Option (Int32 × zk_Z) := zk_bd (fX9_firstBroken x1 x2 z) (fun r2 z1 => if r2 = (-1) then some (1, z1) else some (0, z1))
set_option maxRecDepth 100000 in
set_option maxHeartbeats 8000000 in
theorem ct_X9_doesSolve (l : Launch) (E : zk_E) (hi : zk_inj E) (x1 : Int32) (x2 : Int32) (z : zk_Z) (r : Int32) (z' : zk_Z) (h : fX9_doesSolve  x1 x2 z = some (r, z')) : Met l yX9_doesSolve wsX9_doesSolve { frames := 3, cells := 0, slots := 0, locals := 67 } (va_Pc [.ref (E.2.1 20 0), .int x1, .int x2] (zk_W E z)) (zk_Qi E r z') 0 0 (zk_A E) := by
  refine zk_met (cc := cX9_doesSolve) (maxL := 3) (ret := (some .boolean)) (own := RX9) (by decide) rfl rfl hi (Nat.le_of_ble_eq_true rfl) ?_
  intro p e s m args below meth c X hr
  unfold fX9_doesSolve at h
  refine zk_aload_n X 0 dX9_doesSolve_0 rfl rfl ?_
  refine zk_iload_n X 1 dX9_doesSolve_1 rfl rfl ?_
  refine zk_iload_n X 2 dX9_doesSolve_2 rfl rfl ?_
  refine zk_vi X h (fun rr zz hf => ct_X9_firstBroken l E hi  x1 x2 _ rr zz hf) (cwV 2 X.1.2.2.2.2 gX9_doesSolve_X9_firstBroken rfl rfl rfl (by decide +kernel) ⟨Nat.le_of_ble_eq_true rfl, Nat.le_of_ble_eq_true rfl⟩) (zk_recv X (g := 20) (Nat.zero_lt_one) rfl rfl) rfl rfl (Nat.le_of_ble_eq_true rfl) dX9_doesSolve_3 (fun r2 z1 h => ?_)
  refine zk_iconst X (v := -1) dX9_doesSolve_6 (by decide) ?_
  refine zk_icmp_ne X (tgt := 14) dX9_doesSolve_7 (by decide) h (fun h => ?_) (fun h => ?_)
  · refine zk_iconst X (v := 1) dX9_doesSolve_10 (by decide) ?_
    refine zk_goto X (tgt := 15) dX9_doesSolve_11 (by decide) ?_
    exact zk_zreturn X hr dX9_doesSolve_15 rfl h
  · refine zk_iconst X (v := 0) dX9_doesSolve_14 (by decide) ?_
    exact zk_zreturn X hr dX9_doesSolve_15 rfl h
def fX9_in (x0 : Int32) (x1 : Int32) (x2 : Int32) (z : zk_Z) : Option (Int32 × zk_Z) := if x0 < x1 then some (0, z) else if x2 < x0 then some (0, z) else some (1, z)
set_option maxRecDepth 100000 in
set_option maxHeartbeats 8000000 in
theorem ct_X9_in (l : Launch) (E : zk_E) (hi : zk_inj E) (x0 : Int32) (x1 : Int32) (x2 : Int32) (z : zk_Z) (r : Int32) (z' : zk_Z) (h : fX9_in  x0 x1 x2 z = some (r, z')) : Met l yX9_in wsX9_in { frames := 0, cells := 0, slots := 0, locals := 0 } (va_Pc [.int x0, .int x1, .int x2] (zk_W E z)) (zk_Qi E r z') 0 0 (zk_A E) := by
  refine zk_met (cc := cX9_in) (maxL := 3) (ret := (some .boolean)) (own := RX9) (by decide) rfl rfl hi (Nat.le_of_ble_eq_true rfl) ?_
  intro p e s m args below meth c X hr
  unfold fX9_in at h
  refine zk_iload_n X 0 dX9_in_0 rfl rfl ?_
  refine zk_iload_n X 1 dX9_in_1 rfl rfl ?_
  refine zk_icmp_lt X (tgt := 14) dX9_in_2 (by decide) h (fun h => ?_) (fun h => ?_)
  · refine zk_iconst X (v := 0) dX9_in_14 (by decide) ?_
    exact zk_zreturn X hr dX9_in_15 rfl h
  · refine zk_iload_n X 0 dX9_in_5 rfl rfl ?_
    refine zk_iload_n X 2 dX9_in_6 rfl rfl ?_
    refine zk_icmp_gt X (tgt := 14) dX9_in_7 (by decide) h (fun h => ?_) (fun h => ?_)
    · refine zk_iconst X (v := 0) dX9_in_14 (by decide) ?_
      exact zk_zreturn X hr dX9_in_15 rfl h
    · refine zk_iconst X (v := 1) dX9_in_10 (by decide) ?_
      refine zk_goto X (tgt := 15) dX9_in_11 (by decide) ?_
      exact zk_zreturn X hr dX9_in_15 rfl h
def fX9_isTask (x1 : Int32) (z : zk_Z) : Option (Int32 × zk_Z) := zk_bd (fX9_in x1 0 ((z.1 20 0 8) - 1) z) (fun r2 z1 => zk_gd (zk_bz r2) (some (r2, z1)))
set_option maxRecDepth 100000 in
set_option maxHeartbeats 8000000 in
theorem ct_X9_isTask (l : Launch) (E : zk_E) (hi : zk_inj E) (x1 : Int32) (z : zk_Z) (r : Int32) (z' : zk_Z) (h : fX9_isTask  x1 z = some (r, z')) : Met l yX9_isTask wsX9_isTask { frames := 1, cells := 0, slots := 0, locals := 22 } (va_Pc [.ref (E.2.1 20 0), .int x1] (zk_W E z)) (zk_Qi E r z') 0 0 (zk_A E) := by
  refine zk_met (cc := cX9_isTask) (maxL := 2) (ret := (some .boolean)) (own := RX9) (by decide) rfl rfl hi (Nat.le_of_ble_eq_true rfl) ?_
  intro p e s m args below meth c X hr
  have iX9 : ∀ w ∈ u_ws RX9 TX9 32, w ∈ wsX9_isTask := by decide +kernel
  have w0 : Cond.fieldLink RX9 152 "HiddenWorksModel" "tasks" "I" ∈ wsX9_isTask := by decide +kernel
  unfold fX9_isTask at h
  refine zk_iload_n X 1 dX9_isTask_0 rfl rfl ?_
  refine zk_iconst X (v := 0) dX9_isTask_1 (by decide) ?_
  refine zk_aload_n X 0 dX9_isTask_2 rfl rfl ?_
  refine zk_get X iX9 (g := 20) (Nat.zero_lt_one) rfl rfl 8 (by decide) w0 rfl dX9_isTask_3 ?_
  refine zk_iconst X (v := 1) dX9_isTask_6 (by decide) ?_
  refine zk_isub X dX9_isTask_7 ?_
  refine zk_si X h (fun rr zz hf => ct_X9_in l E hi  x1 0 ((z.1 20 0 8) - 1) _ rr zz hf) (va_cwS 3 X.1.2.2.2.2 gX9_isTask_X9_in rfl rfl rfl (by decide +kernel) ⟨Nat.le_of_ble_eq_true rfl, Nat.le_of_ble_eq_true rfl⟩) rfl rfl (Nat.le_of_ble_eq_true rfl) dX9_isTask_8 (fun r2 z1 h => ?_)
  exact zk_zreturnG X hr dX9_isTask_11 h
def fX9_answer_B50 (c16 : Int32 → Int32 → Int32 → Int32 → zk_Z → Option (Int32 × zk_Z)) (a1 : Int32) (a2 : Int32) (a3 : Int32) (a4 : Int32) (z : zk_Z) : Option (Int32 × zk_Z) := c16 a1 a2 a3 (a4 + 1) z
def fX9_answer_L16 : Nat → Int32 → Int32 → Int32 → Int32 → zk_Z → Option (Int32 × zk_Z)
  | 0, _, _, _, _, _ => none
  | n + 1, a1, a2, a3, a4, z => zk_gd (zk_ix a1 9) (if ((1 : Int32) <<< ((z.1 28 0 a1.toNatClampNeg) &&& 31)) ≤ a4 then some ((-1), z) else zk_bd (fX9_doesSolve a1 a4 z) (fun r4 z3 => if r4 = 0 then fX9_answer_B50 (fX9_answer_L16 n) a1 a2 a3 a4 z3 else if a3 = a2 then some (a4, z3) else fX9_answer_B50 (fX9_answer_L16 n) a1 a2 (a3 + 1) a4 z3))
def fX9_answer (x1 : Int32) (x2 : Int32) (z : zk_Z) : Option (Int32 × zk_Z) := zk_bd (fX9_isTask x1 z) (fun r2 z1 => if r2 = 0 then some ((-5), z1) else fX9_answer_L16 zk_FU x1 x2 0 0 z1)
set_option maxRecDepth 100000 in
set_option maxHeartbeats 8000000 in
theorem ct_X9_answer (l : Launch) (E : zk_E) (hi : zk_inj E) (x1 : Int32) (x2 : Int32) (z : zk_Z) (r : Int32) (z' : zk_Z) (h : fX9_answer  x1 x2 z = some (r, z')) : Met l yX9_answer wsX9_answer { frames := 4, cells := 0, slots := 0, locals := 89 } (va_Pc [.ref (E.2.1 20 0), .int x1, .int x2] (zk_W E z)) (zk_Qi E r z') 0 0 (zk_A E) := by
  refine zk_met (cc := cX9_answer) (maxL := 5) (ret := (some .int)) (own := RX9) (by decide) rfl rfl hi (Nat.le_of_ble_eq_true rfl) ?_
  intro p e s m args below meth c X hr
  have iX9 : ∀ w ∈ u_ws RX9 TX9 32, w ∈ wsX9_answer := by decide +kernel
  have w0 : Cond.fieldLink RX9 31 "HiddenWorksModel" "letters" "[I" ∈ wsX9_answer := by decide +kernel
  have B50 : ∀ (c16 : Int32 → Int32 → Int32 → Int32 → zk_Z → Option (Int32 × zk_Z)) (hc16 : ∀ (a1 : Int32) (a2 : Int32) (a3 : Int32) (a4 : Int32) (z : zk_Z), c16 a1 a2 a3 a4 z = some (r, z') → zk_G p l e (headSpec wsX9_answer { frames := 4, cells := 0, slots := 0, locals := 89 }).room s m args below meth c E 5 0 0 (MQ below (zk_Qi E r z') args s 0 0 (zk_A E)) 16 [(0, .ref (E.2.1 20 0)), (1, .int a1), (2, .int a2), (3, .int a3), (4, .int a4)] [] z) (a1 : Int32) (a2 : Int32) (a3 : Int32) (a4 : Int32) (z : zk_Z), fX9_answer_B50 c16 a1 a2 a3 a4 z = some (r, z') → zk_G p l e (headSpec wsX9_answer { frames := 4, cells := 0, slots := 0, locals := 89 }).room s m args below meth c E 5 0 0 (MQ below (zk_Qi E r z') args s 0 0 (zk_A E)) 50 [(0, .ref (E.2.1 20 0)), (1, .int a1), (2, .int a2), (3, .int a3), (4, .int a4)] [] z := by
    intro c16 hc16 a1 a2 a3 a4 z h
    unfold fX9_answer_B50 at h
    refine zk_iinc X (lv' := [(4, .int (a4 + 1)), (0, .ref (E.2.1 20 0)), (1, .int a1), (2, .int a2), (3, .int a3)]) 4 dX9_answer_50 rfl rfl (by decide) rfl ?_
    refine zk_goto X (tgt := 16) dX9_answer_53 (by decide) ?_
    exact zk_sub [1, 2, 3, 4, 0] rfl (hc16 _ _ _ _ _ h)
  have L16 : ∀ (n : Nat) (a1 : Int32) (a2 : Int32) (a3 : Int32) (a4 : Int32) (z : zk_Z), fX9_answer_L16 n a1 a2 a3 a4 z = some (r, z') → zk_G p l e (headSpec wsX9_answer { frames := 4, cells := 0, slots := 0, locals := 89 }).room s m args below meth c E 5 0 0 (MQ below (zk_Qi E r z') args s 0 0 (zk_A E)) 16 [(0, .ref (E.2.1 20 0)), (1, .int a1), (2, .int a2), (3, .int a3), (4, .int a4)] [] z := by
    intro n
    induction n with
    | zero => intro a1 a2 a3 a4 z h; exact absurd h (by simp [fX9_answer_L16])
    | succ n ih =>
      intro a1 a2 a3 a4 z h
      rw [fX9_answer_L16] at h
      refine zk_iload X 4 dX9_answer_16 rfl ?_
      refine zk_iconst X (v := 1) dX9_answer_18 (by decide) ?_
      refine zk_aload_n X 0 dX9_answer_19 rfl rfl ?_
      refine zk_get X iX9 (g := 20) (Nat.zero_lt_one) rfl rfl 10 (by decide) w0 rfl dX9_answer_20 ?_
      refine zk_iload_n X 1 dX9_answer_23 rfl rfl ?_
      refine zk_iald X (g := 28) (Nat.zero_lt_one) rfl dX9_answer_24 h (fun h => ?_)
      refine zk_ishl X dX9_answer_25 ?_
      refine zk_icmp_ge X (tgt := 56) dX9_answer_26 (by decide) h (fun h => ?_) (fun h => ?_)
      · refine zk_iconst X (v := -1) dX9_answer_56 (by decide) ?_
        exact zk_ireturn X hr dX9_answer_57 h
      · refine zk_aload_n X 0 dX9_answer_29 rfl rfl ?_
        refine zk_iload_n X 1 dX9_answer_30 rfl rfl ?_
        refine zk_iload X 4 dX9_answer_31 rfl ?_
        refine zk_vi X h (fun rr zz hf => ct_X9_doesSolve l E hi a1 a4 _ rr zz hf) (cwV 2 X.1.2.2.2.2 gX9_answer_X9_doesSolve rfl rfl rfl (by decide +kernel) ⟨Nat.le_of_ble_eq_true rfl, Nat.le_of_ble_eq_true rfl⟩) (zk_recv X (g := 20) (Nat.zero_lt_one) rfl rfl) rfl rfl (Nat.le_of_ble_eq_true rfl) dX9_answer_33 (fun r4 z3 h => ?_)
        refine zk_if_eq X (tgt := 50) dX9_answer_36 (by decide) h (fun h => ?_) (fun h => ?_)
        · exact zk_sub [0, 1, 2, 3, 4] rfl (B50 _ ih _ _ _ _ _ h)
        · refine zk_iload_n X 3 dX9_answer_39 rfl rfl ?_
          refine zk_iload_n X 2 dX9_answer_40 rfl rfl ?_
          refine zk_icmp_ne X (tgt := 47) dX9_answer_41 (by decide) h (fun h => ?_) (fun h => ?_)
          · refine zk_iload X 4 dX9_answer_44 rfl ?_
            exact zk_ireturn X hr dX9_answer_46 h
          · refine zk_iinc X (lv' := [(3, .int (a3 + 1)), (0, .ref (E.2.1 20 0)), (1, .int a1), (2, .int a2), (4, .int a4)]) 3 dX9_answer_47 rfl rfl (by decide) rfl ?_
            exact zk_sub [1, 2, 3, 0, 4] rfl (B50 _ ih _ _ _ _ _ h)
  unfold fX9_answer at h
  refine zk_aload_n X 0 dX9_answer_0 rfl rfl ?_
  refine zk_iload_n X 1 dX9_answer_1 rfl rfl ?_
  refine zk_vi X h (fun rr zz hf => ct_X9_isTask l E hi  x1 _ rr zz hf) (cwV 1 X.1.2.2.2.2 gX9_answer_X9_isTask rfl rfl rfl (by decide +kernel) ⟨Nat.le_of_ble_eq_true rfl, Nat.le_of_ble_eq_true rfl⟩) (zk_recv X (g := 20) (Nat.zero_lt_one) rfl rfl) rfl rfl (Nat.le_of_ble_eq_true rfl) dX9_answer_2 (fun r2 z1 h => ?_)
  refine zk_if_ne X (tgt := 11) dX9_answer_5 (by decide) h (fun h => ?_) (fun h => ?_)
  · refine zk_bipush X (v := -5) dX9_answer_8 (by decide) ?_
    exact zk_ireturn X hr dX9_answer_10 h
  · refine zk_iconst X (v := 0) dX9_answer_11 (by decide) ?_
    refine zk_istore_n X (lv' := [(3, .int 0), (0, .ref (E.2.1 20 0)), (1, .int x1), (2, .int x2)]) dX9_answer_12 rfl (by decide) rfl ?_
    refine zk_iconst X (v := 0) dX9_answer_13 (by decide) ?_
    refine zk_istore X (lv' := [(4, .int 0), (3, .int 0), (0, .ref (E.2.1 20 0)), (1, .int x1), (2, .int x2)]) dX9_answer_14 (by decide) rfl ?_
    exact zk_sub [2, 3, 4, 1, 0] rfl (L16  _ _ _ _ _ _ h)
def fX9_answersOf_B44 (c6 : Int32 → Int32 → Int32 → Int32 → Int32 → zk_Z → Option (Int32 × zk_Z)) (a1 : Int32) (a2 : Int32) (a3 : Int32) (a5 : Int32) (s0 : Int32) (s1 : Int32) (z : zk_Z) : Option (Int32 × zk_Z) := c6 a1 a2 a3 (s1 + s0) (a5 + 1) z
def fX9_answersOf_B43 (c6 : Int32 → Int32 → Int32 → Int32 → Int32 → zk_Z → Option (Int32 × zk_Z)) (a1 : Int32) (a2 : Int32) (a3 : Int32) (a5 : Int32) (s0 : Int32) (z : zk_Z) : Option (Int32 × zk_Z) := fX9_answersOf_B44 c6 a1 a2 a3 a5 0 s0 z
def fX9_answersOf_L6 : Nat → Int32 → Int32 → Int32 → Int32 → Int32 → zk_Z → Option (Int32 × zk_Z)
  | 0, _, _, _, _, _, _ => none
  | n + 1, a1, a2, a3, a4, a5, z => zk_gd (zk_ix a1 9) (if ((1 : Int32) <<< ((z.1 28 0 a1.toNatClampNeg) &&& 31)) ≤ a5 then some (a4, z) else if (a5 &&& a2) = a3 then zk_bd (fX9_doesSolve a1 a5 z) (fun r2 z1 => if r2 = 0 then fX9_answersOf_B43 (fX9_answersOf_L6 n) a1 a2 a3 a5 a4 z1 else fX9_answersOf_B44 (fX9_answersOf_L6 n) a1 a2 a3 a5 1 a4 z1) else fX9_answersOf_B43 (fX9_answersOf_L6 n) a1 a2 a3 a5 a4 z)
def fX9_answersOf (x1 : Int32) (x2 : Int32) (x3 : Int32) (z : zk_Z) : Option (Int32 × zk_Z) := fX9_answersOf_L6 zk_FU x1 x2 x3 0 0 z
set_option maxRecDepth 100000 in
set_option maxHeartbeats 8000000 in
theorem ct_X9_answersOf (l : Launch) (E : zk_E) (hi : zk_inj E) (x1 : Int32) (x2 : Int32) (x3 : Int32) (z : zk_Z) (r : Int32) (z' : zk_Z) (h : fX9_answersOf  x1 x2 x3 z = some (r, z')) : Met l yX9_answersOf wsX9_answersOf { frames := 4, cells := 0, slots := 0, locals := 89 } (va_Pc [.ref (E.2.1 20 0), .int x1, .int x2, .int x3] (zk_W E z)) (zk_Qi E r z') 0 0 (zk_A E) := by
  refine zk_met (cc := cX9_answersOf) (maxL := 6) (ret := (some .int)) (own := RX9) (by decide) rfl rfl hi (Nat.le_of_ble_eq_true rfl) ?_
  intro p e s m args below meth c X hr
  have iX9 : ∀ w ∈ u_ws RX9 TX9 32, w ∈ wsX9_answersOf := by decide +kernel
  have w0 : Cond.fieldLink RX9 31 "HiddenWorksModel" "letters" "[I" ∈ wsX9_answersOf := by decide +kernel
  have B44 : ∀ (c6 : Int32 → Int32 → Int32 → Int32 → Int32 → zk_Z → Option (Int32 × zk_Z)) (hc6 : ∀ (a1 : Int32) (a2 : Int32) (a3 : Int32) (a4 : Int32) (a5 : Int32) (z : zk_Z), c6 a1 a2 a3 a4 a5 z = some (r, z') → zk_G p l e (headSpec wsX9_answersOf { frames := 4, cells := 0, slots := 0, locals := 89 }).room s m args below meth c E 6 0 0 (MQ below (zk_Qi E r z') args s 0 0 (zk_A E)) 6 [(0, .ref (E.2.1 20 0)), (1, .int a1), (2, .int a2), (3, .int a3), (4, .int a4), (5, .int a5)] [] z) (a1 : Int32) (a2 : Int32) (a3 : Int32) (a5 : Int32) (s0 : Int32) (s1 : Int32) (z : zk_Z), fX9_answersOf_B44 c6 a1 a2 a3 a5 s0 s1 z = some (r, z') → zk_G p l e (headSpec wsX9_answersOf { frames := 4, cells := 0, slots := 0, locals := 89 }).room s m args below meth c E 6 0 0 (MQ below (zk_Qi E r z') args s 0 0 (zk_A E)) 44 [(0, .ref (E.2.1 20 0)), (1, .int a1), (2, .int a2), (3, .int a3), (5, .int a5)] [.int s0, .int s1] z := by
    intro c6 hc6 a1 a2 a3 a5 s0 s1 z h
    unfold fX9_answersOf_B44 at h
    refine zk_iadd X dX9_answersOf_44 ?_
    refine zk_istore X (lv' := [(4, .int (s1 + s0)), (0, .ref (E.2.1 20 0)), (1, .int a1), (2, .int a2), (3, .int a3), (5, .int a5)]) dX9_answersOf_45 (by decide) rfl ?_
    refine zk_iinc X (lv' := [(5, .int (a5 + 1)), (4, .int (s1 + s0)), (0, .ref (E.2.1 20 0)), (1, .int a1), (2, .int a2), (3, .int a3)]) 5 dX9_answersOf_47 rfl rfl (by decide) rfl ?_
    refine zk_goto X (tgt := 6) dX9_answersOf_50 (by decide) ?_
    exact zk_sub [2, 3, 4, 5, 1, 0] rfl (hc6 _ _ _ _ _ _ h)
  have B43 : ∀ (c6 : Int32 → Int32 → Int32 → Int32 → Int32 → zk_Z → Option (Int32 × zk_Z)) (hc6 : ∀ (a1 : Int32) (a2 : Int32) (a3 : Int32) (a4 : Int32) (a5 : Int32) (z : zk_Z), c6 a1 a2 a3 a4 a5 z = some (r, z') → zk_G p l e (headSpec wsX9_answersOf { frames := 4, cells := 0, slots := 0, locals := 89 }).room s m args below meth c E 6 0 0 (MQ below (zk_Qi E r z') args s 0 0 (zk_A E)) 6 [(0, .ref (E.2.1 20 0)), (1, .int a1), (2, .int a2), (3, .int a3), (4, .int a4), (5, .int a5)] [] z) (a1 : Int32) (a2 : Int32) (a3 : Int32) (a5 : Int32) (s0 : Int32) (z : zk_Z), fX9_answersOf_B43 c6 a1 a2 a3 a5 s0 z = some (r, z') → zk_G p l e (headSpec wsX9_answersOf { frames := 4, cells := 0, slots := 0, locals := 89 }).room s m args below meth c E 6 0 0 (MQ below (zk_Qi E r z') args s 0 0 (zk_A E)) 43 [(0, .ref (E.2.1 20 0)), (1, .int a1), (2, .int a2), (3, .int a3), (5, .int a5)] [.int s0] z := by
    intro c6 hc6 a1 a2 a3 a5 s0 z h
    unfold fX9_answersOf_B43 at h
    refine zk_iconst X (v := 0) dX9_answersOf_43 (by decide) ?_
    exact zk_sub [0, 1, 2, 3, 4] rfl (B44 _ hc6 _ _ _ _ _ _ _ h)
  have L6 : ∀ (n : Nat) (a1 : Int32) (a2 : Int32) (a3 : Int32) (a4 : Int32) (a5 : Int32) (z : zk_Z), fX9_answersOf_L6 n a1 a2 a3 a4 a5 z = some (r, z') → zk_G p l e (headSpec wsX9_answersOf { frames := 4, cells := 0, slots := 0, locals := 89 }).room s m args below meth c E 6 0 0 (MQ below (zk_Qi E r z') args s 0 0 (zk_A E)) 6 [(0, .ref (E.2.1 20 0)), (1, .int a1), (2, .int a2), (3, .int a3), (4, .int a4), (5, .int a5)] [] z := by
    intro n
    induction n with
    | zero => intro a1 a2 a3 a4 a5 z h; exact absurd h (by simp [fX9_answersOf_L6])
    | succ n ih =>
      intro a1 a2 a3 a4 a5 z h
      rw [fX9_answersOf_L6] at h
      refine zk_iload X 5 dX9_answersOf_6 rfl ?_
      refine zk_iconst X (v := 1) dX9_answersOf_8 (by decide) ?_
      refine zk_aload_n X 0 dX9_answersOf_9 rfl rfl ?_
      refine zk_get X iX9 (g := 20) (Nat.zero_lt_one) rfl rfl 10 (by decide) w0 rfl dX9_answersOf_10 ?_
      refine zk_iload_n X 1 dX9_answersOf_13 rfl rfl ?_
      refine zk_iald X (g := 28) (Nat.zero_lt_one) rfl dX9_answersOf_14 h (fun h => ?_)
      refine zk_ishl X dX9_answersOf_15 ?_
      refine zk_icmp_ge X (tgt := 53) dX9_answersOf_16 (by decide) h (fun h => ?_) (fun h => ?_)
      · refine zk_iload X 4 dX9_answersOf_53 rfl ?_
        exact zk_ireturn X hr dX9_answersOf_55 h
      · refine zk_iload X 4 dX9_answersOf_19 rfl ?_
        refine zk_iload X 5 dX9_answersOf_21 rfl ?_
        refine zk_iload_n X 2 dX9_answersOf_23 rfl rfl ?_
        refine zk_iand X dX9_answersOf_24 ?_
        refine zk_iload_n X 3 dX9_answersOf_25 rfl rfl ?_
        refine zk_icmp_ne X (tgt := 43) dX9_answersOf_26 (by decide) h (fun h => ?_) (fun h => ?_)
        · refine zk_aload_n X 0 dX9_answersOf_29 rfl rfl ?_
          refine zk_iload_n X 1 dX9_answersOf_30 rfl rfl ?_
          refine zk_iload X 5 dX9_answersOf_31 rfl ?_
          refine zk_vi X h (fun rr zz hf => ct_X9_doesSolve l E hi a1 a5 _ rr zz hf) (cwV 2 X.1.2.2.2.2 gX9_answersOf_X9_doesSolve rfl rfl rfl (by decide +kernel) ⟨Nat.le_of_ble_eq_true rfl, Nat.le_of_ble_eq_true rfl⟩) (zk_recv X (g := 20) (Nat.zero_lt_one) rfl rfl) rfl rfl (Nat.le_of_ble_eq_true rfl) dX9_answersOf_33 (fun r2 z1 h => ?_)
          refine zk_if_eq X (tgt := 43) dX9_answersOf_36 (by decide) h (fun h => ?_) (fun h => ?_)
          · exact zk_sub [0, 1, 2, 3, 5] rfl (B43 _ ih _ _ _ _ _ _ h)
          · refine zk_iconst X (v := 1) dX9_answersOf_39 (by decide) ?_
            refine zk_goto X (tgt := 44) dX9_answersOf_40 (by decide) ?_
            exact zk_sub [0, 1, 2, 3, 5] rfl (B44 _ ih _ _ _ _ _ _ _ h)
        · exact zk_sub [0, 1, 2, 3, 5] rfl (B43 _ ih _ _ _ _ _ _ h)
  unfold fX9_answersOf at h
  refine zk_iconst X (v := 0) dX9_answersOf_0 (by decide) ?_
  refine zk_istore X (lv' := [(4, .int 0), (0, .ref (E.2.1 20 0)), (1, .int x1), (2, .int x2), (3, .int x3)]) dX9_answersOf_1 (by decide) rfl ?_
  refine zk_iconst X (v := 0) dX9_answersOf_3 (by decide) ?_
  refine zk_istore X (lv' := [(5, .int 0), (4, .int 0), (0, .ref (E.2.1 20 0)), (1, .int x1), (2, .int x2), (3, .int x3)]) dX9_answersOf_4 (by decide) rfl ?_
  exact zk_sub [2, 3, 4, 5, 1, 0] rfl (L6  _ _ _ _ _ _ _ h)
def fX9_isRow (x1 : Int32) (x2 : Int32) (z : zk_Z) : Option (Int32 × zk_Z) := zk_gd (zk_ix x1 9) (zk_bd (fX9_in x2 0 (((1 : Int32) <<< ((z.1 28 0 x1.toNatClampNeg) &&& 31)) - 1) z) (fun r2 z1 => zk_gd (zk_bz r2) (some (r2, z1))))
set_option maxRecDepth 100000 in
set_option maxHeartbeats 8000000 in
theorem ct_X9_isRow (l : Launch) (E : zk_E) (hi : zk_inj E) (x1 : Int32) (x2 : Int32) (z : zk_Z) (r : Int32) (z' : zk_Z) (h : fX9_isRow  x1 x2 z = some (r, z')) : Met l yX9_isRow wsX9_isRow { frames := 1, cells := 0, slots := 0, locals := 22 } (va_Pc [.ref (E.2.1 20 0), .int x1, .int x2] (zk_W E z)) (zk_Qi E r z') 0 0 (zk_A E) := by
  refine zk_met (cc := cX9_isRow) (maxL := 3) (ret := (some .boolean)) (own := RX9) (by decide) rfl rfl hi (Nat.le_of_ble_eq_true rfl) ?_
  intro p e s m args below meth c X hr
  have iX9 : ∀ w ∈ u_ws RX9 TX9 32, w ∈ wsX9_isRow := by decide +kernel
  have w0 : Cond.fieldLink RX9 31 "HiddenWorksModel" "letters" "[I" ∈ wsX9_isRow := by decide +kernel
  unfold fX9_isRow at h
  refine zk_iload_n X 2 dX9_isRow_0 rfl rfl ?_
  refine zk_iconst X (v := 0) dX9_isRow_1 (by decide) ?_
  refine zk_iconst X (v := 1) dX9_isRow_2 (by decide) ?_
  refine zk_aload_n X 0 dX9_isRow_3 rfl rfl ?_
  refine zk_get X iX9 (g := 20) (Nat.zero_lt_one) rfl rfl 10 (by decide) w0 rfl dX9_isRow_4 ?_
  refine zk_iload_n X 1 dX9_isRow_7 rfl rfl ?_
  refine zk_iald X (g := 28) (Nat.zero_lt_one) rfl dX9_isRow_8 h (fun h => ?_)
  refine zk_ishl X dX9_isRow_9 ?_
  refine zk_iconst X (v := 1) dX9_isRow_10 (by decide) ?_
  refine zk_isub X dX9_isRow_11 ?_
  refine zk_si X h (fun rr zz hf => ct_X9_in l E hi  x2 0 (((1 : Int32) <<< ((z.1 28 0 x1.toNatClampNeg) &&& 31)) - 1) _ rr zz hf) (va_cwS 3 X.1.2.2.2.2 gX9_isRow_X9_in rfl rfl rfl (by decide +kernel) ⟨Nat.le_of_ble_eq_true rfl, Nat.le_of_ble_eq_true rfl⟩) rfl rfl (Nat.le_of_ble_eq_true rfl) dX9_isRow_12 (fun r2 z1 h => ?_)
  exact zk_zreturnG X hr dX9_isRow_15 h
def fX9_answers (x1 : Int32) (x2 : Int32) (x3 : Int32) (z : zk_Z) : Option (Int32 × zk_Z) := zk_bd (fX9_isTask x1 z) (fun r2 z1 => if r2 = 0 then some ((-5), z1) else zk_bd (fX9_isRow x1 x2 z1) (fun r4 z3 => if r4 = 0 then some ((-2), z3) else if x3 < 0 then some ((-2), z3) else if (x3 &&& (x2 ^^^ (-1))) = 0 then zk_bd (fX9_answersOf x1 x2 x3 z3) (fun r6 z5 => some (r6, z5)) else some ((-2), z3)))
set_option maxRecDepth 100000 in
set_option maxHeartbeats 8000000 in
theorem ct_X9_answers (l : Launch) (E : zk_E) (hi : zk_inj E) (x1 : Int32) (x2 : Int32) (x3 : Int32) (z : zk_Z) (r : Int32) (z' : zk_Z) (h : fX9_answers  x1 x2 x3 z = some (r, z')) : Met l yX9_answers wsX9_answers { frames := 5, cells := 0, slots := 0, locals := 114 } (va_Pc [.ref (E.2.1 20 0), .int x1, .int x2, .int x3] (zk_W E z)) (zk_Qi E r z') 0 0 (zk_A E) := by
  refine zk_met (cc := cX9_answers) (maxL := 4) (ret := (some .int)) (own := RX9) (by decide) rfl rfl hi (Nat.le_of_ble_eq_true rfl) ?_
  intro p e s m args below meth c X hr
  unfold fX9_answers at h
  refine zk_aload_n X 0 dX9_answers_0 rfl rfl ?_
  refine zk_iload_n X 1 dX9_answers_1 rfl rfl ?_
  refine zk_vi X h (fun rr zz hf => ct_X9_isTask l E hi  x1 _ rr zz hf) (cwV 1 X.1.2.2.2.2 gX9_answers_X9_isTask rfl rfl rfl (by decide +kernel) ⟨Nat.le_of_ble_eq_true rfl, Nat.le_of_ble_eq_true rfl⟩) (zk_recv X (g := 20) (Nat.zero_lt_one) rfl rfl) rfl rfl (Nat.le_of_ble_eq_true rfl) dX9_answers_2 (fun r2 z1 h => ?_)
  refine zk_if_ne X (tgt := 11) dX9_answers_5 (by decide) h (fun h => ?_) (fun h => ?_)
  · refine zk_bipush X (v := -5) dX9_answers_8 (by decide) ?_
    exact zk_ireturn X hr dX9_answers_10 h
  · refine zk_aload_n X 0 dX9_answers_11 rfl rfl ?_
    refine zk_iload_n X 1 dX9_answers_12 rfl rfl ?_
    refine zk_iload_n X 2 dX9_answers_13 rfl rfl ?_
    refine zk_vi X h (fun rr zz hf => ct_X9_isRow l E hi  x1 x2 _ rr zz hf) (cwV 2 X.1.2.2.2.2 gX9_answers_X9_isRow rfl rfl rfl (by decide +kernel) ⟨Nat.le_of_ble_eq_true rfl, Nat.le_of_ble_eq_true rfl⟩) (zk_recv X (g := 20) (Nat.zero_lt_one) rfl rfl) rfl rfl (Nat.le_of_ble_eq_true rfl) dX9_answers_14 (fun r4 z3 h => ?_)
    refine zk_if_eq X (tgt := 32) dX9_answers_17 (by decide) h (fun h => ?_) (fun h => ?_)
    · refine zk_bipush X (v := -2) dX9_answers_32 (by decide) ?_
      exact zk_ireturn X hr dX9_answers_34 h
    · refine zk_iload_n X 3 dX9_answers_20 rfl rfl ?_
      refine zk_if_lt X (tgt := 32) dX9_answers_21 (by decide) h (fun h => ?_) (fun h => ?_)
      · refine zk_bipush X (v := -2) dX9_answers_32 (by decide) ?_
        exact zk_ireturn X hr dX9_answers_34 h
      · refine zk_iload_n X 3 dX9_answers_24 rfl rfl ?_
        refine zk_iload_n X 2 dX9_answers_25 rfl rfl ?_
        refine zk_iconst X (v := -1) dX9_answers_26 (by decide) ?_
        refine zk_ixor X dX9_answers_27 ?_
        refine zk_iand X dX9_answers_28 ?_
        refine zk_if_eq X (tgt := 35) dX9_answers_29 (by decide) h (fun h => ?_) (fun h => ?_)
        · refine zk_aload_n X 0 dX9_answers_35 rfl rfl ?_
          refine zk_iload_n X 1 dX9_answers_36 rfl rfl ?_
          refine zk_iload_n X 2 dX9_answers_37 rfl rfl ?_
          refine zk_iload_n X 3 dX9_answers_38 rfl rfl ?_
          refine zk_vi X h (fun rr zz hf => ct_X9_answersOf l E hi  x1 x2 x3 _ rr zz hf) (cwV 3 X.1.2.2.2.2 gX9_answers_X9_answersOf rfl rfl rfl (by decide +kernel) ⟨Nat.le_of_ble_eq_true rfl, Nat.le_of_ble_eq_true rfl⟩) (zk_recv X (g := 20) (Nat.zero_lt_one) rfl rfl) rfl rfl (Nat.le_of_ble_eq_true rfl) dX9_answers_39 (fun r6 z5 h => ?_)
          exact zk_ireturn X hr dX9_answers_42 h
        · refine zk_bipush X (v := -2) dX9_answers_32 (by decide) ?_
          exact zk_ireturn X hr dX9_answers_34 h
def fX9_areSeeds (x0 : Int32) (x1 : Int32) (z : zk_Z) : Option (Int32 × zk_Z) := zk_bd (fX9_in x0 0 99999 z) (fun r2 z1 => if r2 = 0 then some (0, z1) else zk_bd (fX9_in x1 1 24 z1) (fun r4 z3 => if r4 = 0 then some (0, z3) else if 100000 < (x0 + x1) then some (0, z3) else some (1, z3)))
set_option maxRecDepth 100000 in
set_option maxHeartbeats 8000000 in
theorem ct_X9_areSeeds (l : Launch) (E : zk_E) (hi : zk_inj E) (x0 : Int32) (x1 : Int32) (z : zk_Z) (r : Int32) (z' : zk_Z) (h : fX9_areSeeds  x0 x1 z = some (r, z')) : Met l yX9_areSeeds wsX9_areSeeds { frames := 1, cells := 0, slots := 0, locals := 22 } (va_Pc [.int x0, .int x1] (zk_W E z)) (zk_Qi E r z') 0 0 (zk_A E) := by
  refine zk_met (cc := cX9_areSeeds) (maxL := 2) (ret := (some .boolean)) (own := RX9) (by decide) rfl rfl hi (Nat.le_of_ble_eq_true rfl) ?_
  intro p e s m args below meth c X hr
  have w0 : Cond.constant RX9 151 (99999) ∈ wsX9_areSeeds := by decide +kernel
  have w1 : Cond.constant RX9 217 (100000) ∈ wsX9_areSeeds := by decide +kernel
  unfold fX9_areSeeds at h
  refine zk_iload_n X 0 dX9_areSeeds_0 rfl rfl ?_
  refine zk_iconst X (v := 0) dX9_areSeeds_1 (by decide) ?_
  refine zk_ldc X w0 dX9_areSeeds_2 ?_
  refine zk_si X h (fun rr zz hf => ct_X9_in l E hi  x0 0 99999 _ rr zz hf) (va_cwS 3 X.1.2.2.2.2 gX9_areSeeds_X9_in rfl rfl rfl (by decide +kernel) ⟨Nat.le_of_ble_eq_true rfl, Nat.le_of_ble_eq_true rfl⟩) rfl rfl (Nat.le_of_ble_eq_true rfl) dX9_areSeeds_4 (fun r2 z1 h => ?_)
  refine zk_if_eq X (tgt := 32) dX9_areSeeds_7 (by decide) h (fun h => ?_) (fun h => ?_)
  · refine zk_iconst X (v := 0) dX9_areSeeds_32 (by decide) ?_
    exact zk_zreturn X hr dX9_areSeeds_33 rfl h
  · refine zk_iload_n X 1 dX9_areSeeds_10 rfl rfl ?_
    refine zk_iconst X (v := 1) dX9_areSeeds_11 (by decide) ?_
    refine zk_bipush X (v := 24) dX9_areSeeds_12 (by decide) ?_
    refine zk_si X h (fun rr zz hf => ct_X9_in l E hi  x1 1 24 _ rr zz hf) (va_cwS 3 X.1.2.2.2.2 gX9_areSeeds_X9_in rfl rfl rfl (by decide +kernel) ⟨Nat.le_of_ble_eq_true rfl, Nat.le_of_ble_eq_true rfl⟩) rfl rfl (Nat.le_of_ble_eq_true rfl) dX9_areSeeds_14 (fun r4 z3 h => ?_)
    refine zk_if_eq X (tgt := 32) dX9_areSeeds_17 (by decide) h (fun h => ?_) (fun h => ?_)
    · refine zk_iconst X (v := 0) dX9_areSeeds_32 (by decide) ?_
      exact zk_zreturn X hr dX9_areSeeds_33 rfl h
    · refine zk_iload_n X 0 dX9_areSeeds_20 rfl rfl ?_
      refine zk_iload_n X 1 dX9_areSeeds_21 rfl rfl ?_
      refine zk_iadd X dX9_areSeeds_22 ?_
      refine zk_ldc X w1 dX9_areSeeds_23 ?_
      refine zk_icmp_gt X (tgt := 32) dX9_areSeeds_25 (by decide) h (fun h => ?_) (fun h => ?_)
      · refine zk_iconst X (v := 0) dX9_areSeeds_32 (by decide) ?_
        exact zk_zreturn X hr dX9_areSeeds_33 rfl h
      · refine zk_iconst X (v := 1) dX9_areSeeds_28 (by decide) ?_
        refine zk_goto X (tgt := 33) dX9_areSeeds_29 (by decide) ?_
        exact zk_zreturn X hr dX9_areSeeds_33 rfl h
def fX9_isRecipe (x1 : Int32) (z : zk_Z) : Option (Int32 × zk_Z) := zk_bd (fX9_in x1 0 ((z.1 20 0 2) - 1) z) (fun r2 z1 => zk_gd (zk_bz r2) (some (r2, z1)))
set_option maxRecDepth 100000 in
set_option maxHeartbeats 8000000 in
theorem ct_X9_isRecipe (l : Launch) (E : zk_E) (hi : zk_inj E) (x1 : Int32) (z : zk_Z) (r : Int32) (z' : zk_Z) (h : fX9_isRecipe  x1 z = some (r, z')) : Met l yX9_isRecipe wsX9_isRecipe { frames := 1, cells := 0, slots := 0, locals := 22 } (va_Pc [.ref (E.2.1 20 0), .int x1] (zk_W E z)) (zk_Qi E r z') 0 0 (zk_A E) := by
  refine zk_met (cc := cX9_isRecipe) (maxL := 2) (ret := (some .boolean)) (own := RX9) (by decide) rfl rfl hi (Nat.le_of_ble_eq_true rfl) ?_
  intro p e s m args below meth c X hr
  have iX9 : ∀ w ∈ u_ws RX9 TX9 32, w ∈ wsX9_isRecipe := by decide +kernel
  have w0 : Cond.fieldLink RX9 114 "HiddenWorksModel" "recipes" "I" ∈ wsX9_isRecipe := by decide +kernel
  unfold fX9_isRecipe at h
  refine zk_iload_n X 1 dX9_isRecipe_0 rfl rfl ?_
  refine zk_iconst X (v := 0) dX9_isRecipe_1 (by decide) ?_
  refine zk_aload_n X 0 dX9_isRecipe_2 rfl rfl ?_
  refine zk_get X iX9 (g := 20) (Nat.zero_lt_one) rfl rfl 2 (by decide) w0 rfl dX9_isRecipe_3 ?_
  refine zk_iconst X (v := 1) dX9_isRecipe_6 (by decide) ?_
  refine zk_isub X dX9_isRecipe_7 ?_
  refine zk_si X h (fun rr zz hf => ct_X9_in l E hi  x1 0 ((z.1 20 0 2) - 1) _ rr zz hf) (va_cwS 3 X.1.2.2.2.2 gX9_isRecipe_X9_in rfl rfl rfl (by decide +kernel) ⟨Nat.le_of_ble_eq_true rfl, Nat.le_of_ble_eq_true rfl⟩) rfl rfl (Nat.le_of_ble_eq_true rfl) dX9_isRecipe_8 (fun r2 z1 h => ?_)
  exact zk_zreturnG X hr dX9_isRecipe_11 h
def fX9_rightBy_B49 (c5 : Int32 → Int32 → Int32 → Int32 → zk_Z → Option (Int32 × zk_Z)) (a1 : Int32) (a2 : Int32) (a4 : Int32) (s0 : Int32) (s1 : Int32) (z : zk_Z) : Option (Int32 × zk_Z) := c5 a1 a2 (s1 + s0) (a4 + 1) z
def fX9_rightBy_B41 (c5 : Int32 → Int32 → Int32 → Int32 → zk_Z → Option (Int32 × zk_Z)) (a1 : Int32) (a2 : Int32) (a4 : Int32) (s0 : Int32) (s1 : Int32) (s2 : Int32) (z : zk_Z) : Option (Int32 × zk_Z) := if s1 = s0 then fX9_rightBy_B49 c5 a1 a2 a4 1 s2 z else fX9_rightBy_B49 c5 a1 a2 a4 0 s2 z
def fX9_rightBy_B30 (c5 : Int32 → Int32 → Int32 → Int32 → zk_Z → Option (Int32 × zk_Z)) (a1 : Int32) (a2 : Int32) (a4 : Int32) (s0 : Int32) (s1 : Int32) (z : zk_Z) : Option (Int32 × zk_Z) := if a2 ≤ a4 then fX9_rightBy_B41 c5 a1 a2 a4 0 s0 s1 z else fX9_rightBy_B41 c5 a1 a2 a4 1 s0 s1 z
def fX9_rightBy_L5 : Nat → Int32 → Int32 → Int32 → Int32 → zk_Z → Option (Int32 × zk_Z)
  | 0, _, _, _, _, _ => none
  | n + 1, a1, a2, a3, a4, z => if (2 * a2) ≤ a4 then some (a3, z) else zk_gd (zk_ix a4 48) (if (z.1 43 0 a4.toNatClampNeg) ≤ a1 then fX9_rightBy_B30 (fX9_rightBy_L5 n) a1 a2 a4 0 a3 z else fX9_rightBy_B30 (fX9_rightBy_L5 n) a1 a2 a4 1 a3 z)
def fX9_rightBy (x1 : Int32) (x2 : Int32) (z : zk_Z) : Option (Int32 × zk_Z) := fX9_rightBy_L5 zk_FU x1 x2 0 0 z
set_option maxRecDepth 100000 in
set_option maxHeartbeats 8000000 in
theorem ct_X9_rightBy (l : Launch) (E : zk_E) (hi : zk_inj E) (x1 : Int32) (x2 : Int32) (z : zk_Z) (r : Int32) (z' : zk_Z) (h : fX9_rightBy  x1 x2 z = some (r, z')) : Met l yX9_rightBy wsX9_rightBy { frames := 0, cells := 0, slots := 0, locals := 0 } (va_Pc [.ref (E.2.1 20 0), .int x1, .int x2] (zk_W E z)) (zk_Qi E r z') 0 0 (zk_A E) := by
  refine zk_met (cc := cX9_rightBy) (maxL := 5) (ret := (some .int)) (own := RX9) (by decide) rfl rfl hi (Nat.le_of_ble_eq_true rfl) ?_
  intro p e s m args below meth c X hr
  have iX9 : ∀ w ∈ u_ws RX9 TX9 32, w ∈ wsX9_rightBy := by decide +kernel
  have w0 : Cond.fieldLink RX9 76 "HiddenWorksModel" "signs" "[I" ∈ wsX9_rightBy := by decide +kernel
  have B49 : ∀ (c5 : Int32 → Int32 → Int32 → Int32 → zk_Z → Option (Int32 × zk_Z)) (hc5 : ∀ (a1 : Int32) (a2 : Int32) (a3 : Int32) (a4 : Int32) (z : zk_Z), c5 a1 a2 a3 a4 z = some (r, z') → zk_G p l e (headSpec wsX9_rightBy { frames := 0, cells := 0, slots := 0, locals := 0 }).room s m args below meth c E 5 0 0 (MQ below (zk_Qi E r z') args s 0 0 (zk_A E)) 5 [(0, .ref (E.2.1 20 0)), (1, .int a1), (2, .int a2), (3, .int a3), (4, .int a4)] [] z) (a1 : Int32) (a2 : Int32) (a4 : Int32) (s0 : Int32) (s1 : Int32) (z : zk_Z), fX9_rightBy_B49 c5 a1 a2 a4 s0 s1 z = some (r, z') → zk_G p l e (headSpec wsX9_rightBy { frames := 0, cells := 0, slots := 0, locals := 0 }).room s m args below meth c E 5 0 0 (MQ below (zk_Qi E r z') args s 0 0 (zk_A E)) 49 [(0, .ref (E.2.1 20 0)), (1, .int a1), (2, .int a2), (4, .int a4)] [.int s0, .int s1] z := by
    intro c5 hc5 a1 a2 a4 s0 s1 z h
    unfold fX9_rightBy_B49 at h
    refine zk_iadd X dX9_rightBy_49 ?_
    refine zk_istore_n X (lv' := [(3, .int (s1 + s0)), (0, .ref (E.2.1 20 0)), (1, .int a1), (2, .int a2), (4, .int a4)]) dX9_rightBy_50 rfl (by decide) rfl ?_
    refine zk_iinc X (lv' := [(4, .int (a4 + 1)), (3, .int (s1 + s0)), (0, .ref (E.2.1 20 0)), (1, .int a1), (2, .int a2)]) 4 dX9_rightBy_51 rfl rfl (by decide) rfl ?_
    refine zk_goto X (tgt := 5) dX9_rightBy_54 (by decide) ?_
    exact zk_sub [2, 3, 4, 1, 0] rfl (hc5 _ _ _ _ _ h)
  have B41 : ∀ (c5 : Int32 → Int32 → Int32 → Int32 → zk_Z → Option (Int32 × zk_Z)) (hc5 : ∀ (a1 : Int32) (a2 : Int32) (a3 : Int32) (a4 : Int32) (z : zk_Z), c5 a1 a2 a3 a4 z = some (r, z') → zk_G p l e (headSpec wsX9_rightBy { frames := 0, cells := 0, slots := 0, locals := 0 }).room s m args below meth c E 5 0 0 (MQ below (zk_Qi E r z') args s 0 0 (zk_A E)) 5 [(0, .ref (E.2.1 20 0)), (1, .int a1), (2, .int a2), (3, .int a3), (4, .int a4)] [] z) (a1 : Int32) (a2 : Int32) (a4 : Int32) (s0 : Int32) (s1 : Int32) (s2 : Int32) (z : zk_Z), fX9_rightBy_B41 c5 a1 a2 a4 s0 s1 s2 z = some (r, z') → zk_G p l e (headSpec wsX9_rightBy { frames := 0, cells := 0, slots := 0, locals := 0 }).room s m args below meth c E 5 0 0 (MQ below (zk_Qi E r z') args s 0 0 (zk_A E)) 41 [(0, .ref (E.2.1 20 0)), (1, .int a1), (2, .int a2), (4, .int a4)] [.int s0, .int s1, .int s2] z := by
    intro c5 hc5 a1 a2 a4 s0 s1 s2 z h
    unfold fX9_rightBy_B41 at h
    refine zk_icmp_ne X (tgt := 48) dX9_rightBy_41 (by decide) h (fun h => ?_) (fun h => ?_)
    · refine zk_iconst X (v := 1) dX9_rightBy_44 (by decide) ?_
      refine zk_goto X (tgt := 49) dX9_rightBy_45 (by decide) ?_
      exact zk_sub [0, 1, 2, 3] rfl (B49 _ hc5 _ _ _ _ _ _ h)
    · refine zk_iconst X (v := 0) dX9_rightBy_48 (by decide) ?_
      exact zk_sub [0, 1, 2, 3] rfl (B49 _ hc5 _ _ _ _ _ _ h)
  have B30 : ∀ (c5 : Int32 → Int32 → Int32 → Int32 → zk_Z → Option (Int32 × zk_Z)) (hc5 : ∀ (a1 : Int32) (a2 : Int32) (a3 : Int32) (a4 : Int32) (z : zk_Z), c5 a1 a2 a3 a4 z = some (r, z') → zk_G p l e (headSpec wsX9_rightBy { frames := 0, cells := 0, slots := 0, locals := 0 }).room s m args below meth c E 5 0 0 (MQ below (zk_Qi E r z') args s 0 0 (zk_A E)) 5 [(0, .ref (E.2.1 20 0)), (1, .int a1), (2, .int a2), (3, .int a3), (4, .int a4)] [] z) (a1 : Int32) (a2 : Int32) (a4 : Int32) (s0 : Int32) (s1 : Int32) (z : zk_Z), fX9_rightBy_B30 c5 a1 a2 a4 s0 s1 z = some (r, z') → zk_G p l e (headSpec wsX9_rightBy { frames := 0, cells := 0, slots := 0, locals := 0 }).room s m args below meth c E 5 0 0 (MQ below (zk_Qi E r z') args s 0 0 (zk_A E)) 30 [(0, .ref (E.2.1 20 0)), (1, .int a1), (2, .int a2), (4, .int a4)] [.int s0, .int s1] z := by
    intro c5 hc5 a1 a2 a4 s0 s1 z h
    unfold fX9_rightBy_B30 at h
    refine zk_iload X 3 dX9_rightBy_30 rfl ?_
    refine zk_iload_n X 2 dX9_rightBy_32 rfl rfl ?_
    refine zk_icmp_ge X (tgt := 40) dX9_rightBy_33 (by decide) h (fun h => ?_) (fun h => ?_)
    · refine zk_iconst X (v := 0) dX9_rightBy_40 (by decide) ?_
      exact zk_sub [0, 1, 2, 3] rfl (B41 _ hc5 _ _ _ _ _ _ _ h)
    · refine zk_iconst X (v := 1) dX9_rightBy_36 (by decide) ?_
      refine zk_goto X (tgt := 41) dX9_rightBy_37 (by decide) ?_
      exact zk_sub [0, 1, 2, 3] rfl (B41 _ hc5 _ _ _ _ _ _ _ h)
  have L5 : ∀ (n : Nat) (a1 : Int32) (a2 : Int32) (a3 : Int32) (a4 : Int32) (z : zk_Z), fX9_rightBy_L5 n a1 a2 a3 a4 z = some (r, z') → zk_G p l e (headSpec wsX9_rightBy { frames := 0, cells := 0, slots := 0, locals := 0 }).room s m args below meth c E 5 0 0 (MQ below (zk_Qi E r z') args s 0 0 (zk_A E)) 5 [(0, .ref (E.2.1 20 0)), (1, .int a1), (2, .int a2), (3, .int a3), (4, .int a4)] [] z := by
    intro n
    induction n with
    | zero => intro a1 a2 a3 a4 z h; exact absurd h (by simp [fX9_rightBy_L5])
    | succ n ih =>
      intro a1 a2 a3 a4 z h
      rw [fX9_rightBy_L5] at h
      refine zk_iload X 4 dX9_rightBy_5 rfl ?_
      refine zk_iconst X (v := 2) dX9_rightBy_7 (by decide) ?_
      refine zk_iload_n X 2 dX9_rightBy_8 rfl rfl ?_
      refine zk_imul X dX9_rightBy_9 ?_
      refine zk_icmp_ge X (tgt := 57) dX9_rightBy_10 (by decide) h (fun h => ?_) (fun h => ?_)
      · refine zk_iload_n X 3 dX9_rightBy_57 rfl rfl ?_
        exact zk_ireturn X hr dX9_rightBy_58 h
      · refine zk_iload_n X 3 dX9_rightBy_13 rfl rfl ?_
        refine zk_aload_n X 0 dX9_rightBy_14 rfl rfl ?_
        refine zk_get X iX9 (g := 20) (Nat.zero_lt_one) rfl rfl 31 (by decide) w0 rfl dX9_rightBy_15 ?_
        refine zk_iload X 4 dX9_rightBy_18 rfl ?_
        refine zk_iald X (g := 43) (Nat.zero_lt_one) rfl dX9_rightBy_20 h (fun h => ?_)
        refine zk_iload_n X 1 dX9_rightBy_21 rfl rfl ?_
        refine zk_icmp_le X (tgt := 29) dX9_rightBy_22 (by decide) h (fun h => ?_) (fun h => ?_)
        · refine zk_iconst X (v := 0) dX9_rightBy_29 (by decide) ?_
          exact zk_sub [0, 1, 2, 4] rfl (B30 _ ih _ _ _ _ _ _ h)
        · refine zk_iconst X (v := 1) dX9_rightBy_25 (by decide) ?_
          refine zk_goto X (tgt := 30) dX9_rightBy_26 (by decide) ?_
          exact zk_sub [0, 1, 2, 4] rfl (B30 _ ih _ _ _ _ _ _ h)
  unfold fX9_rightBy at h
  refine zk_iconst X (v := 0) dX9_rightBy_0 (by decide) ?_
  refine zk_istore_n X (lv' := [(3, .int 0), (0, .ref (E.2.1 20 0)), (1, .int x1), (2, .int x2)]) dX9_rightBy_1 rfl (by decide) rfl ?_
  refine zk_iconst X (v := 0) dX9_rightBy_2 (by decide) ?_
  refine zk_istore X (lv' := [(4, .int 0), (3, .int 0), (0, .ref (E.2.1 20 0)), (1, .int x1), (2, .int x2)]) dX9_rightBy_3 (by decide) rfl ?_
  exact zk_sub [2, 3, 4, 1, 0] rfl (L5  _ _ _ _ _ _ h)
def fX9_draw (x1 : Int32) (z : zk_Z) : Option (Int32 × zk_Z) := zk_gd (zk_nzl x1.toInt64) (some (((((zk_sL z 1 (((z.2 1) * 48271) - ((z.2 1) * 48271) / 2147483647 * 2147483647)).2 1) / 16) - (((zk_sL z 1 (((z.2 1) * 48271) - ((z.2 1) * 48271) / 2147483647 * 2147483647)).2 1) / 16) / x1.toInt64 * x1.toInt64).toInt32, zk_sL z 1 (((z.2 1) * 48271) - ((z.2 1) * 48271) / 2147483647 * 2147483647)))
set_option maxRecDepth 100000 in
set_option maxHeartbeats 8000000 in
theorem ct_X9_draw (l : Launch) (E : zk_E) (hi : zk_inj E) (x1 : Int32) (z : zk_Z) (r : Int32) (z' : zk_Z) (h : fX9_draw  x1 z = some (r, z')) : Met l yX9_draw wsX9_draw { frames := 0, cells := 0, slots := 0, locals := 0 } (va_Pc [.ref (E.2.1 20 0), .int x1] (zk_W E z)) (zk_Qi E r z') 0 0 (zk_A E) := by
  refine zk_met (cc := cX9_draw) (maxL := 2) (ret := (some .int)) (own := RX9) (by decide) rfl rfl hi (Nat.le_of_ble_eq_true rfl) ?_
  intro p e s m args below meth c X hr
  have iX9 : ∀ w ∈ u_ws RX9 TX9 32, w ∈ wsX9_draw := by decide +kernel
  have w0 : Cond.fieldLink RX9 127 "HiddenWorksModel" "lot" "J" ∈ wsX9_draw := by decide +kernel
  have w1 : Cond.constantLong RX9 131 (48271) ∈ wsX9_draw := by decide +kernel
  have w2 : Cond.constantLong RX9 133 (2147483647) ∈ wsX9_draw := by decide +kernel
  have w3 : Cond.constantLong RX9 135 (16) ∈ wsX9_draw := by decide +kernel
  unfold fX9_draw at h
  refine zk_aload_n X 0 dX9_draw_0 rfl rfl ?_
  refine zk_aload_n X 0 dX9_draw_1 rfl rfl ?_
  refine zk_get X iX9 (g := 20) (Nat.zero_lt_one) rfl rfl 28 (by decide) w0 rfl dX9_draw_2 ?_
  refine zk_ldc2 X w1 dX9_draw_5 ?_
  refine zk_lmul X dX9_draw_8 ?_
  refine zk_ldc2 X w2 dX9_draw_9 ?_
  refine zk_lrem X (α := Unit) (a := some ()) (o := ()) dX9_draw_12 rfl (fun _ => ?_)
  refine zk_putL X iX9 tyX9 tyX9_ok nmX9 (g := 20) (Nat.zero_lt_one) rfl rfl 28 1 (by decide) w0 rfl (by decide +kernel) (Nat.le_of_ble_eq_true rfl) rfl (Or.inr ⟨rfl, rfl⟩) dX9_draw_13 ?_
  refine zk_aload_n X 0 dX9_draw_16 rfl rfl ?_
  refine zk_get X iX9 (g := 20) (Nat.zero_lt_one) rfl rfl 28 (by decide) w0 rfl dX9_draw_17 ?_
  refine zk_ldc2 X w3 dX9_draw_20 ?_
  refine zk_ldiv X (α := Unit) (a := some ()) (o := ()) dX9_draw_23 rfl (fun _ => ?_)
  refine zk_iload_n X 1 dX9_draw_24 rfl rfl ?_
  refine zk_i2l X dX9_draw_25 ?_
  refine zk_lrem X dX9_draw_26 h (fun h => ?_)
  refine zk_l2i X dX9_draw_27 ?_
  exact zk_ireturn X hr dX9_draw_28 h
def fX9_choose_B112 (c84 : Int32 → Int32 → Int32 → Int32 → zk_Z → Option (Unit × zk_Z)) (a1 : Int32) (a3 : Int32) (a4 : Int32) (a5 : Int32) (z : zk_Z) : Option (Unit × zk_Z) := c84 a1 a3 a4 (a5 + 1) z
def fX9_choose_L84 : Nat → Int32 → Int32 → Int32 → Int32 → zk_Z → Option (Unit × zk_Z)
  | 0, _, _, _, _, _ => none
  | n + 1, a1, a3, a4, a5, z => if a1 ≤ a5 then some ((), z) else if ((a3 >>> (a5 &&& 31)) &&& 1) = 1 then zk_gd (zk_ix a4 3) (fX9_choose_B112 (fX9_choose_L84 n) a1 a3 (a4 + 1) a5 (zk_sI z 42 0 a4.toNatClampNeg a5)) else fX9_choose_B112 (fX9_choose_L84 n) a1 a3 a4 a5 z
def fX9_choose_B56 (c5 : Int32 → Int32 → Int32 → Int32 → zk_Z → Option (Unit × zk_Z)) (c24 : Int32 → Int32 → Int32 → Int32 → Int32 → Int32 → zk_Z → Option (Unit × zk_Z)) (a1 : Int32) (a2 : Int32) (a3 : Int32) (a4 : Int32) (a6 : Int32) (s0 : Int32) (s1 : Int32) (z : zk_Z) : Option (Unit × zk_Z) := c24 a1 a2 a3 a4 (s1 - s0) (a6 + 1) z
def fX9_choose_B39 (c5 : Int32 → Int32 → Int32 → Int32 → zk_Z → Option (Unit × zk_Z)) (c24 : Int32 → Int32 → Int32 → Int32 → Int32 → Int32 → zk_Z → Option (Unit × zk_Z)) (a1 : Int32) (a2 : Int32) (a3 : Int32) (a4 : Int32) (a5 : Int32) (a6 : Int32) (z : zk_Z) : Option (Unit × zk_Z) := if ((a3 >>> (a6 &&& 31)) &&& 1) = 1 then fX9_choose_B56 c5 c24 a1 a2 a3 a4 a6 0 a5 z else fX9_choose_B56 c5 c24 a1 a2 a3 a4 a6 1 a5 z
def fX9_choose_L24 (c5 : Int32 → Int32 → Int32 → Int32 → zk_Z → Option (Unit × zk_Z)) : Nat → Int32 → Int32 → Int32 → Int32 → Int32 → Int32 → zk_Z → Option (Unit × zk_Z)
  | 0, _, _, _, _, _, _, _ => none
  | n + 1, a1, a2, a3, a4, a5, a6, z => if ((a3 >>> (a6 &&& 31)) &&& 1) = 1 then fX9_choose_B39 c5 (fX9_choose_L24 c5 n) a1 a2 a3 a4 a5 a6 z else if a5 ≤ 0 then c5 a1 a2 (a3 ||| ((1 : Int32) <<< (a6 &&& 31))) (a4 + 1) z else fX9_choose_B39 c5 (fX9_choose_L24 c5 n) a1 a2 a3 a4 a5 a6 z
def fX9_choose_L5 : Nat → Int32 → Int32 → Int32 → Int32 → zk_Z → Option (Unit × zk_Z)
  | 0, _, _, _, _, _ => none
  | n + 1, a1, a2, a3, a4, z => if a2 ≤ a4 then fX9_choose_L84 zk_FU a1 a3 0 0 z else zk_bd (fX9_draw (a1 - a4) z) (fun r2 z1 => fX9_choose_L24 (fX9_choose_L5 n) zk_FU a1 a2 a3 a4 r2 0 z1)
def fX9_choose (x1 : Int32) (x2 : Int32) (z : zk_Z) : Option (Unit × zk_Z) := fX9_choose_L5 zk_FU x1 x2 0 0 z
set_option maxRecDepth 100000 in
set_option maxHeartbeats 8000000 in
theorem ct_X9_choose (l : Launch) (E : zk_E) (hi : zk_inj E) (x1 : Int32) (x2 : Int32) (z : zk_Z) (r : Unit) (z' : zk_Z) (h : fX9_choose  x1 x2 z = some (r, z')) : Met l yX9_choose wsX9_choose { frames := 1, cells := 0, slots := 0, locals := 21 } (va_Pc [.ref (E.2.1 20 0), .int x1, .int x2] (zk_W E z)) (zk_Qv E z') 0 0 (zk_A E) := by
  refine zk_met (cc := cX9_choose) (maxL := 7) (ret := none) (own := RX9) (by decide) rfl rfl hi (Nat.le_of_ble_eq_true rfl) ?_
  intro p e s m args below meth c X hr
  have iX9 : ∀ w ∈ u_ws RX9 TX9 32, w ∈ wsX9_choose := by decide +kernel
  have w0 : Cond.fieldLink RX9 73 "HiddenWorksModel" "chosen" "[I" ∈ wsX9_choose := by decide +kernel
  have B112 : ∀ (c84 : Int32 → Int32 → Int32 → Int32 → zk_Z → Option (Unit × zk_Z)) (hc84 : ∀ (a1 : Int32) (a3 : Int32) (a4 : Int32) (a5 : Int32) (z : zk_Z), c84 a1 a3 a4 a5 z = some (r, z') → zk_G p l e (headSpec wsX9_choose { frames := 1, cells := 0, slots := 0, locals := 21 }).room s m args below meth c E 7 0 0 (MQ below (zk_Qv E z') args s 0 0 (zk_A E)) 84 [(0, .ref (E.2.1 20 0)), (1, .int a1), (3, .int a3), (4, .int a4), (5, .int a5)] [] z) (a1 : Int32) (a3 : Int32) (a4 : Int32) (a5 : Int32) (z : zk_Z), fX9_choose_B112 c84 a1 a3 a4 a5 z = some (r, z') → zk_G p l e (headSpec wsX9_choose { frames := 1, cells := 0, slots := 0, locals := 21 }).room s m args below meth c E 7 0 0 (MQ below (zk_Qv E z') args s 0 0 (zk_A E)) 112 [(0, .ref (E.2.1 20 0)), (1, .int a1), (3, .int a3), (4, .int a4), (5, .int a5)] [] z := by
    intro c84 hc84 a1 a3 a4 a5 z h
    unfold fX9_choose_B112 at h
    refine zk_iinc X (lv' := [(5, .int (a5 + 1)), (0, .ref (E.2.1 20 0)), (1, .int a1), (3, .int a3), (4, .int a4)]) 4 dX9_choose_112 rfl rfl (by decide) rfl ?_
    refine zk_goto X (tgt := 84) dX9_choose_115 (by decide) ?_
    exact zk_sub [1, 2, 3, 4, 0] rfl (hc84 _ _ _ _ _ h)
  have L84 : ∀ (n : Nat) (a1 : Int32) (a3 : Int32) (a4 : Int32) (a5 : Int32) (z : zk_Z), fX9_choose_L84 n a1 a3 a4 a5 z = some (r, z') → zk_G p l e (headSpec wsX9_choose { frames := 1, cells := 0, slots := 0, locals := 21 }).room s m args below meth c E 7 0 0 (MQ below (zk_Qv E z') args s 0 0 (zk_A E)) 84 [(0, .ref (E.2.1 20 0)), (1, .int a1), (3, .int a3), (4, .int a4), (5, .int a5)] [] z := by
    intro n
    induction n with
    | zero => intro a1 a3 a4 a5 z h; exact absurd h (by simp [fX9_choose_L84])
    | succ n ih =>
      intro a1 a3 a4 a5 z h
      rw [fX9_choose_L84] at h
      refine zk_iload X 4 dX9_choose_84 rfl ?_
      refine zk_iload_n X 1 dX9_choose_86 rfl rfl ?_
      refine zk_icmp_ge X (tgt := 118) dX9_choose_87 (by decide) h (fun h => ?_) (fun h => ?_)
      · exact zk_vreturn X hr dX9_choose_118 h
      · refine zk_iload_n X 2 dX9_choose_90 rfl rfl ?_
        refine zk_iload X 4 dX9_choose_91 rfl ?_
        refine zk_ishr X dX9_choose_93 ?_
        refine zk_iconst X (v := 1) dX9_choose_94 (by decide) ?_
        refine zk_iand X dX9_choose_95 ?_
        refine zk_iconst X (v := 1) dX9_choose_96 (by decide) ?_
        refine zk_icmp_ne X (tgt := 112) dX9_choose_97 (by decide) h (fun h => ?_) (fun h => ?_)
        · refine zk_aload_n X 0 dX9_choose_100 rfl rfl ?_
          refine zk_get X iX9 (g := 20) (Nat.zero_lt_one) rfl rfl 29 (by decide) w0 rfl dX9_choose_101 ?_
          refine zk_iload X 3 dX9_choose_104 rfl ?_
          refine zk_iload X 4 dX9_choose_106 rfl ?_
          refine zk_iast X (g := 42) (Nat.zero_lt_one) rfl rfl dX9_choose_108 h (fun h => ?_)
          refine zk_iinc X (lv' := [(4, .int (a4 + 1)), (0, .ref (E.2.1 20 0)), (1, .int a1), (3, .int a3), (5, .int a5)]) 3 dX9_choose_109 rfl rfl (by decide) rfl ?_
          exact zk_sub [1, 2, 3, 0, 4] rfl (B112 _ ih _ _ _ _ _ h)
        · exact zk_sub [0, 1, 2, 3, 4] rfl (B112 _ ih _ _ _ _ _ h)
  have B56 : ∀ (c5 : Int32 → Int32 → Int32 → Int32 → zk_Z → Option (Unit × zk_Z)) (hc5 : ∀ (a1 : Int32) (a2 : Int32) (a3 : Int32) (a4 : Int32) (z : zk_Z), c5 a1 a2 a3 a4 z = some (r, z') → zk_G p l e (headSpec wsX9_choose { frames := 1, cells := 0, slots := 0, locals := 21 }).room s m args below meth c E 7 0 0 (MQ below (zk_Qv E z') args s 0 0 (zk_A E)) 5 [(0, .ref (E.2.1 20 0)), (1, .int a1), (2, .int a2), (3, .int a3), (4, .int a4)] [] z) (c24 : Int32 → Int32 → Int32 → Int32 → Int32 → Int32 → zk_Z → Option (Unit × zk_Z)) (hc24 : ∀ (a1 : Int32) (a2 : Int32) (a3 : Int32) (a4 : Int32) (a5 : Int32) (a6 : Int32) (z : zk_Z), c24 a1 a2 a3 a4 a5 a6 z = some (r, z') → zk_G p l e (headSpec wsX9_choose { frames := 1, cells := 0, slots := 0, locals := 21 }).room s m args below meth c E 7 0 0 (MQ below (zk_Qv E z') args s 0 0 (zk_A E)) 24 [(0, .ref (E.2.1 20 0)), (1, .int a1), (2, .int a2), (3, .int a3), (4, .int a4), (5, .int a5), (6, .int a6)] [] z) (a1 : Int32) (a2 : Int32) (a3 : Int32) (a4 : Int32) (a6 : Int32) (s0 : Int32) (s1 : Int32) (z : zk_Z), fX9_choose_B56 c5 c24 a1 a2 a3 a4 a6 s0 s1 z = some (r, z') → zk_G p l e (headSpec wsX9_choose { frames := 1, cells := 0, slots := 0, locals := 21 }).room s m args below meth c E 7 0 0 (MQ below (zk_Qv E z') args s 0 0 (zk_A E)) 56 [(0, .ref (E.2.1 20 0)), (1, .int a1), (2, .int a2), (3, .int a3), (4, .int a4), (6, .int a6)] [.int s0, .int s1] z := by
    intro c5 hc5 c24 hc24 a1 a2 a3 a4 a6 s0 s1 z h
    unfold fX9_choose_B56 at h
    refine zk_isub X dX9_choose_56 ?_
    refine zk_istore X (lv' := [(5, .int (s1 - s0)), (0, .ref (E.2.1 20 0)), (1, .int a1), (2, .int a2), (3, .int a3), (4, .int a4), (6, .int a6)]) dX9_choose_57 (by decide) rfl ?_
    refine zk_iinc X (lv' := [(6, .int (a6 + 1)), (5, .int (s1 - s0)), (0, .ref (E.2.1 20 0)), (1, .int a1), (2, .int a2), (3, .int a3), (4, .int a4)]) 6 dX9_choose_59 rfl rfl (by decide) rfl ?_
    refine zk_goto X (tgt := 24) dX9_choose_62 (by decide) ?_
    exact zk_sub [2, 3, 4, 5, 6, 1, 0] rfl (hc24 _ _ _ _ _ _ _ h)
  have B39 : ∀ (c5 : Int32 → Int32 → Int32 → Int32 → zk_Z → Option (Unit × zk_Z)) (hc5 : ∀ (a1 : Int32) (a2 : Int32) (a3 : Int32) (a4 : Int32) (z : zk_Z), c5 a1 a2 a3 a4 z = some (r, z') → zk_G p l e (headSpec wsX9_choose { frames := 1, cells := 0, slots := 0, locals := 21 }).room s m args below meth c E 7 0 0 (MQ below (zk_Qv E z') args s 0 0 (zk_A E)) 5 [(0, .ref (E.2.1 20 0)), (1, .int a1), (2, .int a2), (3, .int a3), (4, .int a4)] [] z) (c24 : Int32 → Int32 → Int32 → Int32 → Int32 → Int32 → zk_Z → Option (Unit × zk_Z)) (hc24 : ∀ (a1 : Int32) (a2 : Int32) (a3 : Int32) (a4 : Int32) (a5 : Int32) (a6 : Int32) (z : zk_Z), c24 a1 a2 a3 a4 a5 a6 z = some (r, z') → zk_G p l e (headSpec wsX9_choose { frames := 1, cells := 0, slots := 0, locals := 21 }).room s m args below meth c E 7 0 0 (MQ below (zk_Qv E z') args s 0 0 (zk_A E)) 24 [(0, .ref (E.2.1 20 0)), (1, .int a1), (2, .int a2), (3, .int a3), (4, .int a4), (5, .int a5), (6, .int a6)] [] z) (a1 : Int32) (a2 : Int32) (a3 : Int32) (a4 : Int32) (a5 : Int32) (a6 : Int32) (z : zk_Z), fX9_choose_B39 c5 c24 a1 a2 a3 a4 a5 a6 z = some (r, z') → zk_G p l e (headSpec wsX9_choose { frames := 1, cells := 0, slots := 0, locals := 21 }).room s m args below meth c E 7 0 0 (MQ below (zk_Qv E z') args s 0 0 (zk_A E)) 39 [(0, .ref (E.2.1 20 0)), (1, .int a1), (2, .int a2), (3, .int a3), (4, .int a4), (5, .int a5), (6, .int a6)] [] z := by
    intro c5 hc5 c24 hc24 a1 a2 a3 a4 a5 a6 z h
    unfold fX9_choose_B39 at h
    refine zk_iload X 5 dX9_choose_39 rfl ?_
    refine zk_iload_n X 3 dX9_choose_41 rfl rfl ?_
    refine zk_iload X 6 dX9_choose_42 rfl ?_
    refine zk_ishr X dX9_choose_44 ?_
    refine zk_iconst X (v := 1) dX9_choose_45 (by decide) ?_
    refine zk_iand X dX9_choose_46 ?_
    refine zk_iconst X (v := 1) dX9_choose_47 (by decide) ?_
    refine zk_icmp_ne X (tgt := 55) dX9_choose_48 (by decide) h (fun h => ?_) (fun h => ?_)
    · refine zk_iconst X (v := 0) dX9_choose_51 (by decide) ?_
      refine zk_goto X (tgt := 56) dX9_choose_52 (by decide) ?_
      exact zk_sub [0, 1, 2, 3, 4, 6] rfl (B56 _ hc5 _ hc24 _ _ _ _ _ _ _ _ h)
    · refine zk_iconst X (v := 1) dX9_choose_55 (by decide) ?_
      exact zk_sub [0, 1, 2, 3, 4, 6] rfl (B56 _ hc5 _ hc24 _ _ _ _ _ _ _ _ h)
  have L24 : ∀ (c5 : Int32 → Int32 → Int32 → Int32 → zk_Z → Option (Unit × zk_Z)) (hc5 : ∀ (a1 : Int32) (a2 : Int32) (a3 : Int32) (a4 : Int32) (z : zk_Z), c5 a1 a2 a3 a4 z = some (r, z') → zk_G p l e (headSpec wsX9_choose { frames := 1, cells := 0, slots := 0, locals := 21 }).room s m args below meth c E 7 0 0 (MQ below (zk_Qv E z') args s 0 0 (zk_A E)) 5 [(0, .ref (E.2.1 20 0)), (1, .int a1), (2, .int a2), (3, .int a3), (4, .int a4)] [] z) (n : Nat) (a1 : Int32) (a2 : Int32) (a3 : Int32) (a4 : Int32) (a5 : Int32) (a6 : Int32) (z : zk_Z), fX9_choose_L24 c5 n a1 a2 a3 a4 a5 a6 z = some (r, z') → zk_G p l e (headSpec wsX9_choose { frames := 1, cells := 0, slots := 0, locals := 21 }).room s m args below meth c E 7 0 0 (MQ below (zk_Qv E z') args s 0 0 (zk_A E)) 24 [(0, .ref (E.2.1 20 0)), (1, .int a1), (2, .int a2), (3, .int a3), (4, .int a4), (5, .int a5), (6, .int a6)] [] z := by
    intro c5 hc5 n
    induction n with
    | zero => intro a1 a2 a3 a4 a5 a6 z h; exact absurd h (by simp [fX9_choose_L24])
    | succ n ih =>
      intro a1 a2 a3 a4 a5 a6 z h
      rw [fX9_choose_L24] at h
      refine zk_iload_n X 3 dX9_choose_24 rfl rfl ?_
      refine zk_iload X 6 dX9_choose_25 rfl ?_
      refine zk_ishr X dX9_choose_27 ?_
      refine zk_iconst X (v := 1) dX9_choose_28 (by decide) ?_
      refine zk_iand X dX9_choose_29 ?_
      refine zk_iconst X (v := 1) dX9_choose_30 (by decide) ?_
      refine zk_icmp_eq X (tgt := 39) dX9_choose_31 (by decide) h (fun h => ?_) (fun h => ?_)
      · exact zk_sub [0, 1, 2, 3, 4, 5, 6] rfl (B39 _ hc5 _ ih _ _ _ _ _ _ _ h)
      · refine zk_iload X 5 dX9_choose_34 rfl ?_
        refine zk_if_le X (tgt := 65) dX9_choose_36 (by decide) h (fun h => ?_) (fun h => ?_)
        · refine zk_iload_n X 3 dX9_choose_65 rfl rfl ?_
          refine zk_iconst X (v := 1) dX9_choose_66 (by decide) ?_
          refine zk_iload X 6 dX9_choose_67 rfl ?_
          refine zk_ishl X dX9_choose_69 ?_
          refine zk_ior X dX9_choose_70 ?_
          refine zk_istore_n X (lv' := [(3, .int (a3 ||| ((1 : Int32) <<< (a6 &&& 31)))), (0, .ref (E.2.1 20 0)), (1, .int a1), (2, .int a2), (4, .int a4), (5, .int a5), (6, .int a6)]) dX9_choose_71 rfl (by decide) rfl ?_
          refine zk_iinc X (lv' := [(4, .int (a4 + 1)), (3, .int (a3 ||| ((1 : Int32) <<< (a6 &&& 31)))), (0, .ref (E.2.1 20 0)), (1, .int a1), (2, .int a2), (5, .int a5), (6, .int a6)]) 4 dX9_choose_72 rfl rfl (by decide) rfl ?_
          refine zk_goto X (tgt := 5) dX9_choose_75 (by decide) ?_
          exact zk_sub [2, 3, 4, 1, 0] rfl (hc5 _ _ _ _ _ h)
        · exact zk_sub [0, 1, 2, 3, 4, 5, 6] rfl (B39 _ hc5 _ ih _ _ _ _ _ _ _ h)
  have L5 : ∀ (n : Nat) (a1 : Int32) (a2 : Int32) (a3 : Int32) (a4 : Int32) (z : zk_Z), fX9_choose_L5 n a1 a2 a3 a4 z = some (r, z') → zk_G p l e (headSpec wsX9_choose { frames := 1, cells := 0, slots := 0, locals := 21 }).room s m args below meth c E 7 0 0 (MQ below (zk_Qv E z') args s 0 0 (zk_A E)) 5 [(0, .ref (E.2.1 20 0)), (1, .int a1), (2, .int a2), (3, .int a3), (4, .int a4)] [] z := by
    intro n
    induction n with
    | zero => intro a1 a2 a3 a4 z h; exact absurd h (by simp [fX9_choose_L5])
    | succ n ih =>
      intro a1 a2 a3 a4 z h
      rw [fX9_choose_L5] at h
      refine zk_iload X 4 dX9_choose_5 rfl ?_
      refine zk_iload_n X 2 dX9_choose_7 rfl rfl ?_
      refine zk_icmp_ge X (tgt := 78) dX9_choose_8 (by decide) h (fun h => ?_) (fun h => ?_)
      · refine zk_iconst X (v := 0) dX9_choose_78 (by decide) ?_
        refine zk_istore X (lv' := [(4, .int 0), (0, .ref (E.2.1 20 0)), (1, .int a1), (2, .int a2), (3, .int a3)]) dX9_choose_79 (by decide) rfl ?_
        refine zk_iconst X (v := 0) dX9_choose_81 (by decide) ?_
        refine zk_istore X (lv' := [(5, .int 0), (4, .int 0), (0, .ref (E.2.1 20 0)), (1, .int a1), (2, .int a2), (3, .int a3)]) dX9_choose_82 (by decide) rfl ?_
        exact zk_sub [2, 3, 5, 1, 0] rfl (L84 _ _ _ _ _ _ h)
      · refine zk_aload_n X 0 dX9_choose_11 rfl rfl ?_
        refine zk_iload_n X 1 dX9_choose_12 rfl rfl ?_
        refine zk_iload X 4 dX9_choose_13 rfl ?_
        refine zk_isub X dX9_choose_15 ?_
        refine zk_vi X h (fun rr zz hf => ct_X9_draw l E hi (a1 - a4) _ rr zz hf) (cwV 1 X.1.2.2.2.2 gX9_choose_X9_draw rfl rfl rfl (by decide +kernel) ⟨Nat.le_of_ble_eq_true rfl, Nat.le_of_ble_eq_true rfl⟩) (zk_recv X (g := 20) (Nat.zero_lt_one) rfl rfl) rfl rfl (Nat.le_of_ble_eq_true rfl) dX9_choose_16 (fun r2 z1 h => ?_)
        refine zk_istore X (lv' := [(5, .int r2), (0, .ref (E.2.1 20 0)), (1, .int a1), (2, .int a2), (3, .int a3), (4, .int a4)]) dX9_choose_19 (by decide) rfl ?_
        refine zk_iconst X (v := 0) dX9_choose_21 (by decide) ?_
        refine zk_istore X (lv' := [(6, .int 0), (5, .int r2), (0, .ref (E.2.1 20 0)), (1, .int a1), (2, .int a2), (3, .int a3), (4, .int a4)]) dX9_choose_22 (by decide) rfl ?_
        exact zk_sub [2, 3, 4, 5, 6, 1, 0] rfl (L24 _ ih _ _ _ _ _ _ _ _ h)
  unfold fX9_choose at h
  refine zk_iconst X (v := 0) dX9_choose_0 (by decide) ?_
  refine zk_istore_n X (lv' := [(3, .int 0), (0, .ref (E.2.1 20 0)), (1, .int x1), (2, .int x2)]) dX9_choose_1 rfl (by decide) rfl ?_
  refine zk_iconst X (v := 0) dX9_choose_2 (by decide) ?_
  refine zk_istore X (lv' := [(4, .int 0), (3, .int 0), (0, .ref (E.2.1 20 0)), (1, .int x1), (2, .int x2)]) dX9_choose_3 (by decide) rfl ?_
  exact zk_sub [2, 3, 4, 1, 0] rfl (L5  _ _ _ _ _ _ h)
def fX9_truths_B84 (a2 : Int32) (a4 : Int32) (a5 : Int32) (z : zk_Z) : Option (Int32 × zk_Z) := if a4 = 0 then some (0, z) else if a4 = a2 then some (((1 : Int32) <<< (a2 &&& 31)) - 1, z) else if a4 = 1 then some ((1 : Int32) <<< (a5 &&& 31), z) else some ((((1 : Int32) <<< (a2 &&& 31)) - 1) &&& (((1 : Int32) <<< (a5 &&& 31)) ^^^ (-1)), z)
def fX9_truths_L20 : Nat → Int32 → Int32 → Int32 → Int32 → zk_Z → Option (Int32 × zk_Z)
  | 0, _, _, _, _, _ => none
  | n + 1, a1, a2, a3, a4, z => zk_gd (zk_ix ((4 * a1) + a4) 24) (zk_bd (fX9_ways a4 a2 z) (fun r6 z5 => if a3 < ((z.1 26 0 ((4 * a1) + a4).toNatClampNeg) * r6) then zk_gd (zk_ix ((4 * a1) + a4) 24) (zk_gd (zk_nz (z5.1 26 0 ((4 * a1) + a4).toNatClampNeg)) (fX9_truths_B84 a2 a4 (a3 / (z5.1 26 0 ((4 * a1) + a4).toNatClampNeg)) z5)) else zk_gd (zk_ix ((4 * a1) + a4) 24) (zk_bd (fX9_ways a4 a2 z5) (fun r8 z7 => (fX9_truths_L20 n) a1 a2 (a3 - ((z5.1 26 0 ((4 * a1) + a4).toNatClampNeg) * r8)) (a4 + 1) z7))))
def fX9_truths (x1 : Int32) (z : zk_Z) : Option (Int32 × zk_Z) := zk_gd (zk_ix x1 6) (zk_bd (fX9_all x1 z) (fun r2 z1 => zk_bd (fX9_draw r2 z1) (fun r4 z3 => fX9_truths_L20 zk_FU x1 (z.1 25 0 x1.toNatClampNeg) r4 0 z3)))
set_option maxRecDepth 100000 in
set_option maxHeartbeats 8000000 in
theorem ct_X9_truths (l : Launch) (E : zk_E) (hi : zk_inj E) (x1 : Int32) (z : zk_Z) (r : Int32) (z' : zk_Z) (h : fX9_truths  x1 z = some (r, z')) : Met l yX9_truths wsX9_truths { frames := 2, cells := 0, slots := 0, locals := 44 } (va_Pc [.ref (E.2.1 20 0), .int x1] (zk_W E z)) (zk_Qi E r z') 0 0 (zk_A E) := by
  refine zk_met (cc := cX9_truths) (maxL := 7) (ret := (some .int)) (own := RX9) (by decide) rfl rfl hi (Nat.le_of_ble_eq_true rfl) ?_
  intro p e s m args below meth c X hr
  have iX9 : ∀ w ∈ u_ws RX9 TX9 32, w ∈ wsX9_truths := by decide +kernel
  have w0 : Cond.fieldLink RX9 22 "HiddenWorksModel" "rWide" "[I" ∈ wsX9_truths := by decide +kernel
  have w1 : Cond.fieldLink RX9 25 "HiddenWorksModel" "rWeight" "[I" ∈ wsX9_truths := by decide +kernel
  have B84 : ∀ (a2 : Int32) (a4 : Int32) (a5 : Int32) (z : zk_Z), fX9_truths_B84 a2 a4 a5 z = some (r, z') → zk_G p l e (headSpec wsX9_truths { frames := 2, cells := 0, slots := 0, locals := 44 }).room s m args below meth c E 7 0 0 (MQ below (zk_Qi E r z') args s 0 0 (zk_A E)) 84 [(2, .int a2), (4, .int a4), (5, .int a5)] [] z := by
    intro a2 a4 a5 z h
    unfold fX9_truths_B84 at h
    refine zk_iconst X (v := 1) dX9_truths_84 (by decide) ?_
    refine zk_iload_n X 0 dX9_truths_85 rfl rfl ?_
    refine zk_ishl X dX9_truths_86 ?_
    refine zk_iconst X (v := 1) dX9_truths_87 (by decide) ?_
    refine zk_isub X dX9_truths_88 ?_
    refine zk_istore X (lv' := [(6, .int (((1 : Int32) <<< (a2 &&& 31)) - 1)), (2, .int a2), (4, .int a4), (5, .int a5)]) dX9_truths_89 (by decide) rfl ?_
    refine zk_iload X 2 dX9_truths_91 rfl ?_
    refine zk_if_ne X (tgt := 100) dX9_truths_93 (by decide) h (fun h => ?_) (fun h => ?_)
    · refine zk_iconst X (v := 0) dX9_truths_96 (by decide) ?_
      refine zk_goto X (tgt := 133) dX9_truths_97 (by decide) ?_
      exact zk_ireturn X hr dX9_truths_133 h
    · refine zk_iload X 2 dX9_truths_100 rfl ?_
      refine zk_iload_n X 1 dX9_truths_102 rfl rfl ?_
      refine zk_icmp_ne X (tgt := 111) dX9_truths_103 (by decide) h (fun h => ?_) (fun h => ?_)
      · refine zk_iload X 0 dX9_truths_106 rfl ?_
        refine zk_goto X (tgt := 133) dX9_truths_108 (by decide) ?_
        exact zk_ireturn X hr dX9_truths_133 h
      · refine zk_iload X 2 dX9_truths_111 rfl ?_
        refine zk_iconst X (v := 1) dX9_truths_113 (by decide) ?_
        refine zk_icmp_ne X (tgt := 124) dX9_truths_114 (by decide) h (fun h => ?_) (fun h => ?_)
        · refine zk_iconst X (v := 1) dX9_truths_117 (by decide) ?_
          refine zk_iload X 3 dX9_truths_118 rfl ?_
          refine zk_ishl X dX9_truths_120 ?_
          refine zk_goto X (tgt := 133) dX9_truths_121 (by decide) ?_
          exact zk_ireturn X hr dX9_truths_133 h
        · refine zk_iload X 0 dX9_truths_124 rfl ?_
          refine zk_iconst X (v := 1) dX9_truths_126 (by decide) ?_
          refine zk_iload X 3 dX9_truths_127 rfl ?_
          refine zk_ishl X dX9_truths_129 ?_
          refine zk_iconst X (v := -1) dX9_truths_130 (by decide) ?_
          refine zk_ixor X dX9_truths_131 ?_
          refine zk_iand X dX9_truths_132 ?_
          exact zk_ireturn X hr dX9_truths_133 h
  have L20 : ∀ (n : Nat) (a1 : Int32) (a2 : Int32) (a3 : Int32) (a4 : Int32) (z : zk_Z), fX9_truths_L20 n a1 a2 a3 a4 z = some (r, z') → zk_G p l e (headSpec wsX9_truths { frames := 2, cells := 0, slots := 0, locals := 44 }).room s m args below meth c E 7 0 0 (MQ below (zk_Qi E r z') args s 0 0 (zk_A E)) 20 [(0, .ref (E.2.1 20 0)), (1, .int a1), (2, .int a2), (3, .int a3), (4, .int a4)] [] z := by
    intro n
    induction n with
    | zero => intro a1 a2 a3 a4 z h; exact absurd h (by simp [fX9_truths_L20])
    | succ n ih =>
      intro a1 a2 a3 a4 z h
      rw [fX9_truths_L20] at h
      refine zk_iload_n X 3 dX9_truths_20 rfl rfl ?_
      refine zk_aload_n X 0 dX9_truths_21 rfl rfl ?_
      refine zk_get X iX9 (g := 20) (Nat.zero_lt_one) rfl rfl 7 (by decide) w1 rfl dX9_truths_22 ?_
      refine zk_iconst X (v := 4) dX9_truths_25 (by decide) ?_
      refine zk_iload_n X 1 dX9_truths_26 rfl rfl ?_
      refine zk_imul X dX9_truths_27 ?_
      refine zk_iload X 4 dX9_truths_28 rfl ?_
      refine zk_iadd X dX9_truths_30 ?_
      refine zk_iald X (g := 26) (Nat.zero_lt_one) rfl dX9_truths_31 h (fun h => ?_)
      refine zk_iload X 4 dX9_truths_32 rfl ?_
      refine zk_iload_n X 2 dX9_truths_34 rfl rfl ?_
      refine zk_si X h (fun rr zz hf => ct_X9_ways l E hi a4 a2 _ rr zz hf) (va_cwS 2 X.1.2.2.2.2 gX9_truths_X9_ways rfl rfl rfl (by decide +kernel) ⟨Nat.le_of_ble_eq_true rfl, Nat.le_of_ble_eq_true rfl⟩) rfl rfl (Nat.le_of_ble_eq_true rfl) dX9_truths_35 (fun r6 z5 h => ?_)
      refine zk_imul X dX9_truths_38 ?_
      refine zk_icmp_lt X (tgt := 69) dX9_truths_39 (by decide) h (fun h => ?_) (fun h => ?_)
      · refine zk_iload_n X 3 dX9_truths_69 rfl rfl ?_
        refine zk_aload_n X 0 dX9_truths_70 rfl rfl ?_
        refine zk_get X iX9 (g := 20) (Nat.zero_lt_one) rfl rfl 7 (by decide) w1 rfl dX9_truths_71 ?_
        refine zk_iconst X (v := 4) dX9_truths_74 (by decide) ?_
        refine zk_iload_n X 1 dX9_truths_75 rfl rfl ?_
        refine zk_imul X dX9_truths_76 ?_
        refine zk_iload X 4 dX9_truths_77 rfl ?_
        refine zk_iadd X dX9_truths_79 ?_
        refine zk_iald X (g := 26) (Nat.zero_lt_one) rfl dX9_truths_80 h (fun h => ?_)
        refine zk_idiv X dX9_truths_81 h (fun h => ?_)
        refine zk_istore X (lv' := [(5, .int (a3 / (z5.1 26 0 ((4 * a1) + a4).toNatClampNeg))), (0, .ref (E.2.1 20 0)), (1, .int a1), (2, .int a2), (3, .int a3), (4, .int a4)]) dX9_truths_82 (by decide) rfl ?_
        exact zk_sub [3, 5, 0] rfl (B84 _ _ _ _ h)
      · refine zk_iload_n X 3 dX9_truths_42 rfl rfl ?_
        refine zk_aload_n X 0 dX9_truths_43 rfl rfl ?_
        refine zk_get X iX9 (g := 20) (Nat.zero_lt_one) rfl rfl 7 (by decide) w1 rfl dX9_truths_44 ?_
        refine zk_iconst X (v := 4) dX9_truths_47 (by decide) ?_
        refine zk_iload_n X 1 dX9_truths_48 rfl rfl ?_
        refine zk_imul X dX9_truths_49 ?_
        refine zk_iload X 4 dX9_truths_50 rfl ?_
        refine zk_iadd X dX9_truths_52 ?_
        refine zk_iald X (g := 26) (Nat.zero_lt_one) rfl dX9_truths_53 h (fun h => ?_)
        refine zk_iload X 4 dX9_truths_54 rfl ?_
        refine zk_iload_n X 2 dX9_truths_56 rfl rfl ?_
        refine zk_si X h (fun rr zz hf => ct_X9_ways l E hi a4 a2 _ rr zz hf) (va_cwS 2 X.1.2.2.2.2 gX9_truths_X9_ways rfl rfl rfl (by decide +kernel) ⟨Nat.le_of_ble_eq_true rfl, Nat.le_of_ble_eq_true rfl⟩) rfl rfl (Nat.le_of_ble_eq_true rfl) dX9_truths_57 (fun r8 z7 h => ?_)
        refine zk_imul X dX9_truths_60 ?_
        refine zk_isub X dX9_truths_61 ?_
        refine zk_istore_n X (lv' := [(3, .int (a3 - ((z5.1 26 0 ((4 * a1) + a4).toNatClampNeg) * r8))), (0, .ref (E.2.1 20 0)), (1, .int a1), (2, .int a2), (4, .int a4)]) dX9_truths_62 rfl (by decide) rfl ?_
        refine zk_iinc X (lv' := [(4, .int (a4 + 1)), (3, .int (a3 - ((z5.1 26 0 ((4 * a1) + a4).toNatClampNeg) * r8))), (0, .ref (E.2.1 20 0)), (1, .int a1), (2, .int a2)]) 4 dX9_truths_63 rfl rfl (by decide) rfl ?_
        refine zk_goto X (tgt := 20) dX9_truths_66 (by decide) ?_
        exact zk_sub [2, 3, 4, 1, 0] rfl (ih _ _ _ _ _ h)
  unfold fX9_truths at h
  refine zk_aload_n X 0 dX9_truths_0 rfl rfl ?_
  refine zk_get X iX9 (g := 20) (Nat.zero_lt_one) rfl rfl 6 (by decide) w0 rfl dX9_truths_1 ?_
  refine zk_iload_n X 1 dX9_truths_4 rfl rfl ?_
  refine zk_iald X (g := 25) (Nat.zero_lt_one) rfl dX9_truths_5 h (fun h => ?_)
  refine zk_istore_n X (lv' := [(2, .int (z.1 25 0 x1.toNatClampNeg)), (0, .ref (E.2.1 20 0)), (1, .int x1)]) dX9_truths_6 rfl (by decide) rfl ?_
  refine zk_aload_n X 1 dX9_truths_7 rfl rfl ?_
  refine zk_aload_n X 1 dX9_truths_8 rfl rfl ?_
  refine zk_iload_n X 2 dX9_truths_9 rfl rfl ?_
  refine zk_vi X h (fun rr zz hf => ct_X9_all l E hi  x1 _ rr zz hf) (cwV 1 X.1.2.2.2.2 gX9_truths_X9_all rfl rfl rfl (by decide +kernel) ⟨Nat.le_of_ble_eq_true rfl, Nat.le_of_ble_eq_true rfl⟩) (zk_recv X (g := 20) (Nat.zero_lt_one) rfl rfl) rfl rfl (Nat.le_of_ble_eq_true rfl) dX9_truths_10 (fun r2 z1 h => ?_)
  refine zk_vi X h (fun rr zz hf => ct_X9_draw l E hi  r2 _ rr zz hf) (cwV 1 X.1.2.2.2.2 gX9_truths_X9_draw rfl rfl rfl (by decide +kernel) ⟨Nat.le_of_ble_eq_true rfl, Nat.le_of_ble_eq_true rfl⟩) (zk_recv X (g := 20) (Nat.zero_lt_one) rfl rfl) rfl rfl (Nat.le_of_ble_eq_true rfl) dX9_truths_13 (fun r4 z3 h => ?_)
  refine zk_istore_n X (lv' := [(3, .int r4), (2, .int (z.1 25 0 x1.toNatClampNeg)), (0, .ref (E.2.1 20 0)), (1, .int x1)]) dX9_truths_16 rfl (by decide) rfl ?_
  refine zk_iconst X (v := 0) dX9_truths_17 (by decide) ?_
  refine zk_istore X (lv' := [(4, .int 0), (3, .int r4), (2, .int (z.1 25 0 x1.toNatClampNeg)), (0, .ref (E.2.1 20 0)), (1, .int x1)]) dX9_truths_18 (by decide) rfl ?_
  exact zk_sub [3, 4, 2, 1, 0] rfl (L20  _ _ _ _ _ _ h)
def fX9_makes_B231 (c105 : Int32 → Int32 → Int32 → Int32 → zk_Z → Option (Unit × zk_Z)) (c148 : Int32 → Int32 → Int32 → Int32 → Int32 → Int32 → Int32 → Int32 → zk_Z → Option (Unit × zk_Z)) (a1 : Int32) (a2 : Int32) (a4 : Int32) (a5 : Int32) (a6 : Int32) (a7 : Int32) (a9 : Int32) (s0 : Int32) (s1 : Int32) (z : zk_Z) : Option (Unit × zk_Z) := c148 a1 a2 a4 a5 a6 a7 (s1 ||| s0) (a9 + 1) z
def fX9_makes_B208 (c105 : Int32 → Int32 → Int32 → Int32 → zk_Z → Option (Unit × zk_Z)) (c148 : Int32 → Int32 → Int32 → Int32 → Int32 → Int32 → Int32 → Int32 → zk_Z → Option (Unit × zk_Z)) (a1 : Int32) (a2 : Int32) (a4 : Int32) (a5 : Int32) (a6 : Int32) (a8 : Int32) (a9 : Int32) (a10 : Int32) (s0 : Int32) (s1 : Int32) (z : zk_Z) : Option (Unit × zk_Z) := if a10 = 0 then zk_gd (zk_ix a9 3) (fX9_makes_B231 c105 c148 a1 a2 a4 a5 a6 (s1 ||| s0) a9 ((1 : Int32) <<< ((z.1 42 0 a9.toNatClampNeg) &&& 31)) a8 z) else fX9_makes_B231 c105 c148 a1 a2 a4 a5 a6 (s1 ||| s0) a9 0 a8 z
def fX9_makes_B186 (c105 : Int32 → Int32 → Int32 → Int32 → zk_Z → Option (Unit × zk_Z)) (c148 : Int32 → Int32 → Int32 → Int32 → Int32 → Int32 → Int32 → Int32 → zk_Z → Option (Unit × zk_Z)) (a1 : Int32) (a2 : Int32) (a4 : Int32) (a5 : Int32) (a6 : Int32) (a7 : Int32) (a8 : Int32) (a9 : Int32) (s0 : Int32) (z : zk_Z) : Option (Unit × zk_Z) := if s0 = 0 then fX9_makes_B208 c105 c148 a1 a2 a4 a5 a6 a8 a9 s0 0 a7 z else zk_gd (zk_ix a9 3) (fX9_makes_B208 c105 c148 a1 a2 a4 a5 a6 a8 a9 s0 ((1 : Int32) <<< ((z.1 42 0 a9.toNatClampNeg) &&& 31)) a7 z)
def fX9_makes_L148 (c105 : Int32 → Int32 → Int32 → Int32 → zk_Z → Option (Unit × zk_Z)) : Nat → Int32 → Int32 → Int32 → Int32 → Int32 → Int32 → Int32 → Int32 → zk_Z → Option (Unit × zk_Z)
  | 0, _, _, _, _, _, _, _, _, _ => none
  | n + 1, a1, a2, a4, a5, a6, a7, a8, a9, z => zk_gd (zk_ix a2 6) (if (z.1 25 0 a2.toNatClampNeg) ≤ a9 then zk_gd (zk_ix ((24 * a1) + a5) 216) (zk_gd (zk_ix ((24 * a1) + a5) 216) (c105 a1 a2 a4 (a5 + 1) (zk_sI (zk_sI z 33 0 ((24 * a1) + a5).toNatClampNeg a7) 34 0 ((24 * a1) + a5).toNatClampNeg a8))) else zk_gd (zk_ix a9 3) (if ((a6 >>> (a9 &&& 31)) &&& 1) = ((a4 >>> ((z.1 42 0 a9.toNatClampNeg) &&& 31)) &&& 1) then fX9_makes_B186 c105 (fX9_makes_L148 c105 n) a1 a2 a4 a5 a6 a7 a8 a9 1 z else fX9_makes_B186 c105 (fX9_makes_L148 c105 n) a1 a2 a4 a5 a6 a7 a8 a9 0 z))
def fX9_makes_L105 : Nat → Int32 → Int32 → Int32 → Int32 → zk_Z → Option (Unit × zk_Z)
  | 0, _, _, _, _, _ => none
  | n + 1, a1, a2, a4, a5, z => zk_gd (zk_ix a1 9) (if (z.1 29 0 a1.toNatClampNeg) ≤ a5 then some ((), z) else zk_gd (zk_ix a1 9) (zk_gd (zk_ix a2 6) (zk_bd (fX9_choose (z.1 28 0 a1.toNatClampNeg) (z.1 25 0 a2.toNatClampNeg) z) (fun _ z1 => zk_bd (fX9_truths a2 z1) (fun r4 z3 => fX9_makes_L148 (fX9_makes_L105 n) zk_FU a1 a2 a4 a5 r4 0 0 0 z3)))))
def fX9_makes_L64 : Nat → Int32 → Int32 → Int32 → Int32 → zk_Z → Option (Unit × zk_Z)
  | 0, _, _, _, _, _ => none
  | n + 1, a1, a2, a4, a5, z => zk_gd (zk_ix a1 9) (if (z.1 28 0 a1.toNatClampNeg) ≤ a5 then zk_gd (zk_ix a1 9) (fX9_makes_L105 zk_FU a1 a2 a4 0 (zk_sI z 30 0 a1.toNatClampNeg a4)) else zk_bd (fX9_draw 2 z) (fun r6 z5 => (fX9_makes_L64 n) a1 a2 (a4 ||| (r6 <<< (a5 &&& 31))) (a5 + 1) z5))
def fX9_makes (x1 : Int32) (x2 : Int32) (x3 : Int32) (z : zk_Z) : Option (Unit × zk_Z) := zk_gd (zk_ix x2 6) (zk_gd (zk_ix x1 9) (zk_gd (zk_ix x2 6) (zk_gd (zk_ix x1 9) (zk_gd (zk_ix x2 6) (zk_gd (zk_ix x1 9) (zk_gd (zk_ix x1 9) (zk_gd (zk_ix x1 9) (fX9_makes_L64 zk_FU x1 x2 0 0 (zk_sI (zk_sI (zk_sI (zk_sI (zk_sI (zk_sL z 1 ((x3 + 1).toInt64)) 27 0 x1.toNatClampNeg ((zk_sL z 1 ((x3 + 1).toInt64)).1 22 0 x2.toNatClampNeg)) 28 0 x1.toNatClampNeg ((zk_sI (zk_sL z 1 ((x3 + 1).toInt64)) 27 0 x1.toNatClampNeg ((zk_sL z 1 ((x3 + 1).toInt64)).1 22 0 x2.toNatClampNeg)).1 23 0 x2.toNatClampNeg)) 29 0 x1.toNatClampNeg ((zk_sI (zk_sI (zk_sL z 1 ((x3 + 1).toInt64)) 27 0 x1.toNatClampNeg ((zk_sL z 1 ((x3 + 1).toInt64)).1 22 0 x2.toNatClampNeg)) 28 0 x1.toNatClampNeg ((zk_sI (zk_sL z 1 ((x3 + 1).toInt64)) 27 0 x1.toNatClampNeg ((zk_sL z 1 ((x3 + 1).toInt64)).1 22 0 x2.toNatClampNeg)).1 23 0 x2.toNatClampNeg)).1 24 0 x2.toNatClampNeg)) 31 0 x1.toNatClampNeg x2) 32 0 x1.toNatClampNeg x3)))))))))
set_option maxRecDepth 100000 in
set_option maxHeartbeats 8000000 in
theorem ct_X9_makes (l : Launch) (E : zk_E) (hi : zk_inj E) (x1 : Int32) (x2 : Int32) (x3 : Int32) (z : zk_Z) (r : Unit) (z' : zk_Z) (h : fX9_makes  x1 x2 x3 z = some (r, z')) : Met l yX9_makes wsX9_makes { frames := 3, cells := 0, slots := 0, locals := 70 } (va_Pc [.ref (E.2.1 20 0), .int x1, .int x2, .int x3] (zk_W E z)) (zk_Qv E z') 0 0 (zk_A E) := by
  refine zk_met (cc := cX9_makes) (maxL := 11) (ret := none) (own := RX9) (by decide) rfl rfl hi (Nat.le_of_ble_eq_true rfl) ?_
  intro p e s m args below meth c X hr
  have iX9 : ∀ w ∈ u_ws RX9 TX9 32, w ∈ wsX9_makes := by decide +kernel
  have w0 : Cond.fieldLink RX9 127 "HiddenWorksModel" "lot" "J" ∈ wsX9_makes := by decide +kernel
  have w1 : Cond.fieldLink RX9 28 "HiddenWorksModel" "kind" "[I" ∈ wsX9_makes := by decide +kernel
  have w2 : Cond.fieldLink RX9 13 "HiddenWorksModel" "rKind" "[I" ∈ wsX9_makes := by decide +kernel
  have w3 : Cond.fieldLink RX9 31 "HiddenWorksModel" "letters" "[I" ∈ wsX9_makes := by decide +kernel
  have w4 : Cond.fieldLink RX9 16 "HiddenWorksModel" "rLetters" "[I" ∈ wsX9_makes := by decide +kernel
  have w5 : Cond.fieldLink RX9 34 "HiddenWorksModel" "clauses" "[I" ∈ wsX9_makes := by decide +kernel
  have w6 : Cond.fieldLink RX9 19 "HiddenWorksModel" "rClauses" "[I" ∈ wsX9_makes := by decide +kernel
  have w7 : Cond.fieldLink RX9 40 "HiddenWorksModel" "recipeOf" "[I" ∈ wsX9_makes := by decide +kernel
  have w8 : Cond.fieldLink RX9 43 "HiddenWorksModel" "seedOf" "[I" ∈ wsX9_makes := by decide +kernel
  have w9 : Cond.fieldLink RX9 37 "HiddenWorksModel" "hidden" "[I" ∈ wsX9_makes := by decide +kernel
  have w10 : Cond.fieldLink RX9 22 "HiddenWorksModel" "rWide" "[I" ∈ wsX9_makes := by decide +kernel
  have w11 : Cond.fieldLink RX9 46 "HiddenWorksModel" "plain" "[I" ∈ wsX9_makes := by decide +kernel
  have w12 : Cond.fieldLink RX9 49 "HiddenWorksModel" "against" "[I" ∈ wsX9_makes := by decide +kernel
  have w13 : Cond.fieldLink RX9 73 "HiddenWorksModel" "chosen" "[I" ∈ wsX9_makes := by decide +kernel
  have B231 : ∀ (c105 : Int32 → Int32 → Int32 → Int32 → zk_Z → Option (Unit × zk_Z)) (hc105 : ∀ (a1 : Int32) (a2 : Int32) (a4 : Int32) (a5 : Int32) (z : zk_Z), c105 a1 a2 a4 a5 z = some (r, z') → zk_G p l e (headSpec wsX9_makes { frames := 3, cells := 0, slots := 0, locals := 70 }).room s m args below meth c E 11 0 0 (MQ below (zk_Qv E z') args s 0 0 (zk_A E)) 105 [(0, .ref (E.2.1 20 0)), (1, .int a1), (2, .int a2), (4, .int a4), (5, .int a5)] [] z) (c148 : Int32 → Int32 → Int32 → Int32 → Int32 → Int32 → Int32 → Int32 → zk_Z → Option (Unit × zk_Z)) (hc148 : ∀ (a1 : Int32) (a2 : Int32) (a4 : Int32) (a5 : Int32) (a6 : Int32) (a7 : Int32) (a8 : Int32) (a9 : Int32) (z : zk_Z), c148 a1 a2 a4 a5 a6 a7 a8 a9 z = some (r, z') → zk_G p l e (headSpec wsX9_makes { frames := 3, cells := 0, slots := 0, locals := 70 }).room s m args below meth c E 11 0 0 (MQ below (zk_Qv E z') args s 0 0 (zk_A E)) 148 [(0, .ref (E.2.1 20 0)), (1, .int a1), (2, .int a2), (4, .int a4), (5, .int a5), (6, .int a6), (7, .int a7), (8, .int a8), (9, .int a9)] [] z) (a1 : Int32) (a2 : Int32) (a4 : Int32) (a5 : Int32) (a6 : Int32) (a7 : Int32) (a9 : Int32) (s0 : Int32) (s1 : Int32) (z : zk_Z), fX9_makes_B231 c105 c148 a1 a2 a4 a5 a6 a7 a9 s0 s1 z = some (r, z') → zk_G p l e (headSpec wsX9_makes { frames := 3, cells := 0, slots := 0, locals := 70 }).room s m args below meth c E 11 0 0 (MQ below (zk_Qv E z') args s 0 0 (zk_A E)) 231 [(0, .ref (E.2.1 20 0)), (1, .int a1), (2, .int a2), (4, .int a4), (5, .int a5), (6, .int a6), (7, .int a7), (9, .int a9)] [.int s0, .int s1] z := by
    intro c105 hc105 c148 hc148 a1 a2 a4 a5 a6 a7 a9 s0 s1 z h
    unfold fX9_makes_B231 at h
    refine zk_ior X dX9_makes_231 ?_
    refine zk_istore X (lv' := [(8, .int (s1 ||| s0)), (0, .ref (E.2.1 20 0)), (1, .int a1), (2, .int a2), (4, .int a4), (5, .int a5), (6, .int a6), (7, .int a7), (9, .int a9)]) dX9_makes_232 (by decide) rfl ?_
    refine zk_iinc X (lv' := [(9, .int (a9 + 1)), (8, .int (s1 ||| s0)), (0, .ref (E.2.1 20 0)), (1, .int a1), (2, .int a2), (4, .int a4), (5, .int a5), (6, .int a6), (7, .int a7)]) 8 dX9_makes_234 rfl rfl (by decide) rfl ?_
    refine zk_goto X (tgt := 148) dX9_makes_237 (by decide) ?_
    exact zk_sub [2, 3, 4, 5, 6, 7, 8, 1, 0] rfl (hc148 _ _ _ _ _ _ _ _ _ h)
  have B208 : ∀ (c105 : Int32 → Int32 → Int32 → Int32 → zk_Z → Option (Unit × zk_Z)) (hc105 : ∀ (a1 : Int32) (a2 : Int32) (a4 : Int32) (a5 : Int32) (z : zk_Z), c105 a1 a2 a4 a5 z = some (r, z') → zk_G p l e (headSpec wsX9_makes { frames := 3, cells := 0, slots := 0, locals := 70 }).room s m args below meth c E 11 0 0 (MQ below (zk_Qv E z') args s 0 0 (zk_A E)) 105 [(0, .ref (E.2.1 20 0)), (1, .int a1), (2, .int a2), (4, .int a4), (5, .int a5)] [] z) (c148 : Int32 → Int32 → Int32 → Int32 → Int32 → Int32 → Int32 → Int32 → zk_Z → Option (Unit × zk_Z)) (hc148 : ∀ (a1 : Int32) (a2 : Int32) (a4 : Int32) (a5 : Int32) (a6 : Int32) (a7 : Int32) (a8 : Int32) (a9 : Int32) (z : zk_Z), c148 a1 a2 a4 a5 a6 a7 a8 a9 z = some (r, z') → zk_G p l e (headSpec wsX9_makes { frames := 3, cells := 0, slots := 0, locals := 70 }).room s m args below meth c E 11 0 0 (MQ below (zk_Qv E z') args s 0 0 (zk_A E)) 148 [(0, .ref (E.2.1 20 0)), (1, .int a1), (2, .int a2), (4, .int a4), (5, .int a5), (6, .int a6), (7, .int a7), (8, .int a8), (9, .int a9)] [] z) (a1 : Int32) (a2 : Int32) (a4 : Int32) (a5 : Int32) (a6 : Int32) (a8 : Int32) (a9 : Int32) (a10 : Int32) (s0 : Int32) (s1 : Int32) (z : zk_Z), fX9_makes_B208 c105 c148 a1 a2 a4 a5 a6 a8 a9 a10 s0 s1 z = some (r, z') → zk_G p l e (headSpec wsX9_makes { frames := 3, cells := 0, slots := 0, locals := 70 }).room s m args below meth c E 11 0 0 (MQ below (zk_Qv E z') args s 0 0 (zk_A E)) 208 [(0, .ref (E.2.1 20 0)), (1, .int a1), (2, .int a2), (4, .int a4), (5, .int a5), (6, .int a6), (8, .int a8), (9, .int a9), (10, .int a10)] [.int s0, .int s1] z := by
    intro c105 hc105 c148 hc148 a1 a2 a4 a5 a6 a8 a9 a10 s0 s1 z h
    unfold fX9_makes_B208 at h
    refine zk_ior X dX9_makes_208 ?_
    refine zk_istore X (lv' := [(7, .int (s1 ||| s0)), (0, .ref (E.2.1 20 0)), (1, .int a1), (2, .int a2), (4, .int a4), (5, .int a5), (6, .int a6), (8, .int a8), (9, .int a9), (10, .int a10)]) dX9_makes_209 (by decide) rfl ?_
    refine zk_iload X 7 dX9_makes_211 rfl ?_
    refine zk_iload X 9 dX9_makes_213 rfl ?_
    refine zk_if_eq X (tgt := 222) dX9_makes_215 (by decide) h (fun h => ?_) (fun h => ?_)
    · refine zk_iconst X (v := 1) dX9_makes_222 (by decide) ?_
      refine zk_aload_n X 1 dX9_makes_223 rfl rfl ?_
      refine zk_get X iX9 (g := 20) (Nat.zero_lt_one) rfl rfl 29 (by decide) w13 rfl dX9_makes_224 ?_
      refine zk_iload X 8 dX9_makes_227 rfl ?_
      refine zk_iald X (g := 42) (Nat.zero_lt_one) rfl dX9_makes_229 h (fun h => ?_)
      refine zk_ishl X dX9_makes_230 ?_
      exact zk_sub [1, 2, 3, 4, 5, 6, 0, 8] rfl (B231 _ hc105 _ hc148 _ _ _ _ _ _ _ _ _ _ h)
    · refine zk_iconst X (v := 0) dX9_makes_218 (by decide) ?_
      refine zk_goto X (tgt := 231) dX9_makes_219 (by decide) ?_
      exact zk_sub [1, 2, 3, 4, 5, 6, 0, 8] rfl (B231 _ hc105 _ hc148 _ _ _ _ _ _ _ _ _ _ h)
  have B186 : ∀ (c105 : Int32 → Int32 → Int32 → Int32 → zk_Z → Option (Unit × zk_Z)) (hc105 : ∀ (a1 : Int32) (a2 : Int32) (a4 : Int32) (a5 : Int32) (z : zk_Z), c105 a1 a2 a4 a5 z = some (r, z') → zk_G p l e (headSpec wsX9_makes { frames := 3, cells := 0, slots := 0, locals := 70 }).room s m args below meth c E 11 0 0 (MQ below (zk_Qv E z') args s 0 0 (zk_A E)) 105 [(0, .ref (E.2.1 20 0)), (1, .int a1), (2, .int a2), (4, .int a4), (5, .int a5)] [] z) (c148 : Int32 → Int32 → Int32 → Int32 → Int32 → Int32 → Int32 → Int32 → zk_Z → Option (Unit × zk_Z)) (hc148 : ∀ (a1 : Int32) (a2 : Int32) (a4 : Int32) (a5 : Int32) (a6 : Int32) (a7 : Int32) (a8 : Int32) (a9 : Int32) (z : zk_Z), c148 a1 a2 a4 a5 a6 a7 a8 a9 z = some (r, z') → zk_G p l e (headSpec wsX9_makes { frames := 3, cells := 0, slots := 0, locals := 70 }).room s m args below meth c E 11 0 0 (MQ below (zk_Qv E z') args s 0 0 (zk_A E)) 148 [(0, .ref (E.2.1 20 0)), (1, .int a1), (2, .int a2), (4, .int a4), (5, .int a5), (6, .int a6), (7, .int a7), (8, .int a8), (9, .int a9)] [] z) (a1 : Int32) (a2 : Int32) (a4 : Int32) (a5 : Int32) (a6 : Int32) (a7 : Int32) (a8 : Int32) (a9 : Int32) (s0 : Int32) (z : zk_Z), fX9_makes_B186 c105 c148 a1 a2 a4 a5 a6 a7 a8 a9 s0 z = some (r, z') → zk_G p l e (headSpec wsX9_makes { frames := 3, cells := 0, slots := 0, locals := 70 }).room s m args below meth c E 11 0 0 (MQ below (zk_Qv E z') args s 0 0 (zk_A E)) 186 [(0, .ref (E.2.1 20 0)), (1, .int a1), (2, .int a2), (4, .int a4), (5, .int a5), (6, .int a6), (7, .int a7), (8, .int a8), (9, .int a9)] [.int s0] z := by
    intro c105 hc105 c148 hc148 a1 a2 a4 a5 a6 a7 a8 a9 s0 z h
    unfold fX9_makes_B186 at h
    refine zk_istore X (lv' := [(10, .int s0), (0, .ref (E.2.1 20 0)), (1, .int a1), (2, .int a2), (4, .int a4), (5, .int a5), (6, .int a6), (7, .int a7), (8, .int a8), (9, .int a9)]) dX9_makes_186 (by decide) rfl ?_
    refine zk_iload X 7 dX9_makes_188 rfl ?_
    refine zk_iload X 0 dX9_makes_190 rfl ?_
    refine zk_if_eq X (tgt := 207) dX9_makes_192 (by decide) h (fun h => ?_) (fun h => ?_)
    · refine zk_iconst X (v := 0) dX9_makes_207 (by decide) ?_
      exact zk_sub [1, 2, 3, 4, 5, 6, 8, 9, 0] rfl (B208 _ hc105 _ hc148 _ _ _ _ _ _ _ _ _ _ _ h)
    · refine zk_iconst X (v := 1) dX9_makes_195 (by decide) ?_
      refine zk_aload_n X 1 dX9_makes_196 rfl rfl ?_
      refine zk_get X iX9 (g := 20) (Nat.zero_lt_one) rfl rfl 29 (by decide) w13 rfl dX9_makes_197 ?_
      refine zk_iload X 9 dX9_makes_200 rfl ?_
      refine zk_iald X (g := 42) (Nat.zero_lt_one) rfl dX9_makes_202 h (fun h => ?_)
      refine zk_ishl X dX9_makes_203 ?_
      refine zk_goto X (tgt := 208) dX9_makes_204 (by decide) ?_
      exact zk_sub [1, 2, 3, 4, 5, 6, 8, 9, 0] rfl (B208 _ hc105 _ hc148 _ _ _ _ _ _ _ _ _ _ _ h)
  have L148 : ∀ (c105 : Int32 → Int32 → Int32 → Int32 → zk_Z → Option (Unit × zk_Z)) (hc105 : ∀ (a1 : Int32) (a2 : Int32) (a4 : Int32) (a5 : Int32) (z : zk_Z), c105 a1 a2 a4 a5 z = some (r, z') → zk_G p l e (headSpec wsX9_makes { frames := 3, cells := 0, slots := 0, locals := 70 }).room s m args below meth c E 11 0 0 (MQ below (zk_Qv E z') args s 0 0 (zk_A E)) 105 [(0, .ref (E.2.1 20 0)), (1, .int a1), (2, .int a2), (4, .int a4), (5, .int a5)] [] z) (n : Nat) (a1 : Int32) (a2 : Int32) (a4 : Int32) (a5 : Int32) (a6 : Int32) (a7 : Int32) (a8 : Int32) (a9 : Int32) (z : zk_Z), fX9_makes_L148 c105 n a1 a2 a4 a5 a6 a7 a8 a9 z = some (r, z') → zk_G p l e (headSpec wsX9_makes { frames := 3, cells := 0, slots := 0, locals := 70 }).room s m args below meth c E 11 0 0 (MQ below (zk_Qv E z') args s 0 0 (zk_A E)) 148 [(0, .ref (E.2.1 20 0)), (1, .int a1), (2, .int a2), (4, .int a4), (5, .int a5), (6, .int a6), (7, .int a7), (8, .int a8), (9, .int a9)] [] z := by
    intro c105 hc105 n
    induction n with
    | zero => intro a1 a2 a4 a5 a6 a7 a8 a9 z h; exact absurd h (by simp [fX9_makes_L148])
    | succ n ih =>
      intro a1 a2 a4 a5 a6 a7 a8 a9 z h
      rw [fX9_makes_L148] at h
      refine zk_iload X 8 dX9_makes_148 rfl ?_
      refine zk_aload_n X 0 dX9_makes_150 rfl rfl ?_
      refine zk_get X iX9 (g := 20) (Nat.zero_lt_one) rfl rfl 6 (by decide) w10 rfl dX9_makes_151 ?_
      refine zk_iload_n X 2 dX9_makes_154 rfl rfl ?_
      refine zk_iald X (g := 25) (Nat.zero_lt_one) rfl dX9_makes_155 h (fun h => ?_)
      refine zk_icmp_ge X (tgt := 240) dX9_makes_156 (by decide) h (fun h => ?_) (fun h => ?_)
      · refine zk_aload_n X 0 dX9_makes_240 rfl rfl ?_
        refine zk_get X iX9 (g := 20) (Nat.zero_lt_one) rfl rfl 15 (by decide) w11 rfl dX9_makes_241 ?_
        refine zk_bipush X (v := 24) dX9_makes_244 (by decide) ?_
        refine zk_iload_n X 1 dX9_makes_246 rfl rfl ?_
        refine zk_imul X dX9_makes_247 ?_
        refine zk_iload X 4 dX9_makes_248 rfl ?_
        refine zk_iadd X dX9_makes_250 ?_
        refine zk_iload X 6 dX9_makes_251 rfl ?_
        refine zk_iast X (g := 33) (Nat.zero_lt_one) rfl rfl dX9_makes_253 h (fun h => ?_)
        refine zk_aload_n X 0 dX9_makes_254 rfl rfl ?_
        refine zk_get X iX9 (g := 20) (Nat.zero_lt_one) rfl rfl 16 (by decide) w12 rfl dX9_makes_255 ?_
        refine zk_bipush X (v := 24) dX9_makes_258 (by decide) ?_
        refine zk_iload_n X 1 dX9_makes_260 rfl rfl ?_
        refine zk_imul X dX9_makes_261 ?_
        refine zk_iload X 4 dX9_makes_262 rfl ?_
        refine zk_iadd X dX9_makes_264 ?_
        refine zk_iload X 7 dX9_makes_265 rfl ?_
        refine zk_iast X (g := 34) (Nat.zero_lt_one) rfl rfl dX9_makes_267 h (fun h => ?_)
        refine zk_iinc X (lv' := [(5, .int (a5 + 1)), (0, .ref (E.2.1 20 0)), (1, .int a1), (2, .int a2), (4, .int a4), (6, .int a6), (7, .int a7), (8, .int a8), (9, .int a9)]) 4 dX9_makes_268 rfl rfl (by decide) rfl ?_
        refine zk_goto X (tgt := 105) dX9_makes_271 (by decide) ?_
        exact zk_sub [1, 2, 3, 4, 0] rfl (hc105 _ _ _ _ _ h)
      · refine zk_iload X 5 dX9_makes_159 rfl ?_
        refine zk_iload X 8 dX9_makes_161 rfl ?_
        refine zk_ishr X dX9_makes_163 ?_
        refine zk_iconst X (v := 1) dX9_makes_164 (by decide) ?_
        refine zk_iand X dX9_makes_165 ?_
        refine zk_iload X 3 dX9_makes_166 rfl ?_
        refine zk_aload_n X 0 dX9_makes_168 rfl rfl ?_
        refine zk_get X iX9 (g := 20) (Nat.zero_lt_one) rfl rfl 29 (by decide) w13 rfl dX9_makes_169 ?_
        refine zk_iload X 8 dX9_makes_172 rfl ?_
        refine zk_iald X (g := 42) (Nat.zero_lt_one) rfl dX9_makes_174 h (fun h => ?_)
        refine zk_ishr X dX9_makes_175 ?_
        refine zk_iconst X (v := 1) dX9_makes_176 (by decide) ?_
        refine zk_iand X dX9_makes_177 ?_
        refine zk_icmp_ne X (tgt := 185) dX9_makes_178 (by decide) h (fun h => ?_) (fun h => ?_)
        · refine zk_iconst X (v := 1) dX9_makes_181 (by decide) ?_
          refine zk_goto X (tgt := 186) dX9_makes_182 (by decide) ?_
          exact zk_sub [0, 1, 2, 3, 4, 5, 6, 7, 8] rfl (B186 _ hc105 _ ih _ _ _ _ _ _ _ _ _ _ h)
        · refine zk_iconst X (v := 0) dX9_makes_185 (by decide) ?_
          exact zk_sub [0, 1, 2, 3, 4, 5, 6, 7, 8] rfl (B186 _ hc105 _ ih _ _ _ _ _ _ _ _ _ _ h)
  have L105 : ∀ (n : Nat) (a1 : Int32) (a2 : Int32) (a4 : Int32) (a5 : Int32) (z : zk_Z), fX9_makes_L105 n a1 a2 a4 a5 z = some (r, z') → zk_G p l e (headSpec wsX9_makes { frames := 3, cells := 0, slots := 0, locals := 70 }).room s m args below meth c E 11 0 0 (MQ below (zk_Qv E z') args s 0 0 (zk_A E)) 105 [(0, .ref (E.2.1 20 0)), (1, .int a1), (2, .int a2), (4, .int a4), (5, .int a5)] [] z := by
    intro n
    induction n with
    | zero => intro a1 a2 a4 a5 z h; exact absurd h (by simp [fX9_makes_L105])
    | succ n ih =>
      intro a1 a2 a4 a5 z h
      rw [fX9_makes_L105] at h
      refine zk_iload X 4 dX9_makes_105 rfl ?_
      refine zk_aload_n X 0 dX9_makes_107 rfl rfl ?_
      refine zk_get X iX9 (g := 20) (Nat.zero_lt_one) rfl rfl 11 (by decide) w5 rfl dX9_makes_108 ?_
      refine zk_iload_n X 1 dX9_makes_111 rfl rfl ?_
      refine zk_iald X (g := 29) (Nat.zero_lt_one) rfl dX9_makes_112 h (fun h => ?_)
      refine zk_icmp_ge X (tgt := 274) dX9_makes_113 (by decide) h (fun h => ?_) (fun h => ?_)
      · exact zk_vreturn X hr dX9_makes_274 h
      · refine zk_aload_n X 0 dX9_makes_116 rfl rfl ?_
        refine zk_aload_n X 0 dX9_makes_117 rfl rfl ?_
        refine zk_get X iX9 (g := 20) (Nat.zero_lt_one) rfl rfl 10 (by decide) w3 rfl dX9_makes_118 ?_
        refine zk_iload_n X 1 dX9_makes_121 rfl rfl ?_
        refine zk_iald X (g := 28) (Nat.zero_lt_one) rfl dX9_makes_122 h (fun h => ?_)
        refine zk_aload_n X 0 dX9_makes_123 rfl rfl ?_
        refine zk_get X iX9 (g := 20) (Nat.zero_lt_one) rfl rfl 6 (by decide) w10 rfl dX9_makes_124 ?_
        refine zk_iload_n X 2 dX9_makes_127 rfl rfl ?_
        refine zk_iald X (g := 25) (Nat.zero_lt_one) rfl dX9_makes_128 h (fun h => ?_)
        refine zk_vv X h (fun rr zz hf => ct_X9_choose l E hi (z.1 28 0 a1.toNatClampNeg) (z.1 25 0 a2.toNatClampNeg) _ rr zz hf) (cwV 2 X.1.2.2.2.2 gX9_makes_X9_choose rfl rfl rfl (by decide +kernel) ⟨Nat.le_of_ble_eq_true rfl, Nat.le_of_ble_eq_true rfl⟩) (zk_recv X (g := 20) (Nat.zero_lt_one) rfl rfl) rfl rfl (Nat.le_of_ble_eq_true rfl) dX9_makes_129 (fun z1 h => ?_)
        refine zk_aload_n X 0 dX9_makes_132 rfl rfl ?_
        refine zk_iload_n X 2 dX9_makes_133 rfl rfl ?_
        refine zk_vi X h (fun rr zz hf => ct_X9_truths l E hi a2 _ rr zz hf) (cwV 1 X.1.2.2.2.2 gX9_makes_X9_truths rfl rfl rfl (by decide +kernel) ⟨Nat.le_of_ble_eq_true rfl, Nat.le_of_ble_eq_true rfl⟩) (zk_recv X (g := 20) (Nat.zero_lt_one) rfl rfl) rfl rfl (Nat.le_of_ble_eq_true rfl) dX9_makes_134 (fun r4 z3 h => ?_)
        refine zk_istore X (lv' := [(6, .int r4), (0, .ref (E.2.1 20 0)), (1, .int a1), (2, .int a2), (4, .int a4), (5, .int a5)]) dX9_makes_137 (by decide) rfl ?_
        refine zk_iconst X (v := 0) dX9_makes_139 (by decide) ?_
        refine zk_istore X (lv' := [(7, .int 0), (6, .int r4), (0, .ref (E.2.1 20 0)), (1, .int a1), (2, .int a2), (4, .int a4), (5, .int a5)]) dX9_makes_140 (by decide) rfl ?_
        refine zk_iconst X (v := 0) dX9_makes_142 (by decide) ?_
        refine zk_istore X (lv' := [(8, .int 0), (7, .int 0), (6, .int r4), (0, .ref (E.2.1 20 0)), (1, .int a1), (2, .int a2), (4, .int a4), (5, .int a5)]) dX9_makes_143 (by decide) rfl ?_
        refine zk_iconst X (v := 0) dX9_makes_145 (by decide) ?_
        refine zk_istore X (lv' := [(9, .int 0), (8, .int 0), (7, .int 0), (6, .int r4), (0, .ref (E.2.1 20 0)), (1, .int a1), (2, .int a2), (4, .int a4), (5, .int a5)]) dX9_makes_146 (by decide) rfl ?_
        exact zk_sub [4, 5, 6, 7, 8, 3, 2, 1, 0] rfl (L148 _ ih _ _ _ _ _ _ _ _ _ _ h)
  have L64 : ∀ (n : Nat) (a1 : Int32) (a2 : Int32) (a4 : Int32) (a5 : Int32) (z : zk_Z), fX9_makes_L64 n a1 a2 a4 a5 z = some (r, z') → zk_G p l e (headSpec wsX9_makes { frames := 3, cells := 0, slots := 0, locals := 70 }).room s m args below meth c E 11 0 0 (MQ below (zk_Qv E z') args s 0 0 (zk_A E)) 64 [(0, .ref (E.2.1 20 0)), (1, .int a1), (2, .int a2), (4, .int a4), (5, .int a5)] [] z := by
    intro n
    induction n with
    | zero => intro a1 a2 a4 a5 z h; exact absurd h (by simp [fX9_makes_L64])
    | succ n ih =>
      intro a1 a2 a4 a5 z h
      rw [fX9_makes_L64] at h
      refine zk_iload X 4 dX9_makes_64 rfl ?_
      refine zk_aload_n X 0 dX9_makes_66 rfl rfl ?_
      refine zk_get X iX9 (g := 20) (Nat.zero_lt_one) rfl rfl 10 (by decide) w3 rfl dX9_makes_67 ?_
      refine zk_iload_n X 1 dX9_makes_70 rfl rfl ?_
      refine zk_iald X (g := 28) (Nat.zero_lt_one) rfl dX9_makes_71 h (fun h => ?_)
      refine zk_icmp_ge X (tgt := 94) dX9_makes_72 (by decide) h (fun h => ?_) (fun h => ?_)
      · refine zk_aload_n X 0 dX9_makes_94 rfl rfl ?_
        refine zk_get X iX9 (g := 20) (Nat.zero_lt_one) rfl rfl 12 (by decide) w9 rfl dX9_makes_95 ?_
        refine zk_iload_n X 1 dX9_makes_98 rfl rfl ?_
        refine zk_iload X 3 dX9_makes_99 rfl ?_
        refine zk_iast X (g := 30) (Nat.zero_lt_one) rfl rfl dX9_makes_101 h (fun h => ?_)
        refine zk_iconst X (v := 0) dX9_makes_102 (by decide) ?_
        refine zk_istore X (lv' := [(5, .int 0), (0, .ref (E.2.1 20 0)), (1, .int a1), (2, .int a2), (4, .int a4)]) dX9_makes_103 (by decide) rfl ?_
        exact zk_sub [1, 2, 3, 4, 0] rfl (L105 _ _ _ _ _ _ h)
      · refine zk_iload X 3 dX9_makes_75 rfl ?_
        refine zk_aload_n X 0 dX9_makes_77 rfl rfl ?_
        refine zk_iconst X (v := 2) dX9_makes_78 (by decide) ?_
        refine zk_vi X h (fun rr zz hf => ct_X9_draw l E hi 2 _ rr zz hf) (cwV 1 X.1.2.2.2.2 gX9_makes_X9_draw rfl rfl rfl (by decide +kernel) ⟨Nat.le_of_ble_eq_true rfl, Nat.le_of_ble_eq_true rfl⟩) (zk_recv X (g := 20) (Nat.zero_lt_one) rfl rfl) rfl rfl (Nat.le_of_ble_eq_true rfl) dX9_makes_79 (fun r6 z5 h => ?_)
        refine zk_iload X 4 dX9_makes_82 rfl ?_
        refine zk_ishl X dX9_makes_84 ?_
        refine zk_ior X dX9_makes_85 ?_
        refine zk_istore X (lv' := [(4, .int (a4 ||| (r6 <<< (a5 &&& 31)))), (0, .ref (E.2.1 20 0)), (1, .int a1), (2, .int a2), (5, .int a5)]) dX9_makes_86 (by decide) rfl ?_
        refine zk_iinc X (lv' := [(5, .int (a5 + 1)), (4, .int (a4 ||| (r6 <<< (a5 &&& 31)))), (0, .ref (E.2.1 20 0)), (1, .int a1), (2, .int a2)]) 4 dX9_makes_88 rfl rfl (by decide) rfl ?_
        refine zk_goto X (tgt := 64) dX9_makes_91 (by decide) ?_
        exact zk_sub [2, 3, 4, 1, 0] rfl (ih _ _ _ _ _ h)
  unfold fX9_makes at h
  refine zk_aload_n X 0 dX9_makes_0 rfl rfl ?_
  refine zk_iload_n X 3 dX9_makes_1 rfl rfl ?_
  refine zk_iconst X (v := 1) dX9_makes_2 (by decide) ?_
  refine zk_iadd X dX9_makes_3 ?_
  refine zk_i2l X dX9_makes_4 ?_
  refine zk_putL X iX9 tyX9 tyX9_ok nmX9 (g := 20) (Nat.zero_lt_one) rfl rfl 28 1 (by decide) w0 rfl (by decide +kernel) (Nat.le_of_ble_eq_true rfl) rfl (Or.inr ⟨rfl, rfl⟩) dX9_makes_5 ?_
  refine zk_aload_n X 0 dX9_makes_8 rfl rfl ?_
  refine zk_get X iX9 (g := 20) (Nat.zero_lt_one) rfl rfl 9 (by decide) w1 rfl dX9_makes_9 ?_
  refine zk_iload_n X 1 dX9_makes_12 rfl rfl ?_
  refine zk_aload_n X 0 dX9_makes_13 rfl rfl ?_
  refine zk_get X iX9 (g := 20) (Nat.zero_lt_one) rfl rfl 3 (by decide) w2 rfl dX9_makes_14 ?_
  refine zk_iload_n X 2 dX9_makes_17 rfl rfl ?_
  refine zk_iald X (g := 22) (Nat.zero_lt_one) rfl dX9_makes_18 h (fun h => ?_)
  refine zk_iast X (g := 27) (Nat.zero_lt_one) rfl rfl dX9_makes_19 h (fun h => ?_)
  refine zk_aload_n X 0 dX9_makes_20 rfl rfl ?_
  refine zk_get X iX9 (g := 20) (Nat.zero_lt_one) rfl rfl 10 (by decide) w3 rfl dX9_makes_21 ?_
  refine zk_iload_n X 1 dX9_makes_24 rfl rfl ?_
  refine zk_aload_n X 0 dX9_makes_25 rfl rfl ?_
  refine zk_get X iX9 (g := 20) (Nat.zero_lt_one) rfl rfl 4 (by decide) w4 rfl dX9_makes_26 ?_
  refine zk_iload_n X 2 dX9_makes_29 rfl rfl ?_
  refine zk_iald X (g := 23) (Nat.zero_lt_one) rfl dX9_makes_30 h (fun h => ?_)
  refine zk_iast X (g := 28) (Nat.zero_lt_one) rfl rfl dX9_makes_31 h (fun h => ?_)
  refine zk_aload_n X 0 dX9_makes_32 rfl rfl ?_
  refine zk_get X iX9 (g := 20) (Nat.zero_lt_one) rfl rfl 11 (by decide) w5 rfl dX9_makes_33 ?_
  refine zk_iload_n X 1 dX9_makes_36 rfl rfl ?_
  refine zk_aload_n X 0 dX9_makes_37 rfl rfl ?_
  refine zk_get X iX9 (g := 20) (Nat.zero_lt_one) rfl rfl 5 (by decide) w6 rfl dX9_makes_38 ?_
  refine zk_iload_n X 2 dX9_makes_41 rfl rfl ?_
  refine zk_iald X (g := 24) (Nat.zero_lt_one) rfl dX9_makes_42 h (fun h => ?_)
  refine zk_iast X (g := 29) (Nat.zero_lt_one) rfl rfl dX9_makes_43 h (fun h => ?_)
  refine zk_aload_n X 0 dX9_makes_44 rfl rfl ?_
  refine zk_get X iX9 (g := 20) (Nat.zero_lt_one) rfl rfl 13 (by decide) w7 rfl dX9_makes_45 ?_
  refine zk_iload_n X 1 dX9_makes_48 rfl rfl ?_
  refine zk_iload_n X 2 dX9_makes_49 rfl rfl ?_
  refine zk_iast X (g := 31) (Nat.zero_lt_one) rfl rfl dX9_makes_50 h (fun h => ?_)
  refine zk_aload_n X 0 dX9_makes_51 rfl rfl ?_
  refine zk_get X iX9 (g := 20) (Nat.zero_lt_one) rfl rfl 14 (by decide) w8 rfl dX9_makes_52 ?_
  refine zk_iload_n X 1 dX9_makes_55 rfl rfl ?_
  refine zk_iload_n X 3 dX9_makes_56 rfl rfl ?_
  refine zk_iast X (g := 32) (Nat.zero_lt_one) rfl rfl dX9_makes_57 h (fun h => ?_)
  refine zk_iconst X (v := 0) dX9_makes_58 (by decide) ?_
  refine zk_istore X (lv' := [(4, .int 0), (0, .ref (E.2.1 20 0)), (1, .int x1), (2, .int x2), (3, .int x3)]) dX9_makes_59 (by decide) rfl ?_
  refine zk_iconst X (v := 0) dX9_makes_61 (by decide) ?_
  refine zk_istore X (lv' := [(5, .int 0), (4, .int 0), (0, .ref (E.2.1 20 0)), (1, .int x1), (2, .int x2), (3, .int x3)]) dX9_makes_62 (by decide) rfl ?_
  exact zk_sub [2, 3, 4, 1, 0] rfl (L64  _ _ _ _ _ _ h)
def fX9_more_L5 : Nat → Int32 → Int32 → Int32 → Int32 → zk_Z → Option (Int32 × zk_Z)
  | 0, _, _, _, _, _ => none
  | n + 1, a1, a2, a3, a4, z => zk_gd (zk_ix a1 9) (if (z.1 29 0 a1.toNatClampNeg) ≤ a4 then some (a3, z) else zk_gd (zk_ix ((24 * a1) + a4) 216) (zk_gd (zk_ix ((24 * a1) + a4) 216) ((fX9_more_L5 n) a1 a2 (a3 + ((((z.1 33 0 ((24 * a1) + a4).toNatClampNeg) >>> (a2 &&& 31)) &&& 1) - (((z.1 34 0 ((24 * a1) + a4).toNatClampNeg) >>> (a2 &&& 31)) &&& 1))) (a4 + 1) z)))
def fX9_more (x1 : Int32) (x2 : Int32) (z : zk_Z) : Option (Int32 × zk_Z) := fX9_more_L5 zk_FU x1 x2 0 0 z
set_option maxRecDepth 100000 in
set_option maxHeartbeats 8000000 in
theorem ct_X9_more (l : Launch) (E : zk_E) (hi : zk_inj E) (x1 : Int32) (x2 : Int32) (z : zk_Z) (r : Int32) (z' : zk_Z) (h : fX9_more  x1 x2 z = some (r, z')) : Met l yX9_more wsX9_more { frames := 0, cells := 0, slots := 0, locals := 0 } (va_Pc [.ref (E.2.1 20 0), .int x1, .int x2] (zk_W E z)) (zk_Qi E r z') 0 0 (zk_A E) := by
  refine zk_met (cc := cX9_more) (maxL := 5) (ret := (some .int)) (own := RX9) (by decide) rfl rfl hi (Nat.le_of_ble_eq_true rfl) ?_
  intro p e s m args below meth c X hr
  have iX9 : ∀ w ∈ u_ws RX9 TX9 32, w ∈ wsX9_more := by decide +kernel
  have w0 : Cond.fieldLink RX9 34 "HiddenWorksModel" "clauses" "[I" ∈ wsX9_more := by decide +kernel
  have w1 : Cond.fieldLink RX9 46 "HiddenWorksModel" "plain" "[I" ∈ wsX9_more := by decide +kernel
  have w2 : Cond.fieldLink RX9 49 "HiddenWorksModel" "against" "[I" ∈ wsX9_more := by decide +kernel
  have L5 : ∀ (n : Nat) (a1 : Int32) (a2 : Int32) (a3 : Int32) (a4 : Int32) (z : zk_Z), fX9_more_L5 n a1 a2 a3 a4 z = some (r, z') → zk_G p l e (headSpec wsX9_more { frames := 0, cells := 0, slots := 0, locals := 0 }).room s m args below meth c E 5 0 0 (MQ below (zk_Qi E r z') args s 0 0 (zk_A E)) 5 [(0, .ref (E.2.1 20 0)), (1, .int a1), (2, .int a2), (3, .int a3), (4, .int a4)] [] z := by
    intro n
    induction n with
    | zero => intro a1 a2 a3 a4 z h; exact absurd h (by simp [fX9_more_L5])
    | succ n ih =>
      intro a1 a2 a3 a4 z h
      rw [fX9_more_L5] at h
      refine zk_iload X 4 dX9_more_5 rfl ?_
      refine zk_aload_n X 0 dX9_more_7 rfl rfl ?_
      refine zk_get X iX9 (g := 20) (Nat.zero_lt_one) rfl rfl 11 (by decide) w0 rfl dX9_more_8 ?_
      refine zk_iload_n X 1 dX9_more_11 rfl rfl ?_
      refine zk_iald X (g := 29) (Nat.zero_lt_one) rfl dX9_more_12 h (fun h => ?_)
      refine zk_icmp_ge X (tgt := 58) dX9_more_13 (by decide) h (fun h => ?_) (fun h => ?_)
      · refine zk_iload_n X 3 dX9_more_58 rfl rfl ?_
        exact zk_ireturn X hr dX9_more_59 h
      · refine zk_iload_n X 3 dX9_more_16 rfl rfl ?_
        refine zk_aload_n X 0 dX9_more_17 rfl rfl ?_
        refine zk_get X iX9 (g := 20) (Nat.zero_lt_one) rfl rfl 15 (by decide) w1 rfl dX9_more_18 ?_
        refine zk_bipush X (v := 24) dX9_more_21 (by decide) ?_
        refine zk_iload_n X 1 dX9_more_23 rfl rfl ?_
        refine zk_imul X dX9_more_24 ?_
        refine zk_iload X 4 dX9_more_25 rfl ?_
        refine zk_iadd X dX9_more_27 ?_
        refine zk_iald X (g := 33) (Nat.zero_lt_one) rfl dX9_more_28 h (fun h => ?_)
        refine zk_iload_n X 2 dX9_more_29 rfl rfl ?_
        refine zk_ishr X dX9_more_30 ?_
        refine zk_iconst X (v := 1) dX9_more_31 (by decide) ?_
        refine zk_iand X dX9_more_32 ?_
        refine zk_aload_n X 0 dX9_more_33 rfl rfl ?_
        refine zk_get X iX9 (g := 20) (Nat.zero_lt_one) rfl rfl 16 (by decide) w2 rfl dX9_more_34 ?_
        refine zk_bipush X (v := 24) dX9_more_37 (by decide) ?_
        refine zk_iload_n X 1 dX9_more_39 rfl rfl ?_
        refine zk_imul X dX9_more_40 ?_
        refine zk_iload X 4 dX9_more_41 rfl ?_
        refine zk_iadd X dX9_more_43 ?_
        refine zk_iald X (g := 34) (Nat.zero_lt_one) rfl dX9_more_44 h (fun h => ?_)
        refine zk_iload_n X 2 dX9_more_45 rfl rfl ?_
        refine zk_ishr X dX9_more_46 ?_
        refine zk_iconst X (v := 1) dX9_more_47 (by decide) ?_
        refine zk_iand X dX9_more_48 ?_
        refine zk_isub X dX9_more_49 ?_
        refine zk_iadd X dX9_more_50 ?_
        refine zk_istore_n X (lv' := [(3, .int (a3 + ((((z.1 33 0 ((24 * a1) + a4).toNatClampNeg) >>> (a2 &&& 31)) &&& 1) - (((z.1 34 0 ((24 * a1) + a4).toNatClampNeg) >>> (a2 &&& 31)) &&& 1)))), (0, .ref (E.2.1 20 0)), (1, .int a1), (2, .int a2), (4, .int a4)]) dX9_more_51 rfl (by decide) rfl ?_
        refine zk_iinc X (lv' := [(4, .int (a4 + 1)), (3, .int (a3 + ((((z.1 33 0 ((24 * a1) + a4).toNatClampNeg) >>> (a2 &&& 31)) &&& 1) - (((z.1 34 0 ((24 * a1) + a4).toNatClampNeg) >>> (a2 &&& 31)) &&& 1)))), (0, .ref (E.2.1 20 0)), (1, .int a1), (2, .int a2)]) 4 dX9_more_52 rfl rfl (by decide) rfl ?_
        refine zk_goto X (tgt := 5) dX9_more_55 (by decide) ?_
        exact zk_sub [2, 3, 4, 1, 0] rfl (ih _ _ _ _ _ h)
  unfold fX9_more at h
  refine zk_iconst X (v := 0) dX9_more_0 (by decide) ?_
  refine zk_istore_n X (lv' := [(3, .int 0), (0, .ref (E.2.1 20 0)), (1, .int x1), (2, .int x2)]) dX9_more_1 rfl (by decide) rfl ?_
  refine zk_iconst X (v := 0) dX9_more_2 (by decide) ?_
  refine zk_istore X (lv' := [(4, .int 0), (3, .int 0), (0, .ref (E.2.1 20 0)), (1, .int x1), (2, .int x2)]) dX9_more_3 (by decide) rfl ?_
  exact zk_sub [2, 3, 4, 1, 0] rfl (L5  _ _ _ _ _ _ h)
def fX9_signOf_L13 : Nat → Int32 → Int32 → zk_Z → Option (Int32 × zk_Z)
  | 0, _, _, _ => none
  | n + 1, a3, a4, z => zk_gd (zk_ix (8 : Int32) 9) (if (z.1 28 0 (8 : Int32).toNatClampNeg) ≤ a4 then some (a3, z) else zk_bd (fX9_more 8 a4 z) (fun r4 z3 => zk_bd (fX9_more 8 a4 z3) (fun r6 z5 => (fX9_signOf_L13 n) (a3 + (r4 * r6)) (a4 + 1) z5)))
def fX9_signOf (x1 : Int32) (x2 : Int32) (z : zk_Z) : Option (Int32 × zk_Z) := zk_bd (fX9_makes 8 x1 x2 z) (fun _ z1 => fX9_signOf_L13 zk_FU 0 0 z1)
set_option maxRecDepth 100000 in
set_option maxHeartbeats 8000000 in
theorem ct_X9_signOf (l : Launch) (E : zk_E) (hi : zk_inj E) (x1 : Int32) (x2 : Int32) (z : zk_Z) (r : Int32) (z' : zk_Z) (h : fX9_signOf  x1 x2 z = some (r, z')) : Met l yX9_signOf wsX9_signOf { frames := 4, cells := 0, slots := 0, locals := 100 } (va_Pc [.ref (E.2.1 20 0), .int x1, .int x2] (zk_W E z)) (zk_Qi E r z') 0 0 (zk_A E) := by
  refine zk_met (cc := cX9_signOf) (maxL := 5) (ret := (some .int)) (own := RX9) (by decide) rfl rfl hi (Nat.le_of_ble_eq_true rfl) ?_
  intro p e s m args below meth c X hr
  have iX9 : ∀ w ∈ u_ws RX9 TX9 32, w ∈ wsX9_signOf := by decide +kernel
  have w0 : Cond.fieldLink RX9 31 "HiddenWorksModel" "letters" "[I" ∈ wsX9_signOf := by decide +kernel
  have L13 : ∀ (n : Nat) (a3 : Int32) (a4 : Int32) (z : zk_Z), fX9_signOf_L13 n a3 a4 z = some (r, z') → zk_G p l e (headSpec wsX9_signOf { frames := 4, cells := 0, slots := 0, locals := 100 }).room s m args below meth c E 5 0 0 (MQ below (zk_Qi E r z') args s 0 0 (zk_A E)) 13 [(0, .ref (E.2.1 20 0)), (3, .int a3), (4, .int a4)] [] z := by
    intro n
    induction n with
    | zero => intro a3 a4 z h; exact absurd h (by simp [fX9_signOf_L13])
    | succ n ih =>
      intro a3 a4 z h
      rw [fX9_signOf_L13] at h
      refine zk_iload X 2 dX9_signOf_13 rfl ?_
      refine zk_aload_n X 0 dX9_signOf_15 rfl rfl ?_
      refine zk_get X iX9 (g := 20) (Nat.zero_lt_one) rfl rfl 10 (by decide) w0 rfl dX9_signOf_16 ?_
      refine zk_bipush X (v := 8) dX9_signOf_19 (by decide) ?_
      refine zk_iald X (g := 28) (Nat.zero_lt_one) rfl dX9_signOf_21 h (fun h => ?_)
      refine zk_icmp_ge X (tgt := 51) dX9_signOf_22 (by decide) h (fun h => ?_) (fun h => ?_)
      · refine zk_iload_n X 1 dX9_signOf_51 rfl rfl ?_
        exact zk_ireturn X hr dX9_signOf_52 h
      · refine zk_iload_n X 1 dX9_signOf_25 rfl rfl ?_
        refine zk_aload_n X 0 dX9_signOf_26 rfl rfl ?_
        refine zk_bipush X (v := 8) dX9_signOf_27 (by decide) ?_
        refine zk_iload X 2 dX9_signOf_29 rfl ?_
        refine zk_vi X h (fun rr zz hf => ct_X9_more l E hi 8 a4 _ rr zz hf) (cwV 2 X.1.2.2.2.2 gX9_signOf_X9_more rfl rfl rfl (by decide +kernel) ⟨Nat.le_of_ble_eq_true rfl, Nat.le_of_ble_eq_true rfl⟩) (zk_recv X (g := 20) (Nat.zero_lt_one) rfl rfl) rfl rfl (Nat.le_of_ble_eq_true rfl) dX9_signOf_31 (fun r4 z3 h => ?_)
        refine zk_aload_n X 0 dX9_signOf_34 rfl rfl ?_
        refine zk_bipush X (v := 8) dX9_signOf_35 (by decide) ?_
        refine zk_iload X 2 dX9_signOf_37 rfl ?_
        refine zk_vi X h (fun rr zz hf => ct_X9_more l E hi 8 a4 _ rr zz hf) (cwV 2 X.1.2.2.2.2 gX9_signOf_X9_more rfl rfl rfl (by decide +kernel) ⟨Nat.le_of_ble_eq_true rfl, Nat.le_of_ble_eq_true rfl⟩) (zk_recv X (g := 20) (Nat.zero_lt_one) rfl rfl) rfl rfl (Nat.le_of_ble_eq_true rfl) dX9_signOf_39 (fun r6 z5 h => ?_)
        refine zk_imul X dX9_signOf_42 ?_
        refine zk_iadd X dX9_signOf_43 ?_
        refine zk_istore_n X (lv' := [(3, .int (a3 + (r4 * r6))), (0, .ref (E.2.1 20 0)), (4, .int a4)]) dX9_signOf_44 rfl (by decide) rfl ?_
        refine zk_iinc X (lv' := [(4, .int (a4 + 1)), (3, .int (a3 + (r4 * r6))), (0, .ref (E.2.1 20 0))]) 2 dX9_signOf_45 rfl rfl (by decide) rfl ?_
        refine zk_goto X (tgt := 13) dX9_signOf_48 (by decide) ?_
        exact zk_sub [2, 1, 0] rfl (ih _ _ _ h)
  unfold fX9_signOf at h
  refine zk_aload_n X 0 dX9_signOf_0 rfl rfl ?_
  refine zk_bipush X (v := 8) dX9_signOf_1 (by decide) ?_
  refine zk_iload_n X 1 dX9_signOf_3 rfl rfl ?_
  refine zk_iload_n X 2 dX9_signOf_4 rfl rfl ?_
  refine zk_vv X h (fun rr zz hf => ct_X9_makes l E hi  8 x1 x2 _ rr zz hf) (cwV 3 X.1.2.2.2.2 gX9_signOf_X9_makes rfl rfl rfl (by decide +kernel) ⟨Nat.le_of_ble_eq_true rfl, Nat.le_of_ble_eq_true rfl⟩) (zk_recv X (g := 20) (Nat.zero_lt_one) rfl rfl) rfl rfl (Nat.le_of_ble_eq_true rfl) dX9_signOf_5 (fun z1 h => ?_)
  refine zk_iconst X (v := 0) dX9_signOf_8 (by decide) ?_
  refine zk_istore_n X (lv' := [(3, .int 0), (0, .ref (E.2.1 20 0)), (1, .int x1), (2, .int x2)]) dX9_signOf_9 rfl (by decide) rfl ?_
  refine zk_iconst X (v := 0) dX9_signOf_10 (by decide) ?_
  refine zk_istore X (lv' := [(4, .int 0), (3, .int 0), (0, .ref (E.2.1 20 0)), (1, .int x1), (2, .int x2)]) dX9_signOf_11 (by decide) rfl ?_
  exact zk_sub [2, 1, 0] rfl (L13  _ _ _ _ h)
def fX9_apart_B170 (c107 : Int32 → Int32 → Int32 → Int32 → Int32 → zk_Z → Option (Int32 × zk_Z)) (a4 : Int32) (a5 : Int32) (a6 : Int32) (a7 : Int32) (a8 : Int32) (z : zk_Z) : Option (Int32 × zk_Z) := c107 a4 a5 a6 a7 (a8 + 1) z
def fX9_apart_B157 (c107 : Int32 → Int32 → Int32 → Int32 → Int32 → zk_Z → Option (Int32 × zk_Z)) (a4 : Int32) (a5 : Int32) (a8 : Int32) (a9 : Int32) (z : zk_Z) : Option (Int32 × zk_Z) := zk_gd (zk_ix a8 48) (fX9_apart_B170 c107 a4 a5 (z.1 43 0 a8.toNatClampNeg) a9 a8 z)
def fX9_apart_L107 : Nat → Int32 → Int32 → Int32 → Int32 → Int32 → zk_Z → Option (Int32 × zk_Z)
  | 0, _, _, _, _, _, _ => none
  | n + 1, a4, a5, a6, a7, a8, z => if (2 * a4) ≤ a8 then if a5 = 0 then some (a6, z) else some (a7, z) else zk_gd (zk_ix a8 48) (zk_bd (fX9_rightBy (z.1 43 0 a8.toNatClampNeg) a4 z) (fun r12 z11 => if a7 < r12 then fX9_apart_B157 (fX9_apart_L107 n) a4 a5 a8 r12 z11 else if r12 = a7 then zk_gd (zk_ix a8 48) (if a6 ≤ (z11.1 43 0 a8.toNatClampNeg) then fX9_apart_B170 (fX9_apart_L107 n) a4 a5 a6 a7 a8 z11 else fX9_apart_B157 (fX9_apart_L107 n) a4 a5 a8 r12 z11) else fX9_apart_B170 (fX9_apart_L107 n) a4 a5 a6 a7 a8 z11))
def fX9_apart_L44 : Nat → Int32 → Int32 → Int32 → Int32 → Int32 → Int32 → zk_Z → Option (Int32 × zk_Z)
  | 0, _, _, _, _, _, _, _ => none
  | n + 1, a1, a2, a3, a4, a5, a6, z => if a4 ≤ a6 then zk_bd (fX9_rightBy (-1) a4 z) (fun r10 z9 => fX9_apart_L107 zk_FU a4 a5 (-1) r10 0 z9) else zk_bd (fX9_signOf a1 (a3 + a6) z) (fun r14 z13 => zk_gd (zk_ix a6 48) (zk_bd (fX9_signOf a2 (a3 + a6) (zk_sI z13 43 0 a6.toNatClampNeg r14)) (fun r16 z15 => zk_gd (zk_ix (a4 + a6) 48) ((fX9_apart_L44 n) a1 a2 a3 a4 a5 (a6 + 1) (zk_sI z15 43 0 (a4 + a6).toNatClampNeg r16)))))
def fX9_apart (x1 : Int32) (x2 : Int32) (x3 : Int32) (x4 : Int32) (x5 : Int32) (z : zk_Z) : Option (Int32 × zk_Z) := zk_bd (fX9_isRecipe x1 z) (fun r2 z1 => if r2 = 0 then some ((-5), z1) else zk_bd (fX9_isRecipe x2 z1) (fun r4 z3 => if r4 = 0 then some ((-5), z3) else zk_bd (fX9_areSeeds x3 x4 z3) (fun r6 z5 => if r6 = 0 then some ((-2), z5) else zk_bd (fX9_in x5 0 1 z5) (fun r8 z7 => if r8 = 0 then some ((-2), z7) else fX9_apart_L44 zk_FU x1 x2 x3 x4 x5 0 z7))))
set_option maxRecDepth 100000 in
set_option maxHeartbeats 8000000 in
theorem ct_X9_apart (l : Launch) (E : zk_E) (hi : zk_inj E) (x1 : Int32) (x2 : Int32) (x3 : Int32) (x4 : Int32) (x5 : Int32) (z : zk_Z) (r : Int32) (z' : zk_Z) (h : fX9_apart  x1 x2 x3 x4 x5 z = some (r, z')) : Met l yX9_apart wsX9_apart { frames := 5, cells := 0, slots := 0, locals := 124 } (va_Pc [.ref (E.2.1 20 0), .int x1, .int x2, .int x3, .int x4, .int x5] (zk_W E z)) (zk_Qi E r z') 0 0 (zk_A E) := by
  refine zk_met (cc := cX9_apart) (maxL := 10) (ret := (some .int)) (own := RX9) (by decide) rfl rfl hi (Nat.le_of_ble_eq_true rfl) ?_
  intro p e s m args below meth c X hr
  have iX9 : ∀ w ∈ u_ws RX9 TX9 32, w ∈ wsX9_apart := by decide +kernel
  have w0 : Cond.fieldLink RX9 76 "HiddenWorksModel" "signs" "[I" ∈ wsX9_apart := by decide +kernel
  have B170 : ∀ (c107 : Int32 → Int32 → Int32 → Int32 → Int32 → zk_Z → Option (Int32 × zk_Z)) (hc107 : ∀ (a4 : Int32) (a5 : Int32) (a6 : Int32) (a7 : Int32) (a8 : Int32) (z : zk_Z), c107 a4 a5 a6 a7 a8 z = some (r, z') → zk_G p l e (headSpec wsX9_apart { frames := 5, cells := 0, slots := 0, locals := 124 }).room s m args below meth c E 10 0 0 (MQ below (zk_Qi E r z') args s 0 0 (zk_A E)) 107 [(0, .ref (E.2.1 20 0)), (4, .int a4), (5, .int a5), (6, .int a6), (7, .int a7), (8, .int a8)] [] z) (a4 : Int32) (a5 : Int32) (a6 : Int32) (a7 : Int32) (a8 : Int32) (z : zk_Z), fX9_apart_B170 c107 a4 a5 a6 a7 a8 z = some (r, z') → zk_G p l e (headSpec wsX9_apart { frames := 5, cells := 0, slots := 0, locals := 124 }).room s m args below meth c E 10 0 0 (MQ below (zk_Qi E r z') args s 0 0 (zk_A E)) 170 [(0, .ref (E.2.1 20 0)), (4, .int a4), (5, .int a5), (6, .int a6), (7, .int a7), (8, .int a8)] [] z := by
    intro c107 hc107 a4 a5 a6 a7 a8 z h
    unfold fX9_apart_B170 at h
    refine zk_iinc X (lv' := [(8, .int (a8 + 1)), (0, .ref (E.2.1 20 0)), (4, .int a4), (5, .int a5), (6, .int a6), (7, .int a7)]) 5 dX9_apart_170 rfl rfl (by decide) rfl ?_
    refine zk_goto X (tgt := 107) dX9_apart_173 (by decide) ?_
    exact zk_sub [1, 2, 3, 4, 5, 0] rfl (hc107 _ _ _ _ _ _ h)
  have B157 : ∀ (c107 : Int32 → Int32 → Int32 → Int32 → Int32 → zk_Z → Option (Int32 × zk_Z)) (hc107 : ∀ (a4 : Int32) (a5 : Int32) (a6 : Int32) (a7 : Int32) (a8 : Int32) (z : zk_Z), c107 a4 a5 a6 a7 a8 z = some (r, z') → zk_G p l e (headSpec wsX9_apart { frames := 5, cells := 0, slots := 0, locals := 124 }).room s m args below meth c E 10 0 0 (MQ below (zk_Qi E r z') args s 0 0 (zk_A E)) 107 [(0, .ref (E.2.1 20 0)), (4, .int a4), (5, .int a5), (6, .int a6), (7, .int a7), (8, .int a8)] [] z) (a4 : Int32) (a5 : Int32) (a8 : Int32) (a9 : Int32) (z : zk_Z), fX9_apart_B157 c107 a4 a5 a8 a9 z = some (r, z') → zk_G p l e (headSpec wsX9_apart { frames := 5, cells := 0, slots := 0, locals := 124 }).room s m args below meth c E 10 0 0 (MQ below (zk_Qi E r z') args s 0 0 (zk_A E)) 157 [(0, .ref (E.2.1 20 0)), (4, .int a4), (5, .int a5), (8, .int a8), (9, .int a9)] [] z := by
    intro c107 hc107 a4 a5 a8 a9 z h
    unfold fX9_apart_B157 at h
    refine zk_aload_n X 0 dX9_apart_157 rfl rfl ?_
    refine zk_get X iX9 (g := 20) (Nat.zero_lt_one) rfl rfl 31 (by decide) w0 rfl dX9_apart_158 ?_
    refine zk_iload X 3 dX9_apart_161 rfl ?_
    refine zk_iald X (g := 43) (Nat.zero_lt_one) rfl dX9_apart_163 h (fun h => ?_)
    refine zk_istore X (lv' := [(6, .int (z.1 43 0 a8.toNatClampNeg)), (0, .ref (E.2.1 20 0)), (4, .int a4), (5, .int a5), (8, .int a8), (9, .int a9)]) dX9_apart_164 (by decide) rfl ?_
    refine zk_iload X 5 dX9_apart_166 rfl ?_
    refine zk_istore X (lv' := [(7, .int a9), (6, .int (z.1 43 0 a8.toNatClampNeg)), (0, .ref (E.2.1 20 0)), (4, .int a4), (5, .int a5), (8, .int a8), (9, .int a9)]) dX9_apart_168 (by decide) rfl ?_
    exact zk_sub [2, 3, 4, 1, 0, 5] rfl (B170 _ hc107 _ _ _ _ _ _ h)
  have L107 : ∀ (n : Nat) (a4 : Int32) (a5 : Int32) (a6 : Int32) (a7 : Int32) (a8 : Int32) (z : zk_Z), fX9_apart_L107 n a4 a5 a6 a7 a8 z = some (r, z') → zk_G p l e (headSpec wsX9_apart { frames := 5, cells := 0, slots := 0, locals := 124 }).room s m args below meth c E 10 0 0 (MQ below (zk_Qi E r z') args s 0 0 (zk_A E)) 107 [(0, .ref (E.2.1 20 0)), (4, .int a4), (5, .int a5), (6, .int a6), (7, .int a7), (8, .int a8)] [] z := by
    intro n
    induction n with
    | zero => intro a4 a5 a6 a7 a8 z h; exact absurd h (by simp [fX9_apart_L107])
    | succ n ih =>
      intro a4 a5 a6 a7 a8 z h
      rw [fX9_apart_L107] at h
      refine zk_iload X 5 dX9_apart_107 rfl ?_
      refine zk_iconst X (v := 2) dX9_apart_109 (by decide) ?_
      refine zk_iload X 1 dX9_apart_110 rfl ?_
      refine zk_imul X dX9_apart_112 ?_
      refine zk_icmp_ge X (tgt := 176) dX9_apart_113 (by decide) h (fun h => ?_) (fun h => ?_)
      · refine zk_iload X 2 dX9_apart_176 rfl ?_
        refine zk_if_ne X (tgt := 186) dX9_apart_178 (by decide) h (fun h => ?_) (fun h => ?_)
        · refine zk_iload X 3 dX9_apart_181 rfl ?_
          refine zk_goto X (tgt := 188) dX9_apart_183 (by decide) ?_
          exact zk_ireturn X hr dX9_apart_188 h
        · refine zk_iload X 4 dX9_apart_186 rfl ?_
          exact zk_ireturn X hr dX9_apart_188 h
      · refine zk_aload_n X 0 dX9_apart_116 rfl rfl ?_
        refine zk_aload_n X 0 dX9_apart_117 rfl rfl ?_
        refine zk_get X iX9 (g := 20) (Nat.zero_lt_one) rfl rfl 31 (by decide) w0 rfl dX9_apart_118 ?_
        refine zk_iload X 5 dX9_apart_121 rfl ?_
        refine zk_iald X (g := 43) (Nat.zero_lt_one) rfl dX9_apart_123 h (fun h => ?_)
        refine zk_iload X 1 dX9_apart_124 rfl ?_
        refine zk_vi X h (fun rr zz hf => ct_X9_rightBy l E hi (z.1 43 0 a8.toNatClampNeg) a4 _ rr zz hf) (cwV 2 X.1.2.2.2.2 gX9_apart_X9_rightBy rfl rfl rfl (by decide +kernel) ⟨Nat.le_of_ble_eq_true rfl, Nat.le_of_ble_eq_true rfl⟩) (zk_recv X (g := 20) (Nat.zero_lt_one) rfl rfl) rfl rfl (Nat.le_of_ble_eq_true rfl) dX9_apart_126 (fun r12 z11 h => ?_)
        refine zk_istore X (lv' := [(9, .int r12), (0, .ref (E.2.1 20 0)), (4, .int a4), (5, .int a5), (6, .int a6), (7, .int a7), (8, .int a8)]) dX9_apart_129 (by decide) rfl ?_
        refine zk_iload X 0 dX9_apart_131 rfl ?_
        refine zk_iload X 5 dX9_apart_133 rfl ?_
        refine zk_icmp_gt X (tgt := 157) dX9_apart_135 (by decide) h (fun h => ?_) (fun h => ?_)
        · exact zk_sub [1, 2, 3, 6, 0] rfl (B157 _ ih _ _ _ _ _ h)
        · refine zk_iload X 0 dX9_apart_138 rfl ?_
          refine zk_iload X 5 dX9_apart_140 rfl ?_
          refine zk_icmp_ne X (tgt := 170) dX9_apart_142 (by decide) h (fun h => ?_) (fun h => ?_)
          · refine zk_aload_n X 1 dX9_apart_145 rfl rfl ?_
            refine zk_get X iX9 (g := 20) (Nat.zero_lt_one) rfl rfl 31 (by decide) w0 rfl dX9_apart_146 ?_
            refine zk_iload X 6 dX9_apart_149 rfl ?_
            refine zk_iald X (g := 43) (Nat.zero_lt_one) rfl dX9_apart_151 h (fun h => ?_)
            refine zk_iload X 4 dX9_apart_152 rfl ?_
            refine zk_icmp_ge X (tgt := 170) dX9_apart_154 (by decide) h (fun h => ?_) (fun h => ?_)
            · exact zk_sub [1, 2, 3, 4, 5, 6] rfl (B170 _ ih _ _ _ _ _ _ h)
            · exact zk_sub [1, 2, 3, 6, 0] rfl (B157 _ ih _ _ _ _ _ h)
          · exact zk_sub [1, 2, 3, 4, 5, 6] rfl (B170 _ ih _ _ _ _ _ _ h)
  have L44 : ∀ (n : Nat) (a1 : Int32) (a2 : Int32) (a3 : Int32) (a4 : Int32) (a5 : Int32) (a6 : Int32) (z : zk_Z), fX9_apart_L44 n a1 a2 a3 a4 a5 a6 z = some (r, z') → zk_G p l e (headSpec wsX9_apart { frames := 5, cells := 0, slots := 0, locals := 124 }).room s m args below meth c E 10 0 0 (MQ below (zk_Qi E r z') args s 0 0 (zk_A E)) 44 [(0, .ref (E.2.1 20 0)), (1, .int a1), (2, .int a2), (3, .int a3), (4, .int a4), (5, .int a5), (6, .int a6)] [] z := by
    intro n
    induction n with
    | zero => intro a1 a2 a3 a4 a5 a6 z h; exact absurd h (by simp [fX9_apart_L44])
    | succ n ih =>
      intro a1 a2 a3 a4 a5 a6 z h
      rw [fX9_apart_L44] at h
      refine zk_iload X 6 dX9_apart_44 rfl ?_
      refine zk_iload X 4 dX9_apart_46 rfl ?_
      refine zk_icmp_ge X (tgt := 92) dX9_apart_48 (by decide) h (fun h => ?_) (fun h => ?_)
      · refine zk_iconst X (v := -1) dX9_apart_92 (by decide) ?_
        refine zk_istore X (lv' := [(6, .int (-1)), (0, .ref (E.2.1 20 0)), (1, .int a1), (2, .int a2), (3, .int a3), (4, .int a4), (5, .int a5)]) dX9_apart_93 (by decide) rfl ?_
        refine zk_aload_n X 1 dX9_apart_95 rfl rfl ?_
        refine zk_iconst X (v := -1) dX9_apart_96 (by decide) ?_
        refine zk_iload X 5 dX9_apart_97 rfl ?_
        refine zk_vi X h (fun rr zz hf => ct_X9_rightBy l E hi (-1) a4 _ rr zz hf) (cwV 2 X.1.2.2.2.2 gX9_apart_X9_rightBy rfl rfl rfl (by decide +kernel) ⟨Nat.le_of_ble_eq_true rfl, Nat.le_of_ble_eq_true rfl⟩) (zk_recv X (g := 20) (Nat.zero_lt_one) rfl rfl) rfl rfl (Nat.le_of_ble_eq_true rfl) dX9_apart_99 (fun r10 z9 h => ?_)
        refine zk_istore X (lv' := [(7, .int r10), (6, .int (-1)), (0, .ref (E.2.1 20 0)), (1, .int a1), (2, .int a2), (3, .int a3), (4, .int a4), (5, .int a5)]) dX9_apart_102 (by decide) rfl ?_
        refine zk_iconst X (v := 0) dX9_apart_104 (by decide) ?_
        refine zk_istore X (lv' := [(8, .int 0), (7, .int r10), (6, .int (-1)), (0, .ref (E.2.1 20 0)), (1, .int a1), (2, .int a2), (3, .int a3), (4, .int a4), (5, .int a5)]) dX9_apart_105 (by decide) rfl ?_
        exact zk_sub [3, 7, 8, 2, 1, 0] rfl (L107 _ _ _ _ _ _ _ h)
      · refine zk_aload_n X 0 dX9_apart_51 rfl rfl ?_
        refine zk_get X iX9 (g := 20) (Nat.zero_lt_one) rfl rfl 31 (by decide) w0 rfl dX9_apart_52 ?_
        refine zk_iload X 6 dX9_apart_55 rfl ?_
        refine zk_aload_n X 0 dX9_apart_57 rfl rfl ?_
        refine zk_iload_n X 1 dX9_apart_58 rfl rfl ?_
        refine zk_iload_n X 3 dX9_apart_59 rfl rfl ?_
        refine zk_iload X 6 dX9_apart_60 rfl ?_
        refine zk_iadd X dX9_apart_62 ?_
        refine zk_vi X h (fun rr zz hf => ct_X9_signOf l E hi a1 (a3 + a6) _ rr zz hf) (cwV 2 X.1.2.2.2.2 gX9_apart_X9_signOf rfl rfl rfl (by decide +kernel) ⟨Nat.le_of_ble_eq_true rfl, Nat.le_of_ble_eq_true rfl⟩) (zk_recv X (g := 20) (Nat.zero_lt_one) rfl rfl) rfl rfl (Nat.le_of_ble_eq_true rfl) dX9_apart_63 (fun r14 z13 h => ?_)
        refine zk_iast X (g := 43) (Nat.zero_lt_one) rfl rfl dX9_apart_66 h (fun h => ?_)
        refine zk_aload_n X 0 dX9_apart_67 rfl rfl ?_
        refine zk_get X iX9 (g := 20) (Nat.zero_lt_one) rfl rfl 31 (by decide) w0 rfl dX9_apart_68 ?_
        refine zk_iload X 4 dX9_apart_71 rfl ?_
        refine zk_iload X 6 dX9_apart_73 rfl ?_
        refine zk_iadd X dX9_apart_75 ?_
        refine zk_aload_n X 0 dX9_apart_76 rfl rfl ?_
        refine zk_iload_n X 2 dX9_apart_77 rfl rfl ?_
        refine zk_iload_n X 3 dX9_apart_78 rfl rfl ?_
        refine zk_iload X 6 dX9_apart_79 rfl ?_
        refine zk_iadd X dX9_apart_81 ?_
        refine zk_vi X h (fun rr zz hf => ct_X9_signOf l E hi a2 (a3 + a6) _ rr zz hf) (cwV 2 X.1.2.2.2.2 gX9_apart_X9_signOf rfl rfl rfl (by decide +kernel) ⟨Nat.le_of_ble_eq_true rfl, Nat.le_of_ble_eq_true rfl⟩) (zk_recv X (g := 20) (Nat.zero_lt_one) rfl rfl) rfl rfl (Nat.le_of_ble_eq_true rfl) dX9_apart_82 (fun r16 z15 h => ?_)
        refine zk_iast X (g := 43) (Nat.zero_lt_one) rfl rfl dX9_apart_85 h (fun h => ?_)
        refine zk_iinc X (lv' := [(6, .int (a6 + 1)), (0, .ref (E.2.1 20 0)), (1, .int a1), (2, .int a2), (3, .int a3), (4, .int a4), (5, .int a5)]) 6 dX9_apart_86 rfl rfl (by decide) rfl ?_
        refine zk_goto X (tgt := 44) dX9_apart_89 (by decide) ?_
        exact zk_sub [1, 2, 3, 4, 5, 6, 0] rfl (ih _ _ _ _ _ _ _ h)
  unfold fX9_apart at h
  refine zk_aload_n X 0 dX9_apart_0 rfl rfl ?_
  refine zk_iload_n X 1 dX9_apart_1 rfl rfl ?_
  refine zk_vi X h (fun rr zz hf => ct_X9_isRecipe l E hi  x1 _ rr zz hf) (cwV 1 X.1.2.2.2.2 gX9_apart_X9_isRecipe rfl rfl rfl (by decide +kernel) ⟨Nat.le_of_ble_eq_true rfl, Nat.le_of_ble_eq_true rfl⟩) (zk_recv X (g := 20) (Nat.zero_lt_one) rfl rfl) rfl rfl (Nat.le_of_ble_eq_true rfl) dX9_apart_2 (fun r2 z1 h => ?_)
  refine zk_if_eq X (tgt := 16) dX9_apart_5 (by decide) h (fun h => ?_) (fun h => ?_)
  · refine zk_bipush X (v := -5) dX9_apart_16 (by decide) ?_
    exact zk_ireturn X hr dX9_apart_18 h
  · refine zk_aload_n X 0 dX9_apart_8 rfl rfl ?_
    refine zk_iload_n X 2 dX9_apart_9 rfl rfl ?_
    refine zk_vi X h (fun rr zz hf => ct_X9_isRecipe l E hi  x2 _ rr zz hf) (cwV 1 X.1.2.2.2.2 gX9_apart_X9_isRecipe rfl rfl rfl (by decide +kernel) ⟨Nat.le_of_ble_eq_true rfl, Nat.le_of_ble_eq_true rfl⟩) (zk_recv X (g := 20) (Nat.zero_lt_one) rfl rfl) rfl rfl (Nat.le_of_ble_eq_true rfl) dX9_apart_10 (fun r4 z3 h => ?_)
    refine zk_if_ne X (tgt := 19) dX9_apart_13 (by decide) h (fun h => ?_) (fun h => ?_)
    · refine zk_bipush X (v := -5) dX9_apart_16 (by decide) ?_
      exact zk_ireturn X hr dX9_apart_18 h
    · refine zk_iload_n X 3 dX9_apart_19 rfl rfl ?_
      refine zk_iload X 4 dX9_apart_20 rfl ?_
      refine zk_si X h (fun rr zz hf => ct_X9_areSeeds l E hi  x3 x4 _ rr zz hf) (va_cwS 2 X.1.2.2.2.2 gX9_apart_X9_areSeeds rfl rfl rfl (by decide +kernel) ⟨Nat.le_of_ble_eq_true rfl, Nat.le_of_ble_eq_true rfl⟩) rfl rfl (Nat.le_of_ble_eq_true rfl) dX9_apart_22 (fun r6 z5 h => ?_)
      refine zk_if_eq X (tgt := 38) dX9_apart_25 (by decide) h (fun h => ?_) (fun h => ?_)
      · refine zk_bipush X (v := -2) dX9_apart_38 (by decide) ?_
        exact zk_ireturn X hr dX9_apart_40 h
      · refine zk_iload X 5 dX9_apart_28 rfl ?_
        refine zk_iconst X (v := 0) dX9_apart_30 (by decide) ?_
        refine zk_iconst X (v := 1) dX9_apart_31 (by decide) ?_
        refine zk_si X h (fun rr zz hf => ct_X9_in l E hi  x5 0 1 _ rr zz hf) (va_cwS 3 X.1.2.2.2.2 gX9_apart_X9_in rfl rfl rfl (by decide +kernel) ⟨Nat.le_of_ble_eq_true rfl, Nat.le_of_ble_eq_true rfl⟩) rfl rfl (Nat.le_of_ble_eq_true rfl) dX9_apart_32 (fun r8 z7 h => ?_)
        refine zk_if_ne X (tgt := 41) dX9_apart_35 (by decide) h (fun h => ?_) (fun h => ?_)
        · refine zk_bipush X (v := -2) dX9_apart_38 (by decide) ?_
          exact zk_ireturn X hr dX9_apart_40 h
        · refine zk_iconst X (v := 0) dX9_apart_41 (by decide) ?_
          refine zk_istore X (lv' := [(6, .int 0), (0, .ref (E.2.1 20 0)), (1, .int x1), (2, .int x2), (3, .int x3), (4, .int x4), (5, .int x5)]) dX9_apart_42 (by decide) rfl ?_
          exact zk_sub [1, 2, 3, 4, 5, 6, 0] rfl (L44  _ _ _ _ _ _ _ _ h)
def fX9_back_B94 (c22 : Int32 → Int32 → zk_Z → Option (Int32 × zk_Z)) (a1 : Int32) (a2 : Int32) (z : zk_Z) : Option (Int32 × zk_Z) := c22 a1 (a2 + 1) z
def fX9_back_L22 : Nat → Int32 → Int32 → zk_Z → Option (Int32 × zk_Z)
  | 0, _, _, _ => none
  | n + 1, a1, a2, z => if (z.1 20 0 17) ≤ a2 then some ((zk_sI z 20 0 17 a1).1 20 0 8, zk_sI z 20 0 17 a1) else zk_gd (zk_ix a2 20) (if (z.1 20 0 8) ≤ (z.1 35 0 a2.toNatClampNeg) then fX9_back_B94 (fX9_back_L22 n) a1 a2 z else zk_gd (zk_ix a2 20) (zk_gd (zk_ix a1 20) (zk_gd (zk_ix a2 20) (zk_gd (zk_ix a1 20) (zk_gd (zk_ix a2 20) (zk_gd (zk_ix a1 20) (zk_gd (zk_ix a2 20) (zk_gd (zk_ix a1 20) (fX9_back_B94 (fX9_back_L22 n) (a1 + 1) a2 (zk_sI (zk_sI (zk_sI (zk_sI z 35 0 a1.toNatClampNeg (z.1 35 0 a2.toNatClampNeg)) 36 0 a1.toNatClampNeg ((zk_sI z 35 0 a1.toNatClampNeg (z.1 35 0 a2.toNatClampNeg)).1 36 0 a2.toNatClampNeg)) 37 0 a1.toNatClampNeg ((zk_sI (zk_sI z 35 0 a1.toNatClampNeg (z.1 35 0 a2.toNatClampNeg)) 36 0 a1.toNatClampNeg ((zk_sI z 35 0 a1.toNatClampNeg (z.1 35 0 a2.toNatClampNeg)).1 36 0 a2.toNatClampNeg)).1 37 0 a2.toNatClampNeg)) 38 0 a1.toNatClampNeg ((zk_sI (zk_sI (zk_sI z 35 0 a1.toNatClampNeg (z.1 35 0 a2.toNatClampNeg)) 36 0 a1.toNatClampNeg ((zk_sI z 35 0 a1.toNatClampNeg (z.1 35 0 a2.toNatClampNeg)).1 36 0 a2.toNatClampNeg)) 37 0 a1.toNatClampNeg ((zk_sI (zk_sI z 35 0 a1.toNatClampNeg (z.1 35 0 a2.toNatClampNeg)) 36 0 a1.toNatClampNeg ((zk_sI z 35 0 a1.toNatClampNeg (z.1 35 0 a2.toNatClampNeg)).1 36 0 a2.toNatClampNeg)).1 37 0 a2.toNatClampNeg)).1 38 0 a2.toNatClampNeg)))))))))))
def fX9_back (z : zk_Z) : Option (Int32 × zk_Z) := if (z.1 20 0 22) = 0 then some ((-3), z) else fX9_back_L22 zk_FU 0 0 (zk_sI z 20 0 8 (z.1 20 0 23))
set_option maxRecDepth 100000 in
set_option maxHeartbeats 8000000 in
theorem ct_X9_back (l : Launch) (E : zk_E) (hi : zk_inj E) (z : zk_Z) (r : Int32) (z' : zk_Z) (h : fX9_back   z = some (r, z')) : Met l yX9_back wsX9_back { frames := 0, cells := 0, slots := 0, locals := 0 } (va_Pc [.ref (E.2.1 20 0)] (zk_W E z)) (zk_Qi E r z') 0 0 (zk_A E) := by
  refine zk_met (cc := cX9_back) (maxL := 3) (ret := (some .int)) (own := RX9) (by decide) rfl rfl hi (Nat.le_of_ble_eq_true rfl) ?_
  intro p e s m args below meth c X hr
  have iX9 : ∀ w ∈ u_ws RX9 TX9 32, w ∈ wsX9_back := by decide +kernel
  have w0 : Cond.fieldLink RX9 236 "HiddenWorksModel" "hasImage" "Z" ∈ wsX9_back := by decide +kernel
  have w1 : Cond.fieldLink RX9 240 "HiddenWorksModel" "imaged" "I" ∈ wsX9_back := by decide +kernel
  have w2 : Cond.fieldLink RX9 152 "HiddenWorksModel" "tasks" "I" ∈ wsX9_back := by decide +kernel
  have w3 : Cond.fieldLink RX9 230 "HiddenWorksModel" "claims" "I" ∈ wsX9_back := by decide +kernel
  have w4 : Cond.fieldLink RX9 52 "HiddenWorksModel" "claimTask" "[I" ∈ wsX9_back := by decide +kernel
  have w5 : Cond.fieldLink RX9 55 "HiddenWorksModel" "claimSteps" "[I" ∈ wsX9_back := by decide +kernel
  have w6 : Cond.fieldLink RX9 58 "HiddenWorksModel" "claimState" "[I" ∈ wsX9_back := by decide +kernel
  have w7 : Cond.fieldLink RX9 61 "HiddenWorksModel" "claimBy" "[I" ∈ wsX9_back := by decide +kernel
  have B94 : ∀ (c22 : Int32 → Int32 → zk_Z → Option (Int32 × zk_Z)) (hc22 : ∀ (a1 : Int32) (a2 : Int32) (z : zk_Z), c22 a1 a2 z = some (r, z') → zk_G p l e (headSpec wsX9_back { frames := 0, cells := 0, slots := 0, locals := 0 }).room s m args below meth c E 3 0 0 (MQ below (zk_Qi E r z') args s 0 0 (zk_A E)) 22 [(0, .ref (E.2.1 20 0)), (1, .int a1), (2, .int a2)] [] z) (a1 : Int32) (a2 : Int32) (z : zk_Z), fX9_back_B94 c22 a1 a2 z = some (r, z') → zk_G p l e (headSpec wsX9_back { frames := 0, cells := 0, slots := 0, locals := 0 }).room s m args below meth c E 3 0 0 (MQ below (zk_Qi E r z') args s 0 0 (zk_A E)) 94 [(0, .ref (E.2.1 20 0)), (1, .int a1), (2, .int a2)] [] z := by
    intro c22 hc22 a1 a2 z h
    unfold fX9_back_B94 at h
    refine zk_iinc X (lv' := [(2, .int (a2 + 1)), (0, .ref (E.2.1 20 0)), (1, .int a1)]) 2 dX9_back_94 rfl rfl (by decide) rfl ?_
    refine zk_goto X (tgt := 22) dX9_back_97 (by decide) ?_
    exact zk_sub [1, 2, 0] rfl (hc22 _ _ _ h)
  have L22 : ∀ (n : Nat) (a1 : Int32) (a2 : Int32) (z : zk_Z), fX9_back_L22 n a1 a2 z = some (r, z') → zk_G p l e (headSpec wsX9_back { frames := 0, cells := 0, slots := 0, locals := 0 }).room s m args below meth c E 3 0 0 (MQ below (zk_Qi E r z') args s 0 0 (zk_A E)) 22 [(0, .ref (E.2.1 20 0)), (1, .int a1), (2, .int a2)] [] z := by
    intro n
    induction n with
    | zero => intro a1 a2 z h; exact absurd h (by simp [fX9_back_L22])
    | succ n ih =>
      intro a1 a2 z h
      rw [fX9_back_L22] at h
      refine zk_iload_n X 2 dX9_back_22 rfl rfl ?_
      refine zk_aload_n X 0 dX9_back_23 rfl rfl ?_
      refine zk_get X iX9 (g := 20) (Nat.zero_lt_one) rfl rfl 17 (by decide) w3 rfl dX9_back_24 ?_
      refine zk_icmp_ge X (tgt := 100) dX9_back_27 (by decide) h (fun h => ?_) (fun h => ?_)
      · refine zk_aload_n X 0 dX9_back_100 rfl rfl ?_
        refine zk_iload_n X 1 dX9_back_101 rfl rfl ?_
        refine zk_putI X (ty := .int) iX9 tyX9 tyX9_ok nmX9 (g := 20) (Nat.zero_lt_one) rfl rfl 17 (by decide) w3 rfl (by decide +kernel) rfl rfl (Nat.le_of_ble_eq_true rfl) rfl dX9_back_102 ?_
        refine zk_aload_n X 0 dX9_back_105 rfl rfl ?_
        refine zk_get X iX9 (g := 20) (Nat.zero_lt_one) rfl rfl 8 (by decide) w2 rfl dX9_back_106 ?_
        exact zk_ireturn X hr dX9_back_109 h
      · refine zk_aload_n X 0 dX9_back_30 rfl rfl ?_
        refine zk_get X iX9 (g := 20) (Nat.zero_lt_one) rfl rfl 18 (by decide) w4 rfl dX9_back_31 ?_
        refine zk_iload_n X 2 dX9_back_34 rfl rfl ?_
        refine zk_iald X (g := 35) (Nat.zero_lt_one) rfl dX9_back_35 h (fun h => ?_)
        refine zk_aload_n X 0 dX9_back_36 rfl rfl ?_
        refine zk_get X iX9 (g := 20) (Nat.zero_lt_one) rfl rfl 8 (by decide) w2 rfl dX9_back_37 ?_
        refine zk_icmp_ge X (tgt := 94) dX9_back_40 (by decide) h (fun h => ?_) (fun h => ?_)
        · exact zk_sub [0, 1, 2] rfl (B94 _ ih _ _ _ h)
        · refine zk_aload_n X 0 dX9_back_43 rfl rfl ?_
          refine zk_get X iX9 (g := 20) (Nat.zero_lt_one) rfl rfl 18 (by decide) w4 rfl dX9_back_44 ?_
          refine zk_iload_n X 1 dX9_back_47 rfl rfl ?_
          refine zk_aload_n X 0 dX9_back_48 rfl rfl ?_
          refine zk_get X iX9 (g := 20) (Nat.zero_lt_one) rfl rfl 18 (by decide) w4 rfl dX9_back_49 ?_
          refine zk_iload_n X 2 dX9_back_52 rfl rfl ?_
          refine zk_iald X (g := 35) (Nat.zero_lt_one) rfl dX9_back_53 h (fun h => ?_)
          refine zk_iast X (g := 35) (Nat.zero_lt_one) rfl rfl dX9_back_54 h (fun h => ?_)
          refine zk_aload_n X 0 dX9_back_55 rfl rfl ?_
          refine zk_get X iX9 (g := 20) (Nat.zero_lt_one) rfl rfl 19 (by decide) w5 rfl dX9_back_56 ?_
          refine zk_iload_n X 1 dX9_back_59 rfl rfl ?_
          refine zk_aload_n X 0 dX9_back_60 rfl rfl ?_
          refine zk_get X iX9 (g := 20) (Nat.zero_lt_one) rfl rfl 19 (by decide) w5 rfl dX9_back_61 ?_
          refine zk_iload_n X 2 dX9_back_64 rfl rfl ?_
          refine zk_iald X (g := 36) (Nat.zero_lt_one) rfl dX9_back_65 h (fun h => ?_)
          refine zk_iast X (g := 36) (Nat.zero_lt_one) rfl rfl dX9_back_66 h (fun h => ?_)
          refine zk_aload_n X 0 dX9_back_67 rfl rfl ?_
          refine zk_get X iX9 (g := 20) (Nat.zero_lt_one) rfl rfl 20 (by decide) w6 rfl dX9_back_68 ?_
          refine zk_iload_n X 1 dX9_back_71 rfl rfl ?_
          refine zk_aload_n X 0 dX9_back_72 rfl rfl ?_
          refine zk_get X iX9 (g := 20) (Nat.zero_lt_one) rfl rfl 20 (by decide) w6 rfl dX9_back_73 ?_
          refine zk_iload_n X 2 dX9_back_76 rfl rfl ?_
          refine zk_iald X (g := 37) (Nat.zero_lt_one) rfl dX9_back_77 h (fun h => ?_)
          refine zk_iast X (g := 37) (Nat.zero_lt_one) rfl rfl dX9_back_78 h (fun h => ?_)
          refine zk_aload_n X 0 dX9_back_79 rfl rfl ?_
          refine zk_get X iX9 (g := 20) (Nat.zero_lt_one) rfl rfl 21 (by decide) w7 rfl dX9_back_80 ?_
          refine zk_iload_n X 1 dX9_back_83 rfl rfl ?_
          refine zk_aload_n X 0 dX9_back_84 rfl rfl ?_
          refine zk_get X iX9 (g := 20) (Nat.zero_lt_one) rfl rfl 21 (by decide) w7 rfl dX9_back_85 ?_
          refine zk_iload_n X 2 dX9_back_88 rfl rfl ?_
          refine zk_iald X (g := 38) (Nat.zero_lt_one) rfl dX9_back_89 h (fun h => ?_)
          refine zk_iast X (g := 38) (Nat.zero_lt_one) rfl rfl dX9_back_90 h (fun h => ?_)
          refine zk_iinc X (lv' := [(1, .int (a1 + 1)), (0, .ref (E.2.1 20 0)), (2, .int a2)]) 1 dX9_back_91 rfl rfl (by decide) rfl ?_
          exact zk_sub [1, 0, 2] rfl (B94 _ ih _ _ _ h)
  unfold fX9_back at h
  refine zk_aload_n X 0 dX9_back_0 rfl rfl ?_
  refine zk_get X iX9 (g := 20) (Nat.zero_lt_one) rfl rfl 22 (by decide) w0 rfl dX9_back_1 ?_
  refine zk_if_ne X (tgt := 10) dX9_back_4 (by decide) h (fun h => ?_) (fun h => ?_)
  · refine zk_bipush X (v := -3) dX9_back_7 (by decide) ?_
    exact zk_ireturn X hr dX9_back_9 h
  · refine zk_aload_n X 0 dX9_back_10 rfl rfl ?_
    refine zk_aload_n X 0 dX9_back_11 rfl rfl ?_
    refine zk_get X iX9 (g := 20) (Nat.zero_lt_one) rfl rfl 23 (by decide) w1 rfl dX9_back_12 ?_
    refine zk_putI X (ty := .int) iX9 tyX9 tyX9_ok nmX9 (g := 20) (Nat.zero_lt_one) rfl rfl 8 (by decide) w2 rfl (by decide +kernel) rfl rfl (Nat.le_of_ble_eq_true rfl) rfl dX9_back_15 ?_
    refine zk_iconst X (v := 0) dX9_back_18 (by decide) ?_
    refine zk_istore_n X (lv' := [(1, .int 0), (0, .ref (E.2.1 20 0))]) dX9_back_19 rfl (by decide) rfl ?_
    refine zk_iconst X (v := 0) dX9_back_20 (by decide) ?_
    refine zk_istore_n X (lv' := [(2, .int 0), (1, .int 0), (0, .ref (E.2.1 20 0))]) dX9_back_21 rfl (by decide) rfl ?_
    exact zk_sub [2, 1, 0] rfl (L22  _ _ _ _ h)
def fX9_leanSum_L4 : Nat → Int32 → Int32 → Int32 → zk_Z → Option (Int32 × zk_Z)
  | 0, _, _, _, _ => none
  | n + 1, a1, a2, a3, z => zk_gd (zk_ix a1 6) (if (z.1 25 0 a1.toNatClampNeg) < a3 then some (a2, z) else zk_gd (zk_ix ((4 * a1) + a3) 24) (zk_gd (zk_ix a1 6) (zk_bd (fX9_ways a3 (z.1 25 0 a1.toNatClampNeg) z) (fun r2 z1 => zk_gd (zk_ix a1 6) ((fX9_leanSum_L4 n) a1 (a2 + (((z.1 26 0 ((4 * a1) + a3).toNatClampNeg) * r2) * ((2 * a3) - (z1.1 25 0 a1.toNatClampNeg)))) (a3 + 1) z1)))))
def fX9_leanSum (x1 : Int32) (z : zk_Z) : Option (Int32 × zk_Z) := fX9_leanSum_L4 zk_FU x1 0 0 z
set_option maxRecDepth 100000 in
set_option maxHeartbeats 8000000 in
theorem ct_X9_leanSum (l : Launch) (E : zk_E) (hi : zk_inj E) (x1 : Int32) (z : zk_Z) (r : Int32) (z' : zk_Z) (h : fX9_leanSum  x1 z = some (r, z')) : Met l yX9_leanSum wsX9_leanSum { frames := 1, cells := 0, slots := 0, locals := 21 } (va_Pc [.ref (E.2.1 20 0), .int x1] (zk_W E z)) (zk_Qi E r z') 0 0 (zk_A E) := by
  refine zk_met (cc := cX9_leanSum) (maxL := 4) (ret := (some .int)) (own := RX9) (by decide) rfl rfl hi (Nat.le_of_ble_eq_true rfl) ?_
  intro p e s m args below meth c X hr
  have iX9 : ∀ w ∈ u_ws RX9 TX9 32, w ∈ wsX9_leanSum := by decide +kernel
  have w0 : Cond.fieldLink RX9 22 "HiddenWorksModel" "rWide" "[I" ∈ wsX9_leanSum := by decide +kernel
  have w1 : Cond.fieldLink RX9 25 "HiddenWorksModel" "rWeight" "[I" ∈ wsX9_leanSum := by decide +kernel
  have L4 : ∀ (n : Nat) (a1 : Int32) (a2 : Int32) (a3 : Int32) (z : zk_Z), fX9_leanSum_L4 n a1 a2 a3 z = some (r, z') → zk_G p l e (headSpec wsX9_leanSum { frames := 1, cells := 0, slots := 0, locals := 21 }).room s m args below meth c E 4 0 0 (MQ below (zk_Qi E r z') args s 0 0 (zk_A E)) 4 [(0, .ref (E.2.1 20 0)), (1, .int a1), (2, .int a2), (3, .int a3)] [] z := by
    intro n
    induction n with
    | zero => intro a1 a2 a3 z h; exact absurd h (by simp [fX9_leanSum_L4])
    | succ n ih =>
      intro a1 a2 a3 z h
      rw [fX9_leanSum_L4] at h
      refine zk_iload_n X 3 dX9_leanSum_4 rfl rfl ?_
      refine zk_aload_n X 0 dX9_leanSum_5 rfl rfl ?_
      refine zk_get X iX9 (g := 20) (Nat.zero_lt_one) rfl rfl 6 (by decide) w0 rfl dX9_leanSum_6 ?_
      refine zk_iload_n X 1 dX9_leanSum_9 rfl rfl ?_
      refine zk_iald X (g := 25) (Nat.zero_lt_one) rfl dX9_leanSum_10 h (fun h => ?_)
      refine zk_icmp_gt X (tgt := 55) dX9_leanSum_11 (by decide) h (fun h => ?_) (fun h => ?_)
      · refine zk_iload_n X 2 dX9_leanSum_55 rfl rfl ?_
        exact zk_ireturn X hr dX9_leanSum_56 h
      · refine zk_iload_n X 2 dX9_leanSum_14 rfl rfl ?_
        refine zk_aload_n X 0 dX9_leanSum_15 rfl rfl ?_
        refine zk_get X iX9 (g := 20) (Nat.zero_lt_one) rfl rfl 7 (by decide) w1 rfl dX9_leanSum_16 ?_
        refine zk_iconst X (v := 4) dX9_leanSum_19 (by decide) ?_
        refine zk_iload_n X 1 dX9_leanSum_20 rfl rfl ?_
        refine zk_imul X dX9_leanSum_21 ?_
        refine zk_iload_n X 3 dX9_leanSum_22 rfl rfl ?_
        refine zk_iadd X dX9_leanSum_23 ?_
        refine zk_iald X (g := 26) (Nat.zero_lt_one) rfl dX9_leanSum_24 h (fun h => ?_)
        refine zk_iload_n X 3 dX9_leanSum_25 rfl rfl ?_
        refine zk_aload_n X 0 dX9_leanSum_26 rfl rfl ?_
        refine zk_get X iX9 (g := 20) (Nat.zero_lt_one) rfl rfl 6 (by decide) w0 rfl dX9_leanSum_27 ?_
        refine zk_iload_n X 1 dX9_leanSum_30 rfl rfl ?_
        refine zk_iald X (g := 25) (Nat.zero_lt_one) rfl dX9_leanSum_31 h (fun h => ?_)
        refine zk_si X h (fun rr zz hf => ct_X9_ways l E hi a3 (z.1 25 0 a1.toNatClampNeg) _ rr zz hf) (va_cwS 2 X.1.2.2.2.2 gX9_leanSum_X9_ways rfl rfl rfl (by decide +kernel) ⟨Nat.le_of_ble_eq_true rfl, Nat.le_of_ble_eq_true rfl⟩) rfl rfl (Nat.le_of_ble_eq_true rfl) dX9_leanSum_32 (fun r2 z1 h => ?_)
        refine zk_imul X dX9_leanSum_35 ?_
        refine zk_iconst X (v := 2) dX9_leanSum_36 (by decide) ?_
        refine zk_iload_n X 3 dX9_leanSum_37 rfl rfl ?_
        refine zk_imul X dX9_leanSum_38 ?_
        refine zk_aload_n X 0 dX9_leanSum_39 rfl rfl ?_
        refine zk_get X iX9 (g := 20) (Nat.zero_lt_one) rfl rfl 6 (by decide) w0 rfl dX9_leanSum_40 ?_
        refine zk_iload_n X 1 dX9_leanSum_43 rfl rfl ?_
        refine zk_iald X (g := 25) (Nat.zero_lt_one) rfl dX9_leanSum_44 h (fun h => ?_)
        refine zk_isub X dX9_leanSum_45 ?_
        refine zk_imul X dX9_leanSum_46 ?_
        refine zk_iadd X dX9_leanSum_47 ?_
        refine zk_istore_n X (lv' := [(2, .int (a2 + (((z.1 26 0 ((4 * a1) + a3).toNatClampNeg) * r2) * ((2 * a3) - (z1.1 25 0 a1.toNatClampNeg))))), (0, .ref (E.2.1 20 0)), (1, .int a1), (3, .int a3)]) dX9_leanSum_48 rfl (by decide) rfl ?_
        refine zk_iinc X (lv' := [(3, .int (a3 + 1)), (2, .int (a2 + (((z.1 26 0 ((4 * a1) + a3).toNatClampNeg) * r2) * ((2 * a3) - (z1.1 25 0 a1.toNatClampNeg))))), (0, .ref (E.2.1 20 0)), (1, .int a1)]) 3 dX9_leanSum_49 rfl rfl (by decide) rfl ?_
        refine zk_goto X (tgt := 4) dX9_leanSum_52 (by decide) ?_
        exact zk_sub [2, 3, 1, 0] rfl (ih _ _ _ _ h)
  unfold fX9_leanSum at h
  refine zk_iconst X (v := 0) dX9_leanSum_0 (by decide) ?_
  refine zk_istore_n X (lv' := [(2, .int 0), (0, .ref (E.2.1 20 0)), (1, .int x1)]) dX9_leanSum_1 rfl (by decide) rfl ?_
  refine zk_iconst X (v := 0) dX9_leanSum_2 (by decide) ?_
  refine zk_istore_n X (lv' := [(3, .int 0), (2, .int 0), (0, .ref (E.2.1 20 0)), (1, .int x1)]) dX9_leanSum_3 rfl (by decide) rfl ?_
  exact zk_sub [2, 3, 1, 0] rfl (L4  _ _ _ _ _ h)
def fX9_balance_B152 (c18 : Int32 → Int32 → Int32 → Int32 → zk_Z → Option (Int32 × zk_Z)) (a1 : Int32) (a2 : Int32) (a3 : Int32) (a4 : Int32) (a5 : Int32) (z : zk_Z) : Option (Int32 × zk_Z) := zk_gd (zk_ix ((4 * a1) + a4) 24) (c18 a1 a2 a3 (a4 + 1) (zk_sI z 26 0 ((4 * a1) + a4).toNatClampNeg a5))
def fX9_balance_B146 (c18 : Int32 → Int32 → Int32 → Int32 → zk_Z → Option (Int32 × zk_Z)) (c45 : Int32 → Int32 → Int32 → Int32 → Int32 → Int32 → zk_Z → Option (Int32 × zk_Z)) (a1 : Int32) (a2 : Int32) (a3 : Int32) (a4 : Int32) (a5 : Int32) (a6 : Int32) (z : zk_Z) : Option (Int32 × zk_Z) := c45 a1 a2 a3 a4 a5 (a6 + 1) z
def fX9_balance_B134 (c18 : Int32 → Int32 → Int32 → Int32 → zk_Z → Option (Int32 × zk_Z)) (c45 : Int32 → Int32 → Int32 → Int32 → Int32 → Int32 → zk_Z → Option (Int32 × zk_Z)) (a1 : Int32) (a4 : Int32) (a5 : Int32) (a6 : Int32) (a7 : Int32) (z : zk_Z) : Option (Int32 × zk_Z) := fX9_balance_B146 c18 c45 a1 ((100 * a4) + a6) a7 a4 a5 a6 z
def fX9_balance_B105 (c18 : Int32 → Int32 → Int32 → Int32 → zk_Z → Option (Int32 × zk_Z)) (c45 : Int32 → Int32 → Int32 → Int32 → Int32 → Int32 → zk_Z → Option (Int32 × zk_Z)) (a1 : Int32) (a2 : Int32) (a3 : Int32) (a4 : Int32) (a5 : Int32) (a6 : Int32) (s0 : Int32) (z : zk_Z) : Option (Int32 × zk_Z) := zk_bd (fX9_leanSum a1 z) (fun r6 z5 => if r6 = 0 then zk_bd (fX9_all a1 z5) (fun r8 z7 => if r8 = 0 then fX9_balance_B146 c18 c45 a1 a2 a3 a4 a5 a6 z7 else if a2 = (-1) then fX9_balance_B134 c18 c45 a1 a4 a5 a6 s0 z7 else if a3 ≤ s0 then fX9_balance_B146 c18 c45 a1 a2 a3 a4 a5 a6 z7 else fX9_balance_B134 c18 c45 a1 a4 a5 a6 s0 z7) else fX9_balance_B146 c18 c45 a1 a2 a3 a4 a5 a6 z5)
def fX9_balance_L45 (c18 : Int32 → Int32 → Int32 → Int32 → zk_Z → Option (Int32 × zk_Z)) : Nat → Int32 → Int32 → Int32 → Int32 → Int32 → Int32 → zk_Z → Option (Int32 × zk_Z)
  | 0, _, _, _, _, _, _, _ => none
  | n + 1, a1, a2, a3, a4, a5, a6, z => if 100 ≤ a6 then fX9_balance_B152 c18 a1 a2 a3 a4 a5 z else zk_gd (zk_ix a1 6) (zk_gd (zk_ix a1 6) (zk_bd (fX9_holds (z.1 22 0 a1.toNatClampNeg) a4 (z.1 25 0 a1.toNatClampNeg) z) (fun r4 z3 => if r4 = 0 then fX9_balance_B152 c18 a1 a2 a3 a4 a5 z3 else zk_gd (zk_ix ((4 * a1) + a4) 24) (if a5 ≤ a6 then fX9_balance_B105 c18 (fX9_balance_L45 c18 n) a1 a2 a3 a4 a5 a6 (a6 - a5) (zk_sI z3 26 0 ((4 * a1) + a4).toNatClampNeg a6) else fX9_balance_B105 c18 (fX9_balance_L45 c18 n) a1 a2 a3 a4 a5 a6 (a5 - a6) (zk_sI z3 26 0 ((4 * a1) + a4).toNatClampNeg a6)))))
def fX9_balance_L18 : Nat → Int32 → Int32 → Int32 → Int32 → zk_Z → Option (Int32 × zk_Z)
  | 0, _, _, _, _, _ => none
  | n + 1, a1, a2, a3, a4, z => zk_gd (zk_ix a1 6) (if (z.1 25 0 a1.toNatClampNeg) < a4 then some (a2, z) else zk_gd (zk_ix ((4 * a1) + a4) 24) (fX9_balance_L45 (fX9_balance_L18 n) zk_FU a1 a2 a3 a4 (z.1 26 0 ((4 * a1) + a4).toNatClampNeg) 0 z))
def fX9_balance (x1 : Int32) (z : zk_Z) : Option (Int32 × zk_Z) := zk_bd (fX9_isRecipe x1 z) (fun r2 z1 => if r2 = 0 then some ((-5), z1) else fX9_balance_L18 zk_FU x1 (-1) 0 0 z1)
set_option maxRecDepth 100000 in
set_option maxHeartbeats 8000000 in
theorem ct_X9_balance (l : Launch) (E : zk_E) (hi : zk_inj E) (x1 : Int32) (z : zk_Z) (r : Int32) (z' : zk_Z) (h : fX9_balance  x1 z = some (r, z')) : Met l yX9_balance wsX9_balance { frames := 2, cells := 0, slots := 0, locals := 44 } (va_Pc [.ref (E.2.1 20 0), .int x1] (zk_W E z)) (zk_Qi E r z') 0 0 (zk_A E) := by
  refine zk_met (cc := cX9_balance) (maxL := 8) (ret := (some .int)) (own := RX9) (by decide) rfl rfl hi (Nat.le_of_ble_eq_true rfl) ?_
  intro p e s m args below meth c X hr
  have iX9 : ∀ w ∈ u_ws RX9 TX9 32, w ∈ wsX9_balance := by decide +kernel
  have w0 : Cond.fieldLink RX9 22 "HiddenWorksModel" "rWide" "[I" ∈ wsX9_balance := by decide +kernel
  have w1 : Cond.fieldLink RX9 25 "HiddenWorksModel" "rWeight" "[I" ∈ wsX9_balance := by decide +kernel
  have w2 : Cond.fieldLink RX9 13 "HiddenWorksModel" "rKind" "[I" ∈ wsX9_balance := by decide +kernel
  have B152 : ∀ (c18 : Int32 → Int32 → Int32 → Int32 → zk_Z → Option (Int32 × zk_Z)) (hc18 : ∀ (a1 : Int32) (a2 : Int32) (a3 : Int32) (a4 : Int32) (z : zk_Z), c18 a1 a2 a3 a4 z = some (r, z') → zk_G p l e (headSpec wsX9_balance { frames := 2, cells := 0, slots := 0, locals := 44 }).room s m args below meth c E 8 0 0 (MQ below (zk_Qi E r z') args s 0 0 (zk_A E)) 18 [(0, .ref (E.2.1 20 0)), (1, .int a1), (2, .int a2), (3, .int a3), (4, .int a4)] [] z) (a1 : Int32) (a2 : Int32) (a3 : Int32) (a4 : Int32) (a5 : Int32) (z : zk_Z), fX9_balance_B152 c18 a1 a2 a3 a4 a5 z = some (r, z') → zk_G p l e (headSpec wsX9_balance { frames := 2, cells := 0, slots := 0, locals := 44 }).room s m args below meth c E 8 0 0 (MQ below (zk_Qi E r z') args s 0 0 (zk_A E)) 152 [(0, .ref (E.2.1 20 0)), (1, .int a1), (2, .int a2), (3, .int a3), (4, .int a4), (5, .int a5)] [] z := by
    intro c18 hc18 a1 a2 a3 a4 a5 z h
    unfold fX9_balance_B152 at h
    refine zk_aload_n X 0 dX9_balance_152 rfl rfl ?_
    refine zk_get X iX9 (g := 20) (Nat.zero_lt_one) rfl rfl 7 (by decide) w1 rfl dX9_balance_153 ?_
    refine zk_iconst X (v := 4) dX9_balance_156 (by decide) ?_
    refine zk_iload_n X 1 dX9_balance_157 rfl rfl ?_
    refine zk_imul X dX9_balance_158 ?_
    refine zk_iload X 4 dX9_balance_159 rfl ?_
    refine zk_iadd X dX9_balance_161 ?_
    refine zk_iload X 5 dX9_balance_162 rfl ?_
    refine zk_iast X (g := 26) (Nat.zero_lt_one) rfl rfl dX9_balance_164 h (fun h => ?_)
    refine zk_iinc X (lv' := [(4, .int (a4 + 1)), (0, .ref (E.2.1 20 0)), (1, .int a1), (2, .int a2), (3, .int a3), (5, .int a5)]) 4 dX9_balance_165 rfl rfl (by decide) rfl ?_
    refine zk_goto X (tgt := 18) dX9_balance_168 (by decide) ?_
    exact zk_sub [1, 2, 3, 4, 0] rfl (hc18 _ _ _ _ _ h)
  have B146 : ∀ (c18 : Int32 → Int32 → Int32 → Int32 → zk_Z → Option (Int32 × zk_Z)) (hc18 : ∀ (a1 : Int32) (a2 : Int32) (a3 : Int32) (a4 : Int32) (z : zk_Z), c18 a1 a2 a3 a4 z = some (r, z') → zk_G p l e (headSpec wsX9_balance { frames := 2, cells := 0, slots := 0, locals := 44 }).room s m args below meth c E 8 0 0 (MQ below (zk_Qi E r z') args s 0 0 (zk_A E)) 18 [(0, .ref (E.2.1 20 0)), (1, .int a1), (2, .int a2), (3, .int a3), (4, .int a4)] [] z) (c45 : Int32 → Int32 → Int32 → Int32 → Int32 → Int32 → zk_Z → Option (Int32 × zk_Z)) (hc45 : ∀ (a1 : Int32) (a2 : Int32) (a3 : Int32) (a4 : Int32) (a5 : Int32) (a6 : Int32) (z : zk_Z), c45 a1 a2 a3 a4 a5 a6 z = some (r, z') → zk_G p l e (headSpec wsX9_balance { frames := 2, cells := 0, slots := 0, locals := 44 }).room s m args below meth c E 8 0 0 (MQ below (zk_Qi E r z') args s 0 0 (zk_A E)) 45 [(0, .ref (E.2.1 20 0)), (1, .int a1), (2, .int a2), (3, .int a3), (4, .int a4), (5, .int a5), (6, .int a6)] [] z) (a1 : Int32) (a2 : Int32) (a3 : Int32) (a4 : Int32) (a5 : Int32) (a6 : Int32) (z : zk_Z), fX9_balance_B146 c18 c45 a1 a2 a3 a4 a5 a6 z = some (r, z') → zk_G p l e (headSpec wsX9_balance { frames := 2, cells := 0, slots := 0, locals := 44 }).room s m args below meth c E 8 0 0 (MQ below (zk_Qi E r z') args s 0 0 (zk_A E)) 146 [(0, .ref (E.2.1 20 0)), (1, .int a1), (2, .int a2), (3, .int a3), (4, .int a4), (5, .int a5), (6, .int a6)] [] z := by
    intro c18 hc18 c45 hc45 a1 a2 a3 a4 a5 a6 z h
    unfold fX9_balance_B146 at h
    refine zk_iinc X (lv' := [(6, .int (a6 + 1)), (0, .ref (E.2.1 20 0)), (1, .int a1), (2, .int a2), (3, .int a3), (4, .int a4), (5, .int a5)]) 6 dX9_balance_146 rfl rfl (by decide) rfl ?_
    refine zk_goto X (tgt := 45) dX9_balance_149 (by decide) ?_
    exact zk_sub [1, 2, 3, 4, 5, 6, 0] rfl (hc45 _ _ _ _ _ _ _ h)
  have B134 : ∀ (c18 : Int32 → Int32 → Int32 → Int32 → zk_Z → Option (Int32 × zk_Z)) (hc18 : ∀ (a1 : Int32) (a2 : Int32) (a3 : Int32) (a4 : Int32) (z : zk_Z), c18 a1 a2 a3 a4 z = some (r, z') → zk_G p l e (headSpec wsX9_balance { frames := 2, cells := 0, slots := 0, locals := 44 }).room s m args below meth c E 8 0 0 (MQ below (zk_Qi E r z') args s 0 0 (zk_A E)) 18 [(0, .ref (E.2.1 20 0)), (1, .int a1), (2, .int a2), (3, .int a3), (4, .int a4)] [] z) (c45 : Int32 → Int32 → Int32 → Int32 → Int32 → Int32 → zk_Z → Option (Int32 × zk_Z)) (hc45 : ∀ (a1 : Int32) (a2 : Int32) (a3 : Int32) (a4 : Int32) (a5 : Int32) (a6 : Int32) (z : zk_Z), c45 a1 a2 a3 a4 a5 a6 z = some (r, z') → zk_G p l e (headSpec wsX9_balance { frames := 2, cells := 0, slots := 0, locals := 44 }).room s m args below meth c E 8 0 0 (MQ below (zk_Qi E r z') args s 0 0 (zk_A E)) 45 [(0, .ref (E.2.1 20 0)), (1, .int a1), (2, .int a2), (3, .int a3), (4, .int a4), (5, .int a5), (6, .int a6)] [] z) (a1 : Int32) (a4 : Int32) (a5 : Int32) (a6 : Int32) (a7 : Int32) (z : zk_Z), fX9_balance_B134 c18 c45 a1 a4 a5 a6 a7 z = some (r, z') → zk_G p l e (headSpec wsX9_balance { frames := 2, cells := 0, slots := 0, locals := 44 }).room s m args below meth c E 8 0 0 (MQ below (zk_Qi E r z') args s 0 0 (zk_A E)) 134 [(0, .ref (E.2.1 20 0)), (1, .int a1), (4, .int a4), (5, .int a5), (6, .int a6), (7, .int a7)] [] z := by
    intro c18 hc18 c45 hc45 a1 a4 a5 a6 a7 z h
    unfold fX9_balance_B134 at h
    refine zk_bipush X (v := 100) dX9_balance_134 (by decide) ?_
    refine zk_iload X 2 dX9_balance_136 rfl ?_
    refine zk_imul X dX9_balance_138 ?_
    refine zk_iload X 4 dX9_balance_139 rfl ?_
    refine zk_iadd X dX9_balance_141 ?_
    refine zk_istore_n X (lv' := [(2, .int ((100 * a4) + a6)), (0, .ref (E.2.1 20 0)), (1, .int a1), (4, .int a4), (5, .int a5), (6, .int a6), (7, .int a7)]) dX9_balance_142 rfl (by decide) rfl ?_
    refine zk_iload X 6 dX9_balance_143 rfl ?_
    refine zk_istore_n X (lv' := [(3, .int a7), (2, .int ((100 * a4) + a6)), (0, .ref (E.2.1 20 0)), (1, .int a1), (4, .int a4), (5, .int a5), (6, .int a6), (7, .int a7)]) dX9_balance_145 rfl (by decide) rfl ?_
    exact zk_sub [2, 3, 1, 0, 4, 5, 6] rfl (B146 _ hc18 _ hc45 _ _ _ _ _ _ _ h)
  have B105 : ∀ (c18 : Int32 → Int32 → Int32 → Int32 → zk_Z → Option (Int32 × zk_Z)) (hc18 : ∀ (a1 : Int32) (a2 : Int32) (a3 : Int32) (a4 : Int32) (z : zk_Z), c18 a1 a2 a3 a4 z = some (r, z') → zk_G p l e (headSpec wsX9_balance { frames := 2, cells := 0, slots := 0, locals := 44 }).room s m args below meth c E 8 0 0 (MQ below (zk_Qi E r z') args s 0 0 (zk_A E)) 18 [(0, .ref (E.2.1 20 0)), (1, .int a1), (2, .int a2), (3, .int a3), (4, .int a4)] [] z) (c45 : Int32 → Int32 → Int32 → Int32 → Int32 → Int32 → zk_Z → Option (Int32 × zk_Z)) (hc45 : ∀ (a1 : Int32) (a2 : Int32) (a3 : Int32) (a4 : Int32) (a5 : Int32) (a6 : Int32) (z : zk_Z), c45 a1 a2 a3 a4 a5 a6 z = some (r, z') → zk_G p l e (headSpec wsX9_balance { frames := 2, cells := 0, slots := 0, locals := 44 }).room s m args below meth c E 8 0 0 (MQ below (zk_Qi E r z') args s 0 0 (zk_A E)) 45 [(0, .ref (E.2.1 20 0)), (1, .int a1), (2, .int a2), (3, .int a3), (4, .int a4), (5, .int a5), (6, .int a6)] [] z) (a1 : Int32) (a2 : Int32) (a3 : Int32) (a4 : Int32) (a5 : Int32) (a6 : Int32) (s0 : Int32) (z : zk_Z), fX9_balance_B105 c18 c45 a1 a2 a3 a4 a5 a6 s0 z = some (r, z') → zk_G p l e (headSpec wsX9_balance { frames := 2, cells := 0, slots := 0, locals := 44 }).room s m args below meth c E 8 0 0 (MQ below (zk_Qi E r z') args s 0 0 (zk_A E)) 105 [(0, .ref (E.2.1 20 0)), (1, .int a1), (2, .int a2), (3, .int a3), (4, .int a4), (5, .int a5), (6, .int a6)] [.int s0] z := by
    intro c18 hc18 c45 hc45 a1 a2 a3 a4 a5 a6 s0 z h
    unfold fX9_balance_B105 at h
    refine zk_istore X (lv' := [(7, .int s0), (0, .ref (E.2.1 20 0)), (1, .int a1), (2, .int a2), (3, .int a3), (4, .int a4), (5, .int a5), (6, .int a6)]) dX9_balance_105 (by decide) rfl ?_
    refine zk_aload_n X 1 dX9_balance_107 rfl rfl ?_
    refine zk_iload_n X 2 dX9_balance_108 rfl rfl ?_
    refine zk_vi X h (fun rr zz hf => ct_X9_leanSum l E hi a1 _ rr zz hf) (cwV 1 X.1.2.2.2.2 gX9_balance_X9_leanSum rfl rfl rfl (by decide +kernel) ⟨Nat.le_of_ble_eq_true rfl, Nat.le_of_ble_eq_true rfl⟩) (zk_recv X (g := 20) (Nat.zero_lt_one) rfl rfl) rfl rfl (Nat.le_of_ble_eq_true rfl) dX9_balance_109 (fun r6 z5 h => ?_)
    refine zk_if_ne X (tgt := 146) dX9_balance_112 (by decide) h (fun h => ?_) (fun h => ?_)
    · refine zk_aload_n X 1 dX9_balance_115 rfl rfl ?_
      refine zk_iload_n X 2 dX9_balance_116 rfl rfl ?_
      refine zk_vi X h (fun rr zz hf => ct_X9_all l E hi a1 _ rr zz hf) (cwV 1 X.1.2.2.2.2 gX9_balance_X9_all rfl rfl rfl (by decide +kernel) ⟨Nat.le_of_ble_eq_true rfl, Nat.le_of_ble_eq_true rfl⟩) (zk_recv X (g := 20) (Nat.zero_lt_one) rfl rfl) rfl rfl (Nat.le_of_ble_eq_true rfl) dX9_balance_117 (fun r8 z7 h => ?_)
      refine zk_if_eq X (tgt := 146) dX9_balance_120 (by decide) h (fun h => ?_) (fun h => ?_)
      · exact zk_sub [1, 2, 3, 4, 5, 6, 7] rfl (B146 _ hc18 _ hc45 _ _ _ _ _ _ _ h)
      · refine zk_iload_n X 3 dX9_balance_123 rfl rfl ?_
        refine zk_iconst X (v := -1) dX9_balance_124 (by decide) ?_
        refine zk_icmp_eq X (tgt := 134) dX9_balance_125 (by decide) h (fun h => ?_) (fun h => ?_)
        · exact zk_sub [1, 2, 5, 6, 7, 0] rfl (B134 _ hc18 _ hc45 _ _ _ _ _ _ h)
        · refine zk_iload X 0 dX9_balance_128 rfl ?_
          refine zk_iload_n X 4 dX9_balance_130 rfl rfl ?_
          refine zk_icmp_ge X (tgt := 146) dX9_balance_131 (by decide) h (fun h => ?_) (fun h => ?_)
          · exact zk_sub [1, 2, 3, 4, 5, 6, 7] rfl (B146 _ hc18 _ hc45 _ _ _ _ _ _ _ h)
          · exact zk_sub [1, 2, 5, 6, 7, 0] rfl (B134 _ hc18 _ hc45 _ _ _ _ _ _ h)
    · exact zk_sub [1, 2, 3, 4, 5, 6, 7] rfl (B146 _ hc18 _ hc45 _ _ _ _ _ _ _ h)
  have L45 : ∀ (c18 : Int32 → Int32 → Int32 → Int32 → zk_Z → Option (Int32 × zk_Z)) (hc18 : ∀ (a1 : Int32) (a2 : Int32) (a3 : Int32) (a4 : Int32) (z : zk_Z), c18 a1 a2 a3 a4 z = some (r, z') → zk_G p l e (headSpec wsX9_balance { frames := 2, cells := 0, slots := 0, locals := 44 }).room s m args below meth c E 8 0 0 (MQ below (zk_Qi E r z') args s 0 0 (zk_A E)) 18 [(0, .ref (E.2.1 20 0)), (1, .int a1), (2, .int a2), (3, .int a3), (4, .int a4)] [] z) (n : Nat) (a1 : Int32) (a2 : Int32) (a3 : Int32) (a4 : Int32) (a5 : Int32) (a6 : Int32) (z : zk_Z), fX9_balance_L45 c18 n a1 a2 a3 a4 a5 a6 z = some (r, z') → zk_G p l e (headSpec wsX9_balance { frames := 2, cells := 0, slots := 0, locals := 44 }).room s m args below meth c E 8 0 0 (MQ below (zk_Qi E r z') args s 0 0 (zk_A E)) 45 [(0, .ref (E.2.1 20 0)), (1, .int a1), (2, .int a2), (3, .int a3), (4, .int a4), (5, .int a5), (6, .int a6)] [] z := by
    intro c18 hc18 n
    induction n with
    | zero => intro a1 a2 a3 a4 a5 a6 z h; exact absurd h (by simp [fX9_balance_L45])
    | succ n ih =>
      intro a1 a2 a3 a4 a5 a6 z h
      rw [fX9_balance_L45] at h
      refine zk_iload X 6 dX9_balance_45 rfl ?_
      refine zk_bipush X (v := 100) dX9_balance_47 (by decide) ?_
      refine zk_icmp_ge X (tgt := 152) dX9_balance_49 (by decide) h (fun h => ?_) (fun h => ?_)
      · exact zk_sub [0, 1, 2, 3, 4, 5] rfl (B152 _ hc18 _ _ _ _ _ _ h)
      · refine zk_aload_n X 0 dX9_balance_52 rfl rfl ?_
        refine zk_get X iX9 (g := 20) (Nat.zero_lt_one) rfl rfl 3 (by decide) w2 rfl dX9_balance_53 ?_
        refine zk_iload_n X 1 dX9_balance_56 rfl rfl ?_
        refine zk_iald X (g := 22) (Nat.zero_lt_one) rfl dX9_balance_57 h (fun h => ?_)
        refine zk_iload X 4 dX9_balance_58 rfl ?_
        refine zk_aload_n X 0 dX9_balance_60 rfl rfl ?_
        refine zk_get X iX9 (g := 20) (Nat.zero_lt_one) rfl rfl 6 (by decide) w0 rfl dX9_balance_61 ?_
        refine zk_iload_n X 1 dX9_balance_64 rfl rfl ?_
        refine zk_iald X (g := 25) (Nat.zero_lt_one) rfl dX9_balance_65 h (fun h => ?_)
        refine zk_si X h (fun rr zz hf => ct_X9_holds l E hi (z.1 22 0 a1.toNatClampNeg) a4 (z.1 25 0 a1.toNatClampNeg) _ rr zz hf) (va_cwS 3 X.1.2.2.2.2 gX9_balance_X9_holds rfl rfl rfl (by decide +kernel) ⟨Nat.le_of_ble_eq_true rfl, Nat.le_of_ble_eq_true rfl⟩) rfl rfl (Nat.le_of_ble_eq_true rfl) dX9_balance_66 (fun r4 z3 h => ?_)
        refine zk_if_eq X (tgt := 152) dX9_balance_69 (by decide) h (fun h => ?_) (fun h => ?_)
        · exact zk_sub [0, 1, 2, 3, 4, 5] rfl (B152 _ hc18 _ _ _ _ _ _ h)
        · refine zk_aload_n X 0 dX9_balance_72 rfl rfl ?_
          refine zk_get X iX9 (g := 20) (Nat.zero_lt_one) rfl rfl 7 (by decide) w1 rfl dX9_balance_73 ?_
          refine zk_iconst X (v := 4) dX9_balance_76 (by decide) ?_
          refine zk_iload_n X 1 dX9_balance_77 rfl rfl ?_
          refine zk_imul X dX9_balance_78 ?_
          refine zk_iload X 4 dX9_balance_79 rfl ?_
          refine zk_iadd X dX9_balance_81 ?_
          refine zk_iload X 6 dX9_balance_82 rfl ?_
          refine zk_iast X (g := 26) (Nat.zero_lt_one) rfl rfl dX9_balance_84 h (fun h => ?_)
          refine zk_iload X 6 dX9_balance_85 rfl ?_
          refine zk_iload X 5 dX9_balance_87 rfl ?_
          refine zk_icmp_ge X (tgt := 100) dX9_balance_89 (by decide) h (fun h => ?_) (fun h => ?_)
          · refine zk_iload X 6 dX9_balance_100 rfl ?_
            refine zk_iload X 5 dX9_balance_102 rfl ?_
            refine zk_isub X dX9_balance_104 ?_
            exact zk_sub [0, 1, 2, 3, 4, 5, 6] rfl (B105 _ hc18 _ ih _ _ _ _ _ _ _ _ h)
          · refine zk_iload X 5 dX9_balance_92 rfl ?_
            refine zk_iload X 6 dX9_balance_94 rfl ?_
            refine zk_isub X dX9_balance_96 ?_
            refine zk_goto X (tgt := 105) dX9_balance_97 (by decide) ?_
            exact zk_sub [0, 1, 2, 3, 4, 5, 6] rfl (B105 _ hc18 _ ih _ _ _ _ _ _ _ _ h)
  have L18 : ∀ (n : Nat) (a1 : Int32) (a2 : Int32) (a3 : Int32) (a4 : Int32) (z : zk_Z), fX9_balance_L18 n a1 a2 a3 a4 z = some (r, z') → zk_G p l e (headSpec wsX9_balance { frames := 2, cells := 0, slots := 0, locals := 44 }).room s m args below meth c E 8 0 0 (MQ below (zk_Qi E r z') args s 0 0 (zk_A E)) 18 [(0, .ref (E.2.1 20 0)), (1, .int a1), (2, .int a2), (3, .int a3), (4, .int a4)] [] z := by
    intro n
    induction n with
    | zero => intro a1 a2 a3 a4 z h; exact absurd h (by simp [fX9_balance_L18])
    | succ n ih =>
      intro a1 a2 a3 a4 z h
      rw [fX9_balance_L18] at h
      refine zk_iload X 4 dX9_balance_18 rfl ?_
      refine zk_aload_n X 0 dX9_balance_20 rfl rfl ?_
      refine zk_get X iX9 (g := 20) (Nat.zero_lt_one) rfl rfl 6 (by decide) w0 rfl dX9_balance_21 ?_
      refine zk_iload_n X 1 dX9_balance_24 rfl rfl ?_
      refine zk_iald X (g := 25) (Nat.zero_lt_one) rfl dX9_balance_25 h (fun h => ?_)
      refine zk_icmp_gt X (tgt := 171) dX9_balance_26 (by decide) h (fun h => ?_) (fun h => ?_)
      · refine zk_iload_n X 2 dX9_balance_171 rfl rfl ?_
        exact zk_ireturn X hr dX9_balance_172 h
      · refine zk_aload_n X 0 dX9_balance_29 rfl rfl ?_
        refine zk_get X iX9 (g := 20) (Nat.zero_lt_one) rfl rfl 7 (by decide) w1 rfl dX9_balance_30 ?_
        refine zk_iconst X (v := 4) dX9_balance_33 (by decide) ?_
        refine zk_iload_n X 1 dX9_balance_34 rfl rfl ?_
        refine zk_imul X dX9_balance_35 ?_
        refine zk_iload X 4 dX9_balance_36 rfl ?_
        refine zk_iadd X dX9_balance_38 ?_
        refine zk_iald X (g := 26) (Nat.zero_lt_one) rfl dX9_balance_39 h (fun h => ?_)
        refine zk_istore X (lv' := [(5, .int (z.1 26 0 ((4 * a1) + a4).toNatClampNeg)), (0, .ref (E.2.1 20 0)), (1, .int a1), (2, .int a2), (3, .int a3), (4, .int a4)]) dX9_balance_40 (by decide) rfl ?_
        refine zk_iconst X (v := 0) dX9_balance_42 (by decide) ?_
        refine zk_istore X (lv' := [(6, .int 0), (5, .int (z.1 26 0 ((4 * a1) + a4).toNatClampNeg)), (0, .ref (E.2.1 20 0)), (1, .int a1), (2, .int a2), (3, .int a3), (4, .int a4)]) dX9_balance_43 (by decide) rfl ?_
        exact zk_sub [2, 3, 4, 5, 6, 1, 0] rfl (L45 _ ih _ _ _ _ _ _ _ _ h)
  unfold fX9_balance at h
  refine zk_aload_n X 0 dX9_balance_0 rfl rfl ?_
  refine zk_iload_n X 1 dX9_balance_1 rfl rfl ?_
  refine zk_vi X h (fun rr zz hf => ct_X9_isRecipe l E hi  x1 _ rr zz hf) (cwV 1 X.1.2.2.2.2 gX9_balance_X9_isRecipe rfl rfl rfl (by decide +kernel) ⟨Nat.le_of_ble_eq_true rfl, Nat.le_of_ble_eq_true rfl⟩) (zk_recv X (g := 20) (Nat.zero_lt_one) rfl rfl) rfl rfl (Nat.le_of_ble_eq_true rfl) dX9_balance_2 (fun r2 z1 h => ?_)
  refine zk_if_ne X (tgt := 11) dX9_balance_5 (by decide) h (fun h => ?_) (fun h => ?_)
  · refine zk_bipush X (v := -5) dX9_balance_8 (by decide) ?_
    exact zk_ireturn X hr dX9_balance_10 h
  · refine zk_iconst X (v := -1) dX9_balance_11 (by decide) ?_
    refine zk_istore_n X (lv' := [(2, .int (-1)), (0, .ref (E.2.1 20 0)), (1, .int x1)]) dX9_balance_12 rfl (by decide) rfl ?_
    refine zk_iconst X (v := 0) dX9_balance_13 (by decide) ?_
    refine zk_istore_n X (lv' := [(3, .int 0), (2, .int (-1)), (0, .ref (E.2.1 20 0)), (1, .int x1)]) dX9_balance_14 rfl (by decide) rfl ?_
    refine zk_iconst X (v := 0) dX9_balance_15 (by decide) ?_
    refine zk_istore X (lv' := [(4, .int 0), (3, .int 0), (2, .int (-1)), (0, .ref (E.2.1 20 0)), (1, .int x1)]) dX9_balance_16 (by decide) rfl ?_
    exact zk_sub [3, 4, 2, 1, 0] rfl (L18  _ _ _ _ _ _ h)
def fX9_here (z : zk_Z) : Option (Int32 × zk_Z) := if (z.1 20 0 1) ≤ (z.1 20 0 27) then some ((-1), z) else zk_gd (zk_ix (z.1 20 0 27) 80) (some (z.1 21 0 (z.1 20 0 27).toNatClampNeg, z))
set_option maxRecDepth 100000 in
set_option maxHeartbeats 8000000 in
theorem ct_X9_here (l : Launch) (E : zk_E) (hi : zk_inj E) (z : zk_Z) (r : Int32) (z' : zk_Z) (h : fX9_here   z = some (r, z')) : Met l yX9_here wsX9_here { frames := 0, cells := 0, slots := 0, locals := 0 } (va_Pc [.ref (E.2.1 20 0)] (zk_W E z)) (zk_Qi E r z') 0 0 (zk_A E) := by
  refine zk_met (cc := cX9_here) (maxL := 1) (ret := (some .int)) (own := RX9) (by decide) rfl rfl hi (Nat.le_of_ble_eq_true rfl) ?_
  intro p e s m args below meth c X hr
  have iX9 : ∀ w ∈ u_ws RX9 TX9 32, w ∈ wsX9_here := by decide +kernel
  have w0 : Cond.fieldLink RX9 96 "HiddenWorksModel" "at" "I" ∈ wsX9_here := by decide +kernel
  have w1 : Cond.fieldLink RX9 90 "HiddenWorksModel" "taped" "I" ∈ wsX9_here := by decide +kernel
  have w2 : Cond.fieldLink RX9 7 "HiddenWorksModel" "tape" "[I" ∈ wsX9_here := by decide +kernel
  unfold fX9_here at h
  refine zk_aload_n X 0 dX9_here_0 rfl rfl ?_
  refine zk_get X iX9 (g := 20) (Nat.zero_lt_one) rfl rfl 27 (by decide) w0 rfl dX9_here_1 ?_
  refine zk_aload_n X 0 dX9_here_4 rfl rfl ?_
  refine zk_get X iX9 (g := 20) (Nat.zero_lt_one) rfl rfl 1 (by decide) w1 rfl dX9_here_5 ?_
  refine zk_icmp_ge X (tgt := 23) dX9_here_8 (by decide) h (fun h => ?_) (fun h => ?_)
  · refine zk_iconst X (v := -1) dX9_here_23 (by decide) ?_
    exact zk_ireturn X hr dX9_here_24 h
  · refine zk_aload_n X 0 dX9_here_11 rfl rfl ?_
    refine zk_get X iX9 (g := 20) (Nat.zero_lt_one) rfl rfl 0 (by decide) w2 rfl dX9_here_12 ?_
    refine zk_aload_n X 0 dX9_here_15 rfl rfl ?_
    refine zk_get X iX9 (g := 20) (Nat.zero_lt_one) rfl rfl 27 (by decide) w0 rfl dX9_here_16 ?_
    refine zk_iald X (g := 21) (Nat.zero_lt_one) rfl dX9_here_19 h (fun h => ?_)
    refine zk_goto X (tgt := 24) dX9_here_20 (by decide) ?_
    exact zk_ireturn X hr dX9_here_24 h
def fX9_blanks_L11 : Nat → zk_Z → Option (Int32 × zk_Z)
  | 0, _ => none
  | n + 1, z => zk_bd (fX9_here  z) (fun r4 z3 => if r4 = 32 then (fX9_blanks_L11 n) (zk_sI z3 20 0 27 ((z3.1 20 0 27) + 1)) else some (1, z3))
def fX9_blanks (z : zk_Z) : Option (Int32 × zk_Z) := zk_bd (fX9_here  z) (fun r2 z1 => if r2 = 32 then fX9_blanks_L11 zk_FU z1 else some (0, z1))
set_option maxRecDepth 100000 in
set_option maxHeartbeats 8000000 in
theorem ct_X9_blanks (l : Launch) (E : zk_E) (hi : zk_inj E) (z : zk_Z) (r : Int32) (z' : zk_Z) (h : fX9_blanks   z = some (r, z')) : Met l yX9_blanks wsX9_blanks { frames := 1, cells := 0, slots := 0, locals := 20 } (va_Pc [.ref (E.2.1 20 0)] (zk_W E z)) (zk_Qi E r z') 0 0 (zk_A E) := by
  refine zk_met (cc := cX9_blanks) (maxL := 1) (ret := (some .boolean)) (own := RX9) (by decide) rfl rfl hi (Nat.le_of_ble_eq_true rfl) ?_
  intro p e s m args below meth c X hr
  have iX9 : ∀ w ∈ u_ws RX9 TX9 32, w ∈ wsX9_blanks := by decide +kernel
  have w0 : Cond.fieldLink RX9 96 "HiddenWorksModel" "at" "I" ∈ wsX9_blanks := by decide +kernel
  have L11 : ∀ (n : Nat) (z : zk_Z), fX9_blanks_L11 n z = some (r, z') → zk_G p l e (headSpec wsX9_blanks { frames := 1, cells := 0, slots := 0, locals := 20 }).room s m args below meth c E 1 0 0 (MQ below (zk_Qi E r z') args s 0 0 (zk_A E)) 11 [(0, .ref (E.2.1 20 0))] [] z := by
    intro n
    induction n with
    | zero => intro z h; exact absurd h (by simp [fX9_blanks_L11])
    | succ n ih =>
      intro z h
      rw [fX9_blanks_L11] at h
      refine zk_aload_n X 0 dX9_blanks_11 rfl rfl ?_
      refine zk_vi X h (fun rr zz hf => ct_X9_here l E hi _ rr zz hf) (cwV 0 X.1.2.2.2.2 gX9_blanks_X9_here rfl rfl rfl (by decide +kernel) ⟨Nat.le_of_ble_eq_true rfl, Nat.le_of_ble_eq_true rfl⟩) (zk_recv X (g := 20) (Nat.zero_lt_one) rfl rfl) rfl rfl (Nat.le_of_ble_eq_true rfl) dX9_blanks_12 (fun r4 z3 h => ?_)
      refine zk_bipush X (v := 32) dX9_blanks_15 (by decide) ?_
      refine zk_icmp_ne X (tgt := 33) dX9_blanks_17 (by decide) h (fun h => ?_) (fun h => ?_)
      · refine zk_aload_n X 0 dX9_blanks_20 rfl rfl ?_
        refine zk_dup X dX9_blanks_21 rfl ?_
        refine zk_get X iX9 (g := 20) (Nat.zero_lt_one) rfl rfl 27 (by decide) w0 rfl dX9_blanks_22 ?_
        refine zk_iconst X (v := 1) dX9_blanks_25 (by decide) ?_
        refine zk_iadd X dX9_blanks_26 ?_
        refine zk_putI X (ty := .int) iX9 tyX9 tyX9_ok nmX9 (g := 20) (Nat.zero_lt_one) rfl rfl 27 (by decide) w0 rfl (by decide +kernel) rfl rfl (Nat.le_of_ble_eq_true rfl) rfl dX9_blanks_27 ?_
        refine zk_goto X (tgt := 11) dX9_blanks_30 (by decide) ?_
        exact zk_sub [0] rfl (ih _ h)
      · refine zk_iconst X (v := 1) dX9_blanks_33 (by decide) ?_
        exact zk_zreturn X hr dX9_blanks_34 rfl h
  unfold fX9_blanks at h
  refine zk_aload_n X 0 dX9_blanks_0 rfl rfl ?_
  refine zk_vi X h (fun rr zz hf => ct_X9_here l E hi   _ rr zz hf) (cwV 0 X.1.2.2.2.2 gX9_blanks_X9_here rfl rfl rfl (by decide +kernel) ⟨Nat.le_of_ble_eq_true rfl, Nat.le_of_ble_eq_true rfl⟩) (zk_recv X (g := 20) (Nat.zero_lt_one) rfl rfl) rfl rfl (Nat.le_of_ble_eq_true rfl) dX9_blanks_1 (fun r2 z1 h => ?_)
  refine zk_bipush X (v := 32) dX9_blanks_4 (by decide) ?_
  refine zk_icmp_eq X (tgt := 11) dX9_blanks_6 (by decide) h (fun h => ?_) (fun h => ?_)
  · exact zk_sub [0] rfl (L11  _  _ h)
  · refine zk_iconst X (v := 0) dX9_blanks_9 (by decide) ?_
    exact zk_zreturn X hr dX9_blanks_10 rfl h
def fX9_cell_B84 (s0 : Int32) (s1 : Int32) (z : zk_Z) : Option (Int32 × zk_Z) := zk_gd (zk_ix s1 160) (some (1, zk_sI z 41 0 s1.toNatClampNeg s0))
def fX9_cell (x1 : Int32) (x2 : Int32) (x3 : Int32) (z : zk_Z) : Option (Int32 × zk_Z) := zk_bd (fX9_in x1 0 3 z) (fun r2 z1 => if r2 = 0 then some ((-2), z1) else zk_gd (zk_ix x1 4) (if (z1.1 39 0 x1.toNatClampNeg) = (-1) then some ((-11), z1) else zk_gd (zk_ix x1 4) (zk_bd (fX9_in x2 0 ((z1.1 40 0 x1.toNatClampNeg) - 1) z1) (fun r4 z3 => if r4 = 0 then some ((-12), z3) else zk_gd (zk_ix x1 4) (if (z3.1 39 0 x1.toNatClampNeg) = 0 then fX9_cell_B84 x3.toInt8.toInt32 ((40 * x1) + x2) z3 else zk_gd (zk_ix x1 4) (if (z3.1 39 0 x1.toNatClampNeg) = 1 then fX9_cell_B84 x3.toInt16.toInt32 ((40 * x1) + x2) z3 else fX9_cell_B84 x3 ((40 * x1) + x2) z3))))))
set_option maxRecDepth 100000 in
set_option maxHeartbeats 8000000 in
theorem ct_X9_cell (l : Launch) (E : zk_E) (hi : zk_inj E) (x1 : Int32) (x2 : Int32) (x3 : Int32) (z : zk_Z) (r : Int32) (z' : zk_Z) (h : fX9_cell  x1 x2 x3 z = some (r, z')) : Met l yX9_cell wsX9_cell { frames := 1, cells := 0, slots := 0, locals := 22 } (va_Pc [.ref (E.2.1 20 0), .int x1, .int x2, .int x3] (zk_W E z)) (zk_Qi E r z') 0 0 (zk_A E) := by
  refine zk_met (cc := cX9_cell) (maxL := 4) (ret := (some .int)) (own := RX9) (by decide) rfl rfl hi (Nat.le_of_ble_eq_true rfl) ?_
  intro p e s m args below meth c X hr
  have iX9 : ∀ w ∈ u_ws RX9 TX9 32, w ∈ wsX9_cell := by decide +kernel
  have w0 : Cond.fieldLink RX9 64 "HiddenWorksModel" "sheetSort" "[I" ∈ wsX9_cell := by decide +kernel
  have w1 : Cond.fieldLink RX9 67 "HiddenWorksModel" "sheetSize" "[I" ∈ wsX9_cell := by decide +kernel
  have w2 : Cond.fieldLink RX9 70 "HiddenWorksModel" "cells" "[I" ∈ wsX9_cell := by decide +kernel
  have B84 : ∀ (s0 : Int32) (s1 : Int32) (z : zk_Z), fX9_cell_B84 s0 s1 z = some (r, z') → zk_G p l e (headSpec wsX9_cell { frames := 1, cells := 0, slots := 0, locals := 22 }).room s m args below meth c E 4 0 0 (MQ below (zk_Qi E r z') args s 0 0 (zk_A E)) 84 [] [.int s0, .int s1, .ref (E.2.1 41 0)] z := by
    intro s0 s1 z h
    unfold fX9_cell_B84 at h
    refine zk_iast X (g := 41) (Nat.zero_lt_one) rfl rfl dX9_cell_84 h (fun h => ?_)
    refine zk_iconst X (v := 1) dX9_cell_85 (by decide) ?_
    exact zk_ireturn X hr dX9_cell_86 h
  unfold fX9_cell at h
  refine zk_iload_n X 1 dX9_cell_0 rfl rfl ?_
  refine zk_iconst X (v := 0) dX9_cell_1 (by decide) ?_
  refine zk_iconst X (v := 3) dX9_cell_2 (by decide) ?_
  refine zk_si X h (fun rr zz hf => ct_X9_in l E hi  x1 0 3 _ rr zz hf) (va_cwS 3 X.1.2.2.2.2 gX9_cell_X9_in rfl rfl rfl (by decide +kernel) ⟨Nat.le_of_ble_eq_true rfl, Nat.le_of_ble_eq_true rfl⟩) rfl rfl (Nat.le_of_ble_eq_true rfl) dX9_cell_3 (fun r2 z1 h => ?_)
  refine zk_if_ne X (tgt := 12) dX9_cell_6 (by decide) h (fun h => ?_) (fun h => ?_)
  · refine zk_bipush X (v := -2) dX9_cell_9 (by decide) ?_
    exact zk_ireturn X hr dX9_cell_11 h
  · refine zk_aload_n X 0 dX9_cell_12 rfl rfl ?_
    refine zk_get X iX9 (g := 20) (Nat.zero_lt_one) rfl rfl 24 (by decide) w0 rfl dX9_cell_13 ?_
    refine zk_iload_n X 1 dX9_cell_16 rfl rfl ?_
    refine zk_iald X (g := 39) (Nat.zero_lt_one) rfl dX9_cell_17 h (fun h => ?_)
    refine zk_iconst X (v := -1) dX9_cell_18 (by decide) ?_
    refine zk_icmp_ne X (tgt := 25) dX9_cell_19 (by decide) h (fun h => ?_) (fun h => ?_)
    · refine zk_bipush X (v := -11) dX9_cell_22 (by decide) ?_
      exact zk_ireturn X hr dX9_cell_24 h
    · refine zk_iload_n X 2 dX9_cell_25 rfl rfl ?_
      refine zk_iconst X (v := 0) dX9_cell_26 (by decide) ?_
      refine zk_aload_n X 0 dX9_cell_27 rfl rfl ?_
      refine zk_get X iX9 (g := 20) (Nat.zero_lt_one) rfl rfl 25 (by decide) w1 rfl dX9_cell_28 ?_
      refine zk_iload_n X 1 dX9_cell_31 rfl rfl ?_
      refine zk_iald X (g := 40) (Nat.zero_lt_one) rfl dX9_cell_32 h (fun h => ?_)
      refine zk_iconst X (v := 1) dX9_cell_33 (by decide) ?_
      refine zk_isub X dX9_cell_34 ?_
      refine zk_si X h (fun rr zz hf => ct_X9_in l E hi  x2 0 ((z1.1 40 0 x1.toNatClampNeg) - 1) _ rr zz hf) (va_cwS 3 X.1.2.2.2.2 gX9_cell_X9_in rfl rfl rfl (by decide +kernel) ⟨Nat.le_of_ble_eq_true rfl, Nat.le_of_ble_eq_true rfl⟩) rfl rfl (Nat.le_of_ble_eq_true rfl) dX9_cell_35 (fun r4 z3 h => ?_)
      refine zk_if_ne X (tgt := 44) dX9_cell_38 (by decide) h (fun h => ?_) (fun h => ?_)
      · refine zk_bipush X (v := -12) dX9_cell_41 (by decide) ?_
        exact zk_ireturn X hr dX9_cell_43 h
      · refine zk_aload_n X 0 dX9_cell_44 rfl rfl ?_
        refine zk_get X iX9 (g := 20) (Nat.zero_lt_one) rfl rfl 26 (by decide) w2 rfl dX9_cell_45 ?_
        refine zk_bipush X (v := 40) dX9_cell_48 (by decide) ?_
        refine zk_iload_n X 1 dX9_cell_50 rfl rfl ?_
        refine zk_imul X dX9_cell_51 ?_
        refine zk_iload_n X 2 dX9_cell_52 rfl rfl ?_
        refine zk_iadd X dX9_cell_53 ?_
        refine zk_aload_n X 0 dX9_cell_54 rfl rfl ?_
        refine zk_get X iX9 (g := 20) (Nat.zero_lt_one) rfl rfl 24 (by decide) w0 rfl dX9_cell_55 ?_
        refine zk_iload_n X 1 dX9_cell_58 rfl rfl ?_
        refine zk_iald X (g := 39) (Nat.zero_lt_one) rfl dX9_cell_59 h (fun h => ?_)
        refine zk_if_ne X (tgt := 68) dX9_cell_60 (by decide) h (fun h => ?_) (fun h => ?_)
        · refine zk_iload_n X 3 dX9_cell_63 rfl rfl ?_
          refine zk_i2b X dX9_cell_64 ?_
          refine zk_goto X (tgt := 84) dX9_cell_65 (by decide) ?_
          exact zk_sub [] rfl (B84  _ _ _ h)
        · refine zk_aload_n X 0 dX9_cell_68 rfl rfl ?_
          refine zk_get X iX9 (g := 20) (Nat.zero_lt_one) rfl rfl 24 (by decide) w0 rfl dX9_cell_69 ?_
          refine zk_iload_n X 1 dX9_cell_72 rfl rfl ?_
          refine zk_iald X (g := 39) (Nat.zero_lt_one) rfl dX9_cell_73 h (fun h => ?_)
          refine zk_iconst X (v := 1) dX9_cell_74 (by decide) ?_
          refine zk_icmp_ne X (tgt := 83) dX9_cell_75 (by decide) h (fun h => ?_) (fun h => ?_)
          · refine zk_iload_n X 3 dX9_cell_78 rfl rfl ?_
            refine zk_i2s X dX9_cell_79 ?_
            refine zk_goto X (tgt := 84) dX9_cell_80 (by decide) ?_
            exact zk_sub [] rfl (B84  _ _ _ h)
          · refine zk_iload_n X 3 dX9_cell_83 rfl rfl ?_
            exact zk_sub [] rfl (B84  _ _ _ h)
def fX9_claim (x1 : Int32) (x2 : Int32) (z : zk_Z) : Option (Int32 × zk_Z) := zk_bd (fX9_isTask x1 z) (fun r2 z1 => if r2 = 0 then some ((-1), z1) else zk_bd (fX9_in x2 1 2000 z1) (fun r4 z3 => if r4 = 0 then some ((-2), z3) else if (z3.1 20 0 17) = 20 then some ((-4), z3) else zk_gd (zk_ix (z3.1 20 0 17) 20) (zk_gd (zk_ix ((zk_sI z3 35 0 (z3.1 20 0 17).toNatClampNeg x1).1 20 0 17) 20) (zk_gd (zk_ix ((zk_sI (zk_sI z3 35 0 (z3.1 20 0 17).toNatClampNeg x1) 36 0 ((zk_sI z3 35 0 (z3.1 20 0 17).toNatClampNeg x1).1 20 0 17).toNatClampNeg x2).1 20 0 17) 20) (zk_gd (zk_ix ((zk_sI (zk_sI (zk_sI z3 35 0 (z3.1 20 0 17).toNatClampNeg x1) 36 0 ((zk_sI z3 35 0 (z3.1 20 0 17).toNatClampNeg x1).1 20 0 17).toNatClampNeg x2) 37 0 ((zk_sI (zk_sI z3 35 0 (z3.1 20 0 17).toNatClampNeg x1) 36 0 ((zk_sI z3 35 0 (z3.1 20 0 17).toNatClampNeg x1).1 20 0 17).toNatClampNeg x2).1 20 0 17).toNatClampNeg 0).1 20 0 17) 20) (some (((zk_sI (zk_sI (zk_sI (zk_sI (zk_sI z3 35 0 (z3.1 20 0 17).toNatClampNeg x1) 36 0 ((zk_sI z3 35 0 (z3.1 20 0 17).toNatClampNeg x1).1 20 0 17).toNatClampNeg x2) 37 0 ((zk_sI (zk_sI z3 35 0 (z3.1 20 0 17).toNatClampNeg x1) 36 0 ((zk_sI z3 35 0 (z3.1 20 0 17).toNatClampNeg x1).1 20 0 17).toNatClampNeg x2).1 20 0 17).toNatClampNeg 0) 38 0 ((zk_sI (zk_sI (zk_sI z3 35 0 (z3.1 20 0 17).toNatClampNeg x1) 36 0 ((zk_sI z3 35 0 (z3.1 20 0 17).toNatClampNeg x1).1 20 0 17).toNatClampNeg x2) 37 0 ((zk_sI (zk_sI z3 35 0 (z3.1 20 0 17).toNatClampNeg x1) 36 0 ((zk_sI z3 35 0 (z3.1 20 0 17).toNatClampNeg x1).1 20 0 17).toNatClampNeg x2).1 20 0 17).toNatClampNeg 0).1 20 0 17).toNatClampNeg (-1)) 20 0 17 (((zk_sI (zk_sI (zk_sI (zk_sI z3 35 0 (z3.1 20 0 17).toNatClampNeg x1) 36 0 ((zk_sI z3 35 0 (z3.1 20 0 17).toNatClampNeg x1).1 20 0 17).toNatClampNeg x2) 37 0 ((zk_sI (zk_sI z3 35 0 (z3.1 20 0 17).toNatClampNeg x1) 36 0 ((zk_sI z3 35 0 (z3.1 20 0 17).toNatClampNeg x1).1 20 0 17).toNatClampNeg x2).1 20 0 17).toNatClampNeg 0) 38 0 ((zk_sI (zk_sI (zk_sI z3 35 0 (z3.1 20 0 17).toNatClampNeg x1) 36 0 ((zk_sI z3 35 0 (z3.1 20 0 17).toNatClampNeg x1).1 20 0 17).toNatClampNeg x2) 37 0 ((zk_sI (zk_sI z3 35 0 (z3.1 20 0 17).toNatClampNeg x1) 36 0 ((zk_sI z3 35 0 (z3.1 20 0 17).toNatClampNeg x1).1 20 0 17).toNatClampNeg x2).1 20 0 17).toNatClampNeg 0).1 20 0 17).toNatClampNeg (-1)).1 20 0 17) + 1)).1 20 0 17) - 1, zk_sI (zk_sI (zk_sI (zk_sI (zk_sI z3 35 0 (z3.1 20 0 17).toNatClampNeg x1) 36 0 ((zk_sI z3 35 0 (z3.1 20 0 17).toNatClampNeg x1).1 20 0 17).toNatClampNeg x2) 37 0 ((zk_sI (zk_sI z3 35 0 (z3.1 20 0 17).toNatClampNeg x1) 36 0 ((zk_sI z3 35 0 (z3.1 20 0 17).toNatClampNeg x1).1 20 0 17).toNatClampNeg x2).1 20 0 17).toNatClampNeg 0) 38 0 ((zk_sI (zk_sI (zk_sI z3 35 0 (z3.1 20 0 17).toNatClampNeg x1) 36 0 ((zk_sI z3 35 0 (z3.1 20 0 17).toNatClampNeg x1).1 20 0 17).toNatClampNeg x2) 37 0 ((zk_sI (zk_sI z3 35 0 (z3.1 20 0 17).toNatClampNeg x1) 36 0 ((zk_sI z3 35 0 (z3.1 20 0 17).toNatClampNeg x1).1 20 0 17).toNatClampNeg x2).1 20 0 17).toNatClampNeg 0).1 20 0 17).toNatClampNeg (-1)) 20 0 17 (((zk_sI (zk_sI (zk_sI (zk_sI z3 35 0 (z3.1 20 0 17).toNatClampNeg x1) 36 0 ((zk_sI z3 35 0 (z3.1 20 0 17).toNatClampNeg x1).1 20 0 17).toNatClampNeg x2) 37 0 ((zk_sI (zk_sI z3 35 0 (z3.1 20 0 17).toNatClampNeg x1) 36 0 ((zk_sI z3 35 0 (z3.1 20 0 17).toNatClampNeg x1).1 20 0 17).toNatClampNeg x2).1 20 0 17).toNatClampNeg 0) 38 0 ((zk_sI (zk_sI (zk_sI z3 35 0 (z3.1 20 0 17).toNatClampNeg x1) 36 0 ((zk_sI z3 35 0 (z3.1 20 0 17).toNatClampNeg x1).1 20 0 17).toNatClampNeg x2) 37 0 ((zk_sI (zk_sI z3 35 0 (z3.1 20 0 17).toNatClampNeg x1) 36 0 ((zk_sI z3 35 0 (z3.1 20 0 17).toNatClampNeg x1).1 20 0 17).toNatClampNeg x2).1 20 0 17).toNatClampNeg 0).1 20 0 17).toNatClampNeg (-1)).1 20 0 17) + 1))))))))
set_option maxRecDepth 100000 in
set_option maxHeartbeats 8000000 in
theorem ct_X9_claim (l : Launch) (E : zk_E) (hi : zk_inj E) (x1 : Int32) (x2 : Int32) (z : zk_Z) (r : Int32) (z' : zk_Z) (h : fX9_claim  x1 x2 z = some (r, z')) : Met l yX9_claim wsX9_claim { frames := 2, cells := 0, slots := 0, locals := 43 } (va_Pc [.ref (E.2.1 20 0), .int x1, .int x2] (zk_W E z)) (zk_Qi E r z') 0 0 (zk_A E) := by
  refine zk_met (cc := cX9_claim) (maxL := 3) (ret := (some .int)) (own := RX9) (by decide) rfl rfl hi (Nat.le_of_ble_eq_true rfl) ?_
  intro p e s m args below meth c X hr
  have iX9 : ∀ w ∈ u_ws RX9 TX9 32, w ∈ wsX9_claim := by decide +kernel
  have w0 : Cond.fieldLink RX9 230 "HiddenWorksModel" "claims" "I" ∈ wsX9_claim := by decide +kernel
  have w1 : Cond.fieldLink RX9 52 "HiddenWorksModel" "claimTask" "[I" ∈ wsX9_claim := by decide +kernel
  have w2 : Cond.fieldLink RX9 55 "HiddenWorksModel" "claimSteps" "[I" ∈ wsX9_claim := by decide +kernel
  have w3 : Cond.fieldLink RX9 58 "HiddenWorksModel" "claimState" "[I" ∈ wsX9_claim := by decide +kernel
  have w4 : Cond.fieldLink RX9 61 "HiddenWorksModel" "claimBy" "[I" ∈ wsX9_claim := by decide +kernel
  unfold fX9_claim at h
  refine zk_aload_n X 0 dX9_claim_0 rfl rfl ?_
  refine zk_iload_n X 1 dX9_claim_1 rfl rfl ?_
  refine zk_vi X h (fun rr zz hf => ct_X9_isTask l E hi  x1 _ rr zz hf) (cwV 1 X.1.2.2.2.2 gX9_claim_X9_isTask rfl rfl rfl (by decide +kernel) ⟨Nat.le_of_ble_eq_true rfl, Nat.le_of_ble_eq_true rfl⟩) (zk_recv X (g := 20) (Nat.zero_lt_one) rfl rfl) rfl rfl (Nat.le_of_ble_eq_true rfl) dX9_claim_2 (fun r2 z1 h => ?_)
  refine zk_if_ne X (tgt := 10) dX9_claim_5 (by decide) h (fun h => ?_) (fun h => ?_)
  · refine zk_iconst X (v := -1) dX9_claim_8 (by decide) ?_
    exact zk_ireturn X hr dX9_claim_9 h
  · refine zk_iload_n X 2 dX9_claim_10 rfl rfl ?_
    refine zk_iconst X (v := 1) dX9_claim_11 (by decide) ?_
    refine zk_sipush X (v := 2000) dX9_claim_12 (by decide) ?_
    refine zk_si X h (fun rr zz hf => ct_X9_in l E hi  x2 1 2000 _ rr zz hf) (va_cwS 3 X.1.2.2.2.2 gX9_claim_X9_in rfl rfl rfl (by decide +kernel) ⟨Nat.le_of_ble_eq_true rfl, Nat.le_of_ble_eq_true rfl⟩) rfl rfl (Nat.le_of_ble_eq_true rfl) dX9_claim_15 (fun r4 z3 h => ?_)
    refine zk_if_ne X (tgt := 24) dX9_claim_18 (by decide) h (fun h => ?_) (fun h => ?_)
    · refine zk_bipush X (v := -2) dX9_claim_21 (by decide) ?_
      exact zk_ireturn X hr dX9_claim_23 h
    · refine zk_aload_n X 0 dX9_claim_24 rfl rfl ?_
      refine zk_get X iX9 (g := 20) (Nat.zero_lt_one) rfl rfl 17 (by decide) w0 rfl dX9_claim_25 ?_
      refine zk_bipush X (v := 20) dX9_claim_28 (by decide) ?_
      refine zk_icmp_ne X (tgt := 36) dX9_claim_30 (by decide) h (fun h => ?_) (fun h => ?_)
      · refine zk_bipush X (v := -4) dX9_claim_33 (by decide) ?_
        exact zk_ireturn X hr dX9_claim_35 h
      · refine zk_aload_n X 0 dX9_claim_36 rfl rfl ?_
        refine zk_get X iX9 (g := 20) (Nat.zero_lt_one) rfl rfl 18 (by decide) w1 rfl dX9_claim_37 ?_
        refine zk_aload_n X 0 dX9_claim_40 rfl rfl ?_
        refine zk_get X iX9 (g := 20) (Nat.zero_lt_one) rfl rfl 17 (by decide) w0 rfl dX9_claim_41 ?_
        refine zk_iload_n X 1 dX9_claim_44 rfl rfl ?_
        refine zk_iast X (g := 35) (Nat.zero_lt_one) rfl rfl dX9_claim_45 h (fun h => ?_)
        refine zk_aload_n X 0 dX9_claim_46 rfl rfl ?_
        refine zk_get X iX9 (g := 20) (Nat.zero_lt_one) rfl rfl 19 (by decide) w2 rfl dX9_claim_47 ?_
        refine zk_aload_n X 0 dX9_claim_50 rfl rfl ?_
        refine zk_get X iX9 (g := 20) (Nat.zero_lt_one) rfl rfl 17 (by decide) w0 rfl dX9_claim_51 ?_
        refine zk_iload_n X 2 dX9_claim_54 rfl rfl ?_
        refine zk_iast X (g := 36) (Nat.zero_lt_one) rfl rfl dX9_claim_55 h (fun h => ?_)
        refine zk_aload_n X 0 dX9_claim_56 rfl rfl ?_
        refine zk_get X iX9 (g := 20) (Nat.zero_lt_one) rfl rfl 20 (by decide) w3 rfl dX9_claim_57 ?_
        refine zk_aload_n X 0 dX9_claim_60 rfl rfl ?_
        refine zk_get X iX9 (g := 20) (Nat.zero_lt_one) rfl rfl 17 (by decide) w0 rfl dX9_claim_61 ?_
        refine zk_iconst X (v := 0) dX9_claim_64 (by decide) ?_
        refine zk_iast X (g := 37) (Nat.zero_lt_one) rfl rfl dX9_claim_65 h (fun h => ?_)
        refine zk_aload_n X 0 dX9_claim_66 rfl rfl ?_
        refine zk_get X iX9 (g := 20) (Nat.zero_lt_one) rfl rfl 21 (by decide) w4 rfl dX9_claim_67 ?_
        refine zk_aload_n X 0 dX9_claim_70 rfl rfl ?_
        refine zk_get X iX9 (g := 20) (Nat.zero_lt_one) rfl rfl 17 (by decide) w0 rfl dX9_claim_71 ?_
        refine zk_iconst X (v := -1) dX9_claim_74 (by decide) ?_
        refine zk_iast X (g := 38) (Nat.zero_lt_one) rfl rfl dX9_claim_75 h (fun h => ?_)
        refine zk_aload_n X 0 dX9_claim_76 rfl rfl ?_
        refine zk_dup X dX9_claim_77 rfl ?_
        refine zk_get X iX9 (g := 20) (Nat.zero_lt_one) rfl rfl 17 (by decide) w0 rfl dX9_claim_78 ?_
        refine zk_iconst X (v := 1) dX9_claim_81 (by decide) ?_
        refine zk_iadd X dX9_claim_82 ?_
        refine zk_putI X (ty := .int) iX9 tyX9 tyX9_ok nmX9 (g := 20) (Nat.zero_lt_one) rfl rfl 17 (by decide) w0 rfl (by decide +kernel) rfl rfl (Nat.le_of_ble_eq_true rfl) rfl dX9_claim_83 ?_
        refine zk_aload_n X 0 dX9_claim_86 rfl rfl ?_
        refine zk_get X iX9 (g := 20) (Nat.zero_lt_one) rfl rfl 17 (by decide) w0 rfl dX9_claim_87 ?_
        refine zk_iconst X (v := 1) dX9_claim_90 (by decide) ?_
        refine zk_isub X dX9_claim_91 ?_
        exact zk_ireturn X hr dX9_claim_92 h
def fX9_isClaim (x1 : Int32) (z : zk_Z) : Option (Int32 × zk_Z) := zk_bd (fX9_in x1 0 ((z.1 20 0 17) - 1) z) (fun r2 z1 => zk_gd (zk_bz r2) (some (r2, z1)))
set_option maxRecDepth 100000 in
set_option maxHeartbeats 8000000 in
theorem ct_X9_isClaim (l : Launch) (E : zk_E) (hi : zk_inj E) (x1 : Int32) (z : zk_Z) (r : Int32) (z' : zk_Z) (h : fX9_isClaim  x1 z = some (r, z')) : Met l yX9_isClaim wsX9_isClaim { frames := 1, cells := 0, slots := 0, locals := 22 } (va_Pc [.ref (E.2.1 20 0), .int x1] (zk_W E z)) (zk_Qi E r z') 0 0 (zk_A E) := by
  refine zk_met (cc := cX9_isClaim) (maxL := 2) (ret := (some .boolean)) (own := RX9) (by decide) rfl rfl hi (Nat.le_of_ble_eq_true rfl) ?_
  intro p e s m args below meth c X hr
  have iX9 : ∀ w ∈ u_ws RX9 TX9 32, w ∈ wsX9_isClaim := by decide +kernel
  have w0 : Cond.fieldLink RX9 230 "HiddenWorksModel" "claims" "I" ∈ wsX9_isClaim := by decide +kernel
  unfold fX9_isClaim at h
  refine zk_iload_n X 1 dX9_isClaim_0 rfl rfl ?_
  refine zk_iconst X (v := 0) dX9_isClaim_1 (by decide) ?_
  refine zk_aload_n X 0 dX9_isClaim_2 rfl rfl ?_
  refine zk_get X iX9 (g := 20) (Nat.zero_lt_one) rfl rfl 17 (by decide) w0 rfl dX9_isClaim_3 ?_
  refine zk_iconst X (v := 1) dX9_isClaim_6 (by decide) ?_
  refine zk_isub X dX9_isClaim_7 ?_
  refine zk_si X h (fun rr zz hf => ct_X9_in l E hi  x1 0 ((z.1 20 0 17) - 1) _ rr zz hf) (va_cwS 3 X.1.2.2.2.2 gX9_isClaim_X9_in rfl rfl rfl (by decide +kernel) ⟨Nat.le_of_ble_eq_true rfl, Nat.le_of_ble_eq_true rfl⟩) rfl rfl (Nat.le_of_ble_eq_true rfl) dX9_isClaim_8 (fun r2 z1 h => ?_)
  exact zk_zreturnG X hr dX9_isClaim_11 h
def fX9_claimTold (x1 : Int32) (x2 : Int32) (z : zk_Z) : Option (Int32 × zk_Z) := zk_bd (fX9_isClaim x1 z) (fun r2 z1 => if r2 = 0 then some ((-5), z1) else if x2 = 0 then zk_gd (zk_ix x1 20) (some (z1.1 35 0 x1.toNatClampNeg, z1)) else if x2 = 1 then zk_gd (zk_ix x1 20) (some (z1.1 36 0 x1.toNatClampNeg, z1)) else if x2 = 2 then zk_gd (zk_ix x1 20) (some (z1.1 37 0 x1.toNatClampNeg, z1)) else if x2 = 3 then zk_gd (zk_ix x1 20) (some (z1.1 38 0 x1.toNatClampNeg, z1)) else some ((-7), z1))
set_option maxRecDepth 100000 in
set_option maxHeartbeats 8000000 in
theorem ct_X9_claimTold (l : Launch) (E : zk_E) (hi : zk_inj E) (x1 : Int32) (x2 : Int32) (z : zk_Z) (r : Int32) (z' : zk_Z) (h : fX9_claimTold  x1 x2 z = some (r, z')) : Met l yX9_claimTold wsX9_claimTold { frames := 2, cells := 0, slots := 0, locals := 43 } (va_Pc [.ref (E.2.1 20 0), .int x1, .int x2] (zk_W E z)) (zk_Qi E r z') 0 0 (zk_A E) := by
  refine zk_met (cc := cX9_claimTold) (maxL := 3) (ret := (some .int)) (own := RX9) (by decide) rfl rfl hi (Nat.le_of_ble_eq_true rfl) ?_
  intro p e s m args below meth c X hr
  have iX9 : ∀ w ∈ u_ws RX9 TX9 32, w ∈ wsX9_claimTold := by decide +kernel
  have w0 : Cond.fieldLink RX9 52 "HiddenWorksModel" "claimTask" "[I" ∈ wsX9_claimTold := by decide +kernel
  have w1 : Cond.fieldLink RX9 55 "HiddenWorksModel" "claimSteps" "[I" ∈ wsX9_claimTold := by decide +kernel
  have w2 : Cond.fieldLink RX9 58 "HiddenWorksModel" "claimState" "[I" ∈ wsX9_claimTold := by decide +kernel
  have w3 : Cond.fieldLink RX9 61 "HiddenWorksModel" "claimBy" "[I" ∈ wsX9_claimTold := by decide +kernel
  unfold fX9_claimTold at h
  refine zk_aload_n X 0 dX9_claimTold_0 rfl rfl ?_
  refine zk_iload_n X 1 dX9_claimTold_1 rfl rfl ?_
  refine zk_vi X h (fun rr zz hf => ct_X9_isClaim l E hi  x1 _ rr zz hf) (cwV 1 X.1.2.2.2.2 gX9_claimTold_X9_isClaim rfl rfl rfl (by decide +kernel) ⟨Nat.le_of_ble_eq_true rfl, Nat.le_of_ble_eq_true rfl⟩) (zk_recv X (g := 20) (Nat.zero_lt_one) rfl rfl) rfl rfl (Nat.le_of_ble_eq_true rfl) dX9_claimTold_2 (fun r2 z1 h => ?_)
  refine zk_if_ne X (tgt := 11) dX9_claimTold_5 (by decide) h (fun h => ?_) (fun h => ?_)
  · refine zk_bipush X (v := -5) dX9_claimTold_8 (by decide) ?_
    exact zk_ireturn X hr dX9_claimTold_10 h
  · refine zk_iload_n X 2 dX9_claimTold_11 rfl rfl ?_
    refine zk_if_ne X (tgt := 24) dX9_claimTold_12 (by decide) h (fun h => ?_) (fun h => ?_)
    · refine zk_aload_n X 0 dX9_claimTold_15 rfl rfl ?_
      refine zk_get X iX9 (g := 20) (Nat.zero_lt_one) rfl rfl 18 (by decide) w0 rfl dX9_claimTold_16 ?_
      refine zk_iload_n X 1 dX9_claimTold_19 rfl rfl ?_
      refine zk_iald X (g := 35) (Nat.zero_lt_one) rfl dX9_claimTold_20 h (fun h => ?_)
      refine zk_goto X (tgt := 68) dX9_claimTold_21 (by decide) ?_
      exact zk_ireturn X hr dX9_claimTold_68 h
    · refine zk_iload_n X 2 dX9_claimTold_24 rfl rfl ?_
      refine zk_iconst X (v := 1) dX9_claimTold_25 (by decide) ?_
      refine zk_icmp_ne X (tgt := 38) dX9_claimTold_26 (by decide) h (fun h => ?_) (fun h => ?_)
      · refine zk_aload_n X 0 dX9_claimTold_29 rfl rfl ?_
        refine zk_get X iX9 (g := 20) (Nat.zero_lt_one) rfl rfl 19 (by decide) w1 rfl dX9_claimTold_30 ?_
        refine zk_iload_n X 1 dX9_claimTold_33 rfl rfl ?_
        refine zk_iald X (g := 36) (Nat.zero_lt_one) rfl dX9_claimTold_34 h (fun h => ?_)
        refine zk_goto X (tgt := 68) dX9_claimTold_35 (by decide) ?_
        exact zk_ireturn X hr dX9_claimTold_68 h
      · refine zk_iload_n X 2 dX9_claimTold_38 rfl rfl ?_
        refine zk_iconst X (v := 2) dX9_claimTold_39 (by decide) ?_
        refine zk_icmp_ne X (tgt := 52) dX9_claimTold_40 (by decide) h (fun h => ?_) (fun h => ?_)
        · refine zk_aload_n X 0 dX9_claimTold_43 rfl rfl ?_
          refine zk_get X iX9 (g := 20) (Nat.zero_lt_one) rfl rfl 20 (by decide) w2 rfl dX9_claimTold_44 ?_
          refine zk_iload_n X 1 dX9_claimTold_47 rfl rfl ?_
          refine zk_iald X (g := 37) (Nat.zero_lt_one) rfl dX9_claimTold_48 h (fun h => ?_)
          refine zk_goto X (tgt := 68) dX9_claimTold_49 (by decide) ?_
          exact zk_ireturn X hr dX9_claimTold_68 h
        · refine zk_iload_n X 2 dX9_claimTold_52 rfl rfl ?_
          refine zk_iconst X (v := 3) dX9_claimTold_53 (by decide) ?_
          refine zk_icmp_ne X (tgt := 66) dX9_claimTold_54 (by decide) h (fun h => ?_) (fun h => ?_)
          · refine zk_aload_n X 0 dX9_claimTold_57 rfl rfl ?_
            refine zk_get X iX9 (g := 20) (Nat.zero_lt_one) rfl rfl 21 (by decide) w3 rfl dX9_claimTold_58 ?_
            refine zk_iload_n X 1 dX9_claimTold_61 rfl rfl ?_
            refine zk_iald X (g := 38) (Nat.zero_lt_one) rfl dX9_claimTold_62 h (fun h => ?_)
            refine zk_goto X (tgt := 68) dX9_claimTold_63 (by decide) ?_
            exact zk_ireturn X hr dX9_claimTold_68 h
          · refine zk_bipush X (v := -7) dX9_claimTold_66 (by decide) ?_
            exact zk_ireturn X hr dX9_claimTold_68 h
def fX9_claims_B144 (c64 : Int32 → Int32 → Int32 → Int32 → Int32 → zk_Z → Option (Int32 × zk_Z)) (a1 : Int32) (a3 : Int32) (a4 : Int32) (a6 : Int32) (s0 : Int32) (s1 : Int32) (z : zk_Z) : Option (Int32 × zk_Z) := c64 a1 a3 a4 (s1 + s0) (a6 + 1) z
def fX9_claims_L64 : Nat → Int32 → Int32 → Int32 → Int32 → Int32 → zk_Z → Option (Int32 × zk_Z)
  | 0, _, _, _, _, _, _ => none
  | n + 1, a1, a3, a4, a5, a6, z => if a4 ≤ a6 then some (a5, z) else if a3 < 0 then some ((-12), z) else if (a3 + (2 * a6)) < a3 then some ((-12), z) else zk_gd (zk_ix a1 4) (if (a3 + (2 * a6)) ≤ ((z.1 40 0 a1.toNatClampNeg) - 2) then zk_gd (zk_ix ((40 * a1) + (a3 + (2 * a6))) 160) (zk_gd (zk_ix (((40 * a1) + (a3 + (2 * a6))) + 1) 160) (zk_bd (fX9_claim (z.1 41 0 ((40 * a1) + (a3 + (2 * a6))).toNatClampNeg) (z.1 41 0 (((40 * a1) + (a3 + (2 * a6))) + 1).toNatClampNeg) z) (fun r8 z7 => if r8 < 0 then fX9_claims_B144 (fX9_claims_L64 n) a1 a3 a4 a6 0 a5 z7 else fX9_claims_B144 (fX9_claims_L64 n) a1 a3 a4 a6 1 a5 z7))) else some ((-12), z))
def fX9_claims (x1 : Int32) (x2 : Int32) (x3 : Int32) (x4 : Int32) (z : zk_Z) : Option (Int32 × zk_Z) := zk_bd (fX9_in x1 0 3 z) (fun r2 z1 => if r2 = 0 then some ((-2), z1) else zk_bd (fX9_in x2 0 2 z1) (fun r4 z3 => if r4 = 0 then some ((-2), z3) else zk_bd (fX9_in x4 0 20 z3) (fun r6 z5 => if r6 = 0 then some ((-2), z5) else zk_gd (zk_ix x1 4) (if (z5.1 39 0 x1.toNatClampNeg) = (-1) then some ((-11), z5) else zk_gd (zk_ix x1 4) (if (z5.1 39 0 x1.toNatClampNeg) = x2 then fX9_claims_L64 zk_FU x1 x3 x4 0 0 z5 else some ((-13), z5))))))
set_option maxRecDepth 100000 in
set_option maxHeartbeats 8000000 in
theorem ct_X9_claims (l : Launch) (E : zk_E) (hi : zk_inj E) (x1 : Int32) (x2 : Int32) (x3 : Int32) (x4 : Int32) (z : zk_Z) (r : Int32) (z' : zk_Z) (h : fX9_claims  x1 x2 x3 x4 z = some (r, z')) : Met l yX9_claims wsX9_claims { frames := 3, cells := 0, slots := 0, locals := 65 } (va_Pc [.ref (E.2.1 20 0), .int x1, .int x2, .int x3, .int x4] (zk_W E z)) (zk_Qi E r z') 0 0 (zk_A E) := by
  refine zk_met (cc := cX9_claims) (maxL := 9) (ret := (some .int)) (own := RX9) (by decide) rfl rfl hi (Nat.le_of_ble_eq_true rfl) ?_
  intro p e s m args below meth c X hr
  have iX9 : ∀ w ∈ u_ws RX9 TX9 32, w ∈ wsX9_claims := by decide +kernel
  have w0 : Cond.fieldLink RX9 64 "HiddenWorksModel" "sheetSort" "[I" ∈ wsX9_claims := by decide +kernel
  have w1 : Cond.fieldLink RX9 67 "HiddenWorksModel" "sheetSize" "[I" ∈ wsX9_claims := by decide +kernel
  have w2 : Cond.fieldLink RX9 70 "HiddenWorksModel" "cells" "[I" ∈ wsX9_claims := by decide +kernel
  have B144 : ∀ (c64 : Int32 → Int32 → Int32 → Int32 → Int32 → zk_Z → Option (Int32 × zk_Z)) (hc64 : ∀ (a1 : Int32) (a3 : Int32) (a4 : Int32) (a5 : Int32) (a6 : Int32) (z : zk_Z), c64 a1 a3 a4 a5 a6 z = some (r, z') → zk_G p l e (headSpec wsX9_claims { frames := 3, cells := 0, slots := 0, locals := 65 }).room s m args below meth c E 9 0 0 (MQ below (zk_Qi E r z') args s 0 0 (zk_A E)) 64 [(0, .ref (E.2.1 20 0)), (1, .int a1), (3, .int a3), (4, .int a4), (5, .int a5), (6, .int a6)] [] z) (a1 : Int32) (a3 : Int32) (a4 : Int32) (a6 : Int32) (s0 : Int32) (s1 : Int32) (z : zk_Z), fX9_claims_B144 c64 a1 a3 a4 a6 s0 s1 z = some (r, z') → zk_G p l e (headSpec wsX9_claims { frames := 3, cells := 0, slots := 0, locals := 65 }).room s m args below meth c E 9 0 0 (MQ below (zk_Qi E r z') args s 0 0 (zk_A E)) 144 [(0, .ref (E.2.1 20 0)), (1, .int a1), (3, .int a3), (4, .int a4), (6, .int a6)] [.int s0, .int s1] z := by
    intro c64 hc64 a1 a3 a4 a6 s0 s1 z h
    unfold fX9_claims_B144 at h
    refine zk_iadd X dX9_claims_144 ?_
    refine zk_istore X (lv' := [(5, .int (s1 + s0)), (0, .ref (E.2.1 20 0)), (1, .int a1), (3, .int a3), (4, .int a4), (6, .int a6)]) dX9_claims_145 (by decide) rfl ?_
    refine zk_iinc X (lv' := [(6, .int (a6 + 1)), (5, .int (s1 + s0)), (0, .ref (E.2.1 20 0)), (1, .int a1), (3, .int a3), (4, .int a4)]) 5 dX9_claims_147 rfl rfl (by decide) rfl ?_
    refine zk_goto X (tgt := 64) dX9_claims_150 (by decide) ?_
    exact zk_sub [2, 3, 4, 5, 1, 0] rfl (hc64 _ _ _ _ _ _ h)
  have L64 : ∀ (n : Nat) (a1 : Int32) (a3 : Int32) (a4 : Int32) (a5 : Int32) (a6 : Int32) (z : zk_Z), fX9_claims_L64 n a1 a3 a4 a5 a6 z = some (r, z') → zk_G p l e (headSpec wsX9_claims { frames := 3, cells := 0, slots := 0, locals := 65 }).room s m args below meth c E 9 0 0 (MQ below (zk_Qi E r z') args s 0 0 (zk_A E)) 64 [(0, .ref (E.2.1 20 0)), (1, .int a1), (3, .int a3), (4, .int a4), (5, .int a5), (6, .int a6)] [] z := by
    intro n
    induction n with
    | zero => intro a1 a3 a4 a5 a6 z h; exact absurd h (by simp [fX9_claims_L64])
    | succ n ih =>
      intro a1 a3 a4 a5 a6 z h
      rw [fX9_claims_L64] at h
      refine zk_iload X 5 dX9_claims_64 rfl ?_
      refine zk_iload X 3 dX9_claims_66 rfl ?_
      refine zk_icmp_ge X (tgt := 153) dX9_claims_68 (by decide) h (fun h => ?_) (fun h => ?_)
      · refine zk_iload X 4 dX9_claims_153 rfl ?_
        exact zk_ireturn X hr dX9_claims_155 h
      · refine zk_iload_n X 2 dX9_claims_71 rfl rfl ?_
        refine zk_iconst X (v := 2) dX9_claims_72 (by decide) ?_
        refine zk_iload X 5 dX9_claims_73 rfl ?_
        refine zk_imul X dX9_claims_75 ?_
        refine zk_iadd X dX9_claims_76 ?_
        refine zk_istore X (lv' := [(7, .int (a3 + (2 * a6))), (0, .ref (E.2.1 20 0)), (1, .int a1), (3, .int a3), (4, .int a4), (5, .int a5), (6, .int a6)]) dX9_claims_77 (by decide) rfl ?_
        refine zk_iload_n X 3 dX9_claims_79 rfl rfl ?_
        refine zk_if_lt X (tgt := 102) dX9_claims_80 (by decide) h (fun h => ?_) (fun h => ?_)
        · refine zk_bipush X (v := -12) dX9_claims_102 (by decide) ?_
          exact zk_ireturn X hr dX9_claims_104 h
        · refine zk_iload X 0 dX9_claims_83 rfl ?_
          refine zk_iload_n X 3 dX9_claims_85 rfl rfl ?_
          refine zk_icmp_lt X (tgt := 102) dX9_claims_86 (by decide) h (fun h => ?_) (fun h => ?_)
          · refine zk_bipush X (v := -12) dX9_claims_102 (by decide) ?_
            exact zk_ireturn X hr dX9_claims_104 h
          · refine zk_iload X 0 dX9_claims_89 rfl ?_
            refine zk_aload_n X 1 dX9_claims_91 rfl rfl ?_
            refine zk_get X iX9 (g := 20) (Nat.zero_lt_one) rfl rfl 25 (by decide) w1 rfl dX9_claims_92 ?_
            refine zk_iload_n X 2 dX9_claims_95 rfl rfl ?_
            refine zk_iald X (g := 40) (Nat.zero_lt_one) rfl dX9_claims_96 h (fun h => ?_)
            refine zk_iconst X (v := 2) dX9_claims_97 (by decide) ?_
            refine zk_isub X dX9_claims_98 ?_
            refine zk_icmp_le X (tgt := 105) dX9_claims_99 (by decide) h (fun h => ?_) (fun h => ?_)
            · refine zk_bipush X (v := 40) dX9_claims_105 (by decide) ?_
              refine zk_iload_n X 2 dX9_claims_107 rfl rfl ?_
              refine zk_imul X dX9_claims_108 ?_
              refine zk_iload X 0 dX9_claims_109 rfl ?_
              refine zk_iadd X dX9_claims_111 ?_
              refine zk_istore X (lv' := [(8, .int ((40 * a1) + (a3 + (2 * a6)))), (7, .int (a3 + (2 * a6))), (0, .ref (E.2.1 20 0)), (1, .int a1), (3, .int a3), (4, .int a4), (5, .int a5), (6, .int a6)]) dX9_claims_112 (by decide) rfl ?_
              refine zk_iload X 6 dX9_claims_114 rfl ?_
              refine zk_aload_n X 2 dX9_claims_116 rfl rfl ?_
              refine zk_aload_n X 2 dX9_claims_117 rfl rfl ?_
              refine zk_get X iX9 (g := 20) (Nat.zero_lt_one) rfl rfl 26 (by decide) w2 rfl dX9_claims_118 ?_
              refine zk_iload X 0 dX9_claims_121 rfl ?_
              refine zk_iald X (g := 41) (Nat.zero_lt_one) rfl dX9_claims_123 h (fun h => ?_)
              refine zk_aload_n X 2 dX9_claims_124 rfl rfl ?_
              refine zk_get X iX9 (g := 20) (Nat.zero_lt_one) rfl rfl 26 (by decide) w2 rfl dX9_claims_125 ?_
              refine zk_iload X 0 dX9_claims_128 rfl ?_
              refine zk_iconst X (v := 1) dX9_claims_130 (by decide) ?_
              refine zk_iadd X dX9_claims_131 ?_
              refine zk_iald X (g := 41) (Nat.zero_lt_one) rfl dX9_claims_132 h (fun h => ?_)
              refine zk_vi X h (fun rr zz hf => ct_X9_claim l E hi (z.1 41 0 ((40 * a1) + (a3 + (2 * a6))).toNatClampNeg) (z.1 41 0 (((40 * a1) + (a3 + (2 * a6))) + 1).toNatClampNeg) _ rr zz hf) (cwV 2 X.1.2.2.2.2 gX9_claims_X9_claim rfl rfl rfl (by decide +kernel) ⟨Nat.le_of_ble_eq_true rfl, Nat.le_of_ble_eq_true rfl⟩) (zk_recv X (g := 20) (Nat.zero_lt_one) rfl rfl) rfl rfl (Nat.le_of_ble_eq_true rfl) dX9_claims_133 (fun r8 z7 h => ?_)
              refine zk_if_lt X (tgt := 143) dX9_claims_136 (by decide) h (fun h => ?_) (fun h => ?_)
              · refine zk_iconst X (v := 0) dX9_claims_143 (by decide) ?_
                exact zk_sub [2, 3, 4, 5, 7] rfl (B144 _ ih _ _ _ _ _ _ _ h)
              · refine zk_iconst X (v := 1) dX9_claims_139 (by decide) ?_
                refine zk_goto X (tgt := 144) dX9_claims_140 (by decide) ?_
                exact zk_sub [2, 3, 4, 5, 7] rfl (B144 _ ih _ _ _ _ _ _ _ h)
            · refine zk_bipush X (v := -12) dX9_claims_102 (by decide) ?_
              exact zk_ireturn X hr dX9_claims_104 h
  unfold fX9_claims at h
  refine zk_iload_n X 1 dX9_claims_0 rfl rfl ?_
  refine zk_iconst X (v := 0) dX9_claims_1 (by decide) ?_
  refine zk_iconst X (v := 3) dX9_claims_2 (by decide) ?_
  refine zk_si X h (fun rr zz hf => ct_X9_in l E hi  x1 0 3 _ rr zz hf) (va_cwS 3 X.1.2.2.2.2 gX9_claims_X9_in rfl rfl rfl (by decide +kernel) ⟨Nat.le_of_ble_eq_true rfl, Nat.le_of_ble_eq_true rfl⟩) rfl rfl (Nat.le_of_ble_eq_true rfl) dX9_claims_3 (fun r2 z1 h => ?_)
  refine zk_if_eq X (tgt := 29) dX9_claims_6 (by decide) h (fun h => ?_) (fun h => ?_)
  · refine zk_bipush X (v := -2) dX9_claims_29 (by decide) ?_
    exact zk_ireturn X hr dX9_claims_31 h
  · refine zk_iload_n X 2 dX9_claims_9 rfl rfl ?_
    refine zk_iconst X (v := 0) dX9_claims_10 (by decide) ?_
    refine zk_iconst X (v := 2) dX9_claims_11 (by decide) ?_
    refine zk_si X h (fun rr zz hf => ct_X9_in l E hi  x2 0 2 _ rr zz hf) (va_cwS 3 X.1.2.2.2.2 gX9_claims_X9_in rfl rfl rfl (by decide +kernel) ⟨Nat.le_of_ble_eq_true rfl, Nat.le_of_ble_eq_true rfl⟩) rfl rfl (Nat.le_of_ble_eq_true rfl) dX9_claims_12 (fun r4 z3 h => ?_)
    refine zk_if_eq X (tgt := 29) dX9_claims_15 (by decide) h (fun h => ?_) (fun h => ?_)
    · refine zk_bipush X (v := -2) dX9_claims_29 (by decide) ?_
      exact zk_ireturn X hr dX9_claims_31 h
    · refine zk_iload X 4 dX9_claims_18 rfl ?_
      refine zk_iconst X (v := 0) dX9_claims_20 (by decide) ?_
      refine zk_bipush X (v := 20) dX9_claims_21 (by decide) ?_
      refine zk_si X h (fun rr zz hf => ct_X9_in l E hi  x4 0 20 _ rr zz hf) (va_cwS 3 X.1.2.2.2.2 gX9_claims_X9_in rfl rfl rfl (by decide +kernel) ⟨Nat.le_of_ble_eq_true rfl, Nat.le_of_ble_eq_true rfl⟩) rfl rfl (Nat.le_of_ble_eq_true rfl) dX9_claims_23 (fun r6 z5 h => ?_)
      refine zk_if_ne X (tgt := 32) dX9_claims_26 (by decide) h (fun h => ?_) (fun h => ?_)
      · refine zk_bipush X (v := -2) dX9_claims_29 (by decide) ?_
        exact zk_ireturn X hr dX9_claims_31 h
      · refine zk_aload_n X 0 dX9_claims_32 rfl rfl ?_
        refine zk_get X iX9 (g := 20) (Nat.zero_lt_one) rfl rfl 24 (by decide) w0 rfl dX9_claims_33 ?_
        refine zk_iload_n X 1 dX9_claims_36 rfl rfl ?_
        refine zk_iald X (g := 39) (Nat.zero_lt_one) rfl dX9_claims_37 h (fun h => ?_)
        refine zk_iconst X (v := -1) dX9_claims_38 (by decide) ?_
        refine zk_icmp_ne X (tgt := 45) dX9_claims_39 (by decide) h (fun h => ?_) (fun h => ?_)
        · refine zk_bipush X (v := -11) dX9_claims_42 (by decide) ?_
          exact zk_ireturn X hr dX9_claims_44 h
        · refine zk_aload_n X 0 dX9_claims_45 rfl rfl ?_
          refine zk_get X iX9 (g := 20) (Nat.zero_lt_one) rfl rfl 24 (by decide) w0 rfl dX9_claims_46 ?_
          refine zk_iload_n X 1 dX9_claims_49 rfl rfl ?_
          refine zk_iald X (g := 39) (Nat.zero_lt_one) rfl dX9_claims_50 h (fun h => ?_)
          refine zk_iload_n X 2 dX9_claims_51 rfl rfl ?_
          refine zk_icmp_eq X (tgt := 58) dX9_claims_52 (by decide) h (fun h => ?_) (fun h => ?_)
          · refine zk_iconst X (v := 0) dX9_claims_58 (by decide) ?_
            refine zk_istore X (lv' := [(5, .int 0), (0, .ref (E.2.1 20 0)), (1, .int x1), (2, .int x2), (3, .int x3), (4, .int x4)]) dX9_claims_59 (by decide) rfl ?_
            refine zk_iconst X (v := 0) dX9_claims_61 (by decide) ?_
            refine zk_istore X (lv' := [(6, .int 0), (5, .int 0), (0, .ref (E.2.1 20 0)), (1, .int x1), (2, .int x2), (3, .int x3), (4, .int x4)]) dX9_claims_62 (by decide) rfl ?_
            exact zk_sub [2, 3, 5, 6, 1, 0] rfl (L64  _ _ _ _ _ _ _ h)
          · refine zk_bipush X (v := -13) dX9_claims_55 (by decide) ?_
            exact zk_ireturn X hr dX9_claims_57 h
def fX9_clauseTold_B27 (a1 : Int32) (a2 : Int32) (a3 : Int32) (s0 : Int32) (s2 : Int32) (s3 : Int32) (z : zk_Z) : Option (Int32 × zk_Z) := zk_gd (zk_ix s0 9) (zk_bd (fX9_in s3 s2 ((z.1 29 0 s0.toNatClampNeg) - 1) z) (fun r6 z5 => if r6 = 0 then some ((-5), z5) else if a3 = 0 then zk_gd (zk_ix ((24 * a1) + a2) 216) (some (z5.1 33 0 ((24 * a1) + a2).toNatClampNeg, z5)) else if a3 = 1 then zk_gd (zk_ix ((24 * a1) + a2) 216) (some (z5.1 34 0 ((24 * a1) + a2).toNatClampNeg, z5)) else some ((-7), z5)))
def fX9_clauseTold (x1 : Int32) (x2 : Int32) (x3 : Int32) (z : zk_Z) : Option (Int32 × zk_Z) := zk_bd (fX9_isTask x1 z) (fun r2 z1 => if r2 = 0 then some ((-5), z1) else zk_bd (fX9_isTask x1 z1) (fun r4 z3 => if r4 = 0 then fX9_clauseTold_B27 x1 x2 x3 0 0 x2 z3 else fX9_clauseTold_B27 x1 x2 x3 x1 0 x2 z3))
set_option maxRecDepth 100000 in
set_option maxHeartbeats 8000000 in
theorem ct_X9_clauseTold (l : Launch) (E : zk_E) (hi : zk_inj E) (x1 : Int32) (x2 : Int32) (x3 : Int32) (z : zk_Z) (r : Int32) (z' : zk_Z) (h : fX9_clauseTold  x1 x2 x3 z = some (r, z')) : Met l yX9_clauseTold wsX9_clauseTold { frames := 2, cells := 0, slots := 0, locals := 43 } (va_Pc [.ref (E.2.1 20 0), .int x1, .int x2, .int x3] (zk_W E z)) (zk_Qi E r z') 0 0 (zk_A E) := by
  refine zk_met (cc := cX9_clauseTold) (maxL := 4) (ret := (some .int)) (own := RX9) (by decide) rfl rfl hi (Nat.le_of_ble_eq_true rfl) ?_
  intro p e s m args below meth c X hr
  have iX9 : ∀ w ∈ u_ws RX9 TX9 32, w ∈ wsX9_clauseTold := by decide +kernel
  have w0 : Cond.fieldLink RX9 34 "HiddenWorksModel" "clauses" "[I" ∈ wsX9_clauseTold := by decide +kernel
  have w1 : Cond.fieldLink RX9 46 "HiddenWorksModel" "plain" "[I" ∈ wsX9_clauseTold := by decide +kernel
  have w2 : Cond.fieldLink RX9 49 "HiddenWorksModel" "against" "[I" ∈ wsX9_clauseTold := by decide +kernel
  have B27 : ∀ (a1 : Int32) (a2 : Int32) (a3 : Int32) (s0 : Int32) (s2 : Int32) (s3 : Int32) (z : zk_Z), fX9_clauseTold_B27 a1 a2 a3 s0 s2 s3 z = some (r, z') → zk_G p l e (headSpec wsX9_clauseTold { frames := 2, cells := 0, slots := 0, locals := 43 }).room s m args below meth c E 4 0 0 (MQ below (zk_Qi E r z') args s 0 0 (zk_A E)) 27 [(0, .ref (E.2.1 20 0)), (1, .int a1), (2, .int a2), (3, .int a3)] [.int s0, .ref (E.2.1 29 0), .int s2, .int s3] z := by
    intro a1 a2 a3 s0 s2 s3 z h
    unfold fX9_clauseTold_B27 at h
    refine zk_iald X (g := 29) (Nat.zero_lt_one) rfl dX9_clauseTold_27 h (fun h => ?_)
    refine zk_iconst X (v := 1) dX9_clauseTold_28 (by decide) ?_
    refine zk_isub X dX9_clauseTold_29 ?_
    refine zk_si X h (fun rr zz hf => ct_X9_in l E hi s3 s2 ((z.1 29 0 s0.toNatClampNeg) - 1) _ rr zz hf) (va_cwS 3 X.1.2.2.2.2 gX9_clauseTold_X9_in rfl rfl rfl (by decide +kernel) ⟨Nat.le_of_ble_eq_true rfl, Nat.le_of_ble_eq_true rfl⟩) rfl rfl (Nat.le_of_ble_eq_true rfl) dX9_clauseTold_30 (fun r6 z5 h => ?_)
    refine zk_if_ne X (tgt := 39) dX9_clauseTold_33 (by decide) h (fun h => ?_) (fun h => ?_)
    · refine zk_bipush X (v := -5) dX9_clauseTold_36 (by decide) ?_
      exact zk_ireturn X hr dX9_clauseTold_38 h
    · refine zk_iload_n X 3 dX9_clauseTold_39 rfl rfl ?_
      refine zk_if_ne X (tgt := 57) dX9_clauseTold_40 (by decide) h (fun h => ?_) (fun h => ?_)
      · refine zk_aload_n X 0 dX9_clauseTold_43 rfl rfl ?_
        refine zk_get X iX9 (g := 20) (Nat.zero_lt_one) rfl rfl 15 (by decide) w1 rfl dX9_clauseTold_44 ?_
        refine zk_bipush X (v := 24) dX9_clauseTold_47 (by decide) ?_
        refine zk_iload_n X 1 dX9_clauseTold_49 rfl rfl ?_
        refine zk_imul X dX9_clauseTold_50 ?_
        refine zk_iload_n X 2 dX9_clauseTold_51 rfl rfl ?_
        refine zk_iadd X dX9_clauseTold_52 ?_
        refine zk_iald X (g := 33) (Nat.zero_lt_one) rfl dX9_clauseTold_53 h (fun h => ?_)
        refine zk_goto X (tgt := 78) dX9_clauseTold_54 (by decide) ?_
        exact zk_ireturn X hr dX9_clauseTold_78 h
      · refine zk_iload_n X 3 dX9_clauseTold_57 rfl rfl ?_
        refine zk_iconst X (v := 1) dX9_clauseTold_58 (by decide) ?_
        refine zk_icmp_ne X (tgt := 76) dX9_clauseTold_59 (by decide) h (fun h => ?_) (fun h => ?_)
        · refine zk_aload_n X 0 dX9_clauseTold_62 rfl rfl ?_
          refine zk_get X iX9 (g := 20) (Nat.zero_lt_one) rfl rfl 16 (by decide) w2 rfl dX9_clauseTold_63 ?_
          refine zk_bipush X (v := 24) dX9_clauseTold_66 (by decide) ?_
          refine zk_iload_n X 1 dX9_clauseTold_68 rfl rfl ?_
          refine zk_imul X dX9_clauseTold_69 ?_
          refine zk_iload_n X 2 dX9_clauseTold_70 rfl rfl ?_
          refine zk_iadd X dX9_clauseTold_71 ?_
          refine zk_iald X (g := 34) (Nat.zero_lt_one) rfl dX9_clauseTold_72 h (fun h => ?_)
          refine zk_goto X (tgt := 78) dX9_clauseTold_73 (by decide) ?_
          exact zk_ireturn X hr dX9_clauseTold_78 h
        · refine zk_bipush X (v := -7) dX9_clauseTold_76 (by decide) ?_
          exact zk_ireturn X hr dX9_clauseTold_78 h
  unfold fX9_clauseTold at h
  refine zk_aload_n X 0 dX9_clauseTold_0 rfl rfl ?_
  refine zk_iload_n X 1 dX9_clauseTold_1 rfl rfl ?_
  refine zk_vi X h (fun rr zz hf => ct_X9_isTask l E hi  x1 _ rr zz hf) (cwV 1 X.1.2.2.2.2 gX9_clauseTold_X9_isTask rfl rfl rfl (by decide +kernel) ⟨Nat.le_of_ble_eq_true rfl, Nat.le_of_ble_eq_true rfl⟩) (zk_recv X (g := 20) (Nat.zero_lt_one) rfl rfl) rfl rfl (Nat.le_of_ble_eq_true rfl) dX9_clauseTold_2 (fun r2 z1 h => ?_)
  refine zk_if_eq X (tgt := 36) dX9_clauseTold_5 (by decide) h (fun h => ?_) (fun h => ?_)
  · refine zk_bipush X (v := -5) dX9_clauseTold_36 (by decide) ?_
    exact zk_ireturn X hr dX9_clauseTold_38 h
  · refine zk_iload_n X 2 dX9_clauseTold_8 rfl rfl ?_
    refine zk_iconst X (v := 0) dX9_clauseTold_9 (by decide) ?_
    refine zk_aload_n X 0 dX9_clauseTold_10 rfl rfl ?_
    refine zk_get X iX9 (g := 20) (Nat.zero_lt_one) rfl rfl 11 (by decide) w0 rfl dX9_clauseTold_11 ?_
    refine zk_aload_n X 0 dX9_clauseTold_14 rfl rfl ?_
    refine zk_iload_n X 1 dX9_clauseTold_15 rfl rfl ?_
    refine zk_vi X h (fun rr zz hf => ct_X9_isTask l E hi  x1 _ rr zz hf) (cwV 1 X.1.2.2.2.2 gX9_clauseTold_X9_isTask rfl rfl rfl (by decide +kernel) ⟨Nat.le_of_ble_eq_true rfl, Nat.le_of_ble_eq_true rfl⟩) (zk_recv X (g := 20) (Nat.zero_lt_one) rfl rfl) rfl rfl (Nat.le_of_ble_eq_true rfl) dX9_clauseTold_16 (fun r4 z3 h => ?_)
    refine zk_if_eq X (tgt := 26) dX9_clauseTold_19 (by decide) h (fun h => ?_) (fun h => ?_)
    · refine zk_iconst X (v := 0) dX9_clauseTold_26 (by decide) ?_
      exact zk_sub [0, 1, 2, 3] rfl (B27  _ _ _ _ _ _ _ h)
    · refine zk_iload_n X 1 dX9_clauseTold_22 rfl rfl ?_
      refine zk_goto X (tgt := 27) dX9_clauseTold_23 (by decide) ?_
      exact zk_sub [0, 1, 2, 3] rfl (B27  _ _ _ _ _ _ _ h)
