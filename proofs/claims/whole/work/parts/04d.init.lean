/-- the memory behind X9() -/
def zc_M9 (E : zk_E) (b : Nat) : Nat → va_E := fun j => if j < 79 then zc_M8 E b j else match j - 79 with
  | 0 => .inr (8, [.ref (b + 80), .int 0, .int 0, .ref (b + 81), .ref (b + 82), .ref (b + 83), .ref (b + 84), .ref (b + 85), .int 0, .ref (b + 86), .ref (b + 87), .ref (b + 88), .ref (b + 89), .ref (b + 90), .ref (b + 91), .ref (b + 92), .ref (b + 93), .int 0, .ref (b + 94), .ref (b + 95), .ref (b + 96), .ref (b + 97), .int 0, .int 0, .ref (b + 98), .ref (b + 99), .ref (b + 100), .int 0, .long 0, .ref (b + 101), .int 0, .ref (b + 102)])
  | 1 => .inl (E.2.2 0, 80, .inl (fun _ => 0))
  | 2 => .inl (E.2.2 0, 6, .inl (fun _ => 0))
  | 3 => .inl (E.2.2 0, 6, .inl (fun _ => 0))
  | 4 => .inl (E.2.2 0, 6, .inl (fun _ => 0))
  | 5 => .inl (E.2.2 0, 6, .inl (fun _ => 0))
  | 6 => .inl (E.2.2 0, 24, .inl (fun _ => 0))
  | 7 => .inl (E.2.2 0, 9, .inl (fun _ => 0))
  | 8 => .inl (E.2.2 0, 9, .inl (fun _ => 0))
  | 9 => .inl (E.2.2 0, 9, .inl (fun _ => 0))
  | 10 => .inl (E.2.2 0, 9, .inl (fun _ => 0))
  | 11 => .inl (E.2.2 0, 9, .inl (fun _ => 0))
  | 12 => .inl (E.2.2 0, 9, .inl (fun _ => 0))
  | 13 => .inl (E.2.2 0, 216, .inl (fun _ => 0))
  | 14 => .inl (E.2.2 0, 216, .inl (fun _ => 0))
  | 15 => .inl (E.2.2 0, 20, .inl (fun _ => 0))
  | 16 => .inl (E.2.2 0, 20, .inl (fun _ => 0))
  | 17 => .inl (E.2.2 0, 20, .inl (fun _ => 0))
  | 18 => .inl (E.2.2 0, 20, .inl (fun _ => 0))
  | 19 => .inl (E.2.2 0, 4, .inl (upd (upd (upd (upd (fun _ => 0) (0 : Int32).toNatClampNeg (-1)) (1 : Int32).toNatClampNeg (-1)) (2 : Int32).toNatClampNeg (-1)) (3 : Int32).toNatClampNeg (-1)))
  | 20 => .inl (E.2.2 0, 4, .inl (fun _ => 0))
  | 21 => .inl (E.2.2 0, 160, .inl (fun _ => 0))
  | 22 => .inl (E.2.2 0, 3, .inl (fun _ => 0))
  | 23 => .inl (E.2.2 0, 48, .inl (fun _ => 0))
  | _ => .inl (E.2.2 0, 0, .inl (fun _ => 0))
set_option maxRecDepth 100000 in
set_option maxHeartbeats 8000000 in
theorem ctc_X9_init (l : Launch) (E : zk_E) (b : Nat) : Met l yX9_init wsX9_init { frames := 1, cells := 23, slots := 913, locals := 12 } (va_Pc [.ref (b + 79)] (zc_W E b 80 (zc_m (zc_M8 E b) 79 (.inr (8, [.null, .int 0, .int 0, .null, .null, .null, .null, .null, .int 0, .null, .null, .null, .null, .null, .null, .null, .null, .int 0, .null, .null, .null, .null, .int 0, .int 0, .null, .null, .null, .int 0, .long 0, .null, .int 0, .null]))))) (zc_Qv E b 103 (zc_M9 E b)) 23 913 (zc_A b) := by
  refine zc_met (cc := cX9_init) (maxL := 1) (own := RX9) (by decide) rfl rfl rfl (Nat.le_of_ble_eq_true rfl) ?_
  intro p e s m args below meth c X hr hn2
  have iX9 : ∀ w ∈ u_ws RX9 TX9 32, w ∈ wsX9_init := by decide +kernel
  have w0 : Cond.methodLink RX9 1 objectInit ∈ wsX9_init := by decide +kernel
  have w1 : Cond.instanceMethod objectInit ∈ wsX9_init := by decide +kernel
  have w2 : Cond.code objectInit ⟨#[0xb1]⟩ 1 none ∈ wsX9_init := by decide +kernel
  have w3 : Cond.arrayClass .int ∈ wsX9_init := by decide +kernel
  have w4 : Cond.fieldLink RX9 7 "HiddenWorksModel" "tape" "[I" ∈ wsX9_init := by decide +kernel
  have w5 : Cond.fieldLink RX9 13 "HiddenWorksModel" "rKind" "[I" ∈ wsX9_init := by decide +kernel
  have w6 : Cond.fieldLink RX9 16 "HiddenWorksModel" "rLetters" "[I" ∈ wsX9_init := by decide +kernel
  have w7 : Cond.fieldLink RX9 19 "HiddenWorksModel" "rClauses" "[I" ∈ wsX9_init := by decide +kernel
  have w8 : Cond.fieldLink RX9 22 "HiddenWorksModel" "rWide" "[I" ∈ wsX9_init := by decide +kernel
  have w9 : Cond.fieldLink RX9 25 "HiddenWorksModel" "rWeight" "[I" ∈ wsX9_init := by decide +kernel
  have w10 : Cond.fieldLink RX9 28 "HiddenWorksModel" "kind" "[I" ∈ wsX9_init := by decide +kernel
  have w11 : Cond.fieldLink RX9 31 "HiddenWorksModel" "letters" "[I" ∈ wsX9_init := by decide +kernel
  have w12 : Cond.fieldLink RX9 34 "HiddenWorksModel" "clauses" "[I" ∈ wsX9_init := by decide +kernel
  have w13 : Cond.fieldLink RX9 37 "HiddenWorksModel" "hidden" "[I" ∈ wsX9_init := by decide +kernel
  have w14 : Cond.fieldLink RX9 40 "HiddenWorksModel" "recipeOf" "[I" ∈ wsX9_init := by decide +kernel
  have w15 : Cond.fieldLink RX9 43 "HiddenWorksModel" "seedOf" "[I" ∈ wsX9_init := by decide +kernel
  have w16 : Cond.fieldLink RX9 46 "HiddenWorksModel" "plain" "[I" ∈ wsX9_init := by decide +kernel
  have w17 : Cond.fieldLink RX9 49 "HiddenWorksModel" "against" "[I" ∈ wsX9_init := by decide +kernel
  have w18 : Cond.fieldLink RX9 52 "HiddenWorksModel" "claimTask" "[I" ∈ wsX9_init := by decide +kernel
  have w19 : Cond.fieldLink RX9 55 "HiddenWorksModel" "claimSteps" "[I" ∈ wsX9_init := by decide +kernel
  have w20 : Cond.fieldLink RX9 58 "HiddenWorksModel" "claimState" "[I" ∈ wsX9_init := by decide +kernel
  have w21 : Cond.fieldLink RX9 61 "HiddenWorksModel" "claimBy" "[I" ∈ wsX9_init := by decide +kernel
  have w22 : Cond.fieldLink RX9 64 "HiddenWorksModel" "sheetSort" "[I" ∈ wsX9_init := by decide +kernel
  have w23 : Cond.fieldLink RX9 67 "HiddenWorksModel" "sheetSize" "[I" ∈ wsX9_init := by decide +kernel
  have w24 : Cond.fieldLink RX9 70 "HiddenWorksModel" "cells" "[I" ∈ wsX9_init := by decide +kernel
  have w25 : Cond.fieldLink RX9 73 "HiddenWorksModel" "chosen" "[I" ∈ wsX9_init := by decide +kernel
  have w26 : Cond.fieldLink RX9 76 "HiddenWorksModel" "signs" "[I" ∈ wsX9_init := by decide +kernel
  refine zc_aload_n X 0 dX9_init_0 rfl rfl ?_
  refine zc_obj X w0 w1 w2 dX9_init_1 (Nat.le_of_ble_eq_true rfl) (Nat.le_of_ble_eq_true rfl) ?_
  refine zc_aload_n X 0 dX9_init_4 rfl rfl ?_
  refine zc_bipush X (v := 80) dX9_init_5 (by decide) ?_
  refine zc_newi X w3 (by decide) (N' := 80) rfl (by decide) (N1 := 81) (c1 := 1) (s1 := 80) rfl rfl rfl (Nat.le_of_ble_eq_true rfl) (Nat.le_of_ble_eq_true rfl) dX9_init_7 ?_
  refine zc_putF X iX9 tyX9 tyX9_ok nmX9 hn2 (by decide) (i := 79) rfl rfl 0 (by decide) w4 rfl rfl (ty := .array .int) (by decide +kernel) rfl rfl (Nat.le_of_ble_eq_true rfl) (fs1 := [.ref (b + 80), .int 0, .int 0, .null, .null, .null, .null, .null, .int 0, .null, .null, .null, .null, .null, .null, .null, .null, .int 0, .null, .null, .null, .null, .int 0, .int 0, .null, .null, .null, .int 0, .long 0, .null, .int 0, .null]) rfl dX9_init_9 ?_
  refine zc_aload_n X 0 dX9_init_12 rfl rfl ?_
  refine zc_bipush X (v := 6) dX9_init_13 (by decide) ?_
  refine zc_newi X w3 (by decide) (N' := 6) rfl (by decide) (N1 := 82) (c1 := 2) (s1 := 86) rfl rfl rfl (Nat.le_of_ble_eq_true rfl) (Nat.le_of_ble_eq_true rfl) dX9_init_15 ?_
  refine zc_putF X iX9 tyX9 tyX9_ok nmX9 hn2 (by decide) (i := 79) rfl rfl 3 (by decide) w5 rfl rfl (ty := .array .int) (by decide +kernel) rfl rfl (Nat.le_of_ble_eq_true rfl) (fs1 := [.ref (b + 80), .int 0, .int 0, .ref (b + 81), .null, .null, .null, .null, .int 0, .null, .null, .null, .null, .null, .null, .null, .null, .int 0, .null, .null, .null, .null, .int 0, .int 0, .null, .null, .null, .int 0, .long 0, .null, .int 0, .null]) rfl dX9_init_17 ?_
  refine zc_aload_n X 0 dX9_init_20 rfl rfl ?_
  refine zc_bipush X (v := 6) dX9_init_21 (by decide) ?_
  refine zc_newi X w3 (by decide) (N' := 6) rfl (by decide) (N1 := 83) (c1 := 3) (s1 := 92) rfl rfl rfl (Nat.le_of_ble_eq_true rfl) (Nat.le_of_ble_eq_true rfl) dX9_init_23 ?_
  refine zc_putF X iX9 tyX9 tyX9_ok nmX9 hn2 (by decide) (i := 79) rfl rfl 4 (by decide) w6 rfl rfl (ty := .array .int) (by decide +kernel) rfl rfl (Nat.le_of_ble_eq_true rfl) (fs1 := [.ref (b + 80), .int 0, .int 0, .ref (b + 81), .ref (b + 82), .null, .null, .null, .int 0, .null, .null, .null, .null, .null, .null, .null, .null, .int 0, .null, .null, .null, .null, .int 0, .int 0, .null, .null, .null, .int 0, .long 0, .null, .int 0, .null]) rfl dX9_init_25 ?_
  refine zc_aload_n X 0 dX9_init_28 rfl rfl ?_
  refine zc_bipush X (v := 6) dX9_init_29 (by decide) ?_
  refine zc_newi X w3 (by decide) (N' := 6) rfl (by decide) (N1 := 84) (c1 := 4) (s1 := 98) rfl rfl rfl (Nat.le_of_ble_eq_true rfl) (Nat.le_of_ble_eq_true rfl) dX9_init_31 ?_
  refine zc_putF X iX9 tyX9 tyX9_ok nmX9 hn2 (by decide) (i := 79) rfl rfl 5 (by decide) w7 rfl rfl (ty := .array .int) (by decide +kernel) rfl rfl (Nat.le_of_ble_eq_true rfl) (fs1 := [.ref (b + 80), .int 0, .int 0, .ref (b + 81), .ref (b + 82), .ref (b + 83), .null, .null, .int 0, .null, .null, .null, .null, .null, .null, .null, .null, .int 0, .null, .null, .null, .null, .int 0, .int 0, .null, .null, .null, .int 0, .long 0, .null, .int 0, .null]) rfl dX9_init_33 ?_
  refine zc_aload_n X 0 dX9_init_36 rfl rfl ?_
  refine zc_bipush X (v := 6) dX9_init_37 (by decide) ?_
  refine zc_newi X w3 (by decide) (N' := 6) rfl (by decide) (N1 := 85) (c1 := 5) (s1 := 104) rfl rfl rfl (Nat.le_of_ble_eq_true rfl) (Nat.le_of_ble_eq_true rfl) dX9_init_39 ?_
  refine zc_putF X iX9 tyX9 tyX9_ok nmX9 hn2 (by decide) (i := 79) rfl rfl 6 (by decide) w8 rfl rfl (ty := .array .int) (by decide +kernel) rfl rfl (Nat.le_of_ble_eq_true rfl) (fs1 := [.ref (b + 80), .int 0, .int 0, .ref (b + 81), .ref (b + 82), .ref (b + 83), .ref (b + 84), .null, .int 0, .null, .null, .null, .null, .null, .null, .null, .null, .int 0, .null, .null, .null, .null, .int 0, .int 0, .null, .null, .null, .int 0, .long 0, .null, .int 0, .null]) rfl dX9_init_41 ?_
  refine zc_aload_n X 0 dX9_init_44 rfl rfl ?_
  refine zc_bipush X (v := 24) dX9_init_45 (by decide) ?_
  refine zc_newi X w3 (by decide) (N' := 24) rfl (by decide) (N1 := 86) (c1 := 6) (s1 := 128) rfl rfl rfl (Nat.le_of_ble_eq_true rfl) (Nat.le_of_ble_eq_true rfl) dX9_init_47 ?_
  refine zc_putF X iX9 tyX9 tyX9_ok nmX9 hn2 (by decide) (i := 79) rfl rfl 7 (by decide) w9 rfl rfl (ty := .array .int) (by decide +kernel) rfl rfl (Nat.le_of_ble_eq_true rfl) (fs1 := [.ref (b + 80), .int 0, .int 0, .ref (b + 81), .ref (b + 82), .ref (b + 83), .ref (b + 84), .ref (b + 85), .int 0, .null, .null, .null, .null, .null, .null, .null, .null, .int 0, .null, .null, .null, .null, .int 0, .int 0, .null, .null, .null, .int 0, .long 0, .null, .int 0, .null]) rfl dX9_init_49 ?_
  refine zc_aload_n X 0 dX9_init_52 rfl rfl ?_
  refine zc_bipush X (v := 9) dX9_init_53 (by decide) ?_
  refine zc_newi X w3 (by decide) (N' := 9) rfl (by decide) (N1 := 87) (c1 := 7) (s1 := 137) rfl rfl rfl (Nat.le_of_ble_eq_true rfl) (Nat.le_of_ble_eq_true rfl) dX9_init_55 ?_
  refine zc_putF X iX9 tyX9 tyX9_ok nmX9 hn2 (by decide) (i := 79) rfl rfl 9 (by decide) w10 rfl rfl (ty := .array .int) (by decide +kernel) rfl rfl (Nat.le_of_ble_eq_true rfl) (fs1 := [.ref (b + 80), .int 0, .int 0, .ref (b + 81), .ref (b + 82), .ref (b + 83), .ref (b + 84), .ref (b + 85), .int 0, .ref (b + 86), .null, .null, .null, .null, .null, .null, .null, .int 0, .null, .null, .null, .null, .int 0, .int 0, .null, .null, .null, .int 0, .long 0, .null, .int 0, .null]) rfl dX9_init_57 ?_
  refine zc_aload_n X 0 dX9_init_60 rfl rfl ?_
  refine zc_bipush X (v := 9) dX9_init_61 (by decide) ?_
  refine zc_newi X w3 (by decide) (N' := 9) rfl (by decide) (N1 := 88) (c1 := 8) (s1 := 146) rfl rfl rfl (Nat.le_of_ble_eq_true rfl) (Nat.le_of_ble_eq_true rfl) dX9_init_63 ?_
  refine zc_putF X iX9 tyX9 tyX9_ok nmX9 hn2 (by decide) (i := 79) rfl rfl 10 (by decide) w11 rfl rfl (ty := .array .int) (by decide +kernel) rfl rfl (Nat.le_of_ble_eq_true rfl) (fs1 := [.ref (b + 80), .int 0, .int 0, .ref (b + 81), .ref (b + 82), .ref (b + 83), .ref (b + 84), .ref (b + 85), .int 0, .ref (b + 86), .ref (b + 87), .null, .null, .null, .null, .null, .null, .int 0, .null, .null, .null, .null, .int 0, .int 0, .null, .null, .null, .int 0, .long 0, .null, .int 0, .null]) rfl dX9_init_65 ?_
  refine zc_aload_n X 0 dX9_init_68 rfl rfl ?_
  refine zc_bipush X (v := 9) dX9_init_69 (by decide) ?_
  refine zc_newi X w3 (by decide) (N' := 9) rfl (by decide) (N1 := 89) (c1 := 9) (s1 := 155) rfl rfl rfl (Nat.le_of_ble_eq_true rfl) (Nat.le_of_ble_eq_true rfl) dX9_init_71 ?_
  refine zc_putF X iX9 tyX9 tyX9_ok nmX9 hn2 (by decide) (i := 79) rfl rfl 11 (by decide) w12 rfl rfl (ty := .array .int) (by decide +kernel) rfl rfl (Nat.le_of_ble_eq_true rfl) (fs1 := [.ref (b + 80), .int 0, .int 0, .ref (b + 81), .ref (b + 82), .ref (b + 83), .ref (b + 84), .ref (b + 85), .int 0, .ref (b + 86), .ref (b + 87), .ref (b + 88), .null, .null, .null, .null, .null, .int 0, .null, .null, .null, .null, .int 0, .int 0, .null, .null, .null, .int 0, .long 0, .null, .int 0, .null]) rfl dX9_init_73 ?_
  refine zc_aload_n X 0 dX9_init_76 rfl rfl ?_
  refine zc_bipush X (v := 9) dX9_init_77 (by decide) ?_
  refine zc_newi X w3 (by decide) (N' := 9) rfl (by decide) (N1 := 90) (c1 := 10) (s1 := 164) rfl rfl rfl (Nat.le_of_ble_eq_true rfl) (Nat.le_of_ble_eq_true rfl) dX9_init_79 ?_
  refine zc_putF X iX9 tyX9 tyX9_ok nmX9 hn2 (by decide) (i := 79) rfl rfl 12 (by decide) w13 rfl rfl (ty := .array .int) (by decide +kernel) rfl rfl (Nat.le_of_ble_eq_true rfl) (fs1 := [.ref (b + 80), .int 0, .int 0, .ref (b + 81), .ref (b + 82), .ref (b + 83), .ref (b + 84), .ref (b + 85), .int 0, .ref (b + 86), .ref (b + 87), .ref (b + 88), .ref (b + 89), .null, .null, .null, .null, .int 0, .null, .null, .null, .null, .int 0, .int 0, .null, .null, .null, .int 0, .long 0, .null, .int 0, .null]) rfl dX9_init_81 ?_
  refine zc_aload_n X 0 dX9_init_84 rfl rfl ?_
  refine zc_bipush X (v := 9) dX9_init_85 (by decide) ?_
  refine zc_newi X w3 (by decide) (N' := 9) rfl (by decide) (N1 := 91) (c1 := 11) (s1 := 173) rfl rfl rfl (Nat.le_of_ble_eq_true rfl) (Nat.le_of_ble_eq_true rfl) dX9_init_87 ?_
  refine zc_putF X iX9 tyX9 tyX9_ok nmX9 hn2 (by decide) (i := 79) rfl rfl 13 (by decide) w14 rfl rfl (ty := .array .int) (by decide +kernel) rfl rfl (Nat.le_of_ble_eq_true rfl) (fs1 := [.ref (b + 80), .int 0, .int 0, .ref (b + 81), .ref (b + 82), .ref (b + 83), .ref (b + 84), .ref (b + 85), .int 0, .ref (b + 86), .ref (b + 87), .ref (b + 88), .ref (b + 89), .ref (b + 90), .null, .null, .null, .int 0, .null, .null, .null, .null, .int 0, .int 0, .null, .null, .null, .int 0, .long 0, .null, .int 0, .null]) rfl dX9_init_89 ?_
  refine zc_aload_n X 0 dX9_init_92 rfl rfl ?_
  refine zc_bipush X (v := 9) dX9_init_93 (by decide) ?_
  refine zc_newi X w3 (by decide) (N' := 9) rfl (by decide) (N1 := 92) (c1 := 12) (s1 := 182) rfl rfl rfl (Nat.le_of_ble_eq_true rfl) (Nat.le_of_ble_eq_true rfl) dX9_init_95 ?_
  refine zc_putF X iX9 tyX9 tyX9_ok nmX9 hn2 (by decide) (i := 79) rfl rfl 14 (by decide) w15 rfl rfl (ty := .array .int) (by decide +kernel) rfl rfl (Nat.le_of_ble_eq_true rfl) (fs1 := [.ref (b + 80), .int 0, .int 0, .ref (b + 81), .ref (b + 82), .ref (b + 83), .ref (b + 84), .ref (b + 85), .int 0, .ref (b + 86), .ref (b + 87), .ref (b + 88), .ref (b + 89), .ref (b + 90), .ref (b + 91), .null, .null, .int 0, .null, .null, .null, .null, .int 0, .int 0, .null, .null, .null, .int 0, .long 0, .null, .int 0, .null]) rfl dX9_init_97 ?_
  refine zc_aload_n X 0 dX9_init_100 rfl rfl ?_
  refine zc_sipush X (v := 216) dX9_init_101 (by decide) ?_
  refine zc_newi X w3 (by decide) (N' := 216) rfl (by decide) (N1 := 93) (c1 := 13) (s1 := 398) rfl rfl rfl (Nat.le_of_ble_eq_true rfl) (Nat.le_of_ble_eq_true rfl) dX9_init_104 ?_
  refine zc_putF X iX9 tyX9 tyX9_ok nmX9 hn2 (by decide) (i := 79) rfl rfl 15 (by decide) w16 rfl rfl (ty := .array .int) (by decide +kernel) rfl rfl (Nat.le_of_ble_eq_true rfl) (fs1 := [.ref (b + 80), .int 0, .int 0, .ref (b + 81), .ref (b + 82), .ref (b + 83), .ref (b + 84), .ref (b + 85), .int 0, .ref (b + 86), .ref (b + 87), .ref (b + 88), .ref (b + 89), .ref (b + 90), .ref (b + 91), .ref (b + 92), .null, .int 0, .null, .null, .null, .null, .int 0, .int 0, .null, .null, .null, .int 0, .long 0, .null, .int 0, .null]) rfl dX9_init_106 ?_
  refine zc_aload_n X 0 dX9_init_109 rfl rfl ?_
  refine zc_sipush X (v := 216) dX9_init_110 (by decide) ?_
  refine zc_newi X w3 (by decide) (N' := 216) rfl (by decide) (N1 := 94) (c1 := 14) (s1 := 614) rfl rfl rfl (Nat.le_of_ble_eq_true rfl) (Nat.le_of_ble_eq_true rfl) dX9_init_113 ?_
  refine zc_putF X iX9 tyX9 tyX9_ok nmX9 hn2 (by decide) (i := 79) rfl rfl 16 (by decide) w17 rfl rfl (ty := .array .int) (by decide +kernel) rfl rfl (Nat.le_of_ble_eq_true rfl) (fs1 := [.ref (b + 80), .int 0, .int 0, .ref (b + 81), .ref (b + 82), .ref (b + 83), .ref (b + 84), .ref (b + 85), .int 0, .ref (b + 86), .ref (b + 87), .ref (b + 88), .ref (b + 89), .ref (b + 90), .ref (b + 91), .ref (b + 92), .ref (b + 93), .int 0, .null, .null, .null, .null, .int 0, .int 0, .null, .null, .null, .int 0, .long 0, .null, .int 0, .null]) rfl dX9_init_115 ?_
  refine zc_aload_n X 0 dX9_init_118 rfl rfl ?_
  refine zc_bipush X (v := 20) dX9_init_119 (by decide) ?_
  refine zc_newi X w3 (by decide) (N' := 20) rfl (by decide) (N1 := 95) (c1 := 15) (s1 := 634) rfl rfl rfl (Nat.le_of_ble_eq_true rfl) (Nat.le_of_ble_eq_true rfl) dX9_init_121 ?_
  refine zc_putF X iX9 tyX9 tyX9_ok nmX9 hn2 (by decide) (i := 79) rfl rfl 18 (by decide) w18 rfl rfl (ty := .array .int) (by decide +kernel) rfl rfl (Nat.le_of_ble_eq_true rfl) (fs1 := [.ref (b + 80), .int 0, .int 0, .ref (b + 81), .ref (b + 82), .ref (b + 83), .ref (b + 84), .ref (b + 85), .int 0, .ref (b + 86), .ref (b + 87), .ref (b + 88), .ref (b + 89), .ref (b + 90), .ref (b + 91), .ref (b + 92), .ref (b + 93), .int 0, .ref (b + 94), .null, .null, .null, .int 0, .int 0, .null, .null, .null, .int 0, .long 0, .null, .int 0, .null]) rfl dX9_init_123 ?_
  refine zc_aload_n X 0 dX9_init_126 rfl rfl ?_
  refine zc_bipush X (v := 20) dX9_init_127 (by decide) ?_
  refine zc_newi X w3 (by decide) (N' := 20) rfl (by decide) (N1 := 96) (c1 := 16) (s1 := 654) rfl rfl rfl (Nat.le_of_ble_eq_true rfl) (Nat.le_of_ble_eq_true rfl) dX9_init_129 ?_
  refine zc_putF X iX9 tyX9 tyX9_ok nmX9 hn2 (by decide) (i := 79) rfl rfl 19 (by decide) w19 rfl rfl (ty := .array .int) (by decide +kernel) rfl rfl (Nat.le_of_ble_eq_true rfl) (fs1 := [.ref (b + 80), .int 0, .int 0, .ref (b + 81), .ref (b + 82), .ref (b + 83), .ref (b + 84), .ref (b + 85), .int 0, .ref (b + 86), .ref (b + 87), .ref (b + 88), .ref (b + 89), .ref (b + 90), .ref (b + 91), .ref (b + 92), .ref (b + 93), .int 0, .ref (b + 94), .ref (b + 95), .null, .null, .int 0, .int 0, .null, .null, .null, .int 0, .long 0, .null, .int 0, .null]) rfl dX9_init_131 ?_
  refine zc_aload_n X 0 dX9_init_134 rfl rfl ?_
  refine zc_bipush X (v := 20) dX9_init_135 (by decide) ?_
  refine zc_newi X w3 (by decide) (N' := 20) rfl (by decide) (N1 := 97) (c1 := 17) (s1 := 674) rfl rfl rfl (Nat.le_of_ble_eq_true rfl) (Nat.le_of_ble_eq_true rfl) dX9_init_137 ?_
  refine zc_putF X iX9 tyX9 tyX9_ok nmX9 hn2 (by decide) (i := 79) rfl rfl 20 (by decide) w20 rfl rfl (ty := .array .int) (by decide +kernel) rfl rfl (Nat.le_of_ble_eq_true rfl) (fs1 := [.ref (b + 80), .int 0, .int 0, .ref (b + 81), .ref (b + 82), .ref (b + 83), .ref (b + 84), .ref (b + 85), .int 0, .ref (b + 86), .ref (b + 87), .ref (b + 88), .ref (b + 89), .ref (b + 90), .ref (b + 91), .ref (b + 92), .ref (b + 93), .int 0, .ref (b + 94), .ref (b + 95), .ref (b + 96), .null, .int 0, .int 0, .null, .null, .null, .int 0, .long 0, .null, .int 0, .null]) rfl dX9_init_139 ?_
  refine zc_aload_n X 0 dX9_init_142 rfl rfl ?_
  refine zc_bipush X (v := 20) dX9_init_143 (by decide) ?_
  refine zc_newi X w3 (by decide) (N' := 20) rfl (by decide) (N1 := 98) (c1 := 18) (s1 := 694) rfl rfl rfl (Nat.le_of_ble_eq_true rfl) (Nat.le_of_ble_eq_true rfl) dX9_init_145 ?_
  refine zc_putF X iX9 tyX9 tyX9_ok nmX9 hn2 (by decide) (i := 79) rfl rfl 21 (by decide) w21 rfl rfl (ty := .array .int) (by decide +kernel) rfl rfl (Nat.le_of_ble_eq_true rfl) (fs1 := [.ref (b + 80), .int 0, .int 0, .ref (b + 81), .ref (b + 82), .ref (b + 83), .ref (b + 84), .ref (b + 85), .int 0, .ref (b + 86), .ref (b + 87), .ref (b + 88), .ref (b + 89), .ref (b + 90), .ref (b + 91), .ref (b + 92), .ref (b + 93), .int 0, .ref (b + 94), .ref (b + 95), .ref (b + 96), .ref (b + 97), .int 0, .int 0, .null, .null, .null, .int 0, .long 0, .null, .int 0, .null]) rfl dX9_init_147 ?_
  refine zc_aload_n X 0 dX9_init_150 rfl rfl ?_
  refine zc_iconst X (v := 4) dX9_init_151 (by decide) ?_
  refine zc_newi X w3 (by decide) (N' := 4) rfl (by decide) (N1 := 99) (c1 := 19) (s1 := 698) rfl rfl rfl (Nat.le_of_ble_eq_true rfl) (Nat.le_of_ble_eq_true rfl) dX9_init_152 ?_
  refine zc_dup X dX9_init_154 rfl ?_
  refine zc_iconst X (v := 0) dX9_init_155 (by decide) ?_
  refine zc_iconst X (v := -1) dX9_init_156 (by decide) ?_
  refine zc_iast X (i := 98) (by decide) rfl (by unfold vp_in; decide) dX9_init_157 ?_
  refine zc_dup X dX9_init_158 rfl ?_
  refine zc_iconst X (v := 1) dX9_init_159 (by decide) ?_
  refine zc_iconst X (v := -1) dX9_init_160 (by decide) ?_
  refine zc_iast X (i := 98) (by decide) rfl (by unfold vp_in; decide) dX9_init_161 ?_
  refine zc_dup X dX9_init_162 rfl ?_
  refine zc_iconst X (v := 2) dX9_init_163 (by decide) ?_
  refine zc_iconst X (v := -1) dX9_init_164 (by decide) ?_
  refine zc_iast X (i := 98) (by decide) rfl (by unfold vp_in; decide) dX9_init_165 ?_
  refine zc_dup X dX9_init_166 rfl ?_
  refine zc_iconst X (v := 3) dX9_init_167 (by decide) ?_
  refine zc_iconst X (v := -1) dX9_init_168 (by decide) ?_
  refine zc_iast X (i := 98) (by decide) rfl (by unfold vp_in; decide) dX9_init_169 ?_
  refine zc_putF X iX9 tyX9 tyX9_ok nmX9 hn2 (by decide) (i := 79) rfl rfl 24 (by decide) w22 rfl rfl (ty := .array .int) (by decide +kernel) rfl rfl (Nat.le_of_ble_eq_true rfl) (fs1 := [.ref (b + 80), .int 0, .int 0, .ref (b + 81), .ref (b + 82), .ref (b + 83), .ref (b + 84), .ref (b + 85), .int 0, .ref (b + 86), .ref (b + 87), .ref (b + 88), .ref (b + 89), .ref (b + 90), .ref (b + 91), .ref (b + 92), .ref (b + 93), .int 0, .ref (b + 94), .ref (b + 95), .ref (b + 96), .ref (b + 97), .int 0, .int 0, .ref (b + 98), .null, .null, .int 0, .long 0, .null, .int 0, .null]) rfl dX9_init_170 ?_
  refine zc_aload_n X 0 dX9_init_173 rfl rfl ?_
  refine zc_iconst X (v := 4) dX9_init_174 (by decide) ?_
  refine zc_newi X w3 (by decide) (N' := 4) rfl (by decide) (N1 := 100) (c1 := 20) (s1 := 702) rfl rfl rfl (Nat.le_of_ble_eq_true rfl) (Nat.le_of_ble_eq_true rfl) dX9_init_175 ?_
  refine zc_putF X iX9 tyX9 tyX9_ok nmX9 hn2 (by decide) (i := 79) rfl rfl 25 (by decide) w23 rfl rfl (ty := .array .int) (by decide +kernel) rfl rfl (Nat.le_of_ble_eq_true rfl) (fs1 := [.ref (b + 80), .int 0, .int 0, .ref (b + 81), .ref (b + 82), .ref (b + 83), .ref (b + 84), .ref (b + 85), .int 0, .ref (b + 86), .ref (b + 87), .ref (b + 88), .ref (b + 89), .ref (b + 90), .ref (b + 91), .ref (b + 92), .ref (b + 93), .int 0, .ref (b + 94), .ref (b + 95), .ref (b + 96), .ref (b + 97), .int 0, .int 0, .ref (b + 98), .ref (b + 99), .null, .int 0, .long 0, .null, .int 0, .null]) rfl dX9_init_177 ?_
  refine zc_aload_n X 0 dX9_init_180 rfl rfl ?_
  refine zc_sipush X (v := 160) dX9_init_181 (by decide) ?_
  refine zc_newi X w3 (by decide) (N' := 160) rfl (by decide) (N1 := 101) (c1 := 21) (s1 := 862) rfl rfl rfl (Nat.le_of_ble_eq_true rfl) (Nat.le_of_ble_eq_true rfl) dX9_init_184 ?_
  refine zc_putF X iX9 tyX9 tyX9_ok nmX9 hn2 (by decide) (i := 79) rfl rfl 26 (by decide) w24 rfl rfl (ty := .array .int) (by decide +kernel) rfl rfl (Nat.le_of_ble_eq_true rfl) (fs1 := [.ref (b + 80), .int 0, .int 0, .ref (b + 81), .ref (b + 82), .ref (b + 83), .ref (b + 84), .ref (b + 85), .int 0, .ref (b + 86), .ref (b + 87), .ref (b + 88), .ref (b + 89), .ref (b + 90), .ref (b + 91), .ref (b + 92), .ref (b + 93), .int 0, .ref (b + 94), .ref (b + 95), .ref (b + 96), .ref (b + 97), .int 0, .int 0, .ref (b + 98), .ref (b + 99), .ref (b + 100), .int 0, .long 0, .null, .int 0, .null]) rfl dX9_init_186 ?_
  refine zc_aload_n X 0 dX9_init_189 rfl rfl ?_
  refine zc_iconst X (v := 3) dX9_init_190 (by decide) ?_
  refine zc_newi X w3 (by decide) (N' := 3) rfl (by decide) (N1 := 102) (c1 := 22) (s1 := 865) rfl rfl rfl (Nat.le_of_ble_eq_true rfl) (Nat.le_of_ble_eq_true rfl) dX9_init_191 ?_
  refine zc_putF X iX9 tyX9 tyX9_ok nmX9 hn2 (by decide) (i := 79) rfl rfl 29 (by decide) w25 rfl rfl (ty := .array .int) (by decide +kernel) rfl rfl (Nat.le_of_ble_eq_true rfl) (fs1 := [.ref (b + 80), .int 0, .int 0, .ref (b + 81), .ref (b + 82), .ref (b + 83), .ref (b + 84), .ref (b + 85), .int 0, .ref (b + 86), .ref (b + 87), .ref (b + 88), .ref (b + 89), .ref (b + 90), .ref (b + 91), .ref (b + 92), .ref (b + 93), .int 0, .ref (b + 94), .ref (b + 95), .ref (b + 96), .ref (b + 97), .int 0, .int 0, .ref (b + 98), .ref (b + 99), .ref (b + 100), .int 0, .long 0, .ref (b + 101), .int 0, .null]) rfl dX9_init_193 ?_
  refine zc_aload_n X 0 dX9_init_196 rfl rfl ?_
  refine zc_bipush X (v := 48) dX9_init_197 (by decide) ?_
  refine zc_newi X w3 (by decide) (N' := 48) rfl (by decide) (N1 := 103) (c1 := 23) (s1 := 913) rfl rfl rfl (Nat.le_of_ble_eq_true rfl) (Nat.le_of_ble_eq_true rfl) dX9_init_199 ?_
  refine zc_putF X iX9 tyX9 tyX9_ok nmX9 hn2 (by decide) (i := 79) rfl rfl 31 (by decide) w26 rfl rfl (ty := .array .int) (by decide +kernel) rfl rfl (Nat.le_of_ble_eq_true rfl) (fs1 := [.ref (b + 80), .int 0, .int 0, .ref (b + 81), .ref (b + 82), .ref (b + 83), .ref (b + 84), .ref (b + 85), .int 0, .ref (b + 86), .ref (b + 87), .ref (b + 88), .ref (b + 89), .ref (b + 90), .ref (b + 91), .ref (b + 92), .ref (b + 93), .int 0, .ref (b + 94), .ref (b + 95), .ref (b + 96), .ref (b + 97), .int 0, .int 0, .ref (b + 98), .ref (b + 99), .ref (b + 100), .int 0, .long 0, .ref (b + 101), .int 0, .ref (b + 102)]) rfl dX9_init_201 ?_
  refine zc_ret X hr (fun j hj => ?_) dX9_init_204
  match j, hj with
  | 0, _ => rfl
  | 1, _ => rfl
  | 2, _ => rfl
  | 3, _ => rfl
  | 4, _ => rfl
  | 5, _ => rfl
  | 6, _ => rfl
  | 7, _ => rfl
  | 8, _ => rfl
  | 9, _ => rfl
  | 10, _ => rfl
  | 11, _ => rfl
  | 12, _ => rfl
  | 13, _ => rfl
  | 14, _ => rfl
  | 15, _ => rfl
  | 16, _ => rfl
  | 17, _ => rfl
  | 18, _ => rfl
  | 19, _ => rfl
  | 20, _ => rfl
  | 21, _ => rfl
  | 22, _ => rfl
  | 23, _ => rfl
  | 24, _ => rfl
  | 25, _ => rfl
  | 26, _ => rfl
  | 27, _ => rfl
  | 28, _ => rfl
  | 29, _ => rfl
  | 30, _ => rfl
  | 31, _ => rfl
  | 32, _ => rfl
  | 33, _ => rfl
  | 34, _ => rfl
  | 35, _ => rfl
  | 36, _ => rfl
  | 37, _ => rfl
  | 38, _ => rfl
  | 39, _ => rfl
  | 40, _ => rfl
  | 41, _ => rfl
  | 42, _ => rfl
  | 43, _ => rfl
  | 44, _ => rfl
  | 45, _ => rfl
  | 46, _ => rfl
  | 47, _ => rfl
  | 48, _ => rfl
  | 49, _ => rfl
  | 50, _ => rfl
  | 51, _ => rfl
  | 52, _ => rfl
  | 53, _ => rfl
  | 54, _ => rfl
  | 55, _ => rfl
  | 56, _ => rfl
  | 57, _ => rfl
  | 58, _ => rfl
  | 59, _ => rfl
  | 60, _ => rfl
  | 61, _ => rfl
  | 62, _ => rfl
  | 63, _ => rfl
  | 64, _ => rfl
  | 65, _ => rfl
  | 66, _ => rfl
  | 67, _ => rfl
  | 68, _ => rfl
  | 69, _ => rfl
  | 70, _ => rfl
  | 71, _ => rfl
  | 72, _ => rfl
  | 73, _ => rfl
  | 74, _ => rfl
  | 75, _ => rfl
  | 76, _ => rfl
  | 77, _ => rfl
  | 78, _ => rfl
  | 79, _ => rfl
  | 80, _ => rfl
  | 81, _ => rfl
  | 82, _ => rfl
  | 83, _ => rfl
  | 84, _ => rfl
  | 85, _ => rfl
  | 86, _ => rfl
  | 87, _ => rfl
  | 88, _ => rfl
  | 89, _ => rfl
  | 90, _ => rfl
  | 91, _ => rfl
  | 92, _ => rfl
  | 93, _ => rfl
  | 94, _ => rfl
  | 95, _ => rfl
  | 96, _ => rfl
  | 97, _ => rfl
  | 98, _ => rfl
  | 99, _ => rfl
  | 100, _ => rfl
  | 101, _ => rfl
  | 102, _ => rfl
  | j + 103, hj => exact absurd hj (by omega)
