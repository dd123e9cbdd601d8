/-- the memory behind X8() -/
def zc_M8 (E : zk_E) (b : Nat) : Nat → va_E := fun j => match j with
  | 0 => .inr (7, [.ref (b + 1), .ref (b + 11), .ref (b + 24), .ref (b + 49), .ref (b + 70), .ref (b + 3), .ref (b + 4), .ref (b + 5), .ref (b + 8), .ref (b + 9), .ref (b + 10), .int 0, .int 0, .int 0, .int (-1)])
  | 1 => .inr (5, [.ref (b + 2), .int 0, .int 0, .int 0])
  | 2 => .inl (E.2.2 0, 80, .inl (fun _ => 0))
  | 3 => .inr (2, [.long 0])
  | 4 => .inr (1, [.int 0, .int 0])
  | 5 => .inr (6, [.int 0, .int 0, .int 0, .int 0, .int 0, .int 0, .ref (b + 6), .ref (b + 7)])
  | 6 => .inl (E.2.2 0, 24, .inl (fun _ => 0))
  | 7 => .inl (E.2.2 0, 24, .inl (fun _ => 0))
  | 8 => .inl (E.2.2 0, 24, .inl (fun _ => 0))
  | 9 => .inl (E.2.2 0, 24, .inl (fun _ => 0))
  | 10 => .inl (E.2.2 0, 10, .inl (fun _ => 0))
  | 11 => .inl (E.2.2 2, 6, .inr (.inr (.inr (.inr (va_up (va_up (va_up (va_up (va_up (va_up (fun _ => none) (0 : Int32).toNatClampNeg (some (b + 12))) (1 : Int32).toNatClampNeg (some (b + 14))) (2 : Int32).toNatClampNeg (some (b + 16))) (3 : Int32).toNatClampNeg (some (b + 18))) (4 : Int32).toNatClampNeg (some (b + 20))) (5 : Int32).toNatClampNeg (some (b + 22)))))))
  | 12 => .inr (3, [.int 0, .int 0, .int 0, .int 0, .ref (b + 13)])
  | 13 => .inl (E.2.2 0, 4, .inl (fun _ => 0))
  | 14 => .inr (3, [.int 0, .int 0, .int 0, .int 0, .ref (b + 15)])
  | 15 => .inl (E.2.2 0, 4, .inl (fun _ => 0))
  | 16 => .inr (3, [.int 0, .int 0, .int 0, .int 0, .ref (b + 17)])
  | 17 => .inl (E.2.2 0, 4, .inl (fun _ => 0))
  | 18 => .inr (3, [.int 0, .int 0, .int 0, .int 0, .ref (b + 19)])
  | 19 => .inl (E.2.2 0, 4, .inl (fun _ => 0))
  | 20 => .inr (3, [.int 0, .int 0, .int 0, .int 0, .ref (b + 21)])
  | 21 => .inl (E.2.2 0, 4, .inl (fun _ => 0))
  | 22 => .inr (3, [.int 0, .int 0, .int 0, .int 0, .ref (b + 23)])
  | 23 => .inl (E.2.2 0, 4, .inl (fun _ => 0))
  | 24 => .inl (E.2.2 4, 8, .inr (.inr (.inr (.inr (va_up (va_up (va_up (va_up (va_up (va_up (va_up (va_up (fun _ => none) (0 : Int32).toNatClampNeg (some (b + 25))) (1 : Int32).toNatClampNeg (some (b + 28))) (2 : Int32).toNatClampNeg (some (b + 31))) (3 : Int32).toNatClampNeg (some (b + 34))) (4 : Int32).toNatClampNeg (some (b + 37))) (5 : Int32).toNatClampNeg (some (b + 40))) (6 : Int32).toNatClampNeg (some (b + 43))) (7 : Int32).toNatClampNeg (some (b + 46)))))))
  | 25 => .inr (6, [.int 0, .int 0, .int 0, .int 0, .int 0, .int 0, .ref (b + 26), .ref (b + 27)])
  | 26 => .inl (E.2.2 0, 24, .inl (fun _ => 0))
  | 27 => .inl (E.2.2 0, 24, .inl (fun _ => 0))
  | 28 => .inr (6, [.int 0, .int 0, .int 0, .int 0, .int 0, .int 0, .ref (b + 29), .ref (b + 30)])
  | 29 => .inl (E.2.2 0, 24, .inl (fun _ => 0))
  | 30 => .inl (E.2.2 0, 24, .inl (fun _ => 0))
  | 31 => .inr (6, [.int 0, .int 0, .int 0, .int 0, .int 0, .int 0, .ref (b + 32), .ref (b + 33)])
  | 32 => .inl (E.2.2 0, 24, .inl (fun _ => 0))
  | 33 => .inl (E.2.2 0, 24, .inl (fun _ => 0))
  | 34 => .inr (6, [.int 0, .int 0, .int 0, .int 0, .int 0, .int 0, .ref (b + 35), .ref (b + 36)])
  | 35 => .inl (E.2.2 0, 24, .inl (fun _ => 0))
  | 36 => .inl (E.2.2 0, 24, .inl (fun _ => 0))
  | 37 => .inr (6, [.int 0, .int 0, .int 0, .int 0, .int 0, .int 0, .ref (b + 38), .ref (b + 39)])
  | 38 => .inl (E.2.2 0, 24, .inl (fun _ => 0))
  | 39 => .inl (E.2.2 0, 24, .inl (fun _ => 0))
  | 40 => .inr (6, [.int 0, .int 0, .int 0, .int 0, .int 0, .int 0, .ref (b + 41), .ref (b + 42)])
  | 41 => .inl (E.2.2 0, 24, .inl (fun _ => 0))
  | 42 => .inl (E.2.2 0, 24, .inl (fun _ => 0))
  | 43 => .inr (6, [.int 0, .int 0, .int 0, .int 0, .int 0, .int 0, .ref (b + 44), .ref (b + 45)])
  | 44 => .inl (E.2.2 0, 24, .inl (fun _ => 0))
  | 45 => .inl (E.2.2 0, 24, .inl (fun _ => 0))
  | 46 => .inr (6, [.int 0, .int 0, .int 0, .int 0, .int 0, .int 0, .ref (b + 47), .ref (b + 48)])
  | 47 => .inl (E.2.2 0, 24, .inl (fun _ => 0))
  | 48 => .inl (E.2.2 0, 24, .inl (fun _ => 0))
  | 49 => .inl (E.2.2 1, 20, .inr (.inr (.inr (.inr (va_up (va_up (va_up (va_up (va_up (va_up (va_up (va_up (va_up (va_up (va_up (va_up (va_up (va_up (va_up (va_up (va_up (va_up (va_up (va_up (fun _ => none) (0 : Int32).toNatClampNeg (some (b + 50))) (1 : Int32).toNatClampNeg (some (b + 51))) (2 : Int32).toNatClampNeg (some (b + 52))) (3 : Int32).toNatClampNeg (some (b + 53))) (4 : Int32).toNatClampNeg (some (b + 54))) (5 : Int32).toNatClampNeg (some (b + 55))) (6 : Int32).toNatClampNeg (some (b + 56))) (7 : Int32).toNatClampNeg (some (b + 57))) (8 : Int32).toNatClampNeg (some (b + 58))) (9 : Int32).toNatClampNeg (some (b + 59))) (10 : Int32).toNatClampNeg (some (b + 60))) (11 : Int32).toNatClampNeg (some (b + 61))) (12 : Int32).toNatClampNeg (some (b + 62))) (13 : Int32).toNatClampNeg (some (b + 63))) (14 : Int32).toNatClampNeg (some (b + 64))) (15 : Int32).toNatClampNeg (some (b + 65))) (16 : Int32).toNatClampNeg (some (b + 66))) (17 : Int32).toNatClampNeg (some (b + 67))) (18 : Int32).toNatClampNeg (some (b + 68))) (19 : Int32).toNatClampNeg (some (b + 69)))))))
  | 50 => .inr (0, [.int 0, .int 0, .int 0, .int 0])
  | 51 => .inr (0, [.int 0, .int 0, .int 0, .int 0])
  | 52 => .inr (0, [.int 0, .int 0, .int 0, .int 0])
  | 53 => .inr (0, [.int 0, .int 0, .int 0, .int 0])
  | 54 => .inr (0, [.int 0, .int 0, .int 0, .int 0])
  | 55 => .inr (0, [.int 0, .int 0, .int 0, .int 0])
  | 56 => .inr (0, [.int 0, .int 0, .int 0, .int 0])
  | 57 => .inr (0, [.int 0, .int 0, .int 0, .int 0])
  | 58 => .inr (0, [.int 0, .int 0, .int 0, .int 0])
  | 59 => .inr (0, [.int 0, .int 0, .int 0, .int 0])
  | 60 => .inr (0, [.int 0, .int 0, .int 0, .int 0])
  | 61 => .inr (0, [.int 0, .int 0, .int 0, .int 0])
  | 62 => .inr (0, [.int 0, .int 0, .int 0, .int 0])
  | 63 => .inr (0, [.int 0, .int 0, .int 0, .int 0])
  | 64 => .inr (0, [.int 0, .int 0, .int 0, .int 0])
  | 65 => .inr (0, [.int 0, .int 0, .int 0, .int 0])
  | 66 => .inr (0, [.int 0, .int 0, .int 0, .int 0])
  | 67 => .inr (0, [.int 0, .int 0, .int 0, .int 0])
  | 68 => .inr (0, [.int 0, .int 0, .int 0, .int 0])
  | 69 => .inr (0, [.int 0, .int 0, .int 0, .int 0])
  | 70 => .inl (E.2.2 3, 4, .inr (.inr (.inr (.inr (va_up (va_up (va_up (va_up (fun _ => none) (0 : Int32).toNatClampNeg (some (b + 71))) (1 : Int32).toNatClampNeg (some (b + 73))) (2 : Int32).toNatClampNeg (some (b + 75))) (3 : Int32).toNatClampNeg (some (b + 77)))))))
  | 71 => .inr (4, [.int (-1), .int 0, .ref (b + 72)])
  | 72 => .inl (E.2.2 0, 40, .inl (fun _ => 0))
  | 73 => .inr (4, [.int (-1), .int 0, .ref (b + 74)])
  | 74 => .inl (E.2.2 0, 40, .inl (fun _ => 0))
  | 75 => .inr (4, [.int (-1), .int 0, .ref (b + 76)])
  | 76 => .inl (E.2.2 0, 40, .inl (fun _ => 0))
  | 77 => .inr (4, [.int (-1), .int 0, .ref (b + 78)])
  | 78 => .inl (E.2.2 0, 40, .inl (fun _ => 0))
  | _ => .inl (E.2.2 0, 0, .inl (fun _ => 0))
set_option maxRecDepth 100000 in
set_option maxHeartbeats 8000000 in
theorem ctc_X8_init (l : Launch) (E : zk_E) (b : Nat) : Met l yX8_init wsX8_init { frames := 2, cells := 78, slots := 993, locals := 32 } (va_Pc [.ref (b + 0)] (zc_W E b 1 (zc_m (fun _ => .inl (E.2.2 0, 0, .inl (fun _ => 0))) 0 (.inr (7, [.null, .null, .null, .null, .null, .null, .null, .null, .null, .null, .null, .int 0, .int 0, .int 0, .int 0]))))) (zc_Qv E b 79 (zc_M8 E b)) 78 993 (zc_A b) := by
  refine zc_met (cc := cX8_init) (maxL := 2) (own := RX8) (by decide) rfl rfl rfl (Nat.le_of_ble_eq_true rfl) ?_
  intro p e s m args below meth c X hr hn2
  have iX0 : ∀ w ∈ u_ws RX0 TX0 4, w ∈ wsX8_init := by decide +kernel
  have iX1 : ∀ w ∈ u_ws RX1 TX1 2, w ∈ wsX8_init := by decide +kernel
  have iX3 : ∀ w ∈ u_ws RX3 TX3 1, w ∈ wsX8_init := by decide +kernel
  have iX4 : ∀ w ∈ u_ws RX4 TX4 5, w ∈ wsX8_init := by decide +kernel
  have iX5 : ∀ w ∈ u_ws RX5 TX5 3, w ∈ wsX8_init := by decide +kernel
  have iX6 : ∀ w ∈ u_ws RX6 TX6 4, w ∈ wsX8_init := by decide +kernel
  have iX7 : ∀ w ∈ u_ws RX7 TX7 8, w ∈ wsX8_init := by decide +kernel
  have iX8 : ∀ w ∈ u_ws RX8 TX8 15, w ∈ wsX8_init := by decide +kernel
  have w0 : Cond.methodLink RX8 1 objectInit ∈ wsX8_init := by decide +kernel
  have w1 : Cond.instanceMethod objectInit ∈ wsX8_init := by decide +kernel
  have w2 : Cond.code objectInit ⟨#[0xb1]⟩ 1 none ∈ wsX8_init := by decide +kernel
  have w3 : Cond.classLink RX8 7 RX6 ∈ wsX8_init := by decide +kernel
  have w4 : Cond.instantiable RX6 4 ∈ wsX8_init := by decide +kernel
  have w5 : Cond.initialized RX6 ∈ wsX8_init := by decide +kernel
  have w6 : Cond.methodLink RX8 9 yX6_init ∈ wsX8_init := by decide +kernel
  have w7 : Cond.instanceMethod yX6_init ∈ wsX8_init := by decide +kernel
  have w8 : Cond.fieldLink RX8 10 "HiddenWorks" "tape" "LHiddenWorks$Tape;" ∈ wsX8_init := by decide +kernel
  have w9 : Cond.classLink RX8 16 RX3 ∈ wsX8_init := by decide +kernel
  have w10 : Cond.instantiable RX3 1 ∈ wsX8_init := by decide +kernel
  have w11 : Cond.initialized RX3 ∈ wsX8_init := by decide +kernel
  have w12 : Cond.methodLink RX8 18 yX3_init ∈ wsX8_init := by decide +kernel
  have w13 : Cond.instanceMethod yX3_init ∈ wsX8_init := by decide +kernel
  have w14 : Cond.fieldLink RX8 19 "HiddenWorks" "maker" "LHiddenWorks$Maker;" ∈ wsX8_init := by decide +kernel
  have w15 : Cond.classLink RX8 23 RX1 ∈ wsX8_init := by decide +kernel
  have w16 : Cond.instantiable RX1 2 ∈ wsX8_init := by decide +kernel
  have w17 : Cond.initialized RX1 ∈ wsX8_init := by decide +kernel
  have w18 : Cond.methodLink RX8 25 yX1_init ∈ wsX8_init := by decide +kernel
  have w19 : Cond.instanceMethod yX1_init ∈ wsX8_init := by decide +kernel
  have w20 : Cond.fieldLink RX8 26 "HiddenWorks" "finder" "LHiddenWorks$Finder;" ∈ wsX8_init := by decide +kernel
  have w21 : Cond.classLink RX8 30 RX7 ∈ wsX8_init := by decide +kernel
  have w22 : Cond.instantiable RX7 8 ∈ wsX8_init := by decide +kernel
  have w23 : Cond.initialized RX7 ∈ wsX8_init := by decide +kernel
  have w24 : Cond.methodLink RX8 32 yX7_init ∈ wsX8_init := by decide +kernel
  have w25 : Cond.instanceMethod yX7_init ∈ wsX8_init := by decide +kernel
  have w26 : Cond.fieldLink RX8 33 "HiddenWorks" "heaped" "LHiddenWorks$Task;" ∈ wsX8_init := by decide +kernel
  have w27 : Cond.arrayClass .int ∈ wsX8_init := by decide +kernel
  have w28 : Cond.fieldLink RX8 37 "HiddenWorks" "firstSigns" "[I" ∈ wsX8_init := by decide +kernel
  have w29 : Cond.fieldLink RX8 41 "HiddenWorks" "secondSigns" "[I" ∈ wsX8_init := by decide +kernel
  have w30 : Cond.fieldLink RX8 44 "HiddenWorks" "trueAnswers" "[I" ∈ wsX8_init := by decide +kernel
  have w31 : Cond.classLink RX8 47 RX4 ∈ wsX8_init := by decide +kernel
  have w32 : Cond.fieldLink RX8 49 "HiddenWorks" "recipes" "[LHiddenWorks$Recipe;" ∈ wsX8_init := by decide +kernel
  have w33 : Cond.instantiable RX4 5 ∈ wsX8_init := by decide +kernel
  have w34 : Cond.initialized RX4 ∈ wsX8_init := by decide +kernel
  have w35 : Cond.methodLink RX8 53 yX4_init ∈ wsX8_init := by decide +kernel
  have w36 : Cond.instanceMethod yX4_init ∈ wsX8_init := by decide +kernel
  have w37 : Cond.fieldLink RX8 54 "HiddenWorks" "tasks" "[LHiddenWorks$Task;" ∈ wsX8_init := by decide +kernel
  have w38 : Cond.classLink RX8 58 RX0 ∈ wsX8_init := by decide +kernel
  have w39 : Cond.fieldLink RX8 60 "HiddenWorks" "claims" "[LHiddenWorks$Claim;" ∈ wsX8_init := by decide +kernel
  have w40 : Cond.instantiable RX0 4 ∈ wsX8_init := by decide +kernel
  have w41 : Cond.initialized RX0 ∈ wsX8_init := by decide +kernel
  have w42 : Cond.methodLink RX8 64 yX0_init ∈ wsX8_init := by decide +kernel
  have w43 : Cond.instanceMethod yX0_init ∈ wsX8_init := by decide +kernel
  have w44 : Cond.classLink RX8 65 RX5 ∈ wsX8_init := by decide +kernel
  have w45 : Cond.fieldLink RX8 67 "HiddenWorks" "sheets" "[LHiddenWorks$Sheet;" ∈ wsX8_init := by decide +kernel
  have w46 : Cond.instantiable RX5 3 ∈ wsX8_init := by decide +kernel
  have w47 : Cond.initialized RX5 ∈ wsX8_init := by decide +kernel
  have w48 : Cond.methodLink RX8 71 yX5_init ∈ wsX8_init := by decide +kernel
  have w49 : Cond.instanceMethod yX5_init ∈ wsX8_init := by decide +kernel
  have w50 : Cond.fieldLink RX8 72 "HiddenWorks" "tasksInImage" "I" ∈ wsX8_init := by decide +kernel
  refine zc_aload_n X 0 dX8_init_0 rfl rfl ?_
  refine zc_obj X w0 w1 w2 dX8_init_1 (Nat.le_of_ble_eq_true rfl) (Nat.le_of_ble_eq_true rfl) ?_
  refine zc_aload_n X 0 dX8_init_4 rfl rfl ?_
  refine zc_new X iX6 tyX6 tyX6_ok w3 w4 w5 (ci := 5) (fs := [.null, .int 0, .int 0, .int 0]) rfl zc_dX6 (N1 := 2) (c1 := 1) (s1 := 4) rfl rfl rfl (Nat.le_of_ble_eq_true rfl) (Nat.le_of_ble_eq_true rfl) dX8_init_5 ?_
  refine zc_dup X dX8_init_8 rfl ?_
  refine zc_init X (ctc_X6_init l E b _ 1 _ (by decide) rfl) (cwI 0 X.1.2.2.2.2 gX8_init_X6_init rfl rfl rfl (X.1.2.2.2.2 _ w5) (X.1.2.2.2.2 _ w6) (X.1.2.2.2.2 _ w7) rfl (by decide +kernel) ⟨Nat.le_of_ble_eq_true rfl, Nat.le_of_ble_eq_true rfl⟩) (Nat.le_of_ble_eq_true rfl) dX8_init_9 (N2 := 3) (c1 := 2) (s1 := 84) rfl rfl rfl (Nat.le_of_ble_eq_true rfl) (Nat.le_of_ble_eq_true rfl) ?_
  refine zc_putF X iX8 tyX8 tyX8_ok nmX8 hn2 (by decide) (i := 0) rfl rfl 0 (by decide) w8 rfl rfl (ty := .object "HiddenWorks$Tape") (by decide +kernel) rfl rfl (Nat.le_of_ble_eq_true rfl) (fs1 := [.ref (b + 1), .null, .null, .null, .null, .null, .null, .null, .null, .null, .null, .int 0, .int 0, .int 0, .int 0]) rfl dX8_init_12 ?_
  refine zc_aload_n X 0 dX8_init_15 rfl rfl ?_
  refine zc_new X iX3 tyX3 tyX3_ok w9 w10 w11 (ci := 2) (fs := [.long 0]) rfl zc_dX3 (N1 := 4) (c1 := 3) (s1 := 85) rfl rfl rfl (Nat.le_of_ble_eq_true rfl) (Nat.le_of_ble_eq_true rfl) dX8_init_16 ?_
  refine zc_dup X dX8_init_19 rfl ?_
  refine zc_init X (ctc_X3_init l E b _ 3 _ (by decide) rfl) (cwI 0 X.1.2.2.2.2 gX8_init_X3_init rfl rfl rfl (X.1.2.2.2.2 _ w11) (X.1.2.2.2.2 _ w12) (X.1.2.2.2.2 _ w13) rfl (by decide +kernel) ⟨Nat.le_of_ble_eq_true rfl, Nat.le_of_ble_eq_true rfl⟩) (Nat.le_of_ble_eq_true rfl) dX8_init_20 (N2 := 4) (c1 := 3) (s1 := 85) rfl rfl rfl (Nat.le_of_ble_eq_true rfl) (Nat.le_of_ble_eq_true rfl) ?_
  refine zc_putF X iX8 tyX8 tyX8_ok nmX8 hn2 (by decide) (i := 0) rfl rfl 5 (by decide) w14 rfl rfl (ty := .object "HiddenWorks$Maker") (by decide +kernel) rfl rfl (Nat.le_of_ble_eq_true rfl) (fs1 := [.ref (b + 1), .null, .null, .null, .null, .ref (b + 3), .null, .null, .null, .null, .null, .int 0, .int 0, .int 0, .int 0]) rfl dX8_init_23 ?_
  refine zc_aload_n X 0 dX8_init_26 rfl rfl ?_
  refine zc_new X iX1 tyX1 tyX1_ok w15 w16 w17 (ci := 1) (fs := [.int 0, .int 0]) rfl zc_dX1 (N1 := 5) (c1 := 4) (s1 := 87) rfl rfl rfl (Nat.le_of_ble_eq_true rfl) (Nat.le_of_ble_eq_true rfl) dX8_init_27 ?_
  refine zc_dup X dX8_init_30 rfl ?_
  refine zc_init X (ctc_X1_init l E b _ 4 _ (by decide) rfl) (cwI 0 X.1.2.2.2.2 gX8_init_X1_init rfl rfl rfl (X.1.2.2.2.2 _ w17) (X.1.2.2.2.2 _ w18) (X.1.2.2.2.2 _ w19) rfl (by decide +kernel) ⟨Nat.le_of_ble_eq_true rfl, Nat.le_of_ble_eq_true rfl⟩) (Nat.le_of_ble_eq_true rfl) dX8_init_31 (N2 := 5) (c1 := 4) (s1 := 87) rfl rfl rfl (Nat.le_of_ble_eq_true rfl) (Nat.le_of_ble_eq_true rfl) ?_
  refine zc_putF X iX8 tyX8 tyX8_ok nmX8 hn2 (by decide) (i := 0) rfl rfl 6 (by decide) w20 rfl rfl (ty := .object "HiddenWorks$Finder") (by decide +kernel) rfl rfl (Nat.le_of_ble_eq_true rfl) (fs1 := [.ref (b + 1), .null, .null, .null, .null, .ref (b + 3), .ref (b + 4), .null, .null, .null, .null, .int 0, .int 0, .int 0, .int 0]) rfl dX8_init_34 ?_
  refine zc_aload_n X 0 dX8_init_37 rfl rfl ?_
  refine zc_new X iX7 tyX7 tyX7_ok w21 w22 w23 (ci := 6) (fs := [.int 0, .int 0, .int 0, .int 0, .int 0, .int 0, .null, .null]) rfl zc_dX7 (N1 := 6) (c1 := 5) (s1 := 95) rfl rfl rfl (Nat.le_of_ble_eq_true rfl) (Nat.le_of_ble_eq_true rfl) dX8_init_38 ?_
  refine zc_dup X dX8_init_41 rfl ?_
  refine zc_init X (ctc_X7_init l E b _ 5 _ (by decide) rfl) (cwI 0 X.1.2.2.2.2 gX8_init_X7_init rfl rfl rfl (X.1.2.2.2.2 _ w23) (X.1.2.2.2.2 _ w24) (X.1.2.2.2.2 _ w25) rfl (by decide +kernel) ⟨Nat.le_of_ble_eq_true rfl, Nat.le_of_ble_eq_true rfl⟩) (Nat.le_of_ble_eq_true rfl) dX8_init_42 (N2 := 8) (c1 := 7) (s1 := 143) rfl rfl rfl (Nat.le_of_ble_eq_true rfl) (Nat.le_of_ble_eq_true rfl) ?_
  refine zc_putF X iX8 tyX8 tyX8_ok nmX8 hn2 (by decide) (i := 0) rfl rfl 7 (by decide) w26 rfl rfl (ty := .object "HiddenWorks$Task") (by decide +kernel) rfl rfl (Nat.le_of_ble_eq_true rfl) (fs1 := [.ref (b + 1), .null, .null, .null, .null, .ref (b + 3), .ref (b + 4), .ref (b + 5), .null, .null, .null, .int 0, .int 0, .int 0, .int 0]) rfl dX8_init_45 ?_
  refine zc_aload_n X 0 dX8_init_48 rfl rfl ?_
  refine zc_bipush X (v := 24) dX8_init_49 (by decide) ?_
  refine zc_newi X w27 (by decide) (N' := 24) rfl (by decide) (N1 := 9) (c1 := 8) (s1 := 167) rfl rfl rfl (Nat.le_of_ble_eq_true rfl) (Nat.le_of_ble_eq_true rfl) dX8_init_51 ?_
  refine zc_putF X iX8 tyX8 tyX8_ok nmX8 hn2 (by decide) (i := 0) rfl rfl 8 (by decide) w28 rfl rfl (ty := .array .int) (by decide +kernel) rfl rfl (Nat.le_of_ble_eq_true rfl) (fs1 := [.ref (b + 1), .null, .null, .null, .null, .ref (b + 3), .ref (b + 4), .ref (b + 5), .ref (b + 8), .null, .null, .int 0, .int 0, .int 0, .int 0]) rfl dX8_init_53 ?_
  refine zc_aload_n X 0 dX8_init_56 rfl rfl ?_
  refine zc_bipush X (v := 24) dX8_init_57 (by decide) ?_
  refine zc_newi X w27 (by decide) (N' := 24) rfl (by decide) (N1 := 10) (c1 := 9) (s1 := 191) rfl rfl rfl (Nat.le_of_ble_eq_true rfl) (Nat.le_of_ble_eq_true rfl) dX8_init_59 ?_
  refine zc_putF X iX8 tyX8 tyX8_ok nmX8 hn2 (by decide) (i := 0) rfl rfl 9 (by decide) w29 rfl rfl (ty := .array .int) (by decide +kernel) rfl rfl (Nat.le_of_ble_eq_true rfl) (fs1 := [.ref (b + 1), .null, .null, .null, .null, .ref (b + 3), .ref (b + 4), .ref (b + 5), .ref (b + 8), .ref (b + 9), .null, .int 0, .int 0, .int 0, .int 0]) rfl dX8_init_61 ?_
  refine zc_aload_n X 0 dX8_init_64 rfl rfl ?_
  refine zc_bipush X (v := 10) dX8_init_65 (by decide) ?_
  refine zc_newi X w27 (by decide) (N' := 10) rfl (by decide) (N1 := 11) (c1 := 10) (s1 := 201) rfl rfl rfl (Nat.le_of_ble_eq_true rfl) (Nat.le_of_ble_eq_true rfl) dX8_init_67 ?_
  refine zc_putF X iX8 tyX8 tyX8_ok nmX8 hn2 (by decide) (i := 0) rfl rfl 10 (by decide) w30 rfl rfl (ty := .array .int) (by decide +kernel) rfl rfl (Nat.le_of_ble_eq_true rfl) (fs1 := [.ref (b + 1), .null, .null, .null, .null, .ref (b + 3), .ref (b + 4), .ref (b + 5), .ref (b + 8), .ref (b + 9), .ref (b + 10), .int 0, .int 0, .int 0, .int 0]) rfl dX8_init_69 ?_
  refine zc_aload_n X 0 dX8_init_72 rfl rfl ?_
  refine zc_bipush X (v := 6) dX8_init_73 (by decide) ?_
  refine zc_newq X w31 X.2.1.2.2.1 (t := 2) rfl (by decide) (N' := 6) rfl (by decide) (N1 := 12) (c1 := 11) (s1 := 207) rfl rfl rfl (Nat.le_of_ble_eq_true rfl) (Nat.le_of_ble_eq_true rfl) dX8_init_75 ?_
  refine zc_putF X iX8 tyX8 tyX8_ok nmX8 hn2 (by decide) (i := 0) rfl rfl 1 (by decide) w32 rfl rfl (ty := .array (.object "HiddenWorks$Recipe")) (by decide +kernel) rfl rfl (Nat.le_of_ble_eq_true rfl) (fs1 := [.ref (b + 1), .ref (b + 11), .null, .null, .null, .ref (b + 3), .ref (b + 4), .ref (b + 5), .ref (b + 8), .ref (b + 9), .ref (b + 10), .int 0, .int 0, .int 0, .int 0]) rfl dX8_init_78 ?_
  refine zc_iconst X (v := 0) dX8_init_81 (by decide) ?_
  refine zc_istore_n X (lv' := [(1, .int 0), (0, .ref (b + 0))]) dX8_init_82 rfl (by decide) rfl ?_
  refine zc_iload_n X 0 dX8_init_83 rfl rfl ?_
  refine zc_bipush X (v := 6) dX8_init_84 (by decide) ?_
  refine zc_cmpF X (tgt := 108) dX8_init_86 (by decide) (by decide) ?_
  refine zc_aload_n X 1 dX8_init_89 rfl rfl ?_
  refine zc_get X iX8 (i := 0) (by decide) rfl rfl 1 (by decide) w32 rfl dX8_init_90 ?_
  refine zc_iload_n X 0 dX8_init_93 rfl rfl ?_
  refine zc_new X iX4 tyX4 tyX4_ok w31 w33 w34 (ci := 3) (fs := [.int 0, .int 0, .int 0, .int 0, .null]) rfl zc_dX4 (N1 := 13) (c1 := 12) (s1 := 212) rfl rfl rfl (Nat.le_of_ble_eq_true rfl) (Nat.le_of_ble_eq_true rfl) dX8_init_94 ?_
  refine zc_dup X dX8_init_97 rfl ?_
  refine zc_init X (ctc_X4_init l E b _ 12 _ (by decide) rfl) (cwI 0 X.1.2.2.2.2 gX8_init_X4_init rfl rfl rfl (X.1.2.2.2.2 _ w34) (X.1.2.2.2.2 _ w35) (X.1.2.2.2.2 _ w36) rfl (by decide +kernel) ⟨Nat.le_of_ble_eq_true rfl, Nat.le_of_ble_eq_true rfl⟩) (Nat.le_of_ble_eq_true rfl) dX8_init_98 (N2 := 14) (c1 := 13) (s1 := 216) rfl rfl rfl (Nat.le_of_ble_eq_true rfl) (Nat.le_of_ble_eq_true rfl) ?_
  refine zc_aast X (i := 11) (k := 12) (t := 2) (by decide) rfl rfl (by decide) rfl rfl (by unfold vp_in; decide) dX8_init_101 ?_
  refine zc_iinc X (v := 1) (lv' := [(1, .int 1), (0, .ref (b + 0))]) 0 dX8_init_102 rfl (by decide) (by decide) rfl ?_
  refine zc_goto X (tgt := 83) dX8_init_105 (by decide) ?_
  refine zc_iload_n X 0 dX8_init_83 rfl rfl ?_
  refine zc_bipush X (v := 6) dX8_init_84 (by decide) ?_
  refine zc_cmpF X (tgt := 108) dX8_init_86 (by decide) (by decide) ?_
  refine zc_aload_n X 1 dX8_init_89 rfl rfl ?_
  refine zc_get X iX8 (i := 0) (by decide) rfl rfl 1 (by decide) w32 rfl dX8_init_90 ?_
  refine zc_iload_n X 0 dX8_init_93 rfl rfl ?_
  refine zc_new X iX4 tyX4 tyX4_ok w31 w33 w34 (ci := 3) (fs := [.int 0, .int 0, .int 0, .int 0, .null]) rfl zc_dX4 (N1 := 15) (c1 := 14) (s1 := 221) rfl rfl rfl (Nat.le_of_ble_eq_true rfl) (Nat.le_of_ble_eq_true rfl) dX8_init_94 ?_
  refine zc_dup X dX8_init_97 rfl ?_
  refine zc_init X (ctc_X4_init l E b _ 14 _ (by decide) rfl) (cwI 0 X.1.2.2.2.2 gX8_init_X4_init rfl rfl rfl (X.1.2.2.2.2 _ w34) (X.1.2.2.2.2 _ w35) (X.1.2.2.2.2 _ w36) rfl (by decide +kernel) ⟨Nat.le_of_ble_eq_true rfl, Nat.le_of_ble_eq_true rfl⟩) (Nat.le_of_ble_eq_true rfl) dX8_init_98 (N2 := 16) (c1 := 15) (s1 := 225) rfl rfl rfl (Nat.le_of_ble_eq_true rfl) (Nat.le_of_ble_eq_true rfl) ?_
  refine zc_aast X (i := 11) (k := 14) (t := 2) (by decide) rfl rfl (by decide) rfl rfl (by unfold vp_in; decide) dX8_init_101 ?_
  refine zc_iinc X (v := 2) (lv' := [(1, .int 2), (0, .ref (b + 0))]) 0 dX8_init_102 rfl (by decide) (by decide) rfl ?_
  refine zc_goto X (tgt := 83) dX8_init_105 (by decide) ?_
  refine zc_iload_n X 0 dX8_init_83 rfl rfl ?_
  refine zc_bipush X (v := 6) dX8_init_84 (by decide) ?_
  refine zc_cmpF X (tgt := 108) dX8_init_86 (by decide) (by decide) ?_
  refine zc_aload_n X 1 dX8_init_89 rfl rfl ?_
  refine zc_get X iX8 (i := 0) (by decide) rfl rfl 1 (by decide) w32 rfl dX8_init_90 ?_
  refine zc_iload_n X 0 dX8_init_93 rfl rfl ?_
  refine zc_new X iX4 tyX4 tyX4_ok w31 w33 w34 (ci := 3) (fs := [.int 0, .int 0, .int 0, .int 0, .null]) rfl zc_dX4 (N1 := 17) (c1 := 16) (s1 := 230) rfl rfl rfl (Nat.le_of_ble_eq_true rfl) (Nat.le_of_ble_eq_true rfl) dX8_init_94 ?_
  refine zc_dup X dX8_init_97 rfl ?_
  refine zc_init X (ctc_X4_init l E b _ 16 _ (by decide) rfl) (cwI 0 X.1.2.2.2.2 gX8_init_X4_init rfl rfl rfl (X.1.2.2.2.2 _ w34) (X.1.2.2.2.2 _ w35) (X.1.2.2.2.2 _ w36) rfl (by decide +kernel) ⟨Nat.le_of_ble_eq_true rfl, Nat.le_of_ble_eq_true rfl⟩) (Nat.le_of_ble_eq_true rfl) dX8_init_98 (N2 := 18) (c1 := 17) (s1 := 234) rfl rfl rfl (Nat.le_of_ble_eq_true rfl) (Nat.le_of_ble_eq_true rfl) ?_
  refine zc_aast X (i := 11) (k := 16) (t := 2) (by decide) rfl rfl (by decide) rfl rfl (by unfold vp_in; decide) dX8_init_101 ?_
  refine zc_iinc X (v := 3) (lv' := [(1, .int 3), (0, .ref (b + 0))]) 0 dX8_init_102 rfl (by decide) (by decide) rfl ?_
  refine zc_goto X (tgt := 83) dX8_init_105 (by decide) ?_
  refine zc_iload_n X 0 dX8_init_83 rfl rfl ?_
  refine zc_bipush X (v := 6) dX8_init_84 (by decide) ?_
  refine zc_cmpF X (tgt := 108) dX8_init_86 (by decide) (by decide) ?_
  refine zc_aload_n X 1 dX8_init_89 rfl rfl ?_
  refine zc_get X iX8 (i := 0) (by decide) rfl rfl 1 (by decide) w32 rfl dX8_init_90 ?_
  refine zc_iload_n X 0 dX8_init_93 rfl rfl ?_
  refine zc_new X iX4 tyX4 tyX4_ok w31 w33 w34 (ci := 3) (fs := [.int 0, .int 0, .int 0, .int 0, .null]) rfl zc_dX4 (N1 := 19) (c1 := 18) (s1 := 239) rfl rfl rfl (Nat.le_of_ble_eq_true rfl) (Nat.le_of_ble_eq_true rfl) dX8_init_94 ?_
  refine zc_dup X dX8_init_97 rfl ?_
  refine zc_init X (ctc_X4_init l E b _ 18 _ (by decide) rfl) (cwI 0 X.1.2.2.2.2 gX8_init_X4_init rfl rfl rfl (X.1.2.2.2.2 _ w34) (X.1.2.2.2.2 _ w35) (X.1.2.2.2.2 _ w36) rfl (by decide +kernel) ⟨Nat.le_of_ble_eq_true rfl, Nat.le_of_ble_eq_true rfl⟩) (Nat.le_of_ble_eq_true rfl) dX8_init_98 (N2 := 20) (c1 := 19) (s1 := 243) rfl rfl rfl (Nat.le_of_ble_eq_true rfl) (Nat.le_of_ble_eq_true rfl) ?_
  refine zc_aast X (i := 11) (k := 18) (t := 2) (by decide) rfl rfl (by decide) rfl rfl (by unfold vp_in; decide) dX8_init_101 ?_
  refine zc_iinc X (v := 4) (lv' := [(1, .int 4), (0, .ref (b + 0))]) 0 dX8_init_102 rfl (by decide) (by decide) rfl ?_
  refine zc_goto X (tgt := 83) dX8_init_105 (by decide) ?_
  refine zc_iload_n X 0 dX8_init_83 rfl rfl ?_
  refine zc_bipush X (v := 6) dX8_init_84 (by decide) ?_
  refine zc_cmpF X (tgt := 108) dX8_init_86 (by decide) (by decide) ?_
  refine zc_aload_n X 1 dX8_init_89 rfl rfl ?_
  refine zc_get X iX8 (i := 0) (by decide) rfl rfl 1 (by decide) w32 rfl dX8_init_90 ?_
  refine zc_iload_n X 0 dX8_init_93 rfl rfl ?_
  refine zc_new X iX4 tyX4 tyX4_ok w31 w33 w34 (ci := 3) (fs := [.int 0, .int 0, .int 0, .int 0, .null]) rfl zc_dX4 (N1 := 21) (c1 := 20) (s1 := 248) rfl rfl rfl (Nat.le_of_ble_eq_true rfl) (Nat.le_of_ble_eq_true rfl) dX8_init_94 ?_
  refine zc_dup X dX8_init_97 rfl ?_
  refine zc_init X (ctc_X4_init l E b _ 20 _ (by decide) rfl) (cwI 0 X.1.2.2.2.2 gX8_init_X4_init rfl rfl rfl (X.1.2.2.2.2 _ w34) (X.1.2.2.2.2 _ w35) (X.1.2.2.2.2 _ w36) rfl (by decide +kernel) ⟨Nat.le_of_ble_eq_true rfl, Nat.le_of_ble_eq_true rfl⟩) (Nat.le_of_ble_eq_true rfl) dX8_init_98 (N2 := 22) (c1 := 21) (s1 := 252) rfl rfl rfl (Nat.le_of_ble_eq_true rfl) (Nat.le_of_ble_eq_true rfl) ?_
  refine zc_aast X (i := 11) (k := 20) (t := 2) (by decide) rfl rfl (by decide) rfl rfl (by unfold vp_in; decide) dX8_init_101 ?_
  refine zc_iinc X (v := 5) (lv' := [(1, .int 5), (0, .ref (b + 0))]) 0 dX8_init_102 rfl (by decide) (by decide) rfl ?_
  refine zc_goto X (tgt := 83) dX8_init_105 (by decide) ?_
  refine zc_iload_n X 0 dX8_init_83 rfl rfl ?_
  refine zc_bipush X (v := 6) dX8_init_84 (by decide) ?_
  refine zc_cmpF X (tgt := 108) dX8_init_86 (by decide) (by decide) ?_
  refine zc_aload_n X 1 dX8_init_89 rfl rfl ?_
  refine zc_get X iX8 (i := 0) (by decide) rfl rfl 1 (by decide) w32 rfl dX8_init_90 ?_
  refine zc_iload_n X 0 dX8_init_93 rfl rfl ?_
  refine zc_new X iX4 tyX4 tyX4_ok w31 w33 w34 (ci := 3) (fs := [.int 0, .int 0, .int 0, .int 0, .null]) rfl zc_dX4 (N1 := 23) (c1 := 22) (s1 := 257) rfl rfl rfl (Nat.le_of_ble_eq_true rfl) (Nat.le_of_ble_eq_true rfl) dX8_init_94 ?_
  refine zc_dup X dX8_init_97 rfl ?_
  refine zc_init X (ctc_X4_init l E b _ 22 _ (by decide) rfl) (cwI 0 X.1.2.2.2.2 gX8_init_X4_init rfl rfl rfl (X.1.2.2.2.2 _ w34) (X.1.2.2.2.2 _ w35) (X.1.2.2.2.2 _ w36) rfl (by decide +kernel) ⟨Nat.le_of_ble_eq_true rfl, Nat.le_of_ble_eq_true rfl⟩) (Nat.le_of_ble_eq_true rfl) dX8_init_98 (N2 := 24) (c1 := 23) (s1 := 261) rfl rfl rfl (Nat.le_of_ble_eq_true rfl) (Nat.le_of_ble_eq_true rfl) ?_
  refine zc_aast X (i := 11) (k := 22) (t := 2) (by decide) rfl rfl (by decide) rfl rfl (by unfold vp_in; decide) dX8_init_101 ?_
  refine zc_iinc X (v := 6) (lv' := [(1, .int 6), (0, .ref (b + 0))]) 0 dX8_init_102 rfl (by decide) (by decide) rfl ?_
  refine zc_goto X (tgt := 83) dX8_init_105 (by decide) ?_
  refine zc_iload_n X 0 dX8_init_83 rfl rfl ?_
  refine zc_bipush X (v := 6) dX8_init_84 (by decide) ?_
  refine zc_cmpT X (tgt := 108) dX8_init_86 (by decide) (by decide) ?_
  refine zc_aload_n X 1 dX8_init_108 rfl rfl ?_
  refine zc_bipush X (v := 8) dX8_init_109 (by decide) ?_
  refine zc_newq X w21 X.2.1.2.2.2.2 (t := 4) rfl (by decide) (N' := 8) rfl (by decide) (N1 := 25) (c1 := 24) (s1 := 269) rfl rfl rfl (Nat.le_of_ble_eq_true rfl) (Nat.le_of_ble_eq_true rfl) dX8_init_111 ?_
  refine zc_putF X iX8 tyX8 tyX8_ok nmX8 hn2 (by decide) (i := 0) rfl rfl 2 (by decide) w37 rfl rfl (ty := .array (.object "HiddenWorks$Task")) (by decide +kernel) rfl rfl (Nat.le_of_ble_eq_true rfl) (fs1 := [.ref (b + 1), .ref (b + 11), .ref (b + 24), .null, .null, .ref (b + 3), .ref (b + 4), .ref (b + 5), .ref (b + 8), .ref (b + 9), .ref (b + 10), .int 0, .int 0, .int 0, .int 0]) rfl dX8_init_114 ?_
  refine zc_iconst X (v := 0) dX8_init_117 (by decide) ?_
  refine zc_istore_n X (lv' := [(1, .int 0), (0, .ref (b + 0))]) dX8_init_118 rfl (by decide) rfl ?_
  refine zc_iload_n X 0 dX8_init_119 rfl rfl ?_
  refine zc_bipush X (v := 8) dX8_init_120 (by decide) ?_
  refine zc_cmpF X (tgt := 144) dX8_init_122 (by decide) (by decide) ?_
  refine zc_aload_n X 1 dX8_init_125 rfl rfl ?_
  refine zc_get X iX8 (i := 0) (by decide) rfl rfl 2 (by decide) w37 rfl dX8_init_126 ?_
  refine zc_iload_n X 0 dX8_init_129 rfl rfl ?_
  refine zc_new X iX7 tyX7 tyX7_ok w21 w22 w23 (ci := 6) (fs := [.int 0, .int 0, .int 0, .int 0, .int 0, .int 0, .null, .null]) rfl zc_dX7 (N1 := 26) (c1 := 25) (s1 := 277) rfl rfl rfl (Nat.le_of_ble_eq_true rfl) (Nat.le_of_ble_eq_true rfl) dX8_init_130 ?_
  refine zc_dup X dX8_init_133 rfl ?_
  refine zc_init X (ctc_X7_init l E b _ 25 _ (by decide) rfl) (cwI 0 X.1.2.2.2.2 gX8_init_X7_init rfl rfl rfl (X.1.2.2.2.2 _ w23) (X.1.2.2.2.2 _ w24) (X.1.2.2.2.2 _ w25) rfl (by decide +kernel) ⟨Nat.le_of_ble_eq_true rfl, Nat.le_of_ble_eq_true rfl⟩) (Nat.le_of_ble_eq_true rfl) dX8_init_134 (N2 := 28) (c1 := 27) (s1 := 325) rfl rfl rfl (Nat.le_of_ble_eq_true rfl) (Nat.le_of_ble_eq_true rfl) ?_
  refine zc_aast X (i := 24) (k := 25) (t := 4) (by decide) rfl rfl (by decide) rfl rfl (by unfold vp_in; decide) dX8_init_137 ?_
  refine zc_iinc X (v := 1) (lv' := [(1, .int 1), (0, .ref (b + 0))]) 0 dX8_init_138 rfl (by decide) (by decide) rfl ?_
  refine zc_goto X (tgt := 119) dX8_init_141 (by decide) ?_
  refine zc_iload_n X 0 dX8_init_119 rfl rfl ?_
  refine zc_bipush X (v := 8) dX8_init_120 (by decide) ?_
  refine zc_cmpF X (tgt := 144) dX8_init_122 (by decide) (by decide) ?_
  refine zc_aload_n X 1 dX8_init_125 rfl rfl ?_
  refine zc_get X iX8 (i := 0) (by decide) rfl rfl 2 (by decide) w37 rfl dX8_init_126 ?_
  refine zc_iload_n X 0 dX8_init_129 rfl rfl ?_
  refine zc_new X iX7 tyX7 tyX7_ok w21 w22 w23 (ci := 6) (fs := [.int 0, .int 0, .int 0, .int 0, .int 0, .int 0, .null, .null]) rfl zc_dX7 (N1 := 29) (c1 := 28) (s1 := 333) rfl rfl rfl (Nat.le_of_ble_eq_true rfl) (Nat.le_of_ble_eq_true rfl) dX8_init_130 ?_
  refine zc_dup X dX8_init_133 rfl ?_
  refine zc_init X (ctc_X7_init l E b _ 28 _ (by decide) rfl) (cwI 0 X.1.2.2.2.2 gX8_init_X7_init rfl rfl rfl (X.1.2.2.2.2 _ w23) (X.1.2.2.2.2 _ w24) (X.1.2.2.2.2 _ w25) rfl (by decide +kernel) ⟨Nat.le_of_ble_eq_true rfl, Nat.le_of_ble_eq_true rfl⟩) (Nat.le_of_ble_eq_true rfl) dX8_init_134 (N2 := 31) (c1 := 30) (s1 := 381) rfl rfl rfl (Nat.le_of_ble_eq_true rfl) (Nat.le_of_ble_eq_true rfl) ?_
  refine zc_aast X (i := 24) (k := 28) (t := 4) (by decide) rfl rfl (by decide) rfl rfl (by unfold vp_in; decide) dX8_init_137 ?_
  refine zc_iinc X (v := 2) (lv' := [(1, .int 2), (0, .ref (b + 0))]) 0 dX8_init_138 rfl (by decide) (by decide) rfl ?_
  refine zc_goto X (tgt := 119) dX8_init_141 (by decide) ?_
  refine zc_iload_n X 0 dX8_init_119 rfl rfl ?_
  refine zc_bipush X (v := 8) dX8_init_120 (by decide) ?_
  refine zc_cmpF X (tgt := 144) dX8_init_122 (by decide) (by decide) ?_
  refine zc_aload_n X 1 dX8_init_125 rfl rfl ?_
  refine zc_get X iX8 (i := 0) (by decide) rfl rfl 2 (by decide) w37 rfl dX8_init_126 ?_
  refine zc_iload_n X 0 dX8_init_129 rfl rfl ?_
  refine zc_new X iX7 tyX7 tyX7_ok w21 w22 w23 (ci := 6) (fs := [.int 0, .int 0, .int 0, .int 0, .int 0, .int 0, .null, .null]) rfl zc_dX7 (N1 := 32) (c1 := 31) (s1 := 389) rfl rfl rfl (Nat.le_of_ble_eq_true rfl) (Nat.le_of_ble_eq_true rfl) dX8_init_130 ?_
  refine zc_dup X dX8_init_133 rfl ?_
  refine zc_init X (ctc_X7_init l E b _ 31 _ (by decide) rfl) (cwI 0 X.1.2.2.2.2 gX8_init_X7_init rfl rfl rfl (X.1.2.2.2.2 _ w23) (X.1.2.2.2.2 _ w24) (X.1.2.2.2.2 _ w25) rfl (by decide +kernel) ⟨Nat.le_of_ble_eq_true rfl, Nat.le_of_ble_eq_true rfl⟩) (Nat.le_of_ble_eq_true rfl) dX8_init_134 (N2 := 34) (c1 := 33) (s1 := 437) rfl rfl rfl (Nat.le_of_ble_eq_true rfl) (Nat.le_of_ble_eq_true rfl) ?_
  refine zc_aast X (i := 24) (k := 31) (t := 4) (by decide) rfl rfl (by decide) rfl rfl (by unfold vp_in; decide) dX8_init_137 ?_
  refine zc_iinc X (v := 3) (lv' := [(1, .int 3), (0, .ref (b + 0))]) 0 dX8_init_138 rfl (by decide) (by decide) rfl ?_
  refine zc_goto X (tgt := 119) dX8_init_141 (by decide) ?_
  refine zc_iload_n X 0 dX8_init_119 rfl rfl ?_
  refine zc_bipush X (v := 8) dX8_init_120 (by decide) ?_
  refine zc_cmpF X (tgt := 144) dX8_init_122 (by decide) (by decide) ?_
  refine zc_aload_n X 1 dX8_init_125 rfl rfl ?_
  refine zc_get X iX8 (i := 0) (by decide) rfl rfl 2 (by decide) w37 rfl dX8_init_126 ?_
  refine zc_iload_n X 0 dX8_init_129 rfl rfl ?_
  refine zc_new X iX7 tyX7 tyX7_ok w21 w22 w23 (ci := 6) (fs := [.int 0, .int 0, .int 0, .int 0, .int 0, .int 0, .null, .null]) rfl zc_dX7 (N1 := 35) (c1 := 34) (s1 := 445) rfl rfl rfl (Nat.le_of_ble_eq_true rfl) (Nat.le_of_ble_eq_true rfl) dX8_init_130 ?_
  refine zc_dup X dX8_init_133 rfl ?_
  refine zc_init X (ctc_X7_init l E b _ 34 _ (by decide) rfl) (cwI 0 X.1.2.2.2.2 gX8_init_X7_init rfl rfl rfl (X.1.2.2.2.2 _ w23) (X.1.2.2.2.2 _ w24) (X.1.2.2.2.2 _ w25) rfl (by decide +kernel) ⟨Nat.le_of_ble_eq_true rfl, Nat.le_of_ble_eq_true rfl⟩) (Nat.le_of_ble_eq_true rfl) dX8_init_134 (N2 := 37) (c1 := 36) (s1 := 493) rfl rfl rfl (Nat.le_of_ble_eq_true rfl) (Nat.le_of_ble_eq_true rfl) ?_
  refine zc_aast X (i := 24) (k := 34) (t := 4) (by decide) rfl rfl (by decide) rfl rfl (by unfold vp_in; decide) dX8_init_137 ?_
  refine zc_iinc X (v := 4) (lv' := [(1, .int 4), (0, .ref (b + 0))]) 0 dX8_init_138 rfl (by decide) (by decide) rfl ?_
  refine zc_goto X (tgt := 119) dX8_init_141 (by decide) ?_
  refine zc_iload_n X 0 dX8_init_119 rfl rfl ?_
  refine zc_bipush X (v := 8) dX8_init_120 (by decide) ?_
  refine zc_cmpF X (tgt := 144) dX8_init_122 (by decide) (by decide) ?_
  refine zc_aload_n X 1 dX8_init_125 rfl rfl ?_
  refine zc_get X iX8 (i := 0) (by decide) rfl rfl 2 (by decide) w37 rfl dX8_init_126 ?_
  refine zc_iload_n X 0 dX8_init_129 rfl rfl ?_
  refine zc_new X iX7 tyX7 tyX7_ok w21 w22 w23 (ci := 6) (fs := [.int 0, .int 0, .int 0, .int 0, .int 0, .int 0, .null, .null]) rfl zc_dX7 (N1 := 38) (c1 := 37) (s1 := 501) rfl rfl rfl (Nat.le_of_ble_eq_true rfl) (Nat.le_of_ble_eq_true rfl) dX8_init_130 ?_
  refine zc_dup X dX8_init_133 rfl ?_
  refine zc_init X (ctc_X7_init l E b _ 37 _ (by decide) rfl) (cwI 0 X.1.2.2.2.2 gX8_init_X7_init rfl rfl rfl (X.1.2.2.2.2 _ w23) (X.1.2.2.2.2 _ w24) (X.1.2.2.2.2 _ w25) rfl (by decide +kernel) ⟨Nat.le_of_ble_eq_true rfl, Nat.le_of_ble_eq_true rfl⟩) (Nat.le_of_ble_eq_true rfl) dX8_init_134 (N2 := 40) (c1 := 39) (s1 := 549) rfl rfl rfl (Nat.le_of_ble_eq_true rfl) (Nat.le_of_ble_eq_true rfl) ?_
  refine zc_aast X (i := 24) (k := 37) (t := 4) (by decide) rfl rfl (by decide) rfl rfl (by unfold vp_in; decide) dX8_init_137 ?_
  refine zc_iinc X (v := 5) (lv' := [(1, .int 5), (0, .ref (b + 0))]) 0 dX8_init_138 rfl (by decide) (by decide) rfl ?_
  refine zc_goto X (tgt := 119) dX8_init_141 (by decide) ?_
  refine zc_iload_n X 0 dX8_init_119 rfl rfl ?_
  refine zc_bipush X (v := 8) dX8_init_120 (by decide) ?_
  refine zc_cmpF X (tgt := 144) dX8_init_122 (by decide) (by decide) ?_
  refine zc_aload_n X 1 dX8_init_125 rfl rfl ?_
  refine zc_get X iX8 (i := 0) (by decide) rfl rfl 2 (by decide) w37 rfl dX8_init_126 ?_
  refine zc_iload_n X 0 dX8_init_129 rfl rfl ?_
  refine zc_new X iX7 tyX7 tyX7_ok w21 w22 w23 (ci := 6) (fs := [.int 0, .int 0, .int 0, .int 0, .int 0, .int 0, .null, .null]) rfl zc_dX7 (N1 := 41) (c1 := 40) (s1 := 557) rfl rfl rfl (Nat.le_of_ble_eq_true rfl) (Nat.le_of_ble_eq_true rfl) dX8_init_130 ?_
  refine zc_dup X dX8_init_133 rfl ?_
  refine zc_init X (ctc_X7_init l E b _ 40 _ (by decide) rfl) (cwI 0 X.1.2.2.2.2 gX8_init_X7_init rfl rfl rfl (X.1.2.2.2.2 _ w23) (X.1.2.2.2.2 _ w24) (X.1.2.2.2.2 _ w25) rfl (by decide +kernel) ⟨Nat.le_of_ble_eq_true rfl, Nat.le_of_ble_eq_true rfl⟩) (Nat.le_of_ble_eq_true rfl) dX8_init_134 (N2 := 43) (c1 := 42) (s1 := 605) rfl rfl rfl (Nat.le_of_ble_eq_true rfl) (Nat.le_of_ble_eq_true rfl) ?_
  refine zc_aast X (i := 24) (k := 40) (t := 4) (by decide) rfl rfl (by decide) rfl rfl (by unfold vp_in; decide) dX8_init_137 ?_
  refine zc_iinc X (v := 6) (lv' := [(1, .int 6), (0, .ref (b + 0))]) 0 dX8_init_138 rfl (by decide) (by decide) rfl ?_
  refine zc_goto X (tgt := 119) dX8_init_141 (by decide) ?_
  refine zc_iload_n X 0 dX8_init_119 rfl rfl ?_
  refine zc_bipush X (v := 8) dX8_init_120 (by decide) ?_
  refine zc_cmpF X (tgt := 144) dX8_init_122 (by decide) (by decide) ?_
  refine zc_aload_n X 1 dX8_init_125 rfl rfl ?_
  refine zc_get X iX8 (i := 0) (by decide) rfl rfl 2 (by decide) w37 rfl dX8_init_126 ?_
  refine zc_iload_n X 0 dX8_init_129 rfl rfl ?_
  refine zc_new X iX7 tyX7 tyX7_ok w21 w22 w23 (ci := 6) (fs := [.int 0, .int 0, .int 0, .int 0, .int 0, .int 0, .null, .null]) rfl zc_dX7 (N1 := 44) (c1 := 43) (s1 := 613) rfl rfl rfl (Nat.le_of_ble_eq_true rfl) (Nat.le_of_ble_eq_true rfl) dX8_init_130 ?_
  refine zc_dup X dX8_init_133 rfl ?_
  refine zc_init X (ctc_X7_init l E b _ 43 _ (by decide) rfl) (cwI 0 X.1.2.2.2.2 gX8_init_X7_init rfl rfl rfl (X.1.2.2.2.2 _ w23) (X.1.2.2.2.2 _ w24) (X.1.2.2.2.2 _ w25) rfl (by decide +kernel) ⟨Nat.le_of_ble_eq_true rfl, Nat.le_of_ble_eq_true rfl⟩) (Nat.le_of_ble_eq_true rfl) dX8_init_134 (N2 := 46) (c1 := 45) (s1 := 661) rfl rfl rfl (Nat.le_of_ble_eq_true rfl) (Nat.le_of_ble_eq_true rfl) ?_
  refine zc_aast X (i := 24) (k := 43) (t := 4) (by decide) rfl rfl (by decide) rfl rfl (by unfold vp_in; decide) dX8_init_137 ?_
  refine zc_iinc X (v := 7) (lv' := [(1, .int 7), (0, .ref (b + 0))]) 0 dX8_init_138 rfl (by decide) (by decide) rfl ?_
  refine zc_goto X (tgt := 119) dX8_init_141 (by decide) ?_
  refine zc_iload_n X 0 dX8_init_119 rfl rfl ?_
  refine zc_bipush X (v := 8) dX8_init_120 (by decide) ?_
  refine zc_cmpF X (tgt := 144) dX8_init_122 (by decide) (by decide) ?_
  refine zc_aload_n X 1 dX8_init_125 rfl rfl ?_
  refine zc_get X iX8 (i := 0) (by decide) rfl rfl 2 (by decide) w37 rfl dX8_init_126 ?_
  refine zc_iload_n X 0 dX8_init_129 rfl rfl ?_
  refine zc_new X iX7 tyX7 tyX7_ok w21 w22 w23 (ci := 6) (fs := [.int 0, .int 0, .int 0, .int 0, .int 0, .int 0, .null, .null]) rfl zc_dX7 (N1 := 47) (c1 := 46) (s1 := 669) rfl rfl rfl (Nat.le_of_ble_eq_true rfl) (Nat.le_of_ble_eq_true rfl) dX8_init_130 ?_
  refine zc_dup X dX8_init_133 rfl ?_
  refine zc_init X (ctc_X7_init l E b _ 46 _ (by decide) rfl) (cwI 0 X.1.2.2.2.2 gX8_init_X7_init rfl rfl rfl (X.1.2.2.2.2 _ w23) (X.1.2.2.2.2 _ w24) (X.1.2.2.2.2 _ w25) rfl (by decide +kernel) ⟨Nat.le_of_ble_eq_true rfl, Nat.le_of_ble_eq_true rfl⟩) (Nat.le_of_ble_eq_true rfl) dX8_init_134 (N2 := 49) (c1 := 48) (s1 := 717) rfl rfl rfl (Nat.le_of_ble_eq_true rfl) (Nat.le_of_ble_eq_true rfl) ?_
  refine zc_aast X (i := 24) (k := 46) (t := 4) (by decide) rfl rfl (by decide) rfl rfl (by unfold vp_in; decide) dX8_init_137 ?_
  refine zc_iinc X (v := 8) (lv' := [(1, .int 8), (0, .ref (b + 0))]) 0 dX8_init_138 rfl (by decide) (by decide) rfl ?_
  refine zc_goto X (tgt := 119) dX8_init_141 (by decide) ?_
  refine zc_iload_n X 0 dX8_init_119 rfl rfl ?_
  refine zc_bipush X (v := 8) dX8_init_120 (by decide) ?_
  refine zc_cmpT X (tgt := 144) dX8_init_122 (by decide) (by decide) ?_
  refine zc_aload_n X 1 dX8_init_144 rfl rfl ?_
  refine zc_bipush X (v := 20) dX8_init_145 (by decide) ?_
  refine zc_newq X w38 X.2.1.2.1 (t := 1) rfl (by decide) (N' := 20) rfl (by decide) (N1 := 50) (c1 := 49) (s1 := 737) rfl rfl rfl (Nat.le_of_ble_eq_true rfl) (Nat.le_of_ble_eq_true rfl) dX8_init_147 ?_
  refine zc_putF X iX8 tyX8 tyX8_ok nmX8 hn2 (by decide) (i := 0) rfl rfl 3 (by decide) w39 rfl rfl (ty := .array (.object "HiddenWorks$Claim")) (by decide +kernel) rfl rfl (Nat.le_of_ble_eq_true rfl) (fs1 := [.ref (b + 1), .ref (b + 11), .ref (b + 24), .ref (b + 49), .null, .ref (b + 3), .ref (b + 4), .ref (b + 5), .ref (b + 8), .ref (b + 9), .ref (b + 10), .int 0, .int 0, .int 0, .int 0]) rfl dX8_init_150 ?_
  refine zc_iconst X (v := 0) dX8_init_153 (by decide) ?_
  refine zc_istore_n X (lv' := [(1, .int 0), (0, .ref (b + 0))]) dX8_init_154 rfl (by decide) rfl ?_
  refine zc_iload_n X 0 dX8_init_155 rfl rfl ?_
  refine zc_bipush X (v := 20) dX8_init_156 (by decide) ?_
  refine zc_cmpF X (tgt := 180) dX8_init_158 (by decide) (by decide) ?_
  refine zc_aload_n X 1 dX8_init_161 rfl rfl ?_
  refine zc_get X iX8 (i := 0) (by decide) rfl rfl 3 (by decide) w39 rfl dX8_init_162 ?_
  refine zc_iload_n X 0 dX8_init_165 rfl rfl ?_
  refine zc_new X iX0 tyX0 tyX0_ok w38 w40 w41 (ci := 0) (fs := [.int 0, .int 0, .int 0, .int 0]) rfl zc_dX0 (N1 := 51) (c1 := 50) (s1 := 741) rfl rfl rfl (Nat.le_of_ble_eq_true rfl) (Nat.le_of_ble_eq_true rfl) dX8_init_166 ?_
  refine zc_dup X dX8_init_169 rfl ?_
  refine zc_init X (ctc_X0_init l E b _ 50 _ (by decide) rfl) (cwI 0 X.1.2.2.2.2 gX8_init_X0_init rfl rfl rfl (X.1.2.2.2.2 _ w41) (X.1.2.2.2.2 _ w42) (X.1.2.2.2.2 _ w43) rfl (by decide +kernel) ⟨Nat.le_of_ble_eq_true rfl, Nat.le_of_ble_eq_true rfl⟩) (Nat.le_of_ble_eq_true rfl) dX8_init_170 (N2 := 51) (c1 := 50) (s1 := 741) rfl rfl rfl (Nat.le_of_ble_eq_true rfl) (Nat.le_of_ble_eq_true rfl) ?_
  refine zc_aast X (i := 49) (k := 50) (t := 1) (by decide) rfl rfl (by decide) rfl rfl (by unfold vp_in; decide) dX8_init_173 ?_
  refine zc_iinc X (v := 1) (lv' := [(1, .int 1), (0, .ref (b + 0))]) 0 dX8_init_174 rfl (by decide) (by decide) rfl ?_
  refine zc_goto X (tgt := 155) dX8_init_177 (by decide) ?_
  refine zc_iload_n X 0 dX8_init_155 rfl rfl ?_
  refine zc_bipush X (v := 20) dX8_init_156 (by decide) ?_
  refine zc_cmpF X (tgt := 180) dX8_init_158 (by decide) (by decide) ?_
  refine zc_aload_n X 1 dX8_init_161 rfl rfl ?_
  refine zc_get X iX8 (i := 0) (by decide) rfl rfl 3 (by decide) w39 rfl dX8_init_162 ?_
  refine zc_iload_n X 0 dX8_init_165 rfl rfl ?_
  refine zc_new X iX0 tyX0 tyX0_ok w38 w40 w41 (ci := 0) (fs := [.int 0, .int 0, .int 0, .int 0]) rfl zc_dX0 (N1 := 52) (c1 := 51) (s1 := 745) rfl rfl rfl (Nat.le_of_ble_eq_true rfl) (Nat.le_of_ble_eq_true rfl) dX8_init_166 ?_
  refine zc_dup X dX8_init_169 rfl ?_
  refine zc_init X (ctc_X0_init l E b _ 51 _ (by decide) rfl) (cwI 0 X.1.2.2.2.2 gX8_init_X0_init rfl rfl rfl (X.1.2.2.2.2 _ w41) (X.1.2.2.2.2 _ w42) (X.1.2.2.2.2 _ w43) rfl (by decide +kernel) ⟨Nat.le_of_ble_eq_true rfl, Nat.le_of_ble_eq_true rfl⟩) (Nat.le_of_ble_eq_true rfl) dX8_init_170 (N2 := 52) (c1 := 51) (s1 := 745) rfl rfl rfl (Nat.le_of_ble_eq_true rfl) (Nat.le_of_ble_eq_true rfl) ?_
  refine zc_aast X (i := 49) (k := 51) (t := 1) (by decide) rfl rfl (by decide) rfl rfl (by unfold vp_in; decide) dX8_init_173 ?_
  refine zc_iinc X (v := 2) (lv' := [(1, .int 2), (0, .ref (b + 0))]) 0 dX8_init_174 rfl (by decide) (by decide) rfl ?_
  refine zc_goto X (tgt := 155) dX8_init_177 (by decide) ?_
  refine zc_iload_n X 0 dX8_init_155 rfl rfl ?_
  refine zc_bipush X (v := 20) dX8_init_156 (by decide) ?_
  refine zc_cmpF X (tgt := 180) dX8_init_158 (by decide) (by decide) ?_
  refine zc_aload_n X 1 dX8_init_161 rfl rfl ?_
  refine zc_get X iX8 (i := 0) (by decide) rfl rfl 3 (by decide) w39 rfl dX8_init_162 ?_
  refine zc_iload_n X 0 dX8_init_165 rfl rfl ?_
  refine zc_new X iX0 tyX0 tyX0_ok w38 w40 w41 (ci := 0) (fs := [.int 0, .int 0, .int 0, .int 0]) rfl zc_dX0 (N1 := 53) (c1 := 52) (s1 := 749) rfl rfl rfl (Nat.le_of_ble_eq_true rfl) (Nat.le_of_ble_eq_true rfl) dX8_init_166 ?_
  refine zc_dup X dX8_init_169 rfl ?_
  refine zc_init X (ctc_X0_init l E b _ 52 _ (by decide) rfl) (cwI 0 X.1.2.2.2.2 gX8_init_X0_init rfl rfl rfl (X.1.2.2.2.2 _ w41) (X.1.2.2.2.2 _ w42) (X.1.2.2.2.2 _ w43) rfl (by decide +kernel) ⟨Nat.le_of_ble_eq_true rfl, Nat.le_of_ble_eq_true rfl⟩) (Nat.le_of_ble_eq_true rfl) dX8_init_170 (N2 := 53) (c1 := 52) (s1 := 749) rfl rfl rfl (Nat.le_of_ble_eq_true rfl) (Nat.le_of_ble_eq_true rfl) ?_
  refine zc_aast X (i := 49) (k := 52) (t := 1) (by decide) rfl rfl (by decide) rfl rfl (by unfold vp_in; decide) dX8_init_173 ?_
  refine zc_iinc X (v := 3) (lv' := [(1, .int 3), (0, .ref (b + 0))]) 0 dX8_init_174 rfl (by decide) (by decide) rfl ?_
  refine zc_goto X (tgt := 155) dX8_init_177 (by decide) ?_
  refine zc_iload_n X 0 dX8_init_155 rfl rfl ?_
  refine zc_bipush X (v := 20) dX8_init_156 (by decide) ?_
  refine zc_cmpF X (tgt := 180) dX8_init_158 (by decide) (by decide) ?_
  refine zc_aload_n X 1 dX8_init_161 rfl rfl ?_
  refine zc_get X iX8 (i := 0) (by decide) rfl rfl 3 (by decide) w39 rfl dX8_init_162 ?_
  refine zc_iload_n X 0 dX8_init_165 rfl rfl ?_
  refine zc_new X iX0 tyX0 tyX0_ok w38 w40 w41 (ci := 0) (fs := [.int 0, .int 0, .int 0, .int 0]) rfl zc_dX0 (N1 := 54) (c1 := 53) (s1 := 753) rfl rfl rfl (Nat.le_of_ble_eq_true rfl) (Nat.le_of_ble_eq_true rfl) dX8_init_166 ?_
  refine zc_dup X dX8_init_169 rfl ?_
  refine zc_init X (ctc_X0_init l E b _ 53 _ (by decide) rfl) (cwI 0 X.1.2.2.2.2 gX8_init_X0_init rfl rfl rfl (X.1.2.2.2.2 _ w41) (X.1.2.2.2.2 _ w42) (X.1.2.2.2.2 _ w43) rfl (by decide +kernel) ⟨Nat.le_of_ble_eq_true rfl, Nat.le_of_ble_eq_true rfl⟩) (Nat.le_of_ble_eq_true rfl) dX8_init_170 (N2 := 54) (c1 := 53) (s1 := 753) rfl rfl rfl (Nat.le_of_ble_eq_true rfl) (Nat.le_of_ble_eq_true rfl) ?_
  refine zc_aast X (i := 49) (k := 53) (t := 1) (by decide) rfl rfl (by decide) rfl rfl (by unfold vp_in; decide) dX8_init_173 ?_
  refine zc_iinc X (v := 4) (lv' := [(1, .int 4), (0, .ref (b + 0))]) 0 dX8_init_174 rfl (by decide) (by decide) rfl ?_
  refine zc_goto X (tgt := 155) dX8_init_177 (by decide) ?_
  refine zc_iload_n X 0 dX8_init_155 rfl rfl ?_
  refine zc_bipush X (v := 20) dX8_init_156 (by decide) ?_
  refine zc_cmpF X (tgt := 180) dX8_init_158 (by decide) (by decide) ?_
  refine zc_aload_n X 1 dX8_init_161 rfl rfl ?_
  refine zc_get X iX8 (i := 0) (by decide) rfl rfl 3 (by decide) w39 rfl dX8_init_162 ?_
  refine zc_iload_n X 0 dX8_init_165 rfl rfl ?_
  refine zc_new X iX0 tyX0 tyX0_ok w38 w40 w41 (ci := 0) (fs := [.int 0, .int 0, .int 0, .int 0]) rfl zc_dX0 (N1 := 55) (c1 := 54) (s1 := 757) rfl rfl rfl (Nat.le_of_ble_eq_true rfl) (Nat.le_of_ble_eq_true rfl) dX8_init_166 ?_
  refine zc_dup X dX8_init_169 rfl ?_
  refine zc_init X (ctc_X0_init l E b _ 54 _ (by decide) rfl) (cwI 0 X.1.2.2.2.2 gX8_init_X0_init rfl rfl rfl (X.1.2.2.2.2 _ w41) (X.1.2.2.2.2 _ w42) (X.1.2.2.2.2 _ w43) rfl (by decide +kernel) ⟨Nat.le_of_ble_eq_true rfl, Nat.le_of_ble_eq_true rfl⟩) (Nat.le_of_ble_eq_true rfl) dX8_init_170 (N2 := 55) (c1 := 54) (s1 := 757) rfl rfl rfl (Nat.le_of_ble_eq_true rfl) (Nat.le_of_ble_eq_true rfl) ?_
  refine zc_aast X (i := 49) (k := 54) (t := 1) (by decide) rfl rfl (by decide) rfl rfl (by unfold vp_in; decide) dX8_init_173 ?_
  refine zc_iinc X (v := 5) (lv' := [(1, .int 5), (0, .ref (b + 0))]) 0 dX8_init_174 rfl (by decide) (by decide) rfl ?_
  refine zc_goto X (tgt := 155) dX8_init_177 (by decide) ?_
  refine zc_iload_n X 0 dX8_init_155 rfl rfl ?_
  refine zc_bipush X (v := 20) dX8_init_156 (by decide) ?_
  refine zc_cmpF X (tgt := 180) dX8_init_158 (by decide) (by decide) ?_
  refine zc_aload_n X 1 dX8_init_161 rfl rfl ?_
  refine zc_get X iX8 (i := 0) (by decide) rfl rfl 3 (by decide) w39 rfl dX8_init_162 ?_
  refine zc_iload_n X 0 dX8_init_165 rfl rfl ?_
  refine zc_new X iX0 tyX0 tyX0_ok w38 w40 w41 (ci := 0) (fs := [.int 0, .int 0, .int 0, .int 0]) rfl zc_dX0 (N1 := 56) (c1 := 55) (s1 := 761) rfl rfl rfl (Nat.le_of_ble_eq_true rfl) (Nat.le_of_ble_eq_true rfl) dX8_init_166 ?_
  refine zc_dup X dX8_init_169 rfl ?_
  refine zc_init X (ctc_X0_init l E b _ 55 _ (by decide) rfl) (cwI 0 X.1.2.2.2.2 gX8_init_X0_init rfl rfl rfl (X.1.2.2.2.2 _ w41) (X.1.2.2.2.2 _ w42) (X.1.2.2.2.2 _ w43) rfl (by decide +kernel) ⟨Nat.le_of_ble_eq_true rfl, Nat.le_of_ble_eq_true rfl⟩) (Nat.le_of_ble_eq_true rfl) dX8_init_170 (N2 := 56) (c1 := 55) (s1 := 761) rfl rfl rfl (Nat.le_of_ble_eq_true rfl) (Nat.le_of_ble_eq_true rfl) ?_
  refine zc_aast X (i := 49) (k := 55) (t := 1) (by decide) rfl rfl (by decide) rfl rfl (by unfold vp_in; decide) dX8_init_173 ?_
  refine zc_iinc X (v := 6) (lv' := [(1, .int 6), (0, .ref (b + 0))]) 0 dX8_init_174 rfl (by decide) (by decide) rfl ?_
  refine zc_goto X (tgt := 155) dX8_init_177 (by decide) ?_
  refine zc_iload_n X 0 dX8_init_155 rfl rfl ?_
  refine zc_bipush X (v := 20) dX8_init_156 (by decide) ?_
  refine zc_cmpF X (tgt := 180) dX8_init_158 (by decide) (by decide) ?_
  refine zc_aload_n X 1 dX8_init_161 rfl rfl ?_
  refine zc_get X iX8 (i := 0) (by decide) rfl rfl 3 (by decide) w39 rfl dX8_init_162 ?_
  refine zc_iload_n X 0 dX8_init_165 rfl rfl ?_
  refine zc_new X iX0 tyX0 tyX0_ok w38 w40 w41 (ci := 0) (fs := [.int 0, .int 0, .int 0, .int 0]) rfl zc_dX0 (N1 := 57) (c1 := 56) (s1 := 765) rfl rfl rfl (Nat.le_of_ble_eq_true rfl) (Nat.le_of_ble_eq_true rfl) dX8_init_166 ?_
  refine zc_dup X dX8_init_169 rfl ?_
  refine zc_init X (ctc_X0_init l E b _ 56 _ (by decide) rfl) (cwI 0 X.1.2.2.2.2 gX8_init_X0_init rfl rfl rfl (X.1.2.2.2.2 _ w41) (X.1.2.2.2.2 _ w42) (X.1.2.2.2.2 _ w43) rfl (by decide +kernel) ⟨Nat.le_of_ble_eq_true rfl, Nat.le_of_ble_eq_true rfl⟩) (Nat.le_of_ble_eq_true rfl) dX8_init_170 (N2 := 57) (c1 := 56) (s1 := 765) rfl rfl rfl (Nat.le_of_ble_eq_true rfl) (Nat.le_of_ble_eq_true rfl) ?_
  refine zc_aast X (i := 49) (k := 56) (t := 1) (by decide) rfl rfl (by decide) rfl rfl (by unfold vp_in; decide) dX8_init_173 ?_
  refine zc_iinc X (v := 7) (lv' := [(1, .int 7), (0, .ref (b + 0))]) 0 dX8_init_174 rfl (by decide) (by decide) rfl ?_
  refine zc_goto X (tgt := 155) dX8_init_177 (by decide) ?_
  refine zc_iload_n X 0 dX8_init_155 rfl rfl ?_
  refine zc_bipush X (v := 20) dX8_init_156 (by decide) ?_
  refine zc_cmpF X (tgt := 180) dX8_init_158 (by decide) (by decide) ?_
  refine zc_aload_n X 1 dX8_init_161 rfl rfl ?_
  refine zc_get X iX8 (i := 0) (by decide) rfl rfl 3 (by decide) w39 rfl dX8_init_162 ?_
  refine zc_iload_n X 0 dX8_init_165 rfl rfl ?_
  refine zc_new X iX0 tyX0 tyX0_ok w38 w40 w41 (ci := 0) (fs := [.int 0, .int 0, .int 0, .int 0]) rfl zc_dX0 (N1 := 58) (c1 := 57) (s1 := 769) rfl rfl rfl (Nat.le_of_ble_eq_true rfl) (Nat.le_of_ble_eq_true rfl) dX8_init_166 ?_
  refine zc_dup X dX8_init_169 rfl ?_
  refine zc_init X (ctc_X0_init l E b _ 57 _ (by decide) rfl) (cwI 0 X.1.2.2.2.2 gX8_init_X0_init rfl rfl rfl (X.1.2.2.2.2 _ w41) (X.1.2.2.2.2 _ w42) (X.1.2.2.2.2 _ w43) rfl (by decide +kernel) ⟨Nat.le_of_ble_eq_true rfl, Nat.le_of_ble_eq_true rfl⟩) (Nat.le_of_ble_eq_true rfl) dX8_init_170 (N2 := 58) (c1 := 57) (s1 := 769) rfl rfl rfl (Nat.le_of_ble_eq_true rfl) (Nat.le_of_ble_eq_true rfl) ?_
  refine zc_aast X (i := 49) (k := 57) (t := 1) (by decide) rfl rfl (by decide) rfl rfl (by unfold vp_in; decide) dX8_init_173 ?_
  refine zc_iinc X (v := 8) (lv' := [(1, .int 8), (0, .ref (b + 0))]) 0 dX8_init_174 rfl (by decide) (by decide) rfl ?_
  refine zc_goto X (tgt := 155) dX8_init_177 (by decide) ?_
  refine zc_iload_n X 0 dX8_init_155 rfl rfl ?_
  refine zc_bipush X (v := 20) dX8_init_156 (by decide) ?_
  refine zc_cmpF X (tgt := 180) dX8_init_158 (by decide) (by decide) ?_
  refine zc_aload_n X 1 dX8_init_161 rfl rfl ?_
  refine zc_get X iX8 (i := 0) (by decide) rfl rfl 3 (by decide) w39 rfl dX8_init_162 ?_
  refine zc_iload_n X 0 dX8_init_165 rfl rfl ?_
  refine zc_new X iX0 tyX0 tyX0_ok w38 w40 w41 (ci := 0) (fs := [.int 0, .int 0, .int 0, .int 0]) rfl zc_dX0 (N1 := 59) (c1 := 58) (s1 := 773) rfl rfl rfl (Nat.le_of_ble_eq_true rfl) (Nat.le_of_ble_eq_true rfl) dX8_init_166 ?_
  refine zc_dup X dX8_init_169 rfl ?_
  refine zc_init X (ctc_X0_init l E b _ 58 _ (by decide) rfl) (cwI 0 X.1.2.2.2.2 gX8_init_X0_init rfl rfl rfl (X.1.2.2.2.2 _ w41) (X.1.2.2.2.2 _ w42) (X.1.2.2.2.2 _ w43) rfl (by decide +kernel) ⟨Nat.le_of_ble_eq_true rfl, Nat.le_of_ble_eq_true rfl⟩) (Nat.le_of_ble_eq_true rfl) dX8_init_170 (N2 := 59) (c1 := 58) (s1 := 773) rfl rfl rfl (Nat.le_of_ble_eq_true rfl) (Nat.le_of_ble_eq_true rfl) ?_
  refine zc_aast X (i := 49) (k := 58) (t := 1) (by decide) rfl rfl (by decide) rfl rfl (by unfold vp_in; decide) dX8_init_173 ?_
  refine zc_iinc X (v := 9) (lv' := [(1, .int 9), (0, .ref (b + 0))]) 0 dX8_init_174 rfl (by decide) (by decide) rfl ?_
  refine zc_goto X (tgt := 155) dX8_init_177 (by decide) ?_
  refine zc_iload_n X 0 dX8_init_155 rfl rfl ?_
  refine zc_bipush X (v := 20) dX8_init_156 (by decide) ?_
  refine zc_cmpF X (tgt := 180) dX8_init_158 (by decide) (by decide) ?_
  refine zc_aload_n X 1 dX8_init_161 rfl rfl ?_
  refine zc_get X iX8 (i := 0) (by decide) rfl rfl 3 (by decide) w39 rfl dX8_init_162 ?_
  refine zc_iload_n X 0 dX8_init_165 rfl rfl ?_
  refine zc_new X iX0 tyX0 tyX0_ok w38 w40 w41 (ci := 0) (fs := [.int 0, .int 0, .int 0, .int 0]) rfl zc_dX0 (N1 := 60) (c1 := 59) (s1 := 777) rfl rfl rfl (Nat.le_of_ble_eq_true rfl) (Nat.le_of_ble_eq_true rfl) dX8_init_166 ?_
  refine zc_dup X dX8_init_169 rfl ?_
  refine zc_init X (ctc_X0_init l E b _ 59 _ (by decide) rfl) (cwI 0 X.1.2.2.2.2 gX8_init_X0_init rfl rfl rfl (X.1.2.2.2.2 _ w41) (X.1.2.2.2.2 _ w42) (X.1.2.2.2.2 _ w43) rfl (by decide +kernel) ⟨Nat.le_of_ble_eq_true rfl, Nat.le_of_ble_eq_true rfl⟩) (Nat.le_of_ble_eq_true rfl) dX8_init_170 (N2 := 60) (c1 := 59) (s1 := 777) rfl rfl rfl (Nat.le_of_ble_eq_true rfl) (Nat.le_of_ble_eq_true rfl) ?_
  refine zc_aast X (i := 49) (k := 59) (t := 1) (by decide) rfl rfl (by decide) rfl rfl (by unfold vp_in; decide) dX8_init_173 ?_
  refine zc_iinc X (v := 10) (lv' := [(1, .int 10), (0, .ref (b + 0))]) 0 dX8_init_174 rfl (by decide) (by decide) rfl ?_
  refine zc_goto X (tgt := 155) dX8_init_177 (by decide) ?_
  refine zc_iload_n X 0 dX8_init_155 rfl rfl ?_
  refine zc_bipush X (v := 20) dX8_init_156 (by decide) ?_
  refine zc_cmpF X (tgt := 180) dX8_init_158 (by decide) (by decide) ?_
  refine zc_aload_n X 1 dX8_init_161 rfl rfl ?_
  refine zc_get X iX8 (i := 0) (by decide) rfl rfl 3 (by decide) w39 rfl dX8_init_162 ?_
  refine zc_iload_n X 0 dX8_init_165 rfl rfl ?_
  refine zc_new X iX0 tyX0 tyX0_ok w38 w40 w41 (ci := 0) (fs := [.int 0, .int 0, .int 0, .int 0]) rfl zc_dX0 (N1 := 61) (c1 := 60) (s1 := 781) rfl rfl rfl (Nat.le_of_ble_eq_true rfl) (Nat.le_of_ble_eq_true rfl) dX8_init_166 ?_
  refine zc_dup X dX8_init_169 rfl ?_
  refine zc_init X (ctc_X0_init l E b _ 60 _ (by decide) rfl) (cwI 0 X.1.2.2.2.2 gX8_init_X0_init rfl rfl rfl (X.1.2.2.2.2 _ w41) (X.1.2.2.2.2 _ w42) (X.1.2.2.2.2 _ w43) rfl (by decide +kernel) ⟨Nat.le_of_ble_eq_true rfl, Nat.le_of_ble_eq_true rfl⟩) (Nat.le_of_ble_eq_true rfl) dX8_init_170 (N2 := 61) (c1 := 60) (s1 := 781) rfl rfl rfl (Nat.le_of_ble_eq_true rfl) (Nat.le_of_ble_eq_true rfl) ?_
  refine zc_aast X (i := 49) (k := 60) (t := 1) (by decide) rfl rfl (by decide) rfl rfl (by unfold vp_in; decide) dX8_init_173 ?_
  refine zc_iinc X (v := 11) (lv' := [(1, .int 11), (0, .ref (b + 0))]) 0 dX8_init_174 rfl (by decide) (by decide) rfl ?_
  refine zc_goto X (tgt := 155) dX8_init_177 (by decide) ?_
  refine zc_iload_n X 0 dX8_init_155 rfl rfl ?_
  refine zc_bipush X (v := 20) dX8_init_156 (by decide) ?_
  refine zc_cmpF X (tgt := 180) dX8_init_158 (by decide) (by decide) ?_
  refine zc_aload_n X 1 dX8_init_161 rfl rfl ?_
  refine zc_get X iX8 (i := 0) (by decide) rfl rfl 3 (by decide) w39 rfl dX8_init_162 ?_
  refine zc_iload_n X 0 dX8_init_165 rfl rfl ?_
  refine zc_new X iX0 tyX0 tyX0_ok w38 w40 w41 (ci := 0) (fs := [.int 0, .int 0, .int 0, .int 0]) rfl zc_dX0 (N1 := 62) (c1 := 61) (s1 := 785) rfl rfl rfl (Nat.le_of_ble_eq_true rfl) (Nat.le_of_ble_eq_true rfl) dX8_init_166 ?_
  refine zc_dup X dX8_init_169 rfl ?_
  refine zc_init X (ctc_X0_init l E b _ 61 _ (by decide) rfl) (cwI 0 X.1.2.2.2.2 gX8_init_X0_init rfl rfl rfl (X.1.2.2.2.2 _ w41) (X.1.2.2.2.2 _ w42) (X.1.2.2.2.2 _ w43) rfl (by decide +kernel) ⟨Nat.le_of_ble_eq_true rfl, Nat.le_of_ble_eq_true rfl⟩) (Nat.le_of_ble_eq_true rfl) dX8_init_170 (N2 := 62) (c1 := 61) (s1 := 785) rfl rfl rfl (Nat.le_of_ble_eq_true rfl) (Nat.le_of_ble_eq_true rfl) ?_
  refine zc_aast X (i := 49) (k := 61) (t := 1) (by decide) rfl rfl (by decide) rfl rfl (by unfold vp_in; decide) dX8_init_173 ?_
  refine zc_iinc X (v := 12) (lv' := [(1, .int 12), (0, .ref (b + 0))]) 0 dX8_init_174 rfl (by decide) (by decide) rfl ?_
  refine zc_goto X (tgt := 155) dX8_init_177 (by decide) ?_
  refine zc_iload_n X 0 dX8_init_155 rfl rfl ?_
  refine zc_bipush X (v := 20) dX8_init_156 (by decide) ?_
  refine zc_cmpF X (tgt := 180) dX8_init_158 (by decide) (by decide) ?_
  refine zc_aload_n X 1 dX8_init_161 rfl rfl ?_
  refine zc_get X iX8 (i := 0) (by decide) rfl rfl 3 (by decide) w39 rfl dX8_init_162 ?_
  refine zc_iload_n X 0 dX8_init_165 rfl rfl ?_
  refine zc_new X iX0 tyX0 tyX0_ok w38 w40 w41 (ci := 0) (fs := [.int 0, .int 0, .int 0, .int 0]) rfl zc_dX0 (N1 := 63) (c1 := 62) (s1 := 789) rfl rfl rfl (Nat.le_of_ble_eq_true rfl) (Nat.le_of_ble_eq_true rfl) dX8_init_166 ?_
  refine zc_dup X dX8_init_169 rfl ?_
  refine zc_init X (ctc_X0_init l E b _ 62 _ (by decide) rfl) (cwI 0 X.1.2.2.2.2 gX8_init_X0_init rfl rfl rfl (X.1.2.2.2.2 _ w41) (X.1.2.2.2.2 _ w42) (X.1.2.2.2.2 _ w43) rfl (by decide +kernel) ⟨Nat.le_of_ble_eq_true rfl, Nat.le_of_ble_eq_true rfl⟩) (Nat.le_of_ble_eq_true rfl) dX8_init_170 (N2 := 63) (c1 := 62) (s1 := 789) rfl rfl rfl (Nat.le_of_ble_eq_true rfl) (Nat.le_of_ble_eq_true rfl) ?_
  refine zc_aast X (i := 49) (k := 62) (t := 1) (by decide) rfl rfl (by decide) rfl rfl (by unfold vp_in; decide) dX8_init_173 ?_
  refine zc_iinc X (v := 13) (lv' := [(1, .int 13), (0, .ref (b + 0))]) 0 dX8_init_174 rfl (by decide) (by decide) rfl ?_
  refine zc_goto X (tgt := 155) dX8_init_177 (by decide) ?_
  refine zc_iload_n X 0 dX8_init_155 rfl rfl ?_
  refine zc_bipush X (v := 20) dX8_init_156 (by decide) ?_
  refine zc_cmpF X (tgt := 180) dX8_init_158 (by decide) (by decide) ?_
  refine zc_aload_n X 1 dX8_init_161 rfl rfl ?_
  refine zc_get X iX8 (i := 0) (by decide) rfl rfl 3 (by decide) w39 rfl dX8_init_162 ?_
  refine zc_iload_n X 0 dX8_init_165 rfl rfl ?_
  refine zc_new X iX0 tyX0 tyX0_ok w38 w40 w41 (ci := 0) (fs := [.int 0, .int 0, .int 0, .int 0]) rfl zc_dX0 (N1 := 64) (c1 := 63) (s1 := 793) rfl rfl rfl (Nat.le_of_ble_eq_true rfl) (Nat.le_of_ble_eq_true rfl) dX8_init_166 ?_
  refine zc_dup X dX8_init_169 rfl ?_
  refine zc_init X (ctc_X0_init l E b _ 63 _ (by decide) rfl) (cwI 0 X.1.2.2.2.2 gX8_init_X0_init rfl rfl rfl (X.1.2.2.2.2 _ w41) (X.1.2.2.2.2 _ w42) (X.1.2.2.2.2 _ w43) rfl (by decide +kernel) ⟨Nat.le_of_ble_eq_true rfl, Nat.le_of_ble_eq_true rfl⟩) (Nat.le_of_ble_eq_true rfl) dX8_init_170 (N2 := 64) (c1 := 63) (s1 := 793) rfl rfl rfl (Nat.le_of_ble_eq_true rfl) (Nat.le_of_ble_eq_true rfl) ?_
  refine zc_aast X (i := 49) (k := 63) (t := 1) (by decide) rfl rfl (by decide) rfl rfl (by unfold vp_in; decide) dX8_init_173 ?_
  refine zc_iinc X (v := 14) (lv' := [(1, .int 14), (0, .ref (b + 0))]) 0 dX8_init_174 rfl (by decide) (by decide) rfl ?_
  refine zc_goto X (tgt := 155) dX8_init_177 (by decide) ?_
  refine zc_iload_n X 0 dX8_init_155 rfl rfl ?_
  refine zc_bipush X (v := 20) dX8_init_156 (by decide) ?_
  refine zc_cmpF X (tgt := 180) dX8_init_158 (by decide) (by decide) ?_
  refine zc_aload_n X 1 dX8_init_161 rfl rfl ?_
  refine zc_get X iX8 (i := 0) (by decide) rfl rfl 3 (by decide) w39 rfl dX8_init_162 ?_
  refine zc_iload_n X 0 dX8_init_165 rfl rfl ?_
  refine zc_new X iX0 tyX0 tyX0_ok w38 w40 w41 (ci := 0) (fs := [.int 0, .int 0, .int 0, .int 0]) rfl zc_dX0 (N1 := 65) (c1 := 64) (s1 := 797) rfl rfl rfl (Nat.le_of_ble_eq_true rfl) (Nat.le_of_ble_eq_true rfl) dX8_init_166 ?_
  refine zc_dup X dX8_init_169 rfl ?_
  refine zc_init X (ctc_X0_init l E b _ 64 _ (by decide) rfl) (cwI 0 X.1.2.2.2.2 gX8_init_X0_init rfl rfl rfl (X.1.2.2.2.2 _ w41) (X.1.2.2.2.2 _ w42) (X.1.2.2.2.2 _ w43) rfl (by decide +kernel) ⟨Nat.le_of_ble_eq_true rfl, Nat.le_of_ble_eq_true rfl⟩) (Nat.le_of_ble_eq_true rfl) dX8_init_170 (N2 := 65) (c1 := 64) (s1 := 797) rfl rfl rfl (Nat.le_of_ble_eq_true rfl) (Nat.le_of_ble_eq_true rfl) ?_
  refine zc_aast X (i := 49) (k := 64) (t := 1) (by decide) rfl rfl (by decide) rfl rfl (by unfold vp_in; decide) dX8_init_173 ?_
  refine zc_iinc X (v := 15) (lv' := [(1, .int 15), (0, .ref (b + 0))]) 0 dX8_init_174 rfl (by decide) (by decide) rfl ?_
  refine zc_goto X (tgt := 155) dX8_init_177 (by decide) ?_
  refine zc_iload_n X 0 dX8_init_155 rfl rfl ?_
  refine zc_bipush X (v := 20) dX8_init_156 (by decide) ?_
  refine zc_cmpF X (tgt := 180) dX8_init_158 (by decide) (by decide) ?_
  refine zc_aload_n X 1 dX8_init_161 rfl rfl ?_
  refine zc_get X iX8 (i := 0) (by decide) rfl rfl 3 (by decide) w39 rfl dX8_init_162 ?_
  refine zc_iload_n X 0 dX8_init_165 rfl rfl ?_
  refine zc_new X iX0 tyX0 tyX0_ok w38 w40 w41 (ci := 0) (fs := [.int 0, .int 0, .int 0, .int 0]) rfl zc_dX0 (N1 := 66) (c1 := 65) (s1 := 801) rfl rfl rfl (Nat.le_of_ble_eq_true rfl) (Nat.le_of_ble_eq_true rfl) dX8_init_166 ?_
  refine zc_dup X dX8_init_169 rfl ?_
  refine zc_init X (ctc_X0_init l E b _ 65 _ (by decide) rfl) (cwI 0 X.1.2.2.2.2 gX8_init_X0_init rfl rfl rfl (X.1.2.2.2.2 _ w41) (X.1.2.2.2.2 _ w42) (X.1.2.2.2.2 _ w43) rfl (by decide +kernel) ⟨Nat.le_of_ble_eq_true rfl, Nat.le_of_ble_eq_true rfl⟩) (Nat.le_of_ble_eq_true rfl) dX8_init_170 (N2 := 66) (c1 := 65) (s1 := 801) rfl rfl rfl (Nat.le_of_ble_eq_true rfl) (Nat.le_of_ble_eq_true rfl) ?_
  refine zc_aast X (i := 49) (k := 65) (t := 1) (by decide) rfl rfl (by decide) rfl rfl (by unfold vp_in; decide) dX8_init_173 ?_
  refine zc_iinc X (v := 16) (lv' := [(1, .int 16), (0, .ref (b + 0))]) 0 dX8_init_174 rfl (by decide) (by decide) rfl ?_
  refine zc_goto X (tgt := 155) dX8_init_177 (by decide) ?_
  refine zc_iload_n X 0 dX8_init_155 rfl rfl ?_
  refine zc_bipush X (v := 20) dX8_init_156 (by decide) ?_
  refine zc_cmpF X (tgt := 180) dX8_init_158 (by decide) (by decide) ?_
  refine zc_aload_n X 1 dX8_init_161 rfl rfl ?_
  refine zc_get X iX8 (i := 0) (by decide) rfl rfl 3 (by decide) w39 rfl dX8_init_162 ?_
  refine zc_iload_n X 0 dX8_init_165 rfl rfl ?_
  refine zc_new X iX0 tyX0 tyX0_ok w38 w40 w41 (ci := 0) (fs := [.int 0, .int 0, .int 0, .int 0]) rfl zc_dX0 (N1 := 67) (c1 := 66) (s1 := 805) rfl rfl rfl (Nat.le_of_ble_eq_true rfl) (Nat.le_of_ble_eq_true rfl) dX8_init_166 ?_
  refine zc_dup X dX8_init_169 rfl ?_
  refine zc_init X (ctc_X0_init l E b _ 66 _ (by decide) rfl) (cwI 0 X.1.2.2.2.2 gX8_init_X0_init rfl rfl rfl (X.1.2.2.2.2 _ w41) (X.1.2.2.2.2 _ w42) (X.1.2.2.2.2 _ w43) rfl (by decide +kernel) ⟨Nat.le_of_ble_eq_true rfl, Nat.le_of_ble_eq_true rfl⟩) (Nat.le_of_ble_eq_true rfl) dX8_init_170 (N2 := 67) (c1 := 66) (s1 := 805) rfl rfl rfl (Nat.le_of_ble_eq_true rfl) (Nat.le_of_ble_eq_true rfl) ?_
  refine zc_aast X (i := 49) (k := 66) (t := 1) (by decide) rfl rfl (by decide) rfl rfl (by unfold vp_in; decide) dX8_init_173 ?_
  refine zc_iinc X (v := 17) (lv' := [(1, .int 17), (0, .ref (b + 0))]) 0 dX8_init_174 rfl (by decide) (by decide) rfl ?_
  refine zc_goto X (tgt := 155) dX8_init_177 (by decide) ?_
  refine zc_iload_n X 0 dX8_init_155 rfl rfl ?_
  refine zc_bipush X (v := 20) dX8_init_156 (by decide) ?_
  refine zc_cmpF X (tgt := 180) dX8_init_158 (by decide) (by decide) ?_
  refine zc_aload_n X 1 dX8_init_161 rfl rfl ?_
  refine zc_get X iX8 (i := 0) (by decide) rfl rfl 3 (by decide) w39 rfl dX8_init_162 ?_
  refine zc_iload_n X 0 dX8_init_165 rfl rfl ?_
  refine zc_new X iX0 tyX0 tyX0_ok w38 w40 w41 (ci := 0) (fs := [.int 0, .int 0, .int 0, .int 0]) rfl zc_dX0 (N1 := 68) (c1 := 67) (s1 := 809) rfl rfl rfl (Nat.le_of_ble_eq_true rfl) (Nat.le_of_ble_eq_true rfl) dX8_init_166 ?_
  refine zc_dup X dX8_init_169 rfl ?_
  refine zc_init X (ctc_X0_init l E b _ 67 _ (by decide) rfl) (cwI 0 X.1.2.2.2.2 gX8_init_X0_init rfl rfl rfl (X.1.2.2.2.2 _ w41) (X.1.2.2.2.2 _ w42) (X.1.2.2.2.2 _ w43) rfl (by decide +kernel) ⟨Nat.le_of_ble_eq_true rfl, Nat.le_of_ble_eq_true rfl⟩) (Nat.le_of_ble_eq_true rfl) dX8_init_170 (N2 := 68) (c1 := 67) (s1 := 809) rfl rfl rfl (Nat.le_of_ble_eq_true rfl) (Nat.le_of_ble_eq_true rfl) ?_
  refine zc_aast X (i := 49) (k := 67) (t := 1) (by decide) rfl rfl (by decide) rfl rfl (by unfold vp_in; decide) dX8_init_173 ?_
  refine zc_iinc X (v := 18) (lv' := [(1, .int 18), (0, .ref (b + 0))]) 0 dX8_init_174 rfl (by decide) (by decide) rfl ?_
  refine zc_goto X (tgt := 155) dX8_init_177 (by decide) ?_
  refine zc_iload_n X 0 dX8_init_155 rfl rfl ?_
  refine zc_bipush X (v := 20) dX8_init_156 (by decide) ?_
  refine zc_cmpF X (tgt := 180) dX8_init_158 (by decide) (by decide) ?_
  refine zc_aload_n X 1 dX8_init_161 rfl rfl ?_
  refine zc_get X iX8 (i := 0) (by decide) rfl rfl 3 (by decide) w39 rfl dX8_init_162 ?_
  refine zc_iload_n X 0 dX8_init_165 rfl rfl ?_
  refine zc_new X iX0 tyX0 tyX0_ok w38 w40 w41 (ci := 0) (fs := [.int 0, .int 0, .int 0, .int 0]) rfl zc_dX0 (N1 := 69) (c1 := 68) (s1 := 813) rfl rfl rfl (Nat.le_of_ble_eq_true rfl) (Nat.le_of_ble_eq_true rfl) dX8_init_166 ?_
  refine zc_dup X dX8_init_169 rfl ?_
  refine zc_init X (ctc_X0_init l E b _ 68 _ (by decide) rfl) (cwI 0 X.1.2.2.2.2 gX8_init_X0_init rfl rfl rfl (X.1.2.2.2.2 _ w41) (X.1.2.2.2.2 _ w42) (X.1.2.2.2.2 _ w43) rfl (by decide +kernel) ⟨Nat.le_of_ble_eq_true rfl, Nat.le_of_ble_eq_true rfl⟩) (Nat.le_of_ble_eq_true rfl) dX8_init_170 (N2 := 69) (c1 := 68) (s1 := 813) rfl rfl rfl (Nat.le_of_ble_eq_true rfl) (Nat.le_of_ble_eq_true rfl) ?_
  refine zc_aast X (i := 49) (k := 68) (t := 1) (by decide) rfl rfl (by decide) rfl rfl (by unfold vp_in; decide) dX8_init_173 ?_
  refine zc_iinc X (v := 19) (lv' := [(1, .int 19), (0, .ref (b + 0))]) 0 dX8_init_174 rfl (by decide) (by decide) rfl ?_
  refine zc_goto X (tgt := 155) dX8_init_177 (by decide) ?_
  refine zc_iload_n X 0 dX8_init_155 rfl rfl ?_
  refine zc_bipush X (v := 20) dX8_init_156 (by decide) ?_
  refine zc_cmpF X (tgt := 180) dX8_init_158 (by decide) (by decide) ?_
  refine zc_aload_n X 1 dX8_init_161 rfl rfl ?_
  refine zc_get X iX8 (i := 0) (by decide) rfl rfl 3 (by decide) w39 rfl dX8_init_162 ?_
  refine zc_iload_n X 0 dX8_init_165 rfl rfl ?_
  refine zc_new X iX0 tyX0 tyX0_ok w38 w40 w41 (ci := 0) (fs := [.int 0, .int 0, .int 0, .int 0]) rfl zc_dX0 (N1 := 70) (c1 := 69) (s1 := 817) rfl rfl rfl (Nat.le_of_ble_eq_true rfl) (Nat.le_of_ble_eq_true rfl) dX8_init_166 ?_
  refine zc_dup X dX8_init_169 rfl ?_
  refine zc_init X (ctc_X0_init l E b _ 69 _ (by decide) rfl) (cwI 0 X.1.2.2.2.2 gX8_init_X0_init rfl rfl rfl (X.1.2.2.2.2 _ w41) (X.1.2.2.2.2 _ w42) (X.1.2.2.2.2 _ w43) rfl (by decide +kernel) ⟨Nat.le_of_ble_eq_true rfl, Nat.le_of_ble_eq_true rfl⟩) (Nat.le_of_ble_eq_true rfl) dX8_init_170 (N2 := 70) (c1 := 69) (s1 := 817) rfl rfl rfl (Nat.le_of_ble_eq_true rfl) (Nat.le_of_ble_eq_true rfl) ?_
  refine zc_aast X (i := 49) (k := 69) (t := 1) (by decide) rfl rfl (by decide) rfl rfl (by unfold vp_in; decide) dX8_init_173 ?_
  refine zc_iinc X (v := 20) (lv' := [(1, .int 20), (0, .ref (b + 0))]) 0 dX8_init_174 rfl (by decide) (by decide) rfl ?_
  refine zc_goto X (tgt := 155) dX8_init_177 (by decide) ?_
  refine zc_iload_n X 0 dX8_init_155 rfl rfl ?_
  refine zc_bipush X (v := 20) dX8_init_156 (by decide) ?_
  refine zc_cmpT X (tgt := 180) dX8_init_158 (by decide) (by decide) ?_
  refine zc_aload_n X 1 dX8_init_180 rfl rfl ?_
  refine zc_iconst X (v := 4) dX8_init_181 (by decide) ?_
  refine zc_newq X w44 X.2.1.2.2.2.1 (t := 3) rfl (by decide) (N' := 4) rfl (by decide) (N1 := 71) (c1 := 70) (s1 := 821) rfl rfl rfl (Nat.le_of_ble_eq_true rfl) (Nat.le_of_ble_eq_true rfl) dX8_init_182 ?_
  refine zc_putF X iX8 tyX8 tyX8_ok nmX8 hn2 (by decide) (i := 0) rfl rfl 4 (by decide) w45 rfl rfl (ty := .array (.object "HiddenWorks$Sheet")) (by decide +kernel) rfl rfl (Nat.le_of_ble_eq_true rfl) (fs1 := [.ref (b + 1), .ref (b + 11), .ref (b + 24), .ref (b + 49), .ref (b + 70), .ref (b + 3), .ref (b + 4), .ref (b + 5), .ref (b + 8), .ref (b + 9), .ref (b + 10), .int 0, .int 0, .int 0, .int 0]) rfl dX8_init_185 ?_
  refine zc_iconst X (v := 0) dX8_init_188 (by decide) ?_
  refine zc_istore_n X (lv' := [(1, .int 0), (0, .ref (b + 0))]) dX8_init_189 rfl (by decide) rfl ?_
  refine zc_iload_n X 0 dX8_init_190 rfl rfl ?_
  refine zc_iconst X (v := 4) dX8_init_191 (by decide) ?_
  refine zc_cmpF X (tgt := 214) dX8_init_192 (by decide) (by decide) ?_
  refine zc_aload_n X 1 dX8_init_195 rfl rfl ?_
  refine zc_get X iX8 (i := 0) (by decide) rfl rfl 4 (by decide) w45 rfl dX8_init_196 ?_
  refine zc_iload_n X 0 dX8_init_199 rfl rfl ?_
  refine zc_new X iX5 tyX5 tyX5_ok w44 w46 w47 (ci := 4) (fs := [.int 0, .int 0, .null]) rfl zc_dX5 (N1 := 72) (c1 := 71) (s1 := 824) rfl rfl rfl (Nat.le_of_ble_eq_true rfl) (Nat.le_of_ble_eq_true rfl) dX8_init_200 ?_
  refine zc_dup X dX8_init_203 rfl ?_
  refine zc_init X (ctc_X5_init l E b _ 71 _ (by decide) rfl) (cwI 0 X.1.2.2.2.2 gX8_init_X5_init rfl rfl rfl (X.1.2.2.2.2 _ w47) (X.1.2.2.2.2 _ w48) (X.1.2.2.2.2 _ w49) rfl (by decide +kernel) ⟨Nat.le_of_ble_eq_true rfl, Nat.le_of_ble_eq_true rfl⟩) (Nat.le_of_ble_eq_true rfl) dX8_init_204 (N2 := 73) (c1 := 72) (s1 := 864) rfl rfl rfl (Nat.le_of_ble_eq_true rfl) (Nat.le_of_ble_eq_true rfl) ?_
  refine zc_aast X (i := 70) (k := 71) (t := 3) (by decide) rfl rfl (by decide) rfl rfl (by unfold vp_in; decide) dX8_init_207 ?_
  refine zc_iinc X (v := 1) (lv' := [(1, .int 1), (0, .ref (b + 0))]) 0 dX8_init_208 rfl (by decide) (by decide) rfl ?_
  refine zc_goto X (tgt := 190) dX8_init_211 (by decide) ?_
  refine zc_iload_n X 0 dX8_init_190 rfl rfl ?_
  refine zc_iconst X (v := 4) dX8_init_191 (by decide) ?_
  refine zc_cmpF X (tgt := 214) dX8_init_192 (by decide) (by decide) ?_
  refine zc_aload_n X 1 dX8_init_195 rfl rfl ?_
  refine zc_get X iX8 (i := 0) (by decide) rfl rfl 4 (by decide) w45 rfl dX8_init_196 ?_
  refine zc_iload_n X 0 dX8_init_199 rfl rfl ?_
  refine zc_new X iX5 tyX5 tyX5_ok w44 w46 w47 (ci := 4) (fs := [.int 0, .int 0, .null]) rfl zc_dX5 (N1 := 74) (c1 := 73) (s1 := 867) rfl rfl rfl (Nat.le_of_ble_eq_true rfl) (Nat.le_of_ble_eq_true rfl) dX8_init_200 ?_
  refine zc_dup X dX8_init_203 rfl ?_
  refine zc_init X (ctc_X5_init l E b _ 73 _ (by decide) rfl) (cwI 0 X.1.2.2.2.2 gX8_init_X5_init rfl rfl rfl (X.1.2.2.2.2 _ w47) (X.1.2.2.2.2 _ w48) (X.1.2.2.2.2 _ w49) rfl (by decide +kernel) ⟨Nat.le_of_ble_eq_true rfl, Nat.le_of_ble_eq_true rfl⟩) (Nat.le_of_ble_eq_true rfl) dX8_init_204 (N2 := 75) (c1 := 74) (s1 := 907) rfl rfl rfl (Nat.le_of_ble_eq_true rfl) (Nat.le_of_ble_eq_true rfl) ?_
  refine zc_aast X (i := 70) (k := 73) (t := 3) (by decide) rfl rfl (by decide) rfl rfl (by unfold vp_in; decide) dX8_init_207 ?_
  refine zc_iinc X (v := 2) (lv' := [(1, .int 2), (0, .ref (b + 0))]) 0 dX8_init_208 rfl (by decide) (by decide) rfl ?_
  refine zc_goto X (tgt := 190) dX8_init_211 (by decide) ?_
  refine zc_iload_n X 0 dX8_init_190 rfl rfl ?_
  refine zc_iconst X (v := 4) dX8_init_191 (by decide) ?_
  refine zc_cmpF X (tgt := 214) dX8_init_192 (by decide) (by decide) ?_
  refine zc_aload_n X 1 dX8_init_195 rfl rfl ?_
  refine zc_get X iX8 (i := 0) (by decide) rfl rfl 4 (by decide) w45 rfl dX8_init_196 ?_
  refine zc_iload_n X 0 dX8_init_199 rfl rfl ?_
  refine zc_new X iX5 tyX5 tyX5_ok w44 w46 w47 (ci := 4) (fs := [.int 0, .int 0, .null]) rfl zc_dX5 (N1 := 76) (c1 := 75) (s1 := 910) rfl rfl rfl (Nat.le_of_ble_eq_true rfl) (Nat.le_of_ble_eq_true rfl) dX8_init_200 ?_
  refine zc_dup X dX8_init_203 rfl ?_
  refine zc_init X (ctc_X5_init l E b _ 75 _ (by decide) rfl) (cwI 0 X.1.2.2.2.2 gX8_init_X5_init rfl rfl rfl (X.1.2.2.2.2 _ w47) (X.1.2.2.2.2 _ w48) (X.1.2.2.2.2 _ w49) rfl (by decide +kernel) ⟨Nat.le_of_ble_eq_true rfl, Nat.le_of_ble_eq_true rfl⟩) (Nat.le_of_ble_eq_true rfl) dX8_init_204 (N2 := 77) (c1 := 76) (s1 := 950) rfl rfl rfl (Nat.le_of_ble_eq_true rfl) (Nat.le_of_ble_eq_true rfl) ?_
  refine zc_aast X (i := 70) (k := 75) (t := 3) (by decide) rfl rfl (by decide) rfl rfl (by unfold vp_in; decide) dX8_init_207 ?_
  refine zc_iinc X (v := 3) (lv' := [(1, .int 3), (0, .ref (b + 0))]) 0 dX8_init_208 rfl (by decide) (by decide) rfl ?_
  refine zc_goto X (tgt := 190) dX8_init_211 (by decide) ?_
  refine zc_iload_n X 0 dX8_init_190 rfl rfl ?_
  refine zc_iconst X (v := 4) dX8_init_191 (by decide) ?_
  refine zc_cmpF X (tgt := 214) dX8_init_192 (by decide) (by decide) ?_
  refine zc_aload_n X 1 dX8_init_195 rfl rfl ?_
  refine zc_get X iX8 (i := 0) (by decide) rfl rfl 4 (by decide) w45 rfl dX8_init_196 ?_
  refine zc_iload_n X 0 dX8_init_199 rfl rfl ?_
  refine zc_new X iX5 tyX5 tyX5_ok w44 w46 w47 (ci := 4) (fs := [.int 0, .int 0, .null]) rfl zc_dX5 (N1 := 78) (c1 := 77) (s1 := 953) rfl rfl rfl (Nat.le_of_ble_eq_true rfl) (Nat.le_of_ble_eq_true rfl) dX8_init_200 ?_
  refine zc_dup X dX8_init_203 rfl ?_
  refine zc_init X (ctc_X5_init l E b _ 77 _ (by decide) rfl) (cwI 0 X.1.2.2.2.2 gX8_init_X5_init rfl rfl rfl (X.1.2.2.2.2 _ w47) (X.1.2.2.2.2 _ w48) (X.1.2.2.2.2 _ w49) rfl (by decide +kernel) ⟨Nat.le_of_ble_eq_true rfl, Nat.le_of_ble_eq_true rfl⟩) (Nat.le_of_ble_eq_true rfl) dX8_init_204 (N2 := 79) (c1 := 78) (s1 := 993) rfl rfl rfl (Nat.le_of_ble_eq_true rfl) (Nat.le_of_ble_eq_true rfl) ?_
  refine zc_aast X (i := 70) (k := 77) (t := 3) (by decide) rfl rfl (by decide) rfl rfl (by unfold vp_in; decide) dX8_init_207 ?_
  refine zc_iinc X (v := 4) (lv' := [(1, .int 4), (0, .ref (b + 0))]) 0 dX8_init_208 rfl (by decide) (by decide) rfl ?_
  refine zc_goto X (tgt := 190) dX8_init_211 (by decide) ?_
  refine zc_iload_n X 0 dX8_init_190 rfl rfl ?_
  refine zc_iconst X (v := 4) dX8_init_191 (by decide) ?_
  refine zc_cmpT X (tgt := 214) dX8_init_192 (by decide) (by decide) ?_
  refine zc_aload_n X 1 dX8_init_214 rfl rfl ?_
  refine zc_iconst X (v := -1) dX8_init_215 (by decide) ?_
  refine zc_put X iX8 tyX8 tyX8_ok nmX8 (by decide) (i := 0) rfl rfl 14 (by decide) w50 rfl (ty := .int) (by decide +kernel) rfl rfl (Nat.le_of_ble_eq_true rfl) (fs1 := [.ref (b + 1), .ref (b + 11), .ref (b + 24), .ref (b + 49), .ref (b + 70), .ref (b + 3), .ref (b + 4), .ref (b + 5), .ref (b + 8), .ref (b + 9), .ref (b + 10), .int 0, .int 0, .int 0, .int (-1)]) rfl dX8_init_216 ?_
  refine zc_ret X hr (fun j hj => ?_) dX8_init_219
  match j, hj with
  | 0, _ => rfl
  | 1, _ => rfl
  | 2, _ => rfl
  | 3, _ => rfl
  | 4, _ => rfl
  | 5, _ => rfl
  | 6, _ => rfl
  | 7, _ => rfl
  | 8, _ => rfl
  | 9, _ => rfl
  | 10, _ => rfl
  | 11, _ => rfl
  | 12, _ => rfl
  | 13, _ => rfl
  | 14, _ => rfl
  | 15, _ => rfl
  | 16, _ => rfl
  | 17, _ => rfl
  | 18, _ => rfl
  | 19, _ => rfl
  | 20, _ => rfl
  | 21, _ => rfl
  | 22, _ => rfl
  | 23, _ => rfl
  | 24, _ => rfl
  | 25, _ => rfl
  | 26, _ => rfl
  | 27, _ => rfl
  | 28, _ => rfl
  | 29, _ => rfl
  | 30, _ => rfl
  | 31, _ => rfl
  | 32, _ => rfl
  | 33, _ => rfl
  | 34, _ => rfl
  | 35, _ => rfl
  | 36, _ => rfl
  | 37, _ => rfl
  | 38, _ => rfl
  | 39, _ => rfl
  | 40, _ => rfl
  | 41, _ => rfl
  | 42, _ => rfl
  | 43, _ => rfl
  | 44, _ => rfl
  | 45, _ => rfl
  | 46, _ => rfl
  | 47, _ => rfl
  | 48, _ => rfl
  | 49, _ => rfl
  | 50, _ => rfl
  | 51, _ => rfl
  | 52, _ => rfl
  | 53, _ => rfl
  | 54, _ => rfl
  | 55, _ => rfl
  | 56, _ => rfl
  | 57, _ => rfl
  | 58, _ => rfl
  | 59, _ => rfl
  | 60, _ => rfl
  | 61, _ => rfl
  | 62, _ => rfl
  | 63, _ => rfl
  | 64, _ => rfl
  | 65, _ => rfl
  | 66, _ => rfl
  | 67, _ => rfl
  | 68, _ => rfl
  | 69, _ => rfl
  | 70, _ => rfl
  | 71, _ => rfl
  | 72, _ => rfl
  | 73, _ => rfl
  | 74, _ => rfl
  | 75, _ => rfl
  | 76, _ => rfl
  | 77, _ => rfl
  | 78, _ => rfl
  | j + 79, hj => exact absurd hj (by omega)
