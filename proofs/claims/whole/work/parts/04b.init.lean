theorem zc_dX0 : ∀ j, j < 4 → defaultValue (tyX0 j) = vp_V [.int 0, .int 0, .int 0, .int 0] j := fun j hj => by
  rcases (show j = 0 ∨ j = 1 ∨ j = 2 ∨ j = 3 by omega) with rfl | rfl | rfl | rfl <;> rfl
theorem zc_dX1 : ∀ j, j < 2 → defaultValue (tyX1 j) = vp_V [.int 0, .int 0] j := fun j hj => by
  rcases (show j = 0 ∨ j = 1 by omega) with rfl | rfl <;> rfl
theorem zc_dX3 : ∀ j, j < 1 → defaultValue (tyX3 j) = vp_V [.long 0] j := fun j hj => by
  rcases (show j = 0 by omega) with rfl <;> rfl
theorem zc_dX4 : ∀ j, j < 5 → defaultValue (tyX4 j) = vp_V [.int 0, .int 0, .int 0, .int 0, .null] j := fun j hj => by
  rcases (show j = 0 ∨ j = 1 ∨ j = 2 ∨ j = 3 ∨ j = 4 by omega) with rfl | rfl | rfl | rfl | rfl <;> rfl
theorem zc_dX5 : ∀ j, j < 3 → defaultValue (tyX5 j) = vp_V [.int 0, .int 0, .null] j := fun j hj => by
  rcases (show j = 0 ∨ j = 1 ∨ j = 2 by omega) with rfl | rfl | rfl <;> rfl
theorem zc_dX6 : ∀ j, j < 4 → defaultValue (tyX6 j) = vp_V [.null, .int 0, .int 0, .int 0] j := fun j hj => by
  rcases (show j = 0 ∨ j = 1 ∨ j = 2 ∨ j = 3 by omega) with rfl | rfl | rfl | rfl <;> rfl
theorem zc_dX7 : ∀ j, j < 8 → defaultValue (tyX7 j) = vp_V [.int 0, .int 0, .int 0, .int 0, .int 0, .int 0, .null, .null] j := fun j hj => by
  rcases (show j = 0 ∨ j = 1 ∨ j = 2 ∨ j = 3 ∨ j = 4 ∨ j = 5 ∨ j = 6 ∨ j = 7 by omega) with rfl | rfl | rfl | rfl | rfl | rfl | rfl | rfl <;> rfl
theorem zc_dX8 : ∀ j, j < 15 → defaultValue (tyX8 j) = vp_V [.null, .null, .null, .null, .null, .null, .null, .null, .null, .null, .null, .int 0, .int 0, .int 0, .int 0] j := fun j hj => by
  rcases (show j = 0 ∨ j = 1 ∨ j = 2 ∨ j = 3 ∨ j = 4 ∨ j = 5 ∨ j = 6 ∨ j = 7 ∨ j = 8 ∨ j = 9 ∨ j = 10 ∨ j = 11 ∨ j = 12 ∨ j = 13 ∨ j = 14 by omega) with rfl | rfl | rfl | rfl | rfl | rfl | rfl | rfl | rfl | rfl | rfl | rfl | rfl | rfl | rfl <;> rfl
theorem zc_dX9 : ∀ j, j < 32 → defaultValue (tyX9 j) = vp_V [.null, .int 0, .int 0, .null, .null, .null, .null, .null, .int 0, .null, .null, .null, .null, .null, .null, .null, .null, .int 0, .null, .null, .null, .null, .int 0, .int 0, .null, .null, .null, .int 0, .long 0, .null, .int 0, .null] j := fun j hj => by
  rcases (show j = 0 ∨ j = 1 ∨ j = 2 ∨ j = 3 ∨ j = 4 ∨ j = 5 ∨ j = 6 ∨ j = 7 ∨ j = 8 ∨ j = 9 ∨ j = 10 ∨ j = 11 ∨ j = 12 ∨ j = 13 ∨ j = 14 ∨ j = 15 ∨ j = 16 ∨ j = 17 ∨ j = 18 ∨ j = 19 ∨ j = 20 ∨ j = 21 ∨ j = 22 ∨ j = 23 ∨ j = 24 ∨ j = 25 ∨ j = 26 ∨ j = 27 ∨ j = 28 ∨ j = 29 ∨ j = 30 ∨ j = 31 by omega) with rfl | rfl | rfl | rfl | rfl | rfl | rfl | rfl | rfl | rfl | rfl | rfl | rfl | rfl | rfl | rfl | rfl | rfl | rfl | rfl | rfl | rfl | rfl | rfl | rfl | rfl | rfl | rfl | rfl | rfl | rfl | rfl <;> rfl
set_option maxRecDepth 100000 in
set_option maxHeartbeats 8000000 in
theorem ctc_X0_init (l : Launch) (E : zk_E) (b N i : Nat) (M : Nat → va_E) (hi : i < N) (hM : M i = .inr (0, [.int 0, .int 0, .int 0, .int 0])) : Met l yX0_init wsX0_init { frames := 1, cells := 0, slots := 0, locals := 12 } (va_Pc [.ref (b + i)] (zc_W E b N M)) (zc_Qv E b (N + 0) (M)) 0 0 (zc_A b) := by
  refine zc_met (cc := cX0_init) (maxL := 1) (own := RX0) (by decide) rfl rfl rfl (Nat.le_of_ble_eq_true rfl) ?_
  intro p e s m args below meth c X hr hn2
  have w0 : Cond.methodLink RX0 3 objectInit ∈ wsX0_init := by decide +kernel
  have w1 : Cond.instanceMethod objectInit ∈ wsX0_init := by decide +kernel
  have w2 : Cond.code objectInit ⟨#[0xb1]⟩ 1 none ∈ wsX0_init := by decide +kernel
  refine zc_aload_n X 0 dX0_init_0 rfl rfl ?_
  refine zc_obj X w0 w1 w2 dX0_init_1 (Nat.le_of_ble_eq_true rfl) (Nat.le_of_ble_eq_true rfl) ?_
  exact zc_ret X hr (fun _ _ => rfl) dX0_init_4
set_option maxRecDepth 100000 in
set_option maxHeartbeats 8000000 in
theorem ctc_X1_init (l : Launch) (E : zk_E) (b N i : Nat) (M : Nat → va_E) (hi : i < N) (hM : M i = .inr (1, [.int 0, .int 0])) : Met l yX1_init wsX1_init { frames := 1, cells := 0, slots := 0, locals := 12 } (va_Pc [.ref (b + i)] (zc_W E b N M)) (zc_Qv E b (N + 0) (M)) 0 0 (zc_A b) := by
  refine zc_met (cc := cX1_init) (maxL := 1) (own := RX1) (by decide) rfl rfl rfl (Nat.le_of_ble_eq_true rfl) ?_
  intro p e s m args below meth c X hr hn2
  have w0 : Cond.methodLink RX1 1 objectInit ∈ wsX1_init := by decide +kernel
  have w1 : Cond.instanceMethod objectInit ∈ wsX1_init := by decide +kernel
  have w2 : Cond.code objectInit ⟨#[0xb1]⟩ 1 none ∈ wsX1_init := by decide +kernel
  refine zc_aload_n X 0 dX1_init_0 rfl rfl ?_
  refine zc_obj X w0 w1 w2 dX1_init_1 (Nat.le_of_ble_eq_true rfl) (Nat.le_of_ble_eq_true rfl) ?_
  exact zc_ret X hr (fun _ _ => rfl) dX1_init_4
set_option maxRecDepth 100000 in
set_option maxHeartbeats 8000000 in
theorem ctc_X3_init (l : Launch) (E : zk_E) (b N i : Nat) (M : Nat → va_E) (hi : i < N) (hM : M i = .inr (2, [.long 0])) : Met l yX3_init wsX3_init { frames := 1, cells := 0, slots := 0, locals := 12 } (va_Pc [.ref (b + i)] (zc_W E b N M)) (zc_Qv E b (N + 0) (M)) 0 0 (zc_A b) := by
  refine zc_met (cc := cX3_init) (maxL := 1) (own := RX3) (by decide) rfl rfl rfl (Nat.le_of_ble_eq_true rfl) ?_
  intro p e s m args below meth c X hr hn2
  have w0 : Cond.methodLink RX3 3 objectInit ∈ wsX3_init := by decide +kernel
  have w1 : Cond.instanceMethod objectInit ∈ wsX3_init := by decide +kernel
  have w2 : Cond.code objectInit ⟨#[0xb1]⟩ 1 none ∈ wsX3_init := by decide +kernel
  refine zc_aload_n X 0 dX3_init_0 rfl rfl ?_
  refine zc_obj X w0 w1 w2 dX3_init_1 (Nat.le_of_ble_eq_true rfl) (Nat.le_of_ble_eq_true rfl) ?_
  exact zc_ret X hr (fun _ _ => rfl) dX3_init_4
set_option maxRecDepth 100000 in
set_option maxHeartbeats 8000000 in
theorem ctc_X4_init (l : Launch) (E : zk_E) (b N i : Nat) (M : Nat → va_E) (hi : i < N) (hM : M i = .inr (3, [.int 0, .int 0, .int 0, .int 0, .null])) : Met l yX4_init wsX4_init { frames := 1, cells := 1, slots := 4, locals := 12 } (va_Pc [.ref (b + i)] (zc_W E b N M)) (zc_Qv E b (N + 1) (zc_m (zc_m (M) N (.inl (E.2.2 0, 4, .inl (fun _ => 0)))) i (.inr (3, [.int 0, .int 0, .int 0, .int 0, .ref (b + N)])))) 1 4 (zc_A b) := by
  refine zc_met (cc := cX4_init) (maxL := 1) (own := RX4) (by decide) rfl rfl rfl (Nat.le_of_ble_eq_true rfl) ?_
  intro p e s m args below meth c X hr hn2
  have iT : ∀ w ∈ u_ws RX4 TX4 5, w ∈ wsX4_init := by decide +kernel
  have w0 : Cond.methodLink RX4 3 objectInit ∈ wsX4_init := by decide +kernel
  have w1 : Cond.instanceMethod objectInit ∈ wsX4_init := by decide +kernel
  have w2 : Cond.code objectInit ⟨#[0xb1]⟩ 1 none ∈ wsX4_init := by decide +kernel
  have w3 : Cond.arrayClass .int ∈ wsX4_init := by decide +kernel
  have w4 : Cond.fieldLink RX4 9 "HiddenWorks$Recipe" "weights" "[I" ∈ wsX4_init := by decide +kernel
  refine zc_aload_n X 0 dX4_init_0 rfl rfl ?_
  refine zc_obj X w0 w1 w2 dX4_init_1 (Nat.le_of_ble_eq_true rfl) (Nat.le_of_ble_eq_true rfl) ?_
  refine zc_aload_n X 0 dX4_init_4 rfl rfl ?_
  refine zc_iconst X (v := 4) dX4_init_5 (by decide) ?_
  refine zc_newi X w3 (by decide) (N' := 4) rfl (by decide) rfl rfl rfl (Nat.le_of_ble_eq_true rfl) (Nat.le_of_ble_eq_true rfl) dX4_init_6 ?_
  refine zc_putF X iT tyX4 tyX4_ok nmX4 hn2 (by omega) (i := i) ((zc_mn (by omega)).trans hM) rfl 4 (by decide) w4 rfl rfl (ty := .array .int) (by decide +kernel) rfl rfl (Nat.le_of_ble_eq_true rfl) (fs1 := [.int 0, .int 0, .int 0, .int 0, .ref (b + N)]) rfl dX4_init_8 ?_
  exact zc_ret X hr (fun _ _ => rfl) dX4_init_11
set_option maxRecDepth 100000 in
set_option maxHeartbeats 8000000 in
theorem ctc_X5_init (l : Launch) (E : zk_E) (b N i : Nat) (M : Nat → va_E) (hi : i < N) (hM : M i = .inr (4, [.int 0, .int 0, .null])) : Met l yX5_init wsX5_init { frames := 1, cells := 1, slots := 40, locals := 12 } (va_Pc [.ref (b + i)] (zc_W E b N M)) (zc_Qv E b (N + 1) (zc_m (zc_m (zc_m (M) i (.inr (4, [.int (-1), .int 0, .null]))) N (.inl (E.2.2 0, 40, .inl (fun _ => 0)))) i (.inr (4, [.int (-1), .int 0, .ref (b + N)])))) 1 40 (zc_A b) := by
  refine zc_met (cc := cX5_init) (maxL := 1) (own := RX5) (by decide) rfl rfl rfl (Nat.le_of_ble_eq_true rfl) ?_
  intro p e s m args below meth c X hr hn2
  have iT : ∀ w ∈ u_ws RX5 TX5 3, w ∈ wsX5_init := by decide +kernel
  have w0 : Cond.methodLink RX5 3 objectInit ∈ wsX5_init := by decide +kernel
  have w1 : Cond.instanceMethod objectInit ∈ wsX5_init := by decide +kernel
  have w2 : Cond.code objectInit ⟨#[0xb1]⟩ 1 none ∈ wsX5_init := by decide +kernel
  have w3 : Cond.fieldLink RX5 9 "HiddenWorks$Sheet" "sort" "I" ∈ wsX5_init := by decide +kernel
  have w4 : Cond.arrayClass .int ∈ wsX5_init := by decide +kernel
  have w5 : Cond.fieldLink RX5 15 "HiddenWorks$Sheet" "cells" "[I" ∈ wsX5_init := by decide +kernel
  refine zc_aload_n X 0 dX5_init_0 rfl rfl ?_
  refine zc_obj X w0 w1 w2 dX5_init_1 (Nat.le_of_ble_eq_true rfl) (Nat.le_of_ble_eq_true rfl) ?_
  refine zc_aload_n X 0 dX5_init_4 rfl rfl ?_
  refine zc_iconst X (v := -1) dX5_init_5 (by decide) ?_
  refine zc_put X iT tyX5 tyX5_ok nmX5 (by omega) (i := i) hM rfl 0 (by decide) w3 rfl (ty := .int) (by decide +kernel) rfl rfl (Nat.le_of_ble_eq_true rfl) (fs1 := [.int (-1), .int 0, .null]) rfl dX5_init_6 ?_
  refine zc_aload_n X 0 dX5_init_9 rfl rfl ?_
  refine zc_bipush X (v := 40) dX5_init_10 (by decide) ?_
  refine zc_newi X w4 (by decide) (N' := 40) rfl (by decide) rfl rfl rfl (Nat.le_of_ble_eq_true rfl) (Nat.le_of_ble_eq_true rfl) dX5_init_12 ?_
  refine zc_putF X iT tyX5 tyX5_ok nmX5 hn2 (by omega) (i := i) ((zc_mn (by omega)).trans (zc_ms _ _ _)) rfl 2 (by decide) w5 rfl rfl (ty := .array .int) (by decide +kernel) rfl rfl (Nat.le_of_ble_eq_true rfl) (fs1 := [.int (-1), .int 0, .ref (b + N)]) rfl dX5_init_14 ?_
  exact zc_ret X hr (fun _ _ => rfl) dX5_init_17
set_option maxRecDepth 100000 in
set_option maxHeartbeats 8000000 in
theorem ctc_X6_init (l : Launch) (E : zk_E) (b N i : Nat) (M : Nat → va_E) (hi : i < N) (hM : M i = .inr (5, [.null, .int 0, .int 0, .int 0])) : Met l yX6_init wsX6_init { frames := 1, cells := 1, slots := 80, locals := 12 } (va_Pc [.ref (b + i)] (zc_W E b N M)) (zc_Qv E b (N + 1) (zc_m (zc_m (M) N (.inl (E.2.2 0, 80, .inl (fun _ => 0)))) i (.inr (5, [.ref (b + N), .int 0, .int 0, .int 0])))) 1 80 (zc_A b) := by
  refine zc_met (cc := cX6_init) (maxL := 1) (own := RX6) (by decide) rfl rfl rfl (Nat.le_of_ble_eq_true rfl) ?_
  intro p e s m args below meth c X hr hn2
  have iT : ∀ w ∈ u_ws RX6 TX6 4, w ∈ wsX6_init := by decide +kernel
  have w0 : Cond.methodLink RX6 3 objectInit ∈ wsX6_init := by decide +kernel
  have w1 : Cond.instanceMethod objectInit ∈ wsX6_init := by decide +kernel
  have w2 : Cond.code objectInit ⟨#[0xb1]⟩ 1 none ∈ wsX6_init := by decide +kernel
  have w3 : Cond.arrayClass .int ∈ wsX6_init := by decide +kernel
  have w4 : Cond.fieldLink RX6 9 "HiddenWorks$Tape" "bytes" "[I" ∈ wsX6_init := by decide +kernel
  refine zc_aload_n X 0 dX6_init_0 rfl rfl ?_
  refine zc_obj X w0 w1 w2 dX6_init_1 (Nat.le_of_ble_eq_true rfl) (Nat.le_of_ble_eq_true rfl) ?_
  refine zc_aload_n X 0 dX6_init_4 rfl rfl ?_
  refine zc_bipush X (v := 80) dX6_init_5 (by decide) ?_
  refine zc_newi X w3 (by decide) (N' := 80) rfl (by decide) rfl rfl rfl (Nat.le_of_ble_eq_true rfl) (Nat.le_of_ble_eq_true rfl) dX6_init_7 ?_
  refine zc_putF X iT tyX6 tyX6_ok nmX6 hn2 (by omega) (i := i) ((zc_mn (by omega)).trans hM) rfl 0 (by decide) w4 rfl rfl (ty := .array .int) (by decide +kernel) rfl rfl (Nat.le_of_ble_eq_true rfl) (fs1 := [.ref (b + N), .int 0, .int 0, .int 0]) rfl dX6_init_9 ?_
  exact zc_ret X hr (fun _ _ => rfl) dX6_init_12
set_option maxRecDepth 100000 in
set_option maxHeartbeats 8000000 in
theorem ctc_X7_init (l : Launch) (E : zk_E) (b N i : Nat) (M : Nat → va_E) (hi : i < N) (hM : M i = .inr (6, [.int 0, .int 0, .int 0, .int 0, .int 0, .int 0, .null, .null])) : Met l yX7_init wsX7_init { frames := 1, cells := 2, slots := 48, locals := 12 } (va_Pc [.ref (b + i)] (zc_W E b N M)) (zc_Qv E b (N + 2) (zc_m (zc_m (zc_m (zc_m (M) N (.inl (E.2.2 0, 24, .inl (fun _ => 0)))) i (.inr (6, [.int 0, .int 0, .int 0, .int 0, .int 0, .int 0, .ref (b + N), .null]))) (N + 1) (.inl (E.2.2 0, 24, .inl (fun _ => 0)))) i (.inr (6, [.int 0, .int 0, .int 0, .int 0, .int 0, .int 0, .ref (b + N), .ref (b + (N + 1))])))) 2 48 (zc_A b) := by
  refine zc_met (cc := cX7_init) (maxL := 1) (own := RX7) (by decide) rfl rfl rfl (Nat.le_of_ble_eq_true rfl) ?_
  intro p e s m args below meth c X hr hn2
  have iT : ∀ w ∈ u_ws RX7 TX7 8, w ∈ wsX7_init := by decide +kernel
  have w0 : Cond.methodLink RX7 3 objectInit ∈ wsX7_init := by decide +kernel
  have w1 : Cond.instanceMethod objectInit ∈ wsX7_init := by decide +kernel
  have w2 : Cond.code objectInit ⟨#[0xb1]⟩ 1 none ∈ wsX7_init := by decide +kernel
  have w3 : Cond.arrayClass .int ∈ wsX7_init := by decide +kernel
  have w4 : Cond.fieldLink RX7 9 "HiddenWorks$Task" "plain" "[I" ∈ wsX7_init := by decide +kernel
  have w5 : Cond.fieldLink RX7 15 "HiddenWorks$Task" "against" "[I" ∈ wsX7_init := by decide +kernel
  refine zc_aload_n X 0 dX7_init_0 rfl rfl ?_
  refine zc_obj X w0 w1 w2 dX7_init_1 (Nat.le_of_ble_eq_true rfl) (Nat.le_of_ble_eq_true rfl) ?_
  refine zc_aload_n X 0 dX7_init_4 rfl rfl ?_
  refine zc_bipush X (v := 24) dX7_init_5 (by decide) ?_
  refine zc_newi X w3 (by decide) (N' := 24) rfl (by decide) rfl rfl rfl (Nat.le_of_ble_eq_true rfl) (Nat.le_of_ble_eq_true rfl) dX7_init_7 ?_
  refine zc_putF X iT tyX7 tyX7_ok nmX7 hn2 (by omega) (i := i) ((zc_mn (by omega)).trans hM) rfl 6 (by decide) w4 rfl rfl (ty := .array .int) (by decide +kernel) rfl rfl (Nat.le_of_ble_eq_true rfl) (fs1 := [.int 0, .int 0, .int 0, .int 0, .int 0, .int 0, .ref (b + N), .null]) rfl dX7_init_9 ?_
  refine zc_aload_n X 0 dX7_init_12 rfl rfl ?_
  refine zc_bipush X (v := 24) dX7_init_13 (by decide) ?_
  refine zc_newi X w3 (by decide) (N' := 24) rfl (by decide) rfl rfl rfl (Nat.le_of_ble_eq_true rfl) (Nat.le_of_ble_eq_true rfl) dX7_init_15 ?_
  refine zc_putF X iT tyX7 tyX7_ok nmX7 hn2 (by omega) (i := i) ((zc_mn (by omega)).trans (zc_ms _ _ _)) rfl 7 (by decide) w5 rfl rfl (ty := .array .int) (by decide +kernel) rfl rfl (Nat.le_of_ble_eq_true rfl) (fs1 := [.int 0, .int 0, .int 0, .int 0, .int 0, .int 0, .ref (b + N), .ref (b + (N + 1))]) rfl dX7_init_17 ?_
  exact zc_ret X hr (fun _ _ => rfl) dX7_init_20
