def fX8_taskAt (x1 : Int32) (z : zk_Z) : Option (Option Nat × zk_Z) := if x1 < 0 then some (none, z) else if (z.1 0 0 12) ≤ x1 then some (none, z) else zk_gd (zk_ix x1 8) (some (some x1.toNatClampNeg, z))
set_option maxRecDepth 100000 in
set_option maxHeartbeats 8000000 in
theorem ct_X8_taskAt (l : Launch) (E : zk_E) (hi : zk_inj E) (x1 : Int32) (z : zk_Z) (r : Option Nat) (z' : zk_Z) (h : fX8_taskAt  x1 z = some (r, z')) : Met l yX8_taskAt wsX8_taskAt { frames := 0, cells := 0, slots := 0, locals := 0 } (va_Pc [.ref (E.2.1 0 0), .int x1] (zk_W E z)) (zk_Qq E 7 r z') 0 0 (zk_A E) := by
  refine zk_met (cc := cX8_taskAt) (maxL := 2) (ret := (some (.object "HiddenWorks$Task"))) (own := RX8) (by decide) rfl rfl hi (Nat.le_of_ble_eq_true rfl) ?_
  intro p e s m args below meth c X hr
  have iX8 : ∀ w ∈ u_ws RX8 TX8 15, w ∈ wsX8_taskAt := by decide +kernel
  have w0 : Cond.fieldLink RX8 110 "HiddenWorks" "taskCount" "I" ∈ wsX8_taskAt := by decide +kernel
  have w1 : Cond.fieldLink RX8 54 "HiddenWorks" "tasks" "[LHiddenWorks$Task;" ∈ wsX8_taskAt := by decide +kernel
  unfold fX8_taskAt at h
  refine zk_iload_n X 1 dX8_taskAt_0 rfl rfl ?_
  refine zk_if_lt X (tgt := 21) dX8_taskAt_1 (by decide) h (fun h => ?_) (fun h => ?_)
  · refine zk_null X dX8_taskAt_21 ?_
    exact zk_areturn X hr (r' := none) rfl (fun _ q => by cases q) dX8_taskAt_22 h
  · refine zk_iload_n X 1 dX8_taskAt_4 rfl rfl ?_
    refine zk_aload_n X 0 dX8_taskAt_5 rfl rfl ?_
    refine zk_get X iX8 (g := 0) (Nat.zero_lt_one) rfl rfl 12 (by decide) w0 rfl dX8_taskAt_6 ?_
    refine zk_icmp_ge X (tgt := 21) dX8_taskAt_9 (by decide) h (fun h => ?_) (fun h => ?_)
    · refine zk_null X dX8_taskAt_21 ?_
      exact zk_areturn X hr (r' := none) rfl (fun _ q => by cases q) dX8_taskAt_22 h
    · refine zk_aload_n X 0 dX8_taskAt_12 rfl rfl ?_
      refine zk_get X iX8 (g := 0) (Nat.zero_lt_one) rfl rfl 2 (by decide) w1 rfl dX8_taskAt_13 ?_
      refine zk_iload_n X 1 dX8_taskAt_16 rfl rfl ?_
      refine zk_aald X (g := 6) (t := 4) (Nat.zero_lt_one) rfl rfl dX8_taskAt_17 h (fun hb1 h => ?_)
      have hb1 : x1.toNatClampNeg < zk_cnt 7 := Nat.lt_of_lt_of_le hb1 (Nat.le_of_ble_eq_true rfl)
      refine zk_goto X (tgt := 22) dX8_taskAt_18 (by decide) ?_
      exact zk_areturn X hr (r' := some x1.toNatClampNeg) rfl (fun _ q => by cases q; exact hb1) dX8_taskAt_22 h
def fX8_answer_B49 (c19 : Int32 → Nat → Int32 → Int32 → zk_Z → Option (Int32 × zk_Z)) (a2 : Int32) (ka3 : Nat) (a4 : Int32) (a5 : Int32) (z : zk_Z) : Option (Int32 × zk_Z) := c19 a2 ka3 a4 (a5 + 1) z
def fX8_answer_L19 : Nat → Int32 → Nat → Int32 → Int32 → zk_Z → Option (Int32 × zk_Z)
  | 0, _, _, _, _, _ => none
  | n + 1, a2, ka3, a4, a5, z => zk_bd (fX7_rows ka3 z) (fun r5 z4 => if r5 ≤ a5 then some ((-1), z4) else zk_bd (fX7_isSolvedBy ka3 a5 z4) (fun r7 z6 => if r7 = 0 then fX8_answer_B49 (fX8_answer_L19 n) a2 ka3 a4 a5 z6 else if a4 = a2 then some (a5, z6) else fX8_answer_B49 (fX8_answer_L19 n) a2 ka3 (a4 + 1) a5 z6))
def fX8_answer (x1 : Int32) (x2 : Int32) (z : zk_Z) : Option (Int32 × zk_Z) := zk_bd (fX8_taskAt x1 z) (fun r2 z1 => zk_oc r2 (some ((-5), z1)) (fun kk3 => fX8_answer_L19 zk_FU x2 kk3 0 0 z1))
set_option maxRecDepth 100000 in
set_option maxHeartbeats 8000000 in
theorem ct_X8_answer (l : Launch) (E : zk_E) (hi : zk_inj E) (x1 : Int32) (x2 : Int32) (z : zk_Z) (r : Int32) (z' : zk_Z) (h : fX8_answer  x1 x2 z = some (r, z')) : Met l yX8_answer wsX8_answer { frames := 5, cells := 0, slots := 0, locals := 108 } (va_Pc [.ref (E.2.1 0 0), .int x1, .int x2] (zk_W E z)) (zk_Qi E r z') 0 0 (zk_A E) := by
  refine zk_met (cc := cX8_answer) (maxL := 6) (ret := (some .int)) (own := RX8) (by decide) rfl rfl hi (Nat.le_of_ble_eq_true rfl) ?_
  intro p e s m args below meth c X hr
  have B49 : ∀ (c19 : Int32 → Nat → Int32 → Int32 → zk_Z → Option (Int32 × zk_Z)) (hc19 : ∀ (a2 : Int32) (ka3 : Nat) (a4 : Int32) (a5 : Int32) (hka3 : ka3 < zk_cnt 7) (z : zk_Z), c19 a2 ka3 a4 a5 z = some (r, z') → zk_G p l e (headSpec wsX8_answer { frames := 5, cells := 0, slots := 0, locals := 108 }).room s m args below meth c E 6 0 0 (MQ below (zk_Qi E r z') args s 0 0 (zk_A E)) 19 [(2, .int a2), (3, .ref (E.2.1 7 ka3)), (4, .int a4), (5, .int a5)] [] z) (a2 : Int32) (ka3 : Nat) (a4 : Int32) (a5 : Int32) (hka3 : ka3 < zk_cnt 7) (z : zk_Z), fX8_answer_B49 c19 a2 ka3 a4 a5 z = some (r, z') → zk_G p l e (headSpec wsX8_answer { frames := 5, cells := 0, slots := 0, locals := 108 }).room s m args below meth c E 6 0 0 (MQ below (zk_Qi E r z') args s 0 0 (zk_A E)) 49 [(2, .int a2), (3, .ref (E.2.1 7 ka3)), (4, .int a4), (5, .int a5)] [] z := by
    intro c19 hc19 a2 ka3 a4 a5 hka3 z h
    unfold fX8_answer_B49 at h
    refine zk_iinc X (lv' := [(5, .int (a5 + 1)), (2, .int a2), (3, .ref (E.2.1 7 ka3)), (4, .int a4)]) 3 dX8_answer_49 rfl rfl (by decide) rfl ?_
    refine zk_goto X (tgt := 19) dX8_answer_52 (by decide) ?_
    exact zk_sub [1, 2, 3, 0] rfl (hc19 _ _ _ _ (hka3) _ h)
  have L19 : ∀ (n : Nat) (a2 : Int32) (ka3 : Nat) (a4 : Int32) (a5 : Int32) (hka3 : ka3 < zk_cnt 7) (z : zk_Z), fX8_answer_L19 n a2 ka3 a4 a5 z = some (r, z') → zk_G p l e (headSpec wsX8_answer { frames := 5, cells := 0, slots := 0, locals := 108 }).room s m args below meth c E 6 0 0 (MQ below (zk_Qi E r z') args s 0 0 (zk_A E)) 19 [(2, .int a2), (3, .ref (E.2.1 7 ka3)), (4, .int a4), (5, .int a5)] [] z := by
    intro n
    induction n with
    | zero => intro a2 ka3 a4 a5 hka3 z h; exact absurd h (by simp [fX8_answer_L19])
    | succ n ih =>
      intro a2 ka3 a4 a5 hka3 z h
      rw [fX8_answer_L19] at h
      refine zk_iload X 3 dX8_answer_19 rfl ?_
      refine zk_aload_n X 1 dX8_answer_21 rfl rfl ?_
      refine zk_vi X h (fun rr zz hf => ct_X7_rows l E hi ka3 (hka3) _ rr zz hf) (cwV 0 X.1.2.2.2.2 gX8_answer_X7_rows rfl rfl rfl (by decide +kernel) ⟨Nat.le_of_ble_eq_true rfl, Nat.le_of_ble_eq_true rfl⟩) (zk_recv X (g := 7) (hka3) rfl rfl) rfl rfl (Nat.le_of_ble_eq_true rfl) dX8_answer_22 (fun r5 z4 h => ?_)
      refine zk_icmp_ge X (tgt := 55) dX8_answer_25 (by decide) h (fun h => ?_) (fun h => ?_)
      · refine zk_iconst X (v := -1) dX8_answer_55 (by decide) ?_
        exact zk_ireturn X hr dX8_answer_56 h
      · refine zk_aload_n X 1 dX8_answer_28 rfl rfl ?_
        refine zk_iload X 3 dX8_answer_29 rfl ?_
        refine zk_vi X h (fun rr zz hf => ct_X7_isSolvedBy l E hi ka3 (hka3) a5 _ rr zz hf) (cwV 1 X.1.2.2.2.2 gX8_answer_X7_isSolvedBy rfl rfl rfl (by decide +kernel) ⟨Nat.le_of_ble_eq_true rfl, Nat.le_of_ble_eq_true rfl⟩) (zk_recv X (g := 7) (hka3) rfl rfl) rfl rfl (Nat.le_of_ble_eq_true rfl) dX8_answer_31 (fun r7 z6 h => ?_)
        refine zk_if_eq X (tgt := 49) dX8_answer_34 (by decide) h (fun h => ?_) (fun h => ?_)
        · exact zk_sub [0, 1, 2, 3] rfl (B49 _ ih _ _ _ _ (hka3) _ h)
        · refine zk_iload X 2 dX8_answer_37 rfl ?_
          refine zk_iload_n X 0 dX8_answer_39 rfl rfl ?_
          refine zk_icmp_ne X (tgt := 46) dX8_answer_40 (by decide) h (fun h => ?_) (fun h => ?_)
          · refine zk_iload X 3 dX8_answer_43 rfl ?_
            exact zk_ireturn X hr dX8_answer_45 h
          · refine zk_iinc X (lv' := [(4, .int (a4 + 1)), (2, .int a2), (3, .ref (E.2.1 7 ka3)), (5, .int a5)]) 2 dX8_answer_46 rfl rfl (by decide) rfl ?_
            exact zk_sub [1, 2, 0, 3] rfl (B49 _ ih _ _ _ _ (hka3) _ h)
  unfold fX8_answer at h
  refine zk_aload_n X 0 dX8_answer_0 rfl rfl ?_
  refine zk_iload_n X 1 dX8_answer_1 rfl rfl ?_
  refine zk_vq X h (fun rr zz hf => ct_X8_taskAt l E hi  x1 _ rr zz hf) (cwV 1 X.1.2.2.2.2 gX8_answer_X8_taskAt rfl rfl rfl (by decide +kernel) ⟨Nat.le_of_ble_eq_true rfl, Nat.le_of_ble_eq_true rfl⟩) (zk_recv X (g := 0) (Nat.zero_lt_one) rfl rfl) rfl rfl (Nat.le_of_ble_eq_true rfl) dX8_answer_2 (fun z1 h => ?_) (fun kk3 z1 hkk3 h => ?_)
  · refine zk_astore_nN X (lv' := [(3, .null), (0, .ref (E.2.1 0 0)), (1, .int x1), (2, .int x2)]) dX8_answer_5 rfl (by decide) rfl ?_
    refine zk_aload_nN X 0 dX8_answer_6 rfl rfl ?_
    refine zk_ifnonnullN X dX8_answer_7 ?_
    refine zk_bipush X (v := -5) dX8_answer_10 (by decide) ?_
    exact zk_ireturn X hr dX8_answer_12 h
  · refine zk_astore_n X (lv' := [(3, .ref (E.2.1 7 kk3)), (0, .ref (E.2.1 0 0)), (1, .int x1), (2, .int x2)]) dX8_answer_5 rfl (by decide) rfl ?_
    refine zk_aload_n X 0 dX8_answer_6 rfl rfl ?_
    refine zk_ifnonnull X (tgt := 13) dX8_answer_7 (by decide) ?_
    refine zk_iconst X (v := 0) dX8_answer_13 (by decide) ?_
    refine zk_istore X (lv' := [(4, .int 0), (3, .ref (E.2.1 7 kk3)), (0, .ref (E.2.1 0 0)), (1, .int x1), (2, .int x2)]) dX8_answer_14 (by decide) rfl ?_
    refine zk_iconst X (v := 0) dX8_answer_16 (by decide) ?_
    refine zk_istore X (lv' := [(5, .int 0), (4, .int 0), (3, .ref (E.2.1 7 kk3)), (0, .ref (E.2.1 0 0)), (1, .int x1), (2, .int x2)]) dX8_answer_17 (by decide) rfl ?_
    exact zk_sub [5, 2, 1, 0] rfl (L19  _ _ _ _ _ (hkk3) _ h)
def fX8_isRow (x0 : Int32) (x1 : Int32) (z : zk_Z) : Option (Int32 × zk_Z) := if x0 < 0 then some (0, z) else if ((1 : Int32) <<< (x1 &&& 31)) ≤ x0 then some (0, z) else some (1, z)
set_option maxRecDepth 100000 in
set_option maxHeartbeats 8000000 in
theorem ct_X8_isRow (l : Launch) (E : zk_E) (hi : zk_inj E) (x0 : Int32) (x1 : Int32) (z : zk_Z) (r : Int32) (z' : zk_Z) (h : fX8_isRow  x0 x1 z = some (r, z')) : Met l yX8_isRow wsX8_isRow { frames := 0, cells := 0, slots := 0, locals := 0 } (va_Pc [.int x0, .int x1] (zk_W E z)) (zk_Qi E r z') 0 0 (zk_A E) := by
  refine zk_met (cc := cX8_isRow) (maxL := 2) (ret := (some .boolean)) (own := RX8) (by decide) rfl rfl hi (Nat.le_of_ble_eq_true rfl) ?_
  intro p e s m args below meth c X hr
  unfold fX8_isRow at h
  refine zk_iload_n X 0 dX8_isRow_0 rfl rfl ?_
  refine zk_if_lt X (tgt := 15) dX8_isRow_1 (by decide) h (fun h => ?_) (fun h => ?_)
  · refine zk_iconst X (v := 0) dX8_isRow_15 (by decide) ?_
    exact zk_zreturn X hr dX8_isRow_16 rfl h
  · refine zk_iload_n X 0 dX8_isRow_4 rfl rfl ?_
    refine zk_iconst X (v := 1) dX8_isRow_5 (by decide) ?_
    refine zk_iload_n X 1 dX8_isRow_6 rfl rfl ?_
    refine zk_ishl X dX8_isRow_7 ?_
    refine zk_icmp_ge X (tgt := 15) dX8_isRow_8 (by decide) h (fun h => ?_) (fun h => ?_)
    · refine zk_iconst X (v := 0) dX8_isRow_15 (by decide) ?_
      exact zk_zreturn X hr dX8_isRow_16 rfl h
    · refine zk_iconst X (v := 1) dX8_isRow_11 (by decide) ?_
      refine zk_goto X (tgt := 16) dX8_isRow_12 (by decide) ?_
      exact zk_zreturn X hr dX8_isRow_16 rfl h
def fX8_answers (x1 : Int32) (x2 : Int32) (x3 : Int32) (z : zk_Z) : Option (Int32 × zk_Z) := zk_bd (fX8_taskAt x1 z) (fun r2 z1 => zk_oc r2 (some ((-5), z1)) (fun kk3 => zk_bd (fX8_isRow x2 (z1.1 7 kk3 1) z1) (fun r5 z4 => if r5 = 0 then some ((-2), z4) else if (x3 &&& (x2 ^^^ (-1))) = 0 then zk_bd (fX7_countAnswers kk3 x2 x3 z4) (fun r7 z6 => some (r7, z6)) else some ((-2), z4))))
set_option maxRecDepth 100000 in
set_option maxHeartbeats 8000000 in
theorem ct_X8_answers (l : Launch) (E : zk_E) (hi : zk_inj E) (x1 : Int32) (x2 : Int32) (x3 : Int32) (z : zk_Z) (r : Int32) (z' : zk_Z) (h : fX8_answers  x1 x2 x3 z = some (r, z')) : Met l yX8_answers wsX8_answers { frames := 6, cells := 0, slots := 0, locals := 132 } (va_Pc [.ref (E.2.1 0 0), .int x1, .int x2, .int x3] (zk_W E z)) (zk_Qi E r z') 0 0 (zk_A E) := by
  refine zk_met (cc := cX8_answers) (maxL := 5) (ret := (some .int)) (own := RX8) (by decide) rfl rfl hi (Nat.le_of_ble_eq_true rfl) ?_
  intro p e s m args below meth c X hr
  have iX7 : ∀ w ∈ u_ws RX7 TX7 8, w ∈ wsX8_answers := by decide +kernel
  have w0 : Cond.fieldLink RX8 170 "HiddenWorks$Task" "letters" "I" ∈ wsX8_answers := by decide +kernel
  unfold fX8_answers at h
  refine zk_aload_n X 0 dX8_answers_0 rfl rfl ?_
  refine zk_iload_n X 1 dX8_answers_1 rfl rfl ?_
  refine zk_vq X h (fun rr zz hf => ct_X8_taskAt l E hi  x1 _ rr zz hf) (cwV 1 X.1.2.2.2.2 gX8_answers_X8_taskAt rfl rfl rfl (by decide +kernel) ⟨Nat.le_of_ble_eq_true rfl, Nat.le_of_ble_eq_true rfl⟩) (zk_recv X (g := 0) (Nat.zero_lt_one) rfl rfl) rfl rfl (Nat.le_of_ble_eq_true rfl) dX8_answers_2 (fun z1 h => ?_) (fun kk3 z1 hkk3 h => ?_)
  · refine zk_astoreN X (lv' := [(4, .null), (0, .ref (E.2.1 0 0)), (1, .int x1), (2, .int x2), (3, .int x3)]) dX8_answers_5 (by decide) rfl ?_
    refine zk_aloadN X 0 dX8_answers_7 rfl ?_
    refine zk_ifnonnullN X dX8_answers_9 ?_
    refine zk_bipush X (v := -5) dX8_answers_12 (by decide) ?_
    exact zk_ireturn X hr dX8_answers_14 h
  · refine zk_astore X (lv' := [(4, .ref (E.2.1 7 kk3)), (0, .ref (E.2.1 0 0)), (1, .int x1), (2, .int x2), (3, .int x3)]) dX8_answers_5 (by decide) rfl ?_
    refine zk_aload X 0 dX8_answers_7 rfl ?_
    refine zk_ifnonnull X (tgt := 15) dX8_answers_9 (by decide) ?_
    refine zk_iload_n X 3 dX8_answers_15 rfl rfl ?_
    refine zk_aload X 0 dX8_answers_16 rfl ?_
    refine zk_get X iX7 (g := 7) (hkk3) rfl rfl 1 (by decide) w0 rfl dX8_answers_18 ?_
    refine zk_si X h (fun rr zz hf => ct_X8_isRow l E hi  x2 (z1.1 7 kk3 1) _ rr zz hf) (va_cwS 2 X.1.2.2.2.2 gX8_answers_X8_isRow rfl rfl rfl (by decide +kernel) ⟨Nat.le_of_ble_eq_true rfl, Nat.le_of_ble_eq_true rfl⟩) rfl rfl (Nat.le_of_ble_eq_true rfl) dX8_answers_21 (fun r5 z4 h => ?_)
    refine zk_if_eq X (tgt := 35) dX8_answers_24 (by decide) h (fun h => ?_) (fun h => ?_)
    · refine zk_bipush X (v := -2) dX8_answers_35 (by decide) ?_
      exact zk_ireturn X hr dX8_answers_37 h
    · refine zk_iload_n X 4 dX8_answers_27 rfl rfl ?_
      refine zk_iload_n X 3 dX8_answers_28 rfl rfl ?_
      refine zk_iconst X (v := -1) dX8_answers_29 (by decide) ?_
      refine zk_ixor X dX8_answers_30 ?_
      refine zk_iand X dX8_answers_31 ?_
      refine zk_if_eq X (tgt := 38) dX8_answers_32 (by decide) h (fun h => ?_) (fun h => ?_)
      · refine zk_aload X 0 dX8_answers_38 rfl ?_
        refine zk_iload_n X 3 dX8_answers_40 rfl rfl ?_
        refine zk_iload_n X 4 dX8_answers_41 rfl rfl ?_
        refine zk_vi X h (fun rr zz hf => ct_X7_countAnswers l E hi kk3 (hkk3) x2 x3 _ rr zz hf) (cwV 2 X.1.2.2.2.2 gX8_answers_X7_countAnswers rfl rfl rfl (by decide +kernel) ⟨Nat.le_of_ble_eq_true rfl, Nat.le_of_ble_eq_true rfl⟩) (zk_recv X (g := 7) (hkk3) rfl rfl) rfl rfl (Nat.le_of_ble_eq_true rfl) dX8_answers_42 (fun r7 z6 h => ?_)
        exact zk_ireturn X hr dX8_answers_45 h
      · refine zk_bipush X (v := -2) dX8_answers_35 (by decide) ?_
        exact zk_ireturn X hr dX8_answers_37 h
def fX8_isHeap (x0 : Int32) (x1 : Int32) (z : zk_Z) : Option (Int32 × zk_Z) := if x0 < 0 then some (0, z) else if 100000 ≤ x0 then some (0, z) else if x1 < 1 then some (0, z) else if 24 < x1 then some (0, z) else if 100000 < (x0 + x1) then some (0, z) else some (1, z)
set_option maxRecDepth 100000 in
set_option maxHeartbeats 8000000 in
theorem ct_X8_isHeap (l : Launch) (E : zk_E) (hi : zk_inj E) (x0 : Int32) (x1 : Int32) (z : zk_Z) (r : Int32) (z' : zk_Z) (h : fX8_isHeap  x0 x1 z = some (r, z')) : Met l yX8_isHeap wsX8_isHeap { frames := 0, cells := 0, slots := 0, locals := 0 } (va_Pc [.int x0, .int x1] (zk_W E z)) (zk_Qi E r z') 0 0 (zk_A E) := by
  refine zk_met (cc := cX8_isHeap) (maxL := 2) (ret := (some .boolean)) (own := RX8) (by decide) rfl rfl hi (Nat.le_of_ble_eq_true rfl) ?_
  intro p e s m args below meth c X hr
  have w0 : Cond.constant RX8 109 (100000) ∈ wsX8_isHeap := by decide +kernel
  unfold fX8_isHeap at h
  refine zk_iload_n X 0 dX8_isHeap_0 rfl rfl ?_
  refine zk_if_lt X (tgt := 33) dX8_isHeap_1 (by decide) h (fun h => ?_) (fun h => ?_)
  · refine zk_iconst X (v := 0) dX8_isHeap_33 (by decide) ?_
    exact zk_zreturn X hr dX8_isHeap_34 rfl h
  · refine zk_iload_n X 0 dX8_isHeap_4 rfl rfl ?_
    refine zk_ldc X w0 dX8_isHeap_5 ?_
    refine zk_icmp_ge X (tgt := 33) dX8_isHeap_7 (by decide) h (fun h => ?_) (fun h => ?_)
    · refine zk_iconst X (v := 0) dX8_isHeap_33 (by decide) ?_
      exact zk_zreturn X hr dX8_isHeap_34 rfl h
    · refine zk_iload_n X 1 dX8_isHeap_10 rfl rfl ?_
      refine zk_iconst X (v := 1) dX8_isHeap_11 (by decide) ?_
      refine zk_icmp_lt X (tgt := 33) dX8_isHeap_12 (by decide) h (fun h => ?_) (fun h => ?_)
      · refine zk_iconst X (v := 0) dX8_isHeap_33 (by decide) ?_
        exact zk_zreturn X hr dX8_isHeap_34 rfl h
      · refine zk_iload_n X 1 dX8_isHeap_15 rfl rfl ?_
        refine zk_bipush X (v := 24) dX8_isHeap_16 (by decide) ?_
        refine zk_icmp_gt X (tgt := 33) dX8_isHeap_18 (by decide) h (fun h => ?_) (fun h => ?_)
        · refine zk_iconst X (v := 0) dX8_isHeap_33 (by decide) ?_
          exact zk_zreturn X hr dX8_isHeap_34 rfl h
        · refine zk_iload_n X 0 dX8_isHeap_21 rfl rfl ?_
          refine zk_iload_n X 1 dX8_isHeap_22 rfl rfl ?_
          refine zk_iadd X dX8_isHeap_23 ?_
          refine zk_ldc X w0 dX8_isHeap_24 ?_
          refine zk_icmp_gt X (tgt := 33) dX8_isHeap_26 (by decide) h (fun h => ?_) (fun h => ?_)
          · refine zk_iconst X (v := 0) dX8_isHeap_33 (by decide) ?_
            exact zk_zreturn X hr dX8_isHeap_34 rfl h
          · refine zk_iconst X (v := 1) dX8_isHeap_29 (by decide) ?_
            refine zk_goto X (tgt := 34) dX8_isHeap_30 (by decide) ?_
            exact zk_zreturn X hr dX8_isHeap_34 rfl h
def fX8_recipeAt (x1 : Int32) (z : zk_Z) : Option (Option Nat × zk_Z) := if x1 < 0 then some (none, z) else if (z.1 0 0 11) ≤ x1 then some (none, z) else zk_gd (zk_ix x1 6) (some (some x1.toNatClampNeg, z))
set_option maxRecDepth 100000 in
set_option maxHeartbeats 8000000 in
theorem ct_X8_recipeAt (l : Launch) (E : zk_E) (hi : zk_inj E) (x1 : Int32) (z : zk_Z) (r : Option Nat) (z' : zk_Z) (h : fX8_recipeAt  x1 z = some (r, z')) : Met l yX8_recipeAt wsX8_recipeAt { frames := 0, cells := 0, slots := 0, locals := 0 } (va_Pc [.ref (E.2.1 0 0), .int x1] (zk_W E z)) (zk_Qq E 4 r z') 0 0 (zk_A E) := by
  refine zk_met (cc := cX8_recipeAt) (maxL := 2) (ret := (some (.object "HiddenWorks$Recipe"))) (own := RX8) (by decide) rfl rfl hi (Nat.le_of_ble_eq_true rfl) ?_
  intro p e s m args below meth c X hr
  have iX8 : ∀ w ∈ u_ws RX8 TX8 15, w ∈ wsX8_recipeAt := by decide +kernel
  have w0 : Cond.fieldLink RX8 83 "HiddenWorks" "recipeCount" "I" ∈ wsX8_recipeAt := by decide +kernel
  have w1 : Cond.fieldLink RX8 49 "HiddenWorks" "recipes" "[LHiddenWorks$Recipe;" ∈ wsX8_recipeAt := by decide +kernel
  unfold fX8_recipeAt at h
  refine zk_iload_n X 1 dX8_recipeAt_0 rfl rfl ?_
  refine zk_if_lt X (tgt := 21) dX8_recipeAt_1 (by decide) h (fun h => ?_) (fun h => ?_)
  · refine zk_null X dX8_recipeAt_21 ?_
    exact zk_areturn X hr (r' := none) rfl (fun _ q => by cases q) dX8_recipeAt_22 h
  · refine zk_iload_n X 1 dX8_recipeAt_4 rfl rfl ?_
    refine zk_aload_n X 0 dX8_recipeAt_5 rfl rfl ?_
    refine zk_get X iX8 (g := 0) (Nat.zero_lt_one) rfl rfl 11 (by decide) w0 rfl dX8_recipeAt_6 ?_
    refine zk_icmp_ge X (tgt := 21) dX8_recipeAt_9 (by decide) h (fun h => ?_) (fun h => ?_)
    · refine zk_null X dX8_recipeAt_21 ?_
      exact zk_areturn X hr (r' := none) rfl (fun _ q => by cases q) dX8_recipeAt_22 h
    · refine zk_aload_n X 0 dX8_recipeAt_12 rfl rfl ?_
      refine zk_get X iX8 (g := 0) (Nat.zero_lt_one) rfl rfl 1 (by decide) w1 rfl dX8_recipeAt_13 ?_
      refine zk_iload_n X 1 dX8_recipeAt_16 rfl rfl ?_
      refine zk_aald X (g := 3) (t := 2) (Nat.zero_lt_one) rfl rfl dX8_recipeAt_17 h (fun hb1 h => ?_)
      refine zk_goto X (tgt := 22) dX8_recipeAt_18 (by decide) ?_
      exact zk_areturn X hr (r' := some x1.toNatClampNeg) rfl (fun _ q => by cases q; exact hb1) dX8_recipeAt_22 h
def fX8_rightBy_B39 (c5 : Int32 → Int32 → Int32 → Int32 → zk_Z → Option (Int32 × zk_Z)) (a1 : Int32) (a2 : Int32) (a3 : Int32) (a4 : Int32) (z : zk_Z) : Option (Int32 × zk_Z) := c5 a1 a2 a3 (a4 + 1) z
def fX8_rightBy_B25 (c5 : Int32 → Int32 → Int32 → Int32 → zk_Z → Option (Int32 × zk_Z)) (a1 : Int32) (a2 : Int32) (a3 : Int32) (a4 : Int32) (z : zk_Z) : Option (Int32 × zk_Z) := zk_gd (zk_ix a4 24) (if a1 < (z.1 18 0 a4.toNatClampNeg) then fX8_rightBy_B39 c5 a1 a2 a3 a4 z else fX8_rightBy_B39 c5 a1 a2 (a3 + 1) a4 z)
def fX8_rightBy_L5 : Nat → Int32 → Int32 → Int32 → Int32 → zk_Z → Option (Int32 × zk_Z)
  | 0, _, _, _, _, _ => none
  | n + 1, a1, a2, a3, a4, z => if a2 ≤ a4 then some (a3, z) else zk_gd (zk_ix a4 24) (if (z.1 17 0 a4.toNatClampNeg) ≤ a1 then fX8_rightBy_B25 (fX8_rightBy_L5 n) a1 a2 a3 a4 z else fX8_rightBy_B25 (fX8_rightBy_L5 n) a1 a2 (a3 + 1) a4 z)
def fX8_rightBy (x1 : Int32) (x2 : Int32) (z : zk_Z) : Option (Int32 × zk_Z) := fX8_rightBy_L5 zk_FU x1 x2 0 0 z
set_option maxRecDepth 100000 in
set_option maxHeartbeats 8000000 in
theorem ct_X8_rightBy (l : Launch) (E : zk_E) (hi : zk_inj E) (x1 : Int32) (x2 : Int32) (z : zk_Z) (r : Int32) (z' : zk_Z) (h : fX8_rightBy  x1 x2 z = some (r, z')) : Met l yX8_rightBy wsX8_rightBy { frames := 0, cells := 0, slots := 0, locals := 0 } (va_Pc [.ref (E.2.1 0 0), .int x1, .int x2] (zk_W E z)) (zk_Qi E r z') 0 0 (zk_A E) := by
  refine zk_met (cc := cX8_rightBy) (maxL := 5) (ret := (some .int)) (own := RX8) (by decide) rfl rfl hi (Nat.le_of_ble_eq_true rfl) ?_
  intro p e s m args below meth c X hr
  have iX8 : ∀ w ∈ u_ws RX8 TX8 15, w ∈ wsX8_rightBy := by decide +kernel
  have w0 : Cond.fieldLink RX8 37 "HiddenWorks" "firstSigns" "[I" ∈ wsX8_rightBy := by decide +kernel
  have w1 : Cond.fieldLink RX8 41 "HiddenWorks" "secondSigns" "[I" ∈ wsX8_rightBy := by decide +kernel
  have B39 : ∀ (c5 : Int32 → Int32 → Int32 → Int32 → zk_Z → Option (Int32 × zk_Z)) (hc5 : ∀ (a1 : Int32) (a2 : Int32) (a3 : Int32) (a4 : Int32) (z : zk_Z), c5 a1 a2 a3 a4 z = some (r, z') → zk_G p l e (headSpec wsX8_rightBy { frames := 0, cells := 0, slots := 0, locals := 0 }).room s m args below meth c E 5 0 0 (MQ below (zk_Qi E r z') args s 0 0 (zk_A E)) 5 [(0, .ref (E.2.1 0 0)), (1, .int a1), (2, .int a2), (3, .int a3), (4, .int a4)] [] z) (a1 : Int32) (a2 : Int32) (a3 : Int32) (a4 : Int32) (z : zk_Z), fX8_rightBy_B39 c5 a1 a2 a3 a4 z = some (r, z') → zk_G p l e (headSpec wsX8_rightBy { frames := 0, cells := 0, slots := 0, locals := 0 }).room s m args below meth c E 5 0 0 (MQ below (zk_Qi E r z') args s 0 0 (zk_A E)) 39 [(0, .ref (E.2.1 0 0)), (1, .int a1), (2, .int a2), (3, .int a3), (4, .int a4)] [] z := by
    intro c5 hc5 a1 a2 a3 a4 z h
    unfold fX8_rightBy_B39 at h
    refine zk_iinc X (lv' := [(4, .int (a4 + 1)), (0, .ref (E.2.1 0 0)), (1, .int a1), (2, .int a2), (3, .int a3)]) 4 dX8_rightBy_39 rfl rfl (by decide) rfl ?_
    refine zk_goto X (tgt := 5) dX8_rightBy_42 (by decide) ?_
    exact zk_sub [1, 2, 3, 4, 0] rfl (hc5 _ _ _ _ _ h)
  have B25 : ∀ (c5 : Int32 → Int32 → Int32 → Int32 → zk_Z → Option (Int32 × zk_Z)) (hc5 : ∀ (a1 : Int32) (a2 : Int32) (a3 : Int32) (a4 : Int32) (z : zk_Z), c5 a1 a2 a3 a4 z = some (r, z') → zk_G p l e (headSpec wsX8_rightBy { frames := 0, cells := 0, slots := 0, locals := 0 }).room s m args below meth c E 5 0 0 (MQ below (zk_Qi E r z') args s 0 0 (zk_A E)) 5 [(0, .ref (E.2.1 0 0)), (1, .int a1), (2, .int a2), (3, .int a3), (4, .int a4)] [] z) (a1 : Int32) (a2 : Int32) (a3 : Int32) (a4 : Int32) (z : zk_Z), fX8_rightBy_B25 c5 a1 a2 a3 a4 z = some (r, z') → zk_G p l e (headSpec wsX8_rightBy { frames := 0, cells := 0, slots := 0, locals := 0 }).room s m args below meth c E 5 0 0 (MQ below (zk_Qi E r z') args s 0 0 (zk_A E)) 25 [(0, .ref (E.2.1 0 0)), (1, .int a1), (2, .int a2), (3, .int a3), (4, .int a4)] [] z := by
    intro c5 hc5 a1 a2 a3 a4 z h
    unfold fX8_rightBy_B25 at h
    refine zk_aload_n X 0 dX8_rightBy_25 rfl rfl ?_
    refine zk_get X iX8 (g := 0) (Nat.zero_lt_one) rfl rfl 9 (by decide) w1 rfl dX8_rightBy_26 ?_
    refine zk_iload X 4 dX8_rightBy_29 rfl ?_
    refine zk_iald X (g := 18) (Nat.zero_lt_one) rfl dX8_rightBy_31 h (fun h => ?_)
    refine zk_iload_n X 1 dX8_rightBy_32 rfl rfl ?_
    refine zk_icmp_gt X (tgt := 39) dX8_rightBy_33 (by decide) h (fun h => ?_) (fun h => ?_)
    · exact zk_sub [0, 1, 2, 3, 4] rfl (B39 _ hc5 _ _ _ _ _ h)
    · refine zk_iinc X (lv' := [(3, .int (a3 + 1)), (0, .ref (E.2.1 0 0)), (1, .int a1), (2, .int a2), (4, .int a4)]) 3 dX8_rightBy_36 rfl rfl (by decide) rfl ?_
      exact zk_sub [1, 2, 3, 0, 4] rfl (B39 _ hc5 _ _ _ _ _ h)
  have L5 : ∀ (n : Nat) (a1 : Int32) (a2 : Int32) (a3 : Int32) (a4 : Int32) (z : zk_Z), fX8_rightBy_L5 n a1 a2 a3 a4 z = some (r, z') → zk_G p l e (headSpec wsX8_rightBy { frames := 0, cells := 0, slots := 0, locals := 0 }).room s m args below meth c E 5 0 0 (MQ below (zk_Qi E r z') args s 0 0 (zk_A E)) 5 [(0, .ref (E.2.1 0 0)), (1, .int a1), (2, .int a2), (3, .int a3), (4, .int a4)] [] z := by
    intro n
    induction n with
    | zero => intro a1 a2 a3 a4 z h; exact absurd h (by simp [fX8_rightBy_L5])
    | succ n ih =>
      intro a1 a2 a3 a4 z h
      rw [fX8_rightBy_L5] at h
      refine zk_iload X 4 dX8_rightBy_5 rfl ?_
      refine zk_iload_n X 2 dX8_rightBy_7 rfl rfl ?_
      refine zk_icmp_ge X (tgt := 45) dX8_rightBy_8 (by decide) h (fun h => ?_) (fun h => ?_)
      · refine zk_iload_n X 3 dX8_rightBy_45 rfl rfl ?_
        exact zk_ireturn X hr dX8_rightBy_46 h
      · refine zk_aload_n X 0 dX8_rightBy_11 rfl rfl ?_
        refine zk_get X iX8 (g := 0) (Nat.zero_lt_one) rfl rfl 8 (by decide) w0 rfl dX8_rightBy_12 ?_
        refine zk_iload X 4 dX8_rightBy_15 rfl ?_
        refine zk_iald X (g := 17) (Nat.zero_lt_one) rfl dX8_rightBy_17 h (fun h => ?_)
        refine zk_iload_n X 1 dX8_rightBy_18 rfl rfl ?_
        refine zk_icmp_le X (tgt := 25) dX8_rightBy_19 (by decide) h (fun h => ?_) (fun h => ?_)
        · exact zk_sub [0, 1, 2, 3, 4] rfl (B25 _ ih _ _ _ _ _ h)
        · refine zk_iinc X (lv' := [(3, .int (a3 + 1)), (0, .ref (E.2.1 0 0)), (1, .int a1), (2, .int a2), (4, .int a4)]) 3 dX8_rightBy_22 rfl rfl (by decide) rfl ?_
          exact zk_sub [1, 2, 3, 0, 4] rfl (B25 _ ih _ _ _ _ _ h)
  unfold fX8_rightBy at h
  refine zk_iconst X (v := 0) dX8_rightBy_0 (by decide) ?_
  refine zk_istore_n X (lv' := [(3, .int 0), (0, .ref (E.2.1 0 0)), (1, .int x1), (2, .int x2)]) dX8_rightBy_1 rfl (by decide) rfl ?_
  refine zk_iconst X (v := 0) dX8_rightBy_2 (by decide) ?_
  refine zk_istore X (lv' := [(4, .int 0), (3, .int 0), (0, .ref (E.2.1 0 0)), (1, .int x1), (2, .int x2)]) dX8_rightBy_3 (by decide) rfl ?_
  exact zk_sub [2, 3, 4, 1, 0] rfl (L5  _ _ _ _ _ _ h)
def fX8_apart_B220 (c143 : Int32 → Int32 → Int32 → Int32 → Int32 → zk_Z → Option (Int32 × zk_Z)) (a4 : Int32) (a5 : Int32) (a8 : Int32) (a9 : Int32) (a10 : Int32) (z : zk_Z) : Option (Int32 × zk_Z) := c143 a4 a5 a8 a9 (a10 + 1) z
def fX8_apart_B212 (c143 : Int32 → Int32 → Int32 → Int32 → Int32 → zk_Z → Option (Int32 × zk_Z)) (a4 : Int32) (a5 : Int32) (a10 : Int32) (a11 : Int32) (a12 : Int32) (z : zk_Z) : Option (Int32 × zk_Z) := fX8_apart_B220 c143 a4 a5 a11 a12 a10 z
def fX8_apart_B179 (c143 : Int32 → Int32 → Int32 → Int32 → Int32 → zk_Z → Option (Int32 × zk_Z)) (a4 : Int32) (a5 : Int32) (a8 : Int32) (a9 : Int32) (a10 : Int32) (s0 : Int32) (z : zk_Z) : Option (Int32 × zk_Z) := zk_bd (fX8_rightBy s0 a4 z) (fun r15 z14 => if a9 < r15 then fX8_apart_B212 c143 a4 a5 a10 s0 r15 z14 else if r15 = a9 then if a8 ≤ s0 then fX8_apart_B220 c143 a4 a5 a8 a9 a10 z14 else fX8_apart_B212 c143 a4 a5 a10 s0 r15 z14 else fX8_apart_B220 c143 a4 a5 a8 a9 a10 z14)
def fX8_apart_L143 : Nat → Int32 → Int32 → Int32 → Int32 → Int32 → zk_Z → Option (Int32 × zk_Z)
  | 0, _, _, _, _, _, _ => none
  | n + 1, a4, a5, a8, a9, a10, z => if (2 * a4) ≤ a10 then if a5 = 0 then some (a8, z) else some (a9, z) else if a4 ≤ a10 then zk_gd (zk_ix (a10 - a4) 24) (fX8_apart_B179 (fX8_apart_L143 n) a4 a5 a8 a9 a10 (z.1 18 0 (a10 - a4).toNatClampNeg) z) else zk_gd (zk_ix a10 24) (fX8_apart_B179 (fX8_apart_L143 n) a4 a5 a8 a9 a10 (z.1 17 0 a10.toNatClampNeg) z)
def fX8_apart_L53 : Nat → Int32 → Int32 → Int32 → Nat → Nat → Int32 → zk_Z → Option (Int32 × zk_Z)
  | 0, _, _, _, _, _, _, _ => none
  | n + 1, a3, a4, a5, ka6, ka7, a8, z => if a4 ≤ a8 then zk_bd (fX8_rightBy (-1) a4 z) (fun r13 z12 => fX8_apart_L143 zk_FU a4 a5 (-1) r13 0 z12) else zk_bd (fX3_fill 8 ka6 (a3 + a8) z) (fun _ z16 => zk_bd (fX7_sign 8 z16) (fun r19 z18 => zk_gd (zk_ix a8 24) (zk_bd (fX3_fill 8 ka7 (a3 + a8) (zk_sI z18 17 0 a8.toNatClampNeg r19)) (fun _ z20 => zk_bd (fX7_sign 8 z20) (fun r23 z22 => zk_gd (zk_ix a8 24) ((fX8_apart_L53 n) a3 a4 a5 ka6 ka7 (a8 + 1) (zk_sI z22 18 0 a8.toNatClampNeg r23)))))))
def fX8_apart (x1 : Int32) (x2 : Int32) (x3 : Int32) (x4 : Int32) (x5 : Int32) (z : zk_Z) : Option (Int32 × zk_Z) := zk_bd (fX8_recipeAt x1 z) (fun r2 z1 => zk_oc r2 (zk_bd (fX8_recipeAt x2 z1) (fun r5 z4 => zk_oc r5 (some ((-5), z4)) (fun kk6 => some ((-5), z4)))) (fun kk3 => zk_bd (fX8_recipeAt x2 z1) (fun r8 z7 => zk_oc r8 (some ((-5), z7)) (fun kk9 => zk_bd (fX8_isHeap x3 x4 z7) (fun r11 z10 => if r11 = 0 then some ((-2), z10) else if x5 < 0 then some ((-2), z10) else if x5 ≤ 1 then fX8_apart_L53 zk_FU x3 x4 x5 kk3 kk9 0 z10 else some ((-2), z10))))))
set_option maxRecDepth 100000 in
set_option maxHeartbeats 8000000 in
theorem ct_X8_apart (l : Launch) (E : zk_E) (hi : zk_inj E) (x1 : Int32) (x2 : Int32) (x3 : Int32) (x4 : Int32) (x5 : Int32) (z : zk_Z) (r : Int32) (z' : zk_Z) (h : fX8_apart  x1 x2 x3 x4 x5 z = some (r, z')) : Met l yX8_apart wsX8_apart { frames := 5, cells := 0, slots := 0, locals := 117 } (va_Pc [.ref (E.2.1 0 0), .int x1, .int x2, .int x3, .int x4, .int x5] (zk_W E z)) (zk_Qi E r z') 0 0 (zk_A E) := by
  refine zk_met (cc := cX8_apart) (maxL := 13) (ret := (some .int)) (own := RX8) (by decide) rfl rfl hi (Nat.le_of_ble_eq_true rfl) ?_
  intro p e s m args below meth c X hr
  have iX8 : ∀ w ∈ u_ws RX8 TX8 15, w ∈ wsX8_apart := by decide +kernel
  have w0 : Cond.fieldLink RX8 41 "HiddenWorks" "secondSigns" "[I" ∈ wsX8_apart := by decide +kernel
  have w1 : Cond.fieldLink RX8 37 "HiddenWorks" "firstSigns" "[I" ∈ wsX8_apart := by decide +kernel
  have w2 : Cond.fieldLink RX8 19 "HiddenWorks" "maker" "LHiddenWorks$Maker;" ∈ wsX8_apart := by decide +kernel
  have w3 : Cond.fieldLink RX8 33 "HiddenWorks" "heaped" "LHiddenWorks$Task;" ∈ wsX8_apart := by decide +kernel
  have B220 : ∀ (c143 : Int32 → Int32 → Int32 → Int32 → Int32 → zk_Z → Option (Int32 × zk_Z)) (hc143 : ∀ (a4 : Int32) (a5 : Int32) (a8 : Int32) (a9 : Int32) (a10 : Int32) (z : zk_Z), c143 a4 a5 a8 a9 a10 z = some (r, z') → zk_G p l e (headSpec wsX8_apart { frames := 5, cells := 0, slots := 0, locals := 117 }).room s m args below meth c E 13 0 0 (MQ below (zk_Qi E r z') args s 0 0 (zk_A E)) 143 [(0, .ref (E.2.1 0 0)), (4, .int a4), (5, .int a5), (8, .int a8), (9, .int a9), (10, .int a10)] [] z) (a4 : Int32) (a5 : Int32) (a8 : Int32) (a9 : Int32) (a10 : Int32) (z : zk_Z), fX8_apart_B220 c143 a4 a5 a8 a9 a10 z = some (r, z') → zk_G p l e (headSpec wsX8_apart { frames := 5, cells := 0, slots := 0, locals := 117 }).room s m args below meth c E 13 0 0 (MQ below (zk_Qi E r z') args s 0 0 (zk_A E)) 220 [(0, .ref (E.2.1 0 0)), (4, .int a4), (5, .int a5), (8, .int a8), (9, .int a9), (10, .int a10)] [] z := by
    intro c143 hc143 a4 a5 a8 a9 a10 z h
    unfold fX8_apart_B220 at h
    refine zk_iinc X (lv' := [(10, .int (a10 + 1)), (0, .ref (E.2.1 0 0)), (4, .int a4), (5, .int a5), (8, .int a8), (9, .int a9)]) 5 dX8_apart_220 rfl rfl (by decide) rfl ?_
    refine zk_goto X (tgt := 143) dX8_apart_223 (by decide) ?_
    exact zk_sub [1, 2, 3, 4, 5, 0] rfl (hc143 _ _ _ _ _ _ h)
  have B212 : ∀ (c143 : Int32 → Int32 → Int32 → Int32 → Int32 → zk_Z → Option (Int32 × zk_Z)) (hc143 : ∀ (a4 : Int32) (a5 : Int32) (a8 : Int32) (a9 : Int32) (a10 : Int32) (z : zk_Z), c143 a4 a5 a8 a9 a10 z = some (r, z') → zk_G p l e (headSpec wsX8_apart { frames := 5, cells := 0, slots := 0, locals := 117 }).room s m args below meth c E 13 0 0 (MQ below (zk_Qi E r z') args s 0 0 (zk_A E)) 143 [(0, .ref (E.2.1 0 0)), (4, .int a4), (5, .int a5), (8, .int a8), (9, .int a9), (10, .int a10)] [] z) (a4 : Int32) (a5 : Int32) (a10 : Int32) (a11 : Int32) (a12 : Int32) (z : zk_Z), fX8_apart_B212 c143 a4 a5 a10 a11 a12 z = some (r, z') → zk_G p l e (headSpec wsX8_apart { frames := 5, cells := 0, slots := 0, locals := 117 }).room s m args below meth c E 13 0 0 (MQ below (zk_Qi E r z') args s 0 0 (zk_A E)) 212 [(0, .ref (E.2.1 0 0)), (4, .int a4), (5, .int a5), (10, .int a10), (11, .int a11), (12, .int a12)] [] z := by
    intro c143 hc143 a4 a5 a10 a11 a12 z h
    unfold fX8_apart_B212 at h
    refine zk_iload X 4 dX8_apart_212 rfl ?_
    refine zk_istore X (lv' := [(8, .int a11), (0, .ref (E.2.1 0 0)), (4, .int a4), (5, .int a5), (10, .int a10), (11, .int a11), (12, .int a12)]) dX8_apart_214 (by decide) rfl ?_
    refine zk_iload X 6 dX8_apart_216 rfl ?_
    refine zk_istore X (lv' := [(9, .int a12), (8, .int a11), (0, .ref (E.2.1 0 0)), (4, .int a4), (5, .int a5), (10, .int a10), (11, .int a11), (12, .int a12)]) dX8_apart_218 (by decide) rfl ?_
    exact zk_sub [2, 3, 4, 1, 0, 5] rfl (B220 _ hc143 _ _ _ _ _ _ h)
  have B179 : ∀ (c143 : Int32 → Int32 → Int32 → Int32 → Int32 → zk_Z → Option (Int32 × zk_Z)) (hc143 : ∀ (a4 : Int32) (a5 : Int32) (a8 : Int32) (a9 : Int32) (a10 : Int32) (z : zk_Z), c143 a4 a5 a8 a9 a10 z = some (r, z') → zk_G p l e (headSpec wsX8_apart { frames := 5, cells := 0, slots := 0, locals := 117 }).room s m args below meth c E 13 0 0 (MQ below (zk_Qi E r z') args s 0 0 (zk_A E)) 143 [(0, .ref (E.2.1 0 0)), (4, .int a4), (5, .int a5), (8, .int a8), (9, .int a9), (10, .int a10)] [] z) (a4 : Int32) (a5 : Int32) (a8 : Int32) (a9 : Int32) (a10 : Int32) (s0 : Int32) (z : zk_Z), fX8_apart_B179 c143 a4 a5 a8 a9 a10 s0 z = some (r, z') → zk_G p l e (headSpec wsX8_apart { frames := 5, cells := 0, slots := 0, locals := 117 }).room s m args below meth c E 13 0 0 (MQ below (zk_Qi E r z') args s 0 0 (zk_A E)) 179 [(0, .ref (E.2.1 0 0)), (4, .int a4), (5, .int a5), (8, .int a8), (9, .int a9), (10, .int a10)] [.int s0] z := by
    intro c143 hc143 a4 a5 a8 a9 a10 s0 z h
    unfold fX8_apart_B179 at h
    refine zk_istore X (lv' := [(11, .int s0), (0, .ref (E.2.1 0 0)), (4, .int a4), (5, .int a5), (8, .int a8), (9, .int a9), (10, .int a10)]) dX8_apart_179 (by decide) rfl ?_
    refine zk_aload_n X 1 dX8_apart_181 rfl rfl ?_
    refine zk_iload X 0 dX8_apart_182 rfl ?_
    refine zk_iload X 2 dX8_apart_184 rfl ?_
    refine zk_vi X h (fun rr zz hf => ct_X8_rightBy l E hi s0 a4 _ rr zz hf) (cwV 2 X.1.2.2.2.2 gX8_apart_X8_rightBy rfl rfl rfl (by decide +kernel) ⟨Nat.le_of_ble_eq_true rfl, Nat.le_of_ble_eq_true rfl⟩) (zk_recv X (g := 0) (Nat.zero_lt_one) rfl rfl) rfl rfl (Nat.le_of_ble_eq_true rfl) dX8_apart_186 (fun r15 z14 h => ?_)
    refine zk_istore X (lv' := [(12, .int r15), (11, .int s0), (0, .ref (E.2.1 0 0)), (4, .int a4), (5, .int a5), (8, .int a8), (9, .int a9), (10, .int a10)]) dX8_apart_189 (by decide) rfl ?_
    refine zk_iload X 0 dX8_apart_191 rfl ?_
    refine zk_iload X 6 dX8_apart_193 rfl ?_
    refine zk_icmp_gt X (tgt := 212) dX8_apart_195 (by decide) h (fun h => ?_) (fun h => ?_)
    · exact zk_sub [2, 3, 4, 7, 1, 0] rfl (B212 _ hc143 _ _ _ _ _ _ h)
    · refine zk_iload X 0 dX8_apart_198 rfl ?_
      refine zk_iload X 6 dX8_apart_200 rfl ?_
      refine zk_icmp_ne X (tgt := 220) dX8_apart_202 (by decide) h (fun h => ?_) (fun h => ?_)
      · refine zk_iload X 1 dX8_apart_205 rfl ?_
        refine zk_iload X 5 dX8_apart_207 rfl ?_
        refine zk_icmp_ge X (tgt := 220) dX8_apart_209 (by decide) h (fun h => ?_) (fun h => ?_)
        · exact zk_sub [2, 3, 4, 5, 6, 7] rfl (B220 _ hc143 _ _ _ _ _ _ h)
        · exact zk_sub [2, 3, 4, 7, 1, 0] rfl (B212 _ hc143 _ _ _ _ _ _ h)
      · exact zk_sub [2, 3, 4, 5, 6, 7] rfl (B220 _ hc143 _ _ _ _ _ _ h)
  have L143 : ∀ (n : Nat) (a4 : Int32) (a5 : Int32) (a8 : Int32) (a9 : Int32) (a10 : Int32) (z : zk_Z), fX8_apart_L143 n a4 a5 a8 a9 a10 z = some (r, z') → zk_G p l e (headSpec wsX8_apart { frames := 5, cells := 0, slots := 0, locals := 117 }).room s m args below meth c E 13 0 0 (MQ below (zk_Qi E r z') args s 0 0 (zk_A E)) 143 [(0, .ref (E.2.1 0 0)), (4, .int a4), (5, .int a5), (8, .int a8), (9, .int a9), (10, .int a10)] [] z := by
    intro n
    induction n with
    | zero => intro a4 a5 a8 a9 a10 z h; exact absurd h (by simp [fX8_apart_L143])
    | succ n ih =>
      intro a4 a5 a8 a9 a10 z h
      rw [fX8_apart_L143] at h
      refine zk_iload X 5 dX8_apart_143 rfl ?_
      refine zk_iconst X (v := 2) dX8_apart_145 (by decide) ?_
      refine zk_iload X 1 dX8_apart_146 rfl ?_
      refine zk_imul X dX8_apart_148 ?_
      refine zk_icmp_ge X (tgt := 226) dX8_apart_149 (by decide) h (fun h => ?_) (fun h => ?_)
      · refine zk_iload X 2 dX8_apart_226 rfl ?_
        refine zk_if_ne X (tgt := 236) dX8_apart_228 (by decide) h (fun h => ?_) (fun h => ?_)
        · refine zk_iload X 3 dX8_apart_231 rfl ?_
          refine zk_goto X (tgt := 238) dX8_apart_233 (by decide) ?_
          exact zk_ireturn X hr dX8_apart_238 h
        · refine zk_iload X 4 dX8_apart_236 rfl ?_
          exact zk_ireturn X hr dX8_apart_238 h
      · refine zk_iload X 5 dX8_apart_152 rfl ?_
        refine zk_iload X 1 dX8_apart_154 rfl ?_
        refine zk_icmp_ge X (tgt := 169) dX8_apart_156 (by decide) h (fun h => ?_) (fun h => ?_)
        · refine zk_aload_n X 0 dX8_apart_169 rfl rfl ?_
          refine zk_get X iX8 (g := 0) (Nat.zero_lt_one) rfl rfl 9 (by decide) w0 rfl dX8_apart_170 ?_
          refine zk_iload X 5 dX8_apart_173 rfl ?_
          refine zk_iload X 1 dX8_apart_175 rfl ?_
          refine zk_isub X dX8_apart_177 ?_
          refine zk_iald X (g := 18) (Nat.zero_lt_one) rfl dX8_apart_178 h (fun h => ?_)
          exact zk_sub [0, 1, 2, 3, 4, 5] rfl (B179 _ ih _ _ _ _ _ _ _ h)
        · refine zk_aload_n X 0 dX8_apart_159 rfl rfl ?_
          refine zk_get X iX8 (g := 0) (Nat.zero_lt_one) rfl rfl 8 (by decide) w1 rfl dX8_apart_160 ?_
          refine zk_iload X 5 dX8_apart_163 rfl ?_
          refine zk_iald X (g := 17) (Nat.zero_lt_one) rfl dX8_apart_165 h (fun h => ?_)
          refine zk_goto X (tgt := 179) dX8_apart_166 (by decide) ?_
          exact zk_sub [0, 1, 2, 3, 4, 5] rfl (B179 _ ih _ _ _ _ _ _ _ h)
  have L53 : ∀ (n : Nat) (a3 : Int32) (a4 : Int32) (a5 : Int32) (ka6 : Nat) (ka7 : Nat) (a8 : Int32) (hka6 : ka6 < zk_cnt 4) (hka7 : ka7 < zk_cnt 4) (z : zk_Z), fX8_apart_L53 n a3 a4 a5 ka6 ka7 a8 z = some (r, z') → zk_G p l e (headSpec wsX8_apart { frames := 5, cells := 0, slots := 0, locals := 117 }).room s m args below meth c E 13 0 0 (MQ below (zk_Qi E r z') args s 0 0 (zk_A E)) 53 [(0, .ref (E.2.1 0 0)), (3, .int a3), (4, .int a4), (5, .int a5), (6, .ref (E.2.1 4 ka6)), (7, .ref (E.2.1 4 ka7)), (8, .int a8)] [] z := by
    intro n
    induction n with
    | zero => intro a3 a4 a5 ka6 ka7 a8 hka6 hka7 z h; exact absurd h (by simp [fX8_apart_L53])
    | succ n ih =>
      intro a3 a4 a5 ka6 ka7 a8 hka6 hka7 z h
      rw [fX8_apart_L53] at h
      refine zk_iload X 6 dX8_apart_53 rfl ?_
      refine zk_iload X 2 dX8_apart_55 rfl ?_
      refine zk_icmp_ge X (tgt := 128) dX8_apart_57 (by decide) h (fun h => ?_) (fun h => ?_)
      · refine zk_iconst X (v := -1) dX8_apart_128 (by decide) ?_
        refine zk_istore X (lv' := [(8, .int (-1)), (0, .ref (E.2.1 0 0)), (3, .int a3), (4, .int a4), (5, .int a5), (6, .ref (E.2.1 4 ka6)), (7, .ref (E.2.1 4 ka7))]) dX8_apart_129 (by decide) rfl ?_
        refine zk_aload_n X 1 dX8_apart_131 rfl rfl ?_
        refine zk_iconst X (v := -1) dX8_apart_132 (by decide) ?_
        refine zk_iload X 3 dX8_apart_133 rfl ?_
        refine zk_vi X h (fun rr zz hf => ct_X8_rightBy l E hi (-1) a4 _ rr zz hf) (cwV 2 X.1.2.2.2.2 gX8_apart_X8_rightBy rfl rfl rfl (by decide +kernel) ⟨Nat.le_of_ble_eq_true rfl, Nat.le_of_ble_eq_true rfl⟩) (zk_recv X (g := 0) (Nat.zero_lt_one) rfl rfl) rfl rfl (Nat.le_of_ble_eq_true rfl) dX8_apart_135 (fun r13 z12 h => ?_)
        refine zk_istore X (lv' := [(9, .int r13), (8, .int (-1)), (0, .ref (E.2.1 0 0)), (3, .int a3), (4, .int a4), (5, .int a5), (6, .ref (E.2.1 4 ka6)), (7, .ref (E.2.1 4 ka7))]) dX8_apart_138 (by decide) rfl ?_
        refine zk_iconst X (v := 0) dX8_apart_140 (by decide) ?_
        refine zk_istore X (lv' := [(10, .int 0), (9, .int r13), (8, .int (-1)), (0, .ref (E.2.1 0 0)), (3, .int a3), (4, .int a4), (5, .int a5), (6, .ref (E.2.1 4 ka6)), (7, .ref (E.2.1 4 ka7))]) dX8_apart_141 (by decide) rfl ?_
        exact zk_sub [3, 5, 6, 2, 1, 0] rfl (L143 _ _ _ _ _ _ _ h)
      · refine zk_aload_n X 0 dX8_apart_60 rfl rfl ?_
        refine zk_get X iX8 (g := 0) (Nat.zero_lt_one) rfl rfl 5 (by decide) w2 rfl dX8_apart_61 ?_
        refine zk_aload_n X 0 dX8_apart_64 rfl rfl ?_
        refine zk_get X iX8 (g := 0) (Nat.zero_lt_one) rfl rfl 7 (by decide) w3 rfl dX8_apart_65 ?_
        refine zk_aload X 4 dX8_apart_68 rfl ?_
        refine zk_iload_n X 1 dX8_apart_70 rfl rfl ?_
        refine zk_iload X 6 dX8_apart_71 rfl ?_
        refine zk_iadd X dX8_apart_73 ?_
        refine zk_vv X h (fun rr zz hf => ct_X3_fill l E hi 8 (Nat.le_of_ble_eq_true rfl) ka6 (hka6) (a3 + a8) _ rr zz hf) (cwV 3 X.1.2.2.2.2 gX8_apart_X3_fill rfl rfl rfl (by decide +kernel) ⟨Nat.le_of_ble_eq_true rfl, Nat.le_of_ble_eq_true rfl⟩) (zk_recv X (g := 15) (Nat.zero_lt_one) rfl rfl) rfl rfl (Nat.le_of_ble_eq_true rfl) dX8_apart_74 (fun z16 h => ?_)
        refine zk_aload_n X 0 dX8_apart_77 rfl rfl ?_
        refine zk_get X iX8 (g := 0) (Nat.zero_lt_one) rfl rfl 8 (by decide) w1 rfl dX8_apart_78 ?_
        refine zk_iload X 6 dX8_apart_81 rfl ?_
        refine zk_aload_n X 0 dX8_apart_83 rfl rfl ?_
        refine zk_get X iX8 (g := 0) (Nat.zero_lt_one) rfl rfl 7 (by decide) w3 rfl dX8_apart_84 ?_
        refine zk_vi X h (fun rr zz hf => ct_X7_sign l E hi 8 (Nat.le_of_ble_eq_true rfl) _ rr zz hf) (cwV 0 X.1.2.2.2.2 gX8_apart_X7_sign rfl rfl rfl (by decide +kernel) ⟨Nat.le_of_ble_eq_true rfl, Nat.le_of_ble_eq_true rfl⟩) (zk_recv X (g := 7) (Nat.le_of_ble_eq_true rfl) rfl rfl) rfl rfl (Nat.le_of_ble_eq_true rfl) dX8_apart_87 (fun r19 z18 h => ?_)
        refine zk_iast X (g := 17) (Nat.zero_lt_one) rfl rfl dX8_apart_90 h (fun h => ?_)
        refine zk_aload_n X 0 dX8_apart_91 rfl rfl ?_
        refine zk_get X iX8 (g := 0) (Nat.zero_lt_one) rfl rfl 5 (by decide) w2 rfl dX8_apart_92 ?_
        refine zk_aload_n X 0 dX8_apart_95 rfl rfl ?_
        refine zk_get X iX8 (g := 0) (Nat.zero_lt_one) rfl rfl 7 (by decide) w3 rfl dX8_apart_96 ?_
        refine zk_aload X 5 dX8_apart_99 rfl ?_
        refine zk_iload_n X 1 dX8_apart_101 rfl rfl ?_
        refine zk_iload X 6 dX8_apart_102 rfl ?_
        refine zk_iadd X dX8_apart_104 ?_
        refine zk_vv X h (fun rr zz hf => ct_X3_fill l E hi 8 (Nat.le_of_ble_eq_true rfl) ka7 (hka7) (a3 + a8) _ rr zz hf) (cwV 3 X.1.2.2.2.2 gX8_apart_X3_fill rfl rfl rfl (by decide +kernel) ⟨Nat.le_of_ble_eq_true rfl, Nat.le_of_ble_eq_true rfl⟩) (zk_recv X (g := 15) (Nat.zero_lt_one) rfl rfl) rfl rfl (Nat.le_of_ble_eq_true rfl) dX8_apart_105 (fun z20 h => ?_)
        refine zk_aload_n X 0 dX8_apart_108 rfl rfl ?_
        refine zk_get X iX8 (g := 0) (Nat.zero_lt_one) rfl rfl 9 (by decide) w0 rfl dX8_apart_109 ?_
        refine zk_iload X 6 dX8_apart_112 rfl ?_
        refine zk_aload_n X 0 dX8_apart_114 rfl rfl ?_
        refine zk_get X iX8 (g := 0) (Nat.zero_lt_one) rfl rfl 7 (by decide) w3 rfl dX8_apart_115 ?_
        refine zk_vi X h (fun rr zz hf => ct_X7_sign l E hi 8 (Nat.le_of_ble_eq_true rfl) _ rr zz hf) (cwV 0 X.1.2.2.2.2 gX8_apart_X7_sign rfl rfl rfl (by decide +kernel) ⟨Nat.le_of_ble_eq_true rfl, Nat.le_of_ble_eq_true rfl⟩) (zk_recv X (g := 7) (Nat.le_of_ble_eq_true rfl) rfl rfl) rfl rfl (Nat.le_of_ble_eq_true rfl) dX8_apart_118 (fun r23 z22 h => ?_)
        refine zk_iast X (g := 18) (Nat.zero_lt_one) rfl rfl dX8_apart_121 h (fun h => ?_)
        refine zk_iinc X (lv' := [(8, .int (a8 + 1)), (0, .ref (E.2.1 0 0)), (3, .int a3), (4, .int a4), (5, .int a5), (6, .ref (E.2.1 4 ka6)), (7, .ref (E.2.1 4 ka7))]) 6 dX8_apart_122 rfl rfl (by decide) rfl ?_
        refine zk_goto X (tgt := 53) dX8_apart_125 (by decide) ?_
        exact zk_sub [1, 2, 3, 4, 5, 6, 0] rfl (ih _ _ _ _ _ _ (hka6) (hka7) _ h)
  unfold fX8_apart at h
  refine zk_aload_n X 0 dX8_apart_0 rfl rfl ?_
  refine zk_iload_n X 1 dX8_apart_1 rfl rfl ?_
  refine zk_vq X h (fun rr zz hf => ct_X8_recipeAt l E hi  x1 _ rr zz hf) (cwV 1 X.1.2.2.2.2 gX8_apart_X8_recipeAt rfl rfl rfl (by decide +kernel) ⟨Nat.le_of_ble_eq_true rfl, Nat.le_of_ble_eq_true rfl⟩) (zk_recv X (g := 0) (Nat.zero_lt_one) rfl rfl) rfl rfl (Nat.le_of_ble_eq_true rfl) dX8_apart_2 (fun z1 h => ?_) (fun kk3 z1 hkk3 h => ?_)
  · refine zk_astoreN X (lv' := [(6, .null), (0, .ref (E.2.1 0 0)), (1, .int x1), (2, .int x2), (3, .int x3), (4, .int x4), (5, .int x5)]) dX8_apart_5 (by decide) rfl ?_
    refine zk_aload_n X 1 dX8_apart_7 rfl rfl ?_
    refine zk_iload_n X 3 dX8_apart_8 rfl rfl ?_
    refine zk_vq X h (fun rr zz hf => ct_X8_recipeAt l E hi  x2 _ rr zz hf) (cwV 1 X.1.2.2.2.2 gX8_apart_X8_recipeAt rfl rfl rfl (by decide +kernel) ⟨Nat.le_of_ble_eq_true rfl, Nat.le_of_ble_eq_true rfl⟩) (zk_recv X (g := 0) (Nat.zero_lt_one) rfl rfl) rfl rfl (Nat.le_of_ble_eq_true rfl) dX8_apart_9 (fun z4 h => ?_) (fun kk6 z4 hkk6 h => ?_)
    · refine zk_astoreN X (lv' := [(7, .null), (6, .null), (0, .ref (E.2.1 0 0)), (1, .int x1), (2, .int x2), (3, .int x3), (4, .int x4), (5, .int x5)]) dX8_apart_12 (by decide) rfl ?_
      refine zk_aloadN X 1 dX8_apart_14 rfl ?_
      refine zk_ifnullN X (tgt := 24) dX8_apart_16 (by decide) ?_
      refine zk_bipush X (v := -5) dX8_apart_24 (by decide) ?_
      exact zk_ireturn X hr dX8_apart_26 h
    · refine zk_astore X (lv' := [(7, .ref (E.2.1 4 kk6)), (6, .null), (0, .ref (E.2.1 0 0)), (1, .int x1), (2, .int x2), (3, .int x3), (4, .int x4), (5, .int x5)]) dX8_apart_12 (by decide) rfl ?_
      refine zk_aloadN X 1 dX8_apart_14 rfl ?_
      refine zk_ifnullN X (tgt := 24) dX8_apart_16 (by decide) ?_
      refine zk_bipush X (v := -5) dX8_apart_24 (by decide) ?_
      exact zk_ireturn X hr dX8_apart_26 h
  · refine zk_astore X (lv' := [(6, .ref (E.2.1 4 kk3)), (0, .ref (E.2.1 0 0)), (1, .int x1), (2, .int x2), (3, .int x3), (4, .int x4), (5, .int x5)]) dX8_apart_5 (by decide) rfl ?_
    refine zk_aload_n X 1 dX8_apart_7 rfl rfl ?_
    refine zk_iload_n X 3 dX8_apart_8 rfl rfl ?_
    refine zk_vq X h (fun rr zz hf => ct_X8_recipeAt l E hi  x2 _ rr zz hf) (cwV 1 X.1.2.2.2.2 gX8_apart_X8_recipeAt rfl rfl rfl (by decide +kernel) ⟨Nat.le_of_ble_eq_true rfl, Nat.le_of_ble_eq_true rfl⟩) (zk_recv X (g := 0) (Nat.zero_lt_one) rfl rfl) rfl rfl (Nat.le_of_ble_eq_true rfl) dX8_apart_9 (fun z7 h => ?_) (fun kk9 z7 hkk9 h => ?_)
    · refine zk_astoreN X (lv' := [(7, .null), (6, .ref (E.2.1 4 kk3)), (0, .ref (E.2.1 0 0)), (1, .int x1), (2, .int x2), (3, .int x3), (4, .int x4), (5, .int x5)]) dX8_apart_12 (by decide) rfl ?_
      refine zk_aload X 1 dX8_apart_14 rfl ?_
      refine zk_ifnull X dX8_apart_16 ?_
      refine zk_aloadN X 0 dX8_apart_19 rfl ?_
      refine zk_ifnonnullN X dX8_apart_21 ?_
      refine zk_bipush X (v := -5) dX8_apart_24 (by decide) ?_
      exact zk_ireturn X hr dX8_apart_26 h
    · refine zk_astore X (lv' := [(7, .ref (E.2.1 4 kk9)), (6, .ref (E.2.1 4 kk3)), (0, .ref (E.2.1 0 0)), (1, .int x1), (2, .int x2), (3, .int x3), (4, .int x4), (5, .int x5)]) dX8_apart_12 (by decide) rfl ?_
      refine zk_aload X 1 dX8_apart_14 rfl ?_
      refine zk_ifnull X dX8_apart_16 ?_
      refine zk_aload X 0 dX8_apart_19 rfl ?_
      refine zk_ifnonnull X (tgt := 27) dX8_apart_21 (by decide) ?_
      refine zk_iload_n X 5 dX8_apart_27 rfl rfl ?_
      refine zk_iload X 6 dX8_apart_28 rfl ?_
      refine zk_si X h (fun rr zz hf => ct_X8_isHeap l E hi  x3 x4 _ rr zz hf) (va_cwS 2 X.1.2.2.2.2 gX8_apart_X8_isHeap rfl rfl rfl (by decide +kernel) ⟨Nat.le_of_ble_eq_true rfl, Nat.le_of_ble_eq_true rfl⟩) rfl rfl (Nat.le_of_ble_eq_true rfl) dX8_apart_30 (fun r11 z10 h => ?_)
      refine zk_if_eq X (tgt := 47) dX8_apart_33 (by decide) h (fun h => ?_) (fun h => ?_)
      · refine zk_bipush X (v := -2) dX8_apart_47 (by decide) ?_
        exact zk_ireturn X hr dX8_apart_49 h
      · refine zk_iload X 7 dX8_apart_36 rfl ?_
        refine zk_if_lt X (tgt := 47) dX8_apart_38 (by decide) h (fun h => ?_) (fun h => ?_)
        · refine zk_bipush X (v := -2) dX8_apart_47 (by decide) ?_
          exact zk_ireturn X hr dX8_apart_49 h
        · refine zk_iload X 7 dX8_apart_41 rfl ?_
          refine zk_iconst X (v := 1) dX8_apart_43 (by decide) ?_
          refine zk_icmp_le X (tgt := 50) dX8_apart_44 (by decide) h (fun h => ?_) (fun h => ?_)
          · refine zk_iconst X (v := 0) dX8_apart_50 (by decide) ?_
            refine zk_istore X (lv' := [(8, .int 0), (7, .ref (E.2.1 4 kk9)), (6, .ref (E.2.1 4 kk3)), (0, .ref (E.2.1 0 0)), (1, .int x1), (2, .int x2), (3, .int x3), (4, .int x4), (5, .int x5)]) dX8_apart_51 (by decide) rfl ?_
            exact zk_sub [3, 6, 7, 8, 2, 1, 0] rfl (L53  _ _ _ _ _ _ _ (hkk3) (hkk9) _ h)
          · refine zk_bipush X (v := -2) dX8_apart_47 (by decide) ?_
            exact zk_ireturn X hr dX8_apart_49 h
def fX8_areClauses_B71 (k0 : Nat) (c13 : Int32 → Int32 → zk_Z → Option (Int32 × zk_Z)) (a1 : Int32) (a2 : Int32) (a3 : Int32) (a4 : Int32) (a5 : Int32) (s0 : Int32) (z : zk_Z) : Option (Int32 × zk_Z) := if s0 = 0 then some (0, z) else if (a3 &&& a4) = 0 then if a5 < 1 then some (0, z) else if a5 ≤ 3 then c13 a1 (a2 + 2) z else some (0, z) else some (0, z)
def fX8_areClauses_B70 (k0 : Nat) (c13 : Int32 → Int32 → zk_Z → Option (Int32 × zk_Z)) (a1 : Int32) (a2 : Int32) (a3 : Int32) (a4 : Int32) (a5 : Int32) (z : zk_Z) : Option (Int32 × zk_Z) := fX8_areClauses_B71 k0 c13 a1 a2 a3 a4 a5 0 z
def fX8_areClauses_L13 (k0 : Nat) : Nat → Int32 → Int32 → zk_Z → Option (Int32 × zk_Z)
  | 0, _, _, _ => none
  | n + 1, a1, a2, z => if (z.1 13 k0 1) ≤ (a2 + 1) then some (1, z) else zk_gd (zk_ix a2 40) (zk_gd (zk_ix (a2 + 1) 40) (zk_bd (fJ6_bitCount_0f7a4 ((z.1 14 k0 a2.toNatClampNeg) ||| (z.1 14 k0 (a2 + 1).toNatClampNeg)) z) (fun r2 z1 => zk_bd (fX8_isRow (z.1 14 k0 a2.toNatClampNeg) a1 z1) (fun r4 z3 => if r4 = 0 then fX8_areClauses_B70 k0 (fX8_areClauses_L13 k0 n) a1 a2 (z.1 14 k0 a2.toNatClampNeg) (z.1 14 k0 (a2 + 1).toNatClampNeg) r2 z3 else zk_bd (fX8_isRow (z.1 14 k0 (a2 + 1).toNatClampNeg) a1 z3) (fun r6 z5 => if r6 = 0 then fX8_areClauses_B70 k0 (fX8_areClauses_L13 k0 n) a1 a2 (z.1 14 k0 a2.toNatClampNeg) (z.1 14 k0 (a2 + 1).toNatClampNeg) r2 z5 else fX8_areClauses_B71 k0 (fX8_areClauses_L13 k0 n) a1 a2 (z.1 14 k0 a2.toNatClampNeg) (z.1 14 k0 (a2 + 1).toNatClampNeg) r2 1 z5)))))
def fX8_areClauses (k0 : Nat) (x1 : Int32) (z : zk_Z) : Option (Int32 × zk_Z) := if ((z.1 13 k0 1) - (z.1 13 k0 1) / 2 * 2) = 0 then fX8_areClauses_L13 k0 zk_FU x1 0 z else some (0, z)
set_option maxRecDepth 100000 in
set_option maxHeartbeats 8000000 in
theorem ct_X8_areClauses (l : Launch) (E : zk_E) (hi : zk_inj E) (k0 : Nat) (hk0 : k0 < zk_cnt 13) (x1 : Int32) (z : zk_Z) (r : Int32) (z' : zk_Z) (h : fX8_areClauses k0 x1 z = some (r, z')) : Met l yX8_areClauses wsX8_areClauses { frames := 1, cells := 0, slots := 0, locals := 21 } (va_Pc [.ref (E.2.1 13 k0), .int x1] (zk_W E z)) (zk_Qi E r z') 0 0 (zk_A E) := by
  refine zk_met (cc := cX8_areClauses) (maxL := 7) (ret := (some .boolean)) (own := RX8) (by decide) rfl rfl hi (Nat.le_of_ble_eq_true rfl) ?_
  intro p e s m args below meth c X hr
  have iX5 : ∀ w ∈ u_ws RX5 TX5 3, w ∈ wsX8_areClauses := by decide +kernel
  have w0 : Cond.fieldLink RX8 148 "HiddenWorks$Sheet" "size" "I" ∈ wsX8_areClauses := by decide +kernel
  have w1 : Cond.fieldLink RX8 149 "HiddenWorks$Sheet" "cells" "[I" ∈ wsX8_areClauses := by decide +kernel
  have B71 : ∀ (c13 : Int32 → Int32 → zk_Z → Option (Int32 × zk_Z)) (hc13 : ∀ (a1 : Int32) (a2 : Int32) (z : zk_Z), c13 a1 a2 z = some (r, z') → zk_G p l e (headSpec wsX8_areClauses { frames := 1, cells := 0, slots := 0, locals := 21 }).room s m args below meth c E 7 0 0 (MQ below (zk_Qi E r z') args s 0 0 (zk_A E)) 13 [(0, .ref (E.2.1 13 k0)), (1, .int a1), (2, .int a2)] [] z) (a1 : Int32) (a2 : Int32) (a3 : Int32) (a4 : Int32) (a5 : Int32) (s0 : Int32) (z : zk_Z), fX8_areClauses_B71 k0 c13 a1 a2 a3 a4 a5 s0 z = some (r, z') → zk_G p l e (headSpec wsX8_areClauses { frames := 1, cells := 0, slots := 0, locals := 21 }).room s m args below meth c E 7 0 0 (MQ below (zk_Qi E r z') args s 0 0 (zk_A E)) 71 [(0, .ref (E.2.1 13 k0)), (1, .int a1), (2, .int a2), (3, .int a3), (4, .int a4), (5, .int a5)] [.int s0] z := by
    intro c13 hc13 a1 a2 a3 a4 a5 s0 z h
    unfold fX8_areClauses_B71 at h
    refine zk_istore X (lv' := [(6, .int s0), (0, .ref (E.2.1 13 k0)), (1, .int a1), (2, .int a2), (3, .int a3), (4, .int a4), (5, .int a5)]) dX8_areClauses_71 (by decide) rfl ?_
    refine zk_iload X 0 dX8_areClauses_73 rfl ?_
    refine zk_if_eq X (tgt := 97) dX8_areClauses_75 (by decide) h (fun h => ?_) (fun h => ?_)
    · refine zk_iconst X (v := 0) dX8_areClauses_97 (by decide) ?_
      exact zk_zreturn X hr dX8_areClauses_98 rfl h
    · refine zk_iload_n X 4 dX8_areClauses_78 rfl rfl ?_
      refine zk_iload X 5 dX8_areClauses_79 rfl ?_
      refine zk_iand X dX8_areClauses_81 ?_
      refine zk_if_ne X (tgt := 97) dX8_areClauses_82 (by decide) h (fun h => ?_) (fun h => ?_)
      · refine zk_iload X 6 dX8_areClauses_85 rfl ?_
        refine zk_iconst X (v := 1) dX8_areClauses_87 (by decide) ?_
        refine zk_icmp_lt X (tgt := 97) dX8_areClauses_88 (by decide) h (fun h => ?_) (fun h => ?_)
        · refine zk_iconst X (v := 0) dX8_areClauses_97 (by decide) ?_
          exact zk_zreturn X hr dX8_areClauses_98 rfl h
        · refine zk_iload X 6 dX8_areClauses_91 rfl ?_
          refine zk_iconst X (v := 3) dX8_areClauses_93 (by decide) ?_
          refine zk_icmp_le X (tgt := 99) dX8_areClauses_94 (by decide) h (fun h => ?_) (fun h => ?_)
          · refine zk_iinc X (lv' := [(2, .int (a2 + 2)), (6, .int s0), (0, .ref (E.2.1 13 k0)), (1, .int a1), (3, .int a3), (4, .int a4), (5, .int a5)]) 3 dX8_areClauses_99 rfl rfl (by decide) rfl ?_
            refine zk_goto X (tgt := 13) dX8_areClauses_102 (by decide) ?_
            exact zk_sub [2, 3, 0] rfl (hc13 _ _ _ h)
          · refine zk_iconst X (v := 0) dX8_areClauses_97 (by decide) ?_
            exact zk_zreturn X hr dX8_areClauses_98 rfl h
      · refine zk_iconst X (v := 0) dX8_areClauses_97 (by decide) ?_
        exact zk_zreturn X hr dX8_areClauses_98 rfl h
  have B70 : ∀ (c13 : Int32 → Int32 → zk_Z → Option (Int32 × zk_Z)) (hc13 : ∀ (a1 : Int32) (a2 : Int32) (z : zk_Z), c13 a1 a2 z = some (r, z') → zk_G p l e (headSpec wsX8_areClauses { frames := 1, cells := 0, slots := 0, locals := 21 }).room s m args below meth c E 7 0 0 (MQ below (zk_Qi E r z') args s 0 0 (zk_A E)) 13 [(0, .ref (E.2.1 13 k0)), (1, .int a1), (2, .int a2)] [] z) (a1 : Int32) (a2 : Int32) (a3 : Int32) (a4 : Int32) (a5 : Int32) (z : zk_Z), fX8_areClauses_B70 k0 c13 a1 a2 a3 a4 a5 z = some (r, z') → zk_G p l e (headSpec wsX8_areClauses { frames := 1, cells := 0, slots := 0, locals := 21 }).room s m args below meth c E 7 0 0 (MQ below (zk_Qi E r z') args s 0 0 (zk_A E)) 70 [(0, .ref (E.2.1 13 k0)), (1, .int a1), (2, .int a2), (3, .int a3), (4, .int a4), (5, .int a5)] [] z := by
    intro c13 hc13 a1 a2 a3 a4 a5 z h
    unfold fX8_areClauses_B70 at h
    refine zk_iconst X (v := 0) dX8_areClauses_70 (by decide) ?_
    exact zk_sub [0, 1, 2, 3, 4, 5] rfl (B71 _ hc13 _ _ _ _ _ _ _ h)
  have L13 : ∀ (n : Nat) (a1 : Int32) (a2 : Int32) (z : zk_Z), fX8_areClauses_L13 k0 n a1 a2 z = some (r, z') → zk_G p l e (headSpec wsX8_areClauses { frames := 1, cells := 0, slots := 0, locals := 21 }).room s m args below meth c E 7 0 0 (MQ below (zk_Qi E r z') args s 0 0 (zk_A E)) 13 [(0, .ref (E.2.1 13 k0)), (1, .int a1), (2, .int a2)] [] z := by
    intro n
    induction n with
    | zero => intro a1 a2 z h; exact absurd h (by simp [fX8_areClauses_L13])
    | succ n ih =>
      intro a1 a2 z h
      rw [fX8_areClauses_L13] at h
      refine zk_iload_n X 2 dX8_areClauses_13 rfl rfl ?_
      refine zk_iconst X (v := 1) dX8_areClauses_14 (by decide) ?_
      refine zk_iadd X dX8_areClauses_15 ?_
      refine zk_aload_n X 0 dX8_areClauses_16 rfl rfl ?_
      refine zk_get X iX5 (g := 13) (hk0) rfl rfl 1 (by decide) w0 rfl dX8_areClauses_17 ?_
      refine zk_icmp_ge X (tgt := 105) dX8_areClauses_20 (by decide) h (fun h => ?_) (fun h => ?_)
      · refine zk_iconst X (v := 1) dX8_areClauses_105 (by decide) ?_
        exact zk_zreturn X hr dX8_areClauses_106 rfl h
      · refine zk_aload_n X 0 dX8_areClauses_23 rfl rfl ?_
        refine zk_get X iX5 (g := 13) (hk0) rfl rfl 2 (by decide) w1 rfl dX8_areClauses_24 ?_
        refine zk_iload_n X 2 dX8_areClauses_27 rfl rfl ?_
        refine zk_iald X (g := 14) (hk0) rfl dX8_areClauses_28 h (fun h => ?_)
        refine zk_istore_n X (lv' := [(3, .int (z.1 14 k0 a2.toNatClampNeg)), (0, .ref (E.2.1 13 k0)), (1, .int a1), (2, .int a2)]) dX8_areClauses_29 rfl (by decide) rfl ?_
        refine zk_aload_n X 1 dX8_areClauses_30 rfl rfl ?_
        refine zk_get X iX5 (g := 13) (hk0) rfl rfl 2 (by decide) w1 rfl dX8_areClauses_31 ?_
        refine zk_iload_n X 3 dX8_areClauses_34 rfl rfl ?_
        refine zk_iconst X (v := 1) dX8_areClauses_35 (by decide) ?_
        refine zk_iadd X dX8_areClauses_36 ?_
        refine zk_iald X (g := 14) (hk0) rfl dX8_areClauses_37 h (fun h => ?_)
        refine zk_istore X (lv' := [(4, .int (z.1 14 k0 (a2 + 1).toNatClampNeg)), (3, .int (z.1 14 k0 a2.toNatClampNeg)), (0, .ref (E.2.1 13 k0)), (1, .int a1), (2, .int a2)]) dX8_areClauses_38 (by decide) rfl ?_
        refine zk_iload_n X 1 dX8_areClauses_40 rfl rfl ?_
        refine zk_iload X 0 dX8_areClauses_41 rfl ?_
        refine zk_ior X dX8_areClauses_43 ?_
        refine zk_si X h (fun rr zz hf => ct_J6_bitCount_0f7a4 l E hi ((z.1 14 k0 a2.toNatClampNeg) ||| (z.1 14 k0 (a2 + 1).toNatClampNeg)) _ rr zz hf) (va_cwS 1 X.1.2.2.2.2 gX8_areClauses_J6_bitCount_0f7a4 rfl rfl rfl (by decide +kernel) ⟨Nat.le_of_ble_eq_true rfl, Nat.le_of_ble_eq_true rfl⟩) rfl rfl (Nat.le_of_ble_eq_true rfl) dX8_areClauses_44 (fun r2 z1 h => ?_)
        refine zk_istore X (lv' := [(5, .int r2), (4, .int (z.1 14 k0 (a2 + 1).toNatClampNeg)), (3, .int (z.1 14 k0 a2.toNatClampNeg)), (0, .ref (E.2.1 13 k0)), (1, .int a1), (2, .int a2)]) dX8_areClauses_47 (by decide) rfl ?_
        refine zk_iload_n X 2 dX8_areClauses_49 rfl rfl ?_
        refine zk_iload_n X 4 dX8_areClauses_50 rfl rfl ?_
        refine zk_si X h (fun rr zz hf => ct_X8_isRow l E hi (z.1 14 k0 a2.toNatClampNeg) a1 _ rr zz hf) (va_cwS 2 X.1.2.2.2.2 gX8_areClauses_X8_isRow rfl rfl rfl (by decide +kernel) ⟨Nat.le_of_ble_eq_true rfl, Nat.le_of_ble_eq_true rfl⟩) rfl rfl (Nat.le_of_ble_eq_true rfl) dX8_areClauses_51 (fun r4 z3 h => ?_)
        refine zk_if_eq X (tgt := 70) dX8_areClauses_54 (by decide) h (fun h => ?_) (fun h => ?_)
        · exact zk_sub [3, 4, 5, 2, 1, 0] rfl (B70 _ ih _ _ _ _ _ _ h)
        · refine zk_iload X 1 dX8_areClauses_57 rfl ?_
          refine zk_iload_n X 4 dX8_areClauses_59 rfl rfl ?_
          refine zk_si X h (fun rr zz hf => ct_X8_isRow l E hi (z.1 14 k0 (a2 + 1).toNatClampNeg) a1 _ rr zz hf) (va_cwS 2 X.1.2.2.2.2 gX8_areClauses_X8_isRow rfl rfl rfl (by decide +kernel) ⟨Nat.le_of_ble_eq_true rfl, Nat.le_of_ble_eq_true rfl⟩) rfl rfl (Nat.le_of_ble_eq_true rfl) dX8_areClauses_60 (fun r6 z5 h => ?_)
          refine zk_if_eq X (tgt := 70) dX8_areClauses_63 (by decide) h (fun h => ?_) (fun h => ?_)
          · exact zk_sub [3, 4, 5, 2, 1, 0] rfl (B70 _ ih _ _ _ _ _ _ h)
          · refine zk_iconst X (v := 1) dX8_areClauses_66 (by decide) ?_
            refine zk_goto X (tgt := 71) dX8_areClauses_67 (by decide) ?_
            exact zk_sub [3, 4, 5, 2, 1, 0] rfl (B71 _ ih _ _ _ _ _ _ _ h)
  unfold fX8_areClauses at h
  refine zk_aload_n X 0 dX8_areClauses_0 rfl rfl ?_
  refine zk_get X iX5 (g := 13) (hk0) rfl rfl 1 (by decide) w0 rfl dX8_areClauses_1 ?_
  refine zk_iconst X (v := 2) dX8_areClauses_4 (by decide) ?_
  refine zk_irem X (α := Unit) (a := some ()) (o := ()) dX8_areClauses_5 rfl (fun _ => ?_)
  refine zk_if_eq X (tgt := 11) dX8_areClauses_6 (by decide) h (fun h => ?_) (fun h => ?_)
  · refine zk_iconst X (v := 0) dX8_areClauses_11 (by decide) ?_
    refine zk_istore_n X (lv' := [(2, .int 0), (0, .ref (E.2.1 13 k0)), (1, .int x1)]) dX8_areClauses_12 rfl (by decide) rfl ?_
    exact zk_sub [1, 2, 0] rfl (L13  _ _ _ _ h)
  · refine zk_iconst X (v := 0) dX8_areClauses_9 (by decide) ?_
    exact zk_zreturn X hr dX8_areClauses_10 rfl h
def fX8_back_B71 (c29 : Int32 → Int32 → zk_Z → Option (Int32 × zk_Z)) (a1 : Int32) (a2 : Int32) (z : zk_Z) : Option (Int32 × zk_Z) := c29 a1 (a2 + 1) z
def fX8_back_L29 : Nat → Int32 → Int32 → zk_Z → Option (Int32 × zk_Z)
  | 0, _, _, _ => none
  | n + 1, a1, a2, z => if (z.1 0 0 13) ≤ a2 then some ((zk_sI z 0 0 13 a1).1 0 0 12, zk_sI z 0 0 13 a1) else zk_gd (zk_ix a2 20) (if (z.1 0 0 12) ≤ (z.1 11 a2.toNatClampNeg 0) then fX8_back_B71 (fX8_back_L29 n) a1 a2 z else zk_gd (zk_ix a1 20) (zk_gd (zk_ix a2 20) (zk_bd (fX0_become a1.toNatClampNeg a2.toNatClampNeg z) (fun _ z4 => fX8_back_B71 (fX8_back_L29 n) (a1 + 1) a2 z4))))
def fX8_back (z : zk_Z) : Option (Int32 × zk_Z) := if 0 ≤ (z.1 0 0 14) then fX8_back_L29 zk_FU 0 0 (zk_sI z 0 0 12 (if (z.1 0 0 14) < (z.1 0 0 12) then z.1 0 0 14 else z.1 0 0 12)) else some ((-3), z)
set_option maxRecDepth 100000 in
set_option maxHeartbeats 8000000 in
theorem ct_X8_back (l : Launch) (E : zk_E) (hi : zk_inj E) (z : zk_Z) (r : Int32) (z' : zk_Z) (h : fX8_back   z = some (r, z')) : Met l yX8_back wsX8_back { frames := 1, cells := 0, slots := 0, locals := 40 } (va_Pc [.ref (E.2.1 0 0)] (zk_W E z)) (zk_Qi E r z') 0 0 (zk_A E) := by
  refine zk_met (cc := cX8_back) (maxL := 3) (ret := (some .int)) (own := RX8) (by decide) rfl rfl hi (Nat.le_of_ble_eq_true rfl) ?_
  intro p e s m args below meth c X hr
  have iX0 : ∀ w ∈ u_ws RX0 TX0 4, w ∈ wsX8_back := by decide +kernel
  have iX8 : ∀ w ∈ u_ws RX8 TX8 15, w ∈ wsX8_back := by decide +kernel
  have w0 : Cond.fieldLink RX8 72 "HiddenWorks" "tasksInImage" "I" ∈ wsX8_back := by decide +kernel
  have w1 : Cond.fieldLink RX8 110 "HiddenWorks" "taskCount" "I" ∈ wsX8_back := by decide +kernel
  have w2 : Cond.methodLink RX8 290 Lib.Math.min.name ∈ wsX8_back := by decide +kernel
  have w3 : Cond.static Lib.Math.min.name ∈ wsX8_back := by decide +kernel
  have w4 : Cond.initialized "java/lang/Math" ∈ wsX8_back := by decide +kernel
  have w5 : Cond.code Lib.Math.min.name Lib.Math.min.code 2 (some .int) ∈ wsX8_back := by decide +kernel
  have w6 : Cond.fieldLink RX8 262 "HiddenWorks" "claimCount" "I" ∈ wsX8_back := by decide +kernel
  have w7 : Cond.fieldLink RX8 60 "HiddenWorks" "claims" "[LHiddenWorks$Claim;" ∈ wsX8_back := by decide +kernel
  have w8 : Cond.fieldLink RX8 273 "HiddenWorks$Claim" "task" "I" ∈ wsX8_back := by decide +kernel
  have B71 : ∀ (c29 : Int32 → Int32 → zk_Z → Option (Int32 × zk_Z)) (hc29 : ∀ (a1 : Int32) (a2 : Int32) (z : zk_Z), c29 a1 a2 z = some (r, z') → zk_G p l e (headSpec wsX8_back { frames := 1, cells := 0, slots := 0, locals := 40 }).room s m args below meth c E 3 0 0 (MQ below (zk_Qi E r z') args s 0 0 (zk_A E)) 29 [(0, .ref (E.2.1 0 0)), (1, .int a1), (2, .int a2)] [] z) (a1 : Int32) (a2 : Int32) (z : zk_Z), fX8_back_B71 c29 a1 a2 z = some (r, z') → zk_G p l e (headSpec wsX8_back { frames := 1, cells := 0, slots := 0, locals := 40 }).room s m args below meth c E 3 0 0 (MQ below (zk_Qi E r z') args s 0 0 (zk_A E)) 71 [(0, .ref (E.2.1 0 0)), (1, .int a1), (2, .int a2)] [] z := by
    intro c29 hc29 a1 a2 z h
    unfold fX8_back_B71 at h
    refine zk_iinc X (lv' := [(2, .int (a2 + 1)), (0, .ref (E.2.1 0 0)), (1, .int a1)]) 2 dX8_back_71 rfl rfl (by decide) rfl ?_
    refine zk_goto X (tgt := 29) dX8_back_74 (by decide) ?_
    exact zk_sub [1, 2, 0] rfl (hc29 _ _ _ h)
  have L29 : ∀ (n : Nat) (a1 : Int32) (a2 : Int32) (z : zk_Z), fX8_back_L29 n a1 a2 z = some (r, z') → zk_G p l e (headSpec wsX8_back { frames := 1, cells := 0, slots := 0, locals := 40 }).room s m args below meth c E 3 0 0 (MQ below (zk_Qi E r z') args s 0 0 (zk_A E)) 29 [(0, .ref (E.2.1 0 0)), (1, .int a1), (2, .int a2)] [] z := by
    intro n
    induction n with
    | zero => intro a1 a2 z h; exact absurd h (by simp [fX8_back_L29])
    | succ n ih =>
      intro a1 a2 z h
      rw [fX8_back_L29] at h
      refine zk_iload_n X 2 dX8_back_29 rfl rfl ?_
      refine zk_aload_n X 0 dX8_back_30 rfl rfl ?_
      refine zk_get X iX8 (g := 0) (Nat.zero_lt_one) rfl rfl 13 (by decide) w6 rfl dX8_back_31 ?_
      refine zk_icmp_ge X (tgt := 77) dX8_back_34 (by decide) h (fun h => ?_) (fun h => ?_)
      · refine zk_aload_n X 0 dX8_back_77 rfl rfl ?_
        refine zk_iload_n X 1 dX8_back_78 rfl rfl ?_
        refine zk_putI X (ty := .int) iX8 tyX8 tyX8_ok nmX8 (g := 0) (Nat.zero_lt_one) rfl rfl 13 (by decide) w6 rfl (by decide +kernel) rfl rfl (Nat.le_of_ble_eq_true rfl) rfl dX8_back_79 ?_
        refine zk_aload_n X 0 dX8_back_82 rfl rfl ?_
        refine zk_get X iX8 (g := 0) (Nat.zero_lt_one) rfl rfl 12 (by decide) w1 rfl dX8_back_83 ?_
        exact zk_ireturn X hr dX8_back_86 h
      · refine zk_aload_n X 0 dX8_back_37 rfl rfl ?_
        refine zk_get X iX8 (g := 0) (Nat.zero_lt_one) rfl rfl 3 (by decide) w7 rfl dX8_back_38 ?_
        refine zk_iload_n X 2 dX8_back_41 rfl rfl ?_
        refine zk_aald X (g := 10) (t := 1) (Nat.zero_lt_one) rfl rfl dX8_back_42 h (fun hb1 h => ?_)
        refine zk_get X iX0 (g := 11) (hb1) rfl rfl 0 (by decide) w8 rfl dX8_back_43 ?_
        refine zk_aload_n X 0 dX8_back_46 rfl rfl ?_
        refine zk_get X iX8 (g := 0) (Nat.zero_lt_one) rfl rfl 12 (by decide) w1 rfl dX8_back_47 ?_
        refine zk_icmp_ge X (tgt := 71) dX8_back_50 (by decide) h (fun h => ?_) (fun h => ?_)
        · exact zk_sub [0, 1, 2] rfl (B71 _ ih _ _ _ h)
        · refine zk_aload_n X 0 dX8_back_53 rfl rfl ?_
          refine zk_get X iX8 (g := 0) (Nat.zero_lt_one) rfl rfl 3 (by decide) w7 rfl dX8_back_54 ?_
          refine zk_iload_n X 1 dX8_back_57 rfl rfl ?_
          refine zk_aald X (g := 10) (t := 1) (Nat.zero_lt_one) rfl rfl dX8_back_58 h (fun hb2 h => ?_)
          refine zk_aload_n X 0 dX8_back_59 rfl rfl ?_
          refine zk_get X iX8 (g := 0) (Nat.zero_lt_one) rfl rfl 3 (by decide) w7 rfl dX8_back_60 ?_
          refine zk_iload_n X 2 dX8_back_63 rfl rfl ?_
          refine zk_aald X (g := 10) (t := 1) (Nat.zero_lt_one) rfl rfl dX8_back_64 h (fun hb3 h => ?_)
          refine zk_vv X h (fun rr zz hf => ct_X0_become l E hi a1.toNatClampNeg (hb2) a2.toNatClampNeg (hb3) _ rr zz hf) (cwV 1 X.1.2.2.2.2 gX8_back_X0_become rfl rfl rfl (by decide +kernel) ⟨Nat.le_of_ble_eq_true rfl, Nat.le_of_ble_eq_true rfl⟩) (zk_recv X (g := 11) (hb2) rfl rfl) rfl rfl (Nat.le_of_ble_eq_true rfl) dX8_back_65 (fun z4 h => ?_)
          refine zk_iinc X (lv' := [(1, .int (a1 + 1)), (0, .ref (E.2.1 0 0)), (2, .int a2)]) 1 dX8_back_68 rfl rfl (by decide) rfl ?_
          exact zk_sub [1, 0, 2] rfl (B71 _ ih _ _ _ h)
  unfold fX8_back at h
  refine zk_aload_n X 0 dX8_back_0 rfl rfl ?_
  refine zk_get X iX8 (g := 0) (Nat.zero_lt_one) rfl rfl 14 (by decide) w0 rfl dX8_back_1 ?_
  refine zk_if_ge X (tgt := 10) dX8_back_4 (by decide) h (fun h => ?_) (fun h => ?_)
  · refine zk_aload_n X 0 dX8_back_10 rfl rfl ?_
    refine zk_aload_n X 0 dX8_back_11 rfl rfl ?_
    refine zk_get X iX8 (g := 0) (Nat.zero_lt_one) rfl rfl 12 (by decide) w1 rfl dX8_back_12 ?_
    refine zk_aload_n X 0 dX8_back_15 rfl rfl ?_
    refine zk_get X iX8 (g := 0) (Nat.zero_lt_one) rfl rfl 14 (by decide) w0 rfl dX8_back_16 ?_
    refine zk_min X w2 w3 w4 w5 (Nat.le_of_ble_eq_true rfl) (Nat.le_of_ble_eq_true rfl) dX8_back_19 ?_
    refine zk_putI X (ty := .int) iX8 tyX8 tyX8_ok nmX8 (g := 0) (Nat.zero_lt_one) rfl rfl 12 (by decide) w1 rfl (by decide +kernel) rfl rfl (Nat.le_of_ble_eq_true rfl) rfl dX8_back_22 ?_
    refine zk_iconst X (v := 0) dX8_back_25 (by decide) ?_
    refine zk_istore_n X (lv' := [(1, .int 0), (0, .ref (E.2.1 0 0))]) dX8_back_26 rfl (by decide) rfl ?_
    refine zk_iconst X (v := 0) dX8_back_27 (by decide) ?_
    refine zk_istore_n X (lv' := [(2, .int 0), (1, .int 0), (0, .ref (E.2.1 0 0))]) dX8_back_28 rfl (by decide) rfl ?_
    exact zk_sub [2, 1, 0] rfl (L29  _ _ _ _ h)
  · refine zk_bipush X (v := -3) dX8_back_7 (by decide) ?_
    exact zk_ireturn X hr dX8_back_9 h
def fX8_balance_B87 (c22 : Nat → Int32 → Int32 → Int32 → zk_Z → Option (Int32 × zk_Z)) (c34 : Nat → Int32 → Int32 → Int32 → Int32 → zk_Z → Option (Int32 × zk_Z)) (ka2 : Nat) (a3 : Int32) (a4 : Int32) (a5 : Int32) (a6 : Int32) (z : zk_Z) : Option (Int32 × zk_Z) := c34 ka2 a3 a4 a5 (a6 + 1) z
def fX8_balance_B56 (c22 : Nat → Int32 → Int32 → Int32 → zk_Z → Option (Int32 × zk_Z)) (c34 : Nat → Int32 → Int32 → Int32 → Int32 → zk_Z → Option (Int32 × zk_Z)) (ka2 : Nat) (a3 : Int32) (a4 : Int32) (a5 : Int32) (a6 : Int32) (a7 : Int32) (z : zk_Z) : Option (Int32 × zk_Z) := if a4 ≤ a7 then fX8_balance_B87 c22 c34 ka2 a3 a4 a5 a6 z else zk_bd (fX4_balancesWith ka2 a5 a6 z) (fun r5 z4 => if r5 = 0 then fX8_balance_B87 c22 c34 ka2 a3 a4 a5 a6 z4 else fX8_balance_B87 c22 c34 ka2 ((100 * a5) + a6) a7 a5 a6 z4)
def fX8_balance_L34 (c22 : Nat → Int32 → Int32 → Int32 → zk_Z → Option (Int32 × zk_Z)) : Nat → Nat → Int32 → Int32 → Int32 → Int32 → zk_Z → Option (Int32 × zk_Z)
  | 0, _, _, _, _, _, _ => none
  | n + 1, ka2, a3, a4, a5, a6, z => if 99 < a6 then c22 ka2 a3 a4 (a5 + 1) z else zk_gd (zk_ix a5 4) (fX8_balance_B56 c22 (fX8_balance_L34 c22 n) ka2 a3 a4 a5 a6 (if 0 ≤ (a6 - (z.1 5 ka2 a5.toNatClampNeg)) then a6 - (z.1 5 ka2 a5.toNatClampNeg) else 0 - (a6 - (z.1 5 ka2 a5.toNatClampNeg))) z)
def fX8_balance_L22 : Nat → Nat → Int32 → Int32 → Int32 → zk_Z → Option (Int32 × zk_Z)
  | 0, _, _, _, _, _ => none
  | n + 1, ka2, a3, a4, a5, z => if (z.1 4 ka2 3) < a5 then some (a3, z) else fX8_balance_L34 (fX8_balance_L22 n) zk_FU ka2 a3 a4 a5 0 z
def fX8_balance (x1 : Int32) (z : zk_Z) : Option (Int32 × zk_Z) := zk_bd (fX8_recipeAt x1 z) (fun r2 z1 => zk_oc r2 (some ((-5), z1)) (fun kk3 => fX8_balance_L22 zk_FU kk3 (-1) 100 0 z1))
set_option maxRecDepth 100000 in
set_option maxHeartbeats 8000000 in
theorem ct_X8_balance (l : Launch) (E : zk_E) (hi : zk_inj E) (x1 : Int32) (z : zk_Z) (r : Int32) (z' : zk_Z) (h : fX8_balance  x1 z = some (r, z')) : Met l yX8_balance wsX8_balance { frames := 4, cells := 0, slots := 0, locals := 88 } (va_Pc [.ref (E.2.1 0 0), .int x1] (zk_W E z)) (zk_Qi E r z') 0 0 (zk_A E) := by
  refine zk_met (cc := cX8_balance) (maxL := 8) (ret := (some .int)) (own := RX8) (by decide) rfl rfl hi (Nat.le_of_ble_eq_true rfl) ?_
  intro p e s m args below meth c X hr
  have iX4 : ∀ w ∈ u_ws RX4 TX4 5, w ∈ wsX8_balance := by decide +kernel
  have w0 : Cond.fieldLink RX8 103 "HiddenWorks$Recipe" "wide" "I" ∈ wsX8_balance := by decide +kernel
  have w1 : Cond.fieldLink RX8 106 "HiddenWorks$Recipe" "weights" "[I" ∈ wsX8_balance := by decide +kernel
  have w2 : Cond.methodLink RX8 219 Lib.Math.abs.name ∈ wsX8_balance := by decide +kernel
  have w3 : Cond.static Lib.Math.abs.name ∈ wsX8_balance := by decide +kernel
  have w4 : Cond.initialized "java/lang/Math" ∈ wsX8_balance := by decide +kernel
  have w5 : Cond.code Lib.Math.abs.name Lib.Math.abs.code 1 (some .int) ∈ wsX8_balance := by decide +kernel
  have B87 : ∀ (c22 : Nat → Int32 → Int32 → Int32 → zk_Z → Option (Int32 × zk_Z)) (hc22 : ∀ (ka2 : Nat) (a3 : Int32) (a4 : Int32) (a5 : Int32) (hka2 : ka2 < zk_cnt 4) (z : zk_Z), c22 ka2 a3 a4 a5 z = some (r, z') → zk_G p l e (headSpec wsX8_balance { frames := 4, cells := 0, slots := 0, locals := 88 }).room s m args below meth c E 8 0 0 (MQ below (zk_Qi E r z') args s 0 0 (zk_A E)) 22 [(2, .ref (E.2.1 4 ka2)), (3, .int a3), (4, .int a4), (5, .int a5)] [] z) (c34 : Nat → Int32 → Int32 → Int32 → Int32 → zk_Z → Option (Int32 × zk_Z)) (hc34 : ∀ (ka2 : Nat) (a3 : Int32) (a4 : Int32) (a5 : Int32) (a6 : Int32) (hka2 : ka2 < zk_cnt 4) (z : zk_Z), c34 ka2 a3 a4 a5 a6 z = some (r, z') → zk_G p l e (headSpec wsX8_balance { frames := 4, cells := 0, slots := 0, locals := 88 }).room s m args below meth c E 8 0 0 (MQ below (zk_Qi E r z') args s 0 0 (zk_A E)) 34 [(2, .ref (E.2.1 4 ka2)), (3, .int a3), (4, .int a4), (5, .int a5), (6, .int a6)] [] z) (ka2 : Nat) (a3 : Int32) (a4 : Int32) (a5 : Int32) (a6 : Int32) (hka2 : ka2 < zk_cnt 4) (z : zk_Z), fX8_balance_B87 c22 c34 ka2 a3 a4 a5 a6 z = some (r, z') → zk_G p l e (headSpec wsX8_balance { frames := 4, cells := 0, slots := 0, locals := 88 }).room s m args below meth c E 8 0 0 (MQ below (zk_Qi E r z') args s 0 0 (zk_A E)) 87 [(2, .ref (E.2.1 4 ka2)), (3, .int a3), (4, .int a4), (5, .int a5), (6, .int a6)] [] z := by
    intro c22 hc22 c34 hc34 ka2 a3 a4 a5 a6 hka2 z h
    unfold fX8_balance_B87 at h
    refine zk_iinc X (lv' := [(6, .int (a6 + 1)), (2, .ref (E.2.1 4 ka2)), (3, .int a3), (4, .int a4), (5, .int a5)]) 4 dX8_balance_87 rfl rfl (by decide) rfl ?_
    refine zk_goto X (tgt := 34) dX8_balance_90 (by decide) ?_
    exact zk_sub [1, 2, 3, 4, 0] rfl (hc34 _ _ _ _ _ (hka2) _ h)
  have B56 : ∀ (c22 : Nat → Int32 → Int32 → Int32 → zk_Z → Option (Int32 × zk_Z)) (hc22 : ∀ (ka2 : Nat) (a3 : Int32) (a4 : Int32) (a5 : Int32) (hka2 : ka2 < zk_cnt 4) (z : zk_Z), c22 ka2 a3 a4 a5 z = some (r, z') → zk_G p l e (headSpec wsX8_balance { frames := 4, cells := 0, slots := 0, locals := 88 }).room s m args below meth c E 8 0 0 (MQ below (zk_Qi E r z') args s 0 0 (zk_A E)) 22 [(2, .ref (E.2.1 4 ka2)), (3, .int a3), (4, .int a4), (5, .int a5)] [] z) (c34 : Nat → Int32 → Int32 → Int32 → Int32 → zk_Z → Option (Int32 × zk_Z)) (hc34 : ∀ (ka2 : Nat) (a3 : Int32) (a4 : Int32) (a5 : Int32) (a6 : Int32) (hka2 : ka2 < zk_cnt 4) (z : zk_Z), c34 ka2 a3 a4 a5 a6 z = some (r, z') → zk_G p l e (headSpec wsX8_balance { frames := 4, cells := 0, slots := 0, locals := 88 }).room s m args below meth c E 8 0 0 (MQ below (zk_Qi E r z') args s 0 0 (zk_A E)) 34 [(2, .ref (E.2.1 4 ka2)), (3, .int a3), (4, .int a4), (5, .int a5), (6, .int a6)] [] z) (ka2 : Nat) (a3 : Int32) (a4 : Int32) (a5 : Int32) (a6 : Int32) (a7 : Int32) (hka2 : ka2 < zk_cnt 4) (z : zk_Z), fX8_balance_B56 c22 c34 ka2 a3 a4 a5 a6 a7 z = some (r, z') → zk_G p l e (headSpec wsX8_balance { frames := 4, cells := 0, slots := 0, locals := 88 }).room s m args below meth c E 8 0 0 (MQ below (zk_Qi E r z') args s 0 0 (zk_A E)) 56 [(2, .ref (E.2.1 4 ka2)), (3, .int a3), (4, .int a4), (5, .int a5), (6, .int a6), (7, .int a7)] [] z := by
    intro c22 hc22 c34 hc34 ka2 a3 a4 a5 a6 a7 hka2 z h
    unfold fX8_balance_B56 at h
    refine zk_iload X 5 dX8_balance_56 rfl ?_
    refine zk_iload X 2 dX8_balance_58 rfl ?_
    refine zk_icmp_ge X (tgt := 87) dX8_balance_60 (by decide) h (fun h => ?_) (fun h => ?_)
    · exact zk_sub [0, 1, 2, 3, 4] rfl (B87 _ hc22 _ hc34 _ _ _ _ _ (hka2) _ h)
    · refine zk_aload_n X 0 dX8_balance_63 rfl rfl ?_
      refine zk_iload X 3 dX8_balance_64 rfl ?_
      refine zk_iload X 4 dX8_balance_66 rfl ?_
      refine zk_vi X h (fun rr zz hf => ct_X4_balancesWith l E hi ka2 (hka2) a5 a6 _ rr zz hf) (cwV 2 X.1.2.2.2.2 gX8_balance_X4_balancesWith rfl rfl rfl (by decide +kernel) ⟨Nat.le_of_ble_eq_true rfl, Nat.le_of_ble_eq_true rfl⟩) (zk_recv X (g := 4) (hka2) rfl rfl) rfl rfl (Nat.le_of_ble_eq_true rfl) dX8_balance_68 (fun r5 z4 h => ?_)
      refine zk_if_eq X (tgt := 87) dX8_balance_71 (by decide) h (fun h => ?_) (fun h => ?_)
      · exact zk_sub [0, 1, 2, 3, 4] rfl (B87 _ hc22 _ hc34 _ _ _ _ _ (hka2) _ h)
      · refine zk_bipush X (v := 100) dX8_balance_74 (by decide) ?_
        refine zk_iload X 3 dX8_balance_76 rfl ?_
        refine zk_imul X dX8_balance_78 ?_
        refine zk_iload X 4 dX8_balance_79 rfl ?_
        refine zk_iadd X dX8_balance_81 ?_
        refine zk_istore_n X (lv' := [(3, .int ((100 * a5) + a6)), (2, .ref (E.2.1 4 ka2)), (4, .int a4), (5, .int a5), (6, .int a6), (7, .int a7)]) dX8_balance_82 rfl (by decide) rfl ?_
        refine zk_iload X 5 dX8_balance_83 rfl ?_
        refine zk_istore X (lv' := [(4, .int a7), (3, .int ((100 * a5) + a6)), (2, .ref (E.2.1 4 ka2)), (5, .int a5), (6, .int a6), (7, .int a7)]) dX8_balance_85 (by decide) rfl ?_
        exact zk_sub [2, 1, 0, 3, 4] rfl (B87 _ hc22 _ hc34 _ _ _ _ _ (hka2) _ h)
  have L34 : ∀ (c22 : Nat → Int32 → Int32 → Int32 → zk_Z → Option (Int32 × zk_Z)) (hc22 : ∀ (ka2 : Nat) (a3 : Int32) (a4 : Int32) (a5 : Int32) (hka2 : ka2 < zk_cnt 4) (z : zk_Z), c22 ka2 a3 a4 a5 z = some (r, z') → zk_G p l e (headSpec wsX8_balance { frames := 4, cells := 0, slots := 0, locals := 88 }).room s m args below meth c E 8 0 0 (MQ below (zk_Qi E r z') args s 0 0 (zk_A E)) 22 [(2, .ref (E.2.1 4 ka2)), (3, .int a3), (4, .int a4), (5, .int a5)] [] z) (n : Nat) (ka2 : Nat) (a3 : Int32) (a4 : Int32) (a5 : Int32) (a6 : Int32) (hka2 : ka2 < zk_cnt 4) (z : zk_Z), fX8_balance_L34 c22 n ka2 a3 a4 a5 a6 z = some (r, z') → zk_G p l e (headSpec wsX8_balance { frames := 4, cells := 0, slots := 0, locals := 88 }).room s m args below meth c E 8 0 0 (MQ below (zk_Qi E r z') args s 0 0 (zk_A E)) 34 [(2, .ref (E.2.1 4 ka2)), (3, .int a3), (4, .int a4), (5, .int a5), (6, .int a6)] [] z := by
    intro c22 hc22 n
    induction n with
    | zero => intro ka2 a3 a4 a5 a6 hka2 z h; exact absurd h (by simp [fX8_balance_L34])
    | succ n ih =>
      intro ka2 a3 a4 a5 a6 hka2 z h
      rw [fX8_balance_L34] at h
      refine zk_iload X 4 dX8_balance_34 rfl ?_
      refine zk_bipush X (v := 99) dX8_balance_36 (by decide) ?_
      refine zk_icmp_gt X (tgt := 93) dX8_balance_38 (by decide) h (fun h => ?_) (fun h => ?_)
      · refine zk_iinc X (lv' := [(5, .int (a5 + 1)), (2, .ref (E.2.1 4 ka2)), (3, .int a3), (4, .int a4), (6, .int a6)]) 3 dX8_balance_93 rfl rfl (by decide) rfl ?_
        refine zk_goto X (tgt := 22) dX8_balance_96 (by decide) ?_
        exact zk_sub [1, 2, 3, 0] rfl (hc22 _ _ _ _ (hka2) _ h)
      · refine zk_iload X 4 dX8_balance_41 rfl ?_
        refine zk_aload_n X 0 dX8_balance_43 rfl rfl ?_
        refine zk_get X iX4 (g := 4) (hka2) rfl rfl 4 (by decide) w1 rfl dX8_balance_44 ?_
        refine zk_iload X 3 dX8_balance_47 rfl ?_
        refine zk_iald X (g := 5) (hka2) rfl dX8_balance_49 h (fun h => ?_)
        refine zk_isub X dX8_balance_50 ?_
        refine zk_abs X w2 w3 w4 w5 (Nat.le_of_ble_eq_true rfl) (Nat.le_of_ble_eq_true rfl) dX8_balance_51 ?_
        refine zk_istore X (lv' := [(7, .int (if 0 ≤ (a6 - (z.1 5 ka2 a5.toNatClampNeg)) then a6 - (z.1 5 ka2 a5.toNatClampNeg) else 0 - (a6 - (z.1 5 ka2 a5.toNatClampNeg)))), (2, .ref (E.2.1 4 ka2)), (3, .int a3), (4, .int a4), (5, .int a5), (6, .int a6)]) dX8_balance_54 (by decide) rfl ?_
        exact zk_sub [1, 2, 3, 4, 5, 0] rfl (B56 _ hc22 _ ih _ _ _ _ _ _ (hka2) _ h)
  have L22 : ∀ (n : Nat) (ka2 : Nat) (a3 : Int32) (a4 : Int32) (a5 : Int32) (hka2 : ka2 < zk_cnt 4) (z : zk_Z), fX8_balance_L22 n ka2 a3 a4 a5 z = some (r, z') → zk_G p l e (headSpec wsX8_balance { frames := 4, cells := 0, slots := 0, locals := 88 }).room s m args below meth c E 8 0 0 (MQ below (zk_Qi E r z') args s 0 0 (zk_A E)) 22 [(2, .ref (E.2.1 4 ka2)), (3, .int a3), (4, .int a4), (5, .int a5)] [] z := by
    intro n
    induction n with
    | zero => intro ka2 a3 a4 a5 hka2 z h; exact absurd h (by simp [fX8_balance_L22])
    | succ n ih =>
      intro ka2 a3 a4 a5 hka2 z h
      rw [fX8_balance_L22] at h
      refine zk_iload X 3 dX8_balance_22 rfl ?_
      refine zk_aload_n X 0 dX8_balance_24 rfl rfl ?_
      refine zk_get X iX4 (g := 4) (hka2) rfl rfl 3 (by decide) w0 rfl dX8_balance_25 ?_
      refine zk_icmp_gt X (tgt := 99) dX8_balance_28 (by decide) h (fun h => ?_) (fun h => ?_)
      · refine zk_iload_n X 1 dX8_balance_99 rfl rfl ?_
        exact zk_ireturn X hr dX8_balance_100 h
      · refine zk_iconst X (v := 0) dX8_balance_31 (by decide) ?_
        refine zk_istore X (lv' := [(6, .int 0), (2, .ref (E.2.1 4 ka2)), (3, .int a3), (4, .int a4), (5, .int a5)]) dX8_balance_32 (by decide) rfl ?_
        exact zk_sub [1, 2, 3, 4, 0] rfl (L34 _ ih _ _ _ _ _ _ (hka2) _ h)
  unfold fX8_balance at h
  refine zk_aload_n X 0 dX8_balance_0 rfl rfl ?_
  refine zk_iload_n X 1 dX8_balance_1 rfl rfl ?_
  refine zk_vq X h (fun rr zz hf => ct_X8_recipeAt l E hi  x1 _ rr zz hf) (cwV 1 X.1.2.2.2.2 gX8_balance_X8_recipeAt rfl rfl rfl (by decide +kernel) ⟨Nat.le_of_ble_eq_true rfl, Nat.le_of_ble_eq_true rfl⟩) (zk_recv X (g := 0) (Nat.zero_lt_one) rfl rfl) rfl rfl (Nat.le_of_ble_eq_true rfl) dX8_balance_2 (fun z1 h => ?_) (fun kk3 z1 hkk3 h => ?_)
  · refine zk_astore_nN X (lv' := [(2, .null), (0, .ref (E.2.1 0 0)), (1, .int x1)]) dX8_balance_5 rfl (by decide) rfl ?_
    refine zk_aload_nN X 0 dX8_balance_6 rfl rfl ?_
    refine zk_ifnonnullN X dX8_balance_7 ?_
    refine zk_bipush X (v := -5) dX8_balance_10 (by decide) ?_
    exact zk_ireturn X hr dX8_balance_12 h
  · refine zk_astore_n X (lv' := [(2, .ref (E.2.1 4 kk3)), (0, .ref (E.2.1 0 0)), (1, .int x1)]) dX8_balance_5 rfl (by decide) rfl ?_
    refine zk_aload_n X 0 dX8_balance_6 rfl rfl ?_
    refine zk_ifnonnull X (tgt := 13) dX8_balance_7 (by decide) ?_
    refine zk_iconst X (v := -1) dX8_balance_13 (by decide) ?_
    refine zk_istore_n X (lv' := [(3, .int (-1)), (2, .ref (E.2.1 4 kk3)), (0, .ref (E.2.1 0 0)), (1, .int x1)]) dX8_balance_14 rfl (by decide) rfl ?_
    refine zk_bipush X (v := 100) dX8_balance_15 (by decide) ?_
    refine zk_istore X (lv' := [(4, .int 100), (3, .int (-1)), (2, .ref (E.2.1 4 kk3)), (0, .ref (E.2.1 0 0)), (1, .int x1)]) dX8_balance_17 (by decide) rfl ?_
    refine zk_iconst X (v := 0) dX8_balance_19 (by decide) ?_
    refine zk_istore X (lv' := [(5, .int 0), (4, .int 100), (3, .int (-1)), (2, .ref (E.2.1 4 kk3)), (0, .ref (E.2.1 0 0)), (1, .int x1)]) dX8_balance_20 (by decide) rfl ?_
    exact zk_sub [3, 2, 1, 0] rfl (L22  _ _ _ _ _ (hkk3) _ h)
def fX8_isSheet (x0 : Int32) (z : zk_Z) : Option (Int32 × zk_Z) := if x0 < 0 then some (0, z) else if 4 ≤ x0 then some (0, z) else some (1, z)
set_option maxRecDepth 100000 in
set_option maxHeartbeats 8000000 in
theorem ct_X8_isSheet (l : Launch) (E : zk_E) (hi : zk_inj E) (x0 : Int32) (z : zk_Z) (r : Int32) (z' : zk_Z) (h : fX8_isSheet  x0 z = some (r, z')) : Met l yX8_isSheet wsX8_isSheet { frames := 0, cells := 0, slots := 0, locals := 0 } (va_Pc [.int x0] (zk_W E z)) (zk_Qi E r z') 0 0 (zk_A E) := by
  refine zk_met (cc := cX8_isSheet) (maxL := 1) (ret := (some .boolean)) (own := RX8) (by decide) rfl rfl hi (Nat.le_of_ble_eq_true rfl) ?_
  intro p e s m args below meth c X hr
  unfold fX8_isSheet at h
  refine zk_iload_n X 0 dX8_isSheet_0 rfl rfl ?_
  refine zk_if_lt X (tgt := 13) dX8_isSheet_1 (by decide) h (fun h => ?_) (fun h => ?_)
  · refine zk_iconst X (v := 0) dX8_isSheet_13 (by decide) ?_
    exact zk_zreturn X hr dX8_isSheet_14 rfl h
  · refine zk_iload_n X 0 dX8_isSheet_4 rfl rfl ?_
    refine zk_iconst X (v := 4) dX8_isSheet_5 (by decide) ?_
    refine zk_icmp_ge X (tgt := 13) dX8_isSheet_6 (by decide) h (fun h => ?_) (fun h => ?_)
    · refine zk_iconst X (v := 0) dX8_isSheet_13 (by decide) ?_
      exact zk_zreturn X hr dX8_isSheet_14 rfl h
    · refine zk_iconst X (v := 1) dX8_isSheet_9 (by decide) ?_
      refine zk_goto X (tgt := 14) dX8_isSheet_10 (by decide) ?_
      exact zk_zreturn X hr dX8_isSheet_14 rfl h
def fX8_cell (x1 : Int32) (x2 : Int32) (x3 : Int32) (z : zk_Z) : Option (Int32 × zk_Z) := zk_bd (fX8_isSheet x1 z) (fun r2 z1 => if r2 = 0 then some ((-2), z1) else zk_gd (zk_ix x1 4) (zk_bd (fX5_isMissing x1.toNatClampNeg z1) (fun r5 z4 => if r5 = 0 then if x2 < 0 then some ((-12), z4) else if x2 < (z4.1 13 x1.toNatClampNeg 1) then zk_bd (fX5_cut x1.toNatClampNeg x3 z4) (fun r7 z6 => zk_gd (zk_ix x2 40) (some (1, zk_sI z6 14 x1.toNatClampNeg x2.toNatClampNeg r7))) else some ((-12), z4) else some ((-11), z4))))
set_option maxRecDepth 100000 in
set_option maxHeartbeats 8000000 in
theorem ct_X8_cell (l : Launch) (E : zk_E) (hi : zk_inj E) (x1 : Int32) (x2 : Int32) (x3 : Int32) (z : zk_Z) (r : Int32) (z' : zk_Z) (h : fX8_cell  x1 x2 x3 z = some (r, z')) : Met l yX8_cell wsX8_cell { frames := 1, cells := 0, slots := 0, locals := 21 } (va_Pc [.ref (E.2.1 0 0), .int x1, .int x2, .int x3] (zk_W E z)) (zk_Qi E r z') 0 0 (zk_A E) := by
  refine zk_met (cc := cX8_cell) (maxL := 5) (ret := (some .int)) (own := RX8) (by decide) rfl rfl hi (Nat.le_of_ble_eq_true rfl) ?_
  intro p e s m args below meth c X hr
  have iX5 : ∀ w ∈ u_ws RX5 TX5 3, w ∈ wsX8_cell := by decide +kernel
  have iX8 : ∀ w ∈ u_ws RX8 TX8 15, w ∈ wsX8_cell := by decide +kernel
  have w0 : Cond.fieldLink RX8 67 "HiddenWorks" "sheets" "[LHiddenWorks$Sheet;" ∈ wsX8_cell := by decide +kernel
  have w1 : Cond.fieldLink RX8 148 "HiddenWorks$Sheet" "size" "I" ∈ wsX8_cell := by decide +kernel
  have w2 : Cond.fieldLink RX8 149 "HiddenWorks$Sheet" "cells" "[I" ∈ wsX8_cell := by decide +kernel
  unfold fX8_cell at h
  refine zk_iload_n X 1 dX8_cell_0 rfl rfl ?_
  refine zk_si X h (fun rr zz hf => ct_X8_isSheet l E hi  x1 _ rr zz hf) (va_cwS 1 X.1.2.2.2.2 gX8_cell_X8_isSheet rfl rfl rfl (by decide +kernel) ⟨Nat.le_of_ble_eq_true rfl, Nat.le_of_ble_eq_true rfl⟩) rfl rfl (Nat.le_of_ble_eq_true rfl) dX8_cell_1 (fun r2 z1 h => ?_)
  refine zk_if_ne X (tgt := 10) dX8_cell_4 (by decide) h (fun h => ?_) (fun h => ?_)
  · refine zk_bipush X (v := -2) dX8_cell_7 (by decide) ?_
    exact zk_ireturn X hr dX8_cell_9 h
  · refine zk_aload_n X 0 dX8_cell_10 rfl rfl ?_
    refine zk_get X iX8 (g := 0) (Nat.zero_lt_one) rfl rfl 4 (by decide) w0 rfl dX8_cell_11 ?_
    refine zk_iload_n X 1 dX8_cell_14 rfl rfl ?_
    refine zk_aald X (g := 12) (t := 3) (Nat.zero_lt_one) rfl rfl dX8_cell_15 h (fun hb3 h => ?_)
    refine zk_astore X (lv' := [(4, .ref (E.2.1 13 x1.toNatClampNeg)), (0, .ref (E.2.1 0 0)), (1, .int x1), (2, .int x2), (3, .int x3)]) dX8_cell_16 (by decide) rfl ?_
    refine zk_aload X 0 dX8_cell_18 rfl ?_
    refine zk_vi X h (fun rr zz hf => ct_X5_isMissing l E hi x1.toNatClampNeg (hb3)  _ rr zz hf) (cwV 0 X.1.2.2.2.2 gX8_cell_X5_isMissing rfl rfl rfl (by decide +kernel) ⟨Nat.le_of_ble_eq_true rfl, Nat.le_of_ble_eq_true rfl⟩) (zk_recv X (g := 13) (hb3) rfl rfl) rfl rfl (Nat.le_of_ble_eq_true rfl) dX8_cell_20 (fun r5 z4 h => ?_)
    refine zk_if_eq X (tgt := 29) dX8_cell_23 (by decide) h (fun h => ?_) (fun h => ?_)
    · refine zk_iload_n X 3 dX8_cell_29 rfl rfl ?_
      refine zk_if_lt X (tgt := 42) dX8_cell_30 (by decide) h (fun h => ?_) (fun h => ?_)
      · refine zk_bipush X (v := -12) dX8_cell_42 (by decide) ?_
        exact zk_ireturn X hr dX8_cell_44 h
      · refine zk_iload_n X 3 dX8_cell_33 rfl rfl ?_
        refine zk_aload X 0 dX8_cell_34 rfl ?_
        refine zk_get X iX5 (g := 13) (hb3) rfl rfl 1 (by decide) w1 rfl dX8_cell_36 ?_
        refine zk_icmp_lt X (tgt := 45) dX8_cell_39 (by decide) h (fun h => ?_) (fun h => ?_)
        · refine zk_aload X 0 dX8_cell_45 rfl ?_
          refine zk_get X iX5 (g := 13) (hb3) rfl rfl 2 (by decide) w2 rfl dX8_cell_47 ?_
          refine zk_iload_n X 3 dX8_cell_50 rfl rfl ?_
          refine zk_aload X 0 dX8_cell_51 rfl ?_
          refine zk_iload_n X 4 dX8_cell_53 rfl rfl ?_
          refine zk_vi X h (fun rr zz hf => ct_X5_cut l E hi x1.toNatClampNeg (hb3) x3 _ rr zz hf) (cwV 1 X.1.2.2.2.2 gX8_cell_X5_cut rfl rfl rfl (by decide +kernel) ⟨Nat.le_of_ble_eq_true rfl, Nat.le_of_ble_eq_true rfl⟩) (zk_recv X (g := 13) (hb3) rfl rfl) rfl rfl (Nat.le_of_ble_eq_true rfl) dX8_cell_54 (fun r7 z6 h => ?_)
          refine zk_iast X (g := 14) (hb3) rfl rfl dX8_cell_57 h (fun h => ?_)
          refine zk_iconst X (v := 1) dX8_cell_58 (by decide) ?_
          exact zk_ireturn X hr dX8_cell_59 h
        · refine zk_bipush X (v := -12) dX8_cell_42 (by decide) ?_
          exact zk_ireturn X hr dX8_cell_44 h
    · refine zk_bipush X (v := -11) dX8_cell_26 (by decide) ?_
      exact zk_ireturn X hr dX8_cell_28 h
def fX8_claim (x1 : Int32) (x2 : Int32) (z : zk_Z) : Option (Int32 × zk_Z) := zk_bd (fX8_taskAt x1 z) (fun r2 z1 => zk_oc r2 (some ((-1), z1)) (fun kk3 => if x2 < 1 then some ((-2), z1) else if x2 ≤ 2000 then if (z1.1 0 0 13) < 20 then zk_gd (zk_ix (z1.1 0 0 13) 20) (zk_bd (fX0_begin ((z1.1 0 0 13).toNatClampNeg) x1 x2 z1) (fun _ z5 => some (((zk_sI z5 0 0 13 ((z5.1 0 0 13) + 1)).1 0 0 13) - 1, zk_sI z5 0 0 13 ((z5.1 0 0 13) + 1)))) else some ((-4), z1) else some ((-2), z1)))
set_option maxRecDepth 100000 in
set_option maxHeartbeats 8000000 in
theorem ct_X8_claim (l : Launch) (E : zk_E) (hi : zk_inj E) (x1 : Int32) (x2 : Int32) (z : zk_Z) (r : Int32) (z' : zk_Z) (h : fX8_claim  x1 x2 z = some (r, z')) : Met l yX8_claim wsX8_claim { frames := 1, cells := 0, slots := 0, locals := 22 } (va_Pc [.ref (E.2.1 0 0), .int x1, .int x2] (zk_W E z)) (zk_Qi E r z') 0 0 (zk_A E) := by
  refine zk_met (cc := cX8_claim) (maxL := 3) (ret := (some .int)) (own := RX8) (by decide) rfl rfl hi (Nat.le_of_ble_eq_true rfl) ?_
  intro p e s m args below meth c X hr
  have iX8 : ∀ w ∈ u_ws RX8 TX8 15, w ∈ wsX8_claim := by decide +kernel
  have w0 : Cond.fieldLink RX8 262 "HiddenWorks" "claimCount" "I" ∈ wsX8_claim := by decide +kernel
  have w1 : Cond.fieldLink RX8 60 "HiddenWorks" "claims" "[LHiddenWorks$Claim;" ∈ wsX8_claim := by decide +kernel
  unfold fX8_claim at h
  refine zk_aload_n X 0 dX8_claim_0 rfl rfl ?_
  refine zk_iload_n X 1 dX8_claim_1 rfl rfl ?_
  refine zk_vq X h (fun rr zz hf => ct_X8_taskAt l E hi  x1 _ rr zz hf) (cwV 1 X.1.2.2.2.2 gX8_claim_X8_taskAt rfl rfl rfl (by decide +kernel) ⟨Nat.le_of_ble_eq_true rfl, Nat.le_of_ble_eq_true rfl⟩) (zk_recv X (g := 0) (Nat.zero_lt_one) rfl rfl) rfl rfl (Nat.le_of_ble_eq_true rfl) dX8_claim_2 (fun z1 h => ?_) (fun kk3 z1 hkk3 h => ?_)
  · refine zk_ifnonnullN X dX8_claim_5 ?_
    refine zk_iconst X (v := -1) dX8_claim_8 (by decide) ?_
    exact zk_ireturn X hr dX8_claim_9 h
  · refine zk_ifnonnull X (tgt := 10) dX8_claim_5 (by decide) ?_
    refine zk_iload_n X 2 dX8_claim_10 rfl rfl ?_
    refine zk_iconst X (v := 1) dX8_claim_11 (by decide) ?_
    refine zk_icmp_lt X (tgt := 22) dX8_claim_12 (by decide) h (fun h => ?_) (fun h => ?_)
    · refine zk_bipush X (v := -2) dX8_claim_22 (by decide) ?_
      exact zk_ireturn X hr dX8_claim_24 h
    · refine zk_iload_n X 2 dX8_claim_15 rfl rfl ?_
      refine zk_sipush X (v := 2000) dX8_claim_16 (by decide) ?_
      refine zk_icmp_le X (tgt := 25) dX8_claim_19 (by decide) h (fun h => ?_) (fun h => ?_)
      · refine zk_aload_n X 0 dX8_claim_25 rfl rfl ?_
        refine zk_get X iX8 (g := 0) (Nat.zero_lt_one) rfl rfl 13 (by decide) w0 rfl dX8_claim_26 ?_
        refine zk_bipush X (v := 20) dX8_claim_29 (by decide) ?_
        refine zk_icmp_lt X (tgt := 37) dX8_claim_31 (by decide) h (fun h => ?_) (fun h => ?_)
        · refine zk_aload_n X 0 dX8_claim_37 rfl rfl ?_
          refine zk_get X iX8 (g := 0) (Nat.zero_lt_one) rfl rfl 3 (by decide) w1 rfl dX8_claim_38 ?_
          refine zk_aload_n X 0 dX8_claim_41 rfl rfl ?_
          refine zk_get X iX8 (g := 0) (Nat.zero_lt_one) rfl rfl 13 (by decide) w0 rfl dX8_claim_42 ?_
          refine zk_aald X (g := 10) (t := 1) (Nat.zero_lt_one) rfl rfl dX8_claim_45 h (fun hb4 h => ?_)
          refine zk_iload_n X 1 dX8_claim_46 rfl rfl ?_
          refine zk_iload_n X 2 dX8_claim_47 rfl rfl ?_
          refine zk_vv X h (fun rr zz hf => ct_X0_begin l E hi ((z1.1 0 0 13).toNatClampNeg) (hb4) x1 x2 _ rr zz hf) (cwV 2 X.1.2.2.2.2 gX8_claim_X0_begin rfl rfl rfl (by decide +kernel) ⟨Nat.le_of_ble_eq_true rfl, Nat.le_of_ble_eq_true rfl⟩) (zk_recv X (g := 11) (hb4) rfl rfl) rfl rfl (Nat.le_of_ble_eq_true rfl) dX8_claim_48 (fun z5 h => ?_)
          refine zk_aload_n X 0 dX8_claim_51 rfl rfl ?_
          refine zk_dup X dX8_claim_52 rfl ?_
          refine zk_get X iX8 (g := 0) (Nat.zero_lt_one) rfl rfl 13 (by decide) w0 rfl dX8_claim_53 ?_
          refine zk_iconst X (v := 1) dX8_claim_56 (by decide) ?_
          refine zk_iadd X dX8_claim_57 ?_
          refine zk_putI X (ty := .int) iX8 tyX8 tyX8_ok nmX8 (g := 0) (Nat.zero_lt_one) rfl rfl 13 (by decide) w0 rfl (by decide +kernel) rfl rfl (Nat.le_of_ble_eq_true rfl) rfl dX8_claim_58 ?_
          refine zk_aload_n X 0 dX8_claim_61 rfl rfl ?_
          refine zk_get X iX8 (g := 0) (Nat.zero_lt_one) rfl rfl 13 (by decide) w0 rfl dX8_claim_62 ?_
          refine zk_iconst X (v := 1) dX8_claim_65 (by decide) ?_
          refine zk_isub X dX8_claim_66 ?_
          exact zk_ireturn X hr dX8_claim_67 h
        · refine zk_bipush X (v := -4) dX8_claim_34 (by decide) ?_
          exact zk_ireturn X hr dX8_claim_36 h
      · refine zk_bipush X (v := -2) dX8_claim_22 (by decide) ?_
        exact zk_ireturn X hr dX8_claim_24 h
def fX8_claimAt (x1 : Int32) (z : zk_Z) : Option (Option Nat × zk_Z) := if x1 < 0 then some (none, z) else if (z.1 0 0 13) ≤ x1 then some (none, z) else zk_gd (zk_ix x1 20) (some (some x1.toNatClampNeg, z))
set_option maxRecDepth 100000 in
set_option maxHeartbeats 8000000 in
theorem ct_X8_claimAt (l : Launch) (E : zk_E) (hi : zk_inj E) (x1 : Int32) (z : zk_Z) (r : Option Nat) (z' : zk_Z) (h : fX8_claimAt  x1 z = some (r, z')) : Met l yX8_claimAt wsX8_claimAt { frames := 0, cells := 0, slots := 0, locals := 0 } (va_Pc [.ref (E.2.1 0 0), .int x1] (zk_W E z)) (zk_Qq E 11 r z') 0 0 (zk_A E) := by
  refine zk_met (cc := cX8_claimAt) (maxL := 2) (ret := (some (.object "HiddenWorks$Claim"))) (own := RX8) (by decide) rfl rfl hi (Nat.le_of_ble_eq_true rfl) ?_
  intro p e s m args below meth c X hr
  have iX8 : ∀ w ∈ u_ws RX8 TX8 15, w ∈ wsX8_claimAt := by decide +kernel
  have w0 : Cond.fieldLink RX8 262 "HiddenWorks" "claimCount" "I" ∈ wsX8_claimAt := by decide +kernel
  have w1 : Cond.fieldLink RX8 60 "HiddenWorks" "claims" "[LHiddenWorks$Claim;" ∈ wsX8_claimAt := by decide +kernel
  unfold fX8_claimAt at h
  refine zk_iload_n X 1 dX8_claimAt_0 rfl rfl ?_
  refine zk_if_lt X (tgt := 21) dX8_claimAt_1 (by decide) h (fun h => ?_) (fun h => ?_)
  · refine zk_null X dX8_claimAt_21 ?_
    exact zk_areturn X hr (r' := none) rfl (fun _ q => by cases q) dX8_claimAt_22 h
  · refine zk_iload_n X 1 dX8_claimAt_4 rfl rfl ?_
    refine zk_aload_n X 0 dX8_claimAt_5 rfl rfl ?_
    refine zk_get X iX8 (g := 0) (Nat.zero_lt_one) rfl rfl 13 (by decide) w0 rfl dX8_claimAt_6 ?_
    refine zk_icmp_ge X (tgt := 21) dX8_claimAt_9 (by decide) h (fun h => ?_) (fun h => ?_)
    · refine zk_null X dX8_claimAt_21 ?_
      exact zk_areturn X hr (r' := none) rfl (fun _ q => by cases q) dX8_claimAt_22 h
    · refine zk_aload_n X 0 dX8_claimAt_12 rfl rfl ?_
      refine zk_get X iX8 (g := 0) (Nat.zero_lt_one) rfl rfl 3 (by decide) w1 rfl dX8_claimAt_13 ?_
      refine zk_iload_n X 1 dX8_claimAt_16 rfl rfl ?_
      refine zk_aald X (g := 10) (t := 1) (Nat.zero_lt_one) rfl rfl dX8_claimAt_17 h (fun hb1 h => ?_)
      refine zk_goto X (tgt := 22) dX8_claimAt_18 (by decide) ?_
      exact zk_areturn X hr (r' := some x1.toNatClampNeg) rfl (fun _ q => by cases q; exact hb1) dX8_claimAt_22 h
def fX8_claimTold (x1 : Int32) (x2 : Int32) (z : zk_Z) : Option (Int32 × zk_Z) := zk_bd (fX8_claimAt x1 z) (fun r2 z1 => zk_oc r2 (some ((-5), z1)) (fun kk3 => if x2 = 0 then some (z1.1 11 kk3 0, z1) else if x2 = 1 then some (z1.1 11 kk3 1, z1) else if x2 = 2 then some (z1.1 11 kk3 2, z1) else if x2 = 3 then some (z1.1 11 kk3 3, z1) else some ((-7), z1)))
set_option maxRecDepth 100000 in
set_option maxHeartbeats 8000000 in
theorem ct_X8_claimTold (l : Launch) (E : zk_E) (hi : zk_inj E) (x1 : Int32) (x2 : Int32) (z : zk_Z) (r : Int32) (z' : zk_Z) (h : fX8_claimTold  x1 x2 z = some (r, z')) : Met l yX8_claimTold wsX8_claimTold { frames := 1, cells := 0, slots := 0, locals := 21 } (va_Pc [.ref (E.2.1 0 0), .int x1, .int x2] (zk_W E z)) (zk_Qi E r z') 0 0 (zk_A E) := by
  refine zk_met (cc := cX8_claimTold) (maxL := 4) (ret := (some .int)) (own := RX8) (by decide) rfl rfl hi (Nat.le_of_ble_eq_true rfl) ?_
  intro p e s m args below meth c X hr
  have iX0 : ∀ w ∈ u_ws RX0 TX0 4, w ∈ wsX8_claimTold := by decide +kernel
  have w0 : Cond.fieldLink RX8 273 "HiddenWorks$Claim" "task" "I" ∈ wsX8_claimTold := by decide +kernel
  have w1 : Cond.fieldLink RX8 276 "HiddenWorks$Claim" "steps" "I" ∈ wsX8_claimTold := by decide +kernel
  have w2 : Cond.fieldLink RX8 270 "HiddenWorks$Claim" "state" "I" ∈ wsX8_claimTold := by decide +kernel
  have w3 : Cond.fieldLink RX8 280 "HiddenWorks$Claim" "finder" "I" ∈ wsX8_claimTold := by decide +kernel
  unfold fX8_claimTold at h
  refine zk_aload_n X 0 dX8_claimTold_0 rfl rfl ?_
  refine zk_iload_n X 1 dX8_claimTold_1 rfl rfl ?_
  refine zk_vq X h (fun rr zz hf => ct_X8_claimAt l E hi  x1 _ rr zz hf) (cwV 1 X.1.2.2.2.2 gX8_claimTold_X8_claimAt rfl rfl rfl (by decide +kernel) ⟨Nat.le_of_ble_eq_true rfl, Nat.le_of_ble_eq_true rfl⟩) (zk_recv X (g := 0) (Nat.zero_lt_one) rfl rfl) rfl rfl (Nat.le_of_ble_eq_true rfl) dX8_claimTold_2 (fun z1 h => ?_) (fun kk3 z1 hkk3 h => ?_)
  · refine zk_astore_nN X (lv' := [(3, .null), (0, .ref (E.2.1 0 0)), (1, .int x1), (2, .int x2)]) dX8_claimTold_5 rfl (by decide) rfl ?_
    refine zk_aload_nN X 0 dX8_claimTold_6 rfl rfl ?_
    refine zk_ifnonnullN X dX8_claimTold_7 ?_
    refine zk_bipush X (v := -5) dX8_claimTold_10 (by decide) ?_
    exact zk_ireturn X hr dX8_claimTold_12 h
  · refine zk_astore_n X (lv' := [(3, .ref (E.2.1 11 kk3)), (0, .ref (E.2.1 0 0)), (1, .int x1), (2, .int x2)]) dX8_claimTold_5 rfl (by decide) rfl ?_
    refine zk_aload_n X 0 dX8_claimTold_6 rfl rfl ?_
    refine zk_ifnonnull X (tgt := 13) dX8_claimTold_7 (by decide) ?_
    refine zk_iload_n X 3 dX8_claimTold_13 rfl rfl ?_
    rcases zk_if h with ⟨q4, h⟩ | ⟨q4, h⟩
    · refine zk_tsw_in X (v := 0) dX8_claimTold_14 q4 (by decide) (by decide) (off := 30) rfl (tgt := 44) (by decide) ?_
      refine zk_aload_n X 0 dX8_claimTold_44 rfl rfl ?_
      refine zk_get X iX0 (g := 11) (hkk3) rfl rfl 0 (by decide) w0 rfl dX8_claimTold_45 ?_
      exact zk_ireturn X hr dX8_claimTold_48 h
    · rcases zk_if h with ⟨q5, h⟩ | ⟨q5, h⟩
      · refine zk_tsw_in X (v := 1) dX8_claimTold_14 q5 (by decide) (by decide) (off := 35) rfl (tgt := 49) (by decide) ?_
        refine zk_aload_n X 0 dX8_claimTold_49 rfl rfl ?_
        refine zk_get X iX0 (g := 11) (hkk3) rfl rfl 1 (by decide) w1 rfl dX8_claimTold_50 ?_
        exact zk_ireturn X hr dX8_claimTold_53 h
      · rcases zk_if h with ⟨q6, h⟩ | ⟨q6, h⟩
        · refine zk_tsw_in X (v := 2) dX8_claimTold_14 q6 (by decide) (by decide) (off := 40) rfl (tgt := 54) (by decide) ?_
          refine zk_aload_n X 0 dX8_claimTold_54 rfl rfl ?_
          refine zk_get X iX0 (g := 11) (hkk3) rfl rfl 2 (by decide) w2 rfl dX8_claimTold_55 ?_
          exact zk_ireturn X hr dX8_claimTold_58 h
        · rcases zk_if h with ⟨q7, h⟩ | ⟨q7, h⟩
          · refine zk_tsw_in X (v := 3) dX8_claimTold_14 q7 (by decide) (by decide) (off := 45) rfl (tgt := 59) (by decide) ?_
            refine zk_aload_n X 0 dX8_claimTold_59 rfl rfl ?_
            refine zk_get X iX0 (g := 11) (hkk3) rfl rfl 3 (by decide) w3 rfl dX8_claimTold_60 ?_
            exact zk_ireturn X hr dX8_claimTold_63 h
          · refine zk_tsw_out X dX8_claimTold_14 (by have := lv_neT (a := 0) q4 (by decide); have := lv_neT (a := 1) q5 (by decide); have := lv_neT (a := 2) q6 (by decide); have := lv_neT (a := 3) q7 (by decide); omega) (tgt := 64) (by decide) ?_
            refine zk_bipush X (v := -7) dX8_claimTold_64 (by decide) ?_
            exact zk_ireturn X hr dX8_claimTold_66 h
def fX8_claims_B125 (c68 : Int32 → Int32 → Nat → Int32 → Int32 → zk_Z → Option (Int32 × zk_Z)) (a3 : Int32) (a4 : Int32) (ka5 : Nat) (a6 : Int32) (a7 : Int32) (z : zk_Z) : Option (Int32 × zk_Z) := c68 a3 a4 ka5 a6 (a7 + 1) z
def fX8_claims_L68 : Nat → Int32 → Int32 → Nat → Int32 → Int32 → zk_Z → Option (Int32 × zk_Z)
  | 0, _, _, _, _, _, _ => none
  | n + 1, a3, a4, ka5, a6, a7, z => if a4 ≤ a7 then some (a6, z) else zk_bd (fX5_hasRange ka5 (a3 + (2 * a7)) 2 z) (fun r7 z6 => if r7 = 0 then some ((-12), z6) else zk_gd (zk_ix (a3 + (2 * a7)) 40) (zk_gd (zk_ix ((a3 + (2 * a7)) + 1) 40) (zk_bd (fX8_claim (z6.1 14 ka5 (a3 + (2 * a7)).toNatClampNeg) (z6.1 14 ka5 ((a3 + (2 * a7)) + 1).toNatClampNeg) z6) (fun r9 z8 => if r9 < 0 then fX8_claims_B125 (fX8_claims_L68 n) a3 a4 ka5 a6 a7 z8 else fX8_claims_B125 (fX8_claims_L68 n) a3 a4 ka5 (a6 + 1) a7 z8))))
def fX8_claims (x1 : Int32) (x2 : Int32) (x3 : Int32) (x4 : Int32) (z : zk_Z) : Option (Int32 × zk_Z) := zk_bd (fX8_isSheet x1 z) (fun r2 z1 => if r2 = 0 then some ((-2), z1) else if x2 < 0 then some ((-2), z1) else if 3 ≤ x2 then some ((-2), z1) else if x4 < 0 then some ((-2), z1) else if x4 ≤ 20 then zk_gd (zk_ix x1 4) (zk_bd (fX5_isMissing x1.toNatClampNeg z1) (fun r5 z4 => if r5 = 0 then if (z4.1 13 x1.toNatClampNeg 0) = x2 then fX8_claims_L68 zk_FU x3 x4 x1.toNatClampNeg 0 0 z4 else some ((-13), z4) else some ((-11), z4))) else some ((-2), z1))
set_option maxRecDepth 100000 in
set_option maxHeartbeats 8000000 in
theorem ct_X8_claims (l : Launch) (E : zk_E) (hi : zk_inj E) (x1 : Int32) (x2 : Int32) (x3 : Int32) (x4 : Int32) (z : zk_Z) (r : Int32) (z' : zk_Z) (h : fX8_claims  x1 x2 x3 x4 z = some (r, z')) : Met l yX8_claims wsX8_claims { frames := 2, cells := 0, slots := 0, locals := 44 } (va_Pc [.ref (E.2.1 0 0), .int x1, .int x2, .int x3, .int x4] (zk_W E z)) (zk_Qi E r z') 0 0 (zk_A E) := by
  refine zk_met (cc := cX8_claims) (maxL := 9) (ret := (some .int)) (own := RX8) (by decide) rfl rfl hi (Nat.le_of_ble_eq_true rfl) ?_
  intro p e s m args below meth c X hr
  have iX5 : ∀ w ∈ u_ws RX5 TX5 3, w ∈ wsX8_claims := by decide +kernel
  have iX8 : ∀ w ∈ u_ws RX8 TX8 15, w ∈ wsX8_claims := by decide +kernel
  have w0 : Cond.fieldLink RX8 67 "HiddenWorks" "sheets" "[LHiddenWorks$Sheet;" ∈ wsX8_claims := by decide +kernel
  have w1 : Cond.fieldLink RX8 301 "HiddenWorks$Sheet" "sort" "I" ∈ wsX8_claims := by decide +kernel
  have w2 : Cond.fieldLink RX8 149 "HiddenWorks$Sheet" "cells" "[I" ∈ wsX8_claims := by decide +kernel
  have B125 : ∀ (c68 : Int32 → Int32 → Nat → Int32 → Int32 → zk_Z → Option (Int32 × zk_Z)) (hc68 : ∀ (a3 : Int32) (a4 : Int32) (ka5 : Nat) (a6 : Int32) (a7 : Int32) (hka5 : ka5 < zk_cnt 13) (z : zk_Z), c68 a3 a4 ka5 a6 a7 z = some (r, z') → zk_G p l e (headSpec wsX8_claims { frames := 2, cells := 0, slots := 0, locals := 44 }).room s m args below meth c E 9 0 0 (MQ below (zk_Qi E r z') args s 0 0 (zk_A E)) 68 [(0, .ref (E.2.1 0 0)), (3, .int a3), (4, .int a4), (5, .ref (E.2.1 13 ka5)), (6, .int a6), (7, .int a7)] [] z) (a3 : Int32) (a4 : Int32) (ka5 : Nat) (a6 : Int32) (a7 : Int32) (hka5 : ka5 < zk_cnt 13) (z : zk_Z), fX8_claims_B125 c68 a3 a4 ka5 a6 a7 z = some (r, z') → zk_G p l e (headSpec wsX8_claims { frames := 2, cells := 0, slots := 0, locals := 44 }).room s m args below meth c E 9 0 0 (MQ below (zk_Qi E r z') args s 0 0 (zk_A E)) 125 [(0, .ref (E.2.1 0 0)), (3, .int a3), (4, .int a4), (5, .ref (E.2.1 13 ka5)), (6, .int a6), (7, .int a7)] [] z := by
    intro c68 hc68 a3 a4 ka5 a6 a7 hka5 z h
    unfold fX8_claims_B125 at h
    refine zk_iinc X (lv' := [(7, .int (a7 + 1)), (0, .ref (E.2.1 0 0)), (3, .int a3), (4, .int a4), (5, .ref (E.2.1 13 ka5)), (6, .int a6)]) 5 dX8_claims_125 rfl rfl (by decide) rfl ?_
    refine zk_goto X (tgt := 68) dX8_claims_128 (by decide) ?_
    exact zk_sub [1, 2, 3, 4, 5, 0] rfl (hc68 _ _ _ _ _ (hka5) _ h)
  have L68 : ∀ (n : Nat) (a3 : Int32) (a4 : Int32) (ka5 : Nat) (a6 : Int32) (a7 : Int32) (hka5 : ka5 < zk_cnt 13) (z : zk_Z), fX8_claims_L68 n a3 a4 ka5 a6 a7 z = some (r, z') → zk_G p l e (headSpec wsX8_claims { frames := 2, cells := 0, slots := 0, locals := 44 }).room s m args below meth c E 9 0 0 (MQ below (zk_Qi E r z') args s 0 0 (zk_A E)) 68 [(0, .ref (E.2.1 0 0)), (3, .int a3), (4, .int a4), (5, .ref (E.2.1 13 ka5)), (6, .int a6), (7, .int a7)] [] z := by
    intro n
    induction n with
    | zero => intro a3 a4 ka5 a6 a7 hka5 z h; exact absurd h (by simp [fX8_claims_L68])
    | succ n ih =>
      intro a3 a4 ka5 a6 a7 hka5 z h
      rw [fX8_claims_L68] at h
      refine zk_iload X 5 dX8_claims_68 rfl ?_
      refine zk_iload X 2 dX8_claims_70 rfl ?_
      refine zk_icmp_ge X (tgt := 131) dX8_claims_72 (by decide) h (fun h => ?_) (fun h => ?_)
      · refine zk_iload X 4 dX8_claims_131 rfl ?_
        exact zk_ireturn X hr dX8_claims_133 h
      · refine zk_iload_n X 1 dX8_claims_75 rfl rfl ?_
        refine zk_iconst X (v := 2) dX8_claims_76 (by decide) ?_
        refine zk_iload X 5 dX8_claims_77 rfl ?_
        refine zk_imul X dX8_claims_79 ?_
        refine zk_iadd X dX8_claims_80 ?_
        refine zk_istore X (lv' := [(8, .int (a3 + (2 * a7))), (0, .ref (E.2.1 0 0)), (3, .int a3), (4, .int a4), (5, .ref (E.2.1 13 ka5)), (6, .int a6), (7, .int a7)]) dX8_claims_81 (by decide) rfl ?_
        refine zk_aload X 4 dX8_claims_83 rfl ?_
        refine zk_iload X 0 dX8_claims_85 rfl ?_
        refine zk_iconst X (v := 2) dX8_claims_87 (by decide) ?_
        refine zk_vi X h (fun rr zz hf => ct_X5_hasRange l E hi ka5 (hka5) (a3 + (2 * a7)) 2 _ rr zz hf) (cwV 2 X.1.2.2.2.2 gX8_claims_X5_hasRange rfl rfl rfl (by decide +kernel) ⟨Nat.le_of_ble_eq_true rfl, Nat.le_of_ble_eq_true rfl⟩) (zk_recv X (g := 13) (hka5) rfl rfl) rfl rfl (Nat.le_of_ble_eq_true rfl) dX8_claims_88 (fun r7 z6 h => ?_)
        refine zk_if_ne X (tgt := 97) dX8_claims_91 (by decide) h (fun h => ?_) (fun h => ?_)
        · refine zk_bipush X (v := -12) dX8_claims_94 (by decide) ?_
          exact zk_ireturn X hr dX8_claims_96 h
        · refine zk_aload_n X 1 dX8_claims_97 rfl rfl ?_
          refine zk_aload X 4 dX8_claims_98 rfl ?_
          refine zk_get X iX5 (g := 13) (hka5) rfl rfl 2 (by decide) w2 rfl dX8_claims_100 ?_
          refine zk_iload X 0 dX8_claims_103 rfl ?_
          refine zk_iald X (g := 14) (hka5) rfl dX8_claims_105 h (fun h => ?_)
          refine zk_aload X 4 dX8_claims_106 rfl ?_
          refine zk_get X iX5 (g := 13) (hka5) rfl rfl 2 (by decide) w2 rfl dX8_claims_108 ?_
          refine zk_iload X 0 dX8_claims_111 rfl ?_
          refine zk_iconst X (v := 1) dX8_claims_113 (by decide) ?_
          refine zk_iadd X dX8_claims_114 ?_
          refine zk_iald X (g := 14) (hka5) rfl dX8_claims_115 h (fun h => ?_)
          refine zk_vi X h (fun rr zz hf => ct_X8_claim l E hi (z6.1 14 ka5 (a3 + (2 * a7)).toNatClampNeg) (z6.1 14 ka5 ((a3 + (2 * a7)) + 1).toNatClampNeg) _ rr zz hf) (cwV 2 X.1.2.2.2.2 gX8_claims_X8_claim rfl rfl rfl (by decide +kernel) ⟨Nat.le_of_ble_eq_true rfl, Nat.le_of_ble_eq_true rfl⟩) (zk_recv X (g := 0) (Nat.zero_lt_one) rfl rfl) rfl rfl (Nat.le_of_ble_eq_true rfl) dX8_claims_116 (fun r9 z8 h => ?_)
          refine zk_if_lt X (tgt := 125) dX8_claims_119 (by decide) h (fun h => ?_) (fun h => ?_)
          · exact zk_sub [1, 2, 3, 4, 5, 6] rfl (B125 _ ih _ _ _ _ _ (hka5) _ h)
          · refine zk_iinc X (lv' := [(6, .int (a6 + 1)), (8, .int (a3 + (2 * a7))), (0, .ref (E.2.1 0 0)), (3, .int a3), (4, .int a4), (5, .ref (E.2.1 13 ka5)), (7, .int a7)]) 5 dX8_claims_122 rfl rfl (by decide) rfl ?_
            exact zk_sub [2, 3, 4, 5, 0, 6] rfl (B125 _ ih _ _ _ _ _ (hka5) _ h)
  unfold fX8_claims at h
  refine zk_iload_n X 1 dX8_claims_0 rfl rfl ?_
  refine zk_si X h (fun rr zz hf => ct_X8_isSheet l E hi  x1 _ rr zz hf) (va_cwS 1 X.1.2.2.2.2 gX8_claims_X8_isSheet rfl rfl rfl (by decide +kernel) ⟨Nat.le_of_ble_eq_true rfl, Nat.le_of_ble_eq_true rfl⟩) rfl rfl (Nat.le_of_ble_eq_true rfl) dX8_claims_1 (fun r2 z1 h => ?_)
  refine zk_if_eq X (tgt := 28) dX8_claims_4 (by decide) h (fun h => ?_) (fun h => ?_)
  · refine zk_bipush X (v := -2) dX8_claims_28 (by decide) ?_
    exact zk_ireturn X hr dX8_claims_30 h
  · refine zk_iload_n X 2 dX8_claims_7 rfl rfl ?_
    refine zk_if_lt X (tgt := 28) dX8_claims_8 (by decide) h (fun h => ?_) (fun h => ?_)
    · refine zk_bipush X (v := -2) dX8_claims_28 (by decide) ?_
      exact zk_ireturn X hr dX8_claims_30 h
    · refine zk_iload_n X 2 dX8_claims_11 rfl rfl ?_
      refine zk_iconst X (v := 3) dX8_claims_12 (by decide) ?_
      refine zk_icmp_ge X (tgt := 28) dX8_claims_13 (by decide) h (fun h => ?_) (fun h => ?_)
      · refine zk_bipush X (v := -2) dX8_claims_28 (by decide) ?_
        exact zk_ireturn X hr dX8_claims_30 h
      · refine zk_iload X 4 dX8_claims_16 rfl ?_
        refine zk_if_lt X (tgt := 28) dX8_claims_18 (by decide) h (fun h => ?_) (fun h => ?_)
        · refine zk_bipush X (v := -2) dX8_claims_28 (by decide) ?_
          exact zk_ireturn X hr dX8_claims_30 h
        · refine zk_iload X 4 dX8_claims_21 rfl ?_
          refine zk_bipush X (v := 20) dX8_claims_23 (by decide) ?_
          refine zk_icmp_le X (tgt := 31) dX8_claims_25 (by decide) h (fun h => ?_) (fun h => ?_)
          · refine zk_aload_n X 0 dX8_claims_31 rfl rfl ?_
            refine zk_get X iX8 (g := 0) (Nat.zero_lt_one) rfl rfl 4 (by decide) w0 rfl dX8_claims_32 ?_
            refine zk_iload_n X 1 dX8_claims_35 rfl rfl ?_
            refine zk_aald X (g := 12) (t := 3) (Nat.zero_lt_one) rfl rfl dX8_claims_36 h (fun hb3 h => ?_)
            refine zk_astore X (lv' := [(5, .ref (E.2.1 13 x1.toNatClampNeg)), (0, .ref (E.2.1 0 0)), (1, .int x1), (2, .int x2), (3, .int x3), (4, .int x4)]) dX8_claims_37 (by decide) rfl ?_
            refine zk_aload X 0 dX8_claims_39 rfl ?_
            refine zk_vi X h (fun rr zz hf => ct_X5_isMissing l E hi x1.toNatClampNeg (hb3)  _ rr zz hf) (cwV 0 X.1.2.2.2.2 gX8_claims_X5_isMissing rfl rfl rfl (by decide +kernel) ⟨Nat.le_of_ble_eq_true rfl, Nat.le_of_ble_eq_true rfl⟩) (zk_recv X (g := 13) (hb3) rfl rfl) rfl rfl (Nat.le_of_ble_eq_true rfl) dX8_claims_41 (fun r5 z4 h => ?_)
            refine zk_if_eq X (tgt := 50) dX8_claims_44 (by decide) h (fun h => ?_) (fun h => ?_)
            · refine zk_aload X 0 dX8_claims_50 rfl ?_
              refine zk_get X iX5 (g := 13) (hb3) rfl rfl 0 (by decide) w1 rfl dX8_claims_52 ?_
              refine zk_iload_n X 3 dX8_claims_55 rfl rfl ?_
              refine zk_icmp_eq X (tgt := 62) dX8_claims_56 (by decide) h (fun h => ?_) (fun h => ?_)
              · refine zk_iconst X (v := 0) dX8_claims_62 (by decide) ?_
                refine zk_istore X (lv' := [(6, .int 0), (5, .ref (E.2.1 13 x1.toNatClampNeg)), (0, .ref (E.2.1 0 0)), (1, .int x1), (2, .int x2), (3, .int x3), (4, .int x4)]) dX8_claims_63 (by decide) rfl ?_
                refine zk_iconst X (v := 0) dX8_claims_65 (by decide) ?_
                refine zk_istore X (lv' := [(7, .int 0), (6, .int 0), (5, .ref (E.2.1 13 x1.toNatClampNeg)), (0, .ref (E.2.1 0 0)), (1, .int x1), (2, .int x2), (3, .int x3), (4, .int x4)]) dX8_claims_66 (by decide) rfl ?_
                exact zk_sub [3, 6, 7, 2, 1, 0] rfl (L68  _ _ _ _ _ _ (hb3) _ h)
              · refine zk_bipush X (v := -13) dX8_claims_59 (by decide) ?_
                exact zk_ireturn X hr dX8_claims_61 h
            · refine zk_bipush X (v := -11) dX8_claims_47 (by decide) ?_
              exact zk_ireturn X hr dX8_claims_49 h
          · refine zk_bipush X (v := -2) dX8_claims_28 (by decide) ?_
            exact zk_ireturn X hr dX8_claims_30 h
def fX8_clauseTold (x1 : Int32) (x2 : Int32) (x3 : Int32) (z : zk_Z) : Option (Int32 × zk_Z) := zk_bd (fX8_taskAt x1 z) (fun r2 z1 => zk_oc r2 (some ((-5), z1)) (fun kk3 => if x2 < 0 then some ((-5), z1) else if x2 < (z1.1 7 kk3 2) then if x3 = 0 then zk_gd (zk_ix x2 24) (some (z1.1 8 kk3 x2.toNatClampNeg, z1)) else if x3 = 1 then zk_gd (zk_ix x2 24) (some (z1.1 9 kk3 x2.toNatClampNeg, z1)) else some ((-7), z1) else some ((-5), z1)))
set_option maxRecDepth 100000 in
set_option maxHeartbeats 8000000 in
theorem ct_X8_clauseTold (l : Launch) (E : zk_E) (hi : zk_inj E) (x1 : Int32) (x2 : Int32) (x3 : Int32) (z : zk_Z) (r : Int32) (z' : zk_Z) (h : fX8_clauseTold  x1 x2 x3 z = some (r, z')) : Met l yX8_clauseTold wsX8_clauseTold { frames := 1, cells := 0, slots := 0, locals := 21 } (va_Pc [.ref (E.2.1 0 0), .int x1, .int x2, .int x3] (zk_W E z)) (zk_Qi E r z') 0 0 (zk_A E) := by
  refine zk_met (cc := cX8_clauseTold) (maxL := 5) (ret := (some .int)) (own := RX8) (by decide) rfl rfl hi (Nat.le_of_ble_eq_true rfl) ?_
  intro p e s m args below meth c X hr
  have iX7 : ∀ w ∈ u_ws RX7 TX7 8, w ∈ wsX8_clauseTold := by decide +kernel
  have w0 : Cond.fieldLink RX8 171 "HiddenWorks$Task" "clauses" "I" ∈ wsX8_clauseTold := by decide +kernel
  have w1 : Cond.fieldLink RX8 175 "HiddenWorks$Task" "plain" "[I" ∈ wsX8_clauseTold := by decide +kernel
  have w2 : Cond.fieldLink RX8 178 "HiddenWorks$Task" "against" "[I" ∈ wsX8_clauseTold := by decide +kernel
  unfold fX8_clauseTold at h
  refine zk_aload_n X 0 dX8_clauseTold_0 rfl rfl ?_
  refine zk_iload_n X 1 dX8_clauseTold_1 rfl rfl ?_
  refine zk_vq X h (fun rr zz hf => ct_X8_taskAt l E hi  x1 _ rr zz hf) (cwV 1 X.1.2.2.2.2 gX8_clauseTold_X8_taskAt rfl rfl rfl (by decide +kernel) ⟨Nat.le_of_ble_eq_true rfl, Nat.le_of_ble_eq_true rfl⟩) (zk_recv X (g := 0) (Nat.zero_lt_one) rfl rfl) rfl rfl (Nat.le_of_ble_eq_true rfl) dX8_clauseTold_2 (fun z1 h => ?_) (fun kk3 z1 hkk3 h => ?_)
  · refine zk_astoreN X (lv' := [(4, .null), (0, .ref (E.2.1 0 0)), (1, .int x1), (2, .int x2), (3, .int x3)]) dX8_clauseTold_5 (by decide) rfl ?_
    refine zk_aloadN X 0 dX8_clauseTold_7 rfl ?_
    refine zk_ifnullN X (tgt := 25) dX8_clauseTold_9 (by decide) ?_
    refine zk_bipush X (v := -5) dX8_clauseTold_25 (by decide) ?_
    exact zk_ireturn X hr dX8_clauseTold_27 h
  · refine zk_astore X (lv' := [(4, .ref (E.2.1 7 kk3)), (0, .ref (E.2.1 0 0)), (1, .int x1), (2, .int x2), (3, .int x3)]) dX8_clauseTold_5 (by decide) rfl ?_
    refine zk_aload X 0 dX8_clauseTold_7 rfl ?_
    refine zk_ifnull X dX8_clauseTold_9 ?_
    refine zk_iload_n X 3 dX8_clauseTold_12 rfl rfl ?_
    refine zk_if_lt X (tgt := 25) dX8_clauseTold_13 (by decide) h (fun h => ?_) (fun h => ?_)
    · refine zk_bipush X (v := -5) dX8_clauseTold_25 (by decide) ?_
      exact zk_ireturn X hr dX8_clauseTold_27 h
    · refine zk_iload_n X 3 dX8_clauseTold_16 rfl rfl ?_
      refine zk_aload X 0 dX8_clauseTold_17 rfl ?_
      refine zk_get X iX7 (g := 7) (hkk3) rfl rfl 2 (by decide) w0 rfl dX8_clauseTold_19 ?_
      refine zk_icmp_lt X (tgt := 28) dX8_clauseTold_22 (by decide) h (fun h => ?_) (fun h => ?_)
      · refine zk_iload_n X 4 dX8_clauseTold_28 rfl rfl ?_
        rcases zk_if h with ⟨q4, h⟩ | ⟨q4, h⟩
        · refine zk_lsw X dX8_clauseTold_29 (by decide) (off := 27) (by rw [q4]; decide) (tgt := 56) (by decide) ?_
          refine zk_aload X 0 dX8_clauseTold_56 rfl ?_
          refine zk_get X iX7 (g := 7) (hkk3) rfl rfl 6 (by decide) w1 rfl dX8_clauseTold_58 ?_
          refine zk_iload_n X 3 dX8_clauseTold_61 rfl rfl ?_
          refine zk_iald X (g := 8) (hkk3) rfl dX8_clauseTold_62 h (fun h => ?_)
          exact zk_ireturn X hr dX8_clauseTold_63 h
        · rcases zk_if h with ⟨q5, h⟩ | ⟨q5, h⟩
          · refine zk_lsw X dX8_clauseTold_29 (by decide) (off := 35) (by rw [q5]; decide) (tgt := 64) (by decide) ?_
            refine zk_aload X 0 dX8_clauseTold_64 rfl ?_
            refine zk_get X iX7 (g := 7) (hkk3) rfl rfl 7 (by decide) w2 rfl dX8_clauseTold_66 ?_
            refine zk_iload_n X 3 dX8_clauseTold_69 rfl rfl ?_
            refine zk_iald X (g := 9) (hkk3) rfl dX8_clauseTold_70 h (fun h => ?_)
            exact zk_ireturn X hr dX8_clauseTold_71 h
          · refine zk_lsw X dX8_clauseTold_29 (by decide) (off := 43) (by show Op.lookupswitch.offset [(0, 27), (1, 35)] _ _ = _; rw [lv_osw q4 (by decide), lv_osw q5 (by decide)]; rfl) (tgt := 72) (by decide) ?_
            refine zk_bipush X (v := -7) dX8_clauseTold_72 (by decide) ?_
            exact zk_ireturn X hr dX8_clauseTold_74 h
      · refine zk_bipush X (v := -5) dX8_clauseTold_25 (by decide) ?_
        exact zk_ireturn X hr dX8_clauseTold_27 h
def fX8_copy (x1 : Int32) (x2 : Int32) (x3 : Int32) (x4 : Int32) (x5 : Int32) (z : zk_Z) : Option (Int32 × zk_Z) := zk_bd (fX8_isSheet x1 z) (fun r2 z1 => if r2 = 0 then some ((-2), z1) else zk_bd (fX8_isSheet x3 z1) (fun r4 z3 => if r4 = 0 then some ((-2), z3) else zk_gd (zk_ix x1 4) (zk_gd (zk_ix x3 4) (zk_bd (fX5_isMissing x1.toNatClampNeg z3) (fun r8 z7 => if r8 = 0 then zk_bd (fX5_isMissing x3.toNatClampNeg z7) (fun r10 z9 => if r10 = 0 then if (z9.1 13 x1.toNatClampNeg 0) = (z9.1 13 x3.toNatClampNeg 0) then zk_bd (fX5_hasRange x1.toNatClampNeg x2 x5 z9) (fun r12 z11 => if r12 = 0 then some ((-12), z11) else zk_bd (fX5_hasRange x3.toNatClampNeg x4 x5 z11) (fun r14 z13 => if r14 = 0 then some ((-12), z13) else zk_gd (zk_cp x2 x4 x5 40) (some (x5, zk_sR z13 14 x3.toNatClampNeg (va_cpy (z13.1 14 x1.toNatClampNeg) (z13.1 14 x3.toNatClampNeg) x2.toNatClampNeg x4.toNatClampNeg x5.toNatClampNeg))))) else some ((-13), z9) else some ((-11), z9)) else some ((-11), z7))))))
set_option maxRecDepth 100000 in
set_option maxHeartbeats 8000000 in
theorem ct_X8_copy (l : Launch) (E : zk_E) (hi : zk_inj E) (x1 : Int32) (x2 : Int32) (x3 : Int32) (x4 : Int32) (x5 : Int32) (z : zk_Z) (r : Int32) (z' : zk_Z) (h : fX8_copy  x1 x2 x3 x4 x5 z = some (r, z')) : Met l yX8_copy wsX8_copy { frames := 1, cells := 0, slots := 0, locals := 40 } (va_Pc [.ref (E.2.1 0 0), .int x1, .int x2, .int x3, .int x4, .int x5] (zk_W E z)) (zk_Qi E r z') 0 0 (zk_A E) := by
  refine zk_met (cc := cX8_copy) (maxL := 8) (ret := (some .int)) (own := RX8) (by decide) rfl rfl hi (Nat.le_of_ble_eq_true rfl) ?_
  intro p e s m args below meth c X hr
  have iX5 : ∀ w ∈ u_ws RX5 TX5 3, w ∈ wsX8_copy := by decide +kernel
  have iX8 : ∀ w ∈ u_ws RX8 TX8 15, w ∈ wsX8_copy := by decide +kernel
  have w0 : Cond.fieldLink RX8 67 "HiddenWorks" "sheets" "[LHiddenWorks$Sheet;" ∈ wsX8_copy := by decide +kernel
  have w1 : Cond.fieldLink RX8 301 "HiddenWorks$Sheet" "sort" "I" ∈ wsX8_copy := by decide +kernel
  have w2 : Cond.fieldLink RX8 149 "HiddenWorks$Sheet" "cells" "[I" ∈ wsX8_copy := by decide +kernel
  have w3 : Cond.methodLink RX8 307 arraycopyName ∈ wsX8_copy := by decide +kernel
  have w4 : Cond.native arraycopyName ∈ wsX8_copy := by decide +kernel
  have w5 : Cond.static arraycopyName ∈ wsX8_copy := by decide +kernel
  have w6 : Cond.initialized "java/lang/System" ∈ wsX8_copy := by decide +kernel
  unfold fX8_copy at h
  refine zk_iload_n X 1 dX8_copy_0 rfl rfl ?_
  refine zk_si X h (fun rr zz hf => ct_X8_isSheet l E hi  x1 _ rr zz hf) (va_cwS 1 X.1.2.2.2.2 gX8_copy_X8_isSheet rfl rfl rfl (by decide +kernel) ⟨Nat.le_of_ble_eq_true rfl, Nat.le_of_ble_eq_true rfl⟩) rfl rfl (Nat.le_of_ble_eq_true rfl) dX8_copy_1 (fun r2 z1 h => ?_)
  refine zk_if_eq X (tgt := 14) dX8_copy_4 (by decide) h (fun h => ?_) (fun h => ?_)
  · refine zk_bipush X (v := -2) dX8_copy_14 (by decide) ?_
    exact zk_ireturn X hr dX8_copy_16 h
  · refine zk_iload_n X 3 dX8_copy_7 rfl rfl ?_
    refine zk_si X h (fun rr zz hf => ct_X8_isSheet l E hi  x3 _ rr zz hf) (va_cwS 1 X.1.2.2.2.2 gX8_copy_X8_isSheet rfl rfl rfl (by decide +kernel) ⟨Nat.le_of_ble_eq_true rfl, Nat.le_of_ble_eq_true rfl⟩) rfl rfl (Nat.le_of_ble_eq_true rfl) dX8_copy_8 (fun r4 z3 h => ?_)
    refine zk_if_ne X (tgt := 17) dX8_copy_11 (by decide) h (fun h => ?_) (fun h => ?_)
    · refine zk_bipush X (v := -2) dX8_copy_14 (by decide) ?_
      exact zk_ireturn X hr dX8_copy_16 h
    · refine zk_aload_n X 0 dX8_copy_17 rfl rfl ?_
      refine zk_get X iX8 (g := 0) (Nat.zero_lt_one) rfl rfl 4 (by decide) w0 rfl dX8_copy_18 ?_
      refine zk_iload_n X 1 dX8_copy_21 rfl rfl ?_
      refine zk_aald X (g := 12) (t := 3) (Nat.zero_lt_one) rfl rfl dX8_copy_22 h (fun hb5 h => ?_)
      refine zk_astore X (lv' := [(6, .ref (E.2.1 13 x1.toNatClampNeg)), (0, .ref (E.2.1 0 0)), (1, .int x1), (2, .int x2), (3, .int x3), (4, .int x4), (5, .int x5)]) dX8_copy_23 (by decide) rfl ?_
      refine zk_aload_n X 1 dX8_copy_25 rfl rfl ?_
      refine zk_get X iX8 (g := 0) (Nat.zero_lt_one) rfl rfl 4 (by decide) w0 rfl dX8_copy_26 ?_
      refine zk_iload_n X 4 dX8_copy_29 rfl rfl ?_
      refine zk_aald X (g := 12) (t := 3) (Nat.zero_lt_one) rfl rfl dX8_copy_30 h (fun hb6 h => ?_)
      refine zk_astore X (lv' := [(7, .ref (E.2.1 13 x3.toNatClampNeg)), (6, .ref (E.2.1 13 x1.toNatClampNeg)), (0, .ref (E.2.1 0 0)), (1, .int x1), (2, .int x2), (3, .int x3), (4, .int x4), (5, .int x5)]) dX8_copy_31 (by decide) rfl ?_
      refine zk_aload X 1 dX8_copy_33 rfl ?_
      refine zk_vi X h (fun rr zz hf => ct_X5_isMissing l E hi x1.toNatClampNeg (hb5)  _ rr zz hf) (cwV 0 X.1.2.2.2.2 gX8_copy_X5_isMissing rfl rfl rfl (by decide +kernel) ⟨Nat.le_of_ble_eq_true rfl, Nat.le_of_ble_eq_true rfl⟩) (zk_recv X (g := 13) (hb5) rfl rfl) rfl rfl (Nat.le_of_ble_eq_true rfl) dX8_copy_35 (fun r8 z7 h => ?_)
      refine zk_if_ne X (tgt := 49) dX8_copy_38 (by decide) h (fun h => ?_) (fun h => ?_)
      · refine zk_aload X 0 dX8_copy_41 rfl ?_
        refine zk_vi X h (fun rr zz hf => ct_X5_isMissing l E hi x3.toNatClampNeg (hb6)  _ rr zz hf) (cwV 0 X.1.2.2.2.2 gX8_copy_X5_isMissing rfl rfl rfl (by decide +kernel) ⟨Nat.le_of_ble_eq_true rfl, Nat.le_of_ble_eq_true rfl⟩) (zk_recv X (g := 13) (hb6) rfl rfl) rfl rfl (Nat.le_of_ble_eq_true rfl) dX8_copy_43 (fun r10 z9 h => ?_)
        refine zk_if_eq X (tgt := 52) dX8_copy_46 (by decide) h (fun h => ?_) (fun h => ?_)
        · refine zk_aload X 1 dX8_copy_52 rfl ?_
          refine zk_get X iX5 (g := 13) (hb5) rfl rfl 0 (by decide) w1 rfl dX8_copy_54 ?_
          refine zk_aload X 0 dX8_copy_57 rfl ?_
          refine zk_get X iX5 (g := 13) (hb6) rfl rfl 0 (by decide) w1 rfl dX8_copy_59 ?_
          refine zk_icmp_eq X (tgt := 68) dX8_copy_62 (by decide) h (fun h => ?_) (fun h => ?_)
          · refine zk_aload X 1 dX8_copy_68 rfl ?_
            refine zk_iload_n X 4 dX8_copy_70 rfl rfl ?_
            refine zk_iload X 7 dX8_copy_71 rfl ?_
            refine zk_vi X h (fun rr zz hf => ct_X5_hasRange l E hi x1.toNatClampNeg (hb5) x2 x5 _ rr zz hf) (cwV 2 X.1.2.2.2.2 gX8_copy_X5_hasRange rfl rfl rfl (by decide +kernel) ⟨Nat.le_of_ble_eq_true rfl, Nat.le_of_ble_eq_true rfl⟩) (zk_recv X (g := 13) (hb5) rfl rfl) rfl rfl (Nat.le_of_ble_eq_true rfl) dX8_copy_73 (fun r12 z11 h => ?_)
            refine zk_if_eq X (tgt := 91) dX8_copy_76 (by decide) h (fun h => ?_) (fun h => ?_)
            · refine zk_bipush X (v := -12) dX8_copy_91 (by decide) ?_
              exact zk_ireturn X hr dX8_copy_93 h
            · refine zk_aload X 0 dX8_copy_79 rfl ?_
              refine zk_iload X 6 dX8_copy_81 rfl ?_
              refine zk_iload X 7 dX8_copy_83 rfl ?_
              refine zk_vi X h (fun rr zz hf => ct_X5_hasRange l E hi x3.toNatClampNeg (hb6) x4 x5 _ rr zz hf) (cwV 2 X.1.2.2.2.2 gX8_copy_X5_hasRange rfl rfl rfl (by decide +kernel) ⟨Nat.le_of_ble_eq_true rfl, Nat.le_of_ble_eq_true rfl⟩) (zk_recv X (g := 13) (hb6) rfl rfl) rfl rfl (Nat.le_of_ble_eq_true rfl) dX8_copy_85 (fun r14 z13 h => ?_)
              refine zk_if_ne X (tgt := 94) dX8_copy_88 (by decide) h (fun h => ?_) (fun h => ?_)
              · refine zk_bipush X (v := -12) dX8_copy_91 (by decide) ?_
                exact zk_ireturn X hr dX8_copy_93 h
              · refine zk_aload X 1 dX8_copy_94 rfl ?_
                refine zk_get X iX5 (g := 13) (hb5) rfl rfl 2 (by decide) w2 rfl dX8_copy_96 ?_
                refine zk_iload_n X 4 dX8_copy_99 rfl rfl ?_
                refine zk_aload X 0 dX8_copy_100 rfl ?_
                refine zk_get X iX5 (g := 13) (hb6) rfl rfl 2 (by decide) w2 rfl dX8_copy_102 ?_
                refine zk_iload X 6 dX8_copy_105 rfl ?_
                refine zk_iload X 7 dX8_copy_107 rfl ?_
                refine zk_acopy X w3 w4 w5 w6 (hb5) (hb6) (Nat.le_of_ble_eq_true rfl) (Nat.le_of_ble_eq_true rfl) dX8_copy_109 h (fun h => ?_)
                refine zk_iload X 7 dX8_copy_112 rfl ?_
                exact zk_ireturn X hr dX8_copy_114 h
          · refine zk_bipush X (v := -13) dX8_copy_65 (by decide) ?_
            exact zk_ireturn X hr dX8_copy_67 h
        · refine zk_bipush X (v := -11) dX8_copy_49 (by decide) ?_
          exact zk_ireturn X hr dX8_copy_51 h
      · refine zk_bipush X (v := -11) dX8_copy_49 (by decide) ?_
        exact zk_ireturn X hr dX8_copy_51 h
def fX8_count (x1 : Int32) (z : zk_Z) : Option (Int32 × zk_Z) := if x1 = 0 then some (z.1 0 0 12, z) else if x1 = 1 then some (z.1 0 0 11, z) else if x1 = 2 then some (z.1 0 0 13, z) else if x1 = 3 then some (z.1 1 0 1, z) else some ((-2), z)
set_option maxRecDepth 100000 in
set_option maxHeartbeats 8000000 in
theorem ct_X8_count (l : Launch) (E : zk_E) (hi : zk_inj E) (x1 : Int32) (z : zk_Z) (r : Int32) (z' : zk_Z) (h : fX8_count  x1 z = some (r, z')) : Met l yX8_count wsX8_count { frames := 0, cells := 0, slots := 0, locals := 0 } (va_Pc [.ref (E.2.1 0 0), .int x1] (zk_W E z)) (zk_Qi E r z') 0 0 (zk_A E) := by
  refine zk_met (cc := cX8_count) (maxL := 2) (ret := (some .int)) (own := RX8) (by decide) rfl rfl hi (Nat.le_of_ble_eq_true rfl) ?_
  intro p e s m args below meth c X hr
  have iX6 : ∀ w ∈ u_ws RX6 TX6 4, w ∈ wsX8_count := by decide +kernel
  have iX8 : ∀ w ∈ u_ws RX8 TX8 15, w ∈ wsX8_count := by decide +kernel
  have w0 : Cond.fieldLink RX8 110 "HiddenWorks" "taskCount" "I" ∈ wsX8_count := by decide +kernel
  have w1 : Cond.fieldLink RX8 83 "HiddenWorks" "recipeCount" "I" ∈ wsX8_count := by decide +kernel
  have w2 : Cond.fieldLink RX8 262 "HiddenWorks" "claimCount" "I" ∈ wsX8_count := by decide +kernel
  have w3 : Cond.fieldLink RX8 10 "HiddenWorks" "tape" "LHiddenWorks$Tape;" ∈ wsX8_count := by decide +kernel
  have w4 : Cond.fieldLink RX8 76 "HiddenWorks$Tape" "size" "I" ∈ wsX8_count := by decide +kernel
  unfold fX8_count at h
  refine zk_iload_n X 1 dX8_count_0 rfl rfl ?_
  rcases zk_if h with ⟨q1, h⟩ | ⟨q1, h⟩
  · refine zk_tsw_in X (v := 0) dX8_count_1 q1 (by decide) (by decide) (off := 31) rfl (tgt := 32) (by decide) ?_
    refine zk_aload_n X 0 dX8_count_32 rfl rfl ?_
    refine zk_get X iX8 (g := 0) (Nat.zero_lt_one) rfl rfl 12 (by decide) w0 rfl dX8_count_33 ?_
    exact zk_ireturn X hr dX8_count_36 h
  · rcases zk_if h with ⟨q2, h⟩ | ⟨q2, h⟩
    · refine zk_tsw_in X (v := 1) dX8_count_1 q2 (by decide) (by decide) (off := 36) rfl (tgt := 37) (by decide) ?_
      refine zk_aload_n X 0 dX8_count_37 rfl rfl ?_
      refine zk_get X iX8 (g := 0) (Nat.zero_lt_one) rfl rfl 11 (by decide) w1 rfl dX8_count_38 ?_
      exact zk_ireturn X hr dX8_count_41 h
    · rcases zk_if h with ⟨q3, h⟩ | ⟨q3, h⟩
      · refine zk_tsw_in X (v := 2) dX8_count_1 q3 (by decide) (by decide) (off := 41) rfl (tgt := 42) (by decide) ?_
        refine zk_aload_n X 0 dX8_count_42 rfl rfl ?_
        refine zk_get X iX8 (g := 0) (Nat.zero_lt_one) rfl rfl 13 (by decide) w2 rfl dX8_count_43 ?_
        exact zk_ireturn X hr dX8_count_46 h
      · rcases zk_if h with ⟨q4, h⟩ | ⟨q4, h⟩
        · refine zk_tsw_in X (v := 3) dX8_count_1 q4 (by decide) (by decide) (off := 46) rfl (tgt := 47) (by decide) ?_
          refine zk_aload_n X 0 dX8_count_47 rfl rfl ?_
          refine zk_get X iX8 (g := 0) (Nat.zero_lt_one) rfl rfl 0 (by decide) w3 rfl dX8_count_48 ?_
          refine zk_get X iX6 (g := 1) (Nat.zero_lt_one) rfl rfl 1 (by decide) w4 rfl dX8_count_51 ?_
          exact zk_ireturn X hr dX8_count_54 h
        · refine zk_tsw_out X dX8_count_1 (by have := lv_neT (a := 0) q1 (by decide); have := lv_neT (a := 1) q2 (by decide); have := lv_neT (a := 2) q3 (by decide); have := lv_neT (a := 3) q4 (by decide); omega) (tgt := 55) (by decide) ?_
          refine zk_bipush X (v := -2) dX8_count_55 (by decide) ?_
          exact zk_ireturn X hr dX8_count_57 h
def fX8_feed_L36 : Nat → Int64 → Int32 → zk_Z → Option (Int32 × zk_Z)
  | 0, _, _, _ => none
  | n + 1, a1, a4, z => if a4 < 0 then some (z.1 1 0 1, z) else zk_bd (fX6_put ((((a1.toUInt64 >>> ((8 * a4).toInt64.toUInt64 &&& Int64.toUInt64 63)).toInt64).toInt32) &&& 255) z) (fun _ z1 => (fX8_feed_L36 n) a1 (a4 + (-1)) z1)
def fX8_feed (x1 : Int64) (x3 : Int32) (z : zk_Z) : Option (Int32 × zk_Z) := if x3 < 1 then some ((-2), z) else if x3 ≤ 8 then if ((z.1 1 0 1) + x3) ≤ 80 then fX8_feed_L36 zk_FU x1 (x3 - 1) z else some ((-4), z) else some ((-2), z)
set_option maxRecDepth 100000 in
set_option maxHeartbeats 8000000 in
theorem ct_X8_feed (l : Launch) (E : zk_E) (hi : zk_inj E) (x1 : Int64) (x3 : Int32) (z : zk_Z) (r : Int32) (z' : zk_Z) (h : fX8_feed  x1 x3 z = some (r, z')) : Met l yX8_feed wsX8_feed { frames := 1, cells := 0, slots := 0, locals := 21 } (va_Pc [.ref (E.2.1 0 0), .long x1, .int x3] (zk_W E z)) (zk_Qi E r z') 0 0 (zk_A E) := by
  refine zk_met (cc := cX8_feed) (maxL := 5) (ret := (some .int)) (own := RX8) (by decide) rfl rfl hi (Nat.le_of_ble_eq_true rfl) ?_
  intro p e s m args below meth c X hr
  have iX6 : ∀ w ∈ u_ws RX6 TX6 4, w ∈ wsX8_feed := by decide +kernel
  have iX8 : ∀ w ∈ u_ws RX8 TX8 15, w ∈ wsX8_feed := by decide +kernel
  have w0 : Cond.fieldLink RX8 10 "HiddenWorks" "tape" "LHiddenWorks$Tape;" ∈ wsX8_feed := by decide +kernel
  have w1 : Cond.fieldLink RX8 76 "HiddenWorks$Tape" "size" "I" ∈ wsX8_feed := by decide +kernel
  have L36 : ∀ (n : Nat) (a1 : Int64) (a4 : Int32) (z : zk_Z), fX8_feed_L36 n a1 a4 z = some (r, z') → zk_G p l e (headSpec wsX8_feed { frames := 1, cells := 0, slots := 0, locals := 21 }).room s m args below meth c E 5 0 0 (MQ below (zk_Qi E r z') args s 0 0 (zk_A E)) 36 [(0, .ref (E.2.1 0 0)), (1, .long a1), (4, .int a4)] [] z := by
    intro n
    induction n with
    | zero => intro a1 a4 z h; exact absurd h (by simp [fX8_feed_L36])
    | succ n ih =>
      intro a1 a4 z h
      rw [fX8_feed_L36] at h
      refine zk_iload X 2 dX8_feed_36 rfl ?_
      refine zk_if_lt X (tgt := 66) dX8_feed_38 (by decide) h (fun h => ?_) (fun h => ?_)
      · refine zk_aload_n X 0 dX8_feed_66 rfl rfl ?_
        refine zk_get X iX8 (g := 0) (Nat.zero_lt_one) rfl rfl 0 (by decide) w0 rfl dX8_feed_67 ?_
        refine zk_get X iX6 (g := 1) (Nat.zero_lt_one) rfl rfl 1 (by decide) w1 rfl dX8_feed_70 ?_
        exact zk_ireturn X hr dX8_feed_73 h
      · refine zk_aload_n X 0 dX8_feed_41 rfl rfl ?_
        refine zk_get X iX8 (g := 0) (Nat.zero_lt_one) rfl rfl 0 (by decide) w0 rfl dX8_feed_42 ?_
        refine zk_lload_n X 1 dX8_feed_45 rfl rfl ?_
        refine zk_bipush X (v := 8) dX8_feed_46 (by decide) ?_
        refine zk_iload X 2 dX8_feed_48 rfl ?_
        refine zk_imul X dX8_feed_50 ?_
        refine zk_lushr X dX8_feed_51 ?_
        refine zk_l2i X dX8_feed_52 ?_
        refine zk_sipush X (v := 255) dX8_feed_53 (by decide) ?_
        refine zk_iand X dX8_feed_56 ?_
        refine zk_vv X h (fun rr zz hf => ct_X6_put l E hi ((((a1.toUInt64 >>> ((8 * a4).toInt64.toUInt64 &&& Int64.toUInt64 63)).toInt64).toInt32) &&& 255) _ rr zz hf) (cwV 1 X.1.2.2.2.2 gX8_feed_X6_put rfl rfl rfl (by decide +kernel) ⟨Nat.le_of_ble_eq_true rfl, Nat.le_of_ble_eq_true rfl⟩) (zk_recv X (g := 1) (Nat.zero_lt_one) rfl rfl) rfl rfl (Nat.le_of_ble_eq_true rfl) dX8_feed_57 (fun z1 h => ?_)
        refine zk_iinc X (lv' := [(4, .int (a4 + (-1))), (0, .ref (E.2.1 0 0)), (1, .long a1)]) 2 dX8_feed_60 rfl rfl (by decide) rfl ?_
        refine zk_goto X (tgt := 36) dX8_feed_63 (by decide) ?_
        exact zk_sub [1, 2, 0] rfl (ih _ _ _ h)
  unfold fX8_feed at h
  refine zk_iload_n X 2 dX8_feed_0 rfl rfl ?_
  refine zk_iconst X (v := 1) dX8_feed_1 (by decide) ?_
  refine zk_icmp_lt X (tgt := 11) dX8_feed_2 (by decide) h (fun h => ?_) (fun h => ?_)
  · refine zk_bipush X (v := -2) dX8_feed_11 (by decide) ?_
    exact zk_ireturn X hr dX8_feed_13 h
  · refine zk_iload_n X 2 dX8_feed_5 rfl rfl ?_
    refine zk_bipush X (v := 8) dX8_feed_6 (by decide) ?_
    refine zk_icmp_le X (tgt := 14) dX8_feed_8 (by decide) h (fun h => ?_) (fun h => ?_)
    · refine zk_aload_n X 0 dX8_feed_14 rfl rfl ?_
      refine zk_get X iX8 (g := 0) (Nat.zero_lt_one) rfl rfl 0 (by decide) w0 rfl dX8_feed_15 ?_
      refine zk_get X iX6 (g := 1) (Nat.zero_lt_one) rfl rfl 1 (by decide) w1 rfl dX8_feed_18 ?_
      refine zk_iload_n X 2 dX8_feed_21 rfl rfl ?_
      refine zk_iadd X dX8_feed_22 ?_
      refine zk_bipush X (v := 80) dX8_feed_23 (by decide) ?_
      refine zk_icmp_le X (tgt := 31) dX8_feed_25 (by decide) h (fun h => ?_) (fun h => ?_)
      · refine zk_iload_n X 2 dX8_feed_31 rfl rfl ?_
        refine zk_iconst X (v := 1) dX8_feed_32 (by decide) ?_
        refine zk_isub X dX8_feed_33 ?_
        refine zk_istore X (lv' := [(4, .int (x3 - 1)), (0, .ref (E.2.1 0 0)), (1, .long x1), (3, .int x3)]) dX8_feed_34 (by decide) rfl ?_
        exact zk_sub [1, 2, 0] rfl (L36  _ _ _ _ h)
      · refine zk_bipush X (v := -4) dX8_feed_28 (by decide) ?_
        exact zk_ireturn X hr dX8_feed_30 h
    · refine zk_bipush X (v := -2) dX8_feed_11 (by decide) ?_
      exact zk_ireturn X hr dX8_feed_13 h
def fX8_isFinder (x0 : Int32) (z : zk_Z) : Option (Int32 × zk_Z) := if x0 < 0 then some (0, z) else if 4 ≤ x0 then some (0, z) else some (1, z)
set_option maxRecDepth 100000 in
set_option maxHeartbeats 8000000 in
theorem ct_X8_isFinder (l : Launch) (E : zk_E) (hi : zk_inj E) (x0 : Int32) (z : zk_Z) (r : Int32) (z' : zk_Z) (h : fX8_isFinder  x0 z = some (r, z')) : Met l yX8_isFinder wsX8_isFinder { frames := 0, cells := 0, slots := 0, locals := 0 } (va_Pc [.int x0] (zk_W E z)) (zk_Qi E r z') 0 0 (zk_A E) := by
  refine zk_met (cc := cX8_isFinder) (maxL := 1) (ret := (some .boolean)) (own := RX8) (by decide) rfl rfl hi (Nat.le_of_ble_eq_true rfl) ?_
  intro p e s m args below meth c X hr
  unfold fX8_isFinder at h
  refine zk_iload_n X 0 dX8_isFinder_0 rfl rfl ?_
  refine zk_if_lt X (tgt := 13) dX8_isFinder_1 (by decide) h (fun h => ?_) (fun h => ?_)
  · refine zk_iconst X (v := 0) dX8_isFinder_13 (by decide) ?_
    exact zk_zreturn X hr dX8_isFinder_14 rfl h
  · refine zk_iload_n X 0 dX8_isFinder_4 rfl rfl ?_
    refine zk_iconst X (v := 4) dX8_isFinder_5 (by decide) ?_
    refine zk_icmp_ge X (tgt := 13) dX8_isFinder_6 (by decide) h (fun h => ?_) (fun h => ?_)
    · refine zk_iconst X (v := 0) dX8_isFinder_13 (by decide) ?_
      exact zk_zreturn X hr dX8_isFinder_14 rfl h
    · refine zk_iconst X (v := 1) dX8_isFinder_9 (by decide) ?_
      refine zk_goto X (tgt := 14) dX8_isFinder_10 (by decide) ?_
      exact zk_zreturn X hr dX8_isFinder_14 rfl h
def fX8_find (x1 : Int32) (x2 : Int32) (x3 : Int32) (x4 : Int32) (z : zk_Z) : Option (Int32 × zk_Z) := zk_bd (fX8_taskAt x1 z) (fun r2 z1 => zk_oc r2 (some ((-5), z1)) (fun kk3 => zk_bd (fX8_isFinder x2 z1) (fun r5 z4 => if r5 = 0 then some ((-2), z4) else if x3 < 0 then some ((-2), z4) else if 2000 < x3 then some ((-2), z4) else if x4 < 0 then some ((-2), z4) else if x4 ≤ 2 then zk_bd (fX1_seek kk3 x2 x3 z4) (fun _ z6 => if x4 = 0 then some (z6.1 16 0 0, z6) else if x4 = 1 then some (z6.1 16 0 1, z6) else zk_bd (fX1_foundHidden kk3 z6) (fun r11 z10 => if r11 = 0 then some (0, z10) else some (1, z10))) else some ((-2), z4))))
set_option maxRecDepth 100000 in
set_option maxHeartbeats 8000000 in
theorem ct_X8_find (l : Launch) (E : zk_E) (hi : zk_inj E) (x1 : Int32) (x2 : Int32) (x3 : Int32) (x4 : Int32) (z : zk_Z) (r : Int32) (z' : zk_Z) (h : fX8_find  x1 x2 x3 x4 z = some (r, z')) : Met l yX8_find wsX8_find { frames := 7, cells := 0, slots := 0, locals := 156 } (va_Pc [.ref (E.2.1 0 0), .int x1, .int x2, .int x3, .int x4] (zk_W E z)) (zk_Qi E r z') 0 0 (zk_A E) := by
  refine zk_met (cc := cX8_find) (maxL := 6) (ret := (some .int)) (own := RX8) (by decide) rfl rfl hi (Nat.le_of_ble_eq_true rfl) ?_
  intro p e s m args below meth c X hr
  have iX1 : ∀ w ∈ u_ws RX1 TX1 2, w ∈ wsX8_find := by decide +kernel
  have iX8 : ∀ w ∈ u_ws RX8 TX8 15, w ∈ wsX8_find := by decide +kernel
  have w0 : Cond.fieldLink RX8 26 "HiddenWorks" "finder" "LHiddenWorks$Finder;" ∈ wsX8_find := by decide +kernel
  have w1 : Cond.fieldLink RX8 237 "HiddenWorks$Finder" "found" "I" ∈ wsX8_find := by decide +kernel
  have w2 : Cond.fieldLink RX8 240 "HiddenWorks$Finder" "steps" "I" ∈ wsX8_find := by decide +kernel
  unfold fX8_find at h
  refine zk_aload_n X 0 dX8_find_0 rfl rfl ?_
  refine zk_iload_n X 1 dX8_find_1 rfl rfl ?_
  refine zk_vq X h (fun rr zz hf => ct_X8_taskAt l E hi  x1 _ rr zz hf) (cwV 1 X.1.2.2.2.2 gX8_find_X8_taskAt rfl rfl rfl (by decide +kernel) ⟨Nat.le_of_ble_eq_true rfl, Nat.le_of_ble_eq_true rfl⟩) (zk_recv X (g := 0) (Nat.zero_lt_one) rfl rfl) rfl rfl (Nat.le_of_ble_eq_true rfl) dX8_find_2 (fun z1 h => ?_) (fun kk3 z1 hkk3 h => ?_)
  · refine zk_astoreN X (lv' := [(5, .null), (0, .ref (E.2.1 0 0)), (1, .int x1), (2, .int x2), (3, .int x3), (4, .int x4)]) dX8_find_5 (by decide) rfl ?_
    refine zk_aloadN X 0 dX8_find_7 rfl ?_
    refine zk_ifnonnullN X dX8_find_9 ?_
    refine zk_bipush X (v := -5) dX8_find_12 (by decide) ?_
    exact zk_ireturn X hr dX8_find_14 h
  · refine zk_astore X (lv' := [(5, .ref (E.2.1 7 kk3)), (0, .ref (E.2.1 0 0)), (1, .int x1), (2, .int x2), (3, .int x3), (4, .int x4)]) dX8_find_5 (by decide) rfl ?_
    refine zk_aload X 0 dX8_find_7 rfl ?_
    refine zk_ifnonnull X (tgt := 15) dX8_find_9 (by decide) ?_
    refine zk_iload_n X 3 dX8_find_15 rfl rfl ?_
    refine zk_si X h (fun rr zz hf => ct_X8_isFinder l E hi  x2 _ rr zz hf) (va_cwS 1 X.1.2.2.2.2 gX8_find_X8_isFinder rfl rfl rfl (by decide +kernel) ⟨Nat.le_of_ble_eq_true rfl, Nat.le_of_ble_eq_true rfl⟩) rfl rfl (Nat.le_of_ble_eq_true rfl) dX8_find_16 (fun r5 z4 h => ?_)
    refine zk_if_eq X (tgt := 44) dX8_find_19 (by decide) h (fun h => ?_) (fun h => ?_)
    · refine zk_bipush X (v := -2) dX8_find_44 (by decide) ?_
      exact zk_ireturn X hr dX8_find_46 h
    · refine zk_iload_n X 4 dX8_find_22 rfl rfl ?_
      refine zk_if_lt X (tgt := 44) dX8_find_23 (by decide) h (fun h => ?_) (fun h => ?_)
      · refine zk_bipush X (v := -2) dX8_find_44 (by decide) ?_
        exact zk_ireturn X hr dX8_find_46 h
      · refine zk_iload_n X 4 dX8_find_26 rfl rfl ?_
        refine zk_sipush X (v := 2000) dX8_find_27 (by decide) ?_
        refine zk_icmp_gt X (tgt := 44) dX8_find_30 (by decide) h (fun h => ?_) (fun h => ?_)
        · refine zk_bipush X (v := -2) dX8_find_44 (by decide) ?_
          exact zk_ireturn X hr dX8_find_46 h
        · refine zk_iload X 5 dX8_find_33 rfl ?_
          refine zk_if_lt X (tgt := 44) dX8_find_35 (by decide) h (fun h => ?_) (fun h => ?_)
          · refine zk_bipush X (v := -2) dX8_find_44 (by decide) ?_
            exact zk_ireturn X hr dX8_find_46 h
          · refine zk_iload X 5 dX8_find_38 rfl ?_
            refine zk_iconst X (v := 2) dX8_find_40 (by decide) ?_
            refine zk_icmp_le X (tgt := 47) dX8_find_41 (by decide) h (fun h => ?_) (fun h => ?_)
            · refine zk_aload_n X 1 dX8_find_47 rfl rfl ?_
              refine zk_get X iX8 (g := 0) (Nat.zero_lt_one) rfl rfl 6 (by decide) w0 rfl dX8_find_48 ?_
              refine zk_aload X 0 dX8_find_51 rfl ?_
              refine zk_iload_n X 3 dX8_find_53 rfl rfl ?_
              refine zk_iload_n X 4 dX8_find_54 rfl rfl ?_
              refine zk_vv X h (fun rr zz hf => ct_X1_seek l E hi kk3 (hkk3) x2 x3 _ rr zz hf) (cwV 3 X.1.2.2.2.2 gX8_find_X1_seek rfl rfl rfl (by decide +kernel) ⟨Nat.le_of_ble_eq_true rfl, Nat.le_of_ble_eq_true rfl⟩) (zk_recv X (g := 16) (Nat.zero_lt_one) rfl rfl) rfl rfl (Nat.le_of_ble_eq_true rfl) dX8_find_55 (fun z6 h => ?_)
              refine zk_iload X 5 dX8_find_58 rfl ?_
              rcases zk_if h with ⟨q8, h⟩ | ⟨q8, h⟩
              · refine zk_lsw X dX8_find_60 (by decide) (off := 28) (by rw [q8]; decide) (tgt := 88) (by decide) ?_
                refine zk_aload_n X 1 dX8_find_88 rfl rfl ?_
                refine zk_get X iX8 (g := 0) (Nat.zero_lt_one) rfl rfl 6 (by decide) w0 rfl dX8_find_89 ?_
                refine zk_get X iX1 (g := 16) (Nat.zero_lt_one) rfl rfl 0 (by decide) w1 rfl dX8_find_92 ?_
                exact zk_ireturn X hr dX8_find_95 h
              · rcases zk_if h with ⟨q9, h⟩ | ⟨q9, h⟩
                · refine zk_lsw X dX8_find_60 (by decide) (off := 36) (by rw [q9]; decide) (tgt := 96) (by decide) ?_
                  refine zk_aload_n X 1 dX8_find_96 rfl rfl ?_
                  refine zk_get X iX8 (g := 0) (Nat.zero_lt_one) rfl rfl 6 (by decide) w0 rfl dX8_find_97 ?_
                  refine zk_get X iX1 (g := 16) (Nat.zero_lt_one) rfl rfl 1 (by decide) w2 rfl dX8_find_100 ?_
                  exact zk_ireturn X hr dX8_find_103 h
                · refine zk_lsw X dX8_find_60 (by decide) (off := 44) (by show Op.lookupswitch.offset [(0, 28), (1, 36)] _ _ = _; rw [lv_osw q8 (by decide), lv_osw q9 (by decide)]; rfl) (tgt := 104) (by decide) ?_
                  refine zk_aload_n X 1 dX8_find_104 rfl rfl ?_
                  refine zk_get X iX8 (g := 0) (Nat.zero_lt_one) rfl rfl 6 (by decide) w0 rfl dX8_find_105 ?_
                  refine zk_aload X 0 dX8_find_108 rfl ?_
                  refine zk_vi X h (fun rr zz hf => ct_X1_foundHidden l E hi kk3 (hkk3)  _ rr zz hf) (cwV 1 X.1.2.2.2.2 gX8_find_X1_foundHidden rfl rfl rfl (by decide +kernel) ⟨Nat.le_of_ble_eq_true rfl, Nat.le_of_ble_eq_true rfl⟩) (zk_recv X (g := 16) (Nat.zero_lt_one) rfl rfl) rfl rfl (Nat.le_of_ble_eq_true rfl) dX8_find_110 (fun r11 z10 h => ?_)
                  refine zk_if_eq X (tgt := 120) dX8_find_113 (by decide) h (fun h => ?_) (fun h => ?_)
                  · refine zk_iconst X (v := 0) dX8_find_120 (by decide) ?_
                    exact zk_ireturn X hr dX8_find_121 h
                  · refine zk_iconst X (v := 1) dX8_find_116 (by decide) ?_
                    refine zk_goto X (tgt := 121) dX8_find_117 (by decide) ?_
                    exact zk_ireturn X hr dX8_find_121 h
            · refine zk_bipush X (v := -2) dX8_find_44 (by decide) ?_
              exact zk_ireturn X hr dX8_find_46 h
def fX8_greatestShared_L7 : Nat → Int32 → Int32 → Int32 → zk_Z → Option (Int32 × zk_Z)
  | 0, _, _, _, _ => none
  | n + 1, a2, a3, a4, z => if 100 ≤ a4 then some (a2, z) else if a3 = 0 then some (a2, z) else zk_gd (zk_nz a3) ((fX8_greatestShared_L7 n) a3 (a2 - a2 / a3 * a3) (a4 + 1) z)
def fX8_greatestShared (x0 : Int32) (x1 : Int32) (z : zk_Z) : Option (Int32 × zk_Z) := fX8_greatestShared_L7 zk_FU x0 x1 0 z
set_option maxRecDepth 100000 in
set_option maxHeartbeats 8000000 in
theorem ct_X8_greatestShared (l : Launch) (E : zk_E) (hi : zk_inj E) (x0 : Int32) (x1 : Int32) (z : zk_Z) (r : Int32) (z' : zk_Z) (h : fX8_greatestShared  x0 x1 z = some (r, z')) : Met l yX8_greatestShared wsX8_greatestShared { frames := 0, cells := 0, slots := 0, locals := 0 } (va_Pc [.int x0, .int x1] (zk_W E z)) (zk_Qi E r z') 0 0 (zk_A E) := by
  refine zk_met (cc := cX8_greatestShared) (maxL := 6) (ret := (some .int)) (own := RX8) (by decide) rfl rfl hi (Nat.le_of_ble_eq_true rfl) ?_
  intro p e s m args below meth c X hr
  have L7 : ∀ (n : Nat) (a2 : Int32) (a3 : Int32) (a4 : Int32) (z : zk_Z), fX8_greatestShared_L7 n a2 a3 a4 z = some (r, z') → zk_G p l e (headSpec wsX8_greatestShared { frames := 0, cells := 0, slots := 0, locals := 0 }).room s m args below meth c E 6 0 0 (MQ below (zk_Qi E r z') args s 0 0 (zk_A E)) 7 [(2, .int a2), (3, .int a3), (4, .int a4)] [] z := by
    intro n
    induction n with
    | zero => intro a2 a3 a4 z h; exact absurd h (by simp [fX8_greatestShared_L7])
    | succ n ih =>
      intro a2 a3 a4 z h
      rw [fX8_greatestShared_L7] at h
      refine zk_iload X 2 dX8_greatestShared_7 rfl ?_
      refine zk_bipush X (v := 100) dX8_greatestShared_9 (by decide) ?_
      refine zk_icmp_ge X (tgt := 34) dX8_greatestShared_11 (by decide) h (fun h => ?_) (fun h => ?_)
      · refine zk_iload_n X 0 dX8_greatestShared_34 rfl rfl ?_
        exact zk_ireturn X hr dX8_greatestShared_35 h
      · refine zk_iload_n X 1 dX8_greatestShared_14 rfl rfl ?_
        refine zk_if_eq X (tgt := 34) dX8_greatestShared_15 (by decide) h (fun h => ?_) (fun h => ?_)
        · refine zk_iload_n X 0 dX8_greatestShared_34 rfl rfl ?_
          exact zk_ireturn X hr dX8_greatestShared_35 h
        · refine zk_iload_n X 0 dX8_greatestShared_18 rfl rfl ?_
          refine zk_iload_n X 1 dX8_greatestShared_19 rfl rfl ?_
          refine zk_irem X dX8_greatestShared_20 h (fun h => ?_)
          refine zk_istore X (lv' := [(5, .int (a2 - a2 / a3 * a3)), (2, .int a2), (3, .int a3), (4, .int a4)]) dX8_greatestShared_21 (by decide) rfl ?_
          refine zk_iload_n X 2 dX8_greatestShared_23 rfl rfl ?_
          refine zk_istore_n X (lv' := [(2, .int a3), (5, .int (a2 - a2 / a3 * a3)), (3, .int a3), (4, .int a4)]) dX8_greatestShared_24 rfl (by decide) rfl ?_
          refine zk_iload X 1 dX8_greatestShared_25 rfl ?_
          refine zk_istore_n X (lv' := [(3, .int (a2 - a2 / a3 * a3)), (2, .int a3), (5, .int (a2 - a2 / a3 * a3)), (4, .int a4)]) dX8_greatestShared_27 rfl (by decide) rfl ?_
          refine zk_iinc X (lv' := [(4, .int (a4 + 1)), (3, .int (a2 - a2 / a3 * a3)), (2, .int a3), (5, .int (a2 - a2 / a3 * a3))]) 3 dX8_greatestShared_28 rfl rfl (by decide) rfl ?_
          refine zk_goto X (tgt := 7) dX8_greatestShared_31 (by decide) ?_
          exact zk_sub [2, 1, 0] rfl (ih _ _ _ _ h)
  unfold fX8_greatestShared at h
  refine zk_iload_n X 0 dX8_greatestShared_0 rfl rfl ?_
  refine zk_istore_n X (lv' := [(2, .int x0), (0, .int x0), (1, .int x1)]) dX8_greatestShared_1 rfl (by decide) rfl ?_
  refine zk_iload_n X 2 dX8_greatestShared_2 rfl rfl ?_
  refine zk_istore_n X (lv' := [(3, .int x1), (2, .int x0), (0, .int x0), (1, .int x1)]) dX8_greatestShared_3 rfl (by decide) rfl ?_
  refine zk_iconst X (v := 0) dX8_greatestShared_4 (by decide) ?_
  refine zk_istore X (lv' := [(4, .int 0), (3, .int x1), (2, .int x0), (0, .int x0), (1, .int x1)]) dX8_greatestShared_5 (by decide) rfl ?_
  exact zk_sub [2, 1, 0] rfl (L7  _ _ _ _ _ h)
def fX8_heap_B175 (c64 : Int32 → Int32 → Int32 → Int32 → Int32 → Nat → Int32 → Int32 → zk_Z → Option (Int32 × zk_Z)) (a2 : Int32) (a3 : Int32) (a4 : Int32) (a5 : Int32) (a6 : Int32) (ka7 : Nat) (a8 : Int32) (a9 : Int32) (z : zk_Z) : Option (Int32 × zk_Z) := c64 a2 a3 a4 a5 a6 ka7 a8 (a9 + 1) z
def fX8_heap_B167 (c64 : Int32 → Int32 → Int32 → Int32 → Int32 → Nat → Int32 → Int32 → zk_Z → Option (Int32 × zk_Z)) (a2 : Int32) (a3 : Int32) (a4 : Int32) (a5 : Int32) (a6 : Int32) (ka7 : Nat) (a8 : Int32) (a9 : Int32) (a10 : Int32) (z : zk_Z) : Option (Int32 × zk_Z) := if a10 = 0 then fX8_heap_B175 c64 a2 a3 a4 a5 a6 ka7 a8 a9 z else fX8_heap_B175 c64 a2 a3 a4 a5 a6 ka7 (a8 + 1) a9 z
def fX8_heap_B111 (c64 : Int32 → Int32 → Int32 → Int32 → Int32 → Nat → Int32 → Int32 → zk_Z → Option (Int32 × zk_Z)) (a2 : Int32) (a3 : Int32) (a4 : Int32) (a5 : Int32) (a6 : Int32) (ka7 : Nat) (a8 : Int32) (a9 : Int32) (s0 : Int32) (z : zk_Z) : Option (Int32 × zk_Z) := fX8_heap_B167 c64 a2 a3 a4 a5 a6 ka7 a8 a9 s0 z
def fX8_heap_B165 (c64 : Int32 → Int32 → Int32 → Int32 → Int32 → Nat → Int32 → Int32 → zk_Z → Option (Int32 × zk_Z)) (a2 : Int32) (a3 : Int32) (a4 : Int32) (a5 : Int32) (a6 : Int32) (ka7 : Nat) (a8 : Int32) (a9 : Int32) (s0 : Int32) (z : zk_Z) : Option (Int32 × zk_Z) := fX8_heap_B167 c64 a2 a3 a4 a5 a6 ka7 a8 a9 s0 z
def fX8_heap_L64 : Nat → Int32 → Int32 → Int32 → Int32 → Int32 → Nat → Int32 → Int32 → zk_Z → Option (Int32 × zk_Z)
  | 0, _, _, _, _, _, _, _, _, _ => none
  | n + 1, a2, a3, a4, a5, a6, ka7, a8, a9, z => if a3 ≤ a9 then some (a8, z) else zk_bd (fX3_fill 8 ka7 (a2 + a9) z) (fun _ z8 => if a6 = 2 then zk_bd (fX7_countAnswers 8 0 0 z8) (fun r11 z10 => if r11 = 1 then fX8_heap_B111 (fX8_heap_L64 n) a2 a3 a4 a5 a6 ka7 a8 a9 1 z10 else fX8_heap_B111 (fX8_heap_L64 n) a2 a3 a4 a5 a6 ka7 a8 a9 0 z10) else zk_bd (fX1_seek 8 a4 a5 z8) (fun _ z12 => if a6 = 0 then if (z12.1 16 0 0) < 0 then fX8_heap_B165 (fX8_heap_L64 n) a2 a3 a4 a5 a6 ka7 a8 a9 0 z12 else fX8_heap_B165 (fX8_heap_L64 n) a2 a3 a4 a5 a6 ka7 a8 a9 1 z12 else zk_bd (fX1_foundHidden 8 z12) (fun r15 z14 => fX8_heap_B165 (fX8_heap_L64 n) a2 a3 a4 a5 a6 ka7 a8 a9 r15 z14)))
def fX8_heap (x1 : Int32) (x2 : Int32) (x3 : Int32) (x4 : Int32) (x5 : Int32) (x6 : Int32) (z : zk_Z) : Option (Int32 × zk_Z) := zk_bd (fX8_recipeAt x1 z) (fun r2 z1 => zk_oc r2 (some ((-5), z1)) (fun kk3 => zk_bd (fX8_isHeap x2 x3 z1) (fun r5 z4 => if r5 = 0 then some ((-2), z4) else zk_bd (fX8_isFinder x4 z4) (fun r7 z6 => if r7 = 0 then some ((-2), z6) else if x5 < 0 then some ((-2), z6) else if 200 < x5 then some ((-2), z6) else if x6 < 0 then some ((-2), z6) else if x6 ≤ 2 then fX8_heap_L64 zk_FU x2 x3 x4 x5 x6 kk3 0 0 z6 else some ((-2), z6)))))
set_option maxRecDepth 100000 in
set_option maxHeartbeats 8000000 in
theorem ct_X8_heap (l : Launch) (E : zk_E) (hi : zk_inj E) (x1 : Int32) (x2 : Int32) (x3 : Int32) (x4 : Int32) (x5 : Int32) (x6 : Int32) (z : zk_Z) (r : Int32) (z' : zk_Z) (h : fX8_heap  x1 x2 x3 x4 x5 x6 z = some (r, z')) : Met l yX8_heap wsX8_heap { frames := 7, cells := 0, slots := 0, locals := 156 } (va_Pc [.ref (E.2.1 0 0), .int x1, .int x2, .int x3, .int x4, .int x5, .int x6] (zk_W E z)) (zk_Qi E r z') 0 0 (zk_A E) := by
  refine zk_met (cc := cX8_heap) (maxL := 11) (ret := (some .int)) (own := RX8) (by decide) rfl rfl hi (Nat.le_of_ble_eq_true rfl) ?_
  intro p e s m args below meth c X hr
  have iX1 : ∀ w ∈ u_ws RX1 TX1 2, w ∈ wsX8_heap := by decide +kernel
  have iX8 : ∀ w ∈ u_ws RX8 TX8 15, w ∈ wsX8_heap := by decide +kernel
  have w0 : Cond.fieldLink RX8 19 "HiddenWorks" "maker" "LHiddenWorks$Maker;" ∈ wsX8_heap := by decide +kernel
  have w1 : Cond.fieldLink RX8 33 "HiddenWorks" "heaped" "LHiddenWorks$Task;" ∈ wsX8_heap := by decide +kernel
  have w2 : Cond.fieldLink RX8 26 "HiddenWorks" "finder" "LHiddenWorks$Finder;" ∈ wsX8_heap := by decide +kernel
  have w3 : Cond.fieldLink RX8 237 "HiddenWorks$Finder" "found" "I" ∈ wsX8_heap := by decide +kernel
  have B175 : ∀ (c64 : Int32 → Int32 → Int32 → Int32 → Int32 → Nat → Int32 → Int32 → zk_Z → Option (Int32 × zk_Z)) (hc64 : ∀ (a2 : Int32) (a3 : Int32) (a4 : Int32) (a5 : Int32) (a6 : Int32) (ka7 : Nat) (a8 : Int32) (a9 : Int32) (hka7 : ka7 < zk_cnt 4) (z : zk_Z), c64 a2 a3 a4 a5 a6 ka7 a8 a9 z = some (r, z') → zk_G p l e (headSpec wsX8_heap { frames := 7, cells := 0, slots := 0, locals := 156 }).room s m args below meth c E 11 0 0 (MQ below (zk_Qi E r z') args s 0 0 (zk_A E)) 64 [(0, .ref (E.2.1 0 0)), (2, .int a2), (3, .int a3), (4, .int a4), (5, .int a5), (6, .int a6), (7, .ref (E.2.1 4 ka7)), (8, .int a8), (9, .int a9)] [] z) (a2 : Int32) (a3 : Int32) (a4 : Int32) (a5 : Int32) (a6 : Int32) (ka7 : Nat) (a8 : Int32) (a9 : Int32) (hka7 : ka7 < zk_cnt 4) (z : zk_Z), fX8_heap_B175 c64 a2 a3 a4 a5 a6 ka7 a8 a9 z = some (r, z') → zk_G p l e (headSpec wsX8_heap { frames := 7, cells := 0, slots := 0, locals := 156 }).room s m args below meth c E 11 0 0 (MQ below (zk_Qi E r z') args s 0 0 (zk_A E)) 175 [(0, .ref (E.2.1 0 0)), (2, .int a2), (3, .int a3), (4, .int a4), (5, .int a5), (6, .int a6), (7, .ref (E.2.1 4 ka7)), (8, .int a8), (9, .int a9)] [] z := by
    intro c64 hc64 a2 a3 a4 a5 a6 ka7 a8 a9 hka7 z h
    unfold fX8_heap_B175 at h
    refine zk_iinc X (lv' := [(9, .int (a9 + 1)), (0, .ref (E.2.1 0 0)), (2, .int a2), (3, .int a3), (4, .int a4), (5, .int a5), (6, .int a6), (7, .ref (E.2.1 4 ka7)), (8, .int a8)]) 8 dX8_heap_175 rfl rfl (by decide) rfl ?_
    refine zk_goto X (tgt := 64) dX8_heap_178 (by decide) ?_
    exact zk_sub [1, 2, 3, 4, 5, 6, 7, 8, 0] rfl (hc64 _ _ _ _ _ _ _ _ (hka7) _ h)
  have B167 : ∀ (c64 : Int32 → Int32 → Int32 → Int32 → Int32 → Nat → Int32 → Int32 → zk_Z → Option (Int32 × zk_Z)) (hc64 : ∀ (a2 : Int32) (a3 : Int32) (a4 : Int32) (a5 : Int32) (a6 : Int32) (ka7 : Nat) (a8 : Int32) (a9 : Int32) (hka7 : ka7 < zk_cnt 4) (z : zk_Z), c64 a2 a3 a4 a5 a6 ka7 a8 a9 z = some (r, z') → zk_G p l e (headSpec wsX8_heap { frames := 7, cells := 0, slots := 0, locals := 156 }).room s m args below meth c E 11 0 0 (MQ below (zk_Qi E r z') args s 0 0 (zk_A E)) 64 [(0, .ref (E.2.1 0 0)), (2, .int a2), (3, .int a3), (4, .int a4), (5, .int a5), (6, .int a6), (7, .ref (E.2.1 4 ka7)), (8, .int a8), (9, .int a9)] [] z) (a2 : Int32) (a3 : Int32) (a4 : Int32) (a5 : Int32) (a6 : Int32) (ka7 : Nat) (a8 : Int32) (a9 : Int32) (a10 : Int32) (hka7 : ka7 < zk_cnt 4) (z : zk_Z), fX8_heap_B167 c64 a2 a3 a4 a5 a6 ka7 a8 a9 a10 z = some (r, z') → zk_G p l e (headSpec wsX8_heap { frames := 7, cells := 0, slots := 0, locals := 156 }).room s m args below meth c E 11 0 0 (MQ below (zk_Qi E r z') args s 0 0 (zk_A E)) 167 [(0, .ref (E.2.1 0 0)), (2, .int a2), (3, .int a3), (4, .int a4), (5, .int a5), (6, .int a6), (7, .ref (E.2.1 4 ka7)), (8, .int a8), (9, .int a9), (10, .int a10)] [] z := by
    intro c64 hc64 a2 a3 a4 a5 a6 ka7 a8 a9 a10 hka7 z h
    unfold fX8_heap_B167 at h
    refine zk_iload X 9 dX8_heap_167 rfl ?_
    refine zk_if_eq X (tgt := 175) dX8_heap_169 (by decide) h (fun h => ?_) (fun h => ?_)
    · exact zk_sub [0, 1, 2, 3, 4, 5, 6, 7, 8] rfl (B175 _ hc64 _ _ _ _ _ _ _ _ (hka7) _ h)
    · refine zk_iinc X (lv' := [(8, .int (a8 + 1)), (0, .ref (E.2.1 0 0)), (2, .int a2), (3, .int a3), (4, .int a4), (5, .int a5), (6, .int a6), (7, .ref (E.2.1 4 ka7)), (9, .int a9), (10, .int a10)]) 7 dX8_heap_172 rfl rfl (by decide) rfl ?_
      exact zk_sub [1, 2, 3, 4, 5, 6, 7, 0, 8] rfl (B175 _ hc64 _ _ _ _ _ _ _ _ (hka7) _ h)
  have B111 : ∀ (c64 : Int32 → Int32 → Int32 → Int32 → Int32 → Nat → Int32 → Int32 → zk_Z → Option (Int32 × zk_Z)) (hc64 : ∀ (a2 : Int32) (a3 : Int32) (a4 : Int32) (a5 : Int32) (a6 : Int32) (ka7 : Nat) (a8 : Int32) (a9 : Int32) (hka7 : ka7 < zk_cnt 4) (z : zk_Z), c64 a2 a3 a4 a5 a6 ka7 a8 a9 z = some (r, z') → zk_G p l e (headSpec wsX8_heap { frames := 7, cells := 0, slots := 0, locals := 156 }).room s m args below meth c E 11 0 0 (MQ below (zk_Qi E r z') args s 0 0 (zk_A E)) 64 [(0, .ref (E.2.1 0 0)), (2, .int a2), (3, .int a3), (4, .int a4), (5, .int a5), (6, .int a6), (7, .ref (E.2.1 4 ka7)), (8, .int a8), (9, .int a9)] [] z) (a2 : Int32) (a3 : Int32) (a4 : Int32) (a5 : Int32) (a6 : Int32) (ka7 : Nat) (a8 : Int32) (a9 : Int32) (s0 : Int32) (hka7 : ka7 < zk_cnt 4) (z : zk_Z), fX8_heap_B111 c64 a2 a3 a4 a5 a6 ka7 a8 a9 s0 z = some (r, z') → zk_G p l e (headSpec wsX8_heap { frames := 7, cells := 0, slots := 0, locals := 156 }).room s m args below meth c E 11 0 0 (MQ below (zk_Qi E r z') args s 0 0 (zk_A E)) 111 [(0, .ref (E.2.1 0 0)), (2, .int a2), (3, .int a3), (4, .int a4), (5, .int a5), (6, .int a6), (7, .ref (E.2.1 4 ka7)), (8, .int a8), (9, .int a9)] [.int s0] z := by
    intro c64 hc64 a2 a3 a4 a5 a6 ka7 a8 a9 s0 hka7 z h
    unfold fX8_heap_B111 at h
    refine zk_istore X (lv' := [(10, .int s0), (0, .ref (E.2.1 0 0)), (2, .int a2), (3, .int a3), (4, .int a4), (5, .int a5), (6, .int a6), (7, .ref (E.2.1 4 ka7)), (8, .int a8), (9, .int a9)]) dX8_heap_111 (by decide) rfl ?_
    refine zk_goto X (tgt := 167) dX8_heap_113 (by decide) ?_
    exact zk_sub [1, 2, 3, 4, 5, 6, 7, 8, 9, 0] rfl (B167 _ hc64 _ _ _ _ _ _ _ _ _ (hka7) _ h)
  have B165 : ∀ (c64 : Int32 → Int32 → Int32 → Int32 → Int32 → Nat → Int32 → Int32 → zk_Z → Option (Int32 × zk_Z)) (hc64 : ∀ (a2 : Int32) (a3 : Int32) (a4 : Int32) (a5 : Int32) (a6 : Int32) (ka7 : Nat) (a8 : Int32) (a9 : Int32) (hka7 : ka7 < zk_cnt 4) (z : zk_Z), c64 a2 a3 a4 a5 a6 ka7 a8 a9 z = some (r, z') → zk_G p l e (headSpec wsX8_heap { frames := 7, cells := 0, slots := 0, locals := 156 }).room s m args below meth c E 11 0 0 (MQ below (zk_Qi E r z') args s 0 0 (zk_A E)) 64 [(0, .ref (E.2.1 0 0)), (2, .int a2), (3, .int a3), (4, .int a4), (5, .int a5), (6, .int a6), (7, .ref (E.2.1 4 ka7)), (8, .int a8), (9, .int a9)] [] z) (a2 : Int32) (a3 : Int32) (a4 : Int32) (a5 : Int32) (a6 : Int32) (ka7 : Nat) (a8 : Int32) (a9 : Int32) (s0 : Int32) (hka7 : ka7 < zk_cnt 4) (z : zk_Z), fX8_heap_B165 c64 a2 a3 a4 a5 a6 ka7 a8 a9 s0 z = some (r, z') → zk_G p l e (headSpec wsX8_heap { frames := 7, cells := 0, slots := 0, locals := 156 }).room s m args below meth c E 11 0 0 (MQ below (zk_Qi E r z') args s 0 0 (zk_A E)) 165 [(0, .ref (E.2.1 0 0)), (2, .int a2), (3, .int a3), (4, .int a4), (5, .int a5), (6, .int a6), (7, .ref (E.2.1 4 ka7)), (8, .int a8), (9, .int a9)] [.int s0] z := by
    intro c64 hc64 a2 a3 a4 a5 a6 ka7 a8 a9 s0 hka7 z h
    unfold fX8_heap_B165 at h
    refine zk_istore X (lv' := [(10, .int s0), (0, .ref (E.2.1 0 0)), (2, .int a2), (3, .int a3), (4, .int a4), (5, .int a5), (6, .int a6), (7, .ref (E.2.1 4 ka7)), (8, .int a8), (9, .int a9)]) dX8_heap_165 (by decide) rfl ?_
    exact zk_sub [1, 2, 3, 4, 5, 6, 7, 8, 9, 0] rfl (B167 _ hc64 _ _ _ _ _ _ _ _ _ (hka7) _ h)
  have L64 : ∀ (n : Nat) (a2 : Int32) (a3 : Int32) (a4 : Int32) (a5 : Int32) (a6 : Int32) (ka7 : Nat) (a8 : Int32) (a9 : Int32) (hka7 : ka7 < zk_cnt 4) (z : zk_Z), fX8_heap_L64 n a2 a3 a4 a5 a6 ka7 a8 a9 z = some (r, z') → zk_G p l e (headSpec wsX8_heap { frames := 7, cells := 0, slots := 0, locals := 156 }).room s m args below meth c E 11 0 0 (MQ below (zk_Qi E r z') args s 0 0 (zk_A E)) 64 [(0, .ref (E.2.1 0 0)), (2, .int a2), (3, .int a3), (4, .int a4), (5, .int a5), (6, .int a6), (7, .ref (E.2.1 4 ka7)), (8, .int a8), (9, .int a9)] [] z := by
    intro n
    induction n with
    | zero => intro a2 a3 a4 a5 a6 ka7 a8 a9 hka7 z h; exact absurd h (by simp [fX8_heap_L64])
    | succ n ih =>
      intro a2 a3 a4 a5 a6 ka7 a8 a9 hka7 z h
      rw [fX8_heap_L64] at h
      refine zk_iload X 8 dX8_heap_64 rfl ?_
      refine zk_iload_n X 2 dX8_heap_66 rfl rfl ?_
      refine zk_icmp_ge X (tgt := 181) dX8_heap_67 (by decide) h (fun h => ?_) (fun h => ?_)
      · refine zk_iload X 7 dX8_heap_181 rfl ?_
        exact zk_ireturn X hr dX8_heap_183 h
      · refine zk_aload_n X 0 dX8_heap_70 rfl rfl ?_
        refine zk_get X iX8 (g := 0) (Nat.zero_lt_one) rfl rfl 5 (by decide) w0 rfl dX8_heap_71 ?_
        refine zk_aload_n X 0 dX8_heap_74 rfl rfl ?_
        refine zk_get X iX8 (g := 0) (Nat.zero_lt_one) rfl rfl 7 (by decide) w1 rfl dX8_heap_75 ?_
        refine zk_aload X 6 dX8_heap_78 rfl ?_
        refine zk_iload_n X 1 dX8_heap_80 rfl rfl ?_
        refine zk_iload X 8 dX8_heap_81 rfl ?_
        refine zk_iadd X dX8_heap_83 ?_
        refine zk_vv X h (fun rr zz hf => ct_X3_fill l E hi 8 (Nat.le_of_ble_eq_true rfl) ka7 (hka7) (a2 + a9) _ rr zz hf) (cwV 3 X.1.2.2.2.2 gX8_heap_X3_fill rfl rfl rfl (by decide +kernel) ⟨Nat.le_of_ble_eq_true rfl, Nat.le_of_ble_eq_true rfl⟩) (zk_recv X (g := 15) (Nat.zero_lt_one) rfl rfl) rfl rfl (Nat.le_of_ble_eq_true rfl) dX8_heap_84 (fun z8 h => ?_)
        refine zk_iload X 5 dX8_heap_87 rfl ?_
        refine zk_iconst X (v := 2) dX8_heap_89 (by decide) ?_
        refine zk_icmp_ne X (tgt := 116) dX8_heap_90 (by decide) h (fun h => ?_) (fun h => ?_)
        · refine zk_aload_n X 0 dX8_heap_93 rfl rfl ?_
          refine zk_get X iX8 (g := 0) (Nat.zero_lt_one) rfl rfl 7 (by decide) w1 rfl dX8_heap_94 ?_
          refine zk_iconst X (v := 0) dX8_heap_97 (by decide) ?_
          refine zk_iconst X (v := 0) dX8_heap_98 (by decide) ?_
          refine zk_vi X h (fun rr zz hf => ct_X7_countAnswers l E hi 8 (Nat.le_of_ble_eq_true rfl) 0 0 _ rr zz hf) (cwV 2 X.1.2.2.2.2 gX8_heap_X7_countAnswers rfl rfl rfl (by decide +kernel) ⟨Nat.le_of_ble_eq_true rfl, Nat.le_of_ble_eq_true rfl⟩) (zk_recv X (g := 7) (Nat.le_of_ble_eq_true rfl) rfl rfl) rfl rfl (Nat.le_of_ble_eq_true rfl) dX8_heap_99 (fun r11 z10 h => ?_)
          refine zk_iconst X (v := 1) dX8_heap_102 (by decide) ?_
          refine zk_icmp_ne X (tgt := 110) dX8_heap_103 (by decide) h (fun h => ?_) (fun h => ?_)
          · refine zk_iconst X (v := 1) dX8_heap_106 (by decide) ?_
            refine zk_goto X (tgt := 111) dX8_heap_107 (by decide) ?_
            exact zk_sub [0, 1, 2, 3, 4, 5, 6, 7, 8] rfl (B111 _ ih _ _ _ _ _ _ _ _ _ (hka7) _ h)
          · refine zk_iconst X (v := 0) dX8_heap_110 (by decide) ?_
            exact zk_sub [0, 1, 2, 3, 4, 5, 6, 7, 8] rfl (B111 _ ih _ _ _ _ _ _ _ _ _ (hka7) _ h)
        · refine zk_aload_n X 0 dX8_heap_116 rfl rfl ?_
          refine zk_get X iX8 (g := 0) (Nat.zero_lt_one) rfl rfl 6 (by decide) w2 rfl dX8_heap_117 ?_
          refine zk_aload_n X 0 dX8_heap_120 rfl rfl ?_
          refine zk_get X iX8 (g := 0) (Nat.zero_lt_one) rfl rfl 7 (by decide) w1 rfl dX8_heap_121 ?_
          refine zk_iload X 3 dX8_heap_124 rfl ?_
          refine zk_iload X 4 dX8_heap_126 rfl ?_
          refine zk_vv X h (fun rr zz hf => ct_X1_seek l E hi 8 (Nat.le_of_ble_eq_true rfl) a4 a5 _ rr zz hf) (cwV 3 X.1.2.2.2.2 gX8_heap_X1_seek rfl rfl rfl (by decide +kernel) ⟨Nat.le_of_ble_eq_true rfl, Nat.le_of_ble_eq_true rfl⟩) (zk_recv X (g := 16) (Nat.zero_lt_one) rfl rfl) rfl rfl (Nat.le_of_ble_eq_true rfl) dX8_heap_128 (fun z12 h => ?_)
          refine zk_iload X 5 dX8_heap_131 rfl ?_
          refine zk_if_ne X (tgt := 154) dX8_heap_133 (by decide) h (fun h => ?_) (fun h => ?_)
          · refine zk_aload_n X 0 dX8_heap_136 rfl rfl ?_
            refine zk_get X iX8 (g := 0) (Nat.zero_lt_one) rfl rfl 6 (by decide) w2 rfl dX8_heap_137 ?_
            refine zk_get X iX1 (g := 16) (Nat.zero_lt_one) rfl rfl 0 (by decide) w3 rfl dX8_heap_140 ?_
            refine zk_if_lt X (tgt := 150) dX8_heap_143 (by decide) h (fun h => ?_) (fun h => ?_)
            · refine zk_iconst X (v := 0) dX8_heap_150 (by decide) ?_
              refine zk_goto X (tgt := 165) dX8_heap_151 (by decide) ?_
              exact zk_sub [0, 1, 2, 3, 4, 5, 6, 7, 8] rfl (B165 _ ih _ _ _ _ _ _ _ _ _ (hka7) _ h)
            · refine zk_iconst X (v := 1) dX8_heap_146 (by decide) ?_
              refine zk_goto X (tgt := 165) dX8_heap_147 (by decide) ?_
              exact zk_sub [0, 1, 2, 3, 4, 5, 6, 7, 8] rfl (B165 _ ih _ _ _ _ _ _ _ _ _ (hka7) _ h)
          · refine zk_aload_n X 0 dX8_heap_154 rfl rfl ?_
            refine zk_get X iX8 (g := 0) (Nat.zero_lt_one) rfl rfl 6 (by decide) w2 rfl dX8_heap_155 ?_
            refine zk_aload_n X 0 dX8_heap_158 rfl rfl ?_
            refine zk_get X iX8 (g := 0) (Nat.zero_lt_one) rfl rfl 7 (by decide) w1 rfl dX8_heap_159 ?_
            refine zk_vi X h (fun rr zz hf => ct_X1_foundHidden l E hi 8 (Nat.le_of_ble_eq_true rfl) _ rr zz hf) (cwV 1 X.1.2.2.2.2 gX8_heap_X1_foundHidden rfl rfl rfl (by decide +kernel) ⟨Nat.le_of_ble_eq_true rfl, Nat.le_of_ble_eq_true rfl⟩) (zk_recv X (g := 16) (Nat.zero_lt_one) rfl rfl) rfl rfl (Nat.le_of_ble_eq_true rfl) dX8_heap_162 (fun r15 z14 h => ?_)
            exact zk_sub [0, 1, 2, 3, 4, 5, 6, 7, 8] rfl (B165 _ ih _ _ _ _ _ _ _ _ _ (hka7) _ h)
  unfold fX8_heap at h
  refine zk_aload_n X 0 dX8_heap_0 rfl rfl ?_
  refine zk_iload_n X 1 dX8_heap_1 rfl rfl ?_
  refine zk_vq X h (fun rr zz hf => ct_X8_recipeAt l E hi  x1 _ rr zz hf) (cwV 1 X.1.2.2.2.2 gX8_heap_X8_recipeAt rfl rfl rfl (by decide +kernel) ⟨Nat.le_of_ble_eq_true rfl, Nat.le_of_ble_eq_true rfl⟩) (zk_recv X (g := 0) (Nat.zero_lt_one) rfl rfl) rfl rfl (Nat.le_of_ble_eq_true rfl) dX8_heap_2 (fun z1 h => ?_) (fun kk3 z1 hkk3 h => ?_)
  · refine zk_astoreN X (lv' := [(7, .null), (0, .ref (E.2.1 0 0)), (1, .int x1), (2, .int x2), (3, .int x3), (4, .int x4), (5, .int x5), (6, .int x6)]) dX8_heap_5 (by decide) rfl ?_
    refine zk_aloadN X 0 dX8_heap_7 rfl ?_
    refine zk_ifnonnullN X dX8_heap_9 ?_
    refine zk_bipush X (v := -5) dX8_heap_12 (by decide) ?_
    exact zk_ireturn X hr dX8_heap_14 h
  · refine zk_astore X (lv' := [(7, .ref (E.2.1 4 kk3)), (0, .ref (E.2.1 0 0)), (1, .int x1), (2, .int x2), (3, .int x3), (4, .int x4), (5, .int x5), (6, .int x6)]) dX8_heap_5 (by decide) rfl ?_
    refine zk_aload X 0 dX8_heap_7 rfl ?_
    refine zk_ifnonnull X (tgt := 15) dX8_heap_9 (by decide) ?_
    refine zk_iload_n X 3 dX8_heap_15 rfl rfl ?_
    refine zk_iload_n X 4 dX8_heap_16 rfl rfl ?_
    refine zk_si X h (fun rr zz hf => ct_X8_isHeap l E hi  x2 x3 _ rr zz hf) (va_cwS 2 X.1.2.2.2.2 gX8_heap_X8_isHeap rfl rfl rfl (by decide +kernel) ⟨Nat.le_of_ble_eq_true rfl, Nat.le_of_ble_eq_true rfl⟩) rfl rfl (Nat.le_of_ble_eq_true rfl) dX8_heap_17 (fun r5 z4 h => ?_)
    refine zk_if_eq X (tgt := 55) dX8_heap_20 (by decide) h (fun h => ?_) (fun h => ?_)
    · refine zk_bipush X (v := -2) dX8_heap_55 (by decide) ?_
      exact zk_ireturn X hr dX8_heap_57 h
    · refine zk_iload X 5 dX8_heap_23 rfl ?_
      refine zk_si X h (fun rr zz hf => ct_X8_isFinder l E hi  x4 _ rr zz hf) (va_cwS 1 X.1.2.2.2.2 gX8_heap_X8_isFinder rfl rfl rfl (by decide +kernel) ⟨Nat.le_of_ble_eq_true rfl, Nat.le_of_ble_eq_true rfl⟩) rfl rfl (Nat.le_of_ble_eq_true rfl) dX8_heap_25 (fun r7 z6 h => ?_)
      refine zk_if_eq X (tgt := 55) dX8_heap_28 (by decide) h (fun h => ?_) (fun h => ?_)
      · refine zk_bipush X (v := -2) dX8_heap_55 (by decide) ?_
        exact zk_ireturn X hr dX8_heap_57 h
      · refine zk_iload X 6 dX8_heap_31 rfl ?_
        refine zk_if_lt X (tgt := 55) dX8_heap_33 (by decide) h (fun h => ?_) (fun h => ?_)
        · refine zk_bipush X (v := -2) dX8_heap_55 (by decide) ?_
          exact zk_ireturn X hr dX8_heap_57 h
        · refine zk_iload X 6 dX8_heap_36 rfl ?_
          refine zk_sipush X (v := 200) dX8_heap_38 (by decide) ?_
          refine zk_icmp_gt X (tgt := 55) dX8_heap_41 (by decide) h (fun h => ?_) (fun h => ?_)
          · refine zk_bipush X (v := -2) dX8_heap_55 (by decide) ?_
            exact zk_ireturn X hr dX8_heap_57 h
          · refine zk_iload X 7 dX8_heap_44 rfl ?_
            refine zk_if_lt X (tgt := 55) dX8_heap_46 (by decide) h (fun h => ?_) (fun h => ?_)
            · refine zk_bipush X (v := -2) dX8_heap_55 (by decide) ?_
              exact zk_ireturn X hr dX8_heap_57 h
            · refine zk_iload X 7 dX8_heap_49 rfl ?_
              refine zk_iconst X (v := 2) dX8_heap_51 (by decide) ?_
              refine zk_icmp_le X (tgt := 58) dX8_heap_52 (by decide) h (fun h => ?_) (fun h => ?_)
              · refine zk_iconst X (v := 0) dX8_heap_58 (by decide) ?_
                refine zk_istore X (lv' := [(8, .int 0), (7, .ref (E.2.1 4 kk3)), (0, .ref (E.2.1 0 0)), (1, .int x1), (2, .int x2), (3, .int x3), (4, .int x4), (5, .int x5), (6, .int x6)]) dX8_heap_59 (by decide) rfl ?_
                refine zk_iconst X (v := 0) dX8_heap_61 (by decide) ?_
                refine zk_istore X (lv' := [(9, .int 0), (8, .int 0), (7, .ref (E.2.1 4 kk3)), (0, .ref (E.2.1 0 0)), (1, .int x1), (2, .int x2), (3, .int x3), (4, .int x4), (5, .int x5), (6, .int x6)]) dX8_heap_62 (by decide) rfl ?_
                exact zk_sub [3, 5, 6, 7, 8, 9, 2, 1, 0] rfl (L64  _ _ _ _ _ _ _ _ _ (hkk3) _ h)
              · refine zk_bipush X (v := -2) dX8_heap_55 (by decide) ?_
                exact zk_ireturn X hr dX8_heap_57 h
def fX8_hint_B103 (c33 : Nat → Int32 → Int32 → Int32 → Int32 → zk_Z → Option (Int32 × zk_Z)) (ka2 : Nat) (a3 : Int32) (a4 : Int32) (a5 : Int32) (a6 : Int32) (z : zk_Z) : Option (Int32 × zk_Z) := c33 ka2 a3 a4 a5 (a6 + 1) z
def fX8_hint_B79 (c33 : Nat → Int32 → Int32 → Int32 → Int32 → zk_Z → Option (Int32 × zk_Z)) (ka2 : Nat) (a3 : Int32) (a4 : Int32) (a5 : Int32) (a6 : Int32) (a7 : Int32) (z : zk_Z) : Option (Int32 × zk_Z) := if a7 ≤ 0 then fX8_hint_B103 c33 ka2 a3 a4 a5 a6 z else if a5 ≤ a7 then fX8_hint_B103 c33 ka2 a3 a4 a5 a6 z else fX8_hint_B103 c33 ka2 a3 ((2 * a6) + 1) a7 a6 z
def fX8_hint_L33 : Nat → Nat → Int32 → Int32 → Int32 → Int32 → zk_Z → Option (Int32 × zk_Z)
  | 0, _, _, _, _, _, _ => none
  | n + 1, ka2, a3, a4, a5, a6, z => if (z.1 7 ka2 1) ≤ a6 then some (a4, z) else zk_gd (zk_ix a6 10) (if (a3 - (z.1 19 0 a6.toNatClampNeg)) ≤ 0 then fX8_hint_B79 (fX8_hint_L33 n) ka2 a3 a4 a5 a6 (z.1 19 0 a6.toNatClampNeg) z else if a5 ≤ (a3 - (z.1 19 0 a6.toNatClampNeg)) then fX8_hint_B79 (fX8_hint_L33 n) ka2 a3 a4 a5 a6 (z.1 19 0 a6.toNatClampNeg) z else fX8_hint_B79 (fX8_hint_L33 n) ka2 a3 (2 * a6) (a3 - (z.1 19 0 a6.toNatClampNeg)) a6 (z.1 19 0 a6.toNatClampNeg) z)
def fX8_hint (x1 : Int32) (z : zk_Z) : Option (Int32 × zk_Z) := zk_bd (fX8_taskAt x1 z) (fun r2 z1 => zk_oc r2 (some ((-5), z1)) (fun kk3 => zk_bd (fX7_tallyAnswers kk3 z1) (fun r5 z4 => fX8_hint_L33 zk_FU kk3 r5 (-1) (r5 + 1) 0 z4)))
set_option maxRecDepth 100000 in
set_option maxHeartbeats 8000000 in
theorem ct_X8_hint (l : Launch) (E : zk_E) (hi : zk_inj E) (x1 : Int32) (z : zk_Z) (r : Int32) (z' : zk_Z) (h : fX8_hint  x1 z = some (r, z')) : Met l yX8_hint wsX8_hint { frames := 6, cells := 0, slots := 0, locals := 132 } (va_Pc [.ref (E.2.1 0 0), .int x1] (zk_W E z)) (zk_Qi E r z') 0 0 (zk_A E) := by
  refine zk_met (cc := cX8_hint) (maxL := 9) (ret := (some .int)) (own := RX8) (by decide) rfl rfl hi (Nat.le_of_ble_eq_true rfl) ?_
  intro p e s m args below meth c X hr
  have iX7 : ∀ w ∈ u_ws RX7 TX7 8, w ∈ wsX8_hint := by decide +kernel
  have iX8 : ∀ w ∈ u_ws RX8 TX8 15, w ∈ wsX8_hint := by decide +kernel
  have w0 : Cond.fieldLink RX8 44 "HiddenWorks" "trueAnswers" "[I" ∈ wsX8_hint := by decide +kernel
  have w1 : Cond.fieldLink RX8 170 "HiddenWorks$Task" "letters" "I" ∈ wsX8_hint := by decide +kernel
  have B103 : ∀ (c33 : Nat → Int32 → Int32 → Int32 → Int32 → zk_Z → Option (Int32 × zk_Z)) (hc33 : ∀ (ka2 : Nat) (a3 : Int32) (a4 : Int32) (a5 : Int32) (a6 : Int32) (hka2 : ka2 < zk_cnt 7) (z : zk_Z), c33 ka2 a3 a4 a5 a6 z = some (r, z') → zk_G p l e (headSpec wsX8_hint { frames := 6, cells := 0, slots := 0, locals := 132 }).room s m args below meth c E 9 0 0 (MQ below (zk_Qi E r z') args s 0 0 (zk_A E)) 33 [(0, .ref (E.2.1 0 0)), (2, .ref (E.2.1 7 ka2)), (3, .int a3), (4, .int a4), (5, .int a5), (6, .int a6)] [] z) (ka2 : Nat) (a3 : Int32) (a4 : Int32) (a5 : Int32) (a6 : Int32) (hka2 : ka2 < zk_cnt 7) (z : zk_Z), fX8_hint_B103 c33 ka2 a3 a4 a5 a6 z = some (r, z') → zk_G p l e (headSpec wsX8_hint { frames := 6, cells := 0, slots := 0, locals := 132 }).room s m args below meth c E 9 0 0 (MQ below (zk_Qi E r z') args s 0 0 (zk_A E)) 103 [(0, .ref (E.2.1 0 0)), (2, .ref (E.2.1 7 ka2)), (3, .int a3), (4, .int a4), (5, .int a5), (6, .int a6)] [] z := by
    intro c33 hc33 ka2 a3 a4 a5 a6 hka2 z h
    unfold fX8_hint_B103 at h
    refine zk_iinc X (lv' := [(6, .int (a6 + 1)), (0, .ref (E.2.1 0 0)), (2, .ref (E.2.1 7 ka2)), (3, .int a3), (4, .int a4), (5, .int a5)]) 5 dX8_hint_103 rfl rfl (by decide) rfl ?_
    refine zk_goto X (tgt := 33) dX8_hint_106 (by decide) ?_
    exact zk_sub [1, 2, 3, 4, 5, 0] rfl (hc33 _ _ _ _ _ (hka2) _ h)
  have B79 : ∀ (c33 : Nat → Int32 → Int32 → Int32 → Int32 → zk_Z → Option (Int32 × zk_Z)) (hc33 : ∀ (ka2 : Nat) (a3 : Int32) (a4 : Int32) (a5 : Int32) (a6 : Int32) (hka2 : ka2 < zk_cnt 7) (z : zk_Z), c33 ka2 a3 a4 a5 a6 z = some (r, z') → zk_G p l e (headSpec wsX8_hint { frames := 6, cells := 0, slots := 0, locals := 132 }).room s m args below meth c E 9 0 0 (MQ below (zk_Qi E r z') args s 0 0 (zk_A E)) 33 [(0, .ref (E.2.1 0 0)), (2, .ref (E.2.1 7 ka2)), (3, .int a3), (4, .int a4), (5, .int a5), (6, .int a6)] [] z) (ka2 : Nat) (a3 : Int32) (a4 : Int32) (a5 : Int32) (a6 : Int32) (a7 : Int32) (hka2 : ka2 < zk_cnt 7) (z : zk_Z), fX8_hint_B79 c33 ka2 a3 a4 a5 a6 a7 z = some (r, z') → zk_G p l e (headSpec wsX8_hint { frames := 6, cells := 0, slots := 0, locals := 132 }).room s m args below meth c E 9 0 0 (MQ below (zk_Qi E r z') args s 0 0 (zk_A E)) 79 [(0, .ref (E.2.1 0 0)), (2, .ref (E.2.1 7 ka2)), (3, .int a3), (4, .int a4), (5, .int a5), (6, .int a6), (7, .int a7)] [] z := by
    intro c33 hc33 ka2 a3 a4 a5 a6 a7 hka2 z h
    unfold fX8_hint_B79 at h
    refine zk_iload X 6 dX8_hint_79 rfl ?_
    refine zk_if_le X (tgt := 103) dX8_hint_81 (by decide) h (fun h => ?_) (fun h => ?_)
    · exact zk_sub [0, 1, 2, 3, 4, 5] rfl (B103 _ hc33 _ _ _ _ _ (hka2) _ h)
    · refine zk_iload X 6 dX8_hint_84 rfl ?_
      refine zk_iload X 4 dX8_hint_86 rfl ?_
      refine zk_icmp_ge X (tgt := 103) dX8_hint_88 (by decide) h (fun h => ?_) (fun h => ?_)
      · exact zk_sub [0, 1, 2, 3, 4, 5] rfl (B103 _ hc33 _ _ _ _ _ (hka2) _ h)
      · refine zk_iconst X (v := 2) dX8_hint_91 (by decide) ?_
        refine zk_iload X 5 dX8_hint_92 rfl ?_
        refine zk_imul X dX8_hint_94 ?_
        refine zk_iconst X (v := 1) dX8_hint_95 (by decide) ?_
        refine zk_iadd X dX8_hint_96 ?_
        refine zk_istore X (lv' := [(4, .int ((2 * a6) + 1)), (0, .ref (E.2.1 0 0)), (2, .ref (E.2.1 7 ka2)), (3, .int a3), (5, .int a5), (6, .int a6), (7, .int a7)]) dX8_hint_97 (by decide) rfl ?_
        refine zk_iload X 6 dX8_hint_99 rfl ?_
        refine zk_istore X (lv' := [(5, .int a7), (4, .int ((2 * a6) + 1)), (0, .ref (E.2.1 0 0)), (2, .ref (E.2.1 7 ka2)), (3, .int a3), (6, .int a6), (7, .int a7)]) dX8_hint_101 (by decide) rfl ?_
        exact zk_sub [2, 3, 4, 1, 0, 5] rfl (B103 _ hc33 _ _ _ _ _ (hka2) _ h)
  have L33 : ∀ (n : Nat) (ka2 : Nat) (a3 : Int32) (a4 : Int32) (a5 : Int32) (a6 : Int32) (hka2 : ka2 < zk_cnt 7) (z : zk_Z), fX8_hint_L33 n ka2 a3 a4 a5 a6 z = some (r, z') → zk_G p l e (headSpec wsX8_hint { frames := 6, cells := 0, slots := 0, locals := 132 }).room s m args below meth c E 9 0 0 (MQ below (zk_Qi E r z') args s 0 0 (zk_A E)) 33 [(0, .ref (E.2.1 0 0)), (2, .ref (E.2.1 7 ka2)), (3, .int a3), (4, .int a4), (5, .int a5), (6, .int a6)] [] z := by
    intro n
    induction n with
    | zero => intro ka2 a3 a4 a5 a6 hka2 z h; exact absurd h (by simp [fX8_hint_L33])
    | succ n ih =>
      intro ka2 a3 a4 a5 a6 hka2 z h
      rw [fX8_hint_L33] at h
      refine zk_iload X 5 dX8_hint_33 rfl ?_
      refine zk_aload_n X 1 dX8_hint_35 rfl rfl ?_
      refine zk_get X iX7 (g := 7) (hka2) rfl rfl 1 (by decide) w1 rfl dX8_hint_36 ?_
      refine zk_icmp_ge X (tgt := 109) dX8_hint_39 (by decide) h (fun h => ?_) (fun h => ?_)
      · refine zk_iload X 3 dX8_hint_109 rfl ?_
        exact zk_ireturn X hr dX8_hint_111 h
      · refine zk_aload_n X 0 dX8_hint_42 rfl rfl ?_
        refine zk_get X iX8 (g := 0) (Nat.zero_lt_one) rfl rfl 10 (by decide) w0 rfl dX8_hint_43 ?_
        refine zk_iload X 5 dX8_hint_46 rfl ?_
        refine zk_iald X (g := 19) (Nat.zero_lt_one) rfl dX8_hint_48 h (fun h => ?_)
        refine zk_istore X (lv' := [(7, .int (z.1 19 0 a6.toNatClampNeg)), (0, .ref (E.2.1 0 0)), (2, .ref (E.2.1 7 ka2)), (3, .int a3), (4, .int a4), (5, .int a5), (6, .int a6)]) dX8_hint_49 (by decide) rfl ?_
        refine zk_iload_n X 3 dX8_hint_51 rfl rfl ?_
        refine zk_iload X 0 dX8_hint_52 rfl ?_
        refine zk_isub X dX8_hint_54 ?_
        refine zk_istore X (lv' := [(8, .int (a3 - (z.1 19 0 a6.toNatClampNeg))), (7, .int (z.1 19 0 a6.toNatClampNeg)), (0, .ref (E.2.1 0 0)), (2, .ref (E.2.1 7 ka2)), (3, .int a3), (4, .int a4), (5, .int a5), (6, .int a6)]) dX8_hint_55 (by decide) rfl ?_
        refine zk_iload X 0 dX8_hint_57 rfl ?_
        refine zk_if_le X (tgt := 79) dX8_hint_59 (by decide) h (fun h => ?_) (fun h => ?_)
        · exact zk_sub [2, 3, 4, 5, 6, 7, 1] rfl (B79 _ ih _ _ _ _ _ _ (hka2) _ h)
        · refine zk_iload X 0 dX8_hint_62 rfl ?_
          refine zk_iload X 6 dX8_hint_64 rfl ?_
          refine zk_icmp_ge X (tgt := 79) dX8_hint_66 (by decide) h (fun h => ?_) (fun h => ?_)
          · exact zk_sub [2, 3, 4, 5, 6, 7, 1] rfl (B79 _ ih _ _ _ _ _ _ (hka2) _ h)
          · refine zk_iconst X (v := 2) dX8_hint_69 (by decide) ?_
            refine zk_iload X 7 dX8_hint_70 rfl ?_
            refine zk_imul X dX8_hint_72 ?_
            refine zk_istore X (lv' := [(4, .int (2 * a6)), (8, .int (a3 - (z.1 19 0 a6.toNatClampNeg))), (7, .int (z.1 19 0 a6.toNatClampNeg)), (0, .ref (E.2.1 0 0)), (2, .ref (E.2.1 7 ka2)), (3, .int a3), (5, .int a5), (6, .int a6)]) dX8_hint_73 (by decide) rfl ?_
            refine zk_iload X 1 dX8_hint_75 rfl ?_
            refine zk_istore X (lv' := [(5, .int (a3 - (z.1 19 0 a6.toNatClampNeg))), (4, .int (2 * a6)), (8, .int (a3 - (z.1 19 0 a6.toNatClampNeg))), (7, .int (z.1 19 0 a6.toNatClampNeg)), (0, .ref (E.2.1 0 0)), (2, .ref (E.2.1 7 ka2)), (3, .int a3), (6, .int a6)]) dX8_hint_77 (by decide) rfl ?_
            exact zk_sub [4, 5, 6, 1, 0, 7, 3] rfl (B79 _ ih _ _ _ _ _ _ (hka2) _ h)
  unfold fX8_hint at h
  refine zk_aload_n X 0 dX8_hint_0 rfl rfl ?_
  refine zk_iload_n X 1 dX8_hint_1 rfl rfl ?_
  refine zk_vq X h (fun rr zz hf => ct_X8_taskAt l E hi  x1 _ rr zz hf) (cwV 1 X.1.2.2.2.2 gX8_hint_X8_taskAt rfl rfl rfl (by decide +kernel) ⟨Nat.le_of_ble_eq_true rfl, Nat.le_of_ble_eq_true rfl⟩) (zk_recv X (g := 0) (Nat.zero_lt_one) rfl rfl) rfl rfl (Nat.le_of_ble_eq_true rfl) dX8_hint_2 (fun z1 h => ?_) (fun kk3 z1 hkk3 h => ?_)
  · refine zk_astore_nN X (lv' := [(2, .null), (0, .ref (E.2.1 0 0)), (1, .int x1)]) dX8_hint_5 rfl (by decide) rfl ?_
    refine zk_aload_nN X 0 dX8_hint_6 rfl rfl ?_
    refine zk_ifnonnullN X dX8_hint_7 ?_
    refine zk_bipush X (v := -5) dX8_hint_10 (by decide) ?_
    exact zk_ireturn X hr dX8_hint_12 h
  · refine zk_astore_n X (lv' := [(2, .ref (E.2.1 7 kk3)), (0, .ref (E.2.1 0 0)), (1, .int x1)]) dX8_hint_5 rfl (by decide) rfl ?_
    refine zk_aload_n X 0 dX8_hint_6 rfl rfl ?_
    refine zk_ifnonnull X (tgt := 13) dX8_hint_7 (by decide) ?_
    refine zk_aload_n X 0 dX8_hint_13 rfl rfl ?_
    refine zk_aload_n X 1 dX8_hint_14 rfl rfl ?_
    refine zk_get X iX8 (g := 0) (Nat.zero_lt_one) rfl rfl 10 (by decide) w0 rfl dX8_hint_15 ?_
    refine zk_vi X h (fun rr zz hf => ct_X7_tallyAnswers l E hi kk3 (hkk3)  _ rr zz hf) (cwV 1 X.1.2.2.2.2 gX8_hint_X7_tallyAnswers rfl rfl rfl (by decide +kernel) ⟨Nat.le_of_ble_eq_true rfl, Nat.le_of_ble_eq_true rfl⟩) (zk_recv X (g := 7) (hkk3) rfl rfl) rfl rfl (Nat.le_of_ble_eq_true rfl) dX8_hint_18 (fun r5 z4 h => ?_)
    refine zk_istore_n X (lv' := [(3, .int r5), (2, .ref (E.2.1 7 kk3)), (0, .ref (E.2.1 0 0)), (1, .int x1)]) dX8_hint_21 rfl (by decide) rfl ?_
    refine zk_iconst X (v := -1) dX8_hint_22 (by decide) ?_
    refine zk_istore X (lv' := [(4, .int (-1)), (3, .int r5), (2, .ref (E.2.1 7 kk3)), (0, .ref (E.2.1 0 0)), (1, .int x1)]) dX8_hint_23 (by decide) rfl ?_
    refine zk_iload_n X 1 dX8_hint_25 rfl rfl ?_
    refine zk_iconst X (v := 1) dX8_hint_26 (by decide) ?_
    refine zk_iadd X dX8_hint_27 ?_
    refine zk_istore X (lv' := [(5, .int (r5 + 1)), (4, .int (-1)), (3, .int r5), (2, .ref (E.2.1 7 kk3)), (0, .ref (E.2.1 0 0)), (1, .int x1)]) dX8_hint_28 (by decide) rfl ?_
    refine zk_iconst X (v := 0) dX8_hint_30 (by decide) ?_
    refine zk_istore X (lv' := [(6, .int 0), (5, .int (r5 + 1)), (4, .int (-1)), (3, .int r5), (2, .ref (E.2.1 7 kk3)), (0, .ref (E.2.1 0 0)), (1, .int x1)]) dX8_hint_31 (by decide) rfl ?_
    exact zk_sub [5, 4, 3, 2, 1, 0] rfl (L33  _ _ _ _ _ _ (hkk3) _ h)
def fX8_image (z : zk_Z) : Option (Int32 × zk_Z) := some ((zk_sI z 0 0 14 (z.1 0 0 12)).1 0 0 12, zk_sI z 0 0 14 (z.1 0 0 12))
set_option maxRecDepth 100000 in
set_option maxHeartbeats 8000000 in
theorem ct_X8_image (l : Launch) (E : zk_E) (hi : zk_inj E) (z : zk_Z) (r : Int32) (z' : zk_Z) (h : fX8_image   z = some (r, z')) : Met l yX8_image wsX8_image { frames := 0, cells := 0, slots := 0, locals := 0 } (va_Pc [.ref (E.2.1 0 0)] (zk_W E z)) (zk_Qi E r z') 0 0 (zk_A E) := by
  refine zk_met (cc := cX8_image) (maxL := 1) (ret := (some .int)) (own := RX8) (by decide) rfl rfl hi (Nat.le_of_ble_eq_true rfl) ?_
  intro p e s m args below meth c X hr
  have iX8 : ∀ w ∈ u_ws RX8 TX8 15, w ∈ wsX8_image := by decide +kernel
  have w0 : Cond.fieldLink RX8 110 "HiddenWorks" "taskCount" "I" ∈ wsX8_image := by decide +kernel
  have w1 : Cond.fieldLink RX8 72 "HiddenWorks" "tasksInImage" "I" ∈ wsX8_image := by decide +kernel
  unfold fX8_image at h
  refine zk_aload_n X 0 dX8_image_0 rfl rfl ?_
  refine zk_aload_n X 0 dX8_image_1 rfl rfl ?_
  refine zk_get X iX8 (g := 0) (Nat.zero_lt_one) rfl rfl 12 (by decide) w0 rfl dX8_image_2 ?_
  refine zk_putI X (ty := .int) iX8 tyX8 tyX8_ok nmX8 (g := 0) (Nat.zero_lt_one) rfl rfl 14 (by decide) w1 rfl (by decide +kernel) rfl rfl (Nat.le_of_ble_eq_true rfl) rfl dX8_image_5 ?_
  refine zk_aload_n X 0 dX8_image_8 rfl rfl ?_
  refine zk_get X iX8 (g := 0) (Nat.zero_lt_one) rfl rfl 12 (by decide) w0 rfl dX8_image_9 ?_
  exact zk_ireturn X hr dX8_image_12 h
def fX8_keepTask (z : zk_Z) : Option (Int32 × zk_Z) := some (((zk_sI z 0 0 12 ((z.1 0 0 12) + 1)).1 0 0 12) - 1, zk_sI z 0 0 12 ((z.1 0 0 12) + 1))
set_option maxRecDepth 100000 in
set_option maxHeartbeats 8000000 in
theorem ct_X8_keepTask (l : Launch) (E : zk_E) (hi : zk_inj E) (z : zk_Z) (r : Int32) (z' : zk_Z) (h : fX8_keepTask   z = some (r, z')) : Met l yX8_keepTask wsX8_keepTask { frames := 0, cells := 0, slots := 0, locals := 0 } (va_Pc [.ref (E.2.1 0 0)] (zk_W E z)) (zk_Qi E r z') 0 0 (zk_A E) := by
  refine zk_met (cc := cX8_keepTask) (maxL := 1) (ret := (some .int)) (own := RX8) (by decide) rfl rfl hi (Nat.le_of_ble_eq_true rfl) ?_
  intro p e s m args below meth c X hr
  have iX8 : ∀ w ∈ u_ws RX8 TX8 15, w ∈ wsX8_keepTask := by decide +kernel
  have w0 : Cond.fieldLink RX8 110 "HiddenWorks" "taskCount" "I" ∈ wsX8_keepTask := by decide +kernel
  unfold fX8_keepTask at h
  refine zk_aload_n X 0 dX8_keepTask_0 rfl rfl ?_
  refine zk_dup X dX8_keepTask_1 rfl ?_
  refine zk_get X iX8 (g := 0) (Nat.zero_lt_one) rfl rfl 12 (by decide) w0 rfl dX8_keepTask_2 ?_
  refine zk_iconst X (v := 1) dX8_keepTask_5 (by decide) ?_
  refine zk_iadd X dX8_keepTask_6 ?_
  refine zk_putI X (ty := .int) iX8 tyX8 tyX8_ok nmX8 (g := 0) (Nat.zero_lt_one) rfl rfl 12 (by decide) w0 rfl (by decide +kernel) rfl rfl (Nat.le_of_ble_eq_true rfl) rfl dX8_keepTask_7 ?_
  refine zk_aload_n X 0 dX8_keepTask_10 rfl rfl ?_
  refine zk_get X iX8 (g := 0) (Nat.zero_lt_one) rfl rfl 12 (by decide) w0 rfl dX8_keepTask_11 ?_
  refine zk_iconst X (v := 1) dX8_keepTask_14 (by decide) ?_
  refine zk_isub X dX8_keepTask_15 ?_
  exact zk_ireturn X hr dX8_keepTask_16 h
def fX8_kindTold_B31 (a1 : Int32) (a2 : Int32) (a3 : Int32) (a4 : Int32) (s0 : Int32) (z : zk_Z) : Option (Int32 × zk_Z) := if s0 = 0 then some ((-2), z) else if a4 < 0 then some ((-2), z) else if a4 ≤ 1 then if a4 = 1 then zk_bd (fX2_worth a1 a2 a3 z) (fun r4 z3 => some (r4, z3)) else zk_bd (fX2_holds a1 a2 a3 z) (fun r6 z5 => if r6 = 0 then some (0, z5) else some (1, z5)) else some ((-2), z)
def fX8_kindTold_B30 (a1 : Int32) (a2 : Int32) (a3 : Int32) (a4 : Int32) (z : zk_Z) : Option (Int32 × zk_Z) := fX8_kindTold_B31 a1 a2 a3 a4 0 z
def fX8_kindTold (x1 : Int32) (x2 : Int32) (x3 : Int32) (x4 : Int32) (z : zk_Z) : Option (Int32 × zk_Z) := zk_bd (fX2_exists x1 z) (fun r2 z1 => if r2 = 0 then fX8_kindTold_B30 x1 x2 x3 x4 z1 else if x3 < 1 then fX8_kindTold_B30 x1 x2 x3 x4 z1 else if 3 < x3 then fX8_kindTold_B30 x1 x2 x3 x4 z1 else if x2 < 0 then fX8_kindTold_B30 x1 x2 x3 x4 z1 else if x3 < x2 then fX8_kindTold_B30 x1 x2 x3 x4 z1 else fX8_kindTold_B31 x1 x2 x3 x4 1 z1)
set_option maxRecDepth 100000 in
set_option maxHeartbeats 8000000 in
theorem ct_X8_kindTold (l : Launch) (E : zk_E) (hi : zk_inj E) (x1 : Int32) (x2 : Int32) (x3 : Int32) (x4 : Int32) (z : zk_Z) (r : Int32) (z' : zk_Z) (h : fX8_kindTold  x1 x2 x3 x4 z = some (r, z')) : Met l yX8_kindTold wsX8_kindTold { frames := 2, cells := 0, slots := 0, locals := 45 } (va_Pc [.ref (E.2.1 0 0), .int x1, .int x2, .int x3, .int x4] (zk_W E z)) (zk_Qi E r z') 0 0 (zk_A E) := by
  refine zk_met (cc := cX8_kindTold) (maxL := 6) (ret := (some .int)) (own := RX8) (by decide) rfl rfl hi (Nat.le_of_ble_eq_true rfl) ?_
  intro p e s m args below meth c X hr
  have B31 : ∀ (a1 : Int32) (a2 : Int32) (a3 : Int32) (a4 : Int32) (s0 : Int32) (z : zk_Z), fX8_kindTold_B31 a1 a2 a3 a4 s0 z = some (r, z') → zk_G p l e (headSpec wsX8_kindTold { frames := 2, cells := 0, slots := 0, locals := 45 }).room s m args below meth c E 6 0 0 (MQ below (zk_Qi E r z') args s 0 0 (zk_A E)) 31 [(1, .int a1), (2, .int a2), (3, .int a3), (4, .int a4)] [.int s0] z := by
    intro a1 a2 a3 a4 s0 z h
    unfold fX8_kindTold_B31 at h
    refine zk_istore X (lv' := [(5, .int s0), (1, .int a1), (2, .int a2), (3, .int a3), (4, .int a4)]) dX8_kindTold_31 (by decide) rfl ?_
    refine zk_iload X 0 dX8_kindTold_33 rfl ?_
    refine zk_if_eq X (tgt := 49) dX8_kindTold_35 (by decide) h (fun h => ?_) (fun h => ?_)
    · refine zk_bipush X (v := -2) dX8_kindTold_49 (by decide) ?_
      exact zk_ireturn X hr dX8_kindTold_51 h
    · refine zk_iload X 4 dX8_kindTold_38 rfl ?_
      refine zk_if_lt X (tgt := 49) dX8_kindTold_40 (by decide) h (fun h => ?_) (fun h => ?_)
      · refine zk_bipush X (v := -2) dX8_kindTold_49 (by decide) ?_
        exact zk_ireturn X hr dX8_kindTold_51 h
      · refine zk_iload X 4 dX8_kindTold_43 rfl ?_
        refine zk_iconst X (v := 1) dX8_kindTold_45 (by decide) ?_
        refine zk_icmp_le X (tgt := 52) dX8_kindTold_46 (by decide) h (fun h => ?_) (fun h => ?_)
        · refine zk_iload X 4 dX8_kindTold_52 rfl ?_
          refine zk_iconst X (v := 1) dX8_kindTold_54 (by decide) ?_
          refine zk_icmp_ne X (tgt := 65) dX8_kindTold_55 (by decide) h (fun h => ?_) (fun h => ?_)
          · refine zk_iload_n X 1 dX8_kindTold_58 rfl rfl ?_
            refine zk_iload_n X 2 dX8_kindTold_59 rfl rfl ?_
            refine zk_iload_n X 3 dX8_kindTold_60 rfl rfl ?_
            refine zk_si X h (fun rr zz hf => ct_X2_worth l E hi a1 a2 a3 _ rr zz hf) (va_cwS 3 X.1.2.2.2.2 gX8_kindTold_X2_worth rfl rfl rfl (by decide +kernel) ⟨Nat.le_of_ble_eq_true rfl, Nat.le_of_ble_eq_true rfl⟩) rfl rfl (Nat.le_of_ble_eq_true rfl) dX8_kindTold_61 (fun r4 z3 h => ?_)
            exact zk_ireturn X hr dX8_kindTold_64 h
          · refine zk_iload_n X 1 dX8_kindTold_65 rfl rfl ?_
            refine zk_iload_n X 2 dX8_kindTold_66 rfl rfl ?_
            refine zk_iload_n X 3 dX8_kindTold_67 rfl rfl ?_
            refine zk_si X h (fun rr zz hf => ct_X2_holds l E hi a1 a2 a3 _ rr zz hf) (va_cwS 3 X.1.2.2.2.2 gX8_kindTold_X2_holds rfl rfl rfl (by decide +kernel) ⟨Nat.le_of_ble_eq_true rfl, Nat.le_of_ble_eq_true rfl⟩) rfl rfl (Nat.le_of_ble_eq_true rfl) dX8_kindTold_68 (fun r6 z5 h => ?_)
            refine zk_if_eq X (tgt := 78) dX8_kindTold_71 (by decide) h (fun h => ?_) (fun h => ?_)
            · refine zk_iconst X (v := 0) dX8_kindTold_78 (by decide) ?_
              exact zk_ireturn X hr dX8_kindTold_79 h
            · refine zk_iconst X (v := 1) dX8_kindTold_74 (by decide) ?_
              refine zk_goto X (tgt := 79) dX8_kindTold_75 (by decide) ?_
              exact zk_ireturn X hr dX8_kindTold_79 h
        · refine zk_bipush X (v := -2) dX8_kindTold_49 (by decide) ?_
          exact zk_ireturn X hr dX8_kindTold_51 h
  have B30 : ∀ (a1 : Int32) (a2 : Int32) (a3 : Int32) (a4 : Int32) (z : zk_Z), fX8_kindTold_B30 a1 a2 a3 a4 z = some (r, z') → zk_G p l e (headSpec wsX8_kindTold { frames := 2, cells := 0, slots := 0, locals := 45 }).room s m args below meth c E 6 0 0 (MQ below (zk_Qi E r z') args s 0 0 (zk_A E)) 30 [(1, .int a1), (2, .int a2), (3, .int a3), (4, .int a4)] [] z := by
    intro a1 a2 a3 a4 z h
    unfold fX8_kindTold_B30 at h
    refine zk_iconst X (v := 0) dX8_kindTold_30 (by decide) ?_
    exact zk_sub [0, 1, 2, 3] rfl (B31 _ _ _ _ _ _ h)
  unfold fX8_kindTold at h
  refine zk_iload_n X 1 dX8_kindTold_0 rfl rfl ?_
  refine zk_si X h (fun rr zz hf => ct_X2_exists l E hi  x1 _ rr zz hf) (va_cwS 1 X.1.2.2.2.2 gX8_kindTold_X2_exists rfl rfl rfl (by decide +kernel) ⟨Nat.le_of_ble_eq_true rfl, Nat.le_of_ble_eq_true rfl⟩) rfl rfl (Nat.le_of_ble_eq_true rfl) dX8_kindTold_1 (fun r2 z1 h => ?_)
  refine zk_if_eq X (tgt := 30) dX8_kindTold_4 (by decide) h (fun h => ?_) (fun h => ?_)
  · exact zk_sub [1, 2, 3, 4] rfl (B30  _ _ _ _ _ h)
  · refine zk_iload_n X 3 dX8_kindTold_7 rfl rfl ?_
    refine zk_iconst X (v := 1) dX8_kindTold_8 (by decide) ?_
    refine zk_icmp_lt X (tgt := 30) dX8_kindTold_9 (by decide) h (fun h => ?_) (fun h => ?_)
    · exact zk_sub [1, 2, 3, 4] rfl (B30  _ _ _ _ _ h)
    · refine zk_iload_n X 3 dX8_kindTold_12 rfl rfl ?_
      refine zk_iconst X (v := 3) dX8_kindTold_13 (by decide) ?_
      refine zk_icmp_gt X (tgt := 30) dX8_kindTold_14 (by decide) h (fun h => ?_) (fun h => ?_)
      · exact zk_sub [1, 2, 3, 4] rfl (B30  _ _ _ _ _ h)
      · refine zk_iload_n X 2 dX8_kindTold_17 rfl rfl ?_
        refine zk_if_lt X (tgt := 30) dX8_kindTold_18 (by decide) h (fun h => ?_) (fun h => ?_)
        · exact zk_sub [1, 2, 3, 4] rfl (B30  _ _ _ _ _ h)
        · refine zk_iload_n X 2 dX8_kindTold_21 rfl rfl ?_
          refine zk_iload_n X 3 dX8_kindTold_22 rfl rfl ?_
          refine zk_icmp_gt X (tgt := 30) dX8_kindTold_23 (by decide) h (fun h => ?_) (fun h => ?_)
          · exact zk_sub [1, 2, 3, 4] rfl (B30  _ _ _ _ _ h)
          · refine zk_iconst X (v := 1) dX8_kindTold_26 (by decide) ?_
            refine zk_goto X (tgt := 31) dX8_kindTold_27 (by decide) ?_
            exact zk_sub [1, 2, 3, 4] rfl (B31  _ _ _ _ _ _ h)
def fX8_lean_B49 (a2 : Int32) (ka3 : Nat) (s0 : Int32) (z : zk_Z) : Option (Int32 × zk_Z) := if s0 = 0 then zk_bd (fX7_excess ka3 a2 z) (fun r5 z4 => some (r5, z4)) else zk_bd (fX7_excess ka3 a2 z) (fun r7 z6 => some (0 - r7, z6))
def fX8_lean_B48 (a2 : Int32) (ka3 : Nat) (z : zk_Z) : Option (Int32 × zk_Z) := fX8_lean_B49 a2 ka3 0 z
def fX8_lean (x1 : Int32) (x2 : Int32) (z : zk_Z) : Option (Int32 × zk_Z) := zk_bd (fX8_taskAt x1 z) (fun r2 z1 => zk_oc r2 (some ((-1000), z1)) (fun kk3 => if x2 < 0 then some ((-1000), z1) else if x2 < (z1.1 7 kk3 1) then if (z1.1 7 kk3 3) < 0 then fX8_lean_B48 x2 kk3 z1 else if (((z1.1 7 kk3 3) >>> (x2 &&& 31)) &&& 1) = 0 then fX8_lean_B49 x2 kk3 1 z1 else fX8_lean_B48 x2 kk3 z1 else some ((-1000), z1)))
set_option maxRecDepth 100000 in
set_option maxHeartbeats 8000000 in
theorem ct_X8_lean (l : Launch) (E : zk_E) (hi : zk_inj E) (x1 : Int32) (x2 : Int32) (z : zk_Z) (r : Int32) (z' : zk_Z) (h : fX8_lean  x1 x2 z = some (r, z')) : Met l yX8_lean wsX8_lean { frames := 1, cells := 0, slots := 0, locals := 23 } (va_Pc [.ref (E.2.1 0 0), .int x1, .int x2] (zk_W E z)) (zk_Qi E r z') 0 0 (zk_A E) := by
  refine zk_met (cc := cX8_lean) (maxL := 5) (ret := (some .int)) (own := RX8) (by decide) rfl rfl hi (Nat.le_of_ble_eq_true rfl) ?_
  intro p e s m args below meth c X hr
  have iX7 : ∀ w ∈ u_ws RX7 TX7 8, w ∈ wsX8_lean := by decide +kernel
  have w0 : Cond.fieldLink RX8 170 "HiddenWorks$Task" "letters" "I" ∈ wsX8_lean := by decide +kernel
  have w1 : Cond.fieldLink RX8 172 "HiddenWorks$Task" "hidden" "I" ∈ wsX8_lean := by decide +kernel
  have B49 : ∀ (a2 : Int32) (ka3 : Nat) (s0 : Int32) (hka3 : ka3 < zk_cnt 7) (z : zk_Z), fX8_lean_B49 a2 ka3 s0 z = some (r, z') → zk_G p l e (headSpec wsX8_lean { frames := 1, cells := 0, slots := 0, locals := 23 }).room s m args below meth c E 5 0 0 (MQ below (zk_Qi E r z') args s 0 0 (zk_A E)) 49 [(2, .int a2), (3, .ref (E.2.1 7 ka3))] [.int s0] z := by
    intro a2 ka3 s0 hka3 z h
    unfold fX8_lean_B49 at h
    refine zk_istore X (lv' := [(4, .int s0), (2, .int a2), (3, .ref (E.2.1 7 ka3))]) dX8_lean_49 (by decide) rfl ?_
    refine zk_iload X 0 dX8_lean_51 rfl ?_
    refine zk_if_eq X (tgt := 65) dX8_lean_53 (by decide) h (fun h => ?_) (fun h => ?_)
    · refine zk_aload_n X 2 dX8_lean_65 rfl rfl ?_
      refine zk_iload_n X 1 dX8_lean_66 rfl rfl ?_
      refine zk_vi X h (fun rr zz hf => ct_X7_excess l E hi ka3 (hka3) a2 _ rr zz hf) (cwV 1 X.1.2.2.2.2 gX8_lean_X7_excess rfl rfl rfl (by decide +kernel) ⟨Nat.le_of_ble_eq_true rfl, Nat.le_of_ble_eq_true rfl⟩) (zk_recv X (g := 7) (hka3) rfl rfl) rfl rfl (Nat.le_of_ble_eq_true rfl) dX8_lean_67 (fun r5 z4 h => ?_)
      exact zk_ireturn X hr dX8_lean_70 h
    · refine zk_aload_n X 2 dX8_lean_56 rfl rfl ?_
      refine zk_iload_n X 1 dX8_lean_57 rfl rfl ?_
      refine zk_vi X h (fun rr zz hf => ct_X7_excess l E hi ka3 (hka3) a2 _ rr zz hf) (cwV 1 X.1.2.2.2.2 gX8_lean_X7_excess rfl rfl rfl (by decide +kernel) ⟨Nat.le_of_ble_eq_true rfl, Nat.le_of_ble_eq_true rfl⟩) (zk_recv X (g := 7) (hka3) rfl rfl) rfl rfl (Nat.le_of_ble_eq_true rfl) dX8_lean_58 (fun r7 z6 h => ?_)
      refine zk_ineg X dX8_lean_61 ?_
      refine zk_goto X (tgt := 70) dX8_lean_62 (by decide) ?_
      exact zk_ireturn X hr dX8_lean_70 h
  have B48 : ∀ (a2 : Int32) (ka3 : Nat) (hka3 : ka3 < zk_cnt 7) (z : zk_Z), fX8_lean_B48 a2 ka3 z = some (r, z') → zk_G p l e (headSpec wsX8_lean { frames := 1, cells := 0, slots := 0, locals := 23 }).room s m args below meth c E 5 0 0 (MQ below (zk_Qi E r z') args s 0 0 (zk_A E)) 48 [(2, .int a2), (3, .ref (E.2.1 7 ka3))] [] z := by
    intro a2 ka3 hka3 z h
    unfold fX8_lean_B48 at h
    refine zk_iconst X (v := 0) dX8_lean_48 (by decide) ?_
    exact zk_sub [0, 1] rfl (B49 _ _ _ (hka3) _ h)
  unfold fX8_lean at h
  refine zk_aload_n X 0 dX8_lean_0 rfl rfl ?_
  refine zk_iload_n X 1 dX8_lean_1 rfl rfl ?_
  refine zk_vq X h (fun rr zz hf => ct_X8_taskAt l E hi  x1 _ rr zz hf) (cwV 1 X.1.2.2.2.2 gX8_lean_X8_taskAt rfl rfl rfl (by decide +kernel) ⟨Nat.le_of_ble_eq_true rfl, Nat.le_of_ble_eq_true rfl⟩) (zk_recv X (g := 0) (Nat.zero_lt_one) rfl rfl) rfl rfl (Nat.le_of_ble_eq_true rfl) dX8_lean_2 (fun z1 h => ?_) (fun kk3 z1 hkk3 h => ?_)
  · refine zk_astore_nN X (lv' := [(3, .null), (0, .ref (E.2.1 0 0)), (1, .int x1), (2, .int x2)]) dX8_lean_5 rfl (by decide) rfl ?_
    refine zk_aload_nN X 0 dX8_lean_6 rfl rfl ?_
    refine zk_ifnullN X (tgt := 22) dX8_lean_7 (by decide) ?_
    refine zk_sipush X (v := -1000) dX8_lean_22 (by decide) ?_
    exact zk_ireturn X hr dX8_lean_25 h
  · refine zk_astore_n X (lv' := [(3, .ref (E.2.1 7 kk3)), (0, .ref (E.2.1 0 0)), (1, .int x1), (2, .int x2)]) dX8_lean_5 rfl (by decide) rfl ?_
    refine zk_aload_n X 0 dX8_lean_6 rfl rfl ?_
    refine zk_ifnull X dX8_lean_7 ?_
    refine zk_iload_n X 3 dX8_lean_10 rfl rfl ?_
    refine zk_if_lt X (tgt := 22) dX8_lean_11 (by decide) h (fun h => ?_) (fun h => ?_)
    · refine zk_sipush X (v := -1000) dX8_lean_22 (by decide) ?_
      exact zk_ireturn X hr dX8_lean_25 h
    · refine zk_iload_n X 3 dX8_lean_14 rfl rfl ?_
      refine zk_aload_n X 0 dX8_lean_15 rfl rfl ?_
      refine zk_get X iX7 (g := 7) (hkk3) rfl rfl 1 (by decide) w0 rfl dX8_lean_16 ?_
      refine zk_icmp_lt X (tgt := 26) dX8_lean_19 (by decide) h (fun h => ?_) (fun h => ?_)
      · refine zk_aload_n X 0 dX8_lean_26 rfl rfl ?_
        refine zk_get X iX7 (g := 7) (hkk3) rfl rfl 3 (by decide) w1 rfl dX8_lean_27 ?_
        refine zk_if_lt X (tgt := 48) dX8_lean_30 (by decide) h (fun h => ?_) (fun h => ?_)
        · exact zk_sub [3, 0] rfl (B48  _ _ (hkk3) _ h)
        · refine zk_aload_n X 0 dX8_lean_33 rfl rfl ?_
          refine zk_get X iX7 (g := 7) (hkk3) rfl rfl 3 (by decide) w1 rfl dX8_lean_34 ?_
          refine zk_iload_n X 3 dX8_lean_37 rfl rfl ?_
          refine zk_ishr X dX8_lean_38 ?_
          refine zk_iconst X (v := 1) dX8_lean_39 (by decide) ?_
          refine zk_iand X dX8_lean_40 ?_
          refine zk_if_ne X (tgt := 48) dX8_lean_41 (by decide) h (fun h => ?_) (fun h => ?_)
          · refine zk_iconst X (v := 1) dX8_lean_44 (by decide) ?_
            refine zk_goto X (tgt := 49) dX8_lean_45 (by decide) ?_
            exact zk_sub [3, 0] rfl (B49  _ _ _ (hkk3) _ h)
          · exact zk_sub [3, 0] rfl (B48  _ _ (hkk3) _ h)
      · refine zk_sipush X (v := -1000) dX8_lean_22 (by decide) ?_
        exact zk_ireturn X hr dX8_lean_25 h
def fX8_partInLowestTerms_B8 (a2 : Int32) (z : zk_Z) : Option (Int64 × zk_Z) := some (a2.toInt64, z)
def fX8_partInLowestTerms_B29 (a3 : Int32) (s0 : Int32) (z : zk_Z) : Option (Int64 × zk_Z) := if a3 = 0 then some (s0.toInt64, z) else zk_gd (zk_nz a3) (some ((s0 / a3).toInt64, z))
def fX8_partInLowestTerms (x0 : Int32) (x1 : Int32) (x2 : Int32) (z : zk_Z) : Option (Int64 × zk_Z) := if x0 = 0 then fX8_partInLowestTerms_B8 x2 z else if x1 = 0 then fX8_partInLowestTerms_B8 x2 z else zk_bd (fX8_greatestShared (if 0 ≤ x0 then x0 else 0 - x0) x1 z) (fun r2 z1 => if x2 = 0 then fX8_partInLowestTerms_B29 r2 x0 z1 else fX8_partInLowestTerms_B29 r2 x1 z1)
set_option maxRecDepth 100000 in
set_option maxHeartbeats 8000000 in
theorem ct_X8_partInLowestTerms (l : Launch) (E : zk_E) (hi : zk_inj E) (x0 : Int32) (x1 : Int32) (x2 : Int32) (z : zk_Z) (r : Int64) (z' : zk_Z) (h : fX8_partInLowestTerms  x0 x1 x2 z = some (r, z')) : Met l yX8_partInLowestTerms wsX8_partInLowestTerms { frames := 1, cells := 0, slots := 0, locals := 40 } (va_Pc [.int x0, .int x1, .int x2] (zk_W E z)) (zk_Ql E r z') 0 0 (zk_A E) := by
  refine zk_met (cc := cX8_partInLowestTerms) (maxL := 5) (ret := (some .long)) (own := RX8) (by decide) rfl rfl hi (Nat.le_of_ble_eq_true rfl) ?_
  intro p e s m args below meth c X hr
  have w0 : Cond.methodLink RX8 219 Lib.Math.abs.name ∈ wsX8_partInLowestTerms := by decide +kernel
  have w1 : Cond.static Lib.Math.abs.name ∈ wsX8_partInLowestTerms := by decide +kernel
  have w2 : Cond.initialized "java/lang/Math" ∈ wsX8_partInLowestTerms := by decide +kernel
  have w3 : Cond.code Lib.Math.abs.name Lib.Math.abs.code 1 (some .int) ∈ wsX8_partInLowestTerms := by decide +kernel
  have B8 : ∀ (a2 : Int32) (z : zk_Z), fX8_partInLowestTerms_B8 a2 z = some (r, z') → zk_G p l e (headSpec wsX8_partInLowestTerms { frames := 1, cells := 0, slots := 0, locals := 40 }).room s m args below meth c E 5 0 0 (MQ below (zk_Ql E r z') args s 0 0 (zk_A E)) 8 [(2, .int a2)] [] z := by
    intro a2 z h
    unfold fX8_partInLowestTerms_B8 at h
    refine zk_iload_n X 0 dX8_partInLowestTerms_8 rfl rfl ?_
    refine zk_i2l X dX8_partInLowestTerms_9 ?_
    exact zk_lreturn X hr dX8_partInLowestTerms_10 h
  have B29 : ∀ (a3 : Int32) (s0 : Int32) (z : zk_Z), fX8_partInLowestTerms_B29 a3 s0 z = some (r, z') → zk_G p l e (headSpec wsX8_partInLowestTerms { frames := 1, cells := 0, slots := 0, locals := 40 }).room s m args below meth c E 5 0 0 (MQ below (zk_Ql E r z') args s 0 0 (zk_A E)) 29 [(3, .int a3)] [.int s0] z := by
    intro a3 s0 z h
    unfold fX8_partInLowestTerms_B29 at h
    refine zk_istore X (lv' := [(4, .int s0), (3, .int a3)]) dX8_partInLowestTerms_29 (by decide) rfl ?_
    refine zk_iload_n X 1 dX8_partInLowestTerms_31 rfl rfl ?_
    refine zk_if_ne X (tgt := 41) dX8_partInLowestTerms_32 (by decide) h (fun h => ?_) (fun h => ?_)
    · refine zk_iload X 0 dX8_partInLowestTerms_35 rfl ?_
      refine zk_i2l X dX8_partInLowestTerms_37 ?_
      refine zk_goto X (tgt := 46) dX8_partInLowestTerms_38 (by decide) ?_
      exact zk_lreturn X hr dX8_partInLowestTerms_46 h
    · refine zk_iload X 0 dX8_partInLowestTerms_41 rfl ?_
      refine zk_iload_n X 1 dX8_partInLowestTerms_43 rfl rfl ?_
      refine zk_idiv X dX8_partInLowestTerms_44 h (fun h => ?_)
      refine zk_i2l X dX8_partInLowestTerms_45 ?_
      exact zk_lreturn X hr dX8_partInLowestTerms_46 h
  unfold fX8_partInLowestTerms at h
  refine zk_iload_n X 0 dX8_partInLowestTerms_0 rfl rfl ?_
  refine zk_if_eq X (tgt := 8) dX8_partInLowestTerms_1 (by decide) h (fun h => ?_) (fun h => ?_)
  · exact zk_sub [2] rfl (B8  _ _ h)
  · refine zk_iload_n X 1 dX8_partInLowestTerms_4 rfl rfl ?_
    refine zk_if_ne X (tgt := 11) dX8_partInLowestTerms_5 (by decide) h (fun h => ?_) (fun h => ?_)
    · exact zk_sub [2] rfl (B8  _ _ h)
    · refine zk_iload_n X 0 dX8_partInLowestTerms_11 rfl rfl ?_
      refine zk_abs X w0 w1 w2 w3 (Nat.le_of_ble_eq_true rfl) (Nat.le_of_ble_eq_true rfl) dX8_partInLowestTerms_12 ?_
      refine zk_iload_n X 1 dX8_partInLowestTerms_15 rfl rfl ?_
      refine zk_si X h (fun rr zz hf => ct_X8_greatestShared l E hi  (if 0 ≤ x0 then x0 else 0 - x0) x1 _ rr zz hf) (va_cwS 2 X.1.2.2.2.2 gX8_partInLowestTerms_X8_greatestShared rfl rfl rfl (by decide +kernel) ⟨Nat.le_of_ble_eq_true rfl, Nat.le_of_ble_eq_true rfl⟩) rfl rfl (Nat.le_of_ble_eq_true rfl) dX8_partInLowestTerms_16 (fun r2 z1 h => ?_)
      refine zk_istore_n X (lv' := [(3, .int r2), (0, .int x0), (1, .int x1), (2, .int x2)]) dX8_partInLowestTerms_19 rfl (by decide) rfl ?_
      refine zk_iload_n X 3 dX8_partInLowestTerms_20 rfl rfl ?_
      refine zk_if_ne X (tgt := 28) dX8_partInLowestTerms_21 (by decide) h (fun h => ?_) (fun h => ?_)
      · refine zk_iload_n X 1 dX8_partInLowestTerms_24 rfl rfl ?_
        refine zk_goto X (tgt := 29) dX8_partInLowestTerms_25 (by decide) ?_
        exact zk_sub [0] rfl (B29  _ _ _ h)
      · refine zk_iload_n X 2 dX8_partInLowestTerms_28 rfl rfl ?_
        exact zk_sub [0] rfl (B29  _ _ _ h)
def fX8_leans (x1 : Int32) (x2 : Int32) (z : zk_Z) : Option (Int64 × zk_Z) := zk_bd (fX8_recipeAt x1 z) (fun r2 z1 => zk_oc r2 (some ((-4611686018427387904), z1)) (fun kk3 => if x2 < 0 then some ((-4611686018427387904), z1) else if x2 ≤ 1 then zk_bd (fX4_leaning kk3 z1) (fun r5 z4 => zk_bd (fX4_allWays kk3 z4) (fun r7 z6 => zk_bd (fX8_partInLowestTerms r5 (r7 * (z6.1 4 kk3 3)) x2 z6) (fun r9 z8 => some (r9, z8)))) else some ((-4611686018427387904), z1)))
set_option maxRecDepth 100000 in
set_option maxHeartbeats 8000000 in
theorem ct_X8_leans (l : Launch) (E : zk_E) (hi : zk_inj E) (x1 : Int32) (x2 : Int32) (z : zk_Z) (r : Int64) (z' : zk_Z) (h : fX8_leans  x1 x2 z = some (r, z')) : Met l yX8_leans wsX8_leans { frames := 3, cells := 0, slots := 0, locals := 64 } (va_Pc [.ref (E.2.1 0 0), .int x1, .int x2] (zk_W E z)) (zk_Ql E r z') 0 0 (zk_A E) := by
  refine zk_met (cc := cX8_leans) (maxL := 4) (ret := (some .long)) (own := RX8) (by decide) rfl rfl hi (Nat.le_of_ble_eq_true rfl) ?_
  intro p e s m args below meth c X hr
  have iX4 : ∀ w ∈ u_ws RX4 TX4 5, w ∈ wsX8_leans := by decide +kernel
  have w0 : Cond.constantLong RX8 201 (-4611686018427387904) ∈ wsX8_leans := by decide +kernel
  have w1 : Cond.fieldLink RX8 103 "HiddenWorks$Recipe" "wide" "I" ∈ wsX8_leans := by decide +kernel
  unfold fX8_leans at h
  refine zk_aload_n X 0 dX8_leans_0 rfl rfl ?_
  refine zk_iload_n X 1 dX8_leans_1 rfl rfl ?_
  refine zk_vq X h (fun rr zz hf => ct_X8_recipeAt l E hi  x1 _ rr zz hf) (cwV 1 X.1.2.2.2.2 gX8_leans_X8_recipeAt rfl rfl rfl (by decide +kernel) ⟨Nat.le_of_ble_eq_true rfl, Nat.le_of_ble_eq_true rfl⟩) (zk_recv X (g := 0) (Nat.zero_lt_one) rfl rfl) rfl rfl (Nat.le_of_ble_eq_true rfl) dX8_leans_2 (fun z1 h => ?_) (fun kk3 z1 hkk3 h => ?_)
  · refine zk_astore_nN X (lv' := [(3, .null), (0, .ref (E.2.1 0 0)), (1, .int x1), (2, .int x2)]) dX8_leans_5 rfl (by decide) rfl ?_
    refine zk_aload_nN X 0 dX8_leans_6 rfl rfl ?_
    refine zk_ifnullN X (tgt := 19) dX8_leans_7 (by decide) ?_
    refine zk_ldc2 X w0 dX8_leans_19 ?_
    exact zk_lreturn X hr dX8_leans_22 h
  · refine zk_astore_n X (lv' := [(3, .ref (E.2.1 4 kk3)), (0, .ref (E.2.1 0 0)), (1, .int x1), (2, .int x2)]) dX8_leans_5 rfl (by decide) rfl ?_
    refine zk_aload_n X 0 dX8_leans_6 rfl rfl ?_
    refine zk_ifnull X dX8_leans_7 ?_
    refine zk_iload_n X 3 dX8_leans_10 rfl rfl ?_
    refine zk_if_lt X (tgt := 19) dX8_leans_11 (by decide) h (fun h => ?_) (fun h => ?_)
    · refine zk_ldc2 X w0 dX8_leans_19 ?_
      exact zk_lreturn X hr dX8_leans_22 h
    · refine zk_iload_n X 3 dX8_leans_14 rfl rfl ?_
      refine zk_iconst X (v := 1) dX8_leans_15 (by decide) ?_
      refine zk_icmp_le X (tgt := 23) dX8_leans_16 (by decide) h (fun h => ?_) (fun h => ?_)
      · refine zk_aload_n X 0 dX8_leans_23 rfl rfl ?_
        refine zk_vi X h (fun rr zz hf => ct_X4_leaning l E hi kk3 (hkk3)  _ rr zz hf) (cwV 0 X.1.2.2.2.2 gX8_leans_X4_leaning rfl rfl rfl (by decide +kernel) ⟨Nat.le_of_ble_eq_true rfl, Nat.le_of_ble_eq_true rfl⟩) (zk_recv X (g := 4) (hkk3) rfl rfl) rfl rfl (Nat.le_of_ble_eq_true rfl) dX8_leans_24 (fun r5 z4 h => ?_)
        refine zk_aload_n X 0 dX8_leans_27 rfl rfl ?_
        refine zk_vi X h (fun rr zz hf => ct_X4_allWays l E hi kk3 (hkk3)  _ rr zz hf) (cwV 0 X.1.2.2.2.2 gX8_leans_X4_allWays rfl rfl rfl (by decide +kernel) ⟨Nat.le_of_ble_eq_true rfl, Nat.le_of_ble_eq_true rfl⟩) (zk_recv X (g := 4) (hkk3) rfl rfl) rfl rfl (Nat.le_of_ble_eq_true rfl) dX8_leans_28 (fun r7 z6 h => ?_)
        refine zk_aload_n X 0 dX8_leans_31 rfl rfl ?_
        refine zk_get X iX4 (g := 4) (hkk3) rfl rfl 3 (by decide) w1 rfl dX8_leans_32 ?_
        refine zk_imul X dX8_leans_35 ?_
        refine zk_iload_n X 3 dX8_leans_36 rfl rfl ?_
        refine zk_sl X h (fun rr zz hf => ct_X8_partInLowestTerms l E hi  r5 (r7 * (z6.1 4 kk3 3)) x2 _ rr zz hf) (va_cwS 3 X.1.2.2.2.2 gX8_leans_X8_partInLowestTerms rfl rfl rfl (by decide +kernel) ⟨Nat.le_of_ble_eq_true rfl, Nat.le_of_ble_eq_true rfl⟩) rfl rfl (Nat.le_of_ble_eq_true rfl) dX8_leans_37 (fun r9 z8 h => ?_)
        exact zk_lreturn X hr dX8_leans_40 h
      · refine zk_ldc2 X w0 dX8_leans_19 ?_
        exact zk_lreturn X hr dX8_leans_22 h
def fX8_make (x1 : Int32) (x2 : Int32) (z : zk_Z) : Option (Int32 × zk_Z) := zk_bd (fX8_recipeAt x1 z) (fun r2 z1 => zk_oc r2 (some ((-1), z1)) (fun kk3 => if x2 < 0 then some ((-2), z1) else if x2 < 100000 then if (z1.1 0 0 12) < 8 then zk_gd (zk_ix (z1.1 0 0 12) 8) (zk_bd (fX3_fill ((z1.1 0 0 12).toNatClampNeg) kk3 x2 z1) (fun _ z5 => zk_bd (fX8_keepTask  (zk_sI (zk_sI z5 7 ((z1.1 0 0 12).toNatClampNeg) 4 x1) 7 ((z1.1 0 0 12).toNatClampNeg) 5 x2)) (fun r8 z7 => some (r8, z7)))) else some ((-4), z1) else some ((-2), z1)))
set_option maxRecDepth 100000 in
set_option maxHeartbeats 8000000 in
theorem ct_X8_make (l : Launch) (E : zk_E) (hi : zk_inj E) (x1 : Int32) (x2 : Int32) (z : zk_Z) (r : Int32) (z' : zk_Z) (h : fX8_make  x1 x2 z = some (r, z')) : Met l yX8_make wsX8_make { frames := 5, cells := 0, slots := 0, locals := 117 } (va_Pc [.ref (E.2.1 0 0), .int x1, .int x2] (zk_W E z)) (zk_Qi E r z') 0 0 (zk_A E) := by
  refine zk_met (cc := cX8_make) (maxL := 5) (ret := (some .int)) (own := RX8) (by decide) rfl rfl hi (Nat.le_of_ble_eq_true rfl) ?_
  intro p e s m args below meth c X hr
  have iX7 : ∀ w ∈ u_ws RX7 TX7 8, w ∈ wsX8_make := by decide +kernel
  have iX8 : ∀ w ∈ u_ws RX8 TX8 15, w ∈ wsX8_make := by decide +kernel
  have w0 : Cond.constant RX8 109 (100000) ∈ wsX8_make := by decide +kernel
  have w1 : Cond.fieldLink RX8 110 "HiddenWorks" "taskCount" "I" ∈ wsX8_make := by decide +kernel
  have w2 : Cond.fieldLink RX8 54 "HiddenWorks" "tasks" "[LHiddenWorks$Task;" ∈ wsX8_make := by decide +kernel
  have w3 : Cond.fieldLink RX8 19 "HiddenWorks" "maker" "LHiddenWorks$Maker;" ∈ wsX8_make := by decide +kernel
  have w4 : Cond.fieldLink RX8 117 "HiddenWorks$Task" "recipe" "I" ∈ wsX8_make := by decide +kernel
  have w5 : Cond.fieldLink RX8 120 "HiddenWorks$Task" "seed" "I" ∈ wsX8_make := by decide +kernel
  unfold fX8_make at h
  refine zk_aload_n X 0 dX8_make_0 rfl rfl ?_
  refine zk_iload_n X 1 dX8_make_1 rfl rfl ?_
  refine zk_vq X h (fun rr zz hf => ct_X8_recipeAt l E hi  x1 _ rr zz hf) (cwV 1 X.1.2.2.2.2 gX8_make_X8_recipeAt rfl rfl rfl (by decide +kernel) ⟨Nat.le_of_ble_eq_true rfl, Nat.le_of_ble_eq_true rfl⟩) (zk_recv X (g := 0) (Nat.zero_lt_one) rfl rfl) rfl rfl (Nat.le_of_ble_eq_true rfl) dX8_make_2 (fun z1 h => ?_) (fun kk3 z1 hkk3 h => ?_)
  · refine zk_astore_nN X (lv' := [(3, .null), (0, .ref (E.2.1 0 0)), (1, .int x1), (2, .int x2)]) dX8_make_5 rfl (by decide) rfl ?_
    refine zk_aload_nN X 0 dX8_make_6 rfl rfl ?_
    refine zk_ifnonnullN X dX8_make_7 ?_
    refine zk_iconst X (v := -1) dX8_make_10 (by decide) ?_
    exact zk_ireturn X hr dX8_make_11 h
  · refine zk_astore_n X (lv' := [(3, .ref (E.2.1 4 kk3)), (0, .ref (E.2.1 0 0)), (1, .int x1), (2, .int x2)]) dX8_make_5 rfl (by decide) rfl ?_
    refine zk_aload_n X 0 dX8_make_6 rfl rfl ?_
    refine zk_ifnonnull X (tgt := 12) dX8_make_7 (by decide) ?_
    refine zk_iload_n X 3 dX8_make_12 rfl rfl ?_
    refine zk_if_lt X (tgt := 22) dX8_make_13 (by decide) h (fun h => ?_) (fun h => ?_)
    · refine zk_bipush X (v := -2) dX8_make_22 (by decide) ?_
      exact zk_ireturn X hr dX8_make_24 h
    · refine zk_iload_n X 3 dX8_make_16 rfl rfl ?_
      refine zk_ldc X w0 dX8_make_17 ?_
      refine zk_icmp_lt X (tgt := 25) dX8_make_19 (by decide) h (fun h => ?_) (fun h => ?_)
      · refine zk_aload_n X 1 dX8_make_25 rfl rfl ?_
        refine zk_get X iX8 (g := 0) (Nat.zero_lt_one) rfl rfl 12 (by decide) w1 rfl dX8_make_26 ?_
        refine zk_bipush X (v := 8) dX8_make_29 (by decide) ?_
        refine zk_icmp_lt X (tgt := 37) dX8_make_31 (by decide) h (fun h => ?_) (fun h => ?_)
        · refine zk_aload_n X 1 dX8_make_37 rfl rfl ?_
          refine zk_get X iX8 (g := 0) (Nat.zero_lt_one) rfl rfl 2 (by decide) w2 rfl dX8_make_38 ?_
          refine zk_aload_n X 1 dX8_make_41 rfl rfl ?_
          refine zk_get X iX8 (g := 0) (Nat.zero_lt_one) rfl rfl 12 (by decide) w1 rfl dX8_make_42 ?_
          refine zk_aald X (g := 6) (t := 4) (Nat.zero_lt_one) rfl rfl dX8_make_45 h (fun hb4 h => ?_)
          have hb4 : (z1.1 0 0 12).toNatClampNeg < zk_cnt 7 := Nat.lt_of_lt_of_le hb4 (Nat.le_of_ble_eq_true rfl)
          refine zk_astore X (lv' := [(4, .ref (E.2.1 7 ((z1.1 0 0 12).toNatClampNeg))), (3, .ref (E.2.1 4 kk3)), (0, .ref (E.2.1 0 0)), (1, .int x1), (2, .int x2)]) dX8_make_46 (by decide) rfl ?_
          refine zk_aload_n X 2 dX8_make_48 rfl rfl ?_
          refine zk_get X iX8 (g := 0) (Nat.zero_lt_one) rfl rfl 5 (by decide) w3 rfl dX8_make_49 ?_
          refine zk_aload X 0 dX8_make_52 rfl ?_
          refine zk_aload_n X 1 dX8_make_54 rfl rfl ?_
          refine zk_iload_n X 4 dX8_make_55 rfl rfl ?_
          refine zk_vv X h (fun rr zz hf => ct_X3_fill l E hi ((z1.1 0 0 12).toNatClampNeg) (hb4) kk3 (hkk3) x2 _ rr zz hf) (cwV 3 X.1.2.2.2.2 gX8_make_X3_fill rfl rfl rfl (by decide +kernel) ⟨Nat.le_of_ble_eq_true rfl, Nat.le_of_ble_eq_true rfl⟩) (zk_recv X (g := 15) (Nat.zero_lt_one) rfl rfl) rfl rfl (Nat.le_of_ble_eq_true rfl) dX8_make_56 (fun z5 h => ?_)
          refine zk_aload X 0 dX8_make_59 rfl ?_
          refine zk_iload_n X 3 dX8_make_61 rfl rfl ?_
          refine zk_putI X (ty := .int) iX7 tyX7 tyX7_ok nmX7 (g := 7) (hb4) rfl rfl 4 (by decide) w4 rfl (by decide +kernel) rfl rfl (Nat.le_of_ble_eq_true rfl) rfl dX8_make_62 ?_
          refine zk_aload X 0 dX8_make_65 rfl ?_
          refine zk_iload_n X 4 dX8_make_67 rfl rfl ?_
          refine zk_putI X (ty := .int) iX7 tyX7 tyX7_ok nmX7 (g := 7) (hb4) rfl rfl 5 (by decide) w5 rfl (by decide +kernel) rfl rfl (Nat.le_of_ble_eq_true rfl) rfl dX8_make_68 ?_
          refine zk_aload_n X 2 dX8_make_71 rfl rfl ?_
          refine zk_vi X h (fun rr zz hf => ct_X8_keepTask l E hi   _ rr zz hf) (cwV 0 X.1.2.2.2.2 gX8_make_X8_keepTask rfl rfl rfl (by decide +kernel) ⟨Nat.le_of_ble_eq_true rfl, Nat.le_of_ble_eq_true rfl⟩) (zk_recv X (g := 0) (Nat.zero_lt_one) rfl rfl) rfl rfl (Nat.le_of_ble_eq_true rfl) dX8_make_72 (fun r8 z7 h => ?_)
          exact zk_ireturn X hr dX8_make_75 h
        · refine zk_bipush X (v := -4) dX8_make_34 (by decide) ?_
          exact zk_ireturn X hr dX8_make_36 h
      · refine zk_bipush X (v := -2) dX8_make_22 (by decide) ?_
        exact zk_ireturn X hr dX8_make_24 h
def fX8_nearest_B79 (c37 : Int32 → Nat → Int32 → Int32 → Int32 → zk_Z → Option (Int32 × zk_Z)) (a2 : Int32) (ka3 : Nat) (a4 : Int32) (a5 : Int32) (a6 : Int32) (z : zk_Z) : Option (Int32 × zk_Z) := c37 a2 ka3 a4 a5 (a6 + 1) z
def fX8_nearest_L37 : Nat → Int32 → Nat → Int32 → Int32 → Int32 → zk_Z → Option (Int32 × zk_Z)
  | 0, _, _, _, _, _, _ => none
  | n + 1, a2, ka3, a4, a5, a6, z => zk_bd (fX7_rows ka3 z) (fun r7 z6 => if r7 ≤ a6 then some (a4, z6) else zk_bd (fJ6_bitCount_0f7a4 (a6 ^^^ a2) z6) (fun r9 z8 => if a5 ≤ r9 then fX8_nearest_B79 (fX8_nearest_L37 n) a2 ka3 a4 a5 a6 z8 else zk_bd (fX7_isSolvedBy ka3 a6 z8) (fun r11 z10 => if r11 = 0 then fX8_nearest_B79 (fX8_nearest_L37 n) a2 ka3 a4 a5 a6 z10 else fX8_nearest_B79 (fX8_nearest_L37 n) a2 ka3 a6 r9 a6 z10)))
def fX8_nearest (x1 : Int32) (x2 : Int32) (z : zk_Z) : Option (Int32 × zk_Z) := zk_bd (fX8_taskAt x1 z) (fun r2 z1 => zk_oc r2 (some ((-5), z1)) (fun kk3 => zk_bd (fX8_isRow x2 (z1.1 7 kk3 1) z1) (fun r5 z4 => if r5 = 0 then some ((-2), z4) else fX8_nearest_L37 zk_FU x2 kk3 (-1) 11 0 z4)))
set_option maxRecDepth 100000 in
set_option maxHeartbeats 8000000 in
theorem ct_X8_nearest (l : Launch) (E : zk_E) (hi : zk_inj E) (x1 : Int32) (x2 : Int32) (z : zk_Z) (r : Int32) (z' : zk_Z) (h : fX8_nearest  x1 x2 z = some (r, z')) : Met l yX8_nearest wsX8_nearest { frames := 5, cells := 0, slots := 0, locals := 108 } (va_Pc [.ref (E.2.1 0 0), .int x1, .int x2] (zk_W E z)) (zk_Qi E r z') 0 0 (zk_A E) := by
  refine zk_met (cc := cX8_nearest) (maxL := 8) (ret := (some .int)) (own := RX8) (by decide) rfl rfl hi (Nat.le_of_ble_eq_true rfl) ?_
  intro p e s m args below meth c X hr
  have iX7 : ∀ w ∈ u_ws RX7 TX7 8, w ∈ wsX8_nearest := by decide +kernel
  have w0 : Cond.fieldLink RX8 170 "HiddenWorks$Task" "letters" "I" ∈ wsX8_nearest := by decide +kernel
  have B79 : ∀ (c37 : Int32 → Nat → Int32 → Int32 → Int32 → zk_Z → Option (Int32 × zk_Z)) (hc37 : ∀ (a2 : Int32) (ka3 : Nat) (a4 : Int32) (a5 : Int32) (a6 : Int32) (hka3 : ka3 < zk_cnt 7) (z : zk_Z), c37 a2 ka3 a4 a5 a6 z = some (r, z') → zk_G p l e (headSpec wsX8_nearest { frames := 5, cells := 0, slots := 0, locals := 108 }).room s m args below meth c E 8 0 0 (MQ below (zk_Qi E r z') args s 0 0 (zk_A E)) 37 [(2, .int a2), (3, .ref (E.2.1 7 ka3)), (4, .int a4), (5, .int a5), (6, .int a6)] [] z) (a2 : Int32) (ka3 : Nat) (a4 : Int32) (a5 : Int32) (a6 : Int32) (hka3 : ka3 < zk_cnt 7) (z : zk_Z), fX8_nearest_B79 c37 a2 ka3 a4 a5 a6 z = some (r, z') → zk_G p l e (headSpec wsX8_nearest { frames := 5, cells := 0, slots := 0, locals := 108 }).room s m args below meth c E 8 0 0 (MQ below (zk_Qi E r z') args s 0 0 (zk_A E)) 79 [(2, .int a2), (3, .ref (E.2.1 7 ka3)), (4, .int a4), (5, .int a5), (6, .int a6)] [] z := by
    intro c37 hc37 a2 ka3 a4 a5 a6 hka3 z h
    unfold fX8_nearest_B79 at h
    refine zk_iinc X (lv' := [(6, .int (a6 + 1)), (2, .int a2), (3, .ref (E.2.1 7 ka3)), (4, .int a4), (5, .int a5)]) 4 dX8_nearest_79 rfl rfl (by decide) rfl ?_
    refine zk_goto X (tgt := 37) dX8_nearest_82 (by decide) ?_
    exact zk_sub [1, 2, 3, 4, 0] rfl (hc37 _ _ _ _ _ (hka3) _ h)
  have L37 : ∀ (n : Nat) (a2 : Int32) (ka3 : Nat) (a4 : Int32) (a5 : Int32) (a6 : Int32) (hka3 : ka3 < zk_cnt 7) (z : zk_Z), fX8_nearest_L37 n a2 ka3 a4 a5 a6 z = some (r, z') → zk_G p l e (headSpec wsX8_nearest { frames := 5, cells := 0, slots := 0, locals := 108 }).room s m args below meth c E 8 0 0 (MQ below (zk_Qi E r z') args s 0 0 (zk_A E)) 37 [(2, .int a2), (3, .ref (E.2.1 7 ka3)), (4, .int a4), (5, .int a5), (6, .int a6)] [] z := by
    intro n
    induction n with
    | zero => intro a2 ka3 a4 a5 a6 hka3 z h; exact absurd h (by simp [fX8_nearest_L37])
    | succ n ih =>
      intro a2 ka3 a4 a5 a6 hka3 z h
      rw [fX8_nearest_L37] at h
      refine zk_iload X 4 dX8_nearest_37 rfl ?_
      refine zk_aload_n X 1 dX8_nearest_39 rfl rfl ?_
      refine zk_vi X h (fun rr zz hf => ct_X7_rows l E hi ka3 (hka3) _ rr zz hf) (cwV 0 X.1.2.2.2.2 gX8_nearest_X7_rows rfl rfl rfl (by decide +kernel) ⟨Nat.le_of_ble_eq_true rfl, Nat.le_of_ble_eq_true rfl⟩) (zk_recv X (g := 7) (hka3) rfl rfl) rfl rfl (Nat.le_of_ble_eq_true rfl) dX8_nearest_40 (fun r7 z6 h => ?_)
      refine zk_icmp_ge X (tgt := 85) dX8_nearest_43 (by decide) h (fun h => ?_) (fun h => ?_)
      · refine zk_iload X 2 dX8_nearest_85 rfl ?_
        exact zk_ireturn X hr dX8_nearest_87 h
      · refine zk_iload X 4 dX8_nearest_46 rfl ?_
        refine zk_iload_n X 0 dX8_nearest_48 rfl rfl ?_
        refine zk_ixor X dX8_nearest_49 ?_
        refine zk_si X h (fun rr zz hf => ct_J6_bitCount_0f7a4 l E hi (a6 ^^^ a2) _ rr zz hf) (va_cwS 1 X.1.2.2.2.2 gX8_nearest_J6_bitCount_0f7a4 rfl rfl rfl (by decide +kernel) ⟨Nat.le_of_ble_eq_true rfl, Nat.le_of_ble_eq_true rfl⟩) rfl rfl (Nat.le_of_ble_eq_true rfl) dX8_nearest_50 (fun r9 z8 h => ?_)
        refine zk_istore X (lv' := [(7, .int r9), (2, .int a2), (3, .ref (E.2.1 7 ka3)), (4, .int a4), (5, .int a5), (6, .int a6)]) dX8_nearest_53 (by decide) rfl ?_
        refine zk_iload X 0 dX8_nearest_55 rfl ?_
        refine zk_iload X 4 dX8_nearest_57 rfl ?_
        refine zk_icmp_ge X (tgt := 79) dX8_nearest_59 (by decide) h (fun h => ?_) (fun h => ?_)
        · exact zk_sub [1, 2, 3, 4, 5] rfl (B79 _ ih _ _ _ _ _ (hka3) _ h)
        · refine zk_aload_n X 2 dX8_nearest_62 rfl rfl ?_
          refine zk_iload X 5 dX8_nearest_63 rfl ?_
          refine zk_vi X h (fun rr zz hf => ct_X7_isSolvedBy l E hi ka3 (hka3) a6 _ rr zz hf) (cwV 1 X.1.2.2.2.2 gX8_nearest_X7_isSolvedBy rfl rfl rfl (by decide +kernel) ⟨Nat.le_of_ble_eq_true rfl, Nat.le_of_ble_eq_true rfl⟩) (zk_recv X (g := 7) (hka3) rfl rfl) rfl rfl (Nat.le_of_ble_eq_true rfl) dX8_nearest_65 (fun r11 z10 h => ?_)
          refine zk_if_eq X (tgt := 79) dX8_nearest_68 (by decide) h (fun h => ?_) (fun h => ?_)
          · exact zk_sub [1, 2, 3, 4, 5] rfl (B79 _ ih _ _ _ _ _ (hka3) _ h)
          · refine zk_iload X 5 dX8_nearest_71 rfl ?_
            refine zk_istore X (lv' := [(4, .int a6), (7, .int r9), (2, .int a2), (3, .ref (E.2.1 7 ka3)), (5, .int a5), (6, .int a6)]) dX8_nearest_73 (by decide) rfl ?_
            refine zk_iload X 1 dX8_nearest_75 rfl ?_
            refine zk_istore X (lv' := [(5, .int r9), (4, .int a6), (7, .int r9), (2, .int a2), (3, .ref (E.2.1 7 ka3)), (6, .int a6)]) dX8_nearest_77 (by decide) rfl ?_
            exact zk_sub [3, 4, 1, 0, 5] rfl (B79 _ ih _ _ _ _ _ (hka3) _ h)
  unfold fX8_nearest at h
  refine zk_aload_n X 0 dX8_nearest_0 rfl rfl ?_
  refine zk_iload_n X 1 dX8_nearest_1 rfl rfl ?_
  refine zk_vq X h (fun rr zz hf => ct_X8_taskAt l E hi  x1 _ rr zz hf) (cwV 1 X.1.2.2.2.2 gX8_nearest_X8_taskAt rfl rfl rfl (by decide +kernel) ⟨Nat.le_of_ble_eq_true rfl, Nat.le_of_ble_eq_true rfl⟩) (zk_recv X (g := 0) (Nat.zero_lt_one) rfl rfl) rfl rfl (Nat.le_of_ble_eq_true rfl) dX8_nearest_2 (fun z1 h => ?_) (fun kk3 z1 hkk3 h => ?_)
  · refine zk_astore_nN X (lv' := [(3, .null), (0, .ref (E.2.1 0 0)), (1, .int x1), (2, .int x2)]) dX8_nearest_5 rfl (by decide) rfl ?_
    refine zk_aload_nN X 0 dX8_nearest_6 rfl rfl ?_
    refine zk_ifnonnullN X dX8_nearest_7 ?_
    refine zk_bipush X (v := -5) dX8_nearest_10 (by decide) ?_
    exact zk_ireturn X hr dX8_nearest_12 h
  · refine zk_astore_n X (lv' := [(3, .ref (E.2.1 7 kk3)), (0, .ref (E.2.1 0 0)), (1, .int x1), (2, .int x2)]) dX8_nearest_5 rfl (by decide) rfl ?_
    refine zk_aload_n X 0 dX8_nearest_6 rfl rfl ?_
    refine zk_ifnonnull X (tgt := 13) dX8_nearest_7 (by decide) ?_
    refine zk_iload_n X 3 dX8_nearest_13 rfl rfl ?_
    refine zk_aload_n X 0 dX8_nearest_14 rfl rfl ?_
    refine zk_get X iX7 (g := 7) (hkk3) rfl rfl 1 (by decide) w0 rfl dX8_nearest_15 ?_
    refine zk_si X h (fun rr zz hf => ct_X8_isRow l E hi  x2 (z1.1 7 kk3 1) _ rr zz hf) (va_cwS 2 X.1.2.2.2.2 gX8_nearest_X8_isRow rfl rfl rfl (by decide +kernel) ⟨Nat.le_of_ble_eq_true rfl, Nat.le_of_ble_eq_true rfl⟩) rfl rfl (Nat.le_of_ble_eq_true rfl) dX8_nearest_18 (fun r5 z4 h => ?_)
    refine zk_if_ne X (tgt := 27) dX8_nearest_21 (by decide) h (fun h => ?_) (fun h => ?_)
    · refine zk_bipush X (v := -2) dX8_nearest_24 (by decide) ?_
      exact zk_ireturn X hr dX8_nearest_26 h
    · refine zk_iconst X (v := -1) dX8_nearest_27 (by decide) ?_
      refine zk_istore X (lv' := [(4, .int (-1)), (3, .ref (E.2.1 7 kk3)), (0, .ref (E.2.1 0 0)), (1, .int x1), (2, .int x2)]) dX8_nearest_28 (by decide) rfl ?_
      refine zk_bipush X (v := 11) dX8_nearest_30 (by decide) ?_
      refine zk_istore X (lv' := [(5, .int 11), (4, .int (-1)), (3, .ref (E.2.1 7 kk3)), (0, .ref (E.2.1 0 0)), (1, .int x1), (2, .int x2)]) dX8_nearest_32 (by decide) rfl ?_
      refine zk_iconst X (v := 0) dX8_nearest_34 (by decide) ?_
      refine zk_istore X (lv' := [(6, .int 0), (5, .int 11), (4, .int (-1)), (3, .ref (E.2.1 7 kk3)), (0, .ref (E.2.1 0 0)), (1, .int x1), (2, .int x2)]) dX8_nearest_35 (by decide) rfl ?_
      exact zk_sub [6, 3, 2, 1, 0] rfl (L37  _ _ _ _ _ _ (hkk3) _ h)
def fX8_needed_B61 (c18 : Nat → Int32 → Int32 → zk_Z → Option (Int32 × zk_Z)) (ka2 : Nat) (a3 : Int32) (a4 : Int32) (z : zk_Z) : Option (Int32 × zk_Z) := c18 ka2 a3 (a4 + 1) z
def fX8_needed_L18 : Nat → Nat → Int32 → Int32 → zk_Z → Option (Int32 × zk_Z)
  | 0, _, _, _, _ => none
  | n + 1, ka2, a3, a4, z => zk_bd (fX7_rows ka2 z) (fun r5 z4 => if r5 ≤ a4 then some (a3, z4) else zk_bd (fX7_brokenFrom ka2 0 a4 z4) (fun r7 z6 => if r7 < 0 then fX8_needed_B61 (fX8_needed_L18 n) ka2 a3 a4 z6 else zk_bd (fX7_brokenFrom ka2 (r7 + 1) a4 z6) (fun r9 z8 => if 0 ≤ r9 then fX8_needed_B61 (fX8_needed_L18 n) ka2 a3 a4 z8 else fX8_needed_B61 (fX8_needed_L18 n) ka2 (a3 ||| ((1 : Int32) <<< (r7 &&& 31))) a4 z8)))
def fX8_needed (x1 : Int32) (z : zk_Z) : Option (Int32 × zk_Z) := zk_bd (fX8_taskAt x1 z) (fun r2 z1 => zk_oc r2 (some ((-5), z1)) (fun kk3 => fX8_needed_L18 zk_FU kk3 0 0 z1))
set_option maxRecDepth 100000 in
set_option maxHeartbeats 8000000 in
theorem ct_X8_needed (l : Launch) (E : zk_E) (hi : zk_inj E) (x1 : Int32) (z : zk_Z) (r : Int32) (z' : zk_Z) (h : fX8_needed  x1 z = some (r, z')) : Met l yX8_needed wsX8_needed { frames := 4, cells := 0, slots := 0, locals := 87 } (va_Pc [.ref (E.2.1 0 0), .int x1] (zk_W E z)) (zk_Qi E r z') 0 0 (zk_A E) := by
  refine zk_met (cc := cX8_needed) (maxL := 6) (ret := (some .int)) (own := RX8) (by decide) rfl rfl hi (Nat.le_of_ble_eq_true rfl) ?_
  intro p e s m args below meth c X hr
  have B61 : ∀ (c18 : Nat → Int32 → Int32 → zk_Z → Option (Int32 × zk_Z)) (hc18 : ∀ (ka2 : Nat) (a3 : Int32) (a4 : Int32) (hka2 : ka2 < zk_cnt 7) (z : zk_Z), c18 ka2 a3 a4 z = some (r, z') → zk_G p l e (headSpec wsX8_needed { frames := 4, cells := 0, slots := 0, locals := 87 }).room s m args below meth c E 6 0 0 (MQ below (zk_Qi E r z') args s 0 0 (zk_A E)) 18 [(2, .ref (E.2.1 7 ka2)), (3, .int a3), (4, .int a4)] [] z) (ka2 : Nat) (a3 : Int32) (a4 : Int32) (hka2 : ka2 < zk_cnt 7) (z : zk_Z), fX8_needed_B61 c18 ka2 a3 a4 z = some (r, z') → zk_G p l e (headSpec wsX8_needed { frames := 4, cells := 0, slots := 0, locals := 87 }).room s m args below meth c E 6 0 0 (MQ below (zk_Qi E r z') args s 0 0 (zk_A E)) 61 [(2, .ref (E.2.1 7 ka2)), (3, .int a3), (4, .int a4)] [] z := by
    intro c18 hc18 ka2 a3 a4 hka2 z h
    unfold fX8_needed_B61 at h
    refine zk_iinc X (lv' := [(4, .int (a4 + 1)), (2, .ref (E.2.1 7 ka2)), (3, .int a3)]) 2 dX8_needed_61 rfl rfl (by decide) rfl ?_
    refine zk_goto X (tgt := 18) dX8_needed_64 (by decide) ?_
    exact zk_sub [1, 2, 0] rfl (hc18 _ _ _ (hka2) _ h)
  have L18 : ∀ (n : Nat) (ka2 : Nat) (a3 : Int32) (a4 : Int32) (hka2 : ka2 < zk_cnt 7) (z : zk_Z), fX8_needed_L18 n ka2 a3 a4 z = some (r, z') → zk_G p l e (headSpec wsX8_needed { frames := 4, cells := 0, slots := 0, locals := 87 }).room s m args below meth c E 6 0 0 (MQ below (zk_Qi E r z') args s 0 0 (zk_A E)) 18 [(2, .ref (E.2.1 7 ka2)), (3, .int a3), (4, .int a4)] [] z := by
    intro n
    induction n with
    | zero => intro ka2 a3 a4 hka2 z h; exact absurd h (by simp [fX8_needed_L18])
    | succ n ih =>
      intro ka2 a3 a4 hka2 z h
      rw [fX8_needed_L18] at h
      refine zk_iload X 2 dX8_needed_18 rfl ?_
      refine zk_aload_n X 0 dX8_needed_20 rfl rfl ?_
      refine zk_vi X h (fun rr zz hf => ct_X7_rows l E hi ka2 (hka2) _ rr zz hf) (cwV 0 X.1.2.2.2.2 gX8_needed_X7_rows rfl rfl rfl (by decide +kernel) ⟨Nat.le_of_ble_eq_true rfl, Nat.le_of_ble_eq_true rfl⟩) (zk_recv X (g := 7) (hka2) rfl rfl) rfl rfl (Nat.le_of_ble_eq_true rfl) dX8_needed_21 (fun r5 z4 h => ?_)
      refine zk_icmp_ge X (tgt := 67) dX8_needed_24 (by decide) h (fun h => ?_) (fun h => ?_)
      · refine zk_iload_n X 1 dX8_needed_67 rfl rfl ?_
        exact zk_ireturn X hr dX8_needed_68 h
      · refine zk_aload_n X 0 dX8_needed_27 rfl rfl ?_
        refine zk_iconst X (v := 0) dX8_needed_28 (by decide) ?_
        refine zk_iload X 2 dX8_needed_29 rfl ?_
        refine zk_vi X h (fun rr zz hf => ct_X7_brokenFrom l E hi ka2 (hka2) 0 a4 _ rr zz hf) (cwV 2 X.1.2.2.2.2 gX8_needed_X7_brokenFrom rfl rfl rfl (by decide +kernel) ⟨Nat.le_of_ble_eq_true rfl, Nat.le_of_ble_eq_true rfl⟩) (zk_recv X (g := 7) (hka2) rfl rfl) rfl rfl (Nat.le_of_ble_eq_true rfl) dX8_needed_31 (fun r7 z6 h => ?_)
        refine zk_istore X (lv' := [(5, .int r7), (2, .ref (E.2.1 7 ka2)), (3, .int a3), (4, .int a4)]) dX8_needed_34 (by decide) rfl ?_
        refine zk_iload X 0 dX8_needed_36 rfl ?_
        refine zk_if_lt X (tgt := 61) dX8_needed_38 (by decide) h (fun h => ?_) (fun h => ?_)
        · exact zk_sub [1, 2, 3] rfl (B61 _ ih _ _ _ (hka2) _ h)
        · refine zk_aload_n X 1 dX8_needed_41 rfl rfl ?_
          refine zk_iload X 0 dX8_needed_42 rfl ?_
          refine zk_iconst X (v := 1) dX8_needed_44 (by decide) ?_
          refine zk_iadd X dX8_needed_45 ?_
          refine zk_iload X 3 dX8_needed_46 rfl ?_
          refine zk_vi X h (fun rr zz hf => ct_X7_brokenFrom l E hi ka2 (hka2) (r7 + 1) a4 _ rr zz hf) (cwV 2 X.1.2.2.2.2 gX8_needed_X7_brokenFrom rfl rfl rfl (by decide +kernel) ⟨Nat.le_of_ble_eq_true rfl, Nat.le_of_ble_eq_true rfl⟩) (zk_recv X (g := 7) (hka2) rfl rfl) rfl rfl (Nat.le_of_ble_eq_true rfl) dX8_needed_48 (fun r9 z8 h => ?_)
          refine zk_if_ge X (tgt := 61) dX8_needed_51 (by decide) h (fun h => ?_) (fun h => ?_)
          · exact zk_sub [1, 2, 3] rfl (B61 _ ih _ _ _ (hka2) _ h)
          · refine zk_iload_n X 2 dX8_needed_54 rfl rfl ?_
            refine zk_iconst X (v := 1) dX8_needed_55 (by decide) ?_
            refine zk_iload X 0 dX8_needed_56 rfl ?_
            refine zk_ishl X dX8_needed_58 ?_
            refine zk_ior X dX8_needed_59 ?_
            refine zk_istore_n X (lv' := [(3, .int (a3 ||| ((1 : Int32) <<< (r7 &&& 31)))), (5, .int r7), (2, .ref (E.2.1 7 ka2)), (4, .int a4)]) dX8_needed_60 rfl (by decide) rfl ?_
            exact zk_sub [2, 0, 3] rfl (B61 _ ih _ _ _ (hka2) _ h)
  unfold fX8_needed at h
  refine zk_aload_n X 0 dX8_needed_0 rfl rfl ?_
  refine zk_iload_n X 1 dX8_needed_1 rfl rfl ?_
  refine zk_vq X h (fun rr zz hf => ct_X8_taskAt l E hi  x1 _ rr zz hf) (cwV 1 X.1.2.2.2.2 gX8_needed_X8_taskAt rfl rfl rfl (by decide +kernel) ⟨Nat.le_of_ble_eq_true rfl, Nat.le_of_ble_eq_true rfl⟩) (zk_recv X (g := 0) (Nat.zero_lt_one) rfl rfl) rfl rfl (Nat.le_of_ble_eq_true rfl) dX8_needed_2 (fun z1 h => ?_) (fun kk3 z1 hkk3 h => ?_)
  · refine zk_astore_nN X (lv' := [(2, .null), (0, .ref (E.2.1 0 0)), (1, .int x1)]) dX8_needed_5 rfl (by decide) rfl ?_
    refine zk_aload_nN X 0 dX8_needed_6 rfl rfl ?_
    refine zk_ifnonnullN X dX8_needed_7 ?_
    refine zk_bipush X (v := -5) dX8_needed_10 (by decide) ?_
    exact zk_ireturn X hr dX8_needed_12 h
  · refine zk_astore_n X (lv' := [(2, .ref (E.2.1 7 kk3)), (0, .ref (E.2.1 0 0)), (1, .int x1)]) dX8_needed_5 rfl (by decide) rfl ?_
    refine zk_aload_n X 0 dX8_needed_6 rfl rfl ?_
    refine zk_ifnonnull X (tgt := 13) dX8_needed_7 (by decide) ?_
    refine zk_iconst X (v := 0) dX8_needed_13 (by decide) ?_
    refine zk_istore_n X (lv' := [(3, .int 0), (2, .ref (E.2.1 7 kk3)), (0, .ref (E.2.1 0 0)), (1, .int x1)]) dX8_needed_14 rfl (by decide) rfl ?_
    refine zk_iconst X (v := 0) dX8_needed_15 (by decide) ?_
    refine zk_istore X (lv' := [(4, .int 0), (3, .int 0), (2, .ref (E.2.1 7 kk3)), (0, .ref (E.2.1 0 0)), (1, .int x1)]) dX8_needed_16 (by decide) rfl ?_
    exact zk_sub [2, 1, 0] rfl (L18  _ _ _ _ (hkk3) _ h)
def fX8_pairs (x1 : Int32) (x2 : Int32) (z : zk_Z) : Option (Int64 × zk_Z) := zk_bd (fX8_recipeAt x1 z) (fun r2 z1 => zk_oc r2 (some ((-4611686018427387904), z1)) (fun kk3 => if x2 < 0 then some ((-4611686018427387904), z1) else if x2 ≤ 1 then zk_bd (fX4_pairing kk3 z1) (fun r5 z4 => zk_bd (fX4_allWays kk3 z4) (fun r7 z6 => zk_bd (fX4_pairCount kk3 z6) (fun r9 z8 => zk_bd (fX8_partInLowestTerms r5 (r7 * r9) x2 z8) (fun r11 z10 => some (r11, z10))))) else some ((-4611686018427387904), z1)))
set_option maxRecDepth 100000 in
set_option maxHeartbeats 8000000 in
theorem ct_X8_pairs (l : Launch) (E : zk_E) (hi : zk_inj E) (x1 : Int32) (x2 : Int32) (z : zk_Z) (r : Int64) (z' : zk_Z) (h : fX8_pairs  x1 x2 z = some (r, z')) : Met l yX8_pairs wsX8_pairs { frames := 3, cells := 0, slots := 0, locals := 65 } (va_Pc [.ref (E.2.1 0 0), .int x1, .int x2] (zk_W E z)) (zk_Ql E r z') 0 0 (zk_A E) := by
  refine zk_met (cc := cX8_pairs) (maxL := 4) (ret := (some .long)) (own := RX8) (by decide) rfl rfl hi (Nat.le_of_ble_eq_true rfl) ?_
  intro p e s m args below meth c X hr
  have w0 : Cond.constantLong RX8 201 (-4611686018427387904) ∈ wsX8_pairs := by decide +kernel
  unfold fX8_pairs at h
  refine zk_aload_n X 0 dX8_pairs_0 rfl rfl ?_
  refine zk_iload_n X 1 dX8_pairs_1 rfl rfl ?_
  refine zk_vq X h (fun rr zz hf => ct_X8_recipeAt l E hi  x1 _ rr zz hf) (cwV 1 X.1.2.2.2.2 gX8_pairs_X8_recipeAt rfl rfl rfl (by decide +kernel) ⟨Nat.le_of_ble_eq_true rfl, Nat.le_of_ble_eq_true rfl⟩) (zk_recv X (g := 0) (Nat.zero_lt_one) rfl rfl) rfl rfl (Nat.le_of_ble_eq_true rfl) dX8_pairs_2 (fun z1 h => ?_) (fun kk3 z1 hkk3 h => ?_)
  · refine zk_astore_nN X (lv' := [(3, .null), (0, .ref (E.2.1 0 0)), (1, .int x1), (2, .int x2)]) dX8_pairs_5 rfl (by decide) rfl ?_
    refine zk_aload_nN X 0 dX8_pairs_6 rfl rfl ?_
    refine zk_ifnullN X (tgt := 19) dX8_pairs_7 (by decide) ?_
    refine zk_ldc2 X w0 dX8_pairs_19 ?_
    exact zk_lreturn X hr dX8_pairs_22 h
  · refine zk_astore_n X (lv' := [(3, .ref (E.2.1 4 kk3)), (0, .ref (E.2.1 0 0)), (1, .int x1), (2, .int x2)]) dX8_pairs_5 rfl (by decide) rfl ?_
    refine zk_aload_n X 0 dX8_pairs_6 rfl rfl ?_
    refine zk_ifnull X dX8_pairs_7 ?_
    refine zk_iload_n X 3 dX8_pairs_10 rfl rfl ?_
    refine zk_if_lt X (tgt := 19) dX8_pairs_11 (by decide) h (fun h => ?_) (fun h => ?_)
    · refine zk_ldc2 X w0 dX8_pairs_19 ?_
      exact zk_lreturn X hr dX8_pairs_22 h
    · refine zk_iload_n X 3 dX8_pairs_14 rfl rfl ?_
      refine zk_iconst X (v := 1) dX8_pairs_15 (by decide) ?_
      refine zk_icmp_le X (tgt := 23) dX8_pairs_16 (by decide) h (fun h => ?_) (fun h => ?_)
      · refine zk_aload_n X 0 dX8_pairs_23 rfl rfl ?_
        refine zk_vi X h (fun rr zz hf => ct_X4_pairing l E hi kk3 (hkk3)  _ rr zz hf) (cwV 0 X.1.2.2.2.2 gX8_pairs_X4_pairing rfl rfl rfl (by decide +kernel) ⟨Nat.le_of_ble_eq_true rfl, Nat.le_of_ble_eq_true rfl⟩) (zk_recv X (g := 4) (hkk3) rfl rfl) rfl rfl (Nat.le_of_ble_eq_true rfl) dX8_pairs_24 (fun r5 z4 h => ?_)
        refine zk_aload_n X 0 dX8_pairs_27 rfl rfl ?_
        refine zk_vi X h (fun rr zz hf => ct_X4_allWays l E hi kk3 (hkk3)  _ rr zz hf) (cwV 0 X.1.2.2.2.2 gX8_pairs_X4_allWays rfl rfl rfl (by decide +kernel) ⟨Nat.le_of_ble_eq_true rfl, Nat.le_of_ble_eq_true rfl⟩) (zk_recv X (g := 4) (hkk3) rfl rfl) rfl rfl (Nat.le_of_ble_eq_true rfl) dX8_pairs_28 (fun r7 z6 h => ?_)
        refine zk_aload_n X 0 dX8_pairs_31 rfl rfl ?_
        refine zk_vi X h (fun rr zz hf => ct_X4_pairCount l E hi kk3 (hkk3)  _ rr zz hf) (cwV 0 X.1.2.2.2.2 gX8_pairs_X4_pairCount rfl rfl rfl (by decide +kernel) ⟨Nat.le_of_ble_eq_true rfl, Nat.le_of_ble_eq_true rfl⟩) (zk_recv X (g := 4) (hkk3) rfl rfl) rfl rfl (Nat.le_of_ble_eq_true rfl) dX8_pairs_32 (fun r9 z8 h => ?_)
        refine zk_imul X dX8_pairs_35 ?_
        refine zk_iload_n X 3 dX8_pairs_36 rfl rfl ?_
        refine zk_sl X h (fun rr zz hf => ct_X8_partInLowestTerms l E hi  r5 (r7 * r9) x2 _ rr zz hf) (va_cwS 3 X.1.2.2.2.2 gX8_pairs_X8_partInLowestTerms rfl rfl rfl (by decide +kernel) ⟨Nat.le_of_ble_eq_true rfl, Nat.le_of_ble_eq_true rfl⟩) rfl rfl (Nat.le_of_ble_eq_true rfl) dX8_pairs_37 (fun r11 z10 h => ?_)
        exact zk_lreturn X hr dX8_pairs_40 h
      · refine zk_ldc2 X w0 dX8_pairs_19 ?_
        exact zk_lreturn X hr dX8_pairs_22 h
def fX8_recipe (z : zk_Z) : Option (Int32 × zk_Z) := if (z.1 0 0 11) < 6 then zk_gd (zk_ix (z.1 0 0 11) 6) (zk_bd (fX6_readInto ((z.1 0 0 11).toNatClampNeg) z) (fun r3 z2 => if r3 < 0 then some (((zk_sI (zk_sI z2 1 0 1 0) 0 0 11 (((zk_sI z2 1 0 1 0).1 0 0 11) + 1)).1 0 0 11) - 1, zk_sI (zk_sI z2 1 0 1 0) 0 0 11 (((zk_sI z2 1 0 1 0).1 0 0 11) + 1)) else some ((-100) - r3, zk_sI z2 1 0 1 0))) else some ((-4), z)
set_option maxRecDepth 100000 in
set_option maxHeartbeats 8000000 in
theorem ct_X8_recipe (l : Launch) (E : zk_E) (hi : zk_inj E) (z : zk_Z) (r : Int32) (z' : zk_Z) (h : fX8_recipe   z = some (r, z')) : Met l yX8_recipe wsX8_recipe { frames := 4, cells := 0, slots := 0, locals := 90 } (va_Pc [.ref (E.2.1 0 0)] (zk_W E z)) (zk_Qi E r z') 0 0 (zk_A E) := by
  refine zk_met (cc := cX8_recipe) (maxL := 2) (ret := (some .int)) (own := RX8) (by decide) rfl rfl hi (Nat.le_of_ble_eq_true rfl) ?_
  intro p e s m args below meth c X hr
  have iX6 : ∀ w ∈ u_ws RX6 TX6 4, w ∈ wsX8_recipe := by decide +kernel
  have iX8 : ∀ w ∈ u_ws RX8 TX8 15, w ∈ wsX8_recipe := by decide +kernel
  have w0 : Cond.fieldLink RX8 83 "HiddenWorks" "recipeCount" "I" ∈ wsX8_recipe := by decide +kernel
  have w1 : Cond.fieldLink RX8 10 "HiddenWorks" "tape" "LHiddenWorks$Tape;" ∈ wsX8_recipe := by decide +kernel
  have w2 : Cond.fieldLink RX8 49 "HiddenWorks" "recipes" "[LHiddenWorks$Recipe;" ∈ wsX8_recipe := by decide +kernel
  have w3 : Cond.fieldLink RX8 76 "HiddenWorks$Tape" "size" "I" ∈ wsX8_recipe := by decide +kernel
  unfold fX8_recipe at h
  refine zk_aload_n X 0 dX8_recipe_0 rfl rfl ?_
  refine zk_get X iX8 (g := 0) (Nat.zero_lt_one) rfl rfl 11 (by decide) w0 rfl dX8_recipe_1 ?_
  refine zk_bipush X (v := 6) dX8_recipe_4 (by decide) ?_
  refine zk_icmp_lt X (tgt := 12) dX8_recipe_6 (by decide) h (fun h => ?_) (fun h => ?_)
  · refine zk_aload_n X 0 dX8_recipe_12 rfl rfl ?_
    refine zk_get X iX8 (g := 0) (Nat.zero_lt_one) rfl rfl 0 (by decide) w1 rfl dX8_recipe_13 ?_
    refine zk_aload_n X 0 dX8_recipe_16 rfl rfl ?_
    refine zk_get X iX8 (g := 0) (Nat.zero_lt_one) rfl rfl 1 (by decide) w2 rfl dX8_recipe_17 ?_
    refine zk_aload_n X 0 dX8_recipe_20 rfl rfl ?_
    refine zk_get X iX8 (g := 0) (Nat.zero_lt_one) rfl rfl 11 (by decide) w0 rfl dX8_recipe_21 ?_
    refine zk_aald X (g := 3) (t := 2) (Nat.zero_lt_one) rfl rfl dX8_recipe_24 h (fun hb1 h => ?_)
    refine zk_vi X h (fun rr zz hf => ct_X6_readInto l E hi ((z.1 0 0 11).toNatClampNeg) (hb1)  _ rr zz hf) (cwV 1 X.1.2.2.2.2 gX8_recipe_X6_readInto rfl rfl rfl (by decide +kernel) ⟨Nat.le_of_ble_eq_true rfl, Nat.le_of_ble_eq_true rfl⟩) (zk_recv X (g := 1) (Nat.zero_lt_one) rfl rfl) rfl rfl (Nat.le_of_ble_eq_true rfl) dX8_recipe_25 (fun r3 z2 h => ?_)
    refine zk_istore_n X (lv' := [(1, .int r3), (0, .ref (E.2.1 0 0))]) dX8_recipe_28 rfl (by decide) rfl ?_
    refine zk_aload_n X 1 dX8_recipe_29 rfl rfl ?_
    refine zk_get X iX8 (g := 0) (Nat.zero_lt_one) rfl rfl 0 (by decide) w1 rfl dX8_recipe_30 ?_
    refine zk_iconst X (v := 0) dX8_recipe_33 (by decide) ?_
    refine zk_putI X (ty := .int) iX6 tyX6 tyX6_ok nmX6 (g := 1) (Nat.zero_lt_one) rfl rfl 1 (by decide) w3 rfl (by decide +kernel) rfl rfl (Nat.le_of_ble_eq_true rfl) rfl dX8_recipe_34 ?_
    refine zk_iload_n X 0 dX8_recipe_37 rfl rfl ?_
    refine zk_if_lt X (tgt := 46) dX8_recipe_38 (by decide) h (fun h => ?_) (fun h => ?_)
    · refine zk_aload_n X 1 dX8_recipe_46 rfl rfl ?_
      refine zk_dup X dX8_recipe_47 rfl ?_
      refine zk_get X iX8 (g := 0) (Nat.zero_lt_one) rfl rfl 11 (by decide) w0 rfl dX8_recipe_48 ?_
      refine zk_iconst X (v := 1) dX8_recipe_51 (by decide) ?_
      refine zk_iadd X dX8_recipe_52 ?_
      refine zk_putI X (ty := .int) iX8 tyX8 tyX8_ok nmX8 (g := 0) (Nat.zero_lt_one) rfl rfl 11 (by decide) w0 rfl (by decide +kernel) rfl rfl (Nat.le_of_ble_eq_true rfl) rfl dX8_recipe_53 ?_
      refine zk_aload_n X 1 dX8_recipe_56 rfl rfl ?_
      refine zk_get X iX8 (g := 0) (Nat.zero_lt_one) rfl rfl 11 (by decide) w0 rfl dX8_recipe_57 ?_
      refine zk_iconst X (v := 1) dX8_recipe_60 (by decide) ?_
      refine zk_isub X dX8_recipe_61 ?_
      exact zk_ireturn X hr dX8_recipe_62 h
    · refine zk_bipush X (v := -100) dX8_recipe_41 (by decide) ?_
      refine zk_iload_n X 0 dX8_recipe_43 rfl rfl ?_
      refine zk_isub X dX8_recipe_44 ?_
      exact zk_ireturn X hr dX8_recipe_45 h
  · refine zk_bipush X (v := -4) dX8_recipe_9 (by decide) ?_
    exact zk_ireturn X hr dX8_recipe_11 h
def fX8_recipeTold (x1 : Int32) (x2 : Int32) (z : zk_Z) : Option (Int32 × zk_Z) := zk_bd (fX8_recipeAt x1 z) (fun r2 z1 => zk_oc r2 (some ((-5), z1)) (fun kk3 => if x2 = 0 then some (z1.1 4 kk3 0, z1) else if x2 = 1 then some (z1.1 4 kk3 1, z1) else if x2 = 2 then some (z1.1 4 kk3 2, z1) else if x2 = 3 then some (z1.1 4 kk3 3, z1) else if x2 < 4 then some ((-7), z1) else if (z1.1 4 kk3 3) < (x2 - 4) then some ((-7), z1) else zk_gd (zk_ix (x2 - 4) 4) (some (z1.1 5 kk3 (x2 - 4).toNatClampNeg, z1))))
set_option maxRecDepth 100000 in
set_option maxHeartbeats 8000000 in
theorem ct_X8_recipeTold (l : Launch) (E : zk_E) (hi : zk_inj E) (x1 : Int32) (x2 : Int32) (z : zk_Z) (r : Int32) (z' : zk_Z) (h : fX8_recipeTold  x1 x2 z = some (r, z')) : Met l yX8_recipeTold wsX8_recipeTold { frames := 1, cells := 0, slots := 0, locals := 21 } (va_Pc [.ref (E.2.1 0 0), .int x1, .int x2] (zk_W E z)) (zk_Qi E r z') 0 0 (zk_A E) := by
  refine zk_met (cc := cX8_recipeTold) (maxL := 4) (ret := (some .int)) (own := RX8) (by decide) rfl rfl hi (Nat.le_of_ble_eq_true rfl) ?_
  intro p e s m args below meth c X hr
  have iX4 : ∀ w ∈ u_ws RX4 TX4 5, w ∈ wsX8_recipeTold := by decide +kernel
  have w0 : Cond.fieldLink RX8 94 "HiddenWorks$Recipe" "kind" "I" ∈ wsX8_recipeTold := by decide +kernel
  have w1 : Cond.fieldLink RX8 97 "HiddenWorks$Recipe" "letters" "I" ∈ wsX8_recipeTold := by decide +kernel
  have w2 : Cond.fieldLink RX8 100 "HiddenWorks$Recipe" "clauses" "I" ∈ wsX8_recipeTold := by decide +kernel
  have w3 : Cond.fieldLink RX8 103 "HiddenWorks$Recipe" "wide" "I" ∈ wsX8_recipeTold := by decide +kernel
  have w4 : Cond.fieldLink RX8 106 "HiddenWorks$Recipe" "weights" "[I" ∈ wsX8_recipeTold := by decide +kernel
  unfold fX8_recipeTold at h
  refine zk_aload_n X 0 dX8_recipeTold_0 rfl rfl ?_
  refine zk_iload_n X 1 dX8_recipeTold_1 rfl rfl ?_
  refine zk_vq X h (fun rr zz hf => ct_X8_recipeAt l E hi  x1 _ rr zz hf) (cwV 1 X.1.2.2.2.2 gX8_recipeTold_X8_recipeAt rfl rfl rfl (by decide +kernel) ⟨Nat.le_of_ble_eq_true rfl, Nat.le_of_ble_eq_true rfl⟩) (zk_recv X (g := 0) (Nat.zero_lt_one) rfl rfl) rfl rfl (Nat.le_of_ble_eq_true rfl) dX8_recipeTold_2 (fun z1 h => ?_) (fun kk3 z1 hkk3 h => ?_)
  · refine zk_astore_nN X (lv' := [(3, .null), (0, .ref (E.2.1 0 0)), (1, .int x1), (2, .int x2)]) dX8_recipeTold_5 rfl (by decide) rfl ?_
    refine zk_aload_nN X 0 dX8_recipeTold_6 rfl rfl ?_
    refine zk_ifnonnullN X dX8_recipeTold_7 ?_
    refine zk_bipush X (v := -5) dX8_recipeTold_10 (by decide) ?_
    exact zk_ireturn X hr dX8_recipeTold_12 h
  · refine zk_astore_n X (lv' := [(3, .ref (E.2.1 4 kk3)), (0, .ref (E.2.1 0 0)), (1, .int x1), (2, .int x2)]) dX8_recipeTold_5 rfl (by decide) rfl ?_
    refine zk_aload_n X 0 dX8_recipeTold_6 rfl rfl ?_
    refine zk_ifnonnull X (tgt := 13) dX8_recipeTold_7 (by decide) ?_
    refine zk_iload_n X 3 dX8_recipeTold_13 rfl rfl ?_
    rcases zk_if h with ⟨q4, h⟩ | ⟨q4, h⟩
    · refine zk_tsw_in X (v := 0) dX8_recipeTold_14 q4 (by decide) (by decide) (off := 30) rfl (tgt := 44) (by decide) ?_
      refine zk_aload_n X 0 dX8_recipeTold_44 rfl rfl ?_
      refine zk_get X iX4 (g := 4) (hkk3) rfl rfl 0 (by decide) w0 rfl dX8_recipeTold_45 ?_
      exact zk_ireturn X hr dX8_recipeTold_48 h
    · rcases zk_if h with ⟨q5, h⟩ | ⟨q5, h⟩
      · refine zk_tsw_in X (v := 1) dX8_recipeTold_14 q5 (by decide) (by decide) (off := 35) rfl (tgt := 49) (by decide) ?_
        refine zk_aload_n X 0 dX8_recipeTold_49 rfl rfl ?_
        refine zk_get X iX4 (g := 4) (hkk3) rfl rfl 1 (by decide) w1 rfl dX8_recipeTold_50 ?_
        exact zk_ireturn X hr dX8_recipeTold_53 h
      · rcases zk_if h with ⟨q6, h⟩ | ⟨q6, h⟩
        · refine zk_tsw_in X (v := 2) dX8_recipeTold_14 q6 (by decide) (by decide) (off := 40) rfl (tgt := 54) (by decide) ?_
          refine zk_aload_n X 0 dX8_recipeTold_54 rfl rfl ?_
          refine zk_get X iX4 (g := 4) (hkk3) rfl rfl 2 (by decide) w2 rfl dX8_recipeTold_55 ?_
          exact zk_ireturn X hr dX8_recipeTold_58 h
        · rcases zk_if h with ⟨q7, h⟩ | ⟨q7, h⟩
          · refine zk_tsw_in X (v := 3) dX8_recipeTold_14 q7 (by decide) (by decide) (off := 45) rfl (tgt := 59) (by decide) ?_
            refine zk_aload_n X 0 dX8_recipeTold_59 rfl rfl ?_
            refine zk_get X iX4 (g := 4) (hkk3) rfl rfl 3 (by decide) w3 rfl dX8_recipeTold_60 ?_
            exact zk_ireturn X hr dX8_recipeTold_63 h
          · refine zk_tsw_out X dX8_recipeTold_14 (by have := lv_neT (a := 0) q4 (by decide); have := lv_neT (a := 1) q5 (by decide); have := lv_neT (a := 2) q6 (by decide); have := lv_neT (a := 3) q7 (by decide); omega) (tgt := 64) (by decide) ?_
            refine zk_iload_n X 3 dX8_recipeTold_64 rfl rfl ?_
            refine zk_iconst X (v := 4) dX8_recipeTold_65 (by decide) ?_
            refine zk_icmp_lt X (tgt := 90) dX8_recipeTold_66 (by decide) h (fun h => ?_) (fun h => ?_)
            · refine zk_bipush X (v := -7) dX8_recipeTold_90 (by decide) ?_
              exact zk_ireturn X hr dX8_recipeTold_92 h
            · refine zk_iload_n X 3 dX8_recipeTold_69 rfl rfl ?_
              refine zk_iconst X (v := 4) dX8_recipeTold_70 (by decide) ?_
              refine zk_isub X dX8_recipeTold_71 ?_
              refine zk_aload_n X 0 dX8_recipeTold_72 rfl rfl ?_
              refine zk_get X iX4 (g := 4) (hkk3) rfl rfl 3 (by decide) w3 rfl dX8_recipeTold_73 ?_
              refine zk_icmp_gt X (tgt := 90) dX8_recipeTold_76 (by decide) h (fun h => ?_) (fun h => ?_)
              · refine zk_bipush X (v := -7) dX8_recipeTold_90 (by decide) ?_
                exact zk_ireturn X hr dX8_recipeTold_92 h
              · refine zk_aload_n X 0 dX8_recipeTold_79 rfl rfl ?_
                refine zk_get X iX4 (g := 4) (hkk3) rfl rfl 4 (by decide) w4 rfl dX8_recipeTold_80 ?_
                refine zk_iload_n X 3 dX8_recipeTold_83 rfl rfl ?_
                refine zk_iconst X (v := 4) dX8_recipeTold_84 (by decide) ?_
                refine zk_isub X dX8_recipeTold_85 ?_
                refine zk_iald X (g := 5) (hkk3) rfl dX8_recipeTold_86 h (fun h => ?_)
                refine zk_goto X (tgt := 92) dX8_recipeTold_87 (by decide) ?_
                exact zk_ireturn X hr dX8_recipeTold_92 h
def fX8_sheet (x1 : Int32) (x2 : Int32) (x3 : Int32) (z : zk_Z) : Option (Int32 × zk_Z) := zk_bd (fX8_isSheet x1 z) (fun r2 z1 => if r2 = 0 then some ((-2), z1) else if x2 < (-1) then some ((-2), z1) else if x2 < 3 then if x2 = (-1) then zk_gd (zk_ix x1 4) (zk_bd (fX5_begin x1.toNatClampNeg (-1) 0 z1) (fun _ z4 => some (1, z4))) else if x3 ≤ 40 then if 0 ≤ x3 then zk_gd (zk_ix x1 4) (zk_bd (fX5_begin x1.toNatClampNeg x2 x3 z1) (fun _ z7 => some (1, z7))) else some ((-14), z1) else some ((-2), z1) else some ((-2), z1))
set_option maxRecDepth 100000 in
set_option maxHeartbeats 8000000 in
theorem ct_X8_sheet (l : Launch) (E : zk_E) (hi : zk_inj E) (x1 : Int32) (x2 : Int32) (x3 : Int32) (z : zk_Z) (r : Int32) (z' : zk_Z) (h : fX8_sheet  x1 x2 x3 z = some (r, z')) : Met l yX8_sheet wsX8_sheet { frames := 2, cells := 0, slots := 0, locals := 45 } (va_Pc [.ref (E.2.1 0 0), .int x1, .int x2, .int x3] (zk_W E z)) (zk_Qi E r z') 0 0 (zk_A E) := by
  refine zk_met (cc := cX8_sheet) (maxL := 4) (ret := (some .int)) (own := RX8) (by decide) rfl rfl hi (Nat.le_of_ble_eq_true rfl) ?_
  intro p e s m args below meth c X hr
  have iX8 : ∀ w ∈ u_ws RX8 TX8 15, w ∈ wsX8_sheet := by decide +kernel
  have w0 : Cond.fieldLink RX8 67 "HiddenWorks" "sheets" "[LHiddenWorks$Sheet;" ∈ wsX8_sheet := by decide +kernel
  unfold fX8_sheet at h
  refine zk_iload_n X 1 dX8_sheet_0 rfl rfl ?_
  refine zk_si X h (fun rr zz hf => ct_X8_isSheet l E hi  x1 _ rr zz hf) (va_cwS 1 X.1.2.2.2.2 gX8_sheet_X8_isSheet rfl rfl rfl (by decide +kernel) ⟨Nat.le_of_ble_eq_true rfl, Nat.le_of_ble_eq_true rfl⟩) rfl rfl (Nat.le_of_ble_eq_true rfl) dX8_sheet_1 (fun r2 z1 h => ?_)
  refine zk_if_eq X (tgt := 17) dX8_sheet_4 (by decide) h (fun h => ?_) (fun h => ?_)
  · refine zk_bipush X (v := -2) dX8_sheet_17 (by decide) ?_
    exact zk_ireturn X hr dX8_sheet_19 h
  · refine zk_iload_n X 2 dX8_sheet_7 rfl rfl ?_
    refine zk_iconst X (v := -1) dX8_sheet_8 (by decide) ?_
    refine zk_icmp_lt X (tgt := 17) dX8_sheet_9 (by decide) h (fun h => ?_) (fun h => ?_)
    · refine zk_bipush X (v := -2) dX8_sheet_17 (by decide) ?_
      exact zk_ireturn X hr dX8_sheet_19 h
    · refine zk_iload_n X 2 dX8_sheet_12 rfl rfl ?_
      refine zk_iconst X (v := 3) dX8_sheet_13 (by decide) ?_
      refine zk_icmp_lt X (tgt := 20) dX8_sheet_14 (by decide) h (fun h => ?_) (fun h => ?_)
      · refine zk_iload_n X 2 dX8_sheet_20 rfl rfl ?_
        refine zk_iconst X (v := -1) dX8_sheet_21 (by decide) ?_
        refine zk_icmp_ne X (tgt := 38) dX8_sheet_22 (by decide) h (fun h => ?_) (fun h => ?_)
        · refine zk_aload_n X 0 dX8_sheet_25 rfl rfl ?_
          refine zk_get X iX8 (g := 0) (Nat.zero_lt_one) rfl rfl 4 (by decide) w0 rfl dX8_sheet_26 ?_
          refine zk_iload_n X 1 dX8_sheet_29 rfl rfl ?_
          refine zk_aald X (g := 12) (t := 3) (Nat.zero_lt_one) rfl rfl dX8_sheet_30 h (fun hb3 h => ?_)
          refine zk_iconst X (v := -1) dX8_sheet_31 (by decide) ?_
          refine zk_iconst X (v := 0) dX8_sheet_32 (by decide) ?_
          refine zk_vv X h (fun rr zz hf => ct_X5_begin l E hi x1.toNatClampNeg (hb3) (-1) 0 _ rr zz hf) (cwV 2 X.1.2.2.2.2 gX8_sheet_X5_begin rfl rfl rfl (by decide +kernel) ⟨Nat.le_of_ble_eq_true rfl, Nat.le_of_ble_eq_true rfl⟩) (zk_recv X (g := 13) (hb3) rfl rfl) rfl rfl (Nat.le_of_ble_eq_true rfl) dX8_sheet_33 (fun z4 h => ?_)
          refine zk_iconst X (v := 1) dX8_sheet_36 (by decide) ?_
          exact zk_ireturn X hr dX8_sheet_37 h
        · refine zk_iload_n X 3 dX8_sheet_38 rfl rfl ?_
          refine zk_bipush X (v := 40) dX8_sheet_39 (by decide) ?_
          refine zk_icmp_le X (tgt := 47) dX8_sheet_41 (by decide) h (fun h => ?_) (fun h => ?_)
          · refine zk_iload_n X 3 dX8_sheet_47 rfl rfl ?_
            refine zk_if_ge X (tgt := 54) dX8_sheet_48 (by decide) h (fun h => ?_) (fun h => ?_)
            · refine zk_aload_n X 0 dX8_sheet_54 rfl rfl ?_
              refine zk_get X iX8 (g := 0) (Nat.zero_lt_one) rfl rfl 4 (by decide) w0 rfl dX8_sheet_55 ?_
              refine zk_iload_n X 1 dX8_sheet_58 rfl rfl ?_
              refine zk_aald X (g := 12) (t := 3) (Nat.zero_lt_one) rfl rfl dX8_sheet_59 h (fun hb6 h => ?_)
              refine zk_iload_n X 2 dX8_sheet_60 rfl rfl ?_
              refine zk_iload_n X 3 dX8_sheet_61 rfl rfl ?_
              refine zk_vv X h (fun rr zz hf => ct_X5_begin l E hi x1.toNatClampNeg (hb6) x2 x3 _ rr zz hf) (cwV 2 X.1.2.2.2.2 gX8_sheet_X5_begin rfl rfl rfl (by decide +kernel) ⟨Nat.le_of_ble_eq_true rfl, Nat.le_of_ble_eq_true rfl⟩) (zk_recv X (g := 13) (hb6) rfl rfl) rfl rfl (Nat.le_of_ble_eq_true rfl) dX8_sheet_62 (fun z7 h => ?_)
              refine zk_iconst X (v := 1) dX8_sheet_65 (by decide) ?_
              exact zk_ireturn X hr dX8_sheet_66 h
            · refine zk_bipush X (v := -14) dX8_sheet_51 (by decide) ?_
              exact zk_ireturn X hr dX8_sheet_53 h
          · refine zk_bipush X (v := -2) dX8_sheet_44 (by decide) ?_
            exact zk_ireturn X hr dX8_sheet_46 h
      · refine zk_bipush X (v := -2) dX8_sheet_17 (by decide) ?_
        exact zk_ireturn X hr dX8_sheet_19 h
def fX8_solves (x1 : Int32) (x2 : Int32) (z : zk_Z) : Option (Int32 × zk_Z) := zk_bd (fX8_taskAt x1 z) (fun r2 z1 => zk_oc r2 (some ((-5), z1)) (fun kk3 => zk_bd (fX8_isRow x2 (z1.1 7 kk3 1) z1) (fun r5 z4 => if r5 = 0 then some ((-2), z4) else zk_bd (fX7_brokenFrom kk3 0 x2 z4) (fun r7 z6 => some (r7, z6)))))
set_option maxRecDepth 100000 in
set_option maxHeartbeats 8000000 in
theorem ct_X8_solves (l : Launch) (E : zk_E) (hi : zk_inj E) (x1 : Int32) (x2 : Int32) (z : zk_Z) (r : Int32) (z' : zk_Z) (h : fX8_solves  x1 x2 z = some (r, z')) : Met l yX8_solves wsX8_solves { frames := 4, cells := 0, slots := 0, locals := 87 } (va_Pc [.ref (E.2.1 0 0), .int x1, .int x2] (zk_W E z)) (zk_Qi E r z') 0 0 (zk_A E) := by
  refine zk_met (cc := cX8_solves) (maxL := 4) (ret := (some .int)) (own := RX8) (by decide) rfl rfl hi (Nat.le_of_ble_eq_true rfl) ?_
  intro p e s m args below meth c X hr
  have iX7 : ∀ w ∈ u_ws RX7 TX7 8, w ∈ wsX8_solves := by decide +kernel
  have w0 : Cond.fieldLink RX8 170 "HiddenWorks$Task" "letters" "I" ∈ wsX8_solves := by decide +kernel
  unfold fX8_solves at h
  refine zk_aload_n X 0 dX8_solves_0 rfl rfl ?_
  refine zk_iload_n X 1 dX8_solves_1 rfl rfl ?_
  refine zk_vq X h (fun rr zz hf => ct_X8_taskAt l E hi  x1 _ rr zz hf) (cwV 1 X.1.2.2.2.2 gX8_solves_X8_taskAt rfl rfl rfl (by decide +kernel) ⟨Nat.le_of_ble_eq_true rfl, Nat.le_of_ble_eq_true rfl⟩) (zk_recv X (g := 0) (Nat.zero_lt_one) rfl rfl) rfl rfl (Nat.le_of_ble_eq_true rfl) dX8_solves_2 (fun z1 h => ?_) (fun kk3 z1 hkk3 h => ?_)
  · refine zk_astore_nN X (lv' := [(3, .null), (0, .ref (E.2.1 0 0)), (1, .int x1), (2, .int x2)]) dX8_solves_5 rfl (by decide) rfl ?_
    refine zk_aload_nN X 0 dX8_solves_6 rfl rfl ?_
    refine zk_ifnonnullN X dX8_solves_7 ?_
    refine zk_bipush X (v := -5) dX8_solves_10 (by decide) ?_
    exact zk_ireturn X hr dX8_solves_12 h
  · refine zk_astore_n X (lv' := [(3, .ref (E.2.1 7 kk3)), (0, .ref (E.2.1 0 0)), (1, .int x1), (2, .int x2)]) dX8_solves_5 rfl (by decide) rfl ?_
    refine zk_aload_n X 0 dX8_solves_6 rfl rfl ?_
    refine zk_ifnonnull X (tgt := 13) dX8_solves_7 (by decide) ?_
    refine zk_iload_n X 3 dX8_solves_13 rfl rfl ?_
    refine zk_aload_n X 0 dX8_solves_14 rfl rfl ?_
    refine zk_get X iX7 (g := 7) (hkk3) rfl rfl 1 (by decide) w0 rfl dX8_solves_15 ?_
    refine zk_si X h (fun rr zz hf => ct_X8_isRow l E hi  x2 (z1.1 7 kk3 1) _ rr zz hf) (va_cwS 2 X.1.2.2.2.2 gX8_solves_X8_isRow rfl rfl rfl (by decide +kernel) ⟨Nat.le_of_ble_eq_true rfl, Nat.le_of_ble_eq_true rfl⟩) rfl rfl (Nat.le_of_ble_eq_true rfl) dX8_solves_18 (fun r5 z4 h => ?_)
    refine zk_if_eq X (tgt := 33) dX8_solves_21 (by decide) h (fun h => ?_) (fun h => ?_)
    · refine zk_bipush X (v := -2) dX8_solves_33 (by decide) ?_
      exact zk_ireturn X hr dX8_solves_35 h
    · refine zk_aload_n X 0 dX8_solves_24 rfl rfl ?_
      refine zk_iconst X (v := 0) dX8_solves_25 (by decide) ?_
      refine zk_iload_n X 3 dX8_solves_26 rfl rfl ?_
      refine zk_vi X h (fun rr zz hf => ct_X7_brokenFrom l E hi kk3 (hkk3) 0 x2 _ rr zz hf) (cwV 2 X.1.2.2.2.2 gX8_solves_X7_brokenFrom rfl rfl rfl (by decide +kernel) ⟨Nat.le_of_ble_eq_true rfl, Nat.le_of_ble_eq_true rfl⟩) (zk_recv X (g := 7) (hkk3) rfl rfl) rfl rfl (Nat.le_of_ble_eq_true rfl) dX8_solves_27 (fun r7 z6 h => ?_)
      refine zk_goto X (tgt := 35) dX8_solves_30 (by decide) ?_
      exact zk_ireturn X hr dX8_solves_35 h
def fX8_taskTaken_N (x1 : Int32) (z : zk_Z) : Option (Int32 × zk_Z) := some ((-11), z)
set_option maxRecDepth 100000 in
set_option maxHeartbeats 8000000 in
theorem ct_X8_taskTaken_N (l : Launch) (E : zk_E) (hi : zk_inj E) (x1 : Int32) (z : zk_Z) (r : Int32) (z' : zk_Z) (h : fX8_taskTaken_N  x1 z = some (r, z')) : Met l yX8_taskTaken wsX8_taskTaken { frames := 0, cells := 0, slots := 0, locals := 0 } (va_Pc [.null, .int x1] (zk_W E z)) (zk_Qi E r z') 0 0 (zk_A E) := by
  refine zk_met (cc := cX8_taskTaken) (maxL := 2) (ret := (some .int)) (own := RX8) (by decide) rfl rfl hi (Nat.le_of_ble_eq_true rfl) ?_
  intro p e s m args below meth c X hr
  unfold fX8_taskTaken_N at h
  refine zk_aload_nN X 0 dX8_taskTaken_0 rfl rfl ?_
  refine zk_ifnonnullN X dX8_taskTaken_1 ?_
  refine zk_bipush X (v := -11) dX8_taskTaken_4 (by decide) ?_
  exact zk_ireturn X hr dX8_taskTaken_6 h
def fX8_taskTaken_S (k0 : Nat) (x1 : Int32) (z : zk_Z) : Option (Int32 × zk_Z) := zk_bd (fX2_isOne (z.1 7 k0 0) x1 z) (fun r2 z1 => if r2 = 0 then some ((-13), z1) else some (z1.1 7 k0 0, z1))
set_option maxRecDepth 100000 in
set_option maxHeartbeats 8000000 in
theorem ct_X8_taskTaken_S (l : Launch) (E : zk_E) (hi : zk_inj E) (k0 : Nat) (hk0 : k0 < zk_cnt 7) (x1 : Int32) (z : zk_Z) (r : Int32) (z' : zk_Z) (h : fX8_taskTaken_S k0 x1 z = some (r, z')) : Met l yX8_taskTaken wsX8_taskTaken { frames := 1, cells := 0, slots := 0, locals := 23 } (va_Pc [.ref (E.2.1 7 k0), .int x1] (zk_W E z)) (zk_Qi E r z') 0 0 (zk_A E) := by
  refine zk_met (cc := cX8_taskTaken) (maxL := 2) (ret := (some .int)) (own := RX8) (by decide) rfl rfl hi (Nat.le_of_ble_eq_true rfl) ?_
  intro p e s m args below meth c X hr
  have iX7 : ∀ w ∈ u_ws RX7 TX7 8, w ∈ wsX8_taskTaken := by decide +kernel
  have w0 : Cond.fieldLink RX8 169 "HiddenWorks$Task" "kind" "I" ∈ wsX8_taskTaken := by decide +kernel
  unfold fX8_taskTaken_S at h
  refine zk_aload_n X 0 dX8_taskTaken_0 rfl rfl ?_
  refine zk_ifnonnull X (tgt := 7) dX8_taskTaken_1 (by decide) ?_
  refine zk_aload_n X 0 dX8_taskTaken_7 rfl rfl ?_
  refine zk_get X iX7 (g := 7) (hk0) rfl rfl 0 (by decide) w0 rfl dX8_taskTaken_8 ?_
  refine zk_iload_n X 1 dX8_taskTaken_11 rfl rfl ?_
  refine zk_si X h (fun rr zz hf => ct_X2_isOne l E hi  (z.1 7 k0 0) x1 _ rr zz hf) (va_cwS 2 X.1.2.2.2.2 gX8_taskTaken_X2_isOne rfl rfl rfl (by decide +kernel) ⟨Nat.le_of_ble_eq_true rfl, Nat.le_of_ble_eq_true rfl⟩) rfl rfl (Nat.le_of_ble_eq_true rfl) dX8_taskTaken_12 (fun r2 z1 h => ?_)
  refine zk_if_eq X (tgt := 25) dX8_taskTaken_15 (by decide) h (fun h => ?_) (fun h => ?_)
  · refine zk_bipush X (v := -13) dX8_taskTaken_25 (by decide) ?_
    exact zk_ireturn X hr dX8_taskTaken_27 h
  · refine zk_aload_n X 0 dX8_taskTaken_18 rfl rfl ?_
    refine zk_get X iX7 (g := 7) (hk0) rfl rfl 0 (by decide) w0 rfl dX8_taskTaken_19 ?_
    refine zk_goto X (tgt := 27) dX8_taskTaken_22 (by decide) ?_
    exact zk_ireturn X hr dX8_taskTaken_27 h
def fX8_taken (x1 : Int32) (x2 : Int32) (x3 : Int32) (z : zk_Z) : Option (Int32 × zk_Z) := if x1 < 0 then some ((-2), z) else if 2 < x1 then some ((-2), z) else if x3 < 0 then some ((-2), z) else if x3 ≤ 7 then if x1 = 0 then zk_bd (fX8_taskAt x2 z) (fun r2 z1 => zk_oc r2 (zk_bd (fX8_taskTaken_N x3 z1) (fun r5 z4 => some (r5, z4))) (fun kk3 => zk_bd (fX8_taskTaken_S kk3 x3 z1) (fun r7 z6 => some (r7, z6)))) else if x1 = 1 then zk_bd (fX8_recipeAt x2 z) (fun r9 z8 => zk_oc r9 (some ((-11), z8)) (fun kk10 => if x3 = 6 then some (z8.1 4 kk10 3, z8) else some ((-13), z8))) else zk_bd (fX8_claimAt x2 z) (fun r12 z11 => zk_oc r12 (some ((-11), z11)) (fun kk13 => if x3 = 7 then some (z11.1 11 kk13 1, z11) else some ((-13), z11))) else some ((-2), z)
set_option maxRecDepth 100000 in
set_option maxHeartbeats 8000000 in
theorem ct_X8_taken (l : Launch) (E : zk_E) (hi : zk_inj E) (x1 : Int32) (x2 : Int32) (x3 : Int32) (z : zk_Z) (r : Int32) (z' : zk_Z) (h : fX8_taken  x1 x2 x3 z = some (r, z')) : Met l yX8_taken wsX8_taken { frames := 2, cells := 0, slots := 0, locals := 44 } (va_Pc [.ref (E.2.1 0 0), .int x1, .int x2, .int x3] (zk_W E z)) (zk_Qi E r z') 0 0 (zk_A E) := by
  refine zk_met (cc := cX8_taken) (maxL := 5) (ret := (some .int)) (own := RX8) (by decide) rfl rfl hi (Nat.le_of_ble_eq_true rfl) ?_
  intro p e s m args below meth c X hr
  have iX0 : ∀ w ∈ u_ws RX0 TX0 4, w ∈ wsX8_taken := by decide +kernel
  have iX4 : ∀ w ∈ u_ws RX4 TX4 5, w ∈ wsX8_taken := by decide +kernel
  have w0 : Cond.fieldLink RX8 103 "HiddenWorks$Recipe" "wide" "I" ∈ wsX8_taken := by decide +kernel
  have w1 : Cond.fieldLink RX8 276 "HiddenWorks$Claim" "steps" "I" ∈ wsX8_taken := by decide +kernel
  unfold fX8_taken at h
  refine zk_iload_n X 1 dX8_taken_0 rfl rfl ?_
  refine zk_if_lt X (tgt := 19) dX8_taken_1 (by decide) h (fun h => ?_) (fun h => ?_)
  · refine zk_bipush X (v := -2) dX8_taken_19 (by decide) ?_
    exact zk_ireturn X hr dX8_taken_21 h
  · refine zk_iload_n X 1 dX8_taken_4 rfl rfl ?_
    refine zk_iconst X (v := 2) dX8_taken_5 (by decide) ?_
    refine zk_icmp_gt X (tgt := 19) dX8_taken_6 (by decide) h (fun h => ?_) (fun h => ?_)
    · refine zk_bipush X (v := -2) dX8_taken_19 (by decide) ?_
      exact zk_ireturn X hr dX8_taken_21 h
    · refine zk_iload_n X 3 dX8_taken_9 rfl rfl ?_
      refine zk_if_lt X (tgt := 19) dX8_taken_10 (by decide) h (fun h => ?_) (fun h => ?_)
      · refine zk_bipush X (v := -2) dX8_taken_19 (by decide) ?_
        exact zk_ireturn X hr dX8_taken_21 h
      · refine zk_iload_n X 3 dX8_taken_13 rfl rfl ?_
        refine zk_bipush X (v := 7) dX8_taken_14 (by decide) ?_
        refine zk_icmp_le X (tgt := 22) dX8_taken_16 (by decide) h (fun h => ?_) (fun h => ?_)
        · refine zk_iload_n X 1 dX8_taken_22 rfl rfl ?_
          refine zk_if_ne X (tgt := 36) dX8_taken_23 (by decide) h (fun h => ?_) (fun h => ?_)
          · refine zk_aload_n X 0 dX8_taken_26 rfl rfl ?_
            refine zk_iload_n X 2 dX8_taken_27 rfl rfl ?_
            refine zk_vq X h (fun rr zz hf => ct_X8_taskAt l E hi  x2 _ rr zz hf) (cwV 1 X.1.2.2.2.2 gX8_taken_X8_taskAt rfl rfl rfl (by decide +kernel) ⟨Nat.le_of_ble_eq_true rfl, Nat.le_of_ble_eq_true rfl⟩) (zk_recv X (g := 0) (Nat.zero_lt_one) rfl rfl) rfl rfl (Nat.le_of_ble_eq_true rfl) dX8_taken_28 (fun z1 h => ?_) (fun kk3 z1 hkk3 h => ?_)
            · refine zk_iload_n X 3 dX8_taken_31 rfl rfl ?_
              refine zk_si X h (fun rr zz hf => ct_X8_taskTaken_N l E hi  x3 _ rr zz hf) (va_cwS 2 X.1.2.2.2.2 gX8_taken_X8_taskTaken rfl rfl rfl (by decide +kernel) ⟨Nat.le_of_ble_eq_true rfl, Nat.le_of_ble_eq_true rfl⟩) rfl rfl (Nat.le_of_ble_eq_true rfl) dX8_taken_32 (fun r5 z4 h => ?_)
              exact zk_ireturn X hr dX8_taken_35 h
            · refine zk_iload_n X 3 dX8_taken_31 rfl rfl ?_
              refine zk_si X h (fun rr zz hf => ct_X8_taskTaken_S l E hi kk3 (hkk3) x3 _ rr zz hf) (va_cwS 2 X.1.2.2.2.2 gX8_taken_X8_taskTaken rfl rfl rfl (by decide +kernel) ⟨Nat.le_of_ble_eq_true rfl, Nat.le_of_ble_eq_true rfl⟩) rfl rfl (Nat.le_of_ble_eq_true rfl) dX8_taken_32 (fun r7 z6 h => ?_)
              exact zk_ireturn X hr dX8_taken_35 h
          · refine zk_iload_n X 1 dX8_taken_36 rfl rfl ?_
            refine zk_iconst X (v := 1) dX8_taken_37 (by decide) ?_
            refine zk_icmp_ne X (tgt := 73) dX8_taken_38 (by decide) h (fun h => ?_) (fun h => ?_)
            · refine zk_aload_n X 0 dX8_taken_41 rfl rfl ?_
              refine zk_iload_n X 2 dX8_taken_42 rfl rfl ?_
              refine zk_vq X h (fun rr zz hf => ct_X8_recipeAt l E hi  x2 _ rr zz hf) (cwV 1 X.1.2.2.2.2 gX8_taken_X8_recipeAt rfl rfl rfl (by decide +kernel) ⟨Nat.le_of_ble_eq_true rfl, Nat.le_of_ble_eq_true rfl⟩) (zk_recv X (g := 0) (Nat.zero_lt_one) rfl rfl) rfl rfl (Nat.le_of_ble_eq_true rfl) dX8_taken_43 (fun z8 h => ?_) (fun kk10 z8 hkk10 h => ?_)
              · refine zk_astoreN X (lv' := [(4, .null), (0, .ref (E.2.1 0 0)), (1, .int x1), (2, .int x2), (3, .int x3)]) dX8_taken_46 (by decide) rfl ?_
                refine zk_aloadN X 0 dX8_taken_48 rfl ?_
                refine zk_ifnonnullN X dX8_taken_50 ?_
                refine zk_bipush X (v := -11) dX8_taken_53 (by decide) ?_
                exact zk_ireturn X hr dX8_taken_55 h
              · refine zk_astore X (lv' := [(4, .ref (E.2.1 4 kk10)), (0, .ref (E.2.1 0 0)), (1, .int x1), (2, .int x2), (3, .int x3)]) dX8_taken_46 (by decide) rfl ?_
                refine zk_aload X 0 dX8_taken_48 rfl ?_
                refine zk_ifnonnull X (tgt := 56) dX8_taken_50 (by decide) ?_
                refine zk_iload_n X 4 dX8_taken_56 rfl rfl ?_
                refine zk_bipush X (v := 6) dX8_taken_57 (by decide) ?_
                refine zk_icmp_ne X (tgt := 70) dX8_taken_59 (by decide) h (fun h => ?_) (fun h => ?_)
                · refine zk_aload X 0 dX8_taken_62 rfl ?_
                  refine zk_get X iX4 (g := 4) (hkk10) rfl rfl 3 (by decide) w0 rfl dX8_taken_64 ?_
                  refine zk_goto X (tgt := 72) dX8_taken_67 (by decide) ?_
                  exact zk_ireturn X hr dX8_taken_72 h
                · refine zk_bipush X (v := -13) dX8_taken_70 (by decide) ?_
                  exact zk_ireturn X hr dX8_taken_72 h
            · refine zk_aload_n X 0 dX8_taken_73 rfl rfl ?_
              refine zk_iload_n X 2 dX8_taken_74 rfl rfl ?_
              refine zk_vq X h (fun rr zz hf => ct_X8_claimAt l E hi  x2 _ rr zz hf) (cwV 1 X.1.2.2.2.2 gX8_taken_X8_claimAt rfl rfl rfl (by decide +kernel) ⟨Nat.le_of_ble_eq_true rfl, Nat.le_of_ble_eq_true rfl⟩) (zk_recv X (g := 0) (Nat.zero_lt_one) rfl rfl) rfl rfl (Nat.le_of_ble_eq_true rfl) dX8_taken_75 (fun z11 h => ?_) (fun kk13 z11 hkk13 h => ?_)
              · refine zk_astoreN X (lv' := [(4, .null), (0, .ref (E.2.1 0 0)), (1, .int x1), (2, .int x2), (3, .int x3)]) dX8_taken_78 (by decide) rfl ?_
                refine zk_aloadN X 0 dX8_taken_80 rfl ?_
                refine zk_ifnonnullN X dX8_taken_82 ?_
                refine zk_bipush X (v := -11) dX8_taken_85 (by decide) ?_
                exact zk_ireturn X hr dX8_taken_87 h
              · refine zk_astore X (lv' := [(4, .ref (E.2.1 11 kk13)), (0, .ref (E.2.1 0 0)), (1, .int x1), (2, .int x2), (3, .int x3)]) dX8_taken_78 (by decide) rfl ?_
                refine zk_aload X 0 dX8_taken_80 rfl ?_
                refine zk_ifnonnull X (tgt := 88) dX8_taken_82 (by decide) ?_
                refine zk_iload_n X 4 dX8_taken_88 rfl rfl ?_
                refine zk_bipush X (v := 7) dX8_taken_89 (by decide) ?_
                refine zk_icmp_ne X (tgt := 102) dX8_taken_91 (by decide) h (fun h => ?_) (fun h => ?_)
                · refine zk_aload X 0 dX8_taken_94 rfl ?_
                  refine zk_get X iX0 (g := 11) (hkk13) rfl rfl 1 (by decide) w1 rfl dX8_taken_96 ?_
                  refine zk_goto X (tgt := 104) dX8_taken_99 (by decide) ?_
                  exact zk_ireturn X hr dX8_taken_104 h
                · refine zk_bipush X (v := -13) dX8_taken_102 (by decide) ?_
                  exact zk_ireturn X hr dX8_taken_104 h
        · refine zk_bipush X (v := -2) dX8_taken_19 (by decide) ?_
          exact zk_ireturn X hr dX8_taken_21 h
def fX8_taskTold (x1 : Int32) (x2 : Int32) (z : zk_Z) : Option (Int32 × zk_Z) := zk_bd (fX8_taskAt x1 z) (fun r2 z1 => zk_oc r2 (some ((-5), z1)) (fun kk3 => if x2 = 0 then some (z1.1 7 kk3 0, z1) else if x2 = 1 then some (z1.1 7 kk3 1, z1) else if x2 = 2 then some (z1.1 7 kk3 2, z1) else if x2 = 3 then some (z1.1 7 kk3 3, z1) else if x2 = 4 then some (z1.1 7 kk3 4, z1) else if x2 = 5 then some (z1.1 7 kk3 5, z1) else some ((-7), z1)))
set_option maxRecDepth 100000 in
set_option maxHeartbeats 8000000 in
theorem ct_X8_taskTold (l : Launch) (E : zk_E) (hi : zk_inj E) (x1 : Int32) (x2 : Int32) (z : zk_Z) (r : Int32) (z' : zk_Z) (h : fX8_taskTold  x1 x2 z = some (r, z')) : Met l yX8_taskTold wsX8_taskTold { frames := 1, cells := 0, slots := 0, locals := 21 } (va_Pc [.ref (E.2.1 0 0), .int x1, .int x2] (zk_W E z)) (zk_Qi E r z') 0 0 (zk_A E) := by
  refine zk_met (cc := cX8_taskTold) (maxL := 4) (ret := (some .int)) (own := RX8) (by decide) rfl rfl hi (Nat.le_of_ble_eq_true rfl) ?_
  intro p e s m args below meth c X hr
  have iX7 : ∀ w ∈ u_ws RX7 TX7 8, w ∈ wsX8_taskTold := by decide +kernel
  have w0 : Cond.fieldLink RX8 169 "HiddenWorks$Task" "kind" "I" ∈ wsX8_taskTold := by decide +kernel
  have w1 : Cond.fieldLink RX8 170 "HiddenWorks$Task" "letters" "I" ∈ wsX8_taskTold := by decide +kernel
  have w2 : Cond.fieldLink RX8 171 "HiddenWorks$Task" "clauses" "I" ∈ wsX8_taskTold := by decide +kernel
  have w3 : Cond.fieldLink RX8 172 "HiddenWorks$Task" "hidden" "I" ∈ wsX8_taskTold := by decide +kernel
  have w4 : Cond.fieldLink RX8 117 "HiddenWorks$Task" "recipe" "I" ∈ wsX8_taskTold := by decide +kernel
  have w5 : Cond.fieldLink RX8 120 "HiddenWorks$Task" "seed" "I" ∈ wsX8_taskTold := by decide +kernel
  unfold fX8_taskTold at h
  refine zk_aload_n X 0 dX8_taskTold_0 rfl rfl ?_
  refine zk_iload_n X 1 dX8_taskTold_1 rfl rfl ?_
  refine zk_vq X h (fun rr zz hf => ct_X8_taskAt l E hi  x1 _ rr zz hf) (cwV 1 X.1.2.2.2.2 gX8_taskTold_X8_taskAt rfl rfl rfl (by decide +kernel) ⟨Nat.le_of_ble_eq_true rfl, Nat.le_of_ble_eq_true rfl⟩) (zk_recv X (g := 0) (Nat.zero_lt_one) rfl rfl) rfl rfl (Nat.le_of_ble_eq_true rfl) dX8_taskTold_2 (fun z1 h => ?_) (fun kk3 z1 hkk3 h => ?_)
  · refine zk_astore_nN X (lv' := [(3, .null), (0, .ref (E.2.1 0 0)), (1, .int x1), (2, .int x2)]) dX8_taskTold_5 rfl (by decide) rfl ?_
    refine zk_aload_nN X 0 dX8_taskTold_6 rfl rfl ?_
    refine zk_ifnonnullN X dX8_taskTold_7 ?_
    refine zk_bipush X (v := -5) dX8_taskTold_10 (by decide) ?_
    exact zk_ireturn X hr dX8_taskTold_12 h
  · refine zk_astore_n X (lv' := [(3, .ref (E.2.1 7 kk3)), (0, .ref (E.2.1 0 0)), (1, .int x1), (2, .int x2)]) dX8_taskTold_5 rfl (by decide) rfl ?_
    refine zk_aload_n X 0 dX8_taskTold_6 rfl rfl ?_
    refine zk_ifnonnull X (tgt := 13) dX8_taskTold_7 (by decide) ?_
    refine zk_iload_n X 3 dX8_taskTold_13 rfl rfl ?_
    rcases zk_if h with ⟨q4, h⟩ | ⟨q4, h⟩
    · refine zk_tsw_in X (v := 0) dX8_taskTold_14 q4 (by decide) (by decide) (off := 38) rfl (tgt := 52) (by decide) ?_
      refine zk_aload_n X 0 dX8_taskTold_52 rfl rfl ?_
      refine zk_get X iX7 (g := 7) (hkk3) rfl rfl 0 (by decide) w0 rfl dX8_taskTold_53 ?_
      exact zk_ireturn X hr dX8_taskTold_56 h
    · rcases zk_if h with ⟨q5, h⟩ | ⟨q5, h⟩
      · refine zk_tsw_in X (v := 1) dX8_taskTold_14 q5 (by decide) (by decide) (off := 43) rfl (tgt := 57) (by decide) ?_
        refine zk_aload_n X 0 dX8_taskTold_57 rfl rfl ?_
        refine zk_get X iX7 (g := 7) (hkk3) rfl rfl 1 (by decide) w1 rfl dX8_taskTold_58 ?_
        exact zk_ireturn X hr dX8_taskTold_61 h
      · rcases zk_if h with ⟨q6, h⟩ | ⟨q6, h⟩
        · refine zk_tsw_in X (v := 2) dX8_taskTold_14 q6 (by decide) (by decide) (off := 48) rfl (tgt := 62) (by decide) ?_
          refine zk_aload_n X 0 dX8_taskTold_62 rfl rfl ?_
          refine zk_get X iX7 (g := 7) (hkk3) rfl rfl 2 (by decide) w2 rfl dX8_taskTold_63 ?_
          exact zk_ireturn X hr dX8_taskTold_66 h
        · rcases zk_if h with ⟨q7, h⟩ | ⟨q7, h⟩
          · refine zk_tsw_in X (v := 3) dX8_taskTold_14 q7 (by decide) (by decide) (off := 53) rfl (tgt := 67) (by decide) ?_
            refine zk_aload_n X 0 dX8_taskTold_67 rfl rfl ?_
            refine zk_get X iX7 (g := 7) (hkk3) rfl rfl 3 (by decide) w3 rfl dX8_taskTold_68 ?_
            exact zk_ireturn X hr dX8_taskTold_71 h
          · rcases zk_if h with ⟨q8, h⟩ | ⟨q8, h⟩
            · refine zk_tsw_in X (v := 4) dX8_taskTold_14 q8 (by decide) (by decide) (off := 58) rfl (tgt := 72) (by decide) ?_
              refine zk_aload_n X 0 dX8_taskTold_72 rfl rfl ?_
              refine zk_get X iX7 (g := 7) (hkk3) rfl rfl 4 (by decide) w4 rfl dX8_taskTold_73 ?_
              exact zk_ireturn X hr dX8_taskTold_76 h
            · rcases zk_if h with ⟨q9, h⟩ | ⟨q9, h⟩
              · refine zk_tsw_in X (v := 5) dX8_taskTold_14 q9 (by decide) (by decide) (off := 63) rfl (tgt := 77) (by decide) ?_
                refine zk_aload_n X 0 dX8_taskTold_77 rfl rfl ?_
                refine zk_get X iX7 (g := 7) (hkk3) rfl rfl 5 (by decide) w5 rfl dX8_taskTold_78 ?_
                exact zk_ireturn X hr dX8_taskTold_81 h
              · refine zk_tsw_out X dX8_taskTold_14 (by have := lv_neT (a := 0) q4 (by decide); have := lv_neT (a := 1) q5 (by decide); have := lv_neT (a := 2) q6 (by decide); have := lv_neT (a := 3) q7 (by decide); have := lv_neT (a := 4) q8 (by decide); have := lv_neT (a := 5) q9 (by decide); omega) (tgt := 82) (by decide) ?_
                refine zk_bipush X (v := -7) dX8_taskTold_82 (by decide) ?_
                exact zk_ireturn X hr dX8_taskTold_84 h
def fX8_tries_B100 (ka3 : Nat) (z : zk_Z) : Option (Int32 × zk_Z) := some (z.1 11 ka3 2, z)
def fX8_tries_B96 (a2 : Int32) (ka3 : Nat) (s0 : Int32) (ks1 : Nat) (z : zk_Z) : Option (Int32 × zk_Z) := zk_bd (fX0_worsen ks1 s0 a2 z) (fun _ z11 => fX8_tries_B100 ka3 z11)
def fX8_tries (x1 : Int32) (x2 : Int32) (z : zk_Z) : Option (Int32 × zk_Z) := zk_bd (fX8_claimAt x1 z) (fun r2 z1 => zk_oc r2 (some ((-1), z1)) (fun kk3 => zk_bd (fX8_isFinder x2 z1) (fun r5 z4 => if r5 = 0 then some ((-2), z4) else if (z4.1 11 kk3 2) = 2 then some ((-3), z4) else zk_bd (fX8_taskAt (z4.1 11 kk3 0) z4) (fun r7 z6 => zk_oc r7 (some ((-1), z6)) (fun kk8 => zk_bd (fX1_seek kk8 x2 (2 * (z6.1 11 kk3 1)) z6) (fun _ z9 => if (z9.1 16 0 0) < 0 then fX8_tries_B100 kk3 z9 else if (z9.1 11 kk3 1) ≤ (z9.1 16 0 1) then fX8_tries_B96 x2 kk3 1 kk3 z9 else fX8_tries_B96 x2 kk3 2 kk3 z9))))))
set_option maxRecDepth 100000 in
set_option maxHeartbeats 8000000 in
theorem ct_X8_tries (l : Launch) (E : zk_E) (hi : zk_inj E) (x1 : Int32) (x2 : Int32) (z : zk_Z) (r : Int32) (z' : zk_Z) (h : fX8_tries  x1 x2 z = some (r, z')) : Met l yX8_tries wsX8_tries { frames := 7, cells := 0, slots := 0, locals := 156 } (va_Pc [.ref (E.2.1 0 0), .int x1, .int x2] (zk_W E z)) (zk_Qi E r z') 0 0 (zk_A E) := by
  refine zk_met (cc := cX8_tries) (maxL := 5) (ret := (some .int)) (own := RX8) (by decide) rfl rfl hi (Nat.le_of_ble_eq_true rfl) ?_
  intro p e s m args below meth c X hr
  have iX0 : ∀ w ∈ u_ws RX0 TX0 4, w ∈ wsX8_tries := by decide +kernel
  have iX1 : ∀ w ∈ u_ws RX1 TX1 2, w ∈ wsX8_tries := by decide +kernel
  have iX8 : ∀ w ∈ u_ws RX8 TX8 15, w ∈ wsX8_tries := by decide +kernel
  have w0 : Cond.fieldLink RX8 270 "HiddenWorks$Claim" "state" "I" ∈ wsX8_tries := by decide +kernel
  have w1 : Cond.fieldLink RX8 273 "HiddenWorks$Claim" "task" "I" ∈ wsX8_tries := by decide +kernel
  have w2 : Cond.fieldLink RX8 26 "HiddenWorks" "finder" "LHiddenWorks$Finder;" ∈ wsX8_tries := by decide +kernel
  have w3 : Cond.fieldLink RX8 276 "HiddenWorks$Claim" "steps" "I" ∈ wsX8_tries := by decide +kernel
  have w4 : Cond.fieldLink RX8 237 "HiddenWorks$Finder" "found" "I" ∈ wsX8_tries := by decide +kernel
  have w5 : Cond.fieldLink RX8 240 "HiddenWorks$Finder" "steps" "I" ∈ wsX8_tries := by decide +kernel
  have B100 : ∀ (ka3 : Nat) (hka3 : ka3 < zk_cnt 11) (z : zk_Z), fX8_tries_B100 ka3 z = some (r, z') → zk_G p l e (headSpec wsX8_tries { frames := 7, cells := 0, slots := 0, locals := 156 }).room s m args below meth c E 5 0 0 (MQ below (zk_Qi E r z') args s 0 0 (zk_A E)) 100 [(3, .ref (E.2.1 11 ka3))] [] z := by
    intro ka3 hka3 z h
    unfold fX8_tries_B100 at h
    refine zk_aload_n X 0 dX8_tries_100 rfl rfl ?_
    refine zk_get X iX0 (g := 11) (hka3) rfl rfl 2 (by decide) w0 rfl dX8_tries_101 ?_
    exact zk_ireturn X hr dX8_tries_104 h
  have B96 : ∀ (a2 : Int32) (ka3 : Nat) (s0 : Int32) (ks1 : Nat) (hka3 : ka3 < zk_cnt 11) (hks1 : ks1 < zk_cnt 11) (z : zk_Z), fX8_tries_B96 a2 ka3 s0 ks1 z = some (r, z') → zk_G p l e (headSpec wsX8_tries { frames := 7, cells := 0, slots := 0, locals := 156 }).room s m args below meth c E 5 0 0 (MQ below (zk_Qi E r z') args s 0 0 (zk_A E)) 96 [(2, .int a2), (3, .ref (E.2.1 11 ka3))] [.int s0, .ref (E.2.1 11 ks1)] z := by
    intro a2 ka3 s0 ks1 hka3 hks1 z h
    unfold fX8_tries_B96 at h
    refine zk_iload_n X 0 dX8_tries_96 rfl rfl ?_
    refine zk_vv X h (fun rr zz hf => ct_X0_worsen l E hi ks1 (hks1) s0 a2 _ rr zz hf) (cwV 2 X.1.2.2.2.2 gX8_tries_X0_worsen rfl rfl rfl (by decide +kernel) ⟨Nat.le_of_ble_eq_true rfl, Nat.le_of_ble_eq_true rfl⟩) (zk_recv X (g := 11) (hks1) rfl rfl) rfl rfl (Nat.le_of_ble_eq_true rfl) dX8_tries_97 (fun z11 h => ?_)
    exact zk_sub [1] rfl (B100 _ (hka3) _ h)
  unfold fX8_tries at h
  refine zk_aload_n X 0 dX8_tries_0 rfl rfl ?_
  refine zk_iload_n X 1 dX8_tries_1 rfl rfl ?_
  refine zk_vq X h (fun rr zz hf => ct_X8_claimAt l E hi  x1 _ rr zz hf) (cwV 1 X.1.2.2.2.2 gX8_tries_X8_claimAt rfl rfl rfl (by decide +kernel) ⟨Nat.le_of_ble_eq_true rfl, Nat.le_of_ble_eq_true rfl⟩) (zk_recv X (g := 0) (Nat.zero_lt_one) rfl rfl) rfl rfl (Nat.le_of_ble_eq_true rfl) dX8_tries_2 (fun z1 h => ?_) (fun kk3 z1 hkk3 h => ?_)
  · refine zk_astore_nN X (lv' := [(3, .null), (0, .ref (E.2.1 0 0)), (1, .int x1), (2, .int x2)]) dX8_tries_5 rfl (by decide) rfl ?_
    refine zk_aload_nN X 0 dX8_tries_6 rfl rfl ?_
    refine zk_ifnonnullN X dX8_tries_7 ?_
    refine zk_iconst X (v := -1) dX8_tries_10 (by decide) ?_
    exact zk_ireturn X hr dX8_tries_11 h
  · refine zk_astore_n X (lv' := [(3, .ref (E.2.1 11 kk3)), (0, .ref (E.2.1 0 0)), (1, .int x1), (2, .int x2)]) dX8_tries_5 rfl (by decide) rfl ?_
    refine zk_aload_n X 0 dX8_tries_6 rfl rfl ?_
    refine zk_ifnonnull X (tgt := 12) dX8_tries_7 (by decide) ?_
    refine zk_iload_n X 3 dX8_tries_12 rfl rfl ?_
    refine zk_si X h (fun rr zz hf => ct_X8_isFinder l E hi  x2 _ rr zz hf) (va_cwS 1 X.1.2.2.2.2 gX8_tries_X8_isFinder rfl rfl rfl (by decide +kernel) ⟨Nat.le_of_ble_eq_true rfl, Nat.le_of_ble_eq_true rfl⟩) rfl rfl (Nat.le_of_ble_eq_true rfl) dX8_tries_13 (fun r5 z4 h => ?_)
    refine zk_if_ne X (tgt := 22) dX8_tries_16 (by decide) h (fun h => ?_) (fun h => ?_)
    · refine zk_bipush X (v := -2) dX8_tries_19 (by decide) ?_
      exact zk_ireturn X hr dX8_tries_21 h
    · refine zk_aload_n X 0 dX8_tries_22 rfl rfl ?_
      refine zk_get X iX0 (g := 11) (hkk3) rfl rfl 2 (by decide) w0 rfl dX8_tries_23 ?_
      refine zk_iconst X (v := 2) dX8_tries_26 (by decide) ?_
      refine zk_icmp_ne X (tgt := 33) dX8_tries_27 (by decide) h (fun h => ?_) (fun h => ?_)
      · refine zk_bipush X (v := -3) dX8_tries_30 (by decide) ?_
        exact zk_ireturn X hr dX8_tries_32 h
      · refine zk_aload_n X 1 dX8_tries_33 rfl rfl ?_
        refine zk_aload_n X 0 dX8_tries_34 rfl rfl ?_
        refine zk_get X iX0 (g := 11) (hkk3) rfl rfl 0 (by decide) w1 rfl dX8_tries_35 ?_
        refine zk_vq X h (fun rr zz hf => ct_X8_taskAt l E hi  (z4.1 11 kk3 0) _ rr zz hf) (cwV 1 X.1.2.2.2.2 gX8_tries_X8_taskAt rfl rfl rfl (by decide +kernel) ⟨Nat.le_of_ble_eq_true rfl, Nat.le_of_ble_eq_true rfl⟩) (zk_recv X (g := 0) (Nat.zero_lt_one) rfl rfl) rfl rfl (Nat.le_of_ble_eq_true rfl) dX8_tries_38 (fun z6 h => ?_) (fun kk8 z6 hkk8 h => ?_)
        · refine zk_astoreN X (lv' := [(4, .null), (3, .ref (E.2.1 11 kk3)), (0, .ref (E.2.1 0 0)), (1, .int x1), (2, .int x2)]) dX8_tries_41 (by decide) rfl ?_
          refine zk_aloadN X 0 dX8_tries_43 rfl ?_
          refine zk_ifnonnullN X dX8_tries_45 ?_
          refine zk_iconst X (v := -1) dX8_tries_48 (by decide) ?_
          exact zk_ireturn X hr dX8_tries_49 h
        · refine zk_astore X (lv' := [(4, .ref (E.2.1 7 kk8)), (3, .ref (E.2.1 11 kk3)), (0, .ref (E.2.1 0 0)), (1, .int x1), (2, .int x2)]) dX8_tries_41 (by decide) rfl ?_
          refine zk_aload X 0 dX8_tries_43 rfl ?_
          refine zk_ifnonnull X (tgt := 50) dX8_tries_45 (by decide) ?_
          refine zk_aload_n X 2 dX8_tries_50 rfl rfl ?_
          refine zk_get X iX8 (g := 0) (Nat.zero_lt_one) rfl rfl 6 (by decide) w2 rfl dX8_tries_51 ?_
          refine zk_aload X 0 dX8_tries_54 rfl ?_
          refine zk_iload_n X 4 dX8_tries_56 rfl rfl ?_
          refine zk_iconst X (v := 2) dX8_tries_57 (by decide) ?_
          refine zk_aload_n X 1 dX8_tries_58 rfl rfl ?_
          refine zk_get X iX0 (g := 11) (hkk3) rfl rfl 1 (by decide) w3 rfl dX8_tries_59 ?_
          refine zk_imul X dX8_tries_62 ?_
          refine zk_vv X h (fun rr zz hf => ct_X1_seek l E hi kk8 (hkk8) x2 (2 * (z6.1 11 kk3 1)) _ rr zz hf) (cwV 3 X.1.2.2.2.2 gX8_tries_X1_seek rfl rfl rfl (by decide +kernel) ⟨Nat.le_of_ble_eq_true rfl, Nat.le_of_ble_eq_true rfl⟩) (zk_recv X (g := 16) (Nat.zero_lt_one) rfl rfl) rfl rfl (Nat.le_of_ble_eq_true rfl) dX8_tries_63 (fun z9 h => ?_)
          refine zk_aload_n X 2 dX8_tries_66 rfl rfl ?_
          refine zk_get X iX8 (g := 0) (Nat.zero_lt_one) rfl rfl 6 (by decide) w2 rfl dX8_tries_67 ?_
          refine zk_get X iX1 (g := 16) (Nat.zero_lt_one) rfl rfl 0 (by decide) w4 rfl dX8_tries_70 ?_
          refine zk_if_lt X (tgt := 100) dX8_tries_73 (by decide) h (fun h => ?_) (fun h => ?_)
          · exact zk_sub [1] rfl (B100  _ (hkk3) _ h)
          · refine zk_aload_n X 1 dX8_tries_76 rfl rfl ?_
            refine zk_aload_n X 2 dX8_tries_77 rfl rfl ?_
            refine zk_get X iX8 (g := 0) (Nat.zero_lt_one) rfl rfl 6 (by decide) w2 rfl dX8_tries_78 ?_
            refine zk_get X iX1 (g := 16) (Nat.zero_lt_one) rfl rfl 1 (by decide) w5 rfl dX8_tries_81 ?_
            refine zk_aload_n X 1 dX8_tries_84 rfl rfl ?_
            refine zk_get X iX0 (g := 11) (hkk3) rfl rfl 1 (by decide) w3 rfl dX8_tries_85 ?_
            refine zk_icmp_ge X (tgt := 95) dX8_tries_88 (by decide) h (fun h => ?_) (fun h => ?_)
            · refine zk_iconst X (v := 1) dX8_tries_95 (by decide) ?_
              exact zk_sub [4, 1] rfl (B96  _ _ _ _ (hkk3) (hkk3) _ h)
            · refine zk_iconst X (v := 2) dX8_tries_91 (by decide) ?_
              refine zk_goto X (tgt := 96) dX8_tries_92 (by decide) ?_
              exact zk_sub [4, 1] rfl (B96  _ _ _ _ (hkk3) (hkk3) _ h)
def fX8_twin_B207 (z : zk_Z) : Option (Int32 × zk_Z) := zk_bd (fX8_keepTask  z) (fun r17 z16 => some (r17, z16))
def fX8_twin_L109 : Nat → Int32 → Nat → Nat → Nat → Int32 → zk_Z → Option (Int32 × zk_Z)
  | 0, _, _, _, _, _, _ => none
  | n + 1, a3, ka4, ka5, ka6, a7, z => if (z.1 7 ka4 2) ≤ a7 then if (z.1 7 ka4 3) < 0 then fX8_twin_B207 z else zk_bd (fX5_renumbered ka5 (z.1 7 ka4 3) z) (fun r19 z18 => fX8_twin_B207 (zk_sI z18 7 ka6 3 (r19 ^^^ a3))) else zk_gd (zk_ix a7 24) (zk_bd (fX5_renumbered ka5 (z.1 8 ka4 a7.toNatClampNeg) z) (fun r21 z20 => zk_gd (zk_ix a7 24) (zk_bd (fX5_renumbered ka5 (z20.1 9 ka4 a7.toNatClampNeg) z20) (fun r23 z22 => zk_bd (fX7_addClause ka6 ((r21 &&& (a3 ^^^ (-1))) ||| (r23 &&& a3)) ((r23 &&& (a3 ^^^ (-1))) ||| (r21 &&& a3)) z22) (fun _ z24 => (fX8_twin_L109 n) a3 ka4 ka5 ka6 (a7 + 1) z24)))))
def fX8_twin (x1 : Int32) (x2 : Int32) (x3 : Int32) (z : zk_Z) : Option (Int32 × zk_Z) := zk_bd (fX8_taskAt x1 z) (fun r2 z1 => zk_oc r2 (some ((-1), z1)) (fun kk3 => zk_bd (fX8_isSheet x2 z1) (fun r5 z4 => if r5 = 0 then some ((-1), z4) else zk_gd (zk_ix x2 4) (zk_bd (fX5_isMissing x2.toNatClampNeg z4) (fun r8 z7 => if r8 = 0 then zk_bd (fX8_isRow x3 (z7.1 7 kk3 1) z7) (fun r10 z9 => if r10 = 0 then some ((-2), z9) else zk_bd (fX5_isOrderOf x2.toNatClampNeg (z9.1 7 kk3 1) z9) (fun r12 z11 => if r12 = 0 then some ((-2), z11) else if (z11.1 0 0 12) < 8 then zk_gd (zk_ix (z11.1 0 0 12) 8) (zk_bd (fX7_begin ((z11.1 0 0 12).toNatClampNeg) (z11.1 7 kk3 0) (z11.1 7 kk3 1) z11) (fun _ z14 => fX8_twin_L109 zk_FU x3 kk3 x2.toNatClampNeg ((z11.1 0 0 12).toNatClampNeg) 0 z14)) else some ((-4), z11))) else some ((-11), z7))))))
set_option maxRecDepth 100000 in
set_option maxHeartbeats 8000000 in
theorem ct_X8_twin (l : Launch) (E : zk_E) (hi : zk_inj E) (x1 : Int32) (x2 : Int32) (x3 : Int32) (z : zk_Z) (r : Int32) (z' : zk_Z) (h : fX8_twin  x1 x2 x3 z = some (r, z')) : Met l yX8_twin wsX8_twin { frames := 1, cells := 0, slots := 0, locals := 23 } (va_Pc [.ref (E.2.1 0 0), .int x1, .int x2, .int x3] (zk_W E z)) (zk_Qi E r z') 0 0 (zk_A E) := by
  refine zk_met (cc := cX8_twin) (maxL := 10) (ret := (some .int)) (own := RX8) (by decide) rfl rfl hi (Nat.le_of_ble_eq_true rfl) ?_
  intro p e s m args below meth c X hr
  have iX7 : ∀ w ∈ u_ws RX7 TX7 8, w ∈ wsX8_twin := by decide +kernel
  have iX8 : ∀ w ∈ u_ws RX8 TX8 15, w ∈ wsX8_twin := by decide +kernel
  have w0 : Cond.fieldLink RX8 67 "HiddenWorks" "sheets" "[LHiddenWorks$Sheet;" ∈ wsX8_twin := by decide +kernel
  have w1 : Cond.fieldLink RX8 170 "HiddenWorks$Task" "letters" "I" ∈ wsX8_twin := by decide +kernel
  have w2 : Cond.fieldLink RX8 110 "HiddenWorks" "taskCount" "I" ∈ wsX8_twin := by decide +kernel
  have w3 : Cond.fieldLink RX8 54 "HiddenWorks" "tasks" "[LHiddenWorks$Task;" ∈ wsX8_twin := by decide +kernel
  have w4 : Cond.fieldLink RX8 169 "HiddenWorks$Task" "kind" "I" ∈ wsX8_twin := by decide +kernel
  have w5 : Cond.fieldLink RX8 171 "HiddenWorks$Task" "clauses" "I" ∈ wsX8_twin := by decide +kernel
  have w6 : Cond.fieldLink RX8 172 "HiddenWorks$Task" "hidden" "I" ∈ wsX8_twin := by decide +kernel
  have w7 : Cond.fieldLink RX8 175 "HiddenWorks$Task" "plain" "[I" ∈ wsX8_twin := by decide +kernel
  have w8 : Cond.fieldLink RX8 178 "HiddenWorks$Task" "against" "[I" ∈ wsX8_twin := by decide +kernel
  have B207 : ∀ (z : zk_Z), fX8_twin_B207 z = some (r, z') → zk_G p l e (headSpec wsX8_twin { frames := 1, cells := 0, slots := 0, locals := 23 }).room s m args below meth c E 10 0 0 (MQ below (zk_Qi E r z') args s 0 0 (zk_A E)) 207 [(0, .ref (E.2.1 0 0))] [] z := by
    intro z h
    unfold fX8_twin_B207 at h
    refine zk_aload_n X 0 dX8_twin_207 rfl rfl ?_
    refine zk_vi X h (fun rr zz hf => ct_X8_keepTask l E hi _ rr zz hf) (cwV 0 X.1.2.2.2.2 gX8_twin_X8_keepTask rfl rfl rfl (by decide +kernel) ⟨Nat.le_of_ble_eq_true rfl, Nat.le_of_ble_eq_true rfl⟩) (zk_recv X (g := 0) (Nat.zero_lt_one) rfl rfl) rfl rfl (Nat.le_of_ble_eq_true rfl) dX8_twin_208 (fun r17 z16 h => ?_)
    exact zk_ireturn X hr dX8_twin_211 h
  have L109 : ∀ (n : Nat) (a3 : Int32) (ka4 : Nat) (ka5 : Nat) (ka6 : Nat) (a7 : Int32) (hka4 : ka4 < zk_cnt 7) (hka5 : ka5 < zk_cnt 13) (hka6 : ka6 < zk_cnt 7) (z : zk_Z), fX8_twin_L109 n a3 ka4 ka5 ka6 a7 z = some (r, z') → zk_G p l e (headSpec wsX8_twin { frames := 1, cells := 0, slots := 0, locals := 23 }).room s m args below meth c E 10 0 0 (MQ below (zk_Qi E r z') args s 0 0 (zk_A E)) 109 [(0, .ref (E.2.1 0 0)), (3, .int a3), (4, .ref (E.2.1 7 ka4)), (5, .ref (E.2.1 13 ka5)), (6, .ref (E.2.1 7 ka6)), (7, .int a7)] [] z := by
    intro n
    induction n with
    | zero => intro a3 ka4 ka5 ka6 a7 hka4 hka5 hka6 z h; exact absurd h (by simp [fX8_twin_L109])
    | succ n ih =>
      intro a3 ka4 ka5 ka6 a7 hka4 hka5 hka6 z h
      rw [fX8_twin_L109] at h
      refine zk_iload X 5 dX8_twin_109 rfl ?_
      refine zk_aload X 2 dX8_twin_111 rfl ?_
      refine zk_get X iX7 (g := 7) (hka4) rfl rfl 2 (by decide) w5 rfl dX8_twin_113 ?_
      refine zk_icmp_ge X (tgt := 182) dX8_twin_116 (by decide) h (fun h => ?_) (fun h => ?_)
      · refine zk_aload X 2 dX8_twin_182 rfl ?_
        refine zk_get X iX7 (g := 7) (hka4) rfl rfl 3 (by decide) w6 rfl dX8_twin_184 ?_
        refine zk_if_lt X (tgt := 207) dX8_twin_187 (by decide) h (fun h => ?_) (fun h => ?_)
        · exact zk_sub [0] rfl (B207 _ h)
        · refine zk_aload X 4 dX8_twin_190 rfl ?_
          refine zk_aload X 3 dX8_twin_192 rfl ?_
          refine zk_aload X 2 dX8_twin_194 rfl ?_
          refine zk_get X iX7 (g := 7) (hka4) rfl rfl 3 (by decide) w6 rfl dX8_twin_196 ?_
          refine zk_vi X h (fun rr zz hf => ct_X5_renumbered l E hi ka5 (hka5) (z.1 7 ka4 3) _ rr zz hf) (cwV 1 X.1.2.2.2.2 gX8_twin_X5_renumbered rfl rfl rfl (by decide +kernel) ⟨Nat.le_of_ble_eq_true rfl, Nat.le_of_ble_eq_true rfl⟩) (zk_recv X (g := 13) (hka5) rfl rfl) rfl rfl (Nat.le_of_ble_eq_true rfl) dX8_twin_199 (fun r19 z18 h => ?_)
          refine zk_iload_n X 1 dX8_twin_202 rfl rfl ?_
          refine zk_ixor X dX8_twin_203 ?_
          refine zk_putI X (ty := .int) iX7 tyX7 tyX7_ok nmX7 (g := 7) (hka6) rfl rfl 3 (by decide) w6 rfl (by decide +kernel) rfl rfl (Nat.le_of_ble_eq_true rfl) rfl dX8_twin_204 ?_
          exact zk_sub [0] rfl (B207 _ h)
      · refine zk_aload X 3 dX8_twin_119 rfl ?_
        refine zk_aload X 2 dX8_twin_121 rfl ?_
        refine zk_get X iX7 (g := 7) (hka4) rfl rfl 6 (by decide) w7 rfl dX8_twin_123 ?_
        refine zk_iload X 5 dX8_twin_126 rfl ?_
        refine zk_iald X (g := 8) (hka4) rfl dX8_twin_128 h (fun h => ?_)
        refine zk_vi X h (fun rr zz hf => ct_X5_renumbered l E hi ka5 (hka5) (z.1 8 ka4 a7.toNatClampNeg) _ rr zz hf) (cwV 1 X.1.2.2.2.2 gX8_twin_X5_renumbered rfl rfl rfl (by decide +kernel) ⟨Nat.le_of_ble_eq_true rfl, Nat.le_of_ble_eq_true rfl⟩) (zk_recv X (g := 13) (hka5) rfl rfl) rfl rfl (Nat.le_of_ble_eq_true rfl) dX8_twin_129 (fun r21 z20 h => ?_)
        refine zk_istore X (lv' := [(8, .int r21), (0, .ref (E.2.1 0 0)), (3, .int a3), (4, .ref (E.2.1 7 ka4)), (5, .ref (E.2.1 13 ka5)), (6, .ref (E.2.1 7 ka6)), (7, .int a7)]) dX8_twin_132 (by decide) rfl ?_
        refine zk_aload X 4 dX8_twin_134 rfl ?_
        refine zk_aload X 3 dX8_twin_136 rfl ?_
        refine zk_get X iX7 (g := 7) (hka4) rfl rfl 7 (by decide) w8 rfl dX8_twin_138 ?_
        refine zk_iload X 6 dX8_twin_141 rfl ?_
        refine zk_iald X (g := 9) (hka4) rfl dX8_twin_143 h (fun h => ?_)
        refine zk_vi X h (fun rr zz hf => ct_X5_renumbered l E hi ka5 (hka5) (z20.1 9 ka4 a7.toNatClampNeg) _ rr zz hf) (cwV 1 X.1.2.2.2.2 gX8_twin_X5_renumbered rfl rfl rfl (by decide +kernel) ⟨Nat.le_of_ble_eq_true rfl, Nat.le_of_ble_eq_true rfl⟩) (zk_recv X (g := 13) (hka5) rfl rfl) rfl rfl (Nat.le_of_ble_eq_true rfl) dX8_twin_144 (fun r23 z22 h => ?_)
        refine zk_istore X (lv' := [(9, .int r23), (8, .int r21), (0, .ref (E.2.1 0 0)), (3, .int a3), (4, .ref (E.2.1 7 ka4)), (5, .ref (E.2.1 13 ka5)), (6, .ref (E.2.1 7 ka6)), (7, .int a7)]) dX8_twin_147 (by decide) rfl ?_
        refine zk_aload X 6 dX8_twin_149 rfl ?_
        refine zk_iload X 1 dX8_twin_151 rfl ?_
        refine zk_iload_n X 3 dX8_twin_153 rfl rfl ?_
        refine zk_iconst X (v := -1) dX8_twin_154 (by decide) ?_
        refine zk_ixor X dX8_twin_155 ?_
        refine zk_iand X dX8_twin_156 ?_
        refine zk_iload X 0 dX8_twin_157 rfl ?_
        refine zk_iload_n X 3 dX8_twin_159 rfl rfl ?_
        refine zk_iand X dX8_twin_160 ?_
        refine zk_ior X dX8_twin_161 ?_
        refine zk_iload X 0 dX8_twin_162 rfl ?_
        refine zk_iload_n X 3 dX8_twin_164 rfl rfl ?_
        refine zk_iconst X (v := -1) dX8_twin_165 (by decide) ?_
        refine zk_ixor X dX8_twin_166 ?_
        refine zk_iand X dX8_twin_167 ?_
        refine zk_iload X 1 dX8_twin_168 rfl ?_
        refine zk_iload_n X 3 dX8_twin_170 rfl rfl ?_
        refine zk_iand X dX8_twin_171 ?_
        refine zk_ior X dX8_twin_172 ?_
        refine zk_vv X h (fun rr zz hf => ct_X7_addClause l E hi ka6 (hka6) ((r21 &&& (a3 ^^^ (-1))) ||| (r23 &&& a3)) ((r23 &&& (a3 ^^^ (-1))) ||| (r21 &&& a3)) _ rr zz hf) (cwV 2 X.1.2.2.2.2 gX8_twin_X7_addClause rfl rfl rfl (by decide +kernel) ⟨Nat.le_of_ble_eq_true rfl, Nat.le_of_ble_eq_true rfl⟩) (zk_recv X (g := 7) (hka6) rfl rfl) rfl rfl (Nat.le_of_ble_eq_true rfl) dX8_twin_173 (fun z24 h => ?_)
        refine zk_iinc X (lv' := [(7, .int (a7 + 1)), (9, .int r23), (8, .int r21), (0, .ref (E.2.1 0 0)), (3, .int a3), (4, .ref (E.2.1 7 ka4)), (5, .ref (E.2.1 13 ka5)), (6, .ref (E.2.1 7 ka6))]) 7 dX8_twin_176 rfl rfl (by decide) rfl ?_
        refine zk_goto X (tgt := 109) dX8_twin_179 (by decide) ?_
        exact zk_sub [3, 4, 5, 6, 7, 0] rfl (ih _ _ _ _ _ (hka4) (hka5) (hka6) _ h)
  unfold fX8_twin at h
  refine zk_aload_n X 0 dX8_twin_0 rfl rfl ?_
  refine zk_iload_n X 1 dX8_twin_1 rfl rfl ?_
  refine zk_vq X h (fun rr zz hf => ct_X8_taskAt l E hi  x1 _ rr zz hf) (cwV 1 X.1.2.2.2.2 gX8_twin_X8_taskAt rfl rfl rfl (by decide +kernel) ⟨Nat.le_of_ble_eq_true rfl, Nat.le_of_ble_eq_true rfl⟩) (zk_recv X (g := 0) (Nat.zero_lt_one) rfl rfl) rfl rfl (Nat.le_of_ble_eq_true rfl) dX8_twin_2 (fun z1 h => ?_) (fun kk3 z1 hkk3 h => ?_)
  · refine zk_astoreN X (lv' := [(4, .null), (0, .ref (E.2.1 0 0)), (1, .int x1), (2, .int x2), (3, .int x3)]) dX8_twin_5 (by decide) rfl ?_
    refine zk_aloadN X 0 dX8_twin_7 rfl ?_
    refine zk_ifnullN X (tgt := 19) dX8_twin_9 (by decide) ?_
    refine zk_iconst X (v := -1) dX8_twin_19 (by decide) ?_
    exact zk_ireturn X hr dX8_twin_20 h
  · refine zk_astore X (lv' := [(4, .ref (E.2.1 7 kk3)), (0, .ref (E.2.1 0 0)), (1, .int x1), (2, .int x2), (3, .int x3)]) dX8_twin_5 (by decide) rfl ?_
    refine zk_aload X 0 dX8_twin_7 rfl ?_
    refine zk_ifnull X dX8_twin_9 ?_
    refine zk_iload_n X 3 dX8_twin_12 rfl rfl ?_
    refine zk_si X h (fun rr zz hf => ct_X8_isSheet l E hi  x2 _ rr zz hf) (va_cwS 1 X.1.2.2.2.2 gX8_twin_X8_isSheet rfl rfl rfl (by decide +kernel) ⟨Nat.le_of_ble_eq_true rfl, Nat.le_of_ble_eq_true rfl⟩) rfl rfl (Nat.le_of_ble_eq_true rfl) dX8_twin_13 (fun r5 z4 h => ?_)
    refine zk_if_ne X (tgt := 21) dX8_twin_16 (by decide) h (fun h => ?_) (fun h => ?_)
    · refine zk_iconst X (v := -1) dX8_twin_19 (by decide) ?_
      exact zk_ireturn X hr dX8_twin_20 h
    · refine zk_aload_n X 1 dX8_twin_21 rfl rfl ?_
      refine zk_get X iX8 (g := 0) (Nat.zero_lt_one) rfl rfl 4 (by decide) w0 rfl dX8_twin_22 ?_
      refine zk_iload_n X 3 dX8_twin_25 rfl rfl ?_
      refine zk_aald X (g := 12) (t := 3) (Nat.zero_lt_one) rfl rfl dX8_twin_26 h (fun hb6 h => ?_)
      refine zk_astore X (lv' := [(5, .ref (E.2.1 13 x2.toNatClampNeg)), (4, .ref (E.2.1 7 kk3)), (0, .ref (E.2.1 0 0)), (1, .int x1), (2, .int x2), (3, .int x3)]) dX8_twin_27 (by decide) rfl ?_
      refine zk_aload X 0 dX8_twin_29 rfl ?_
      refine zk_vi X h (fun rr zz hf => ct_X5_isMissing l E hi x2.toNatClampNeg (hb6)  _ rr zz hf) (cwV 0 X.1.2.2.2.2 gX8_twin_X5_isMissing rfl rfl rfl (by decide +kernel) ⟨Nat.le_of_ble_eq_true rfl, Nat.le_of_ble_eq_true rfl⟩) (zk_recv X (g := 13) (hb6) rfl rfl) rfl rfl (Nat.le_of_ble_eq_true rfl) dX8_twin_31 (fun r8 z7 h => ?_)
      refine zk_if_eq X (tgt := 40) dX8_twin_34 (by decide) h (fun h => ?_) (fun h => ?_)
      · refine zk_iload_n X 5 dX8_twin_40 rfl rfl ?_
        refine zk_aload X 1 dX8_twin_41 rfl ?_
        refine zk_get X iX7 (g := 7) (hkk3) rfl rfl 1 (by decide) w1 rfl dX8_twin_43 ?_
        refine zk_si X h (fun rr zz hf => ct_X8_isRow l E hi  x3 (z7.1 7 kk3 1) _ rr zz hf) (va_cwS 2 X.1.2.2.2.2 gX8_twin_X8_isRow rfl rfl rfl (by decide +kernel) ⟨Nat.le_of_ble_eq_true rfl, Nat.le_of_ble_eq_true rfl⟩) rfl rfl (Nat.le_of_ble_eq_true rfl) dX8_twin_46 (fun r10 z9 h => ?_)
        refine zk_if_eq X (tgt := 65) dX8_twin_49 (by decide) h (fun h => ?_) (fun h => ?_)
        · refine zk_bipush X (v := -2) dX8_twin_65 (by decide) ?_
          exact zk_ireturn X hr dX8_twin_67 h
        · refine zk_aload X 0 dX8_twin_52 rfl ?_
          refine zk_aload X 1 dX8_twin_54 rfl ?_
          refine zk_get X iX7 (g := 7) (hkk3) rfl rfl 1 (by decide) w1 rfl dX8_twin_56 ?_
          refine zk_vi X h (fun rr zz hf => ct_X5_isOrderOf l E hi x2.toNatClampNeg (hb6) (z9.1 7 kk3 1) _ rr zz hf) (cwV 1 X.1.2.2.2.2 gX8_twin_X5_isOrderOf rfl rfl rfl (by decide +kernel) ⟨Nat.le_of_ble_eq_true rfl, Nat.le_of_ble_eq_true rfl⟩) (zk_recv X (g := 13) (hb6) rfl rfl) rfl rfl (Nat.le_of_ble_eq_true rfl) dX8_twin_59 (fun r12 z11 h => ?_)
          refine zk_if_ne X (tgt := 68) dX8_twin_62 (by decide) h (fun h => ?_) (fun h => ?_)
          · refine zk_bipush X (v := -2) dX8_twin_65 (by decide) ?_
            exact zk_ireturn X hr dX8_twin_67 h
          · refine zk_aload_n X 2 dX8_twin_68 rfl rfl ?_
            refine zk_get X iX8 (g := 0) (Nat.zero_lt_one) rfl rfl 12 (by decide) w2 rfl dX8_twin_69 ?_
            refine zk_bipush X (v := 8) dX8_twin_72 (by decide) ?_
            refine zk_icmp_lt X (tgt := 80) dX8_twin_74 (by decide) h (fun h => ?_) (fun h => ?_)
            · refine zk_aload_n X 2 dX8_twin_80 rfl rfl ?_
              refine zk_get X iX8 (g := 0) (Nat.zero_lt_one) rfl rfl 2 (by decide) w3 rfl dX8_twin_81 ?_
              refine zk_aload_n X 2 dX8_twin_84 rfl rfl ?_
              refine zk_get X iX8 (g := 0) (Nat.zero_lt_one) rfl rfl 12 (by decide) w2 rfl dX8_twin_85 ?_
              refine zk_aald X (g := 6) (t := 4) (Nat.zero_lt_one) rfl rfl dX8_twin_88 h (fun hb13 h => ?_)
              have hb13 : (z11.1 0 0 12).toNatClampNeg < zk_cnt 7 := Nat.lt_of_lt_of_le hb13 (Nat.le_of_ble_eq_true rfl)
              refine zk_astore X (lv' := [(6, .ref (E.2.1 7 ((z11.1 0 0 12).toNatClampNeg))), (5, .ref (E.2.1 13 x2.toNatClampNeg)), (4, .ref (E.2.1 7 kk3)), (0, .ref (E.2.1 0 0)), (1, .int x1), (2, .int x2), (3, .int x3)]) dX8_twin_89 (by decide) rfl ?_
              refine zk_aload X 0 dX8_twin_91 rfl ?_
              refine zk_aload X 2 dX8_twin_93 rfl ?_
              refine zk_get X iX7 (g := 7) (hkk3) rfl rfl 0 (by decide) w4 rfl dX8_twin_95 ?_
              refine zk_aload X 2 dX8_twin_98 rfl ?_
              refine zk_get X iX7 (g := 7) (hkk3) rfl rfl 1 (by decide) w1 rfl dX8_twin_100 ?_
              refine zk_vv X h (fun rr zz hf => ct_X7_begin l E hi ((z11.1 0 0 12).toNatClampNeg) (hb13) (z11.1 7 kk3 0) (z11.1 7 kk3 1) _ rr zz hf) (cwV 2 X.1.2.2.2.2 gX8_twin_X7_begin rfl rfl rfl (by decide +kernel) ⟨Nat.le_of_ble_eq_true rfl, Nat.le_of_ble_eq_true rfl⟩) (zk_recv X (g := 7) (hb13) rfl rfl) rfl rfl (Nat.le_of_ble_eq_true rfl) dX8_twin_103 (fun z14 h => ?_)
              refine zk_iconst X (v := 0) dX8_twin_106 (by decide) ?_
              refine zk_istore X (lv' := [(7, .int 0), (6, .ref (E.2.1 7 ((z11.1 0 0 12).toNatClampNeg))), (5, .ref (E.2.1 13 x2.toNatClampNeg)), (4, .ref (E.2.1 7 kk3)), (0, .ref (E.2.1 0 0)), (1, .int x1), (2, .int x2), (3, .int x3)]) dX8_twin_107 (by decide) rfl ?_
              exact zk_sub [4, 7, 3, 2, 1, 0] rfl (L109  _ _ _ _ _ _ (hkk3) (hb6) (hb13) _ h)
            · refine zk_bipush X (v := -4) dX8_twin_77 (by decide) ?_
              exact zk_ireturn X hr dX8_twin_79 h
      · refine zk_bipush X (v := -11) dX8_twin_37 (by decide) ?_
        exact zk_ireturn X hr dX8_twin_39 h
def fX8_wild_L94 : Nat → Nat → Nat → Int32 → zk_Z → Option (Int32 × zk_Z)
  | 0, _, _, _, _ => none
  | n + 1, ka4, ka5, a6, z => if (z.1 13 ka4 1) ≤ (a6 + 1) then zk_bd (fX8_keepTask  z) (fun r14 z13 => some (r14, z13)) else zk_gd (zk_ix a6 40) (zk_gd (zk_ix (a6 + 1) 40) (zk_bd (fX7_addClause ka5 (z.1 14 ka4 a6.toNatClampNeg) (z.1 14 ka4 (a6 + 1).toNatClampNeg) z) (fun _ z15 => (fX8_wild_L94 n) ka4 ka5 (a6 + 2) z15)))
def fX8_wild (x1 : Int32) (x2 : Int32) (x3 : Int32) (z : zk_Z) : Option (Int32 × zk_Z) := zk_bd (fX8_isSheet x3 z) (fun r2 z1 => if r2 = 0 then some ((-1), z1) else zk_bd (fX2_exists x1 z1) (fun r4 z3 => if r4 = 0 then some ((-2), z3) else if x2 < 1 then some ((-2), z3) else if x2 ≤ 10 then zk_gd (zk_ix x3 4) (zk_bd (fX5_isMissing x3.toNatClampNeg z3) (fun r7 z6 => if r7 = 0 then zk_bd (fX8_areClauses x3.toNatClampNeg x2 z6) (fun r9 z8 => if r9 = 0 then some ((-2), z8) else if (z8.1 0 0 12) < 8 then zk_gd (zk_ix (z8.1 0 0 12) 8) (zk_bd (fX7_begin ((z8.1 0 0 12).toNatClampNeg) x1 x2 z8) (fun _ z11 => fX8_wild_L94 zk_FU x3.toNatClampNeg ((z8.1 0 0 12).toNatClampNeg) 0 z11)) else some ((-4), z8)) else some ((-11), z6))) else some ((-2), z3)))
set_option maxRecDepth 100000 in
set_option maxHeartbeats 8000000 in
theorem ct_X8_wild (l : Launch) (E : zk_E) (hi : zk_inj E) (x1 : Int32) (x2 : Int32) (x3 : Int32) (z : zk_Z) (r : Int32) (z' : zk_Z) (h : fX8_wild  x1 x2 x3 z = some (r, z')) : Met l yX8_wild wsX8_wild { frames := 2, cells := 0, slots := 0, locals := 47 } (va_Pc [.ref (E.2.1 0 0), .int x1, .int x2, .int x3] (zk_W E z)) (zk_Qi E r z') 0 0 (zk_A E) := by
  refine zk_met (cc := cX8_wild) (maxL := 7) (ret := (some .int)) (own := RX8) (by decide) rfl rfl hi (Nat.le_of_ble_eq_true rfl) ?_
  intro p e s m args below meth c X hr
  have iX5 : ∀ w ∈ u_ws RX5 TX5 3, w ∈ wsX8_wild := by decide +kernel
  have iX8 : ∀ w ∈ u_ws RX8 TX8 15, w ∈ wsX8_wild := by decide +kernel
  have w0 : Cond.fieldLink RX8 67 "HiddenWorks" "sheets" "[LHiddenWorks$Sheet;" ∈ wsX8_wild := by decide +kernel
  have w1 : Cond.fieldLink RX8 110 "HiddenWorks" "taskCount" "I" ∈ wsX8_wild := by decide +kernel
  have w2 : Cond.fieldLink RX8 54 "HiddenWorks" "tasks" "[LHiddenWorks$Task;" ∈ wsX8_wild := by decide +kernel
  have w3 : Cond.fieldLink RX8 148 "HiddenWorks$Sheet" "size" "I" ∈ wsX8_wild := by decide +kernel
  have w4 : Cond.fieldLink RX8 149 "HiddenWorks$Sheet" "cells" "[I" ∈ wsX8_wild := by decide +kernel
  have L94 : ∀ (n : Nat) (ka4 : Nat) (ka5 : Nat) (a6 : Int32) (hka4 : ka4 < zk_cnt 13) (hka5 : ka5 < zk_cnt 7) (z : zk_Z), fX8_wild_L94 n ka4 ka5 a6 z = some (r, z') → zk_G p l e (headSpec wsX8_wild { frames := 2, cells := 0, slots := 0, locals := 47 }).room s m args below meth c E 7 0 0 (MQ below (zk_Qi E r z') args s 0 0 (zk_A E)) 94 [(0, .ref (E.2.1 0 0)), (4, .ref (E.2.1 13 ka4)), (5, .ref (E.2.1 7 ka5)), (6, .int a6)] [] z := by
    intro n
    induction n with
    | zero => intro ka4 ka5 a6 hka4 hka5 z h; exact absurd h (by simp [fX8_wild_L94])
    | succ n ih =>
      intro ka4 ka5 a6 hka4 hka5 z h
      rw [fX8_wild_L94] at h
      refine zk_iload X 3 dX8_wild_94 rfl ?_
      refine zk_iconst X (v := 1) dX8_wild_96 (by decide) ?_
      refine zk_iadd X dX8_wild_97 ?_
      refine zk_aload X 1 dX8_wild_98 rfl ?_
      refine zk_get X iX5 (g := 13) (hka4) rfl rfl 1 (by decide) w3 rfl dX8_wild_100 ?_
      refine zk_icmp_ge X (tgt := 135) dX8_wild_103 (by decide) h (fun h => ?_) (fun h => ?_)
      · refine zk_aload_n X 0 dX8_wild_135 rfl rfl ?_
        refine zk_vi X h (fun rr zz hf => ct_X8_keepTask l E hi _ rr zz hf) (cwV 0 X.1.2.2.2.2 gX8_wild_X8_keepTask rfl rfl rfl (by decide +kernel) ⟨Nat.le_of_ble_eq_true rfl, Nat.le_of_ble_eq_true rfl⟩) (zk_recv X (g := 0) (Nat.zero_lt_one) rfl rfl) rfl rfl (Nat.le_of_ble_eq_true rfl) dX8_wild_136 (fun r14 z13 h => ?_)
        exact zk_ireturn X hr dX8_wild_139 h
      · refine zk_aload X 2 dX8_wild_106 rfl ?_
        refine zk_aload X 1 dX8_wild_108 rfl ?_
        refine zk_get X iX5 (g := 13) (hka4) rfl rfl 2 (by decide) w4 rfl dX8_wild_110 ?_
        refine zk_iload X 3 dX8_wild_113 rfl ?_
        refine zk_iald X (g := 14) (hka4) rfl dX8_wild_115 h (fun h => ?_)
        refine zk_aload X 1 dX8_wild_116 rfl ?_
        refine zk_get X iX5 (g := 13) (hka4) rfl rfl 2 (by decide) w4 rfl dX8_wild_118 ?_
        refine zk_iload X 3 dX8_wild_121 rfl ?_
        refine zk_iconst X (v := 1) dX8_wild_123 (by decide) ?_
        refine zk_iadd X dX8_wild_124 ?_
        refine zk_iald X (g := 14) (hka4) rfl dX8_wild_125 h (fun h => ?_)
        refine zk_vv X h (fun rr zz hf => ct_X7_addClause l E hi ka5 (hka5) (z.1 14 ka4 a6.toNatClampNeg) (z.1 14 ka4 (a6 + 1).toNatClampNeg) _ rr zz hf) (cwV 2 X.1.2.2.2.2 gX8_wild_X7_addClause rfl rfl rfl (by decide +kernel) ⟨Nat.le_of_ble_eq_true rfl, Nat.le_of_ble_eq_true rfl⟩) (zk_recv X (g := 7) (hka5) rfl rfl) rfl rfl (Nat.le_of_ble_eq_true rfl) dX8_wild_126 (fun z15 h => ?_)
        refine zk_iinc X (lv' := [(6, .int (a6 + 2)), (0, .ref (E.2.1 0 0)), (4, .ref (E.2.1 13 ka4)), (5, .ref (E.2.1 7 ka5))]) 3 dX8_wild_129 rfl rfl (by decide) rfl ?_
        refine zk_goto X (tgt := 94) dX8_wild_132 (by decide) ?_
        exact zk_sub [1, 2, 3, 0] rfl (ih _ _ _ (hka4) (hka5) _ h)
  unfold fX8_wild at h
  refine zk_iload_n X 3 dX8_wild_0 rfl rfl ?_
  refine zk_si X h (fun rr zz hf => ct_X8_isSheet l E hi  x3 _ rr zz hf) (va_cwS 1 X.1.2.2.2.2 gX8_wild_X8_isSheet rfl rfl rfl (by decide +kernel) ⟨Nat.le_of_ble_eq_true rfl, Nat.le_of_ble_eq_true rfl⟩) rfl rfl (Nat.le_of_ble_eq_true rfl) dX8_wild_1 (fun r2 z1 h => ?_)
  refine zk_if_ne X (tgt := 9) dX8_wild_4 (by decide) h (fun h => ?_) (fun h => ?_)
  · refine zk_iconst X (v := -1) dX8_wild_7 (by decide) ?_
    exact zk_ireturn X hr dX8_wild_8 h
  · refine zk_iload_n X 1 dX8_wild_9 rfl rfl ?_
    refine zk_si X h (fun rr zz hf => ct_X2_exists l E hi  x1 _ rr zz hf) (va_cwS 1 X.1.2.2.2.2 gX8_wild_X2_exists rfl rfl rfl (by decide +kernel) ⟨Nat.le_of_ble_eq_true rfl, Nat.le_of_ble_eq_true rfl⟩) rfl rfl (Nat.le_of_ble_eq_true rfl) dX8_wild_10 (fun r4 z3 h => ?_)
    refine zk_if_eq X (tgt := 27) dX8_wild_13 (by decide) h (fun h => ?_) (fun h => ?_)
    · refine zk_bipush X (v := -2) dX8_wild_27 (by decide) ?_
      exact zk_ireturn X hr dX8_wild_29 h
    · refine zk_iload_n X 2 dX8_wild_16 rfl rfl ?_
      refine zk_iconst X (v := 1) dX8_wild_17 (by decide) ?_
      refine zk_icmp_lt X (tgt := 27) dX8_wild_18 (by decide) h (fun h => ?_) (fun h => ?_)
      · refine zk_bipush X (v := -2) dX8_wild_27 (by decide) ?_
        exact zk_ireturn X hr dX8_wild_29 h
      · refine zk_iload_n X 2 dX8_wild_21 rfl rfl ?_
        refine zk_bipush X (v := 10) dX8_wild_22 (by decide) ?_
        refine zk_icmp_le X (tgt := 30) dX8_wild_24 (by decide) h (fun h => ?_) (fun h => ?_)
        · refine zk_aload_n X 0 dX8_wild_30 rfl rfl ?_
          refine zk_get X iX8 (g := 0) (Nat.zero_lt_one) rfl rfl 4 (by decide) w0 rfl dX8_wild_31 ?_
          refine zk_iload_n X 3 dX8_wild_34 rfl rfl ?_
          refine zk_aald X (g := 12) (t := 3) (Nat.zero_lt_one) rfl rfl dX8_wild_35 h (fun hb5 h => ?_)
          refine zk_astore X (lv' := [(4, .ref (E.2.1 13 x3.toNatClampNeg)), (0, .ref (E.2.1 0 0)), (1, .int x1), (2, .int x2), (3, .int x3)]) dX8_wild_36 (by decide) rfl ?_
          refine zk_aload X 0 dX8_wild_38 rfl ?_
          refine zk_vi X h (fun rr zz hf => ct_X5_isMissing l E hi x3.toNatClampNeg (hb5)  _ rr zz hf) (cwV 0 X.1.2.2.2.2 gX8_wild_X5_isMissing rfl rfl rfl (by decide +kernel) ⟨Nat.le_of_ble_eq_true rfl, Nat.le_of_ble_eq_true rfl⟩) (zk_recv X (g := 13) (hb5) rfl rfl) rfl rfl (Nat.le_of_ble_eq_true rfl) dX8_wild_40 (fun r7 z6 h => ?_)
          refine zk_if_eq X (tgt := 49) dX8_wild_43 (by decide) h (fun h => ?_) (fun h => ?_)
          · refine zk_aload X 0 dX8_wild_49 rfl ?_
            refine zk_iload_n X 3 dX8_wild_51 rfl rfl ?_
            refine zk_si X h (fun rr zz hf => ct_X8_areClauses l E hi x3.toNatClampNeg (hb5) x2 _ rr zz hf) (va_cwS 2 X.1.2.2.2.2 gX8_wild_X8_areClauses rfl rfl rfl (by decide +kernel) ⟨Nat.le_of_ble_eq_true rfl, Nat.le_of_ble_eq_true rfl⟩) rfl rfl (Nat.le_of_ble_eq_true rfl) dX8_wild_52 (fun r9 z8 h => ?_)
            refine zk_if_ne X (tgt := 61) dX8_wild_55 (by decide) h (fun h => ?_) (fun h => ?_)
            · refine zk_bipush X (v := -2) dX8_wild_58 (by decide) ?_
              exact zk_ireturn X hr dX8_wild_60 h
            · refine zk_aload_n X 1 dX8_wild_61 rfl rfl ?_
              refine zk_get X iX8 (g := 0) (Nat.zero_lt_one) rfl rfl 12 (by decide) w1 rfl dX8_wild_62 ?_
              refine zk_bipush X (v := 8) dX8_wild_65 (by decide) ?_
              refine zk_icmp_lt X (tgt := 73) dX8_wild_67 (by decide) h (fun h => ?_) (fun h => ?_)
              · refine zk_aload_n X 1 dX8_wild_73 rfl rfl ?_
                refine zk_get X iX8 (g := 0) (Nat.zero_lt_one) rfl rfl 2 (by decide) w2 rfl dX8_wild_74 ?_
                refine zk_aload_n X 1 dX8_wild_77 rfl rfl ?_
                refine zk_get X iX8 (g := 0) (Nat.zero_lt_one) rfl rfl 12 (by decide) w1 rfl dX8_wild_78 ?_
                refine zk_aald X (g := 6) (t := 4) (Nat.zero_lt_one) rfl rfl dX8_wild_81 h (fun hb10 h => ?_)
                have hb10 : (z8.1 0 0 12).toNatClampNeg < zk_cnt 7 := Nat.lt_of_lt_of_le hb10 (Nat.le_of_ble_eq_true rfl)
                refine zk_astore X (lv' := [(5, .ref (E.2.1 7 ((z8.1 0 0 12).toNatClampNeg))), (4, .ref (E.2.1 13 x3.toNatClampNeg)), (0, .ref (E.2.1 0 0)), (1, .int x1), (2, .int x2), (3, .int x3)]) dX8_wild_82 (by decide) rfl ?_
                refine zk_aload X 0 dX8_wild_84 rfl ?_
                refine zk_iload_n X 3 dX8_wild_86 rfl rfl ?_
                refine zk_iload_n X 4 dX8_wild_87 rfl rfl ?_
                refine zk_vv X h (fun rr zz hf => ct_X7_begin l E hi ((z8.1 0 0 12).toNatClampNeg) (hb10) x1 x2 _ rr zz hf) (cwV 2 X.1.2.2.2.2 gX8_wild_X7_begin rfl rfl rfl (by decide +kernel) ⟨Nat.le_of_ble_eq_true rfl, Nat.le_of_ble_eq_true rfl⟩) (zk_recv X (g := 7) (hb10) rfl rfl) rfl rfl (Nat.le_of_ble_eq_true rfl) dX8_wild_88 (fun z11 h => ?_)
                refine zk_iconst X (v := 0) dX8_wild_91 (by decide) ?_
                refine zk_istore X (lv' := [(6, .int 0), (5, .ref (E.2.1 7 ((z8.1 0 0 12).toNatClampNeg))), (4, .ref (E.2.1 13 x3.toNatClampNeg)), (0, .ref (E.2.1 0 0)), (1, .int x1), (2, .int x2), (3, .int x3)]) dX8_wild_92 (by decide) rfl ?_
                exact zk_sub [3, 2, 1, 0] rfl (L94  _ _ _ _ (hb5) (hb10) _ h)
              · refine zk_bipush X (v := -4) dX8_wild_70 (by decide) ?_
                exact zk_ireturn X hr dX8_wild_72 h
          · refine zk_bipush X (v := -11) dX8_wild_46 (by decide) ?_
            exact zk_ireturn X hr dX8_wild_48 h
        · refine zk_bipush X (v := -2) dX8_wild_27 (by decide) ?_
          exact zk_ireturn X hr dX8_wild_29 h
