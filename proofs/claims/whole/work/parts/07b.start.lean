set_option maxRecDepth 100000 in
set_option maxHeartbeats 16000000 in
/-- the law, from its entry, if its words on the memory come to their end with 1 -/
theorem whole_open (hpure : ∀ (xs : Nat → Int32) (L : Nat), L ≤ 3584 → ∃ (n : Nat) (z' : zk_Z), fL_law_L18 xs L n 0 zk_z0 = some (1, z')) {p : Program} {e : Env} {s : State} {m : MethodId} {below : List Frame} {meth : Method} {c : Code} (l : Launch) (hflags : l.flags = flags0) {b L : Nat} {xs : Nat → Int32} (hL : L ≤ 3584) (C0 : lw_At p s m meth c b L xs) : W p l e room_1 s m #[Value.ref b] below meth c s.heap [] 0 0 (lw_Z below #[Value.ref b] s) (entryFrame m ([Value.ref b] : List Value).toArray 4) := by
  obtain ⟨hx, hb, hr, hml, hown, hts, hX, hbl, hlocks, hgv⟩ := id C0
  have htl : ∀ w ∈ wsL_law, w.before #[Value.ref b] s = true := fun w h => hts w (wsL_law_in w h)
  obtain ⟨q0, iS0, hKn0⟩ := u_known (C := RX0) (T := TX0) (N := 4) (n := 4) htl inlX0 (htl (.instantiable RX0 4) (by decide +kernel))
  obtain ⟨q1, iS1, hKn1⟩ := u_known (C := RX1) (T := TX1) (N := 2) (n := 2) htl inlX1 (htl (.instantiable RX1 2) (by decide +kernel))
  obtain ⟨q2, iS2, hKn2⟩ := u_known (C := RX3) (T := TX3) (N := 1) (n := 1) htl inlX3 (htl (.instantiable RX3 1) (by decide +kernel))
  obtain ⟨q3, iS3, hKn3⟩ := u_known (C := RX4) (T := TX4) (N := 5) (n := 5) htl inlX4 (htl (.instantiable RX4 5) (by decide +kernel))
  obtain ⟨q4, iS4, hKn4⟩ := u_known (C := RX5) (T := TX5) (N := 3) (n := 3) htl inlX5 (htl (.instantiable RX5 3) (by decide +kernel))
  obtain ⟨q5, iS5, hKn5⟩ := u_known (C := RX6) (T := TX6) (N := 4) (n := 4) htl inlX6 (htl (.instantiable RX6 4) (by decide +kernel))
  obtain ⟨q6, iS6, hKn6⟩ := u_known (C := RX7) (T := TX7) (N := 8) (n := 8) htl inlX7 (htl (.instantiable RX7 8) (by decide +kernel))
  obtain ⟨q7, iS7, hKn7⟩ := u_known (C := RX8) (T := TX8) (N := 15) (n := 15) htl inlX8 (htl (.instantiable RX8 15) (by decide +kernel))
  obtain ⟨q8, iS8, hKn8⟩ := u_known (C := RX9) (T := TX9) (N := 32) (n := 32) htl inlX9 (htl (.instantiable RX9 32) (by decide +kernel))
  obtain ⟨dC, dI, hKc⟩ : ∃ (dC : Nat → ClassId) (dI : Nat → Nat → Nat), ∀ (k : Nat) (q : vw_C), vwCl[k]? = some q → u_Kn s q.1 q.2.1 q.2.2 (dC k) (dI k) := by
    refine ⟨fun k => if k = 0 then q0 else if k = 1 then q1 else if k = 2 then q2 else if k = 3 then q3 else if k = 4 then q4 else if k = 5 then q5 else if k = 6 then q6 else if k = 7 then q7 else q8, fun k => if k = 0 then iS0 else if k = 1 then iS1 else if k = 2 then iS2 else if k = 3 then iS3 else if k = 4 then iS4 else if k = 5 then iS5 else if k = 6 then iS6 else if k = 7 then iS7 else iS8, ?_⟩
    intro k q hq
    match k, hq with
    | 0, hq => cases hq; exact hKn0
    | 1, hq => cases hq; exact hKn1
    | 2, hq => cases hq; exact hKn2
    | 3, hq => cases hq; exact hKn3
    | 4, hq => cases hq; exact hKn4
    | 5, hq => cases hq; exact hKn5
    | 6, hq => cases hq; exact hKn6
    | 7, hq => cases hq; exact hKn7
    | 8, hq => cases hq; exact hKn8
    | k + 9, hq => simp [vwCl] at hq
  obtain ⟨cI, kI, compI, gI1, gI2, gI3⟩ := Cond.arrayClass_spec (htl (.arrayClass .int) (by decide +kernel))
  have ho1 : (Cond.arrayOver (.object RX0)).before #[Value.ref b] s = true := hts _ (List.mem_append_right _ (by decide +kernel))
  obtain ⟨cm1, ca1, ka1, ga11, -, ga12, ga13, ga14⟩ := Cond.arrayOver_spec ho1
  have ho2 : (Cond.arrayOver (.object RX4)).before #[Value.ref b] s = true := hts _ (List.mem_append_right _ (by decide +kernel))
  obtain ⟨cm2, ca2, ka2, ga21, -, ga22, ga23, ga24⟩ := Cond.arrayOver_spec ho2
  have ho3 : (Cond.arrayOver (.object RX5)).before #[Value.ref b] s = true := hts _ (List.mem_append_right _ (by decide +kernel))
  obtain ⟨cm3, ca3, ka3, ga31, -, ga32, ga33, ga34⟩ := Cond.arrayOver_spec ho3
  have ho4 : (Cond.arrayOver (.object RX7)).before #[Value.ref b] s = true := hts _ (List.mem_append_right _ (by decide +kernel))
  obtain ⟨cm4, ca4, ka4, ga41, -, ga42, ga43, ga44⟩ := Cond.arrayOver_spec ho4
  obtain ⟨cy, hcy⟩ : ∃ cy : Nat → ClassId, cy = fun k => if k = 0 then cI else if k = 1 then ca1 else if k = 2 then ca2 else if k = 3 then ca3 else ca4 := ⟨_, rfl⟩
  have hKt : ∀ (k : Nat) (q : ClassId × FieldType), ([(cy 0, .int), (cy 1, .object RX0), (cy 2, .object RX4), (cy 3, .object RX5), (cy 4, .object RX7)] : List (ClassId × FieldType))[k]? = some q → ArrOfT s q.1 q.2 ∧ va_RA s q.1 q.2 := by
    intro k q hq
    subst hcy
    match k, hq with
    | 0, hq => cases hq; exact ⟨fun n z => ⟨(fun _ h => by cases h), kI, gI2, compI, gI3⟩, gI1⟩
    | 1, hq => cases hq; exact ⟨fun n z => ⟨(fun _ h => by cases h), ka1, ga12, cm1, ga13⟩, ka1, cm1, ga12, ga13, ga11, ga14⟩
    | 2, hq => cases hq; exact ⟨fun n z => ⟨(fun _ h => by cases h), ka2, ga22, cm2, ga23⟩, ka2, cm2, ga22, ga23, ga21, ga24⟩
    | 3, hq => cases hq; exact ⟨fun n z => ⟨(fun _ h => by cases h), ka3, ga32, cm3, ga33⟩, ka3, cm3, ga32, ga33, ga31, ga34⟩
    | 4, hq => cases hq; exact ⟨fun n z => ⟨(fun _ h => by cases h), ka4, ga42, cm4, ga43⟩, ka4, cm4, ga42, ga43, ga41, ga44⟩
    | k + 5, hq => simp at hq
  clear hcy
  obtain ⟨b0, hb0⟩ : ∃ b0, b0 = s.heap.size := ⟨_, rfl⟩
  obtain ⟨E, hE⟩ : ∃ E : zk_E, E = ((dC, dI), (fun g k => b0 + zk_off g k), cy) := ⟨_, rfl⟩
  have hK : zk_K E s := by subst hE; exact ⟨hKc, hKt⟩
  have hinj : zk_inj E := by
    subst hE
    intro g k g' k' h h' e
    exact zk_off_inj h h' (by have e' : b0 + zk_off g k = b0 + zk_off g' k' := e; omega)
  have hge : ∀ q, zk_A E q → s.heap.size ≤ q := by
    subst hE
    intro q h
    obtain ⟨g, k, -, rfl⟩ := h
    show s.heap.size ≤ b0 + zk_off g k
    omega
  have hbA : ¬ zk_A E b := fun h => Nat.not_le.mpr hbl (hge b h)
  have hs := flat_of_before _ hgv
  have hA0 : ∀ a : Nat, a < s.heap.size → ¬ zk_A E a := fun a h q => Nat.not_le.mpr h (hge a q)
  have hT : zk_T E s s.heap := by
    obtain ⟨tb, h1, h2⟩ := va_Tof (tm := .static "HiddenWorks$Kind" "ABOVE" "[I") (ty := .int) (N := 6) (f := fun j => .int (zk_above j)) (A := zk_A E) (by decide) (hs _ (by decide +kernel)) (va_eqt (z := 6) (hs _ (by decide +kernel))) (fun j hj => by
      match j, hj with
      | 0, _ => exact va_eqt (z := -1) (hs (.eq (.elem (.static "HiddenWorks$Kind" "ABOVE" "[I") (.int 0)) (.int (-1))) (by decide +kernel))
      | 1, _ => exact va_eqt (z := 0) (hs (.eq (.elem (.static "HiddenWorks$Kind" "ABOVE" "[I") (.int 1)) (.int 0)) (by decide +kernel))
      | 2, _ => exact va_eqt (z := 0) (hs (.eq (.elem (.static "HiddenWorks$Kind" "ABOVE" "[I") (.int 2)) (.int 0)) (by decide +kernel))
      | 3, _ => exact va_eqt (z := 1) (hs (.eq (.elem (.static "HiddenWorks$Kind" "ABOVE" "[I") (.int 3)) (.int 1)) (by decide +kernel))
      | 4, _ => exact va_eqt (z := 2) (hs (.eq (.elem (.static "HiddenWorks$Kind" "ABOVE" "[I") (.int 4)) (.int 2)) (by decide +kernel))
      | 5, _ => exact va_eqt (z := 0) (hs (.eq (.elem (.static "HiddenWorks$Kind" "ABOVE" "[I") (.int 5)) (.int 0)) (by decide +kernel))
      | j + 6, hj => exact absurd hj (by omega)) hA0
    exact ⟨tb, va_Zof (hts (.laysStatic "HiddenWorks$Kind" "ABOVE" "[I") (List.mem_append_right _ (by decide +kernel))) (htl (.initialized RX2) (by decide +kernel)) h1 hA0, h2⟩
  have hO : zc_O s := ⟨va_AO.of ho1, va_AO.of ho2, va_AO.of ho3, va_AO.of ho4⟩
  have XC : zc_X p s m #[Value.ref b] meth c E code 4 wsL_law RL := ⟨⟨hx, hb, hml, hown, htl⟩, ⟨hlocks, hO⟩, hK⟩
  have XK : zk_X p room_1 s m #[Value.ref b] meth c E code 4 103 1953 wsL_law RL := ⟨⟨hx, hb, hml, hown, htl⟩, ⟨hlocks, hK, hT, hinj⟩, ⟨Nat.le_of_ble_eq_true rfl, Nat.le_of_ble_eq_true rfl⟩⟩
  have hl := lv_entry ([.ref b]) (n := 4) (Nat.le_of_ble_eq_true rfl)
  rw [lg_entry_eq]
  generalize (lg_sl ([.ref b]) ++ List.replicate (4 - (lg_sl ([.ref b])).length) Slot.unset).toArray = ls at hl ⊢
  have hl : lv_has ls 4 [(0, .ref b)] := hl
  suffices G0 : zc_G p l e room_1 s m #[Value.ref b] below meth c E b0 4 0 0 (lw_Z below #[Value.ref b] s) 0 [(0, .ref b)] [] 0 (fun _ => .inl (E.2.2 0, 0, .inl (fun _ => 0))) from
    G0 s.heap [] ls ⟨by rw [hb0]; rfl, fun i hi => absurd hi (Nat.not_lt_zero i)⟩ va_S.rf hl
  have X := XC
  have iX8 : ∀ w ∈ u_ws RX8 TX8 15, w ∈ wsL_law := inlX8
  have iX9 : ∀ w ∈ u_ws RX9 TX9 32, w ∈ wsL_law := inlX9
  refine zc_new X iX8 tyX8 tyX8_ok (by decide +kernel : Cond.classLink RL 7 RX8 ∈ wsL_law) (by decide +kernel : Cond.instantiable RX8 15 ∈ wsL_law) (by decide +kernel : Cond.initialized RX8 ∈ wsL_law) (ci := 7) (fs := [.null, .null, .null, .null, .null, .null, .null, .null, .null, .null, .null, .int 0, .int 0, .int 0, .int 0]) rfl zc_dX8 (N1 := 1) (c1 := 1) (s1 := 15) rfl rfl rfl (Nat.le_of_ble_eq_true rfl) (Nat.le_of_ble_eq_true rfl) dL_law_0 ?_
  refine zc_dup X dL_law_3 rfl ?_
  refine zc_init X (ctc_X8_init l E b0) (cwI 0 X.1.2.2.2.2 gL_law_X8_init rfl rfl rfl (X.1.2.2.2.2 _ (by decide +kernel : Cond.initialized RX8 ∈ wsL_law)) (X.1.2.2.2.2 _ (by decide +kernel : Cond.methodLink RL 9 yX8_init ∈ wsL_law)) (X.1.2.2.2.2 _ (by decide +kernel : Cond.instanceMethod yX8_init ∈ wsL_law)) rfl (by decide +kernel) ⟨Nat.le_of_ble_eq_true rfl, Nat.le_of_ble_eq_true rfl⟩) (Nat.le_of_ble_eq_true rfl) dL_law_4 (N2 := 79) (c1 := 79) (s1 := 1008) rfl rfl rfl (Nat.le_of_ble_eq_true rfl) (Nat.le_of_ble_eq_true rfl) ?_
  refine zc_astore_n X (lv' := [(1, .ref (b0 + 0)), (0, .ref b)]) dL_law_7 rfl (by decide) rfl ?_
  refine zc_new X iX9 tyX9 tyX9_ok (by decide +kernel : Cond.classLink RL 10 RX9 ∈ wsL_law) (by decide +kernel : Cond.instantiable RX9 32 ∈ wsL_law) (by decide +kernel : Cond.initialized RX9 ∈ wsL_law) (ci := 8) (fs := [.null, .int 0, .int 0, .null, .null, .null, .null, .null, .int 0, .null, .null, .null, .null, .null, .null, .null, .null, .int 0, .null, .null, .null, .null, .int 0, .int 0, .null, .null, .null, .int 0, .long 0, .null, .int 0, .null]) rfl zc_dX9 (N1 := 80) (c1 := 80) (s1 := 1040) rfl rfl rfl (Nat.le_of_ble_eq_true rfl) (Nat.le_of_ble_eq_true rfl) dL_law_8 ?_
  refine zc_dup X dL_law_11 rfl ?_
  refine zc_init X (ctc_X9_init l E b0) (cwI 0 X.1.2.2.2.2 gL_law_X9_init rfl rfl rfl (X.1.2.2.2.2 _ (by decide +kernel : Cond.initialized RX9 ∈ wsL_law)) (X.1.2.2.2.2 _ (by decide +kernel : Cond.methodLink RL 12 yX9_init ∈ wsL_law)) (X.1.2.2.2.2 _ (by decide +kernel : Cond.instanceMethod yX9_init ∈ wsL_law)) rfl (by decide +kernel) ⟨Nat.le_of_ble_eq_true rfl, Nat.le_of_ble_eq_true rfl⟩) (Nat.le_of_ble_eq_true rfl) dL_law_12 (N2 := 103) (c1 := 103) (s1 := 1953) rfl rfl rfl (Nat.le_of_ble_eq_true rfl) (Nat.le_of_ble_eq_true rfl) ?_
  refine zc_astore_n X (lv' := [(2, .ref (b0 + 79)), (1, .ref (b0 + 0)), (0, .ref b)]) dL_law_15 rfl (by decide) rfl ?_
  refine zc_iconst X (v := 0) dL_law_16 (by decide) ?_
  refine zc_istore_n X (lv' := [(3, .int 0), (2, .ref (b0 + 79)), (1, .ref (b0 + 0)), (0, .ref b)]) dL_law_17 rfl (by decide) rfl ?_
  intro H locs ls hP hS hl
  obtain ⟨n, z', hz⟩ := hpure xs L hL
  refine va_forget (fun q hq => by have h9 : b0 ≤ q.base := hS.2.2 q hq; omega) ?_
  have hP1 : zk_P E zk_z0 H := by
    subst hE
    exact zk_start (dC, dI) cy b0 H hP
  have hS1 : va_S (zk_A E) s.heap H [] := ⟨hS.1, fun q h1 _ => hS.2.1 q h1 (by show ¬ b0 ≤ q; omega), fun _ h => by cases h⟩
  have hl1 : lv_has ls 4 [(0, .ref b), (1, .ref (E.2.1 0 0)), (2, .ref (E.2.1 20 0)), (3, .int 0)] := by
    subst hE
    exact lv_sub hl [3, 2, 1, 0] rfl
  exact lw_loop l hinj XK hr hX hbl hbA hge z' n 0 zk_z0 hz H [] ls hP1 hS1 hl1
