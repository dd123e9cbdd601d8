/-! THE CLAIM OUT OF ONE WALK OF THE LAW'S BODY. Your part is whole_start (and what it stands on); all else here is the same for every law, but numbers. -/
def R_law : String := "HiddenWorksLaw"
def lw_P (b : Addr) (xs : List Int32) (args : Array Value) (s : State) : Prop := args = #[.ref b] ∧ s.IntsAt b xs ∧ xs.length ≤ 3584 ∧ (Jvm.Cond.and given_1 narrow_1).before args s = true
def lw_Q (_ : Array Value) (s : State) (o : Outcome) (t : State) : Prop := o = .returned (some (.int 1)) ∧ Framed s o t [] 600000 7302250
def lw_Z (below : List Frame) (a : Array Value) (s : State) : State → Prop := fun t => ∃ o, t.status = .running ∧ Ended t below o ∧ lw_Q a s o t
/-- the law's own end, with 1 on the stack, nothing written that was there before, its room as the claim has it -/
theorem lw_ret {p : Program} {l : Launch} {e : Env} {s : State} {m : MethodId} {below : List Frame} {meth : Method} {c : Code} {b : Nat} (hx : p.tables.exec = Jvm.exec) (hb : c.code = code) (hr : meth.sig.returnType = ret) (hlocks : meth.locks = false) {pc : Nat} {H : Heap} {ls : Array Slot} (hdg : decode code pc = .ok (.ireturn, 1)) : W p l e room_1 s m #[Value.ref b] below meth c H [] 600000 7302250 (lw_Z below #[Value.ref b] s) (F0 m pc ls [.int 1]) := by
  intro T hT X
  obtain ⟨fs, hret, hrun, hended, hW, hframe⟩ := X.leave (v := some (.int 1)) (hlocks := hlocks) (fun h => by rw [hr] at h; cases h)
  have hmeth' : T.vm.method? m = some meth := X.method'
  refine ⟨T.setFrames fs, ?_, .returned (some (.int 1)), hrun, hended, rfl, ⟨_, rfl⟩, hW, hframe⟩
  jvm_step X.here [X.here.top, hx, hb, hdg, hmeth', hr, ret, narrow_b1]
  (try refine ⟨rfl, ?_⟩); (try refine ⟨rfl, ?_⟩)
  first | (intro acts; rw [hret _ acts rfl rfl rfl]) | rw [hret _ _ rfl rfl rfl]
  exact Steps.refl _
/-- what holds at the law's entry: the machine, the code, the tables' words (any of lw_tbl by 'hts w (by decide +kernel)'), the script of L ints xs at the cell b, what the Statement gives of the start (any of its parts by flat_of_before) -/
def lw_At (p : Program) (s : State) (m : MethodId) (meth : Method) (c : Code) (b L : Nat) (xs : Nat → Int32) : Prop :=
  p.tables.exec = Jvm.exec ∧ c.code = code ∧ meth.sig.returnType = ret ∧ c.maxLocals = 4 ∧ s.vm.findClass R_law = some m.cls ∧ (∀ w ∈ lw_tbl, w.before #[Value.ref b] s = true) ∧ va_X b L xs s s.heap ∧ b < s.heap.size ∧ meth.locks = false ∧ (Jvm.Cond.and given_1 narrow_1).before #[Value.ref b] s = true
theorem zk_no01 {z z' : zk_Z} : ¬ (some ((0 : Int32), z) : Option (Int32 × zk_Z)) = some (1, z') := by
  intro h
  have := congrArg (Option.map Prod.fst) h
  simp at this
section ZKL
variable {p : Program} {l : Launch} {e : Env} {R : Room} {s : State} {m : MethodId} {args : Array Value} {below : List Frame} {meth : Method} {c : Code} {cells slots : Nat} {Q : State → Prop}
variable {cc : ByteArray} {pc nL : Nat} {lv : List (Nat × Value)} {st : List Value} {E : zk_E} {z : zk_Z} {Ts : List Cond} {own : String} {α : Type} {o : α}
theorem zk_slen (X : zk_X p R s m args meth c E cc nL cells slots Ts own) {b L : Nat} {xs : Nat → Int32} (hX : va_X b L xs s s.heap) (hbl : b < s.heap.size) (hbA : ¬ zk_A E b) (hdg : decode cc pc = .ok (.arraylength, 1)) (kk : zk_G p l e R s m args below meth c E nL cells slots Q (pc + 1) lv (.int (Int32.ofNat L) :: st) z) : zk_G p l e R s m args below meth c E nL cells slots Q pc lv (.ref b :: st) z :=
  fun H locs ls hP hS hl => va_slen X.1.1 X.1.2.1 hX hbl hbA hS hdg (kk H locs ls hP hS hl)
theorem zk_sld (X : zk_X p R s m args meth c E cc nL cells slots Ts own) {b L : Nat} {xs : Nat → Int32} {i : Int32} {a : Option α} (hX : va_X b L xs s s.heap) (hbl : b < s.heap.size) (hbA : ¬ zk_A E b) (hdg : decode cc pc = .ok (.iaload, 1)) (h : zk_gd (zk_ix i L) a = some o) (kk : a = some o → zk_G p l e R s m args below meth c E nL cells slots Q (pc + 1) lv (.int (xs i.toNatClampNeg) :: st) z) : zk_G p l e R s m args below meth c E nL cells slots Q pc lv (.int i :: .ref b :: st) z :=
  fun H locs ls hP hS hl => va_sld X.1.1 X.1.2.1 hX hbl hbA hS (zk_ix_in (zk_gd_some h).1) hdg (kk (zk_gd_some h).2 H locs ls hP hS hl)
theorem zk_lret1 {b : Nat} (X : zk_X p room_1 s m #[Value.ref b] meth c E code 4 103 1953 Ts own) (hr : meth.sig.returnType = ret) (hge : ∀ q, zk_A E q → s.heap.size ≤ q) (hdg : decode code pc = .ok (.ireturn, 1)) : zk_G p l e room_1 s m #[Value.ref b] below meth c E 4 103 1953 (lw_Z below #[Value.ref b] s) pc lv [.int 1] z := by
  intro H locs ls hP hS hl
  refine va_forget (fun q hq => hge _ (hS.2.2 q hq)) ?_
  refine W.widen (k := 600000) (n := 7302250) (Nat.le_of_ble_eq_true rfl) (Nat.le_of_ble_eq_true rfl) ?_
  exact lw_ret X.1.1 X.1.2.1 hr X.2.1.1 hdg
end ZKL
def fL_law_B1433 (xs : Nat → Int32) (L : Nat) (c18 : Int32 → zk_Z → Option (Int32 × zk_Z)) (a3 : Int32) (z : zk_Z) : Option (Int32 × zk_Z) := c18 (a3 + 7) z
def fL_law_B180 (xs : Nat → Int32) (L : Nat) (c18 : Int32 → zk_Z → Option (Int32 × zk_Z)) (a3 : Int32) (z : zk_Z) : Option (Int32 × zk_Z) := zk_gd (zk_ix (a3 + 1) L) (zk_gd (zk_ix (a3 + 2) L) (zk_gd (zk_ix (a3 + 3) L) (zk_bd (fX8_feed ((((xs (a3 + 1).toNatClampNeg).toInt64) <<< ((32 : Int32).toInt64 &&& 63)) ||| (((xs (a3 + 2).toNatClampNeg).toInt64) &&& 4294967295)) (xs (a3 + 3).toNatClampNeg) z) (fun r2 z1 => zk_gd (zk_ix (a3 + 1) L) (zk_gd (zk_ix (a3 + 2) L) (zk_gd (zk_ix (a3 + 3) L) (zk_bd (fX9_feed ((((xs (a3 + 1).toNatClampNeg).toInt64) <<< ((32 : Int32).toInt64 &&& 63)) ||| (((xs (a3 + 2).toNatClampNeg).toInt64) &&& 4294967295)) (xs (a3 + 3).toNatClampNeg) z1) (fun r4 z3 => if r2 = r4 then fL_law_B1433 xs L c18 a3 z3 else some (0, z3)))))))))
def fL_law_B243 (xs : Nat → Int32) (L : Nat) (c18 : Int32 → zk_Z → Option (Int32 × zk_Z)) (a3 : Int32) (z : zk_Z) : Option (Int32 × zk_Z) := zk_bd (fX8_recipe  z) (fun r7 z6 => zk_bd (fX9_recipe  z6) (fun r9 z8 => if r7 = r9 then fL_law_B1433 xs L c18 a3 z8 else some (0, z8)))
def fL_law_B256 (xs : Nat → Int32) (L : Nat) (c18 : Int32 → zk_Z → Option (Int32 × zk_Z)) (a3 : Int32) (z : zk_Z) : Option (Int32 × zk_Z) := zk_gd (zk_ix (a3 + 1) L) (zk_gd (zk_ix (a3 + 2) L) (zk_bd (fX8_recipeTold (xs (a3 + 1).toNatClampNeg) (xs (a3 + 2).toNatClampNeg) z) (fun r12 z11 => zk_gd (zk_ix (a3 + 1) L) (zk_gd (zk_ix (a3 + 2) L) (zk_bd (fX9_recipeTold (xs (a3 + 1).toNatClampNeg) (xs (a3 + 2).toNatClampNeg) z11) (fun r14 z13 => if r12 = r14 then fL_law_B1433 xs L c18 a3 z13 else some (0, z13)))))))
def fL_law_B289 (xs : Nat → Int32) (L : Nat) (c18 : Int32 → zk_Z → Option (Int32 × zk_Z)) (a3 : Int32) (z : zk_Z) : Option (Int32 × zk_Z) := zk_gd (zk_ix (a3 + 1) L) (zk_gd (zk_ix (a3 + 2) L) (zk_bd (fX8_make (xs (a3 + 1).toNatClampNeg) (xs (a3 + 2).toNatClampNeg) z) (fun r17 z16 => zk_gd (zk_ix (a3 + 1) L) (zk_gd (zk_ix (a3 + 2) L) (zk_bd (fX9_make (xs (a3 + 1).toNatClampNeg) (xs (a3 + 2).toNatClampNeg) z16) (fun r19 z18 => if r17 = r19 then fL_law_B1433 xs L c18 a3 z18 else some (0, z18)))))))
def fL_law_B322 (xs : Nat → Int32) (L : Nat) (c18 : Int32 → zk_Z → Option (Int32 × zk_Z)) (a3 : Int32) (z : zk_Z) : Option (Int32 × zk_Z) := zk_gd (zk_ix (a3 + 1) L) (zk_gd (zk_ix (a3 + 2) L) (zk_gd (zk_ix (a3 + 3) L) (zk_bd (fX8_wild (xs (a3 + 1).toNatClampNeg) (xs (a3 + 2).toNatClampNeg) (xs (a3 + 3).toNatClampNeg) z) (fun r22 z21 => zk_gd (zk_ix (a3 + 1) L) (zk_gd (zk_ix (a3 + 2) L) (zk_gd (zk_ix (a3 + 3) L) (zk_bd (fX9_wild (xs (a3 + 1).toNatClampNeg) (xs (a3 + 2).toNatClampNeg) (xs (a3 + 3).toNatClampNeg) z21) (fun r24 z23 => if r22 = r24 then fL_law_B1433 xs L c18 a3 z23 else some (0, z23)))))))))
def fL_law_B365 (xs : Nat → Int32) (L : Nat) (c18 : Int32 → zk_Z → Option (Int32 × zk_Z)) (a3 : Int32) (z : zk_Z) : Option (Int32 × zk_Z) := zk_gd (zk_ix (a3 + 1) L) (zk_gd (zk_ix (a3 + 2) L) (zk_bd (fX8_taskTold (xs (a3 + 1).toNatClampNeg) (xs (a3 + 2).toNatClampNeg) z) (fun r27 z26 => zk_gd (zk_ix (a3 + 1) L) (zk_gd (zk_ix (a3 + 2) L) (zk_bd (fX9_taskTold (xs (a3 + 1).toNatClampNeg) (xs (a3 + 2).toNatClampNeg) z26) (fun r29 z28 => if r27 = r29 then fL_law_B1433 xs L c18 a3 z28 else some (0, z28)))))))
def fL_law_B398 (xs : Nat → Int32) (L : Nat) (c18 : Int32 → zk_Z → Option (Int32 × zk_Z)) (a3 : Int32) (z : zk_Z) : Option (Int32 × zk_Z) := zk_gd (zk_ix (a3 + 1) L) (zk_gd (zk_ix (a3 + 2) L) (zk_gd (zk_ix (a3 + 3) L) (zk_bd (fX8_clauseTold (xs (a3 + 1).toNatClampNeg) (xs (a3 + 2).toNatClampNeg) (xs (a3 + 3).toNatClampNeg) z) (fun r32 z31 => zk_gd (zk_ix (a3 + 1) L) (zk_gd (zk_ix (a3 + 2) L) (zk_gd (zk_ix (a3 + 3) L) (zk_bd (fX9_clauseTold (xs (a3 + 1).toNatClampNeg) (xs (a3 + 2).toNatClampNeg) (xs (a3 + 3).toNatClampNeg) z31) (fun r34 z33 => if r32 = r34 then fL_law_B1433 xs L c18 a3 z33 else some (0, z33)))))))))
def fL_law_B441 (xs : Nat → Int32) (L : Nat) (c18 : Int32 → zk_Z → Option (Int32 × zk_Z)) (a3 : Int32) (z : zk_Z) : Option (Int32 × zk_Z) := zk_gd (zk_ix (a3 + 1) L) (zk_gd (zk_ix (a3 + 2) L) (zk_bd (fX8_solves (xs (a3 + 1).toNatClampNeg) (xs (a3 + 2).toNatClampNeg) z) (fun r37 z36 => zk_gd (zk_ix (a3 + 1) L) (zk_gd (zk_ix (a3 + 2) L) (zk_bd (fX9_solves (xs (a3 + 1).toNatClampNeg) (xs (a3 + 2).toNatClampNeg) z36) (fun r39 z38 => if r37 = r39 then fL_law_B1433 xs L c18 a3 z38 else some (0, z38)))))))
def fL_law_B474 (xs : Nat → Int32) (L : Nat) (c18 : Int32 → zk_Z → Option (Int32 × zk_Z)) (a3 : Int32) (z : zk_Z) : Option (Int32 × zk_Z) := zk_gd (zk_ix (a3 + 1) L) (zk_gd (zk_ix (a3 + 2) L) (zk_gd (zk_ix (a3 + 3) L) (zk_bd (fX8_answers (xs (a3 + 1).toNatClampNeg) (xs (a3 + 2).toNatClampNeg) (xs (a3 + 3).toNatClampNeg) z) (fun r42 z41 => zk_gd (zk_ix (a3 + 1) L) (zk_gd (zk_ix (a3 + 2) L) (zk_gd (zk_ix (a3 + 3) L) (zk_bd (fX9_answers (xs (a3 + 1).toNatClampNeg) (xs (a3 + 2).toNatClampNeg) (xs (a3 + 3).toNatClampNeg) z41) (fun r44 z43 => if r42 = r44 then fL_law_B1433 xs L c18 a3 z43 else some (0, z43)))))))))
def fL_law_B517 (xs : Nat → Int32) (L : Nat) (c18 : Int32 → zk_Z → Option (Int32 × zk_Z)) (a3 : Int32) (z : zk_Z) : Option (Int32 × zk_Z) := zk_gd (zk_ix (a3 + 1) L) (zk_gd (zk_ix (a3 + 2) L) (zk_bd (fX8_answer (xs (a3 + 1).toNatClampNeg) (xs (a3 + 2).toNatClampNeg) z) (fun r47 z46 => zk_gd (zk_ix (a3 + 1) L) (zk_gd (zk_ix (a3 + 2) L) (zk_bd (fX9_answer (xs (a3 + 1).toNatClampNeg) (xs (a3 + 2).toNatClampNeg) z46) (fun r49 z48 => if r47 = r49 then fL_law_B1433 xs L c18 a3 z48 else some (0, z48)))))))
def fL_law_B550 (xs : Nat → Int32) (L : Nat) (c18 : Int32 → zk_Z → Option (Int32 × zk_Z)) (a3 : Int32) (z : zk_Z) : Option (Int32 × zk_Z) := zk_gd (zk_ix (a3 + 1) L) (zk_gd (zk_ix (a3 + 2) L) (zk_bd (fX8_nearest (xs (a3 + 1).toNatClampNeg) (xs (a3 + 2).toNatClampNeg) z) (fun r52 z51 => zk_gd (zk_ix (a3 + 1) L) (zk_gd (zk_ix (a3 + 2) L) (zk_bd (fX9_nearest (xs (a3 + 1).toNatClampNeg) (xs (a3 + 2).toNatClampNeg) z51) (fun r54 z53 => if r52 = r54 then fL_law_B1433 xs L c18 a3 z53 else some (0, z53)))))))
def fL_law_B583 (xs : Nat → Int32) (L : Nat) (c18 : Int32 → zk_Z → Option (Int32 × zk_Z)) (a3 : Int32) (z : zk_Z) : Option (Int32 × zk_Z) := zk_gd (zk_ix (a3 + 1) L) (zk_bd (fX8_hint (xs (a3 + 1).toNatClampNeg) z) (fun r57 z56 => zk_gd (zk_ix (a3 + 1) L) (zk_bd (fX9_hint (xs (a3 + 1).toNatClampNeg) z56) (fun r59 z58 => if r57 = r59 then fL_law_B1433 xs L c18 a3 z58 else some (0, z58)))))
def fL_law_B606 (xs : Nat → Int32) (L : Nat) (c18 : Int32 → zk_Z → Option (Int32 × zk_Z)) (a3 : Int32) (z : zk_Z) : Option (Int32 × zk_Z) := zk_gd (zk_ix (a3 + 1) L) (zk_bd (fX8_needed (xs (a3 + 1).toNatClampNeg) z) (fun r62 z61 => zk_gd (zk_ix (a3 + 1) L) (zk_bd (fX9_needed (xs (a3 + 1).toNatClampNeg) z61) (fun r64 z63 => if r62 = r64 then fL_law_B1433 xs L c18 a3 z63 else some (0, z63)))))
def fL_law_B629 (xs : Nat → Int32) (L : Nat) (c18 : Int32 → zk_Z → Option (Int32 × zk_Z)) (a3 : Int32) (z : zk_Z) : Option (Int32 × zk_Z) := zk_gd (zk_ix (a3 + 1) L) (zk_gd (zk_ix (a3 + 2) L) (zk_bd (fX8_lean (xs (a3 + 1).toNatClampNeg) (xs (a3 + 2).toNatClampNeg) z) (fun r67 z66 => zk_gd (zk_ix (a3 + 1) L) (zk_gd (zk_ix (a3 + 2) L) (zk_bd (fX9_lean (xs (a3 + 1).toNatClampNeg) (xs (a3 + 2).toNatClampNeg) z66) (fun r69 z68 => if r67 = r69 then fL_law_B1433 xs L c18 a3 z68 else some (0, z68)))))))
def fL_law_B662 (xs : Nat → Int32) (L : Nat) (c18 : Int32 → zk_Z → Option (Int32 × zk_Z)) (a3 : Int32) (z : zk_Z) : Option (Int32 × zk_Z) := zk_gd (zk_ix (a3 + 1) L) (zk_gd (zk_ix (a3 + 2) L) (zk_bd (fX8_leans (xs (a3 + 1).toNatClampNeg) (xs (a3 + 2).toNatClampNeg) z) (fun r72 z71 => zk_gd (zk_ix (a3 + 1) L) (zk_gd (zk_ix (a3 + 2) L) (zk_bd (fX9_leans (xs (a3 + 1).toNatClampNeg) (xs (a3 + 2).toNatClampNeg) z71) (fun r74 z73 => if (lg_cmp r72 r74) = 0 then fL_law_B1433 xs L c18 a3 z73 else some (0, z73)))))))
def fL_law_B696 (xs : Nat → Int32) (L : Nat) (c18 : Int32 → zk_Z → Option (Int32 × zk_Z)) (a3 : Int32) (z : zk_Z) : Option (Int32 × zk_Z) := zk_gd (zk_ix (a3 + 1) L) (zk_gd (zk_ix (a3 + 2) L) (zk_bd (fX8_pairs (xs (a3 + 1).toNatClampNeg) (xs (a3 + 2).toNatClampNeg) z) (fun r77 z76 => zk_gd (zk_ix (a3 + 1) L) (zk_gd (zk_ix (a3 + 2) L) (zk_bd (fX9_pairs (xs (a3 + 1).toNatClampNeg) (xs (a3 + 2).toNatClampNeg) z76) (fun r79 z78 => if (lg_cmp r77 r79) = 0 then fL_law_B1433 xs L c18 a3 z78 else some (0, z78)))))))
def fL_law_B730 (xs : Nat → Int32) (L : Nat) (c18 : Int32 → zk_Z → Option (Int32 × zk_Z)) (a3 : Int32) (z : zk_Z) : Option (Int32 × zk_Z) := zk_gd (zk_ix (a3 + 1) L) (zk_bd (fX8_balance (xs (a3 + 1).toNatClampNeg) z) (fun r82 z81 => zk_gd (zk_ix (a3 + 1) L) (zk_bd (fX9_balance (xs (a3 + 1).toNatClampNeg) z81) (fun r84 z83 => if r82 = r84 then fL_law_B1433 xs L c18 a3 z83 else some (0, z83)))))
def fL_law_B753 (xs : Nat → Int32) (L : Nat) (c18 : Int32 → zk_Z → Option (Int32 × zk_Z)) (a3 : Int32) (z : zk_Z) : Option (Int32 × zk_Z) := zk_gd (zk_ix (a3 + 1) L) (zk_gd (zk_ix (a3 + 2) L) (zk_gd (zk_ix (a3 + 3) L) (zk_gd (zk_ix (a3 + 4) L) (zk_bd (fX8_find (xs (a3 + 1).toNatClampNeg) (xs (a3 + 2).toNatClampNeg) (xs (a3 + 3).toNatClampNeg) (xs (a3 + 4).toNatClampNeg) z) (fun r87 z86 => zk_gd (zk_ix (a3 + 1) L) (zk_gd (zk_ix (a3 + 2) L) (zk_gd (zk_ix (a3 + 3) L) (zk_gd (zk_ix (a3 + 4) L) (zk_bd (fX9_find (xs (a3 + 1).toNatClampNeg) (xs (a3 + 2).toNatClampNeg) (xs (a3 + 3).toNatClampNeg) (xs (a3 + 4).toNatClampNeg) z86) (fun r89 z88 => if r87 = r89 then fL_law_B1433 xs L c18 a3 z88 else some (0, z88)))))))))))
def fL_law_B806 (xs : Nat → Int32) (L : Nat) (c18 : Int32 → zk_Z → Option (Int32 × zk_Z)) (a3 : Int32) (z : zk_Z) : Option (Int32 × zk_Z) := zk_gd (zk_ix (a3 + 1) L) (zk_gd (zk_ix (a3 + 2) L) (zk_gd (zk_ix (a3 + 3) L) (zk_gd (zk_ix (a3 + 4) L) (zk_gd (zk_ix (a3 + 5) L) (zk_gd (zk_ix (a3 + 6) L) (zk_bd (fX8_heap (xs (a3 + 1).toNatClampNeg) (xs (a3 + 2).toNatClampNeg) (xs (a3 + 3).toNatClampNeg) (xs (a3 + 4).toNatClampNeg) (xs (a3 + 5).toNatClampNeg) (xs (a3 + 6).toNatClampNeg) z) (fun r92 z91 => zk_gd (zk_ix (a3 + 1) L) (zk_gd (zk_ix (a3 + 2) L) (zk_gd (zk_ix (a3 + 3) L) (zk_gd (zk_ix (a3 + 4) L) (zk_gd (zk_ix (a3 + 5) L) (zk_gd (zk_ix (a3 + 6) L) (zk_bd (fX9_heap (xs (a3 + 1).toNatClampNeg) (xs (a3 + 2).toNatClampNeg) (xs (a3 + 3).toNatClampNeg) (xs (a3 + 4).toNatClampNeg) (xs (a3 + 5).toNatClampNeg) (xs (a3 + 6).toNatClampNeg) z91) (fun r94 z93 => if r92 = r94 then fL_law_B1433 xs L c18 a3 z93 else some (0, z93)))))))))))))))
def fL_law_B881 (xs : Nat → Int32) (L : Nat) (c18 : Int32 → zk_Z → Option (Int32 × zk_Z)) (a3 : Int32) (z : zk_Z) : Option (Int32 × zk_Z) := zk_gd (zk_ix (a3 + 1) L) (zk_gd (zk_ix (a3 + 2) L) (zk_gd (zk_ix (a3 + 3) L) (zk_gd (zk_ix (a3 + 4) L) (zk_gd (zk_ix (a3 + 5) L) (zk_bd (fX8_apart (xs (a3 + 1).toNatClampNeg) (xs (a3 + 2).toNatClampNeg) (xs (a3 + 3).toNatClampNeg) (xs (a3 + 4).toNatClampNeg) (xs (a3 + 5).toNatClampNeg) z) (fun r97 z96 => zk_gd (zk_ix (a3 + 1) L) (zk_gd (zk_ix (a3 + 2) L) (zk_gd (zk_ix (a3 + 3) L) (zk_gd (zk_ix (a3 + 4) L) (zk_gd (zk_ix (a3 + 5) L) (zk_bd (fX9_apart (xs (a3 + 1).toNatClampNeg) (xs (a3 + 2).toNatClampNeg) (xs (a3 + 3).toNatClampNeg) (xs (a3 + 4).toNatClampNeg) (xs (a3 + 5).toNatClampNeg) z96) (fun r99 z98 => if r97 = r99 then fL_law_B1433 xs L c18 a3 z98 else some (0, z98)))))))))))))
def fL_law_B944 (xs : Nat → Int32) (L : Nat) (c18 : Int32 → zk_Z → Option (Int32 × zk_Z)) (a3 : Int32) (z : zk_Z) : Option (Int32 × zk_Z) := zk_gd (zk_ix (a3 + 1) L) (zk_gd (zk_ix (a3 + 2) L) (zk_gd (zk_ix (a3 + 3) L) (zk_bd (fX8_twin (xs (a3 + 1).toNatClampNeg) (xs (a3 + 2).toNatClampNeg) (xs (a3 + 3).toNatClampNeg) z) (fun r102 z101 => zk_gd (zk_ix (a3 + 1) L) (zk_gd (zk_ix (a3 + 2) L) (zk_gd (zk_ix (a3 + 3) L) (zk_bd (fX9_twin (xs (a3 + 1).toNatClampNeg) (xs (a3 + 2).toNatClampNeg) (xs (a3 + 3).toNatClampNeg) z101) (fun r104 z103 => if r102 = r104 then fL_law_B1433 xs L c18 a3 z103 else some (0, z103)))))))))
def fL_law_B987 (xs : Nat → Int32) (L : Nat) (c18 : Int32 → zk_Z → Option (Int32 × zk_Z)) (a3 : Int32) (z : zk_Z) : Option (Int32 × zk_Z) := zk_gd (zk_ix (a3 + 1) L) (zk_gd (zk_ix (a3 + 2) L) (zk_bd (fX8_claim (xs (a3 + 1).toNatClampNeg) (xs (a3 + 2).toNatClampNeg) z) (fun r107 z106 => zk_gd (zk_ix (a3 + 1) L) (zk_gd (zk_ix (a3 + 2) L) (zk_bd (fX9_claim (xs (a3 + 1).toNatClampNeg) (xs (a3 + 2).toNatClampNeg) z106) (fun r109 z108 => if r107 = r109 then fL_law_B1433 xs L c18 a3 z108 else some (0, z108)))))))
def fL_law_B1020 (xs : Nat → Int32) (L : Nat) (c18 : Int32 → zk_Z → Option (Int32 × zk_Z)) (a3 : Int32) (z : zk_Z) : Option (Int32 × zk_Z) := zk_gd (zk_ix (a3 + 1) L) (zk_gd (zk_ix (a3 + 2) L) (zk_bd (fX8_tries (xs (a3 + 1).toNatClampNeg) (xs (a3 + 2).toNatClampNeg) z) (fun r112 z111 => zk_gd (zk_ix (a3 + 1) L) (zk_gd (zk_ix (a3 + 2) L) (zk_bd (fX9_tries (xs (a3 + 1).toNatClampNeg) (xs (a3 + 2).toNatClampNeg) z111) (fun r114 z113 => if r112 = r114 then fL_law_B1433 xs L c18 a3 z113 else some (0, z113)))))))
def fL_law_B1053 (xs : Nat → Int32) (L : Nat) (c18 : Int32 → zk_Z → Option (Int32 × zk_Z)) (a3 : Int32) (z : zk_Z) : Option (Int32 × zk_Z) := zk_gd (zk_ix (a3 + 1) L) (zk_gd (zk_ix (a3 + 2) L) (zk_bd (fX8_claimTold (xs (a3 + 1).toNatClampNeg) (xs (a3 + 2).toNatClampNeg) z) (fun r117 z116 => zk_gd (zk_ix (a3 + 1) L) (zk_gd (zk_ix (a3 + 2) L) (zk_bd (fX9_claimTold (xs (a3 + 1).toNatClampNeg) (xs (a3 + 2).toNatClampNeg) z116) (fun r119 z118 => if r117 = r119 then fL_law_B1433 xs L c18 a3 z118 else some (0, z118)))))))
def fL_law_B1086 (xs : Nat → Int32) (L : Nat) (c18 : Int32 → zk_Z → Option (Int32 × zk_Z)) (a3 : Int32) (z : zk_Z) : Option (Int32 × zk_Z) := zk_gd (zk_ix (a3 + 1) L) (zk_gd (zk_ix (a3 + 2) L) (zk_gd (zk_ix (a3 + 3) L) (zk_gd (zk_ix (a3 + 4) L) (zk_bd (fX8_kindTold (xs (a3 + 1).toNatClampNeg) (xs (a3 + 2).toNatClampNeg) (xs (a3 + 3).toNatClampNeg) (xs (a3 + 4).toNatClampNeg) z) (fun r122 z121 => zk_gd (zk_ix (a3 + 1) L) (zk_gd (zk_ix (a3 + 2) L) (zk_gd (zk_ix (a3 + 3) L) (zk_gd (zk_ix (a3 + 4) L) (zk_bd (fX9_kindTold (xs (a3 + 1).toNatClampNeg) (xs (a3 + 2).toNatClampNeg) (xs (a3 + 3).toNatClampNeg) (xs (a3 + 4).toNatClampNeg) z121) (fun r124 z123 => if r122 = r124 then fL_law_B1433 xs L c18 a3 z123 else some (0, z123)))))))))))
def fL_law_B1139 (xs : Nat → Int32) (L : Nat) (c18 : Int32 → zk_Z → Option (Int32 × zk_Z)) (a3 : Int32) (z : zk_Z) : Option (Int32 × zk_Z) := zk_gd (zk_ix (a3 + 1) L) (zk_bd (fX8_count (xs (a3 + 1).toNatClampNeg) z) (fun r127 z126 => zk_gd (zk_ix (a3 + 1) L) (zk_bd (fX9_count (xs (a3 + 1).toNatClampNeg) z126) (fun r129 z128 => if r127 = r129 then fL_law_B1433 xs L c18 a3 z128 else some (0, z128)))))
def fL_law_B1162 (xs : Nat → Int32) (L : Nat) (c18 : Int32 → zk_Z → Option (Int32 × zk_Z)) (a3 : Int32) (z : zk_Z) : Option (Int32 × zk_Z) := zk_bd (fX8_image  z) (fun r132 z131 => zk_bd (fX9_image  z131) (fun r134 z133 => if r132 = r134 then fL_law_B1433 xs L c18 a3 z133 else some (0, z133)))
def fL_law_B1175 (xs : Nat → Int32) (L : Nat) (c18 : Int32 → zk_Z → Option (Int32 × zk_Z)) (a3 : Int32) (z : zk_Z) : Option (Int32 × zk_Z) := zk_bd (fX8_back  z) (fun r137 z136 => zk_bd (fX9_back  z136) (fun r139 z138 => if r137 = r139 then fL_law_B1433 xs L c18 a3 z138 else some (0, z138)))
def fL_law_B1188 (xs : Nat → Int32) (L : Nat) (c18 : Int32 → zk_Z → Option (Int32 × zk_Z)) (a3 : Int32) (z : zk_Z) : Option (Int32 × zk_Z) := zk_gd (zk_ix (a3 + 1) L) (zk_gd (zk_ix (a3 + 2) L) (zk_gd (zk_ix (a3 + 3) L) (zk_bd (fX8_sheet (xs (a3 + 1).toNatClampNeg) (xs (a3 + 2).toNatClampNeg) (xs (a3 + 3).toNatClampNeg) z) (fun r142 z141 => zk_gd (zk_ix (a3 + 1) L) (zk_gd (zk_ix (a3 + 2) L) (zk_gd (zk_ix (a3 + 3) L) (zk_bd (fX9_sheet (xs (a3 + 1).toNatClampNeg) (xs (a3 + 2).toNatClampNeg) (xs (a3 + 3).toNatClampNeg) z141) (fun r144 z143 => if r142 = r144 then fL_law_B1433 xs L c18 a3 z143 else some (0, z143)))))))))
def fL_law_B1231 (xs : Nat → Int32) (L : Nat) (c18 : Int32 → zk_Z → Option (Int32 × zk_Z)) (a3 : Int32) (z : zk_Z) : Option (Int32 × zk_Z) := zk_gd (zk_ix (a3 + 1) L) (zk_gd (zk_ix (a3 + 2) L) (zk_gd (zk_ix (a3 + 3) L) (zk_bd (fX8_cell (xs (a3 + 1).toNatClampNeg) (xs (a3 + 2).toNatClampNeg) (xs (a3 + 3).toNatClampNeg) z) (fun r147 z146 => zk_gd (zk_ix (a3 + 1) L) (zk_gd (zk_ix (a3 + 2) L) (zk_gd (zk_ix (a3 + 3) L) (zk_bd (fX9_cell (xs (a3 + 1).toNatClampNeg) (xs (a3 + 2).toNatClampNeg) (xs (a3 + 3).toNatClampNeg) z146) (fun r149 z148 => if r147 = r149 then fL_law_B1433 xs L c18 a3 z148 else some (0, z148)))))))))
def fL_law_B1274 (xs : Nat → Int32) (L : Nat) (c18 : Int32 → zk_Z → Option (Int32 × zk_Z)) (a3 : Int32) (z : zk_Z) : Option (Int32 × zk_Z) := zk_gd (zk_ix (a3 + 1) L) (zk_gd (zk_ix (a3 + 2) L) (zk_gd (zk_ix (a3 + 3) L) (zk_gd (zk_ix (a3 + 4) L) (zk_gd (zk_ix (a3 + 5) L) (zk_bd (fX8_copy (xs (a3 + 1).toNatClampNeg) (xs (a3 + 2).toNatClampNeg) (xs (a3 + 3).toNatClampNeg) (xs (a3 + 4).toNatClampNeg) (xs (a3 + 5).toNatClampNeg) z) (fun r152 z151 => zk_gd (zk_ix (a3 + 1) L) (zk_gd (zk_ix (a3 + 2) L) (zk_gd (zk_ix (a3 + 3) L) (zk_gd (zk_ix (a3 + 4) L) (zk_gd (zk_ix (a3 + 5) L) (zk_bd (fX9_copy (xs (a3 + 1).toNatClampNeg) (xs (a3 + 2).toNatClampNeg) (xs (a3 + 3).toNatClampNeg) (xs (a3 + 4).toNatClampNeg) (xs (a3 + 5).toNatClampNeg) z151) (fun r154 z153 => if r152 = r154 then fL_law_B1433 xs L c18 a3 z153 else some (0, z153)))))))))))))
def fL_law_B1337 (xs : Nat → Int32) (L : Nat) (c18 : Int32 → zk_Z → Option (Int32 × zk_Z)) (a3 : Int32) (z : zk_Z) : Option (Int32 × zk_Z) := zk_gd (zk_ix (a3 + 1) L) (zk_gd (zk_ix (a3 + 2) L) (zk_gd (zk_ix (a3 + 3) L) (zk_gd (zk_ix (a3 + 4) L) (zk_bd (fX8_claims (xs (a3 + 1).toNatClampNeg) (xs (a3 + 2).toNatClampNeg) (xs (a3 + 3).toNatClampNeg) (xs (a3 + 4).toNatClampNeg) z) (fun r157 z156 => zk_gd (zk_ix (a3 + 1) L) (zk_gd (zk_ix (a3 + 2) L) (zk_gd (zk_ix (a3 + 3) L) (zk_gd (zk_ix (a3 + 4) L) (zk_bd (fX9_claims (xs (a3 + 1).toNatClampNeg) (xs (a3 + 2).toNatClampNeg) (xs (a3 + 3).toNatClampNeg) (xs (a3 + 4).toNatClampNeg) z156) (fun r159 z158 => if r157 = r159 then fL_law_B1433 xs L c18 a3 z158 else some (0, z158)))))))))))
def fL_law_B1390 (xs : Nat → Int32) (L : Nat) (c18 : Int32 → zk_Z → Option (Int32 × zk_Z)) (a3 : Int32) (z : zk_Z) : Option (Int32 × zk_Z) := zk_gd (zk_ix (a3 + 1) L) (zk_gd (zk_ix (a3 + 2) L) (zk_gd (zk_ix (a3 + 3) L) (zk_bd (fX8_taken (xs (a3 + 1).toNatClampNeg) (xs (a3 + 2).toNatClampNeg) (xs (a3 + 3).toNatClampNeg) z) (fun r162 z161 => zk_gd (zk_ix (a3 + 1) L) (zk_gd (zk_ix (a3 + 2) L) (zk_gd (zk_ix (a3 + 3) L) (zk_bd (fX9_taken (xs (a3 + 1).toNatClampNeg) (xs (a3 + 2).toNatClampNeg) (xs (a3 + 3).toNatClampNeg) z161) (fun r164 z163 => if r162 = r164 then fL_law_B1433 xs L c18 a3 z163 else some (0, z163)))))))))
def fL_law_L18 (xs : Nat → Int32) (L : Nat) : Nat → Int32 → zk_Z → Option (Int32 × zk_Z)
  | 0, _, _ => none
  | n + 1, a3, z => if ((Int32.ofNat L) - 7) < a3 then some (1, z) else zk_gd (zk_ix a3 L) (if ((xs a3.toNatClampNeg) &&& 63) = 0 then fL_law_B180 xs L (fL_law_L18 xs L n) a3 z else if ((xs a3.toNatClampNeg) &&& 63) = 1 then fL_law_B243 xs L (fL_law_L18 xs L n) a3 z else if ((xs a3.toNatClampNeg) &&& 63) = 2 then fL_law_B256 xs L (fL_law_L18 xs L n) a3 z else if ((xs a3.toNatClampNeg) &&& 63) = 3 then fL_law_B289 xs L (fL_law_L18 xs L n) a3 z else if ((xs a3.toNatClampNeg) &&& 63) = 4 then fL_law_B322 xs L (fL_law_L18 xs L n) a3 z else if ((xs a3.toNatClampNeg) &&& 63) = 5 then fL_law_B365 xs L (fL_law_L18 xs L n) a3 z else if ((xs a3.toNatClampNeg) &&& 63) = 6 then fL_law_B398 xs L (fL_law_L18 xs L n) a3 z else if ((xs a3.toNatClampNeg) &&& 63) = 7 then fL_law_B441 xs L (fL_law_L18 xs L n) a3 z else if ((xs a3.toNatClampNeg) &&& 63) = 8 then fL_law_B474 xs L (fL_law_L18 xs L n) a3 z else if ((xs a3.toNatClampNeg) &&& 63) = 9 then fL_law_B517 xs L (fL_law_L18 xs L n) a3 z else if ((xs a3.toNatClampNeg) &&& 63) = 10 then fL_law_B550 xs L (fL_law_L18 xs L n) a3 z else if ((xs a3.toNatClampNeg) &&& 63) = 11 then fL_law_B583 xs L (fL_law_L18 xs L n) a3 z else if ((xs a3.toNatClampNeg) &&& 63) = 12 then fL_law_B606 xs L (fL_law_L18 xs L n) a3 z else if ((xs a3.toNatClampNeg) &&& 63) = 13 then fL_law_B629 xs L (fL_law_L18 xs L n) a3 z else if ((xs a3.toNatClampNeg) &&& 63) = 14 then fL_law_B662 xs L (fL_law_L18 xs L n) a3 z else if ((xs a3.toNatClampNeg) &&& 63) = 15 then fL_law_B696 xs L (fL_law_L18 xs L n) a3 z else if ((xs a3.toNatClampNeg) &&& 63) = 16 then fL_law_B730 xs L (fL_law_L18 xs L n) a3 z else if ((xs a3.toNatClampNeg) &&& 63) = 17 then fL_law_B753 xs L (fL_law_L18 xs L n) a3 z else if ((xs a3.toNatClampNeg) &&& 63) = 18 then fL_law_B806 xs L (fL_law_L18 xs L n) a3 z else if ((xs a3.toNatClampNeg) &&& 63) = 19 then fL_law_B881 xs L (fL_law_L18 xs L n) a3 z else if ((xs a3.toNatClampNeg) &&& 63) = 20 then fL_law_B944 xs L (fL_law_L18 xs L n) a3 z else if ((xs a3.toNatClampNeg) &&& 63) = 21 then fL_law_B987 xs L (fL_law_L18 xs L n) a3 z else if ((xs a3.toNatClampNeg) &&& 63) = 22 then fL_law_B1020 xs L (fL_law_L18 xs L n) a3 z else if ((xs a3.toNatClampNeg) &&& 63) = 23 then fL_law_B1053 xs L (fL_law_L18 xs L n) a3 z else if ((xs a3.toNatClampNeg) &&& 63) = 24 then fL_law_B1086 xs L (fL_law_L18 xs L n) a3 z else if ((xs a3.toNatClampNeg) &&& 63) = 25 then fL_law_B1139 xs L (fL_law_L18 xs L n) a3 z else if ((xs a3.toNatClampNeg) &&& 63) = 26 then fL_law_B1162 xs L (fL_law_L18 xs L n) a3 z else if ((xs a3.toNatClampNeg) &&& 63) = 27 then fL_law_B1175 xs L (fL_law_L18 xs L n) a3 z else if ((xs a3.toNatClampNeg) &&& 63) = 28 then fL_law_B1188 xs L (fL_law_L18 xs L n) a3 z else if ((xs a3.toNatClampNeg) &&& 63) = 29 then fL_law_B1231 xs L (fL_law_L18 xs L n) a3 z else if ((xs a3.toNatClampNeg) &&& 63) = 30 then fL_law_B1274 xs L (fL_law_L18 xs L n) a3 z else if ((xs a3.toNatClampNeg) &&& 63) = 31 then fL_law_B1337 xs L (fL_law_L18 xs L n) a3 z else if ((xs a3.toNatClampNeg) &&& 63) = 32 then fL_law_B1390 xs L (fL_law_L18 xs L n) a3 z else fL_law_B1433 xs L (fL_law_L18 xs L n) a3 z)
set_option maxRecDepth 100000 in
set_option maxHeartbeats 40000000 in
theorem lw_loop {p : Program} {e : Env} {s : State} {m : MethodId} {below : List Frame} {meth : Method} {c : Code} (l : Launch) {E : zk_E} {b L : Nat} {xs : Nat → Int32} (hi : zk_inj E) (X : zk_X p room_1 s m #[Value.ref b] meth c E code 4 103 1953 wsL_law RL) (hr : meth.sig.returnType = ret) (hX : va_X b L xs s s.heap) (hbl : b < s.heap.size) (hbA : ¬ zk_A E b) (hge : ∀ q, zk_A E q → s.heap.size ≤ q) (z' : zk_Z) : ∀ (n : Nat) (a3 : Int32) (z : zk_Z), fL_law_L18 xs L n a3 z = some (1, z') → zk_G p l e room_1 s m #[Value.ref b] below meth c E 4 103 1953 (lw_Z below #[Value.ref b] s) 18 [(0, .ref b), (1, .ref (E.2.1 0 0)), (2, .ref (E.2.1 20 0)), (3, .int a3)] [] z := by
  have w0 : Cond.constantLong RL 13 (4294967295) ∈ wsL_law := by decide +kernel
  have B1433 : ∀ (c18 : Int32 → zk_Z → Option (Int32 × zk_Z)) (hc18 : ∀ (a3 : Int32) (z : zk_Z), c18 a3 z = some (1, z') → zk_G p l e room_1 s m #[Value.ref b] below meth c E 4 103 1953 (lw_Z below #[Value.ref b] s) 18 [(0, .ref b), (1, .ref (E.2.1 0 0)), (2, .ref (E.2.1 20 0)), (3, .int a3)] [] z) (a3 : Int32) (z : zk_Z), fL_law_B1433 xs L c18 a3 z = some (1, z') → zk_G p l e room_1 s m #[Value.ref b] below meth c E 4 103 1953 (lw_Z below #[Value.ref b] s) 1433 [(0, .ref b), (1, .ref (E.2.1 0 0)), (2, .ref (E.2.1 20 0)), (3, .int a3)] [] z := by
    intro c18 hc18 a3 z h
    unfold fL_law_B1433 at h
    refine zk_iinc X (lv' := [(3, .int (a3 + 7)), (0, .ref b), (1, .ref (E.2.1 0 0)), (2, .ref (E.2.1 20 0))]) 3 dL_law_1433 rfl rfl (by decide) rfl ?_
    refine zk_goto X (tgt := 18) dL_law_1436 (by decide) ?_
    exact zk_sub [1, 2, 3, 0] rfl (hc18 _ _ h)
  have B180 : ∀ (c18 : Int32 → zk_Z → Option (Int32 × zk_Z)) (hc18 : ∀ (a3 : Int32) (z : zk_Z), c18 a3 z = some (1, z') → zk_G p l e room_1 s m #[Value.ref b] below meth c E 4 103 1953 (lw_Z below #[Value.ref b] s) 18 [(0, .ref b), (1, .ref (E.2.1 0 0)), (2, .ref (E.2.1 20 0)), (3, .int a3)] [] z) (a3 : Int32) (z : zk_Z), fL_law_B180 xs L c18 a3 z = some (1, z') → zk_G p l e room_1 s m #[Value.ref b] below meth c E 4 103 1953 (lw_Z below #[Value.ref b] s) 180 [(0, .ref b), (1, .ref (E.2.1 0 0)), (2, .ref (E.2.1 20 0)), (3, .int a3)] [] z := by
    intro c18 hc18 a3 z h
    unfold fL_law_B180 at h
    refine zk_aload_n X 1 dL_law_180 rfl rfl ?_
    refine zk_aload_n X 0 dL_law_181 rfl rfl ?_
    refine zk_iload_n X 3 dL_law_182 rfl rfl ?_
    refine zk_iconst X (v := 1) dL_law_183 (by decide) ?_
    refine zk_iadd X dL_law_184 ?_
    refine zk_sld X hX hbl hbA dL_law_185 h (fun h => ?_)
    refine zk_i2l X dL_law_186 ?_
    refine zk_bipush X (v := 32) dL_law_187 (by decide) ?_
    refine zk_lshl X dL_law_189 ?_
    refine zk_aload_n X 0 dL_law_190 rfl rfl ?_
    refine zk_iload_n X 3 dL_law_191 rfl rfl ?_
    refine zk_iconst X (v := 2) dL_law_192 (by decide) ?_
    refine zk_iadd X dL_law_193 ?_
    refine zk_sld X hX hbl hbA dL_law_194 h (fun h => ?_)
    refine zk_i2l X dL_law_195 ?_
    refine zk_ldc2 X w0 dL_law_196 ?_
    refine zk_land X dL_law_199 ?_
    refine zk_lor X dL_law_200 ?_
    refine zk_aload_n X 0 dL_law_201 rfl rfl ?_
    refine zk_iload_n X 3 dL_law_202 rfl rfl ?_
    refine zk_iconst X (v := 3) dL_law_203 (by decide) ?_
    refine zk_iadd X dL_law_204 ?_
    refine zk_sld X hX hbl hbA dL_law_205 h (fun h => ?_)
    refine zk_vi X h (fun rr zz hf => ct_X8_feed l E hi ((((xs (a3 + 1).toNatClampNeg).toInt64) <<< ((32 : Int32).toInt64 &&& 63)) ||| (((xs (a3 + 2).toNatClampNeg).toInt64) &&& 4294967295)) (xs (a3 + 3).toNatClampNeg) _ rr zz hf) (cwV 2 X.1.2.2.2.2 gL_law_X8_feed rfl rfl rfl (by decide +kernel) ⟨Nat.le_of_ble_eq_true rfl, Nat.le_of_ble_eq_true rfl⟩) (zk_recv X (g := 0) (Nat.zero_lt_one) rfl rfl) rfl rfl (Nat.le_of_ble_eq_true rfl) dL_law_206 (fun r2 z1 h => ?_)
    refine zk_aload_n X 2 dL_law_209 rfl rfl ?_
    refine zk_aload_n X 0 dL_law_210 rfl rfl ?_
    refine zk_iload_n X 3 dL_law_211 rfl rfl ?_
    refine zk_iconst X (v := 1) dL_law_212 (by decide) ?_
    refine zk_iadd X dL_law_213 ?_
    refine zk_sld X hX hbl hbA dL_law_214 h (fun h => ?_)
    refine zk_i2l X dL_law_215 ?_
    refine zk_bipush X (v := 32) dL_law_216 (by decide) ?_
    refine zk_lshl X dL_law_218 ?_
    refine zk_aload_n X 0 dL_law_219 rfl rfl ?_
    refine zk_iload_n X 3 dL_law_220 rfl rfl ?_
    refine zk_iconst X (v := 2) dL_law_221 (by decide) ?_
    refine zk_iadd X dL_law_222 ?_
    refine zk_sld X hX hbl hbA dL_law_223 h (fun h => ?_)
    refine zk_i2l X dL_law_224 ?_
    refine zk_ldc2 X w0 dL_law_225 ?_
    refine zk_land X dL_law_228 ?_
    refine zk_lor X dL_law_229 ?_
    refine zk_aload_n X 0 dL_law_230 rfl rfl ?_
    refine zk_iload_n X 3 dL_law_231 rfl rfl ?_
    refine zk_iconst X (v := 3) dL_law_232 (by decide) ?_
    refine zk_iadd X dL_law_233 ?_
    refine zk_sld X hX hbl hbA dL_law_234 h (fun h => ?_)
    refine zk_vi X h (fun rr zz hf => ct_X9_feed l E hi ((((xs (a3 + 1).toNatClampNeg).toInt64) <<< ((32 : Int32).toInt64 &&& 63)) ||| (((xs (a3 + 2).toNatClampNeg).toInt64) &&& 4294967295)) (xs (a3 + 3).toNatClampNeg) _ rr zz hf) (cwV 2 X.1.2.2.2.2 gL_law_X9_feed rfl rfl rfl (by decide +kernel) ⟨Nat.le_of_ble_eq_true rfl, Nat.le_of_ble_eq_true rfl⟩) (zk_recv X (g := 20) (Nat.zero_lt_one) rfl rfl) rfl rfl (Nat.le_of_ble_eq_true rfl) dL_law_235 (fun r4 z3 h => ?_)
    refine zk_icmp_eq X (tgt := 1433) dL_law_238 (by decide) h (fun h => ?_) (fun h => ?_)
    · exact zk_sub [0, 1, 2, 3] rfl (B1433 _ hc18 _ _ h)
    · refine zk_iconst X (v := 0) dL_law_241 (by decide) ?_
      exact absurd h zk_no01
  have B243 : ∀ (c18 : Int32 → zk_Z → Option (Int32 × zk_Z)) (hc18 : ∀ (a3 : Int32) (z : zk_Z), c18 a3 z = some (1, z') → zk_G p l e room_1 s m #[Value.ref b] below meth c E 4 103 1953 (lw_Z below #[Value.ref b] s) 18 [(0, .ref b), (1, .ref (E.2.1 0 0)), (2, .ref (E.2.1 20 0)), (3, .int a3)] [] z) (a3 : Int32) (z : zk_Z), fL_law_B243 xs L c18 a3 z = some (1, z') → zk_G p l e room_1 s m #[Value.ref b] below meth c E 4 103 1953 (lw_Z below #[Value.ref b] s) 243 [(0, .ref b), (1, .ref (E.2.1 0 0)), (2, .ref (E.2.1 20 0)), (3, .int a3)] [] z := by
    intro c18 hc18 a3 z h
    unfold fL_law_B243 at h
    refine zk_aload_n X 1 dL_law_243 rfl rfl ?_
    refine zk_vi X h (fun rr zz hf => ct_X8_recipe l E hi _ rr zz hf) (cwV 0 X.1.2.2.2.2 gL_law_X8_recipe rfl rfl rfl (by decide +kernel) ⟨Nat.le_of_ble_eq_true rfl, Nat.le_of_ble_eq_true rfl⟩) (zk_recv X (g := 0) (Nat.zero_lt_one) rfl rfl) rfl rfl (Nat.le_of_ble_eq_true rfl) dL_law_244 (fun r7 z6 h => ?_)
    refine zk_aload_n X 2 dL_law_247 rfl rfl ?_
    refine zk_vi X h (fun rr zz hf => ct_X9_recipe l E hi _ rr zz hf) (cwV 0 X.1.2.2.2.2 gL_law_X9_recipe rfl rfl rfl (by decide +kernel) ⟨Nat.le_of_ble_eq_true rfl, Nat.le_of_ble_eq_true rfl⟩) (zk_recv X (g := 20) (Nat.zero_lt_one) rfl rfl) rfl rfl (Nat.le_of_ble_eq_true rfl) dL_law_248 (fun r9 z8 h => ?_)
    refine zk_icmp_eq X (tgt := 1433) dL_law_251 (by decide) h (fun h => ?_) (fun h => ?_)
    · exact zk_sub [0, 1, 2, 3] rfl (B1433 _ hc18 _ _ h)
    · refine zk_iconst X (v := 0) dL_law_254 (by decide) ?_
      exact absurd h zk_no01
  have B256 : ∀ (c18 : Int32 → zk_Z → Option (Int32 × zk_Z)) (hc18 : ∀ (a3 : Int32) (z : zk_Z), c18 a3 z = some (1, z') → zk_G p l e room_1 s m #[Value.ref b] below meth c E 4 103 1953 (lw_Z below #[Value.ref b] s) 18 [(0, .ref b), (1, .ref (E.2.1 0 0)), (2, .ref (E.2.1 20 0)), (3, .int a3)] [] z) (a3 : Int32) (z : zk_Z), fL_law_B256 xs L c18 a3 z = some (1, z') → zk_G p l e room_1 s m #[Value.ref b] below meth c E 4 103 1953 (lw_Z below #[Value.ref b] s) 256 [(0, .ref b), (1, .ref (E.2.1 0 0)), (2, .ref (E.2.1 20 0)), (3, .int a3)] [] z := by
    intro c18 hc18 a3 z h
    unfold fL_law_B256 at h
    refine zk_aload_n X 1 dL_law_256 rfl rfl ?_
    refine zk_aload_n X 0 dL_law_257 rfl rfl ?_
    refine zk_iload_n X 3 dL_law_258 rfl rfl ?_
    refine zk_iconst X (v := 1) dL_law_259 (by decide) ?_
    refine zk_iadd X dL_law_260 ?_
    refine zk_sld X hX hbl hbA dL_law_261 h (fun h => ?_)
    refine zk_aload_n X 0 dL_law_262 rfl rfl ?_
    refine zk_iload_n X 3 dL_law_263 rfl rfl ?_
    refine zk_iconst X (v := 2) dL_law_264 (by decide) ?_
    refine zk_iadd X dL_law_265 ?_
    refine zk_sld X hX hbl hbA dL_law_266 h (fun h => ?_)
    refine zk_vi X h (fun rr zz hf => ct_X8_recipeTold l E hi (xs (a3 + 1).toNatClampNeg) (xs (a3 + 2).toNatClampNeg) _ rr zz hf) (cwV 2 X.1.2.2.2.2 gL_law_X8_recipeTold rfl rfl rfl (by decide +kernel) ⟨Nat.le_of_ble_eq_true rfl, Nat.le_of_ble_eq_true rfl⟩) (zk_recv X (g := 0) (Nat.zero_lt_one) rfl rfl) rfl rfl (Nat.le_of_ble_eq_true rfl) dL_law_267 (fun r12 z11 h => ?_)
    refine zk_aload_n X 2 dL_law_270 rfl rfl ?_
    refine zk_aload_n X 0 dL_law_271 rfl rfl ?_
    refine zk_iload_n X 3 dL_law_272 rfl rfl ?_
    refine zk_iconst X (v := 1) dL_law_273 (by decide) ?_
    refine zk_iadd X dL_law_274 ?_
    refine zk_sld X hX hbl hbA dL_law_275 h (fun h => ?_)
    refine zk_aload_n X 0 dL_law_276 rfl rfl ?_
    refine zk_iload_n X 3 dL_law_277 rfl rfl ?_
    refine zk_iconst X (v := 2) dL_law_278 (by decide) ?_
    refine zk_iadd X dL_law_279 ?_
    refine zk_sld X hX hbl hbA dL_law_280 h (fun h => ?_)
    refine zk_vi X h (fun rr zz hf => ct_X9_recipeTold l E hi (xs (a3 + 1).toNatClampNeg) (xs (a3 + 2).toNatClampNeg) _ rr zz hf) (cwV 2 X.1.2.2.2.2 gL_law_X9_recipeTold rfl rfl rfl (by decide +kernel) ⟨Nat.le_of_ble_eq_true rfl, Nat.le_of_ble_eq_true rfl⟩) (zk_recv X (g := 20) (Nat.zero_lt_one) rfl rfl) rfl rfl (Nat.le_of_ble_eq_true rfl) dL_law_281 (fun r14 z13 h => ?_)
    refine zk_icmp_eq X (tgt := 1433) dL_law_284 (by decide) h (fun h => ?_) (fun h => ?_)
    · exact zk_sub [0, 1, 2, 3] rfl (B1433 _ hc18 _ _ h)
    · refine zk_iconst X (v := 0) dL_law_287 (by decide) ?_
      exact absurd h zk_no01
  have B289 : ∀ (c18 : Int32 → zk_Z → Option (Int32 × zk_Z)) (hc18 : ∀ (a3 : Int32) (z : zk_Z), c18 a3 z = some (1, z') → zk_G p l e room_1 s m #[Value.ref b] below meth c E 4 103 1953 (lw_Z below #[Value.ref b] s) 18 [(0, .ref b), (1, .ref (E.2.1 0 0)), (2, .ref (E.2.1 20 0)), (3, .int a3)] [] z) (a3 : Int32) (z : zk_Z), fL_law_B289 xs L c18 a3 z = some (1, z') → zk_G p l e room_1 s m #[Value.ref b] below meth c E 4 103 1953 (lw_Z below #[Value.ref b] s) 289 [(0, .ref b), (1, .ref (E.2.1 0 0)), (2, .ref (E.2.1 20 0)), (3, .int a3)] [] z := by
    intro c18 hc18 a3 z h
    unfold fL_law_B289 at h
    refine zk_aload_n X 1 dL_law_289 rfl rfl ?_
    refine zk_aload_n X 0 dL_law_290 rfl rfl ?_
    refine zk_iload_n X 3 dL_law_291 rfl rfl ?_
    refine zk_iconst X (v := 1) dL_law_292 (by decide) ?_
    refine zk_iadd X dL_law_293 ?_
    refine zk_sld X hX hbl hbA dL_law_294 h (fun h => ?_)
    refine zk_aload_n X 0 dL_law_295 rfl rfl ?_
    refine zk_iload_n X 3 dL_law_296 rfl rfl ?_
    refine zk_iconst X (v := 2) dL_law_297 (by decide) ?_
    refine zk_iadd X dL_law_298 ?_
    refine zk_sld X hX hbl hbA dL_law_299 h (fun h => ?_)
    refine zk_vi X h (fun rr zz hf => ct_X8_make l E hi (xs (a3 + 1).toNatClampNeg) (xs (a3 + 2).toNatClampNeg) _ rr zz hf) (cwV 2 X.1.2.2.2.2 gL_law_X8_make rfl rfl rfl (by decide +kernel) ⟨Nat.le_of_ble_eq_true rfl, Nat.le_of_ble_eq_true rfl⟩) (zk_recv X (g := 0) (Nat.zero_lt_one) rfl rfl) rfl rfl (Nat.le_of_ble_eq_true rfl) dL_law_300 (fun r17 z16 h => ?_)
    refine zk_aload_n X 2 dL_law_303 rfl rfl ?_
    refine zk_aload_n X 0 dL_law_304 rfl rfl ?_
    refine zk_iload_n X 3 dL_law_305 rfl rfl ?_
    refine zk_iconst X (v := 1) dL_law_306 (by decide) ?_
    refine zk_iadd X dL_law_307 ?_
    refine zk_sld X hX hbl hbA dL_law_308 h (fun h => ?_)
    refine zk_aload_n X 0 dL_law_309 rfl rfl ?_
    refine zk_iload_n X 3 dL_law_310 rfl rfl ?_
    refine zk_iconst X (v := 2) dL_law_311 (by decide) ?_
    refine zk_iadd X dL_law_312 ?_
    refine zk_sld X hX hbl hbA dL_law_313 h (fun h => ?_)
    refine zk_vi X h (fun rr zz hf => ct_X9_make l E hi (xs (a3 + 1).toNatClampNeg) (xs (a3 + 2).toNatClampNeg) _ rr zz hf) (cwV 2 X.1.2.2.2.2 gL_law_X9_make rfl rfl rfl (by decide +kernel) ⟨Nat.le_of_ble_eq_true rfl, Nat.le_of_ble_eq_true rfl⟩) (zk_recv X (g := 20) (Nat.zero_lt_one) rfl rfl) rfl rfl (Nat.le_of_ble_eq_true rfl) dL_law_314 (fun r19 z18 h => ?_)
    refine zk_icmp_eq X (tgt := 1433) dL_law_317 (by decide) h (fun h => ?_) (fun h => ?_)
    · exact zk_sub [0, 1, 2, 3] rfl (B1433 _ hc18 _ _ h)
    · refine zk_iconst X (v := 0) dL_law_320 (by decide) ?_
      exact absurd h zk_no01
  have B322 : ∀ (c18 : Int32 → zk_Z → Option (Int32 × zk_Z)) (hc18 : ∀ (a3 : Int32) (z : zk_Z), c18 a3 z = some (1, z') → zk_G p l e room_1 s m #[Value.ref b] below meth c E 4 103 1953 (lw_Z below #[Value.ref b] s) 18 [(0, .ref b), (1, .ref (E.2.1 0 0)), (2, .ref (E.2.1 20 0)), (3, .int a3)] [] z) (a3 : Int32) (z : zk_Z), fL_law_B322 xs L c18 a3 z = some (1, z') → zk_G p l e room_1 s m #[Value.ref b] below meth c E 4 103 1953 (lw_Z below #[Value.ref b] s) 322 [(0, .ref b), (1, .ref (E.2.1 0 0)), (2, .ref (E.2.1 20 0)), (3, .int a3)] [] z := by
    intro c18 hc18 a3 z h
    unfold fL_law_B322 at h
    refine zk_aload_n X 1 dL_law_322 rfl rfl ?_
    refine zk_aload_n X 0 dL_law_323 rfl rfl ?_
    refine zk_iload_n X 3 dL_law_324 rfl rfl ?_
    refine zk_iconst X (v := 1) dL_law_325 (by decide) ?_
    refine zk_iadd X dL_law_326 ?_
    refine zk_sld X hX hbl hbA dL_law_327 h (fun h => ?_)
    refine zk_aload_n X 0 dL_law_328 rfl rfl ?_
    refine zk_iload_n X 3 dL_law_329 rfl rfl ?_
    refine zk_iconst X (v := 2) dL_law_330 (by decide) ?_
    refine zk_iadd X dL_law_331 ?_
    refine zk_sld X hX hbl hbA dL_law_332 h (fun h => ?_)
    refine zk_aload_n X 0 dL_law_333 rfl rfl ?_
    refine zk_iload_n X 3 dL_law_334 rfl rfl ?_
    refine zk_iconst X (v := 3) dL_law_335 (by decide) ?_
    refine zk_iadd X dL_law_336 ?_
    refine zk_sld X hX hbl hbA dL_law_337 h (fun h => ?_)
    refine zk_vi X h (fun rr zz hf => ct_X8_wild l E hi (xs (a3 + 1).toNatClampNeg) (xs (a3 + 2).toNatClampNeg) (xs (a3 + 3).toNatClampNeg) _ rr zz hf) (cwV 3 X.1.2.2.2.2 gL_law_X8_wild rfl rfl rfl (by decide +kernel) ⟨Nat.le_of_ble_eq_true rfl, Nat.le_of_ble_eq_true rfl⟩) (zk_recv X (g := 0) (Nat.zero_lt_one) rfl rfl) rfl rfl (Nat.le_of_ble_eq_true rfl) dL_law_338 (fun r22 z21 h => ?_)
    refine zk_aload_n X 2 dL_law_341 rfl rfl ?_
    refine zk_aload_n X 0 dL_law_342 rfl rfl ?_
    refine zk_iload_n X 3 dL_law_343 rfl rfl ?_
    refine zk_iconst X (v := 1) dL_law_344 (by decide) ?_
    refine zk_iadd X dL_law_345 ?_
    refine zk_sld X hX hbl hbA dL_law_346 h (fun h => ?_)
    refine zk_aload_n X 0 dL_law_347 rfl rfl ?_
    refine zk_iload_n X 3 dL_law_348 rfl rfl ?_
    refine zk_iconst X (v := 2) dL_law_349 (by decide) ?_
    refine zk_iadd X dL_law_350 ?_
    refine zk_sld X hX hbl hbA dL_law_351 h (fun h => ?_)
    refine zk_aload_n X 0 dL_law_352 rfl rfl ?_
    refine zk_iload_n X 3 dL_law_353 rfl rfl ?_
    refine zk_iconst X (v := 3) dL_law_354 (by decide) ?_
    refine zk_iadd X dL_law_355 ?_
    refine zk_sld X hX hbl hbA dL_law_356 h (fun h => ?_)
    refine zk_vi X h (fun rr zz hf => ct_X9_wild l E hi (xs (a3 + 1).toNatClampNeg) (xs (a3 + 2).toNatClampNeg) (xs (a3 + 3).toNatClampNeg) _ rr zz hf) (cwV 3 X.1.2.2.2.2 gL_law_X9_wild rfl rfl rfl (by decide +kernel) ⟨Nat.le_of_ble_eq_true rfl, Nat.le_of_ble_eq_true rfl⟩) (zk_recv X (g := 20) (Nat.zero_lt_one) rfl rfl) rfl rfl (Nat.le_of_ble_eq_true rfl) dL_law_357 (fun r24 z23 h => ?_)
    refine zk_icmp_eq X (tgt := 1433) dL_law_360 (by decide) h (fun h => ?_) (fun h => ?_)
    · exact zk_sub [0, 1, 2, 3] rfl (B1433 _ hc18 _ _ h)
    · refine zk_iconst X (v := 0) dL_law_363 (by decide) ?_
      exact absurd h zk_no01
  have B365 : ∀ (c18 : Int32 → zk_Z → Option (Int32 × zk_Z)) (hc18 : ∀ (a3 : Int32) (z : zk_Z), c18 a3 z = some (1, z') → zk_G p l e room_1 s m #[Value.ref b] below meth c E 4 103 1953 (lw_Z below #[Value.ref b] s) 18 [(0, .ref b), (1, .ref (E.2.1 0 0)), (2, .ref (E.2.1 20 0)), (3, .int a3)] [] z) (a3 : Int32) (z : zk_Z), fL_law_B365 xs L c18 a3 z = some (1, z') → zk_G p l e room_1 s m #[Value.ref b] below meth c E 4 103 1953 (lw_Z below #[Value.ref b] s) 365 [(0, .ref b), (1, .ref (E.2.1 0 0)), (2, .ref (E.2.1 20 0)), (3, .int a3)] [] z := by
    intro c18 hc18 a3 z h
    unfold fL_law_B365 at h
    refine zk_aload_n X 1 dL_law_365 rfl rfl ?_
    refine zk_aload_n X 0 dL_law_366 rfl rfl ?_
    refine zk_iload_n X 3 dL_law_367 rfl rfl ?_
    refine zk_iconst X (v := 1) dL_law_368 (by decide) ?_
    refine zk_iadd X dL_law_369 ?_
    refine zk_sld X hX hbl hbA dL_law_370 h (fun h => ?_)
    refine zk_aload_n X 0 dL_law_371 rfl rfl ?_
    refine zk_iload_n X 3 dL_law_372 rfl rfl ?_
    refine zk_iconst X (v := 2) dL_law_373 (by decide) ?_
    refine zk_iadd X dL_law_374 ?_
    refine zk_sld X hX hbl hbA dL_law_375 h (fun h => ?_)
    refine zk_vi X h (fun rr zz hf => ct_X8_taskTold l E hi (xs (a3 + 1).toNatClampNeg) (xs (a3 + 2).toNatClampNeg) _ rr zz hf) (cwV 2 X.1.2.2.2.2 gL_law_X8_taskTold rfl rfl rfl (by decide +kernel) ⟨Nat.le_of_ble_eq_true rfl, Nat.le_of_ble_eq_true rfl⟩) (zk_recv X (g := 0) (Nat.zero_lt_one) rfl rfl) rfl rfl (Nat.le_of_ble_eq_true rfl) dL_law_376 (fun r27 z26 h => ?_)
    refine zk_aload_n X 2 dL_law_379 rfl rfl ?_
    refine zk_aload_n X 0 dL_law_380 rfl rfl ?_
    refine zk_iload_n X 3 dL_law_381 rfl rfl ?_
    refine zk_iconst X (v := 1) dL_law_382 (by decide) ?_
    refine zk_iadd X dL_law_383 ?_
    refine zk_sld X hX hbl hbA dL_law_384 h (fun h => ?_)
    refine zk_aload_n X 0 dL_law_385 rfl rfl ?_
    refine zk_iload_n X 3 dL_law_386 rfl rfl ?_
    refine zk_iconst X (v := 2) dL_law_387 (by decide) ?_
    refine zk_iadd X dL_law_388 ?_
    refine zk_sld X hX hbl hbA dL_law_389 h (fun h => ?_)
    refine zk_vi X h (fun rr zz hf => ct_X9_taskTold l E hi (xs (a3 + 1).toNatClampNeg) (xs (a3 + 2).toNatClampNeg) _ rr zz hf) (cwV 2 X.1.2.2.2.2 gL_law_X9_taskTold rfl rfl rfl (by decide +kernel) ⟨Nat.le_of_ble_eq_true rfl, Nat.le_of_ble_eq_true rfl⟩) (zk_recv X (g := 20) (Nat.zero_lt_one) rfl rfl) rfl rfl (Nat.le_of_ble_eq_true rfl) dL_law_390 (fun r29 z28 h => ?_)
    refine zk_icmp_eq X (tgt := 1433) dL_law_393 (by decide) h (fun h => ?_) (fun h => ?_)
    · exact zk_sub [0, 1, 2, 3] rfl (B1433 _ hc18 _ _ h)
    · refine zk_iconst X (v := 0) dL_law_396 (by decide) ?_
      exact absurd h zk_no01
  have B398 : ∀ (c18 : Int32 → zk_Z → Option (Int32 × zk_Z)) (hc18 : ∀ (a3 : Int32) (z : zk_Z), c18 a3 z = some (1, z') → zk_G p l e room_1 s m #[Value.ref b] below meth c E 4 103 1953 (lw_Z below #[Value.ref b] s) 18 [(0, .ref b), (1, .ref (E.2.1 0 0)), (2, .ref (E.2.1 20 0)), (3, .int a3)] [] z) (a3 : Int32) (z : zk_Z), fL_law_B398 xs L c18 a3 z = some (1, z') → zk_G p l e room_1 s m #[Value.ref b] below meth c E 4 103 1953 (lw_Z below #[Value.ref b] s) 398 [(0, .ref b), (1, .ref (E.2.1 0 0)), (2, .ref (E.2.1 20 0)), (3, .int a3)] [] z := by
    intro c18 hc18 a3 z h
    unfold fL_law_B398 at h
    refine zk_aload_n X 1 dL_law_398 rfl rfl ?_
    refine zk_aload_n X 0 dL_law_399 rfl rfl ?_
    refine zk_iload_n X 3 dL_law_400 rfl rfl ?_
    refine zk_iconst X (v := 1) dL_law_401 (by decide) ?_
    refine zk_iadd X dL_law_402 ?_
    refine zk_sld X hX hbl hbA dL_law_403 h (fun h => ?_)
    refine zk_aload_n X 0 dL_law_404 rfl rfl ?_
    refine zk_iload_n X 3 dL_law_405 rfl rfl ?_
    refine zk_iconst X (v := 2) dL_law_406 (by decide) ?_
    refine zk_iadd X dL_law_407 ?_
    refine zk_sld X hX hbl hbA dL_law_408 h (fun h => ?_)
    refine zk_aload_n X 0 dL_law_409 rfl rfl ?_
    refine zk_iload_n X 3 dL_law_410 rfl rfl ?_
    refine zk_iconst X (v := 3) dL_law_411 (by decide) ?_
    refine zk_iadd X dL_law_412 ?_
    refine zk_sld X hX hbl hbA dL_law_413 h (fun h => ?_)
    refine zk_vi X h (fun rr zz hf => ct_X8_clauseTold l E hi (xs (a3 + 1).toNatClampNeg) (xs (a3 + 2).toNatClampNeg) (xs (a3 + 3).toNatClampNeg) _ rr zz hf) (cwV 3 X.1.2.2.2.2 gL_law_X8_clauseTold rfl rfl rfl (by decide +kernel) ⟨Nat.le_of_ble_eq_true rfl, Nat.le_of_ble_eq_true rfl⟩) (zk_recv X (g := 0) (Nat.zero_lt_one) rfl rfl) rfl rfl (Nat.le_of_ble_eq_true rfl) dL_law_414 (fun r32 z31 h => ?_)
    refine zk_aload_n X 2 dL_law_417 rfl rfl ?_
    refine zk_aload_n X 0 dL_law_418 rfl rfl ?_
    refine zk_iload_n X 3 dL_law_419 rfl rfl ?_
    refine zk_iconst X (v := 1) dL_law_420 (by decide) ?_
    refine zk_iadd X dL_law_421 ?_
    refine zk_sld X hX hbl hbA dL_law_422 h (fun h => ?_)
    refine zk_aload_n X 0 dL_law_423 rfl rfl ?_
    refine zk_iload_n X 3 dL_law_424 rfl rfl ?_
    refine zk_iconst X (v := 2) dL_law_425 (by decide) ?_
    refine zk_iadd X dL_law_426 ?_
    refine zk_sld X hX hbl hbA dL_law_427 h (fun h => ?_)
    refine zk_aload_n X 0 dL_law_428 rfl rfl ?_
    refine zk_iload_n X 3 dL_law_429 rfl rfl ?_
    refine zk_iconst X (v := 3) dL_law_430 (by decide) ?_
    refine zk_iadd X dL_law_431 ?_
    refine zk_sld X hX hbl hbA dL_law_432 h (fun h => ?_)
    refine zk_vi X h (fun rr zz hf => ct_X9_clauseTold l E hi (xs (a3 + 1).toNatClampNeg) (xs (a3 + 2).toNatClampNeg) (xs (a3 + 3).toNatClampNeg) _ rr zz hf) (cwV 3 X.1.2.2.2.2 gL_law_X9_clauseTold rfl rfl rfl (by decide +kernel) ⟨Nat.le_of_ble_eq_true rfl, Nat.le_of_ble_eq_true rfl⟩) (zk_recv X (g := 20) (Nat.zero_lt_one) rfl rfl) rfl rfl (Nat.le_of_ble_eq_true rfl) dL_law_433 (fun r34 z33 h => ?_)
    refine zk_icmp_eq X (tgt := 1433) dL_law_436 (by decide) h (fun h => ?_) (fun h => ?_)
    · exact zk_sub [0, 1, 2, 3] rfl (B1433 _ hc18 _ _ h)
    · refine zk_iconst X (v := 0) dL_law_439 (by decide) ?_
      exact absurd h zk_no01
  have B441 : ∀ (c18 : Int32 → zk_Z → Option (Int32 × zk_Z)) (hc18 : ∀ (a3 : Int32) (z : zk_Z), c18 a3 z = some (1, z') → zk_G p l e room_1 s m #[Value.ref b] below meth c E 4 103 1953 (lw_Z below #[Value.ref b] s) 18 [(0, .ref b), (1, .ref (E.2.1 0 0)), (2, .ref (E.2.1 20 0)), (3, .int a3)] [] z) (a3 : Int32) (z : zk_Z), fL_law_B441 xs L c18 a3 z = some (1, z') → zk_G p l e room_1 s m #[Value.ref b] below meth c E 4 103 1953 (lw_Z below #[Value.ref b] s) 441 [(0, .ref b), (1, .ref (E.2.1 0 0)), (2, .ref (E.2.1 20 0)), (3, .int a3)] [] z := by
    intro c18 hc18 a3 z h
    unfold fL_law_B441 at h
    refine zk_aload_n X 1 dL_law_441 rfl rfl ?_
    refine zk_aload_n X 0 dL_law_442 rfl rfl ?_
    refine zk_iload_n X 3 dL_law_443 rfl rfl ?_
    refine zk_iconst X (v := 1) dL_law_444 (by decide) ?_
    refine zk_iadd X dL_law_445 ?_
    refine zk_sld X hX hbl hbA dL_law_446 h (fun h => ?_)
    refine zk_aload_n X 0 dL_law_447 rfl rfl ?_
    refine zk_iload_n X 3 dL_law_448 rfl rfl ?_
    refine zk_iconst X (v := 2) dL_law_449 (by decide) ?_
    refine zk_iadd X dL_law_450 ?_
    refine zk_sld X hX hbl hbA dL_law_451 h (fun h => ?_)
    refine zk_vi X h (fun rr zz hf => ct_X8_solves l E hi (xs (a3 + 1).toNatClampNeg) (xs (a3 + 2).toNatClampNeg) _ rr zz hf) (cwV 2 X.1.2.2.2.2 gL_law_X8_solves rfl rfl rfl (by decide +kernel) ⟨Nat.le_of_ble_eq_true rfl, Nat.le_of_ble_eq_true rfl⟩) (zk_recv X (g := 0) (Nat.zero_lt_one) rfl rfl) rfl rfl (Nat.le_of_ble_eq_true rfl) dL_law_452 (fun r37 z36 h => ?_)
    refine zk_aload_n X 2 dL_law_455 rfl rfl ?_
    refine zk_aload_n X 0 dL_law_456 rfl rfl ?_
    refine zk_iload_n X 3 dL_law_457 rfl rfl ?_
    refine zk_iconst X (v := 1) dL_law_458 (by decide) ?_
    refine zk_iadd X dL_law_459 ?_
    refine zk_sld X hX hbl hbA dL_law_460 h (fun h => ?_)
    refine zk_aload_n X 0 dL_law_461 rfl rfl ?_
    refine zk_iload_n X 3 dL_law_462 rfl rfl ?_
    refine zk_iconst X (v := 2) dL_law_463 (by decide) ?_
    refine zk_iadd X dL_law_464 ?_
    refine zk_sld X hX hbl hbA dL_law_465 h (fun h => ?_)
    refine zk_vi X h (fun rr zz hf => ct_X9_solves l E hi (xs (a3 + 1).toNatClampNeg) (xs (a3 + 2).toNatClampNeg) _ rr zz hf) (cwV 2 X.1.2.2.2.2 gL_law_X9_solves rfl rfl rfl (by decide +kernel) ⟨Nat.le_of_ble_eq_true rfl, Nat.le_of_ble_eq_true rfl⟩) (zk_recv X (g := 20) (Nat.zero_lt_one) rfl rfl) rfl rfl (Nat.le_of_ble_eq_true rfl) dL_law_466 (fun r39 z38 h => ?_)
    refine zk_icmp_eq X (tgt := 1433) dL_law_469 (by decide) h (fun h => ?_) (fun h => ?_)
    · exact zk_sub [0, 1, 2, 3] rfl (B1433 _ hc18 _ _ h)
    · refine zk_iconst X (v := 0) dL_law_472 (by decide) ?_
      exact absurd h zk_no01
  have B474 : ∀ (c18 : Int32 → zk_Z → Option (Int32 × zk_Z)) (hc18 : ∀ (a3 : Int32) (z : zk_Z), c18 a3 z = some (1, z') → zk_G p l e room_1 s m #[Value.ref b] below meth c E 4 103 1953 (lw_Z below #[Value.ref b] s) 18 [(0, .ref b), (1, .ref (E.2.1 0 0)), (2, .ref (E.2.1 20 0)), (3, .int a3)] [] z) (a3 : Int32) (z : zk_Z), fL_law_B474 xs L c18 a3 z = some (1, z') → zk_G p l e room_1 s m #[Value.ref b] below meth c E 4 103 1953 (lw_Z below #[Value.ref b] s) 474 [(0, .ref b), (1, .ref (E.2.1 0 0)), (2, .ref (E.2.1 20 0)), (3, .int a3)] [] z := by
    intro c18 hc18 a3 z h
    unfold fL_law_B474 at h
    refine zk_aload_n X 1 dL_law_474 rfl rfl ?_
    refine zk_aload_n X 0 dL_law_475 rfl rfl ?_
    refine zk_iload_n X 3 dL_law_476 rfl rfl ?_
    refine zk_iconst X (v := 1) dL_law_477 (by decide) ?_
    refine zk_iadd X dL_law_478 ?_
    refine zk_sld X hX hbl hbA dL_law_479 h (fun h => ?_)
    refine zk_aload_n X 0 dL_law_480 rfl rfl ?_
    refine zk_iload_n X 3 dL_law_481 rfl rfl ?_
    refine zk_iconst X (v := 2) dL_law_482 (by decide) ?_
    refine zk_iadd X dL_law_483 ?_
    refine zk_sld X hX hbl hbA dL_law_484 h (fun h => ?_)
    refine zk_aload_n X 0 dL_law_485 rfl rfl ?_
    refine zk_iload_n X 3 dL_law_486 rfl rfl ?_
    refine zk_iconst X (v := 3) dL_law_487 (by decide) ?_
    refine zk_iadd X dL_law_488 ?_
    refine zk_sld X hX hbl hbA dL_law_489 h (fun h => ?_)
    refine zk_vi X h (fun rr zz hf => ct_X8_answers l E hi (xs (a3 + 1).toNatClampNeg) (xs (a3 + 2).toNatClampNeg) (xs (a3 + 3).toNatClampNeg) _ rr zz hf) (cwV 3 X.1.2.2.2.2 gL_law_X8_answers rfl rfl rfl (by decide +kernel) ⟨Nat.le_of_ble_eq_true rfl, Nat.le_of_ble_eq_true rfl⟩) (zk_recv X (g := 0) (Nat.zero_lt_one) rfl rfl) rfl rfl (Nat.le_of_ble_eq_true rfl) dL_law_490 (fun r42 z41 h => ?_)
    refine zk_aload_n X 2 dL_law_493 rfl rfl ?_
    refine zk_aload_n X 0 dL_law_494 rfl rfl ?_
    refine zk_iload_n X 3 dL_law_495 rfl rfl ?_
    refine zk_iconst X (v := 1) dL_law_496 (by decide) ?_
    refine zk_iadd X dL_law_497 ?_
    refine zk_sld X hX hbl hbA dL_law_498 h (fun h => ?_)
    refine zk_aload_n X 0 dL_law_499 rfl rfl ?_
    refine zk_iload_n X 3 dL_law_500 rfl rfl ?_
    refine zk_iconst X (v := 2) dL_law_501 (by decide) ?_
    refine zk_iadd X dL_law_502 ?_
    refine zk_sld X hX hbl hbA dL_law_503 h (fun h => ?_)
    refine zk_aload_n X 0 dL_law_504 rfl rfl ?_
    refine zk_iload_n X 3 dL_law_505 rfl rfl ?_
    refine zk_iconst X (v := 3) dL_law_506 (by decide) ?_
    refine zk_iadd X dL_law_507 ?_
    refine zk_sld X hX hbl hbA dL_law_508 h (fun h => ?_)
    refine zk_vi X h (fun rr zz hf => ct_X9_answers l E hi (xs (a3 + 1).toNatClampNeg) (xs (a3 + 2).toNatClampNeg) (xs (a3 + 3).toNatClampNeg) _ rr zz hf) (cwV 3 X.1.2.2.2.2 gL_law_X9_answers rfl rfl rfl (by decide +kernel) ⟨Nat.le_of_ble_eq_true rfl, Nat.le_of_ble_eq_true rfl⟩) (zk_recv X (g := 20) (Nat.zero_lt_one) rfl rfl) rfl rfl (Nat.le_of_ble_eq_true rfl) dL_law_509 (fun r44 z43 h => ?_)
    refine zk_icmp_eq X (tgt := 1433) dL_law_512 (by decide) h (fun h => ?_) (fun h => ?_)
    · exact zk_sub [0, 1, 2, 3] rfl (B1433 _ hc18 _ _ h)
    · refine zk_iconst X (v := 0) dL_law_515 (by decide) ?_
      exact absurd h zk_no01
  have B517 : ∀ (c18 : Int32 → zk_Z → Option (Int32 × zk_Z)) (hc18 : ∀ (a3 : Int32) (z : zk_Z), c18 a3 z = some (1, z') → zk_G p l e room_1 s m #[Value.ref b] below meth c E 4 103 1953 (lw_Z below #[Value.ref b] s) 18 [(0, .ref b), (1, .ref (E.2.1 0 0)), (2, .ref (E.2.1 20 0)), (3, .int a3)] [] z) (a3 : Int32) (z : zk_Z), fL_law_B517 xs L c18 a3 z = some (1, z') → zk_G p l e room_1 s m #[Value.ref b] below meth c E 4 103 1953 (lw_Z below #[Value.ref b] s) 517 [(0, .ref b), (1, .ref (E.2.1 0 0)), (2, .ref (E.2.1 20 0)), (3, .int a3)] [] z := by
    intro c18 hc18 a3 z h
    unfold fL_law_B517 at h
    refine zk_aload_n X 1 dL_law_517 rfl rfl ?_
    refine zk_aload_n X 0 dL_law_518 rfl rfl ?_
    refine zk_iload_n X 3 dL_law_519 rfl rfl ?_
    refine zk_iconst X (v := 1) dL_law_520 (by decide) ?_
    refine zk_iadd X dL_law_521 ?_
    refine zk_sld X hX hbl hbA dL_law_522 h (fun h => ?_)
    refine zk_aload_n X 0 dL_law_523 rfl rfl ?_
    refine zk_iload_n X 3 dL_law_524 rfl rfl ?_
    refine zk_iconst X (v := 2) dL_law_525 (by decide) ?_
    refine zk_iadd X dL_law_526 ?_
    refine zk_sld X hX hbl hbA dL_law_527 h (fun h => ?_)
    refine zk_vi X h (fun rr zz hf => ct_X8_answer l E hi (xs (a3 + 1).toNatClampNeg) (xs (a3 + 2).toNatClampNeg) _ rr zz hf) (cwV 2 X.1.2.2.2.2 gL_law_X8_answer rfl rfl rfl (by decide +kernel) ⟨Nat.le_of_ble_eq_true rfl, Nat.le_of_ble_eq_true rfl⟩) (zk_recv X (g := 0) (Nat.zero_lt_one) rfl rfl) rfl rfl (Nat.le_of_ble_eq_true rfl) dL_law_528 (fun r47 z46 h => ?_)
    refine zk_aload_n X 2 dL_law_531 rfl rfl ?_
    refine zk_aload_n X 0 dL_law_532 rfl rfl ?_
    refine zk_iload_n X 3 dL_law_533 rfl rfl ?_
    refine zk_iconst X (v := 1) dL_law_534 (by decide) ?_
    refine zk_iadd X dL_law_535 ?_
    refine zk_sld X hX hbl hbA dL_law_536 h (fun h => ?_)
    refine zk_aload_n X 0 dL_law_537 rfl rfl ?_
    refine zk_iload_n X 3 dL_law_538 rfl rfl ?_
    refine zk_iconst X (v := 2) dL_law_539 (by decide) ?_
    refine zk_iadd X dL_law_540 ?_
    refine zk_sld X hX hbl hbA dL_law_541 h (fun h => ?_)
    refine zk_vi X h (fun rr zz hf => ct_X9_answer l E hi (xs (a3 + 1).toNatClampNeg) (xs (a3 + 2).toNatClampNeg) _ rr zz hf) (cwV 2 X.1.2.2.2.2 gL_law_X9_answer rfl rfl rfl (by decide +kernel) ⟨Nat.le_of_ble_eq_true rfl, Nat.le_of_ble_eq_true rfl⟩) (zk_recv X (g := 20) (Nat.zero_lt_one) rfl rfl) rfl rfl (Nat.le_of_ble_eq_true rfl) dL_law_542 (fun r49 z48 h => ?_)
    refine zk_icmp_eq X (tgt := 1433) dL_law_545 (by decide) h (fun h => ?_) (fun h => ?_)
    · exact zk_sub [0, 1, 2, 3] rfl (B1433 _ hc18 _ _ h)
    · refine zk_iconst X (v := 0) dL_law_548 (by decide) ?_
      exact absurd h zk_no01
  have B550 : ∀ (c18 : Int32 → zk_Z → Option (Int32 × zk_Z)) (hc18 : ∀ (a3 : Int32) (z : zk_Z), c18 a3 z = some (1, z') → zk_G p l e room_1 s m #[Value.ref b] below meth c E 4 103 1953 (lw_Z below #[Value.ref b] s) 18 [(0, .ref b), (1, .ref (E.2.1 0 0)), (2, .ref (E.2.1 20 0)), (3, .int a3)] [] z) (a3 : Int32) (z : zk_Z), fL_law_B550 xs L c18 a3 z = some (1, z') → zk_G p l e room_1 s m #[Value.ref b] below meth c E 4 103 1953 (lw_Z below #[Value.ref b] s) 550 [(0, .ref b), (1, .ref (E.2.1 0 0)), (2, .ref (E.2.1 20 0)), (3, .int a3)] [] z := by
    intro c18 hc18 a3 z h
    unfold fL_law_B550 at h
    refine zk_aload_n X 1 dL_law_550 rfl rfl ?_
    refine zk_aload_n X 0 dL_law_551 rfl rfl ?_
    refine zk_iload_n X 3 dL_law_552 rfl rfl ?_
    refine zk_iconst X (v := 1) dL_law_553 (by decide) ?_
    refine zk_iadd X dL_law_554 ?_
    refine zk_sld X hX hbl hbA dL_law_555 h (fun h => ?_)
    refine zk_aload_n X 0 dL_law_556 rfl rfl ?_
    refine zk_iload_n X 3 dL_law_557 rfl rfl ?_
    refine zk_iconst X (v := 2) dL_law_558 (by decide) ?_
    refine zk_iadd X dL_law_559 ?_
    refine zk_sld X hX hbl hbA dL_law_560 h (fun h => ?_)
    refine zk_vi X h (fun rr zz hf => ct_X8_nearest l E hi (xs (a3 + 1).toNatClampNeg) (xs (a3 + 2).toNatClampNeg) _ rr zz hf) (cwV 2 X.1.2.2.2.2 gL_law_X8_nearest rfl rfl rfl (by decide +kernel) ⟨Nat.le_of_ble_eq_true rfl, Nat.le_of_ble_eq_true rfl⟩) (zk_recv X (g := 0) (Nat.zero_lt_one) rfl rfl) rfl rfl (Nat.le_of_ble_eq_true rfl) dL_law_561 (fun r52 z51 h => ?_)
    refine zk_aload_n X 2 dL_law_564 rfl rfl ?_
    refine zk_aload_n X 0 dL_law_565 rfl rfl ?_
    refine zk_iload_n X 3 dL_law_566 rfl rfl ?_
    refine zk_iconst X (v := 1) dL_law_567 (by decide) ?_
    refine zk_iadd X dL_law_568 ?_
    refine zk_sld X hX hbl hbA dL_law_569 h (fun h => ?_)
    refine zk_aload_n X 0 dL_law_570 rfl rfl ?_
    refine zk_iload_n X 3 dL_law_571 rfl rfl ?_
    refine zk_iconst X (v := 2) dL_law_572 (by decide) ?_
    refine zk_iadd X dL_law_573 ?_
    refine zk_sld X hX hbl hbA dL_law_574 h (fun h => ?_)
    refine zk_vi X h (fun rr zz hf => ct_X9_nearest l E hi (xs (a3 + 1).toNatClampNeg) (xs (a3 + 2).toNatClampNeg) _ rr zz hf) (cwV 2 X.1.2.2.2.2 gL_law_X9_nearest rfl rfl rfl (by decide +kernel) ⟨Nat.le_of_ble_eq_true rfl, Nat.le_of_ble_eq_true rfl⟩) (zk_recv X (g := 20) (Nat.zero_lt_one) rfl rfl) rfl rfl (Nat.le_of_ble_eq_true rfl) dL_law_575 (fun r54 z53 h => ?_)
    refine zk_icmp_eq X (tgt := 1433) dL_law_578 (by decide) h (fun h => ?_) (fun h => ?_)
    · exact zk_sub [0, 1, 2, 3] rfl (B1433 _ hc18 _ _ h)
    · refine zk_iconst X (v := 0) dL_law_581 (by decide) ?_
      exact absurd h zk_no01
  have B583 : ∀ (c18 : Int32 → zk_Z → Option (Int32 × zk_Z)) (hc18 : ∀ (a3 : Int32) (z : zk_Z), c18 a3 z = some (1, z') → zk_G p l e room_1 s m #[Value.ref b] below meth c E 4 103 1953 (lw_Z below #[Value.ref b] s) 18 [(0, .ref b), (1, .ref (E.2.1 0 0)), (2, .ref (E.2.1 20 0)), (3, .int a3)] [] z) (a3 : Int32) (z : zk_Z), fL_law_B583 xs L c18 a3 z = some (1, z') → zk_G p l e room_1 s m #[Value.ref b] below meth c E 4 103 1953 (lw_Z below #[Value.ref b] s) 583 [(0, .ref b), (1, .ref (E.2.1 0 0)), (2, .ref (E.2.1 20 0)), (3, .int a3)] [] z := by
    intro c18 hc18 a3 z h
    unfold fL_law_B583 at h
    refine zk_aload_n X 1 dL_law_583 rfl rfl ?_
    refine zk_aload_n X 0 dL_law_584 rfl rfl ?_
    refine zk_iload_n X 3 dL_law_585 rfl rfl ?_
    refine zk_iconst X (v := 1) dL_law_586 (by decide) ?_
    refine zk_iadd X dL_law_587 ?_
    refine zk_sld X hX hbl hbA dL_law_588 h (fun h => ?_)
    refine zk_vi X h (fun rr zz hf => ct_X8_hint l E hi (xs (a3 + 1).toNatClampNeg) _ rr zz hf) (cwV 1 X.1.2.2.2.2 gL_law_X8_hint rfl rfl rfl (by decide +kernel) ⟨Nat.le_of_ble_eq_true rfl, Nat.le_of_ble_eq_true rfl⟩) (zk_recv X (g := 0) (Nat.zero_lt_one) rfl rfl) rfl rfl (Nat.le_of_ble_eq_true rfl) dL_law_589 (fun r57 z56 h => ?_)
    refine zk_aload_n X 2 dL_law_592 rfl rfl ?_
    refine zk_aload_n X 0 dL_law_593 rfl rfl ?_
    refine zk_iload_n X 3 dL_law_594 rfl rfl ?_
    refine zk_iconst X (v := 1) dL_law_595 (by decide) ?_
    refine zk_iadd X dL_law_596 ?_
    refine zk_sld X hX hbl hbA dL_law_597 h (fun h => ?_)
    refine zk_vi X h (fun rr zz hf => ct_X9_hint l E hi (xs (a3 + 1).toNatClampNeg) _ rr zz hf) (cwV 1 X.1.2.2.2.2 gL_law_X9_hint rfl rfl rfl (by decide +kernel) ⟨Nat.le_of_ble_eq_true rfl, Nat.le_of_ble_eq_true rfl⟩) (zk_recv X (g := 20) (Nat.zero_lt_one) rfl rfl) rfl rfl (Nat.le_of_ble_eq_true rfl) dL_law_598 (fun r59 z58 h => ?_)
    refine zk_icmp_eq X (tgt := 1433) dL_law_601 (by decide) h (fun h => ?_) (fun h => ?_)
    · exact zk_sub [0, 1, 2, 3] rfl (B1433 _ hc18 _ _ h)
    · refine zk_iconst X (v := 0) dL_law_604 (by decide) ?_
      exact absurd h zk_no01
  have B606 : ∀ (c18 : Int32 → zk_Z → Option (Int32 × zk_Z)) (hc18 : ∀ (a3 : Int32) (z : zk_Z), c18 a3 z = some (1, z') → zk_G p l e room_1 s m #[Value.ref b] below meth c E 4 103 1953 (lw_Z below #[Value.ref b] s) 18 [(0, .ref b), (1, .ref (E.2.1 0 0)), (2, .ref (E.2.1 20 0)), (3, .int a3)] [] z) (a3 : Int32) (z : zk_Z), fL_law_B606 xs L c18 a3 z = some (1, z') → zk_G p l e room_1 s m #[Value.ref b] below meth c E 4 103 1953 (lw_Z below #[Value.ref b] s) 606 [(0, .ref b), (1, .ref (E.2.1 0 0)), (2, .ref (E.2.1 20 0)), (3, .int a3)] [] z := by
    intro c18 hc18 a3 z h
    unfold fL_law_B606 at h
    refine zk_aload_n X 1 dL_law_606 rfl rfl ?_
    refine zk_aload_n X 0 dL_law_607 rfl rfl ?_
    refine zk_iload_n X 3 dL_law_608 rfl rfl ?_
    refine zk_iconst X (v := 1) dL_law_609 (by decide) ?_
    refine zk_iadd X dL_law_610 ?_
    refine zk_sld X hX hbl hbA dL_law_611 h (fun h => ?_)
    refine zk_vi X h (fun rr zz hf => ct_X8_needed l E hi (xs (a3 + 1).toNatClampNeg) _ rr zz hf) (cwV 1 X.1.2.2.2.2 gL_law_X8_needed rfl rfl rfl (by decide +kernel) ⟨Nat.le_of_ble_eq_true rfl, Nat.le_of_ble_eq_true rfl⟩) (zk_recv X (g := 0) (Nat.zero_lt_one) rfl rfl) rfl rfl (Nat.le_of_ble_eq_true rfl) dL_law_612 (fun r62 z61 h => ?_)
    refine zk_aload_n X 2 dL_law_615 rfl rfl ?_
    refine zk_aload_n X 0 dL_law_616 rfl rfl ?_
    refine zk_iload_n X 3 dL_law_617 rfl rfl ?_
    refine zk_iconst X (v := 1) dL_law_618 (by decide) ?_
    refine zk_iadd X dL_law_619 ?_
    refine zk_sld X hX hbl hbA dL_law_620 h (fun h => ?_)
    refine zk_vi X h (fun rr zz hf => ct_X9_needed l E hi (xs (a3 + 1).toNatClampNeg) _ rr zz hf) (cwV 1 X.1.2.2.2.2 gL_law_X9_needed rfl rfl rfl (by decide +kernel) ⟨Nat.le_of_ble_eq_true rfl, Nat.le_of_ble_eq_true rfl⟩) (zk_recv X (g := 20) (Nat.zero_lt_one) rfl rfl) rfl rfl (Nat.le_of_ble_eq_true rfl) dL_law_621 (fun r64 z63 h => ?_)
    refine zk_icmp_eq X (tgt := 1433) dL_law_624 (by decide) h (fun h => ?_) (fun h => ?_)
    · exact zk_sub [0, 1, 2, 3] rfl (B1433 _ hc18 _ _ h)
    · refine zk_iconst X (v := 0) dL_law_627 (by decide) ?_
      exact absurd h zk_no01
  have B629 : ∀ (c18 : Int32 → zk_Z → Option (Int32 × zk_Z)) (hc18 : ∀ (a3 : Int32) (z : zk_Z), c18 a3 z = some (1, z') → zk_G p l e room_1 s m #[Value.ref b] below meth c E 4 103 1953 (lw_Z below #[Value.ref b] s) 18 [(0, .ref b), (1, .ref (E.2.1 0 0)), (2, .ref (E.2.1 20 0)), (3, .int a3)] [] z) (a3 : Int32) (z : zk_Z), fL_law_B629 xs L c18 a3 z = some (1, z') → zk_G p l e room_1 s m #[Value.ref b] below meth c E 4 103 1953 (lw_Z below #[Value.ref b] s) 629 [(0, .ref b), (1, .ref (E.2.1 0 0)), (2, .ref (E.2.1 20 0)), (3, .int a3)] [] z := by
    intro c18 hc18 a3 z h
    unfold fL_law_B629 at h
    refine zk_aload_n X 1 dL_law_629 rfl rfl ?_
    refine zk_aload_n X 0 dL_law_630 rfl rfl ?_
    refine zk_iload_n X 3 dL_law_631 rfl rfl ?_
    refine zk_iconst X (v := 1) dL_law_632 (by decide) ?_
    refine zk_iadd X dL_law_633 ?_
    refine zk_sld X hX hbl hbA dL_law_634 h (fun h => ?_)
    refine zk_aload_n X 0 dL_law_635 rfl rfl ?_
    refine zk_iload_n X 3 dL_law_636 rfl rfl ?_
    refine zk_iconst X (v := 2) dL_law_637 (by decide) ?_
    refine zk_iadd X dL_law_638 ?_
    refine zk_sld X hX hbl hbA dL_law_639 h (fun h => ?_)
    refine zk_vi X h (fun rr zz hf => ct_X8_lean l E hi (xs (a3 + 1).toNatClampNeg) (xs (a3 + 2).toNatClampNeg) _ rr zz hf) (cwV 2 X.1.2.2.2.2 gL_law_X8_lean rfl rfl rfl (by decide +kernel) ⟨Nat.le_of_ble_eq_true rfl, Nat.le_of_ble_eq_true rfl⟩) (zk_recv X (g := 0) (Nat.zero_lt_one) rfl rfl) rfl rfl (Nat.le_of_ble_eq_true rfl) dL_law_640 (fun r67 z66 h => ?_)
    refine zk_aload_n X 2 dL_law_643 rfl rfl ?_
    refine zk_aload_n X 0 dL_law_644 rfl rfl ?_
    refine zk_iload_n X 3 dL_law_645 rfl rfl ?_
    refine zk_iconst X (v := 1) dL_law_646 (by decide) ?_
    refine zk_iadd X dL_law_647 ?_
    refine zk_sld X hX hbl hbA dL_law_648 h (fun h => ?_)
    refine zk_aload_n X 0 dL_law_649 rfl rfl ?_
    refine zk_iload_n X 3 dL_law_650 rfl rfl ?_
    refine zk_iconst X (v := 2) dL_law_651 (by decide) ?_
    refine zk_iadd X dL_law_652 ?_
    refine zk_sld X hX hbl hbA dL_law_653 h (fun h => ?_)
    refine zk_vi X h (fun rr zz hf => ct_X9_lean l E hi (xs (a3 + 1).toNatClampNeg) (xs (a3 + 2).toNatClampNeg) _ rr zz hf) (cwV 2 X.1.2.2.2.2 gL_law_X9_lean rfl rfl rfl (by decide +kernel) ⟨Nat.le_of_ble_eq_true rfl, Nat.le_of_ble_eq_true rfl⟩) (zk_recv X (g := 20) (Nat.zero_lt_one) rfl rfl) rfl rfl (Nat.le_of_ble_eq_true rfl) dL_law_654 (fun r69 z68 h => ?_)
    refine zk_icmp_eq X (tgt := 1433) dL_law_657 (by decide) h (fun h => ?_) (fun h => ?_)
    · exact zk_sub [0, 1, 2, 3] rfl (B1433 _ hc18 _ _ h)
    · refine zk_iconst X (v := 0) dL_law_660 (by decide) ?_
      exact absurd h zk_no01
  have B662 : ∀ (c18 : Int32 → zk_Z → Option (Int32 × zk_Z)) (hc18 : ∀ (a3 : Int32) (z : zk_Z), c18 a3 z = some (1, z') → zk_G p l e room_1 s m #[Value.ref b] below meth c E 4 103 1953 (lw_Z below #[Value.ref b] s) 18 [(0, .ref b), (1, .ref (E.2.1 0 0)), (2, .ref (E.2.1 20 0)), (3, .int a3)] [] z) (a3 : Int32) (z : zk_Z), fL_law_B662 xs L c18 a3 z = some (1, z') → zk_G p l e room_1 s m #[Value.ref b] below meth c E 4 103 1953 (lw_Z below #[Value.ref b] s) 662 [(0, .ref b), (1, .ref (E.2.1 0 0)), (2, .ref (E.2.1 20 0)), (3, .int a3)] [] z := by
    intro c18 hc18 a3 z h
    unfold fL_law_B662 at h
    refine zk_aload_n X 1 dL_law_662 rfl rfl ?_
    refine zk_aload_n X 0 dL_law_663 rfl rfl ?_
    refine zk_iload_n X 3 dL_law_664 rfl rfl ?_
    refine zk_iconst X (v := 1) dL_law_665 (by decide) ?_
    refine zk_iadd X dL_law_666 ?_
    refine zk_sld X hX hbl hbA dL_law_667 h (fun h => ?_)
    refine zk_aload_n X 0 dL_law_668 rfl rfl ?_
    refine zk_iload_n X 3 dL_law_669 rfl rfl ?_
    refine zk_iconst X (v := 2) dL_law_670 (by decide) ?_
    refine zk_iadd X dL_law_671 ?_
    refine zk_sld X hX hbl hbA dL_law_672 h (fun h => ?_)
    refine zk_vl X h (fun rr zz hf => ct_X8_leans l E hi (xs (a3 + 1).toNatClampNeg) (xs (a3 + 2).toNatClampNeg) _ rr zz hf) (cwV 2 X.1.2.2.2.2 gL_law_X8_leans rfl rfl rfl (by decide +kernel) ⟨Nat.le_of_ble_eq_true rfl, Nat.le_of_ble_eq_true rfl⟩) (zk_recv X (g := 0) (Nat.zero_lt_one) rfl rfl) rfl rfl (Nat.le_of_ble_eq_true rfl) dL_law_673 (fun r72 z71 h => ?_)
    refine zk_aload_n X 2 dL_law_676 rfl rfl ?_
    refine zk_aload_n X 0 dL_law_677 rfl rfl ?_
    refine zk_iload_n X 3 dL_law_678 rfl rfl ?_
    refine zk_iconst X (v := 1) dL_law_679 (by decide) ?_
    refine zk_iadd X dL_law_680 ?_
    refine zk_sld X hX hbl hbA dL_law_681 h (fun h => ?_)
    refine zk_aload_n X 0 dL_law_682 rfl rfl ?_
    refine zk_iload_n X 3 dL_law_683 rfl rfl ?_
    refine zk_iconst X (v := 2) dL_law_684 (by decide) ?_
    refine zk_iadd X dL_law_685 ?_
    refine zk_sld X hX hbl hbA dL_law_686 h (fun h => ?_)
    refine zk_vl X h (fun rr zz hf => ct_X9_leans l E hi (xs (a3 + 1).toNatClampNeg) (xs (a3 + 2).toNatClampNeg) _ rr zz hf) (cwV 2 X.1.2.2.2.2 gL_law_X9_leans rfl rfl rfl (by decide +kernel) ⟨Nat.le_of_ble_eq_true rfl, Nat.le_of_ble_eq_true rfl⟩) (zk_recv X (g := 20) (Nat.zero_lt_one) rfl rfl) rfl rfl (Nat.le_of_ble_eq_true rfl) dL_law_687 (fun r74 z73 h => ?_)
    refine zk_lcmp X dL_law_690 ?_
    refine zk_if_eq X (tgt := 1433) dL_law_691 (by decide) h (fun h => ?_) (fun h => ?_)
    · exact zk_sub [0, 1, 2, 3] rfl (B1433 _ hc18 _ _ h)
    · refine zk_iconst X (v := 0) dL_law_694 (by decide) ?_
      exact absurd h zk_no01
  have B696 : ∀ (c18 : Int32 → zk_Z → Option (Int32 × zk_Z)) (hc18 : ∀ (a3 : Int32) (z : zk_Z), c18 a3 z = some (1, z') → zk_G p l e room_1 s m #[Value.ref b] below meth c E 4 103 1953 (lw_Z below #[Value.ref b] s) 18 [(0, .ref b), (1, .ref (E.2.1 0 0)), (2, .ref (E.2.1 20 0)), (3, .int a3)] [] z) (a3 : Int32) (z : zk_Z), fL_law_B696 xs L c18 a3 z = some (1, z') → zk_G p l e room_1 s m #[Value.ref b] below meth c E 4 103 1953 (lw_Z below #[Value.ref b] s) 696 [(0, .ref b), (1, .ref (E.2.1 0 0)), (2, .ref (E.2.1 20 0)), (3, .int a3)] [] z := by
    intro c18 hc18 a3 z h
    unfold fL_law_B696 at h
    refine zk_aload_n X 1 dL_law_696 rfl rfl ?_
    refine zk_aload_n X 0 dL_law_697 rfl rfl ?_
    refine zk_iload_n X 3 dL_law_698 rfl rfl ?_
    refine zk_iconst X (v := 1) dL_law_699 (by decide) ?_
    refine zk_iadd X dL_law_700 ?_
    refine zk_sld X hX hbl hbA dL_law_701 h (fun h => ?_)
    refine zk_aload_n X 0 dL_law_702 rfl rfl ?_
    refine zk_iload_n X 3 dL_law_703 rfl rfl ?_
    refine zk_iconst X (v := 2) dL_law_704 (by decide) ?_
    refine zk_iadd X dL_law_705 ?_
    refine zk_sld X hX hbl hbA dL_law_706 h (fun h => ?_)
    refine zk_vl X h (fun rr zz hf => ct_X8_pairs l E hi (xs (a3 + 1).toNatClampNeg) (xs (a3 + 2).toNatClampNeg) _ rr zz hf) (cwV 2 X.1.2.2.2.2 gL_law_X8_pairs rfl rfl rfl (by decide +kernel) ⟨Nat.le_of_ble_eq_true rfl, Nat.le_of_ble_eq_true rfl⟩) (zk_recv X (g := 0) (Nat.zero_lt_one) rfl rfl) rfl rfl (Nat.le_of_ble_eq_true rfl) dL_law_707 (fun r77 z76 h => ?_)
    refine zk_aload_n X 2 dL_law_710 rfl rfl ?_
    refine zk_aload_n X 0 dL_law_711 rfl rfl ?_
    refine zk_iload_n X 3 dL_law_712 rfl rfl ?_
    refine zk_iconst X (v := 1) dL_law_713 (by decide) ?_
    refine zk_iadd X dL_law_714 ?_
    refine zk_sld X hX hbl hbA dL_law_715 h (fun h => ?_)
    refine zk_aload_n X 0 dL_law_716 rfl rfl ?_
    refine zk_iload_n X 3 dL_law_717 rfl rfl ?_
    refine zk_iconst X (v := 2) dL_law_718 (by decide) ?_
    refine zk_iadd X dL_law_719 ?_
    refine zk_sld X hX hbl hbA dL_law_720 h (fun h => ?_)
    refine zk_vl X h (fun rr zz hf => ct_X9_pairs l E hi (xs (a3 + 1).toNatClampNeg) (xs (a3 + 2).toNatClampNeg) _ rr zz hf) (cwV 2 X.1.2.2.2.2 gL_law_X9_pairs rfl rfl rfl (by decide +kernel) ⟨Nat.le_of_ble_eq_true rfl, Nat.le_of_ble_eq_true rfl⟩) (zk_recv X (g := 20) (Nat.zero_lt_one) rfl rfl) rfl rfl (Nat.le_of_ble_eq_true rfl) dL_law_721 (fun r79 z78 h => ?_)
    refine zk_lcmp X dL_law_724 ?_
    refine zk_if_eq X (tgt := 1433) dL_law_725 (by decide) h (fun h => ?_) (fun h => ?_)
    · exact zk_sub [0, 1, 2, 3] rfl (B1433 _ hc18 _ _ h)
    · refine zk_iconst X (v := 0) dL_law_728 (by decide) ?_
      exact absurd h zk_no01
  have B730 : ∀ (c18 : Int32 → zk_Z → Option (Int32 × zk_Z)) (hc18 : ∀ (a3 : Int32) (z : zk_Z), c18 a3 z = some (1, z') → zk_G p l e room_1 s m #[Value.ref b] below meth c E 4 103 1953 (lw_Z below #[Value.ref b] s) 18 [(0, .ref b), (1, .ref (E.2.1 0 0)), (2, .ref (E.2.1 20 0)), (3, .int a3)] [] z) (a3 : Int32) (z : zk_Z), fL_law_B730 xs L c18 a3 z = some (1, z') → zk_G p l e room_1 s m #[Value.ref b] below meth c E 4 103 1953 (lw_Z below #[Value.ref b] s) 730 [(0, .ref b), (1, .ref (E.2.1 0 0)), (2, .ref (E.2.1 20 0)), (3, .int a3)] [] z := by
    intro c18 hc18 a3 z h
    unfold fL_law_B730 at h
    refine zk_aload_n X 1 dL_law_730 rfl rfl ?_
    refine zk_aload_n X 0 dL_law_731 rfl rfl ?_
    refine zk_iload_n X 3 dL_law_732 rfl rfl ?_
    refine zk_iconst X (v := 1) dL_law_733 (by decide) ?_
    refine zk_iadd X dL_law_734 ?_
    refine zk_sld X hX hbl hbA dL_law_735 h (fun h => ?_)
    refine zk_vi X h (fun rr zz hf => ct_X8_balance l E hi (xs (a3 + 1).toNatClampNeg) _ rr zz hf) (cwV 1 X.1.2.2.2.2 gL_law_X8_balance rfl rfl rfl (by decide +kernel) ⟨Nat.le_of_ble_eq_true rfl, Nat.le_of_ble_eq_true rfl⟩) (zk_recv X (g := 0) (Nat.zero_lt_one) rfl rfl) rfl rfl (Nat.le_of_ble_eq_true rfl) dL_law_736 (fun r82 z81 h => ?_)
    refine zk_aload_n X 2 dL_law_739 rfl rfl ?_
    refine zk_aload_n X 0 dL_law_740 rfl rfl ?_
    refine zk_iload_n X 3 dL_law_741 rfl rfl ?_
    refine zk_iconst X (v := 1) dL_law_742 (by decide) ?_
    refine zk_iadd X dL_law_743 ?_
    refine zk_sld X hX hbl hbA dL_law_744 h (fun h => ?_)
    refine zk_vi X h (fun rr zz hf => ct_X9_balance l E hi (xs (a3 + 1).toNatClampNeg) _ rr zz hf) (cwV 1 X.1.2.2.2.2 gL_law_X9_balance rfl rfl rfl (by decide +kernel) ⟨Nat.le_of_ble_eq_true rfl, Nat.le_of_ble_eq_true rfl⟩) (zk_recv X (g := 20) (Nat.zero_lt_one) rfl rfl) rfl rfl (Nat.le_of_ble_eq_true rfl) dL_law_745 (fun r84 z83 h => ?_)
    refine zk_icmp_eq X (tgt := 1433) dL_law_748 (by decide) h (fun h => ?_) (fun h => ?_)
    · exact zk_sub [0, 1, 2, 3] rfl (B1433 _ hc18 _ _ h)
    · refine zk_iconst X (v := 0) dL_law_751 (by decide) ?_
      exact absurd h zk_no01
  have B753 : ∀ (c18 : Int32 → zk_Z → Option (Int32 × zk_Z)) (hc18 : ∀ (a3 : Int32) (z : zk_Z), c18 a3 z = some (1, z') → zk_G p l e room_1 s m #[Value.ref b] below meth c E 4 103 1953 (lw_Z below #[Value.ref b] s) 18 [(0, .ref b), (1, .ref (E.2.1 0 0)), (2, .ref (E.2.1 20 0)), (3, .int a3)] [] z) (a3 : Int32) (z : zk_Z), fL_law_B753 xs L c18 a3 z = some (1, z') → zk_G p l e room_1 s m #[Value.ref b] below meth c E 4 103 1953 (lw_Z below #[Value.ref b] s) 753 [(0, .ref b), (1, .ref (E.2.1 0 0)), (2, .ref (E.2.1 20 0)), (3, .int a3)] [] z := by
    intro c18 hc18 a3 z h
    unfold fL_law_B753 at h
    refine zk_aload_n X 1 dL_law_753 rfl rfl ?_
    refine zk_aload_n X 0 dL_law_754 rfl rfl ?_
    refine zk_iload_n X 3 dL_law_755 rfl rfl ?_
    refine zk_iconst X (v := 1) dL_law_756 (by decide) ?_
    refine zk_iadd X dL_law_757 ?_
    refine zk_sld X hX hbl hbA dL_law_758 h (fun h => ?_)
    refine zk_aload_n X 0 dL_law_759 rfl rfl ?_
    refine zk_iload_n X 3 dL_law_760 rfl rfl ?_
    refine zk_iconst X (v := 2) dL_law_761 (by decide) ?_
    refine zk_iadd X dL_law_762 ?_
    refine zk_sld X hX hbl hbA dL_law_763 h (fun h => ?_)
    refine zk_aload_n X 0 dL_law_764 rfl rfl ?_
    refine zk_iload_n X 3 dL_law_765 rfl rfl ?_
    refine zk_iconst X (v := 3) dL_law_766 (by decide) ?_
    refine zk_iadd X dL_law_767 ?_
    refine zk_sld X hX hbl hbA dL_law_768 h (fun h => ?_)
    refine zk_aload_n X 0 dL_law_769 rfl rfl ?_
    refine zk_iload_n X 3 dL_law_770 rfl rfl ?_
    refine zk_iconst X (v := 4) dL_law_771 (by decide) ?_
    refine zk_iadd X dL_law_772 ?_
    refine zk_sld X hX hbl hbA dL_law_773 h (fun h => ?_)
    refine zk_vi X h (fun rr zz hf => ct_X8_find l E hi (xs (a3 + 1).toNatClampNeg) (xs (a3 + 2).toNatClampNeg) (xs (a3 + 3).toNatClampNeg) (xs (a3 + 4).toNatClampNeg) _ rr zz hf) (cwV 4 X.1.2.2.2.2 gL_law_X8_find rfl rfl rfl (by decide +kernel) ⟨Nat.le_of_ble_eq_true rfl, Nat.le_of_ble_eq_true rfl⟩) (zk_recv X (g := 0) (Nat.zero_lt_one) rfl rfl) rfl rfl (Nat.le_of_ble_eq_true rfl) dL_law_774 (fun r87 z86 h => ?_)
    refine zk_aload_n X 2 dL_law_777 rfl rfl ?_
    refine zk_aload_n X 0 dL_law_778 rfl rfl ?_
    refine zk_iload_n X 3 dL_law_779 rfl rfl ?_
    refine zk_iconst X (v := 1) dL_law_780 (by decide) ?_
    refine zk_iadd X dL_law_781 ?_
    refine zk_sld X hX hbl hbA dL_law_782 h (fun h => ?_)
    refine zk_aload_n X 0 dL_law_783 rfl rfl ?_
    refine zk_iload_n X 3 dL_law_784 rfl rfl ?_
    refine zk_iconst X (v := 2) dL_law_785 (by decide) ?_
    refine zk_iadd X dL_law_786 ?_
    refine zk_sld X hX hbl hbA dL_law_787 h (fun h => ?_)
    refine zk_aload_n X 0 dL_law_788 rfl rfl ?_
    refine zk_iload_n X 3 dL_law_789 rfl rfl ?_
    refine zk_iconst X (v := 3) dL_law_790 (by decide) ?_
    refine zk_iadd X dL_law_791 ?_
    refine zk_sld X hX hbl hbA dL_law_792 h (fun h => ?_)
    refine zk_aload_n X 0 dL_law_793 rfl rfl ?_
    refine zk_iload_n X 3 dL_law_794 rfl rfl ?_
    refine zk_iconst X (v := 4) dL_law_795 (by decide) ?_
    refine zk_iadd X dL_law_796 ?_
    refine zk_sld X hX hbl hbA dL_law_797 h (fun h => ?_)
    refine zk_vi X h (fun rr zz hf => ct_X9_find l E hi (xs (a3 + 1).toNatClampNeg) (xs (a3 + 2).toNatClampNeg) (xs (a3 + 3).toNatClampNeg) (xs (a3 + 4).toNatClampNeg) _ rr zz hf) (cwV 4 X.1.2.2.2.2 gL_law_X9_find rfl rfl rfl (by decide +kernel) ⟨Nat.le_of_ble_eq_true rfl, Nat.le_of_ble_eq_true rfl⟩) (zk_recv X (g := 20) (Nat.zero_lt_one) rfl rfl) rfl rfl (Nat.le_of_ble_eq_true rfl) dL_law_798 (fun r89 z88 h => ?_)
    refine zk_icmp_eq X (tgt := 1433) dL_law_801 (by decide) h (fun h => ?_) (fun h => ?_)
    · exact zk_sub [0, 1, 2, 3] rfl (B1433 _ hc18 _ _ h)
    · refine zk_iconst X (v := 0) dL_law_804 (by decide) ?_
      exact absurd h zk_no01
  have B806 : ∀ (c18 : Int32 → zk_Z → Option (Int32 × zk_Z)) (hc18 : ∀ (a3 : Int32) (z : zk_Z), c18 a3 z = some (1, z') → zk_G p l e room_1 s m #[Value.ref b] below meth c E 4 103 1953 (lw_Z below #[Value.ref b] s) 18 [(0, .ref b), (1, .ref (E.2.1 0 0)), (2, .ref (E.2.1 20 0)), (3, .int a3)] [] z) (a3 : Int32) (z : zk_Z), fL_law_B806 xs L c18 a3 z = some (1, z') → zk_G p l e room_1 s m #[Value.ref b] below meth c E 4 103 1953 (lw_Z below #[Value.ref b] s) 806 [(0, .ref b), (1, .ref (E.2.1 0 0)), (2, .ref (E.2.1 20 0)), (3, .int a3)] [] z := by
    intro c18 hc18 a3 z h
    unfold fL_law_B806 at h
    refine zk_aload_n X 1 dL_law_806 rfl rfl ?_
    refine zk_aload_n X 0 dL_law_807 rfl rfl ?_
    refine zk_iload_n X 3 dL_law_808 rfl rfl ?_
    refine zk_iconst X (v := 1) dL_law_809 (by decide) ?_
    refine zk_iadd X dL_law_810 ?_
    refine zk_sld X hX hbl hbA dL_law_811 h (fun h => ?_)
    refine zk_aload_n X 0 dL_law_812 rfl rfl ?_
    refine zk_iload_n X 3 dL_law_813 rfl rfl ?_
    refine zk_iconst X (v := 2) dL_law_814 (by decide) ?_
    refine zk_iadd X dL_law_815 ?_
    refine zk_sld X hX hbl hbA dL_law_816 h (fun h => ?_)
    refine zk_aload_n X 0 dL_law_817 rfl rfl ?_
    refine zk_iload_n X 3 dL_law_818 rfl rfl ?_
    refine zk_iconst X (v := 3) dL_law_819 (by decide) ?_
    refine zk_iadd X dL_law_820 ?_
    refine zk_sld X hX hbl hbA dL_law_821 h (fun h => ?_)
    refine zk_aload_n X 0 dL_law_822 rfl rfl ?_
    refine zk_iload_n X 3 dL_law_823 rfl rfl ?_
    refine zk_iconst X (v := 4) dL_law_824 (by decide) ?_
    refine zk_iadd X dL_law_825 ?_
    refine zk_sld X hX hbl hbA dL_law_826 h (fun h => ?_)
    refine zk_aload_n X 0 dL_law_827 rfl rfl ?_
    refine zk_iload_n X 3 dL_law_828 rfl rfl ?_
    refine zk_iconst X (v := 5) dL_law_829 (by decide) ?_
    refine zk_iadd X dL_law_830 ?_
    refine zk_sld X hX hbl hbA dL_law_831 h (fun h => ?_)
    refine zk_aload_n X 0 dL_law_832 rfl rfl ?_
    refine zk_iload_n X 3 dL_law_833 rfl rfl ?_
    refine zk_bipush X (v := 6) dL_law_834 (by decide) ?_
    refine zk_iadd X dL_law_836 ?_
    refine zk_sld X hX hbl hbA dL_law_837 h (fun h => ?_)
    refine zk_vi X h (fun rr zz hf => ct_X8_heap l E hi (xs (a3 + 1).toNatClampNeg) (xs (a3 + 2).toNatClampNeg) (xs (a3 + 3).toNatClampNeg) (xs (a3 + 4).toNatClampNeg) (xs (a3 + 5).toNatClampNeg) (xs (a3 + 6).toNatClampNeg) _ rr zz hf) (cwV 6 X.1.2.2.2.2 gL_law_X8_heap rfl rfl rfl (by decide +kernel) ⟨Nat.le_of_ble_eq_true rfl, Nat.le_of_ble_eq_true rfl⟩) (zk_recv X (g := 0) (Nat.zero_lt_one) rfl rfl) rfl rfl (Nat.le_of_ble_eq_true rfl) dL_law_838 (fun r92 z91 h => ?_)
    refine zk_aload_n X 2 dL_law_841 rfl rfl ?_
    refine zk_aload_n X 0 dL_law_842 rfl rfl ?_
    refine zk_iload_n X 3 dL_law_843 rfl rfl ?_
    refine zk_iconst X (v := 1) dL_law_844 (by decide) ?_
    refine zk_iadd X dL_law_845 ?_
    refine zk_sld X hX hbl hbA dL_law_846 h (fun h => ?_)
    refine zk_aload_n X 0 dL_law_847 rfl rfl ?_
    refine zk_iload_n X 3 dL_law_848 rfl rfl ?_
    refine zk_iconst X (v := 2) dL_law_849 (by decide) ?_
    refine zk_iadd X dL_law_850 ?_
    refine zk_sld X hX hbl hbA dL_law_851 h (fun h => ?_)
    refine zk_aload_n X 0 dL_law_852 rfl rfl ?_
    refine zk_iload_n X 3 dL_law_853 rfl rfl ?_
    refine zk_iconst X (v := 3) dL_law_854 (by decide) ?_
    refine zk_iadd X dL_law_855 ?_
    refine zk_sld X hX hbl hbA dL_law_856 h (fun h => ?_)
    refine zk_aload_n X 0 dL_law_857 rfl rfl ?_
    refine zk_iload_n X 3 dL_law_858 rfl rfl ?_
    refine zk_iconst X (v := 4) dL_law_859 (by decide) ?_
    refine zk_iadd X dL_law_860 ?_
    refine zk_sld X hX hbl hbA dL_law_861 h (fun h => ?_)
    refine zk_aload_n X 0 dL_law_862 rfl rfl ?_
    refine zk_iload_n X 3 dL_law_863 rfl rfl ?_
    refine zk_iconst X (v := 5) dL_law_864 (by decide) ?_
    refine zk_iadd X dL_law_865 ?_
    refine zk_sld X hX hbl hbA dL_law_866 h (fun h => ?_)
    refine zk_aload_n X 0 dL_law_867 rfl rfl ?_
    refine zk_iload_n X 3 dL_law_868 rfl rfl ?_
    refine zk_bipush X (v := 6) dL_law_869 (by decide) ?_
    refine zk_iadd X dL_law_871 ?_
    refine zk_sld X hX hbl hbA dL_law_872 h (fun h => ?_)
    refine zk_vi X h (fun rr zz hf => ct_X9_heap l E hi (xs (a3 + 1).toNatClampNeg) (xs (a3 + 2).toNatClampNeg) (xs (a3 + 3).toNatClampNeg) (xs (a3 + 4).toNatClampNeg) (xs (a3 + 5).toNatClampNeg) (xs (a3 + 6).toNatClampNeg) _ rr zz hf) (cwV 6 X.1.2.2.2.2 gL_law_X9_heap rfl rfl rfl (by decide +kernel) ⟨Nat.le_of_ble_eq_true rfl, Nat.le_of_ble_eq_true rfl⟩) (zk_recv X (g := 20) (Nat.zero_lt_one) rfl rfl) rfl rfl (Nat.le_of_ble_eq_true rfl) dL_law_873 (fun r94 z93 h => ?_)
    refine zk_icmp_eq X (tgt := 1433) dL_law_876 (by decide) h (fun h => ?_) (fun h => ?_)
    · exact zk_sub [0, 1, 2, 3] rfl (B1433 _ hc18 _ _ h)
    · refine zk_iconst X (v := 0) dL_law_879 (by decide) ?_
      exact absurd h zk_no01
  have B881 : ∀ (c18 : Int32 → zk_Z → Option (Int32 × zk_Z)) (hc18 : ∀ (a3 : Int32) (z : zk_Z), c18 a3 z = some (1, z') → zk_G p l e room_1 s m #[Value.ref b] below meth c E 4 103 1953 (lw_Z below #[Value.ref b] s) 18 [(0, .ref b), (1, .ref (E.2.1 0 0)), (2, .ref (E.2.1 20 0)), (3, .int a3)] [] z) (a3 : Int32) (z : zk_Z), fL_law_B881 xs L c18 a3 z = some (1, z') → zk_G p l e room_1 s m #[Value.ref b] below meth c E 4 103 1953 (lw_Z below #[Value.ref b] s) 881 [(0, .ref b), (1, .ref (E.2.1 0 0)), (2, .ref (E.2.1 20 0)), (3, .int a3)] [] z := by
    intro c18 hc18 a3 z h
    unfold fL_law_B881 at h
    refine zk_aload_n X 1 dL_law_881 rfl rfl ?_
    refine zk_aload_n X 0 dL_law_882 rfl rfl ?_
    refine zk_iload_n X 3 dL_law_883 rfl rfl ?_
    refine zk_iconst X (v := 1) dL_law_884 (by decide) ?_
    refine zk_iadd X dL_law_885 ?_
    refine zk_sld X hX hbl hbA dL_law_886 h (fun h => ?_)
    refine zk_aload_n X 0 dL_law_887 rfl rfl ?_
    refine zk_iload_n X 3 dL_law_888 rfl rfl ?_
    refine zk_iconst X (v := 2) dL_law_889 (by decide) ?_
    refine zk_iadd X dL_law_890 ?_
    refine zk_sld X hX hbl hbA dL_law_891 h (fun h => ?_)
    refine zk_aload_n X 0 dL_law_892 rfl rfl ?_
    refine zk_iload_n X 3 dL_law_893 rfl rfl ?_
    refine zk_iconst X (v := 3) dL_law_894 (by decide) ?_
    refine zk_iadd X dL_law_895 ?_
    refine zk_sld X hX hbl hbA dL_law_896 h (fun h => ?_)
    refine zk_aload_n X 0 dL_law_897 rfl rfl ?_
    refine zk_iload_n X 3 dL_law_898 rfl rfl ?_
    refine zk_iconst X (v := 4) dL_law_899 (by decide) ?_
    refine zk_iadd X dL_law_900 ?_
    refine zk_sld X hX hbl hbA dL_law_901 h (fun h => ?_)
    refine zk_aload_n X 0 dL_law_902 rfl rfl ?_
    refine zk_iload_n X 3 dL_law_903 rfl rfl ?_
    refine zk_iconst X (v := 5) dL_law_904 (by decide) ?_
    refine zk_iadd X dL_law_905 ?_
    refine zk_sld X hX hbl hbA dL_law_906 h (fun h => ?_)
    refine zk_vi X h (fun rr zz hf => ct_X8_apart l E hi (xs (a3 + 1).toNatClampNeg) (xs (a3 + 2).toNatClampNeg) (xs (a3 + 3).toNatClampNeg) (xs (a3 + 4).toNatClampNeg) (xs (a3 + 5).toNatClampNeg) _ rr zz hf) (cwV 5 X.1.2.2.2.2 gL_law_X8_apart rfl rfl rfl (by decide +kernel) ⟨Nat.le_of_ble_eq_true rfl, Nat.le_of_ble_eq_true rfl⟩) (zk_recv X (g := 0) (Nat.zero_lt_one) rfl rfl) rfl rfl (Nat.le_of_ble_eq_true rfl) dL_law_907 (fun r97 z96 h => ?_)
    refine zk_aload_n X 2 dL_law_910 rfl rfl ?_
    refine zk_aload_n X 0 dL_law_911 rfl rfl ?_
    refine zk_iload_n X 3 dL_law_912 rfl rfl ?_
    refine zk_iconst X (v := 1) dL_law_913 (by decide) ?_
    refine zk_iadd X dL_law_914 ?_
    refine zk_sld X hX hbl hbA dL_law_915 h (fun h => ?_)
    refine zk_aload_n X 0 dL_law_916 rfl rfl ?_
    refine zk_iload_n X 3 dL_law_917 rfl rfl ?_
    refine zk_iconst X (v := 2) dL_law_918 (by decide) ?_
    refine zk_iadd X dL_law_919 ?_
    refine zk_sld X hX hbl hbA dL_law_920 h (fun h => ?_)
    refine zk_aload_n X 0 dL_law_921 rfl rfl ?_
    refine zk_iload_n X 3 dL_law_922 rfl rfl ?_
    refine zk_iconst X (v := 3) dL_law_923 (by decide) ?_
    refine zk_iadd X dL_law_924 ?_
    refine zk_sld X hX hbl hbA dL_law_925 h (fun h => ?_)
    refine zk_aload_n X 0 dL_law_926 rfl rfl ?_
    refine zk_iload_n X 3 dL_law_927 rfl rfl ?_
    refine zk_iconst X (v := 4) dL_law_928 (by decide) ?_
    refine zk_iadd X dL_law_929 ?_
    refine zk_sld X hX hbl hbA dL_law_930 h (fun h => ?_)
    refine zk_aload_n X 0 dL_law_931 rfl rfl ?_
    refine zk_iload_n X 3 dL_law_932 rfl rfl ?_
    refine zk_iconst X (v := 5) dL_law_933 (by decide) ?_
    refine zk_iadd X dL_law_934 ?_
    refine zk_sld X hX hbl hbA dL_law_935 h (fun h => ?_)
    refine zk_vi X h (fun rr zz hf => ct_X9_apart l E hi (xs (a3 + 1).toNatClampNeg) (xs (a3 + 2).toNatClampNeg) (xs (a3 + 3).toNatClampNeg) (xs (a3 + 4).toNatClampNeg) (xs (a3 + 5).toNatClampNeg) _ rr zz hf) (cwV 5 X.1.2.2.2.2 gL_law_X9_apart rfl rfl rfl (by decide +kernel) ⟨Nat.le_of_ble_eq_true rfl, Nat.le_of_ble_eq_true rfl⟩) (zk_recv X (g := 20) (Nat.zero_lt_one) rfl rfl) rfl rfl (Nat.le_of_ble_eq_true rfl) dL_law_936 (fun r99 z98 h => ?_)
    refine zk_icmp_eq X (tgt := 1433) dL_law_939 (by decide) h (fun h => ?_) (fun h => ?_)
    · exact zk_sub [0, 1, 2, 3] rfl (B1433 _ hc18 _ _ h)
    · refine zk_iconst X (v := 0) dL_law_942 (by decide) ?_
      exact absurd h zk_no01
  have B944 : ∀ (c18 : Int32 → zk_Z → Option (Int32 × zk_Z)) (hc18 : ∀ (a3 : Int32) (z : zk_Z), c18 a3 z = some (1, z') → zk_G p l e room_1 s m #[Value.ref b] below meth c E 4 103 1953 (lw_Z below #[Value.ref b] s) 18 [(0, .ref b), (1, .ref (E.2.1 0 0)), (2, .ref (E.2.1 20 0)), (3, .int a3)] [] z) (a3 : Int32) (z : zk_Z), fL_law_B944 xs L c18 a3 z = some (1, z') → zk_G p l e room_1 s m #[Value.ref b] below meth c E 4 103 1953 (lw_Z below #[Value.ref b] s) 944 [(0, .ref b), (1, .ref (E.2.1 0 0)), (2, .ref (E.2.1 20 0)), (3, .int a3)] [] z := by
    intro c18 hc18 a3 z h
    unfold fL_law_B944 at h
    refine zk_aload_n X 1 dL_law_944 rfl rfl ?_
    refine zk_aload_n X 0 dL_law_945 rfl rfl ?_
    refine zk_iload_n X 3 dL_law_946 rfl rfl ?_
    refine zk_iconst X (v := 1) dL_law_947 (by decide) ?_
    refine zk_iadd X dL_law_948 ?_
    refine zk_sld X hX hbl hbA dL_law_949 h (fun h => ?_)
    refine zk_aload_n X 0 dL_law_950 rfl rfl ?_
    refine zk_iload_n X 3 dL_law_951 rfl rfl ?_
    refine zk_iconst X (v := 2) dL_law_952 (by decide) ?_
    refine zk_iadd X dL_law_953 ?_
    refine zk_sld X hX hbl hbA dL_law_954 h (fun h => ?_)
    refine zk_aload_n X 0 dL_law_955 rfl rfl ?_
    refine zk_iload_n X 3 dL_law_956 rfl rfl ?_
    refine zk_iconst X (v := 3) dL_law_957 (by decide) ?_
    refine zk_iadd X dL_law_958 ?_
    refine zk_sld X hX hbl hbA dL_law_959 h (fun h => ?_)
    refine zk_vi X h (fun rr zz hf => ct_X8_twin l E hi (xs (a3 + 1).toNatClampNeg) (xs (a3 + 2).toNatClampNeg) (xs (a3 + 3).toNatClampNeg) _ rr zz hf) (cwV 3 X.1.2.2.2.2 gL_law_X8_twin rfl rfl rfl (by decide +kernel) ⟨Nat.le_of_ble_eq_true rfl, Nat.le_of_ble_eq_true rfl⟩) (zk_recv X (g := 0) (Nat.zero_lt_one) rfl rfl) rfl rfl (Nat.le_of_ble_eq_true rfl) dL_law_960 (fun r102 z101 h => ?_)
    refine zk_aload_n X 2 dL_law_963 rfl rfl ?_
    refine zk_aload_n X 0 dL_law_964 rfl rfl ?_
    refine zk_iload_n X 3 dL_law_965 rfl rfl ?_
    refine zk_iconst X (v := 1) dL_law_966 (by decide) ?_
    refine zk_iadd X dL_law_967 ?_
    refine zk_sld X hX hbl hbA dL_law_968 h (fun h => ?_)
    refine zk_aload_n X 0 dL_law_969 rfl rfl ?_
    refine zk_iload_n X 3 dL_law_970 rfl rfl ?_
    refine zk_iconst X (v := 2) dL_law_971 (by decide) ?_
    refine zk_iadd X dL_law_972 ?_
    refine zk_sld X hX hbl hbA dL_law_973 h (fun h => ?_)
    refine zk_aload_n X 0 dL_law_974 rfl rfl ?_
    refine zk_iload_n X 3 dL_law_975 rfl rfl ?_
    refine zk_iconst X (v := 3) dL_law_976 (by decide) ?_
    refine zk_iadd X dL_law_977 ?_
    refine zk_sld X hX hbl hbA dL_law_978 h (fun h => ?_)
    refine zk_vi X h (fun rr zz hf => ct_X9_twin l E hi (xs (a3 + 1).toNatClampNeg) (xs (a3 + 2).toNatClampNeg) (xs (a3 + 3).toNatClampNeg) _ rr zz hf) (cwV 3 X.1.2.2.2.2 gL_law_X9_twin rfl rfl rfl (by decide +kernel) ⟨Nat.le_of_ble_eq_true rfl, Nat.le_of_ble_eq_true rfl⟩) (zk_recv X (g := 20) (Nat.zero_lt_one) rfl rfl) rfl rfl (Nat.le_of_ble_eq_true rfl) dL_law_979 (fun r104 z103 h => ?_)
    refine zk_icmp_eq X (tgt := 1433) dL_law_982 (by decide) h (fun h => ?_) (fun h => ?_)
    · exact zk_sub [0, 1, 2, 3] rfl (B1433 _ hc18 _ _ h)
    · refine zk_iconst X (v := 0) dL_law_985 (by decide) ?_
      exact absurd h zk_no01
  have B987 : ∀ (c18 : Int32 → zk_Z → Option (Int32 × zk_Z)) (hc18 : ∀ (a3 : Int32) (z : zk_Z), c18 a3 z = some (1, z') → zk_G p l e room_1 s m #[Value.ref b] below meth c E 4 103 1953 (lw_Z below #[Value.ref b] s) 18 [(0, .ref b), (1, .ref (E.2.1 0 0)), (2, .ref (E.2.1 20 0)), (3, .int a3)] [] z) (a3 : Int32) (z : zk_Z), fL_law_B987 xs L c18 a3 z = some (1, z') → zk_G p l e room_1 s m #[Value.ref b] below meth c E 4 103 1953 (lw_Z below #[Value.ref b] s) 987 [(0, .ref b), (1, .ref (E.2.1 0 0)), (2, .ref (E.2.1 20 0)), (3, .int a3)] [] z := by
    intro c18 hc18 a3 z h
    unfold fL_law_B987 at h
    refine zk_aload_n X 1 dL_law_987 rfl rfl ?_
    refine zk_aload_n X 0 dL_law_988 rfl rfl ?_
    refine zk_iload_n X 3 dL_law_989 rfl rfl ?_
    refine zk_iconst X (v := 1) dL_law_990 (by decide) ?_
    refine zk_iadd X dL_law_991 ?_
    refine zk_sld X hX hbl hbA dL_law_992 h (fun h => ?_)
    refine zk_aload_n X 0 dL_law_993 rfl rfl ?_
    refine zk_iload_n X 3 dL_law_994 rfl rfl ?_
    refine zk_iconst X (v := 2) dL_law_995 (by decide) ?_
    refine zk_iadd X dL_law_996 ?_
    refine zk_sld X hX hbl hbA dL_law_997 h (fun h => ?_)
    refine zk_vi X h (fun rr zz hf => ct_X8_claim l E hi (xs (a3 + 1).toNatClampNeg) (xs (a3 + 2).toNatClampNeg) _ rr zz hf) (cwV 2 X.1.2.2.2.2 gL_law_X8_claim rfl rfl rfl (by decide +kernel) ⟨Nat.le_of_ble_eq_true rfl, Nat.le_of_ble_eq_true rfl⟩) (zk_recv X (g := 0) (Nat.zero_lt_one) rfl rfl) rfl rfl (Nat.le_of_ble_eq_true rfl) dL_law_998 (fun r107 z106 h => ?_)
    refine zk_aload_n X 2 dL_law_1001 rfl rfl ?_
    refine zk_aload_n X 0 dL_law_1002 rfl rfl ?_
    refine zk_iload_n X 3 dL_law_1003 rfl rfl ?_
    refine zk_iconst X (v := 1) dL_law_1004 (by decide) ?_
    refine zk_iadd X dL_law_1005 ?_
    refine zk_sld X hX hbl hbA dL_law_1006 h (fun h => ?_)
    refine zk_aload_n X 0 dL_law_1007 rfl rfl ?_
    refine zk_iload_n X 3 dL_law_1008 rfl rfl ?_
    refine zk_iconst X (v := 2) dL_law_1009 (by decide) ?_
    refine zk_iadd X dL_law_1010 ?_
    refine zk_sld X hX hbl hbA dL_law_1011 h (fun h => ?_)
    refine zk_vi X h (fun rr zz hf => ct_X9_claim l E hi (xs (a3 + 1).toNatClampNeg) (xs (a3 + 2).toNatClampNeg) _ rr zz hf) (cwV 2 X.1.2.2.2.2 gL_law_X9_claim rfl rfl rfl (by decide +kernel) ⟨Nat.le_of_ble_eq_true rfl, Nat.le_of_ble_eq_true rfl⟩) (zk_recv X (g := 20) (Nat.zero_lt_one) rfl rfl) rfl rfl (Nat.le_of_ble_eq_true rfl) dL_law_1012 (fun r109 z108 h => ?_)
    refine zk_icmp_eq X (tgt := 1433) dL_law_1015 (by decide) h (fun h => ?_) (fun h => ?_)
    · exact zk_sub [0, 1, 2, 3] rfl (B1433 _ hc18 _ _ h)
    · refine zk_iconst X (v := 0) dL_law_1018 (by decide) ?_
      exact absurd h zk_no01
  have B1020 : ∀ (c18 : Int32 → zk_Z → Option (Int32 × zk_Z)) (hc18 : ∀ (a3 : Int32) (z : zk_Z), c18 a3 z = some (1, z') → zk_G p l e room_1 s m #[Value.ref b] below meth c E 4 103 1953 (lw_Z below #[Value.ref b] s) 18 [(0, .ref b), (1, .ref (E.2.1 0 0)), (2, .ref (E.2.1 20 0)), (3, .int a3)] [] z) (a3 : Int32) (z : zk_Z), fL_law_B1020 xs L c18 a3 z = some (1, z') → zk_G p l e room_1 s m #[Value.ref b] below meth c E 4 103 1953 (lw_Z below #[Value.ref b] s) 1020 [(0, .ref b), (1, .ref (E.2.1 0 0)), (2, .ref (E.2.1 20 0)), (3, .int a3)] [] z := by
    intro c18 hc18 a3 z h
    unfold fL_law_B1020 at h
    refine zk_aload_n X 1 dL_law_1020 rfl rfl ?_
    refine zk_aload_n X 0 dL_law_1021 rfl rfl ?_
    refine zk_iload_n X 3 dL_law_1022 rfl rfl ?_
    refine zk_iconst X (v := 1) dL_law_1023 (by decide) ?_
    refine zk_iadd X dL_law_1024 ?_
    refine zk_sld X hX hbl hbA dL_law_1025 h (fun h => ?_)
    refine zk_aload_n X 0 dL_law_1026 rfl rfl ?_
    refine zk_iload_n X 3 dL_law_1027 rfl rfl ?_
    refine zk_iconst X (v := 2) dL_law_1028 (by decide) ?_
    refine zk_iadd X dL_law_1029 ?_
    refine zk_sld X hX hbl hbA dL_law_1030 h (fun h => ?_)
    refine zk_vi X h (fun rr zz hf => ct_X8_tries l E hi (xs (a3 + 1).toNatClampNeg) (xs (a3 + 2).toNatClampNeg) _ rr zz hf) (cwV 2 X.1.2.2.2.2 gL_law_X8_tries rfl rfl rfl (by decide +kernel) ⟨Nat.le_of_ble_eq_true rfl, Nat.le_of_ble_eq_true rfl⟩) (zk_recv X (g := 0) (Nat.zero_lt_one) rfl rfl) rfl rfl (Nat.le_of_ble_eq_true rfl) dL_law_1031 (fun r112 z111 h => ?_)
    refine zk_aload_n X 2 dL_law_1034 rfl rfl ?_
    refine zk_aload_n X 0 dL_law_1035 rfl rfl ?_
    refine zk_iload_n X 3 dL_law_1036 rfl rfl ?_
    refine zk_iconst X (v := 1) dL_law_1037 (by decide) ?_
    refine zk_iadd X dL_law_1038 ?_
    refine zk_sld X hX hbl hbA dL_law_1039 h (fun h => ?_)
    refine zk_aload_n X 0 dL_law_1040 rfl rfl ?_
    refine zk_iload_n X 3 dL_law_1041 rfl rfl ?_
    refine zk_iconst X (v := 2) dL_law_1042 (by decide) ?_
    refine zk_iadd X dL_law_1043 ?_
    refine zk_sld X hX hbl hbA dL_law_1044 h (fun h => ?_)
    refine zk_vi X h (fun rr zz hf => ct_X9_tries l E hi (xs (a3 + 1).toNatClampNeg) (xs (a3 + 2).toNatClampNeg) _ rr zz hf) (cwV 2 X.1.2.2.2.2 gL_law_X9_tries rfl rfl rfl (by decide +kernel) ⟨Nat.le_of_ble_eq_true rfl, Nat.le_of_ble_eq_true rfl⟩) (zk_recv X (g := 20) (Nat.zero_lt_one) rfl rfl) rfl rfl (Nat.le_of_ble_eq_true rfl) dL_law_1045 (fun r114 z113 h => ?_)
    refine zk_icmp_eq X (tgt := 1433) dL_law_1048 (by decide) h (fun h => ?_) (fun h => ?_)
    · exact zk_sub [0, 1, 2, 3] rfl (B1433 _ hc18 _ _ h)
    · refine zk_iconst X (v := 0) dL_law_1051 (by decide) ?_
      exact absurd h zk_no01
  have B1053 : ∀ (c18 : Int32 → zk_Z → Option (Int32 × zk_Z)) (hc18 : ∀ (a3 : Int32) (z : zk_Z), c18 a3 z = some (1, z') → zk_G p l e room_1 s m #[Value.ref b] below meth c E 4 103 1953 (lw_Z below #[Value.ref b] s) 18 [(0, .ref b), (1, .ref (E.2.1 0 0)), (2, .ref (E.2.1 20 0)), (3, .int a3)] [] z) (a3 : Int32) (z : zk_Z), fL_law_B1053 xs L c18 a3 z = some (1, z') → zk_G p l e room_1 s m #[Value.ref b] below meth c E 4 103 1953 (lw_Z below #[Value.ref b] s) 1053 [(0, .ref b), (1, .ref (E.2.1 0 0)), (2, .ref (E.2.1 20 0)), (3, .int a3)] [] z := by
    intro c18 hc18 a3 z h
    unfold fL_law_B1053 at h
    refine zk_aload_n X 1 dL_law_1053 rfl rfl ?_
    refine zk_aload_n X 0 dL_law_1054 rfl rfl ?_
    refine zk_iload_n X 3 dL_law_1055 rfl rfl ?_
    refine zk_iconst X (v := 1) dL_law_1056 (by decide) ?_
    refine zk_iadd X dL_law_1057 ?_
    refine zk_sld X hX hbl hbA dL_law_1058 h (fun h => ?_)
    refine zk_aload_n X 0 dL_law_1059 rfl rfl ?_
    refine zk_iload_n X 3 dL_law_1060 rfl rfl ?_
    refine zk_iconst X (v := 2) dL_law_1061 (by decide) ?_
    refine zk_iadd X dL_law_1062 ?_
    refine zk_sld X hX hbl hbA dL_law_1063 h (fun h => ?_)
    refine zk_vi X h (fun rr zz hf => ct_X8_claimTold l E hi (xs (a3 + 1).toNatClampNeg) (xs (a3 + 2).toNatClampNeg) _ rr zz hf) (cwV 2 X.1.2.2.2.2 gL_law_X8_claimTold rfl rfl rfl (by decide +kernel) ⟨Nat.le_of_ble_eq_true rfl, Nat.le_of_ble_eq_true rfl⟩) (zk_recv X (g := 0) (Nat.zero_lt_one) rfl rfl) rfl rfl (Nat.le_of_ble_eq_true rfl) dL_law_1064 (fun r117 z116 h => ?_)
    refine zk_aload_n X 2 dL_law_1067 rfl rfl ?_
    refine zk_aload_n X 0 dL_law_1068 rfl rfl ?_
    refine zk_iload_n X 3 dL_law_1069 rfl rfl ?_
    refine zk_iconst X (v := 1) dL_law_1070 (by decide) ?_
    refine zk_iadd X dL_law_1071 ?_
    refine zk_sld X hX hbl hbA dL_law_1072 h (fun h => ?_)
    refine zk_aload_n X 0 dL_law_1073 rfl rfl ?_
    refine zk_iload_n X 3 dL_law_1074 rfl rfl ?_
    refine zk_iconst X (v := 2) dL_law_1075 (by decide) ?_
    refine zk_iadd X dL_law_1076 ?_
    refine zk_sld X hX hbl hbA dL_law_1077 h (fun h => ?_)
    refine zk_vi X h (fun rr zz hf => ct_X9_claimTold l E hi (xs (a3 + 1).toNatClampNeg) (xs (a3 + 2).toNatClampNeg) _ rr zz hf) (cwV 2 X.1.2.2.2.2 gL_law_X9_claimTold rfl rfl rfl (by decide +kernel) ⟨Nat.le_of_ble_eq_true rfl, Nat.le_of_ble_eq_true rfl⟩) (zk_recv X (g := 20) (Nat.zero_lt_one) rfl rfl) rfl rfl (Nat.le_of_ble_eq_true rfl) dL_law_1078 (fun r119 z118 h => ?_)
    refine zk_icmp_eq X (tgt := 1433) dL_law_1081 (by decide) h (fun h => ?_) (fun h => ?_)
    · exact zk_sub [0, 1, 2, 3] rfl (B1433 _ hc18 _ _ h)
    · refine zk_iconst X (v := 0) dL_law_1084 (by decide) ?_
      exact absurd h zk_no01
  have B1086 : ∀ (c18 : Int32 → zk_Z → Option (Int32 × zk_Z)) (hc18 : ∀ (a3 : Int32) (z : zk_Z), c18 a3 z = some (1, z') → zk_G p l e room_1 s m #[Value.ref b] below meth c E 4 103 1953 (lw_Z below #[Value.ref b] s) 18 [(0, .ref b), (1, .ref (E.2.1 0 0)), (2, .ref (E.2.1 20 0)), (3, .int a3)] [] z) (a3 : Int32) (z : zk_Z), fL_law_B1086 xs L c18 a3 z = some (1, z') → zk_G p l e room_1 s m #[Value.ref b] below meth c E 4 103 1953 (lw_Z below #[Value.ref b] s) 1086 [(0, .ref b), (1, .ref (E.2.1 0 0)), (2, .ref (E.2.1 20 0)), (3, .int a3)] [] z := by
    intro c18 hc18 a3 z h
    unfold fL_law_B1086 at h
    refine zk_aload_n X 1 dL_law_1086 rfl rfl ?_
    refine zk_aload_n X 0 dL_law_1087 rfl rfl ?_
    refine zk_iload_n X 3 dL_law_1088 rfl rfl ?_
    refine zk_iconst X (v := 1) dL_law_1089 (by decide) ?_
    refine zk_iadd X dL_law_1090 ?_
    refine zk_sld X hX hbl hbA dL_law_1091 h (fun h => ?_)
    refine zk_aload_n X 0 dL_law_1092 rfl rfl ?_
    refine zk_iload_n X 3 dL_law_1093 rfl rfl ?_
    refine zk_iconst X (v := 2) dL_law_1094 (by decide) ?_
    refine zk_iadd X dL_law_1095 ?_
    refine zk_sld X hX hbl hbA dL_law_1096 h (fun h => ?_)
    refine zk_aload_n X 0 dL_law_1097 rfl rfl ?_
    refine zk_iload_n X 3 dL_law_1098 rfl rfl ?_
    refine zk_iconst X (v := 3) dL_law_1099 (by decide) ?_
    refine zk_iadd X dL_law_1100 ?_
    refine zk_sld X hX hbl hbA dL_law_1101 h (fun h => ?_)
    refine zk_aload_n X 0 dL_law_1102 rfl rfl ?_
    refine zk_iload_n X 3 dL_law_1103 rfl rfl ?_
    refine zk_iconst X (v := 4) dL_law_1104 (by decide) ?_
    refine zk_iadd X dL_law_1105 ?_
    refine zk_sld X hX hbl hbA dL_law_1106 h (fun h => ?_)
    refine zk_vi X h (fun rr zz hf => ct_X8_kindTold l E hi (xs (a3 + 1).toNatClampNeg) (xs (a3 + 2).toNatClampNeg) (xs (a3 + 3).toNatClampNeg) (xs (a3 + 4).toNatClampNeg) _ rr zz hf) (cwV 4 X.1.2.2.2.2 gL_law_X8_kindTold rfl rfl rfl (by decide +kernel) ⟨Nat.le_of_ble_eq_true rfl, Nat.le_of_ble_eq_true rfl⟩) (zk_recv X (g := 0) (Nat.zero_lt_one) rfl rfl) rfl rfl (Nat.le_of_ble_eq_true rfl) dL_law_1107 (fun r122 z121 h => ?_)
    refine zk_aload_n X 2 dL_law_1110 rfl rfl ?_
    refine zk_aload_n X 0 dL_law_1111 rfl rfl ?_
    refine zk_iload_n X 3 dL_law_1112 rfl rfl ?_
    refine zk_iconst X (v := 1) dL_law_1113 (by decide) ?_
    refine zk_iadd X dL_law_1114 ?_
    refine zk_sld X hX hbl hbA dL_law_1115 h (fun h => ?_)
    refine zk_aload_n X 0 dL_law_1116 rfl rfl ?_
    refine zk_iload_n X 3 dL_law_1117 rfl rfl ?_
    refine zk_iconst X (v := 2) dL_law_1118 (by decide) ?_
    refine zk_iadd X dL_law_1119 ?_
    refine zk_sld X hX hbl hbA dL_law_1120 h (fun h => ?_)
    refine zk_aload_n X 0 dL_law_1121 rfl rfl ?_
    refine zk_iload_n X 3 dL_law_1122 rfl rfl ?_
    refine zk_iconst X (v := 3) dL_law_1123 (by decide) ?_
    refine zk_iadd X dL_law_1124 ?_
    refine zk_sld X hX hbl hbA dL_law_1125 h (fun h => ?_)
    refine zk_aload_n X 0 dL_law_1126 rfl rfl ?_
    refine zk_iload_n X 3 dL_law_1127 rfl rfl ?_
    refine zk_iconst X (v := 4) dL_law_1128 (by decide) ?_
    refine zk_iadd X dL_law_1129 ?_
    refine zk_sld X hX hbl hbA dL_law_1130 h (fun h => ?_)
    refine zk_vi X h (fun rr zz hf => ct_X9_kindTold l E hi (xs (a3 + 1).toNatClampNeg) (xs (a3 + 2).toNatClampNeg) (xs (a3 + 3).toNatClampNeg) (xs (a3 + 4).toNatClampNeg) _ rr zz hf) (cwV 4 X.1.2.2.2.2 gL_law_X9_kindTold rfl rfl rfl (by decide +kernel) ⟨Nat.le_of_ble_eq_true rfl, Nat.le_of_ble_eq_true rfl⟩) (zk_recv X (g := 20) (Nat.zero_lt_one) rfl rfl) rfl rfl (Nat.le_of_ble_eq_true rfl) dL_law_1131 (fun r124 z123 h => ?_)
    refine zk_icmp_eq X (tgt := 1433) dL_law_1134 (by decide) h (fun h => ?_) (fun h => ?_)
    · exact zk_sub [0, 1, 2, 3] rfl (B1433 _ hc18 _ _ h)
    · refine zk_iconst X (v := 0) dL_law_1137 (by decide) ?_
      exact absurd h zk_no01
  have B1139 : ∀ (c18 : Int32 → zk_Z → Option (Int32 × zk_Z)) (hc18 : ∀ (a3 : Int32) (z : zk_Z), c18 a3 z = some (1, z') → zk_G p l e room_1 s m #[Value.ref b] below meth c E 4 103 1953 (lw_Z below #[Value.ref b] s) 18 [(0, .ref b), (1, .ref (E.2.1 0 0)), (2, .ref (E.2.1 20 0)), (3, .int a3)] [] z) (a3 : Int32) (z : zk_Z), fL_law_B1139 xs L c18 a3 z = some (1, z') → zk_G p l e room_1 s m #[Value.ref b] below meth c E 4 103 1953 (lw_Z below #[Value.ref b] s) 1139 [(0, .ref b), (1, .ref (E.2.1 0 0)), (2, .ref (E.2.1 20 0)), (3, .int a3)] [] z := by
    intro c18 hc18 a3 z h
    unfold fL_law_B1139 at h
    refine zk_aload_n X 1 dL_law_1139 rfl rfl ?_
    refine zk_aload_n X 0 dL_law_1140 rfl rfl ?_
    refine zk_iload_n X 3 dL_law_1141 rfl rfl ?_
    refine zk_iconst X (v := 1) dL_law_1142 (by decide) ?_
    refine zk_iadd X dL_law_1143 ?_
    refine zk_sld X hX hbl hbA dL_law_1144 h (fun h => ?_)
    refine zk_vi X h (fun rr zz hf => ct_X8_count l E hi (xs (a3 + 1).toNatClampNeg) _ rr zz hf) (cwV 1 X.1.2.2.2.2 gL_law_X8_count rfl rfl rfl (by decide +kernel) ⟨Nat.le_of_ble_eq_true rfl, Nat.le_of_ble_eq_true rfl⟩) (zk_recv X (g := 0) (Nat.zero_lt_one) rfl rfl) rfl rfl (Nat.le_of_ble_eq_true rfl) dL_law_1145 (fun r127 z126 h => ?_)
    refine zk_aload_n X 2 dL_law_1148 rfl rfl ?_
    refine zk_aload_n X 0 dL_law_1149 rfl rfl ?_
    refine zk_iload_n X 3 dL_law_1150 rfl rfl ?_
    refine zk_iconst X (v := 1) dL_law_1151 (by decide) ?_
    refine zk_iadd X dL_law_1152 ?_
    refine zk_sld X hX hbl hbA dL_law_1153 h (fun h => ?_)
    refine zk_vi X h (fun rr zz hf => ct_X9_count l E hi (xs (a3 + 1).toNatClampNeg) _ rr zz hf) (cwV 1 X.1.2.2.2.2 gL_law_X9_count rfl rfl rfl (by decide +kernel) ⟨Nat.le_of_ble_eq_true rfl, Nat.le_of_ble_eq_true rfl⟩) (zk_recv X (g := 20) (Nat.zero_lt_one) rfl rfl) rfl rfl (Nat.le_of_ble_eq_true rfl) dL_law_1154 (fun r129 z128 h => ?_)
    refine zk_icmp_eq X (tgt := 1433) dL_law_1157 (by decide) h (fun h => ?_) (fun h => ?_)
    · exact zk_sub [0, 1, 2, 3] rfl (B1433 _ hc18 _ _ h)
    · refine zk_iconst X (v := 0) dL_law_1160 (by decide) ?_
      exact absurd h zk_no01
  have B1162 : ∀ (c18 : Int32 → zk_Z → Option (Int32 × zk_Z)) (hc18 : ∀ (a3 : Int32) (z : zk_Z), c18 a3 z = some (1, z') → zk_G p l e room_1 s m #[Value.ref b] below meth c E 4 103 1953 (lw_Z below #[Value.ref b] s) 18 [(0, .ref b), (1, .ref (E.2.1 0 0)), (2, .ref (E.2.1 20 0)), (3, .int a3)] [] z) (a3 : Int32) (z : zk_Z), fL_law_B1162 xs L c18 a3 z = some (1, z') → zk_G p l e room_1 s m #[Value.ref b] below meth c E 4 103 1953 (lw_Z below #[Value.ref b] s) 1162 [(0, .ref b), (1, .ref (E.2.1 0 0)), (2, .ref (E.2.1 20 0)), (3, .int a3)] [] z := by
    intro c18 hc18 a3 z h
    unfold fL_law_B1162 at h
    refine zk_aload_n X 1 dL_law_1162 rfl rfl ?_
    refine zk_vi X h (fun rr zz hf => ct_X8_image l E hi _ rr zz hf) (cwV 0 X.1.2.2.2.2 gL_law_X8_image rfl rfl rfl (by decide +kernel) ⟨Nat.le_of_ble_eq_true rfl, Nat.le_of_ble_eq_true rfl⟩) (zk_recv X (g := 0) (Nat.zero_lt_one) rfl rfl) rfl rfl (Nat.le_of_ble_eq_true rfl) dL_law_1163 (fun r132 z131 h => ?_)
    refine zk_aload_n X 2 dL_law_1166 rfl rfl ?_
    refine zk_vi X h (fun rr zz hf => ct_X9_image l E hi _ rr zz hf) (cwV 0 X.1.2.2.2.2 gL_law_X9_image rfl rfl rfl (by decide +kernel) ⟨Nat.le_of_ble_eq_true rfl, Nat.le_of_ble_eq_true rfl⟩) (zk_recv X (g := 20) (Nat.zero_lt_one) rfl rfl) rfl rfl (Nat.le_of_ble_eq_true rfl) dL_law_1167 (fun r134 z133 h => ?_)
    refine zk_icmp_eq X (tgt := 1433) dL_law_1170 (by decide) h (fun h => ?_) (fun h => ?_)
    · exact zk_sub [0, 1, 2, 3] rfl (B1433 _ hc18 _ _ h)
    · refine zk_iconst X (v := 0) dL_law_1173 (by decide) ?_
      exact absurd h zk_no01
  have B1175 : ∀ (c18 : Int32 → zk_Z → Option (Int32 × zk_Z)) (hc18 : ∀ (a3 : Int32) (z : zk_Z), c18 a3 z = some (1, z') → zk_G p l e room_1 s m #[Value.ref b] below meth c E 4 103 1953 (lw_Z below #[Value.ref b] s) 18 [(0, .ref b), (1, .ref (E.2.1 0 0)), (2, .ref (E.2.1 20 0)), (3, .int a3)] [] z) (a3 : Int32) (z : zk_Z), fL_law_B1175 xs L c18 a3 z = some (1, z') → zk_G p l e room_1 s m #[Value.ref b] below meth c E 4 103 1953 (lw_Z below #[Value.ref b] s) 1175 [(0, .ref b), (1, .ref (E.2.1 0 0)), (2, .ref (E.2.1 20 0)), (3, .int a3)] [] z := by
    intro c18 hc18 a3 z h
    unfold fL_law_B1175 at h
    refine zk_aload_n X 1 dL_law_1175 rfl rfl ?_
    refine zk_vi X h (fun rr zz hf => ct_X8_back l E hi _ rr zz hf) (cwV 0 X.1.2.2.2.2 gL_law_X8_back rfl rfl rfl (by decide +kernel) ⟨Nat.le_of_ble_eq_true rfl, Nat.le_of_ble_eq_true rfl⟩) (zk_recv X (g := 0) (Nat.zero_lt_one) rfl rfl) rfl rfl (Nat.le_of_ble_eq_true rfl) dL_law_1176 (fun r137 z136 h => ?_)
    refine zk_aload_n X 2 dL_law_1179 rfl rfl ?_
    refine zk_vi X h (fun rr zz hf => ct_X9_back l E hi _ rr zz hf) (cwV 0 X.1.2.2.2.2 gL_law_X9_back rfl rfl rfl (by decide +kernel) ⟨Nat.le_of_ble_eq_true rfl, Nat.le_of_ble_eq_true rfl⟩) (zk_recv X (g := 20) (Nat.zero_lt_one) rfl rfl) rfl rfl (Nat.le_of_ble_eq_true rfl) dL_law_1180 (fun r139 z138 h => ?_)
    refine zk_icmp_eq X (tgt := 1433) dL_law_1183 (by decide) h (fun h => ?_) (fun h => ?_)
    · exact zk_sub [0, 1, 2, 3] rfl (B1433 _ hc18 _ _ h)
    · refine zk_iconst X (v := 0) dL_law_1186 (by decide) ?_
      exact absurd h zk_no01
  have B1188 : ∀ (c18 : Int32 → zk_Z → Option (Int32 × zk_Z)) (hc18 : ∀ (a3 : Int32) (z : zk_Z), c18 a3 z = some (1, z') → zk_G p l e room_1 s m #[Value.ref b] below meth c E 4 103 1953 (lw_Z below #[Value.ref b] s) 18 [(0, .ref b), (1, .ref (E.2.1 0 0)), (2, .ref (E.2.1 20 0)), (3, .int a3)] [] z) (a3 : Int32) (z : zk_Z), fL_law_B1188 xs L c18 a3 z = some (1, z') → zk_G p l e room_1 s m #[Value.ref b] below meth c E 4 103 1953 (lw_Z below #[Value.ref b] s) 1188 [(0, .ref b), (1, .ref (E.2.1 0 0)), (2, .ref (E.2.1 20 0)), (3, .int a3)] [] z := by
    intro c18 hc18 a3 z h
    unfold fL_law_B1188 at h
    refine zk_aload_n X 1 dL_law_1188 rfl rfl ?_
    refine zk_aload_n X 0 dL_law_1189 rfl rfl ?_
    refine zk_iload_n X 3 dL_law_1190 rfl rfl ?_
    refine zk_iconst X (v := 1) dL_law_1191 (by decide) ?_
    refine zk_iadd X dL_law_1192 ?_
    refine zk_sld X hX hbl hbA dL_law_1193 h (fun h => ?_)
    refine zk_aload_n X 0 dL_law_1194 rfl rfl ?_
    refine zk_iload_n X 3 dL_law_1195 rfl rfl ?_
    refine zk_iconst X (v := 2) dL_law_1196 (by decide) ?_
    refine zk_iadd X dL_law_1197 ?_
    refine zk_sld X hX hbl hbA dL_law_1198 h (fun h => ?_)
    refine zk_aload_n X 0 dL_law_1199 rfl rfl ?_
    refine zk_iload_n X 3 dL_law_1200 rfl rfl ?_
    refine zk_iconst X (v := 3) dL_law_1201 (by decide) ?_
    refine zk_iadd X dL_law_1202 ?_
    refine zk_sld X hX hbl hbA dL_law_1203 h (fun h => ?_)
    refine zk_vi X h (fun rr zz hf => ct_X8_sheet l E hi (xs (a3 + 1).toNatClampNeg) (xs (a3 + 2).toNatClampNeg) (xs (a3 + 3).toNatClampNeg) _ rr zz hf) (cwV 3 X.1.2.2.2.2 gL_law_X8_sheet rfl rfl rfl (by decide +kernel) ⟨Nat.le_of_ble_eq_true rfl, Nat.le_of_ble_eq_true rfl⟩) (zk_recv X (g := 0) (Nat.zero_lt_one) rfl rfl) rfl rfl (Nat.le_of_ble_eq_true rfl) dL_law_1204 (fun r142 z141 h => ?_)
    refine zk_aload_n X 2 dL_law_1207 rfl rfl ?_
    refine zk_aload_n X 0 dL_law_1208 rfl rfl ?_
    refine zk_iload_n X 3 dL_law_1209 rfl rfl ?_
    refine zk_iconst X (v := 1) dL_law_1210 (by decide) ?_
    refine zk_iadd X dL_law_1211 ?_
    refine zk_sld X hX hbl hbA dL_law_1212 h (fun h => ?_)
    refine zk_aload_n X 0 dL_law_1213 rfl rfl ?_
    refine zk_iload_n X 3 dL_law_1214 rfl rfl ?_
    refine zk_iconst X (v := 2) dL_law_1215 (by decide) ?_
    refine zk_iadd X dL_law_1216 ?_
    refine zk_sld X hX hbl hbA dL_law_1217 h (fun h => ?_)
    refine zk_aload_n X 0 dL_law_1218 rfl rfl ?_
    refine zk_iload_n X 3 dL_law_1219 rfl rfl ?_
    refine zk_iconst X (v := 3) dL_law_1220 (by decide) ?_
    refine zk_iadd X dL_law_1221 ?_
    refine zk_sld X hX hbl hbA dL_law_1222 h (fun h => ?_)
    refine zk_vi X h (fun rr zz hf => ct_X9_sheet l E hi (xs (a3 + 1).toNatClampNeg) (xs (a3 + 2).toNatClampNeg) (xs (a3 + 3).toNatClampNeg) _ rr zz hf) (cwV 3 X.1.2.2.2.2 gL_law_X9_sheet rfl rfl rfl (by decide +kernel) ⟨Nat.le_of_ble_eq_true rfl, Nat.le_of_ble_eq_true rfl⟩) (zk_recv X (g := 20) (Nat.zero_lt_one) rfl rfl) rfl rfl (Nat.le_of_ble_eq_true rfl) dL_law_1223 (fun r144 z143 h => ?_)
    refine zk_icmp_eq X (tgt := 1433) dL_law_1226 (by decide) h (fun h => ?_) (fun h => ?_)
    · exact zk_sub [0, 1, 2, 3] rfl (B1433 _ hc18 _ _ h)
    · refine zk_iconst X (v := 0) dL_law_1229 (by decide) ?_
      exact absurd h zk_no01
  have B1231 : ∀ (c18 : Int32 → zk_Z → Option (Int32 × zk_Z)) (hc18 : ∀ (a3 : Int32) (z : zk_Z), c18 a3 z = some (1, z') → zk_G p l e room_1 s m #[Value.ref b] below meth c E 4 103 1953 (lw_Z below #[Value.ref b] s) 18 [(0, .ref b), (1, .ref (E.2.1 0 0)), (2, .ref (E.2.1 20 0)), (3, .int a3)] [] z) (a3 : Int32) (z : zk_Z), fL_law_B1231 xs L c18 a3 z = some (1, z') → zk_G p l e room_1 s m #[Value.ref b] below meth c E 4 103 1953 (lw_Z below #[Value.ref b] s) 1231 [(0, .ref b), (1, .ref (E.2.1 0 0)), (2, .ref (E.2.1 20 0)), (3, .int a3)] [] z := by
    intro c18 hc18 a3 z h
    unfold fL_law_B1231 at h
    refine zk_aload_n X 1 dL_law_1231 rfl rfl ?_
    refine zk_aload_n X 0 dL_law_1232 rfl rfl ?_
    refine zk_iload_n X 3 dL_law_1233 rfl rfl ?_
    refine zk_iconst X (v := 1) dL_law_1234 (by decide) ?_
    refine zk_iadd X dL_law_1235 ?_
    refine zk_sld X hX hbl hbA dL_law_1236 h (fun h => ?_)
    refine zk_aload_n X 0 dL_law_1237 rfl rfl ?_
    refine zk_iload_n X 3 dL_law_1238 rfl rfl ?_
    refine zk_iconst X (v := 2) dL_law_1239 (by decide) ?_
    refine zk_iadd X dL_law_1240 ?_
    refine zk_sld X hX hbl hbA dL_law_1241 h (fun h => ?_)
    refine zk_aload_n X 0 dL_law_1242 rfl rfl ?_
    refine zk_iload_n X 3 dL_law_1243 rfl rfl ?_
    refine zk_iconst X (v := 3) dL_law_1244 (by decide) ?_
    refine zk_iadd X dL_law_1245 ?_
    refine zk_sld X hX hbl hbA dL_law_1246 h (fun h => ?_)
    refine zk_vi X h (fun rr zz hf => ct_X8_cell l E hi (xs (a3 + 1).toNatClampNeg) (xs (a3 + 2).toNatClampNeg) (xs (a3 + 3).toNatClampNeg) _ rr zz hf) (cwV 3 X.1.2.2.2.2 gL_law_X8_cell rfl rfl rfl (by decide +kernel) ⟨Nat.le_of_ble_eq_true rfl, Nat.le_of_ble_eq_true rfl⟩) (zk_recv X (g := 0) (Nat.zero_lt_one) rfl rfl) rfl rfl (Nat.le_of_ble_eq_true rfl) dL_law_1247 (fun r147 z146 h => ?_)
    refine zk_aload_n X 2 dL_law_1250 rfl rfl ?_
    refine zk_aload_n X 0 dL_law_1251 rfl rfl ?_
    refine zk_iload_n X 3 dL_law_1252 rfl rfl ?_
    refine zk_iconst X (v := 1) dL_law_1253 (by decide) ?_
    refine zk_iadd X dL_law_1254 ?_
    refine zk_sld X hX hbl hbA dL_law_1255 h (fun h => ?_)
    refine zk_aload_n X 0 dL_law_1256 rfl rfl ?_
    refine zk_iload_n X 3 dL_law_1257 rfl rfl ?_
    refine zk_iconst X (v := 2) dL_law_1258 (by decide) ?_
    refine zk_iadd X dL_law_1259 ?_
    refine zk_sld X hX hbl hbA dL_law_1260 h (fun h => ?_)
    refine zk_aload_n X 0 dL_law_1261 rfl rfl ?_
    refine zk_iload_n X 3 dL_law_1262 rfl rfl ?_
    refine zk_iconst X (v := 3) dL_law_1263 (by decide) ?_
    refine zk_iadd X dL_law_1264 ?_
    refine zk_sld X hX hbl hbA dL_law_1265 h (fun h => ?_)
    refine zk_vi X h (fun rr zz hf => ct_X9_cell l E hi (xs (a3 + 1).toNatClampNeg) (xs (a3 + 2).toNatClampNeg) (xs (a3 + 3).toNatClampNeg) _ rr zz hf) (cwV 3 X.1.2.2.2.2 gL_law_X9_cell rfl rfl rfl (by decide +kernel) ⟨Nat.le_of_ble_eq_true rfl, Nat.le_of_ble_eq_true rfl⟩) (zk_recv X (g := 20) (Nat.zero_lt_one) rfl rfl) rfl rfl (Nat.le_of_ble_eq_true rfl) dL_law_1266 (fun r149 z148 h => ?_)
    refine zk_icmp_eq X (tgt := 1433) dL_law_1269 (by decide) h (fun h => ?_) (fun h => ?_)
    · exact zk_sub [0, 1, 2, 3] rfl (B1433 _ hc18 _ _ h)
    · refine zk_iconst X (v := 0) dL_law_1272 (by decide) ?_
      exact absurd h zk_no01
  have B1274 : ∀ (c18 : Int32 → zk_Z → Option (Int32 × zk_Z)) (hc18 : ∀ (a3 : Int32) (z : zk_Z), c18 a3 z = some (1, z') → zk_G p l e room_1 s m #[Value.ref b] below meth c E 4 103 1953 (lw_Z below #[Value.ref b] s) 18 [(0, .ref b), (1, .ref (E.2.1 0 0)), (2, .ref (E.2.1 20 0)), (3, .int a3)] [] z) (a3 : Int32) (z : zk_Z), fL_law_B1274 xs L c18 a3 z = some (1, z') → zk_G p l e room_1 s m #[Value.ref b] below meth c E 4 103 1953 (lw_Z below #[Value.ref b] s) 1274 [(0, .ref b), (1, .ref (E.2.1 0 0)), (2, .ref (E.2.1 20 0)), (3, .int a3)] [] z := by
    intro c18 hc18 a3 z h
    unfold fL_law_B1274 at h
    refine zk_aload_n X 1 dL_law_1274 rfl rfl ?_
    refine zk_aload_n X 0 dL_law_1275 rfl rfl ?_
    refine zk_iload_n X 3 dL_law_1276 rfl rfl ?_
    refine zk_iconst X (v := 1) dL_law_1277 (by decide) ?_
    refine zk_iadd X dL_law_1278 ?_
    refine zk_sld X hX hbl hbA dL_law_1279 h (fun h => ?_)
    refine zk_aload_n X 0 dL_law_1280 rfl rfl ?_
    refine zk_iload_n X 3 dL_law_1281 rfl rfl ?_
    refine zk_iconst X (v := 2) dL_law_1282 (by decide) ?_
    refine zk_iadd X dL_law_1283 ?_
    refine zk_sld X hX hbl hbA dL_law_1284 h (fun h => ?_)
    refine zk_aload_n X 0 dL_law_1285 rfl rfl ?_
    refine zk_iload_n X 3 dL_law_1286 rfl rfl ?_
    refine zk_iconst X (v := 3) dL_law_1287 (by decide) ?_
    refine zk_iadd X dL_law_1288 ?_
    refine zk_sld X hX hbl hbA dL_law_1289 h (fun h => ?_)
    refine zk_aload_n X 0 dL_law_1290 rfl rfl ?_
    refine zk_iload_n X 3 dL_law_1291 rfl rfl ?_
    refine zk_iconst X (v := 4) dL_law_1292 (by decide) ?_
    refine zk_iadd X dL_law_1293 ?_
    refine zk_sld X hX hbl hbA dL_law_1294 h (fun h => ?_)
    refine zk_aload_n X 0 dL_law_1295 rfl rfl ?_
    refine zk_iload_n X 3 dL_law_1296 rfl rfl ?_
    refine zk_iconst X (v := 5) dL_law_1297 (by decide) ?_
    refine zk_iadd X dL_law_1298 ?_
    refine zk_sld X hX hbl hbA dL_law_1299 h (fun h => ?_)
    refine zk_vi X h (fun rr zz hf => ct_X8_copy l E hi (xs (a3 + 1).toNatClampNeg) (xs (a3 + 2).toNatClampNeg) (xs (a3 + 3).toNatClampNeg) (xs (a3 + 4).toNatClampNeg) (xs (a3 + 5).toNatClampNeg) _ rr zz hf) (cwV 5 X.1.2.2.2.2 gL_law_X8_copy rfl rfl rfl (by decide +kernel) ⟨Nat.le_of_ble_eq_true rfl, Nat.le_of_ble_eq_true rfl⟩) (zk_recv X (g := 0) (Nat.zero_lt_one) rfl rfl) rfl rfl (Nat.le_of_ble_eq_true rfl) dL_law_1300 (fun r152 z151 h => ?_)
    refine zk_aload_n X 2 dL_law_1303 rfl rfl ?_
    refine zk_aload_n X 0 dL_law_1304 rfl rfl ?_
    refine zk_iload_n X 3 dL_law_1305 rfl rfl ?_
    refine zk_iconst X (v := 1) dL_law_1306 (by decide) ?_
    refine zk_iadd X dL_law_1307 ?_
    refine zk_sld X hX hbl hbA dL_law_1308 h (fun h => ?_)
    refine zk_aload_n X 0 dL_law_1309 rfl rfl ?_
    refine zk_iload_n X 3 dL_law_1310 rfl rfl ?_
    refine zk_iconst X (v := 2) dL_law_1311 (by decide) ?_
    refine zk_iadd X dL_law_1312 ?_
    refine zk_sld X hX hbl hbA dL_law_1313 h (fun h => ?_)
    refine zk_aload_n X 0 dL_law_1314 rfl rfl ?_
    refine zk_iload_n X 3 dL_law_1315 rfl rfl ?_
    refine zk_iconst X (v := 3) dL_law_1316 (by decide) ?_
    refine zk_iadd X dL_law_1317 ?_
    refine zk_sld X hX hbl hbA dL_law_1318 h (fun h => ?_)
    refine zk_aload_n X 0 dL_law_1319 rfl rfl ?_
    refine zk_iload_n X 3 dL_law_1320 rfl rfl ?_
    refine zk_iconst X (v := 4) dL_law_1321 (by decide) ?_
    refine zk_iadd X dL_law_1322 ?_
    refine zk_sld X hX hbl hbA dL_law_1323 h (fun h => ?_)
    refine zk_aload_n X 0 dL_law_1324 rfl rfl ?_
    refine zk_iload_n X 3 dL_law_1325 rfl rfl ?_
    refine zk_iconst X (v := 5) dL_law_1326 (by decide) ?_
    refine zk_iadd X dL_law_1327 ?_
    refine zk_sld X hX hbl hbA dL_law_1328 h (fun h => ?_)
    refine zk_vi X h (fun rr zz hf => ct_X9_copy l E hi (xs (a3 + 1).toNatClampNeg) (xs (a3 + 2).toNatClampNeg) (xs (a3 + 3).toNatClampNeg) (xs (a3 + 4).toNatClampNeg) (xs (a3 + 5).toNatClampNeg) _ rr zz hf) (cwV 5 X.1.2.2.2.2 gL_law_X9_copy rfl rfl rfl (by decide +kernel) ⟨Nat.le_of_ble_eq_true rfl, Nat.le_of_ble_eq_true rfl⟩) (zk_recv X (g := 20) (Nat.zero_lt_one) rfl rfl) rfl rfl (Nat.le_of_ble_eq_true rfl) dL_law_1329 (fun r154 z153 h => ?_)
    refine zk_icmp_eq X (tgt := 1433) dL_law_1332 (by decide) h (fun h => ?_) (fun h => ?_)
    · exact zk_sub [0, 1, 2, 3] rfl (B1433 _ hc18 _ _ h)
    · refine zk_iconst X (v := 0) dL_law_1335 (by decide) ?_
      exact absurd h zk_no01
  have B1337 : ∀ (c18 : Int32 → zk_Z → Option (Int32 × zk_Z)) (hc18 : ∀ (a3 : Int32) (z : zk_Z), c18 a3 z = some (1, z') → zk_G p l e room_1 s m #[Value.ref b] below meth c E 4 103 1953 (lw_Z below #[Value.ref b] s) 18 [(0, .ref b), (1, .ref (E.2.1 0 0)), (2, .ref (E.2.1 20 0)), (3, .int a3)] [] z) (a3 : Int32) (z : zk_Z), fL_law_B1337 xs L c18 a3 z = some (1, z') → zk_G p l e room_1 s m #[Value.ref b] below meth c E 4 103 1953 (lw_Z below #[Value.ref b] s) 1337 [(0, .ref b), (1, .ref (E.2.1 0 0)), (2, .ref (E.2.1 20 0)), (3, .int a3)] [] z := by
    intro c18 hc18 a3 z h
    unfold fL_law_B1337 at h
    refine zk_aload_n X 1 dL_law_1337 rfl rfl ?_
    refine zk_aload_n X 0 dL_law_1338 rfl rfl ?_
    refine zk_iload_n X 3 dL_law_1339 rfl rfl ?_
    refine zk_iconst X (v := 1) dL_law_1340 (by decide) ?_
    refine zk_iadd X dL_law_1341 ?_
    refine zk_sld X hX hbl hbA dL_law_1342 h (fun h => ?_)
    refine zk_aload_n X 0 dL_law_1343 rfl rfl ?_
    refine zk_iload_n X 3 dL_law_1344 rfl rfl ?_
    refine zk_iconst X (v := 2) dL_law_1345 (by decide) ?_
    refine zk_iadd X dL_law_1346 ?_
    refine zk_sld X hX hbl hbA dL_law_1347 h (fun h => ?_)
    refine zk_aload_n X 0 dL_law_1348 rfl rfl ?_
    refine zk_iload_n X 3 dL_law_1349 rfl rfl ?_
    refine zk_iconst X (v := 3) dL_law_1350 (by decide) ?_
    refine zk_iadd X dL_law_1351 ?_
    refine zk_sld X hX hbl hbA dL_law_1352 h (fun h => ?_)
    refine zk_aload_n X 0 dL_law_1353 rfl rfl ?_
    refine zk_iload_n X 3 dL_law_1354 rfl rfl ?_
    refine zk_iconst X (v := 4) dL_law_1355 (by decide) ?_
    refine zk_iadd X dL_law_1356 ?_
    refine zk_sld X hX hbl hbA dL_law_1357 h (fun h => ?_)
    refine zk_vi X h (fun rr zz hf => ct_X8_claims l E hi (xs (a3 + 1).toNatClampNeg) (xs (a3 + 2).toNatClampNeg) (xs (a3 + 3).toNatClampNeg) (xs (a3 + 4).toNatClampNeg) _ rr zz hf) (cwV 4 X.1.2.2.2.2 gL_law_X8_claims rfl rfl rfl (by decide +kernel) ⟨Nat.le_of_ble_eq_true rfl, Nat.le_of_ble_eq_true rfl⟩) (zk_recv X (g := 0) (Nat.zero_lt_one) rfl rfl) rfl rfl (Nat.le_of_ble_eq_true rfl) dL_law_1358 (fun r157 z156 h => ?_)
    refine zk_aload_n X 2 dL_law_1361 rfl rfl ?_
    refine zk_aload_n X 0 dL_law_1362 rfl rfl ?_
    refine zk_iload_n X 3 dL_law_1363 rfl rfl ?_
    refine zk_iconst X (v := 1) dL_law_1364 (by decide) ?_
    refine zk_iadd X dL_law_1365 ?_
    refine zk_sld X hX hbl hbA dL_law_1366 h (fun h => ?_)
    refine zk_aload_n X 0 dL_law_1367 rfl rfl ?_
    refine zk_iload_n X 3 dL_law_1368 rfl rfl ?_
    refine zk_iconst X (v := 2) dL_law_1369 (by decide) ?_
    refine zk_iadd X dL_law_1370 ?_
    refine zk_sld X hX hbl hbA dL_law_1371 h (fun h => ?_)
    refine zk_aload_n X 0 dL_law_1372 rfl rfl ?_
    refine zk_iload_n X 3 dL_law_1373 rfl rfl ?_
    refine zk_iconst X (v := 3) dL_law_1374 (by decide) ?_
    refine zk_iadd X dL_law_1375 ?_
    refine zk_sld X hX hbl hbA dL_law_1376 h (fun h => ?_)
    refine zk_aload_n X 0 dL_law_1377 rfl rfl ?_
    refine zk_iload_n X 3 dL_law_1378 rfl rfl ?_
    refine zk_iconst X (v := 4) dL_law_1379 (by decide) ?_
    refine zk_iadd X dL_law_1380 ?_
    refine zk_sld X hX hbl hbA dL_law_1381 h (fun h => ?_)
    refine zk_vi X h (fun rr zz hf => ct_X9_claims l E hi (xs (a3 + 1).toNatClampNeg) (xs (a3 + 2).toNatClampNeg) (xs (a3 + 3).toNatClampNeg) (xs (a3 + 4).toNatClampNeg) _ rr zz hf) (cwV 4 X.1.2.2.2.2 gL_law_X9_claims rfl rfl rfl (by decide +kernel) ⟨Nat.le_of_ble_eq_true rfl, Nat.le_of_ble_eq_true rfl⟩) (zk_recv X (g := 20) (Nat.zero_lt_one) rfl rfl) rfl rfl (Nat.le_of_ble_eq_true rfl) dL_law_1382 (fun r159 z158 h => ?_)
    refine zk_icmp_eq X (tgt := 1433) dL_law_1385 (by decide) h (fun h => ?_) (fun h => ?_)
    · exact zk_sub [0, 1, 2, 3] rfl (B1433 _ hc18 _ _ h)
    · refine zk_iconst X (v := 0) dL_law_1388 (by decide) ?_
      exact absurd h zk_no01
  have B1390 : ∀ (c18 : Int32 → zk_Z → Option (Int32 × zk_Z)) (hc18 : ∀ (a3 : Int32) (z : zk_Z), c18 a3 z = some (1, z') → zk_G p l e room_1 s m #[Value.ref b] below meth c E 4 103 1953 (lw_Z below #[Value.ref b] s) 18 [(0, .ref b), (1, .ref (E.2.1 0 0)), (2, .ref (E.2.1 20 0)), (3, .int a3)] [] z) (a3 : Int32) (z : zk_Z), fL_law_B1390 xs L c18 a3 z = some (1, z') → zk_G p l e room_1 s m #[Value.ref b] below meth c E 4 103 1953 (lw_Z below #[Value.ref b] s) 1390 [(0, .ref b), (1, .ref (E.2.1 0 0)), (2, .ref (E.2.1 20 0)), (3, .int a3)] [] z := by
    intro c18 hc18 a3 z h
    unfold fL_law_B1390 at h
    refine zk_aload_n X 1 dL_law_1390 rfl rfl ?_
    refine zk_aload_n X 0 dL_law_1391 rfl rfl ?_
    refine zk_iload_n X 3 dL_law_1392 rfl rfl ?_
    refine zk_iconst X (v := 1) dL_law_1393 (by decide) ?_
    refine zk_iadd X dL_law_1394 ?_
    refine zk_sld X hX hbl hbA dL_law_1395 h (fun h => ?_)
    refine zk_aload_n X 0 dL_law_1396 rfl rfl ?_
    refine zk_iload_n X 3 dL_law_1397 rfl rfl ?_
    refine zk_iconst X (v := 2) dL_law_1398 (by decide) ?_
    refine zk_iadd X dL_law_1399 ?_
    refine zk_sld X hX hbl hbA dL_law_1400 h (fun h => ?_)
    refine zk_aload_n X 0 dL_law_1401 rfl rfl ?_
    refine zk_iload_n X 3 dL_law_1402 rfl rfl ?_
    refine zk_iconst X (v := 3) dL_law_1403 (by decide) ?_
    refine zk_iadd X dL_law_1404 ?_
    refine zk_sld X hX hbl hbA dL_law_1405 h (fun h => ?_)
    refine zk_vi X h (fun rr zz hf => ct_X8_taken l E hi (xs (a3 + 1).toNatClampNeg) (xs (a3 + 2).toNatClampNeg) (xs (a3 + 3).toNatClampNeg) _ rr zz hf) (cwV 3 X.1.2.2.2.2 gL_law_X8_taken rfl rfl rfl (by decide +kernel) ⟨Nat.le_of_ble_eq_true rfl, Nat.le_of_ble_eq_true rfl⟩) (zk_recv X (g := 0) (Nat.zero_lt_one) rfl rfl) rfl rfl (Nat.le_of_ble_eq_true rfl) dL_law_1406 (fun r162 z161 h => ?_)
    refine zk_aload_n X 2 dL_law_1409 rfl rfl ?_
    refine zk_aload_n X 0 dL_law_1410 rfl rfl ?_
    refine zk_iload_n X 3 dL_law_1411 rfl rfl ?_
    refine zk_iconst X (v := 1) dL_law_1412 (by decide) ?_
    refine zk_iadd X dL_law_1413 ?_
    refine zk_sld X hX hbl hbA dL_law_1414 h (fun h => ?_)
    refine zk_aload_n X 0 dL_law_1415 rfl rfl ?_
    refine zk_iload_n X 3 dL_law_1416 rfl rfl ?_
    refine zk_iconst X (v := 2) dL_law_1417 (by decide) ?_
    refine zk_iadd X dL_law_1418 ?_
    refine zk_sld X hX hbl hbA dL_law_1419 h (fun h => ?_)
    refine zk_aload_n X 0 dL_law_1420 rfl rfl ?_
    refine zk_iload_n X 3 dL_law_1421 rfl rfl ?_
    refine zk_iconst X (v := 3) dL_law_1422 (by decide) ?_
    refine zk_iadd X dL_law_1423 ?_
    refine zk_sld X hX hbl hbA dL_law_1424 h (fun h => ?_)
    refine zk_vi X h (fun rr zz hf => ct_X9_taken l E hi (xs (a3 + 1).toNatClampNeg) (xs (a3 + 2).toNatClampNeg) (xs (a3 + 3).toNatClampNeg) _ rr zz hf) (cwV 3 X.1.2.2.2.2 gL_law_X9_taken rfl rfl rfl (by decide +kernel) ⟨Nat.le_of_ble_eq_true rfl, Nat.le_of_ble_eq_true rfl⟩) (zk_recv X (g := 20) (Nat.zero_lt_one) rfl rfl) rfl rfl (Nat.le_of_ble_eq_true rfl) dL_law_1425 (fun r164 z163 h => ?_)
    refine zk_icmp_eq X (tgt := 1433) dL_law_1428 (by decide) h (fun h => ?_) (fun h => ?_)
    · exact zk_sub [0, 1, 2, 3] rfl (B1433 _ hc18 _ _ h)
    · refine zk_iconst X (v := 0) dL_law_1431 (by decide) ?_
      exact absurd h zk_no01
  have L18 : ∀ (n : Nat) (a3 : Int32) (z : zk_Z), fL_law_L18 xs L n a3 z = some (1, z') → zk_G p l e room_1 s m #[Value.ref b] below meth c E 4 103 1953 (lw_Z below #[Value.ref b] s) 18 [(0, .ref b), (1, .ref (E.2.1 0 0)), (2, .ref (E.2.1 20 0)), (3, .int a3)] [] z := by
    intro n
    induction n with
    | zero => intro a3 z h; exact absurd h (by simp [fL_law_L18])
    | succ n ih =>
      intro a3 z h
      rw [fL_law_L18] at h
      refine zk_iload_n X 3 dL_law_18 rfl rfl ?_
      refine zk_aload_n X 0 dL_law_19 rfl rfl ?_
      refine zk_slen X hX hbl hbA dL_law_20 ?_
      refine zk_bipush X (v := 7) dL_law_21 (by decide) ?_
      refine zk_isub X dL_law_23 ?_
      refine zk_icmp_gt X (tgt := 1439) dL_law_24 (by decide) h (fun h => ?_) (fun h => ?_)
      · refine zk_iconst X (v := 1) dL_law_1439 (by decide) ?_
        exact zk_lret1 X hr hge dL_law_1440
      · refine zk_aload_n X 0 dL_law_27 rfl rfl ?_
        refine zk_iload_n X 3 dL_law_28 rfl rfl ?_
        refine zk_sld X hX hbl hbA dL_law_29 h (fun h => ?_)
        refine zk_bipush X (v := 63) dL_law_30 (by decide) ?_
        refine zk_iand X dL_law_32 ?_
        rcases zk_if h with ⟨q5, h⟩ | ⟨q5, h⟩
        · refine zk_tsw_in X (v := 0) dL_law_33 q5 (by decide) (by decide) (off := 147) rfl (tgt := 180) (by decide) ?_
          exact zk_sub [0, 1, 2, 3] rfl (B180 _ ih _ _ h)
        · rcases zk_if h with ⟨q10, h⟩ | ⟨q10, h⟩
          · refine zk_tsw_in X (v := 1) dL_law_33 q10 (by decide) (by decide) (off := 210) rfl (tgt := 243) (by decide) ?_
            exact zk_sub [0, 1, 2, 3] rfl (B243 _ ih _ _ h)
          · rcases zk_if h with ⟨q15, h⟩ | ⟨q15, h⟩
            · refine zk_tsw_in X (v := 2) dL_law_33 q15 (by decide) (by decide) (off := 223) rfl (tgt := 256) (by decide) ?_
              exact zk_sub [0, 1, 2, 3] rfl (B256 _ ih _ _ h)
            · rcases zk_if h with ⟨q20, h⟩ | ⟨q20, h⟩
              · refine zk_tsw_in X (v := 3) dL_law_33 q20 (by decide) (by decide) (off := 256) rfl (tgt := 289) (by decide) ?_
                exact zk_sub [0, 1, 2, 3] rfl (B289 _ ih _ _ h)
              · rcases zk_if h with ⟨q25, h⟩ | ⟨q25, h⟩
                · refine zk_tsw_in X (v := 4) dL_law_33 q25 (by decide) (by decide) (off := 289) rfl (tgt := 322) (by decide) ?_
                  exact zk_sub [0, 1, 2, 3] rfl (B322 _ ih _ _ h)
                · rcases zk_if h with ⟨q30, h⟩ | ⟨q30, h⟩
                  · refine zk_tsw_in X (v := 5) dL_law_33 q30 (by decide) (by decide) (off := 332) rfl (tgt := 365) (by decide) ?_
                    exact zk_sub [0, 1, 2, 3] rfl (B365 _ ih _ _ h)
                  · rcases zk_if h with ⟨q35, h⟩ | ⟨q35, h⟩
                    · refine zk_tsw_in X (v := 6) dL_law_33 q35 (by decide) (by decide) (off := 365) rfl (tgt := 398) (by decide) ?_
                      exact zk_sub [0, 1, 2, 3] rfl (B398 _ ih _ _ h)
                    · rcases zk_if h with ⟨q40, h⟩ | ⟨q40, h⟩
                      · refine zk_tsw_in X (v := 7) dL_law_33 q40 (by decide) (by decide) (off := 408) rfl (tgt := 441) (by decide) ?_
                        exact zk_sub [0, 1, 2, 3] rfl (B441 _ ih _ _ h)
                      · rcases zk_if h with ⟨q45, h⟩ | ⟨q45, h⟩
                        · refine zk_tsw_in X (v := 8) dL_law_33 q45 (by decide) (by decide) (off := 441) rfl (tgt := 474) (by decide) ?_
                          exact zk_sub [0, 1, 2, 3] rfl (B474 _ ih _ _ h)
                        · rcases zk_if h with ⟨q50, h⟩ | ⟨q50, h⟩
                          · refine zk_tsw_in X (v := 9) dL_law_33 q50 (by decide) (by decide) (off := 484) rfl (tgt := 517) (by decide) ?_
                            exact zk_sub [0, 1, 2, 3] rfl (B517 _ ih _ _ h)
                          · rcases zk_if h with ⟨q55, h⟩ | ⟨q55, h⟩
                            · refine zk_tsw_in X (v := 10) dL_law_33 q55 (by decide) (by decide) (off := 517) rfl (tgt := 550) (by decide) ?_
                              exact zk_sub [0, 1, 2, 3] rfl (B550 _ ih _ _ h)
                            · rcases zk_if h with ⟨q60, h⟩ | ⟨q60, h⟩
                              · refine zk_tsw_in X (v := 11) dL_law_33 q60 (by decide) (by decide) (off := 550) rfl (tgt := 583) (by decide) ?_
                                exact zk_sub [0, 1, 2, 3] rfl (B583 _ ih _ _ h)
                              · rcases zk_if h with ⟨q65, h⟩ | ⟨q65, h⟩
                                · refine zk_tsw_in X (v := 12) dL_law_33 q65 (by decide) (by decide) (off := 573) rfl (tgt := 606) (by decide) ?_
                                  exact zk_sub [0, 1, 2, 3] rfl (B606 _ ih _ _ h)
                                · rcases zk_if h with ⟨q70, h⟩ | ⟨q70, h⟩
                                  · refine zk_tsw_in X (v := 13) dL_law_33 q70 (by decide) (by decide) (off := 596) rfl (tgt := 629) (by decide) ?_
                                    exact zk_sub [0, 1, 2, 3] rfl (B629 _ ih _ _ h)
                                  · rcases zk_if h with ⟨q75, h⟩ | ⟨q75, h⟩
                                    · refine zk_tsw_in X (v := 14) dL_law_33 q75 (by decide) (by decide) (off := 629) rfl (tgt := 662) (by decide) ?_
                                      exact zk_sub [0, 1, 2, 3] rfl (B662 _ ih _ _ h)
                                    · rcases zk_if h with ⟨q80, h⟩ | ⟨q80, h⟩
                                      · refine zk_tsw_in X (v := 15) dL_law_33 q80 (by decide) (by decide) (off := 663) rfl (tgt := 696) (by decide) ?_
                                        exact zk_sub [0, 1, 2, 3] rfl (B696 _ ih _ _ h)
                                      · rcases zk_if h with ⟨q85, h⟩ | ⟨q85, h⟩
                                        · refine zk_tsw_in X (v := 16) dL_law_33 q85 (by decide) (by decide) (off := 697) rfl (tgt := 730) (by decide) ?_
                                          exact zk_sub [0, 1, 2, 3] rfl (B730 _ ih _ _ h)
                                        · rcases zk_if h with ⟨q90, h⟩ | ⟨q90, h⟩
                                          · refine zk_tsw_in X (v := 17) dL_law_33 q90 (by decide) (by decide) (off := 720) rfl (tgt := 753) (by decide) ?_
                                            exact zk_sub [0, 1, 2, 3] rfl (B753 _ ih _ _ h)
                                          · rcases zk_if h with ⟨q95, h⟩ | ⟨q95, h⟩
                                            · refine zk_tsw_in X (v := 18) dL_law_33 q95 (by decide) (by decide) (off := 773) rfl (tgt := 806) (by decide) ?_
                                              exact zk_sub [0, 1, 2, 3] rfl (B806 _ ih _ _ h)
                                            · rcases zk_if h with ⟨q100, h⟩ | ⟨q100, h⟩
                                              · refine zk_tsw_in X (v := 19) dL_law_33 q100 (by decide) (by decide) (off := 848) rfl (tgt := 881) (by decide) ?_
                                                exact zk_sub [0, 1, 2, 3] rfl (B881 _ ih _ _ h)
                                              · rcases zk_if h with ⟨q105, h⟩ | ⟨q105, h⟩
                                                · refine zk_tsw_in X (v := 20) dL_law_33 q105 (by decide) (by decide) (off := 911) rfl (tgt := 944) (by decide) ?_
                                                  exact zk_sub [0, 1, 2, 3] rfl (B944 _ ih _ _ h)
                                                · rcases zk_if h with ⟨q110, h⟩ | ⟨q110, h⟩
                                                  · refine zk_tsw_in X (v := 21) dL_law_33 q110 (by decide) (by decide) (off := 954) rfl (tgt := 987) (by decide) ?_
                                                    exact zk_sub [0, 1, 2, 3] rfl (B987 _ ih _ _ h)
                                                  · rcases zk_if h with ⟨q115, h⟩ | ⟨q115, h⟩
                                                    · refine zk_tsw_in X (v := 22) dL_law_33 q115 (by decide) (by decide) (off := 987) rfl (tgt := 1020) (by decide) ?_
                                                      exact zk_sub [0, 1, 2, 3] rfl (B1020 _ ih _ _ h)
                                                    · rcases zk_if h with ⟨q120, h⟩ | ⟨q120, h⟩
                                                      · refine zk_tsw_in X (v := 23) dL_law_33 q120 (by decide) (by decide) (off := 1020) rfl (tgt := 1053) (by decide) ?_
                                                        exact zk_sub [0, 1, 2, 3] rfl (B1053 _ ih _ _ h)
                                                      · rcases zk_if h with ⟨q125, h⟩ | ⟨q125, h⟩
                                                        · refine zk_tsw_in X (v := 24) dL_law_33 q125 (by decide) (by decide) (off := 1053) rfl (tgt := 1086) (by decide) ?_
                                                          exact zk_sub [0, 1, 2, 3] rfl (B1086 _ ih _ _ h)
                                                        · rcases zk_if h with ⟨q130, h⟩ | ⟨q130, h⟩
                                                          · refine zk_tsw_in X (v := 25) dL_law_33 q130 (by decide) (by decide) (off := 1106) rfl (tgt := 1139) (by decide) ?_
                                                            exact zk_sub [0, 1, 2, 3] rfl (B1139 _ ih _ _ h)
                                                          · rcases zk_if h with ⟨q135, h⟩ | ⟨q135, h⟩
                                                            · refine zk_tsw_in X (v := 26) dL_law_33 q135 (by decide) (by decide) (off := 1129) rfl (tgt := 1162) (by decide) ?_
                                                              exact zk_sub [0, 1, 2, 3] rfl (B1162 _ ih _ _ h)
                                                            · rcases zk_if h with ⟨q140, h⟩ | ⟨q140, h⟩
                                                              · refine zk_tsw_in X (v := 27) dL_law_33 q140 (by decide) (by decide) (off := 1142) rfl (tgt := 1175) (by decide) ?_
                                                                exact zk_sub [0, 1, 2, 3] rfl (B1175 _ ih _ _ h)
                                                              · rcases zk_if h with ⟨q145, h⟩ | ⟨q145, h⟩
                                                                · refine zk_tsw_in X (v := 28) dL_law_33 q145 (by decide) (by decide) (off := 1155) rfl (tgt := 1188) (by decide) ?_
                                                                  exact zk_sub [0, 1, 2, 3] rfl (B1188 _ ih _ _ h)
                                                                · rcases zk_if h with ⟨q150, h⟩ | ⟨q150, h⟩
                                                                  · refine zk_tsw_in X (v := 29) dL_law_33 q150 (by decide) (by decide) (off := 1198) rfl (tgt := 1231) (by decide) ?_
                                                                    exact zk_sub [0, 1, 2, 3] rfl (B1231 _ ih _ _ h)
                                                                  · rcases zk_if h with ⟨q155, h⟩ | ⟨q155, h⟩
                                                                    · refine zk_tsw_in X (v := 30) dL_law_33 q155 (by decide) (by decide) (off := 1241) rfl (tgt := 1274) (by decide) ?_
                                                                      exact zk_sub [0, 1, 2, 3] rfl (B1274 _ ih _ _ h)
                                                                    · rcases zk_if h with ⟨q160, h⟩ | ⟨q160, h⟩
                                                                      · refine zk_tsw_in X (v := 31) dL_law_33 q160 (by decide) (by decide) (off := 1304) rfl (tgt := 1337) (by decide) ?_
                                                                        exact zk_sub [0, 1, 2, 3] rfl (B1337 _ ih _ _ h)
                                                                      · rcases zk_if h with ⟨q165, h⟩ | ⟨q165, h⟩
                                                                        · refine zk_tsw_in X (v := 32) dL_law_33 q165 (by decide) (by decide) (off := 1357) rfl (tgt := 1390) (by decide) ?_
                                                                          exact zk_sub [0, 1, 2, 3] rfl (B1390 _ ih _ _ h)
                                                                        · refine zk_tsw_out X dL_law_33 (by have := lv_neT (a := 0) q5 (by decide); have := lv_neT (a := 1) q10 (by decide); have := lv_neT (a := 2) q15 (by decide); have := lv_neT (a := 3) q20 (by decide); have := lv_neT (a := 4) q25 (by decide); have := lv_neT (a := 5) q30 (by decide); have := lv_neT (a := 6) q35 (by decide); have := lv_neT (a := 7) q40 (by decide); have := lv_neT (a := 8) q45 (by decide); have := lv_neT (a := 9) q50 (by decide); have := lv_neT (a := 10) q55 (by decide); have := lv_neT (a := 11) q60 (by decide); have := lv_neT (a := 12) q65 (by decide); have := lv_neT (a := 13) q70 (by decide); have := lv_neT (a := 14) q75 (by decide); have := lv_neT (a := 15) q80 (by decide); have := lv_neT (a := 16) q85 (by decide); have := lv_neT (a := 17) q90 (by decide); have := lv_neT (a := 18) q95 (by decide); have := lv_neT (a := 19) q100 (by decide); have := lv_neT (a := 20) q105 (by decide); have := lv_neT (a := 21) q110 (by decide); have := lv_neT (a := 22) q115 (by decide); have := lv_neT (a := 23) q120 (by decide); have := lv_neT (a := 24) q125 (by decide); have := lv_neT (a := 25) q130 (by decide); have := lv_neT (a := 26) q135 (by decide); have := lv_neT (a := 27) q140 (by decide); have := lv_neT (a := 28) q145 (by decide); have := lv_neT (a := 29) q150 (by decide); have := lv_neT (a := 30) q155 (by decide); have := lv_neT (a := 31) q160 (by decide); have := lv_neT (a := 32) q165 (by decide); omega) (tgt := 1433) (by decide) ?_
                                                                          exact zk_sub [0, 1, 2, 3] rfl (B1433 _ ih _ _ h)
  exact L18
