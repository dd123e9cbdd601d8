/-! the memory of both systems: cells by group and number; what is in them as whole numbers; rows of the machine over it -/
abbrev zk_Z : Type := (Nat → Nat → Nat → Int32) × (Nat → Int64)
abbrev zk_E : Type := va_G × (Nat → Nat → Nat) × (Nat → ClassId)
def zk_cnt : Nat → Nat := fun g => match g with
  | 0 => 1
  | 1 => 1
  | 2 => 1
  | 3 => 1
  | 4 => 6
  | 5 => 6
  | 6 => 1
  | 7 => 9
  | 8 => 9
  | 9 => 9
  | 10 => 1
  | 11 => 20
  | 12 => 1
  | 13 => 4
  | 14 => 4
  | 15 => 1
  | 16 => 1
  | 17 => 1
  | 18 => 1
  | 19 => 1
  | 20 => 1
  | 21 => 1
  | 22 => 1
  | 23 => 1
  | 24 => 1
  | 25 => 1
  | 26 => 1
  | 27 => 1
  | 28 => 1
  | 29 => 1
  | 30 => 1
  | 31 => 1
  | 32 => 1
  | 33 => 1
  | 34 => 1
  | 35 => 1
  | 36 => 1
  | 37 => 1
  | 38 => 1
  | 39 => 1
  | 40 => 1
  | 41 => 1
  | 42 => 1
  | 43 => 1
  | _ => 0
def zk_row (E : zk_E) (f : Nat → Int32) (q : Nat → Int64) (g k : Nat) : va_E := match g with
  | 0 => .inr (7, [.ref (E.2.1 1 0), .ref (E.2.1 3 0), .ref (E.2.1 6 0), .ref (E.2.1 10 0), .ref (E.2.1 12 0), .ref (E.2.1 15 0), .ref (E.2.1 16 0), .ref (E.2.1 7 8), .ref (E.2.1 17 0), .ref (E.2.1 18 0), .ref (E.2.1 19 0), .int (f 11), .int (f 12), .int (f 13), .int (f 14)])
  | 1 => .inr (5, [.ref (E.2.1 2 0), .int (f 1), .int (f 2), .int (f 3)])
  | 2 => .inl (E.2.2 0, 80, .inl f)
  | 3 => .inl (E.2.2 2, 6, .inr (.inr (.inr (.inr (fun j => some (E.2.1 4 j))))))
  | 4 => .inr (3, [.int (f 0), .int (f 1), .int (f 2), .int (f 3), .ref (E.2.1 5 k)])
  | 5 => .inl (E.2.2 0, 4, .inl f)
  | 6 => .inl (E.2.2 4, 8, .inr (.inr (.inr (.inr (fun j => some (E.2.1 7 j))))))
  | 7 => .inr (6, [.int (f 0), .int (f 1), .int (f 2), .int (f 3), .int (f 4), .int (f 5), .ref (E.2.1 8 k), .ref (E.2.1 9 k)])
  | 8 => .inl (E.2.2 0, 24, .inl f)
  | 9 => .inl (E.2.2 0, 24, .inl f)
  | 10 => .inl (E.2.2 1, 20, .inr (.inr (.inr (.inr (fun j => some (E.2.1 11 j))))))
  | 11 => .inr (0, [.int (f 0), .int (f 1), .int (f 2), .int (f 3)])
  | 12 => .inl (E.2.2 3, 4, .inr (.inr (.inr (.inr (fun j => some (E.2.1 13 j))))))
  | 13 => .inr (4, [.int (f 0), .int (f 1), .ref (E.2.1 14 k)])
  | 14 => .inl (E.2.2 0, 40, .inl f)
  | 15 => .inr (2, [.long (q 0)])
  | 16 => .inr (1, [.int (f 0), .int (f 1)])
  | 17 => .inl (E.2.2 0, 24, .inl f)
  | 18 => .inl (E.2.2 0, 24, .inl f)
  | 19 => .inl (E.2.2 0, 10, .inl f)
  | 20 => .inr (8, [.ref (E.2.1 21 0), .int (f 1), .int (f 2), .ref (E.2.1 22 0), .ref (E.2.1 23 0), .ref (E.2.1 24 0), .ref (E.2.1 25 0), .ref (E.2.1 26 0), .int (f 8), .ref (E.2.1 27 0), .ref (E.2.1 28 0), .ref (E.2.1 29 0), .ref (E.2.1 30 0), .ref (E.2.1 31 0), .ref (E.2.1 32 0), .ref (E.2.1 33 0), .ref (E.2.1 34 0), .int (f 17), .ref (E.2.1 35 0), .ref (E.2.1 36 0), .ref (E.2.1 37 0), .ref (E.2.1 38 0), .int (f 22), .int (f 23), .ref (E.2.1 39 0), .ref (E.2.1 40 0), .ref (E.2.1 41 0), .int (f 27), .long (q 1), .ref (E.2.1 42 0), .int (f 30), .ref (E.2.1 43 0)])
  | 21 => .inl (E.2.2 0, 80, .inl f)
  | 22 => .inl (E.2.2 0, 6, .inl f)
  | 23 => .inl (E.2.2 0, 6, .inl f)
  | 24 => .inl (E.2.2 0, 6, .inl f)
  | 25 => .inl (E.2.2 0, 6, .inl f)
  | 26 => .inl (E.2.2 0, 24, .inl f)
  | 27 => .inl (E.2.2 0, 9, .inl f)
  | 28 => .inl (E.2.2 0, 9, .inl f)
  | 29 => .inl (E.2.2 0, 9, .inl f)
  | 30 => .inl (E.2.2 0, 9, .inl f)
  | 31 => .inl (E.2.2 0, 9, .inl f)
  | 32 => .inl (E.2.2 0, 9, .inl f)
  | 33 => .inl (E.2.2 0, 216, .inl f)
  | 34 => .inl (E.2.2 0, 216, .inl f)
  | 35 => .inl (E.2.2 0, 20, .inl f)
  | 36 => .inl (E.2.2 0, 20, .inl f)
  | 37 => .inl (E.2.2 0, 20, .inl f)
  | 38 => .inl (E.2.2 0, 20, .inl f)
  | 39 => .inl (E.2.2 0, 4, .inl f)
  | 40 => .inl (E.2.2 0, 4, .inl f)
  | 41 => .inl (E.2.2 0, 160, .inl f)
  | 42 => .inl (E.2.2 0, 3, .inl f)
  | 43 => .inl (E.2.2 0, 48, .inl f)
  | _ => .inl (E.2.2 0, 0, .inl f)
def zk_cell (E : zk_E) (z : zk_Z) (g k : Nat) : va_E := zk_row E (z.1 g k) z.2 g k
def zk_sI (z : zk_Z) (g k i : Nat) (v : Int32) : zk_Z := (fun g' k' => if g' = g ∧ k' = k then upd (z.1 g k) i v else z.1 g' k', z.2)
def zk_sR (z : zk_Z) (g k : Nat) (f : Nat → Int32) : zk_Z := (fun g' k' => if g' = g ∧ k' = k then f else z.1 g' k', z.2)
def zk_sL (z : zk_Z) (j : Nat) (v : Int64) : zk_Z := (z.1, fun j' => if j' = j then v else z.2 j')
def zk_P (E : zk_E) (z : zk_Z) (H : Heap) : Prop := ∀ g k : Nat, k < zk_cnt g → va_at E.1 vwCl (E.2.1 g k, zk_cell E z g k) H
abbrev zk_tys (E : zk_E) : List (ClassId × FieldType) := [(E.2.2 0, .int), (E.2.2 1, .object RX0), (E.2.2 2, .object RX4), (E.2.2 3, .object RX5), (E.2.2 4, .object RX7)]
abbrev zk_K (E : zk_E) (U : State) : Prop := va_K E.1 vwCl (zk_tys E) U
def zk_inj (E : zk_E) : Prop := ∀ g k g' k' : Nat, k < zk_cnt g → k' < zk_cnt g' → E.2.1 g k = E.2.1 g' k' → g = g' ∧ k = k'
def zk_A (E : zk_E) : Nat → Prop := fun q => ∃ g k : Nat, k < zk_cnt g ∧ q = E.2.1 g k
/-- the table of the kinds above -/
def zk_above : Nat → Int32 := fun j => match j with | 0 => -1 | 1 => 0 | 2 => 0 | 3 => 1 | 4 => 2 | _ => 0
def zk_T (E : zk_E) (U : State) (H : Heap) : Prop := ∃ tb : Nat, va_Z "HiddenWorks$Kind" "ABOVE" "[I" (.ref tb) (zk_A E) U H ∧ va_T .int tb 6 (fun j => .int (zk_above j)) (zk_A E) U H
def zk_W (E : zk_E) (z : zk_Z) (U : State) : Prop := zk_P E z U.heap ∧ zk_K E U ∧ zk_T E U U.heap
theorem zk_row_q {E : zk_E} {f : Nat → Int32} {q q1 : Nat → Int64} {g k : Nat} (h0 : g = 15 → q1 0 = q 0) (h1 : g = 20 → q1 1 = q 1) : zk_row E f q1 g k = zk_row E f q g k := by
  unfold zk_row
  split <;> first | rfl | (rw [h0 rfl]) | (rw [h1 rfl])
theorem zk_one {E : zk_E} {z : zk_Z} {H : Heap} (hP : zk_P E z H) {g k : Nat} (hk : k < zk_cnt g) {e : va_E} (he : zk_cell E z g k = e) : va_P E.1 vwCl [(E.2.1 g k, e)] H := by
  intro i q hq
  match i, hq with
  | 0, hq => cases hq; rw [← he]; exact hP g k hk
  | i + 1, hq => simp at hq
theorem zk_P.setI {E : zk_E} {z : zk_Z} {H H1 : Heap} (hi : zk_inj E) (hP : zk_P E z H) {g k i : Nat} {v : Int32} (hk : k < zk_cnt g) (he : va_at E.1 vwCl (E.2.1 g k, zk_row E (upd (z.1 g k) i v) z.2 g k) H1) (oq : ∀ q : Nat, q ≠ E.2.1 g k → H1[q]? = H[q]?) : zk_P E (zk_sI z g k i v) H1 := by
  intro g' k' hk'
  by_cases h : g' = g ∧ k' = k
  · obtain ⟨rfl, rfl⟩ := h
    have hh : zk_cell E (zk_sI z g' k' i v) g' k' = zk_row E (upd (z.1 g' k') i v) z.2 g' k' := by simp [zk_cell, zk_sI]
    rw [hh]; exact he
  · have hh : zk_cell E (zk_sI z g k i v) g' k' = zk_cell E z g' k' := by simp [zk_cell, zk_sI, h]
    rw [hh]; exact (hP g' k' hk').kept (oq _ (fun e => h (hi _ _ _ _ hk' hk e)))
theorem zk_P.setR {E : zk_E} {z : zk_Z} {H H1 : Heap} (hi : zk_inj E) (hP : zk_P E z H) {g k : Nat} {f : Nat → Int32} (hk : k < zk_cnt g) (he : va_at E.1 vwCl (E.2.1 g k, zk_row E f z.2 g k) H1) (oq : ∀ q : Nat, q ≠ E.2.1 g k → H1[q]? = H[q]?) : zk_P E (zk_sR z g k f) H1 := by
  intro g' k' hk'
  by_cases h : g' = g ∧ k' = k
  · obtain ⟨rfl, rfl⟩ := h
    have hh : zk_cell E (zk_sR z g' k' f) g' k' = zk_row E f z.2 g' k' := by simp [zk_cell, zk_sR]
    rw [hh]; exact he
  · have hh : zk_cell E (zk_sR z g k f) g' k' = zk_cell E z g' k' := by simp [zk_cell, zk_sR, h]
    rw [hh]; exact (hP g' k' hk').kept (oq _ (fun e => h (hi _ _ _ _ hk' hk e)))
theorem zk_T.go {E : zk_E} {s U : State} {H : Heap} {locs : List Loc} (h : zk_T E s s.heap) (hS : va_S (zk_A E) s.heap H locs) (hvm : s.vm.Alike U.vm) (hU : U.heap = H) : zk_T E U U.heap := by
  obtain ⟨tb, h1, h2⟩ := h
  rw [hU]
  exact ⟨tb, (h1.kept (fun a x y => hS.2.1 a x y)).moved hvm, (h2.kept (fun a x y => hS.2.1 a x y)).moved hvm⟩
theorem zk_W.go {E : zk_E} {z : zk_Z} {s U : State} {H : Heap} {locs : List Loc} (hK : zk_K E s) (hT : zk_T E s s.heap) (hP : zk_P E z H) (hS : va_S (zk_A E) s.heap H locs) (hvm : s.vm.Alike U.vm) (hU : U.heap = H) : zk_W E z U :=
  ⟨by rw [hU]; exact hP, va_K.moved hvm hK, hT.go hS hvm hU⟩
theorem zk_blind {E : zk_E} {z : zk_Z} {av : List Value} : FrameBlind (va_Pc av (zk_W E z)) := by
  intro a U g mk q
  obtain ⟨q1, q2, q3, tb, q4, q5⟩ := q
  exact ⟨q1, q2, va_K.moved (u := U) (U := U.calling g mk a) (Vm.Alike.refl U.vm) q3, tb, va_Z.moved (u := U) (U := U.calling g mk a) (Vm.Alike.refl U.vm) q4, va_T.moved (u := U) (U := U.calling g mk a) (Vm.Alike.refl U.vm) q5⟩
/-- what a method gives back -/
abbrev zk_Qi (E : zk_E) (r : Int32) (z : zk_Z) : Array Value → State → Outcome → State → Prop := va_Qi (fun (a : Int32) (u : zk_Z) => a = r ∧ u = z) (fun u t => zk_W E u t) (zk_A E)
abbrev zk_Ql (E : zk_E) (r : Int64) (z : zk_Z) : Array Value → State → Outcome → State → Prop := va_Ql (fun (a : Int64) (u : zk_Z) => a = r ∧ u = z) (fun u t => zk_W E u t) (zk_A E)
abbrev zk_Qv (E : zk_E) (z : zk_Z) : Array Value → State → Outcome → State → Prop := va_Qv (fun (u : zk_Z) => u = z) (fun u t => zk_W E u t) (zk_A E)
abbrev zk_Qq (E : zk_E) (g : Nat) (r : Option Nat) (z : zk_Z) : Array Value → State → Outcome → State → Prop := va_Qq (fun (a : Option Nat) (u : zk_Z) => a = r.map (E.2.1 g) ∧ (∀ k : Nat, r = some k → k < zk_cnt g) ∧ u = z) (fun u t => zk_W E u t) (zk_A E)
/-! the words of the functions -/
def zk_ix (i : Int32) (n : Nat) : Bool := !(decide (i < 0) || decide (n ≤ i.toNatClampNeg))
def zk_gd {α : Type} (b : Bool) (x : Option α) : Option α := match b with | true => x | false => none
def zk_bd {ρ α : Type} (x : Option (ρ × zk_Z)) (k : ρ → zk_Z → Option α) : Option α := match x with | some (r, z) => k r z | none => none
def zk_oc {β : Type} (o : Option Nat) (a : β) (f : Nat → β) : β := match o with | none => a | some k => f k
def zk_cp (i j n : Int32) (N : Nat) : Bool := decide ((¬ i < 0 ∧ ¬ j < 0 ∧ ¬ n < 0) ∧ i.toNatClampNeg + n.toNatClampNeg ≤ N ∧ j.toNatClampNeg + n.toNatClampNeg ≤ N)
def zk_bz (x : Int32) : Bool := decide (narrow .boolean (.int x) = .int x)
def zk_nz (x : Int32) : Bool := !decide (x = 0)
def zk_nzl (x : Int64) : Bool := !decide (x = 0)
def zk_FU : Nat := 6000
theorem zk_gd_some {α : Type} {b : Bool} {x : Option α} {o : α} (h : zk_gd b x = some o) : b = true ∧ x = some o := by
  cases b with
  | true => exact ⟨rfl, h⟩
  | false => cases h
theorem zk_bd_some {ρ α : Type} {x : Option (ρ × zk_Z)} {k : ρ → zk_Z → Option α} {o : α} (h : zk_bd x k = some o) : ∃ (r : ρ) (z : zk_Z), x = some (r, z) ∧ k r z = some o := by
  match x, h with
  | some (r, z), h => exact ⟨r, z, rfl, h⟩
theorem zk_ix_in {i : Int32} {n : Nat} (h : zk_ix i n = true) : vp_in i n := by
  unfold zk_ix at h
  intro q
  rcases q with q | q <;> simp [q] at h
theorem zk_iff {α : Type} {c : Prop} {I : Decidable c} {a b : Option α} {o : α} (h : (@ite (Option α) c I a b) = some o) : (c → a = some o) ∧ (¬ c → b = some o) :=
  ⟨fun hc => by rw [if_pos hc] at h; exact h, fun hc => by rw [if_neg hc] at h; exact h⟩
theorem zk_if {α : Type} {c : Prop} {I : Decidable c} {a b : Option α} {o : α} (h : (@ite (Option α) c I a b) = some o) : (c ∧ a = some o) ∨ (¬ c ∧ b = some o) := by
  by_cases hc : c
  · rw [if_pos hc] at h; exact Or.inl ⟨hc, h⟩
  · rw [if_neg hc] at h; exact Or.inr ⟨hc, h⟩
/-! the judgement over the memory: at pc, with these locals, this stack, this memory -/
def zk_G (p : Program) (l : Launch) (e : Env) (R : Room) (s : State) (m : MethodId) (args : Array Value) (below : List Frame) (meth : Method) (c : Code) (E : zk_E) (nL cells slots : Nat) (Q : State → Prop) (pc : Nat) (lv : List (Nat × Value)) (st : List Value) (z : zk_Z) : Prop :=
  ∀ (H : Heap) (locs : List Loc) (ls : Array Slot), zk_P E z H → va_S (zk_A E) s.heap H locs → lv_has ls nL lv → W p l e R s m args below meth c H locs cells slots Q (F0 m pc ls st)
/-- what stays the same all through a method -/
def zk_X (p : Program) (R : Room) (s : State) (m : MethodId) (args : Array Value) (meth : Method) (c : Code) (E : zk_E) (cc : ByteArray) (nL cells slots : Nat) (Ts : List Cond) (own : String) : Prop :=
  CallFix p m c cc nL s args Ts own ∧ (meth.locks = false ∧ zk_K E s ∧ zk_T E s s.heap ∧ zk_inj E) ∧ (cells ≤ R.cells ∧ slots ≤ R.slots)
section ZK
variable {p : Program} {l : Launch} {e : Env} {R : Room} {s : State} {m : MethodId} {args : Array Value} {below : List Frame} {meth : Method} {c : Code} {cells slots : Nat} {Q : State → Prop}
variable {cc : ByteArray} {pc nL : Nat} {lv : List (Nat × Value)} {st : List Value} {E : zk_E} {z : zk_Z} {Ts : List Cond} {own : String} {α : Type} {o : α}
theorem zk_iconst (X : zk_X p R s m args meth c E cc nL cells slots Ts own) {n : Int} {v : Int32} (hdg : decode cc pc = .ok (.iconst n, 1)) (hv : Int32.ofInt n = v) (k : zk_G p l e R s m args below meth c E nL cells slots Q (pc + 1) lv (.int v :: st) z) : zk_G p l e R s m args below meth c E nL cells slots Q pc lv st z :=
  fun H locs ls hP hS hl => lv_iconst X.1.1 X.1.2.1 hdg hv (k H locs ls hP hS hl)
theorem zk_bipush (X : zk_X p R s m args meth c E cc nL cells slots Ts own) {n : Int} {v : Int32} (hdg : decode cc pc = .ok (.bipush n, 2)) (hv : (Int8.ofInt n).toInt32 = v) (k : zk_G p l e R s m args below meth c E nL cells slots Q (pc + 2) lv (.int v :: st) z) : zk_G p l e R s m args below meth c E nL cells slots Q pc lv st z :=
  fun H locs ls hP hS hl => lv_bipush X.1.1 X.1.2.1 hdg hv (k H locs ls hP hS hl)
theorem zk_sipush (X : zk_X p R s m args meth c E cc nL cells slots Ts own) {n : Int} {v : Int32} (hdg : decode cc pc = .ok (.sipush n, 3)) (hv : (Int16.ofInt n).toInt32 = v) (k : zk_G p l e R s m args below meth c E nL cells slots Q (pc + 3) lv (.int v :: st) z) : zk_G p l e R s m args below meth c E nL cells slots Q pc lv st z :=
  fun H locs ls hP hS hl => lv_sipush X.1.1 X.1.2.1 hdg hv (k H locs ls hP hS hl)
theorem zk_lconst (X : zk_X p R s m args meth c E cc nL cells slots Ts own) {n : Fin 2} {v : Int64} (hdg : decode cc pc = .ok (.lconst n, 1)) (hv : Int64.ofNat (n : Nat) = v) (k : zk_G p l e R s m args below meth c E nL cells slots Q (pc + 1) lv (.long v :: st) z) : zk_G p l e R s m args below meth c E nL cells slots Q pc lv st z :=
  fun H locs ls hP hS hl => lv_lconst X.1.1 X.1.2.1 hdg hv (k H locs ls hP hS hl)
theorem zk_ldc (X : zk_X p R s m args meth c E cc nL cells slots Ts own) {index : Nat} {v : Int32} (hw : Jvm.Cond.constant own index v ∈ Ts) (hdg : decode cc pc = .ok (.ldc index, 2)) (k : zk_G p l e R s m args below meth c E nL cells slots Q (pc + 2) lv (.int v :: st) z) : zk_G p l e R s m args below meth c E nL cells slots Q pc lv st z :=
  fun H locs ls hP hS hl => lv_ldc X.1.1 X.1.2.1 X.1.2.2.2.1 (X.1.2.2.2.2 _ hw) hdg (k H locs ls hP hS hl)
theorem zk_ldcw (X : zk_X p R s m args meth c E cc nL cells slots Ts own) {index : Nat} {v : Int32} (hw : Jvm.Cond.constant own index v ∈ Ts) (hdg : decode cc pc = .ok (.ldc_w index, 3)) (k : zk_G p l e R s m args below meth c E nL cells slots Q (pc + 3) lv (.int v :: st) z) : zk_G p l e R s m args below meth c E nL cells slots Q pc lv st z :=
  fun H locs ls hP hS hl => lv_ldcw X.1.1 X.1.2.1 X.1.2.2.2.1 (X.1.2.2.2.2 _ hw) hdg (k H locs ls hP hS hl)
theorem zk_ldc2 (X : zk_X p R s m args meth c E cc nL cells slots Ts own) {index : Nat} {v : Int64} (hw : Jvm.Cond.constantLong own index v ∈ Ts) (hdg : decode cc pc = .ok (.ldc2_w index, 3)) (k : zk_G p l e R s m args below meth c E nL cells slots Q (pc + 3) lv (.long v :: st) z) : zk_G p l e R s m args below meth c E nL cells slots Q pc lv st z :=
  fun H locs ls hP hS hl => lv_ldc2 X.1.1 X.1.2.1 X.1.2.2.2.1 (X.1.2.2.2.2 _ hw) hdg (k H locs ls hP hS hl)
theorem zk_iload_n (X : zk_X p R s m args meth c E cc nL cells slots Ts own) {k : Fin 4} {i : Nat} {x : Int32} (j : Nat) (hdg : decode cc pc = .ok (.iload_n k, 1)) (hi : (k : Nat) = i) (hj : lv[j]? = some (i, .int x)) (kk : zk_G p l e R s m args below meth c E nL cells slots Q (pc + 1) lv (.int x :: st) z) : zk_G p l e R s m args below meth c E nL cells slots Q pc lv st z :=
  fun H locs ls hP hS hl => lv_iload_n X.1.1 X.1.2.1 hdg hi (lv_at hl j hj) (kk H locs ls hP hS hl)
theorem zk_iload (X : zk_X p R s m args meth c E cc nL cells slots Ts own) {i : Nat} {x : Int32} (j : Nat) (hdg : decode cc pc = .ok (.iload i, 2)) (hj : lv[j]? = some (i, .int x)) (kk : zk_G p l e R s m args below meth c E nL cells slots Q (pc + 2) lv (.int x :: st) z) : zk_G p l e R s m args below meth c E nL cells slots Q pc lv st z :=
  fun H locs ls hP hS hl => lv_iload X.1.1 X.1.2.1 hdg (lv_at hl j hj) (kk H locs ls hP hS hl)
theorem zk_lload_n (X : zk_X p R s m args meth c E cc nL cells slots Ts own) {k : Fin 4} {i : Nat} {x : Int64} (j : Nat) (hdg : decode cc pc = .ok (.lload_n k, 1)) (hi : (k : Nat) = i) (hj : lv[j]? = some (i, .long x)) (kk : zk_G p l e R s m args below meth c E nL cells slots Q (pc + 1) lv (.long x :: st) z) : zk_G p l e R s m args below meth c E nL cells slots Q pc lv st z :=
  fun H locs ls hP hS hl => lv_lload_n X.1.1 X.1.2.1 hdg hi (lv_at hl j hj) (kk H locs ls hP hS hl)
theorem zk_lload (X : zk_X p R s m args meth c E cc nL cells slots Ts own) {i : Nat} {x : Int64} (j : Nat) (hdg : decode cc pc = .ok (.lload i, 2)) (hj : lv[j]? = some (i, .long x)) (kk : zk_G p l e R s m args below meth c E nL cells slots Q (pc + 2) lv (.long x :: st) z) : zk_G p l e R s m args below meth c E nL cells slots Q pc lv st z :=
  fun H locs ls hP hS hl => lv_lload X.1.1 X.1.2.1 hdg (lv_at hl j hj) (kk H locs ls hP hS hl)
theorem zk_aload_n (X : zk_X p R s m args meth c E cc nL cells slots Ts own) {k : Fin 4} {i : Nat} {x : Nat} (j : Nat) (hdg : decode cc pc = .ok (.aload_n k, 1)) (hi : (k : Nat) = i) (hj : lv[j]? = some (i, .ref x)) (kk : zk_G p l e R s m args below meth c E nL cells slots Q (pc + 1) lv (.ref x :: st) z) : zk_G p l e R s m args below meth c E nL cells slots Q pc lv st z :=
  fun H locs ls hP hS hl => lv_aload_n X.1.1 X.1.2.1 hdg hi (lv_at hl j hj) (kk H locs ls hP hS hl)
theorem zk_aload (X : zk_X p R s m args meth c E cc nL cells slots Ts own) {i : Nat} {x : Nat} (j : Nat) (hdg : decode cc pc = .ok (.aload i, 2)) (hj : lv[j]? = some (i, .ref x)) (kk : zk_G p l e R s m args below meth c E nL cells slots Q (pc + 2) lv (.ref x :: st) z) : zk_G p l e R s m args below meth c E nL cells slots Q pc lv st z :=
  fun H locs ls hP hS hl => lv_aload X.1.1 X.1.2.1 hdg (lv_at hl j hj) (kk H locs ls hP hS hl)
theorem zk_aload_nN (X : zk_X p R s m args meth c E cc nL cells slots Ts own) {k : Fin 4} {i : Nat} (j : Nat) (hdg : decode cc pc = .ok (.aload_n k, 1)) (hi : (k : Nat) = i) (hj : lv[j]? = some (i, .null)) (kk : zk_G p l e R s m args below meth c E nL cells slots Q (pc + 1) lv (.null :: st) z) : zk_G p l e R s m args below meth c E nL cells slots Q pc lv st z :=
  fun H locs ls hP hS hl => lv_aload_nN X.1.1 X.1.2.1 hdg hi (lv_at hl j hj) (kk H locs ls hP hS hl)
theorem zk_aloadN (X : zk_X p R s m args meth c E cc nL cells slots Ts own) {i : Nat} (j : Nat) (hdg : decode cc pc = .ok (.aload i, 2)) (hj : lv[j]? = some (i, .null)) (kk : zk_G p l e R s m args below meth c E nL cells slots Q (pc + 2) lv (.null :: st) z) : zk_G p l e R s m args below meth c E nL cells slots Q pc lv st z :=
  fun H locs ls hP hS hl => lv_aloadN X.1.1 X.1.2.1 hdg (lv_at hl j hj) (kk H locs ls hP hS hl)
theorem zk_istore_n (X : zk_X p R s m args meth c E cc nL cells slots Ts own) {k : Fin 4} {i : Nat} {x : Int32} {lv' : List (Nat × Value)} (hdg : decode cc pc = .ok (.istore_n k, 1)) (hi : (k : Nat) = i) (hn : i < nL) (hl' : (i, Value.int x) :: lv.filter (fun q => !(q.1 == i) && !(q.1 + 1 == i && q.2.category == 2)) = lv') (kk : zk_G p l e R s m args below meth c E nL cells slots Q (pc + 1) lv' st z) : zk_G p l e R s m args below meth c E nL cells slots Q pc lv (.int x :: st) z :=
  fun H locs _ hP hS hl => lv_istore_n X.1.1 X.1.2.1 hdg hi hl hn hl' (fun ls hl => kk H locs ls hP hS hl)
theorem zk_istore (X : zk_X p R s m args meth c E cc nL cells slots Ts own) {i : Nat} {x : Int32} {lv' : List (Nat × Value)} (hdg : decode cc pc = .ok (.istore i, 2)) (hn : i < nL) (hl' : (i, Value.int x) :: lv.filter (fun q => !(q.1 == i) && !(q.1 + 1 == i && q.2.category == 2)) = lv') (kk : zk_G p l e R s m args below meth c E nL cells slots Q (pc + 2) lv' st z) : zk_G p l e R s m args below meth c E nL cells slots Q pc lv (.int x :: st) z :=
  fun H locs _ hP hS hl => lv_istore X.1.1 X.1.2.1 hdg hl hn hl' (fun ls hl => kk H locs ls hP hS hl)
theorem zk_lstore_n (X : zk_X p R s m args meth c E cc nL cells slots Ts own) {k : Fin 4} {i : Nat} {x : Int64} {lv' : List (Nat × Value)} (hdg : decode cc pc = .ok (.lstore_n k, 1)) (hi : (k : Nat) = i) (hn : i + 1 < nL) (hl' : (i, Value.long x) :: lv.filter (fun q => !(q.1 == i) && (!(q.1 == i + 1) && !(q.1 + 1 == i && q.2.category == 2))) = lv') (kk : zk_G p l e R s m args below meth c E nL cells slots Q (pc + 1) lv' st z) : zk_G p l e R s m args below meth c E nL cells slots Q pc lv (.long x :: st) z :=
  fun H locs _ hP hS hl => lv_lstore_n X.1.1 X.1.2.1 hdg hi hl hn hl' (fun ls hl => kk H locs ls hP hS hl)
theorem zk_lstore (X : zk_X p R s m args meth c E cc nL cells slots Ts own) {i : Nat} {x : Int64} {lv' : List (Nat × Value)} (hdg : decode cc pc = .ok (.lstore i, 2)) (hn : i + 1 < nL) (hl' : (i, Value.long x) :: lv.filter (fun q => !(q.1 == i) && (!(q.1 == i + 1) && !(q.1 + 1 == i && q.2.category == 2))) = lv') (kk : zk_G p l e R s m args below meth c E nL cells slots Q (pc + 2) lv' st z) : zk_G p l e R s m args below meth c E nL cells slots Q pc lv (.long x :: st) z :=
  fun H locs _ hP hS hl => lv_lstore X.1.1 X.1.2.1 hdg hl hn hl' (fun ls hl => kk H locs ls hP hS hl)
theorem zk_astore_n (X : zk_X p R s m args meth c E cc nL cells slots Ts own) {k : Fin 4} {i : Nat} {x : Nat} {lv' : List (Nat × Value)} (hdg : decode cc pc = .ok (.astore_n k, 1)) (hi : (k : Nat) = i) (hn : i < nL) (hl' : (i, Value.ref x) :: lv.filter (fun q => !(q.1 == i) && !(q.1 + 1 == i && q.2.category == 2)) = lv') (kk : zk_G p l e R s m args below meth c E nL cells slots Q (pc + 1) lv' st z) : zk_G p l e R s m args below meth c E nL cells slots Q pc lv (.ref x :: st) z :=
  fun H locs _ hP hS hl => lv_astore_n X.1.1 X.1.2.1 hdg hi hl hn hl' (fun ls hl => kk H locs ls hP hS hl)
theorem zk_astore (X : zk_X p R s m args meth c E cc nL cells slots Ts own) {i : Nat} {x : Nat} {lv' : List (Nat × Value)} (hdg : decode cc pc = .ok (.astore i, 2)) (hn : i < nL) (hl' : (i, Value.ref x) :: lv.filter (fun q => !(q.1 == i) && !(q.1 + 1 == i && q.2.category == 2)) = lv') (kk : zk_G p l e R s m args below meth c E nL cells slots Q (pc + 2) lv' st z) : zk_G p l e R s m args below meth c E nL cells slots Q pc lv (.ref x :: st) z :=
  fun H locs _ hP hS hl => lv_astore X.1.1 X.1.2.1 hdg hl hn hl' (fun ls hl => kk H locs ls hP hS hl)
theorem zk_astore_nN (X : zk_X p R s m args meth c E cc nL cells slots Ts own) {k : Fin 4} {i : Nat} {lv' : List (Nat × Value)} (hdg : decode cc pc = .ok (.astore_n k, 1)) (hi : (k : Nat) = i) (hn : i < nL) (hl' : (i, Value.null) :: lv.filter (fun q => !(q.1 == i) && !(q.1 + 1 == i && q.2.category == 2)) = lv') (kk : zk_G p l e R s m args below meth c E nL cells slots Q (pc + 1) lv' st z) : zk_G p l e R s m args below meth c E nL cells slots Q pc lv (.null :: st) z :=
  fun H locs _ hP hS hl => lv_astore_nN X.1.1 X.1.2.1 hdg hi hl hn hl' (fun ls hl => kk H locs ls hP hS hl)
theorem zk_astoreN (X : zk_X p R s m args meth c E cc nL cells slots Ts own) {i : Nat} {lv' : List (Nat × Value)} (hdg : decode cc pc = .ok (.astore i, 2)) (hn : i < nL) (hl' : (i, Value.null) :: lv.filter (fun q => !(q.1 == i) && !(q.1 + 1 == i && q.2.category == 2)) = lv') (kk : zk_G p l e R s m args below meth c E nL cells slots Q (pc + 2) lv' st z) : zk_G p l e R s m args below meth c E nL cells slots Q pc lv (.null :: st) z :=
  fun H locs _ hP hS hl => lv_astoreN X.1.1 X.1.2.1 hdg hl hn hl' (fun ls hl => kk H locs ls hP hS hl)
theorem zk_iinc (X : zk_X p R s m args meth c E cc nL cells slots Ts own) {i : Nat} {n : Int} {x v : Int32} {lv' : List (Nat × Value)} (k : Nat) (hdg : decode cc pc = .ok (.iinc i n, 3)) (hk : lv[k]? = some (i, .int x)) (hv : x + Int32.ofInt n = v) (hn : i < nL) (hl' : (i, Value.int v) :: lv.filter (fun q => !(q.1 == i) && !(q.1 + 1 == i && q.2.category == 2)) = lv') (kk : zk_G p l e R s m args below meth c E nL cells slots Q (pc + 3) lv' st z) : zk_G p l e R s m args below meth c E nL cells slots Q pc lv st z :=
  fun H locs _ hP hS hl => lv_iinc (k := k) X.1.1 X.1.2.1 hdg hl hk hv hn hl' (fun ls hl => kk H locs ls hP hS hl)
theorem zk_sub {lv' : List (Nat × Value)} (ks : List Nat) (hl' : lv_pick lv ks = lv') (kk : zk_G p l e R s m args below meth c E nL cells slots Q pc lv' st z) : zk_G p l e R s m args below meth c E nL cells slots Q pc lv st z :=
  fun H locs ls hP hS hl => kk H locs ls hP hS (lv_sub hl ks hl')
theorem zk_iadd (X : zk_X p R s m args meth c E cc nL cells slots Ts own) {x y : Int32} (hdg : decode cc pc = .ok (.iadd, 1)) (k : zk_G p l e R s m args below meth c E nL cells slots Q (pc + 1) lv (.int (x + y) :: st) z) : zk_G p l e R s m args below meth c E nL cells slots Q pc lv (.int y :: .int x :: st) z :=
  fun H locs ls hP hS hl => lv_iadd X.1.1 X.1.2.1 hdg (k H locs ls hP hS hl)
theorem zk_isub (X : zk_X p R s m args meth c E cc nL cells slots Ts own) {x y : Int32} (hdg : decode cc pc = .ok (.isub, 1)) (k : zk_G p l e R s m args below meth c E nL cells slots Q (pc + 1) lv (.int (x - y) :: st) z) : zk_G p l e R s m args below meth c E nL cells slots Q pc lv (.int y :: .int x :: st) z :=
  fun H locs ls hP hS hl => lv_isub X.1.1 X.1.2.1 hdg (k H locs ls hP hS hl)
theorem zk_imul (X : zk_X p R s m args meth c E cc nL cells slots Ts own) {x y : Int32} (hdg : decode cc pc = .ok (.imul, 1)) (k : zk_G p l e R s m args below meth c E nL cells slots Q (pc + 1) lv (.int (x * y) :: st) z) : zk_G p l e R s m args below meth c E nL cells slots Q pc lv (.int y :: .int x :: st) z :=
  fun H locs ls hP hS hl => lv_imul X.1.1 X.1.2.1 hdg (k H locs ls hP hS hl)
theorem zk_iand (X : zk_X p R s m args meth c E cc nL cells slots Ts own) {x y : Int32} (hdg : decode cc pc = .ok (.iand, 1)) (k : zk_G p l e R s m args below meth c E nL cells slots Q (pc + 1) lv (.int (x &&& y) :: st) z) : zk_G p l e R s m args below meth c E nL cells slots Q pc lv (.int y :: .int x :: st) z :=
  fun H locs ls hP hS hl => lv_iand X.1.1 X.1.2.1 hdg (k H locs ls hP hS hl)
theorem zk_ior (X : zk_X p R s m args meth c E cc nL cells slots Ts own) {x y : Int32} (hdg : decode cc pc = .ok (.ior, 1)) (k : zk_G p l e R s m args below meth c E nL cells slots Q (pc + 1) lv (.int (x ||| y) :: st) z) : zk_G p l e R s m args below meth c E nL cells slots Q pc lv (.int y :: .int x :: st) z :=
  fun H locs ls hP hS hl => lv_ior X.1.1 X.1.2.1 hdg (k H locs ls hP hS hl)
theorem zk_ixor (X : zk_X p R s m args meth c E cc nL cells slots Ts own) {x y : Int32} (hdg : decode cc pc = .ok (.ixor, 1)) (k : zk_G p l e R s m args below meth c E nL cells slots Q (pc + 1) lv (.int (x ^^^ y) :: st) z) : zk_G p l e R s m args below meth c E nL cells slots Q pc lv (.int y :: .int x :: st) z :=
  fun H locs ls hP hS hl => lv_ixor X.1.1 X.1.2.1 hdg (k H locs ls hP hS hl)
theorem zk_ishl (X : zk_X p R s m args meth c E cc nL cells slots Ts own) {x y : Int32} (hdg : decode cc pc = .ok (.ishl, 1)) (k : zk_G p l e R s m args below meth c E nL cells slots Q (pc + 1) lv (.int (x <<< (y &&& 31)) :: st) z) : zk_G p l e R s m args below meth c E nL cells slots Q pc lv (.int y :: .int x :: st) z :=
  fun H locs ls hP hS hl => lv_ishl X.1.1 X.1.2.1 hdg (k H locs ls hP hS hl)
theorem zk_ishr (X : zk_X p R s m args meth c E cc nL cells slots Ts own) {x y : Int32} (hdg : decode cc pc = .ok (.ishr, 1)) (k : zk_G p l e R s m args below meth c E nL cells slots Q (pc + 1) lv (.int (x >>> (y &&& 31)) :: st) z) : zk_G p l e R s m args below meth c E nL cells slots Q pc lv (.int y :: .int x :: st) z :=
  fun H locs ls hP hS hl => lv_ishr X.1.1 X.1.2.1 hdg (k H locs ls hP hS hl)
theorem zk_ladd (X : zk_X p R s m args meth c E cc nL cells slots Ts own) {x y : Int64} (hdg : decode cc pc = .ok (.ladd, 1)) (k : zk_G p l e R s m args below meth c E nL cells slots Q (pc + 1) lv (.long (x + y) :: st) z) : zk_G p l e R s m args below meth c E nL cells slots Q pc lv (.long y :: .long x :: st) z :=
  fun H locs ls hP hS hl => lv_ladd X.1.1 X.1.2.1 hdg (k H locs ls hP hS hl)
theorem zk_lmul (X : zk_X p R s m args meth c E cc nL cells slots Ts own) {x y : Int64} (hdg : decode cc pc = .ok (.lmul, 1)) (k : zk_G p l e R s m args below meth c E nL cells slots Q (pc + 1) lv (.long (x * y) :: st) z) : zk_G p l e R s m args below meth c E nL cells slots Q pc lv (.long y :: .long x :: st) z :=
  fun H locs ls hP hS hl => lv_lmul X.1.1 X.1.2.1 hdg (k H locs ls hP hS hl)
theorem zk_land (X : zk_X p R s m args meth c E cc nL cells slots Ts own) {x y : Int64} (hdg : decode cc pc = .ok (.land, 1)) (k : zk_G p l e R s m args below meth c E nL cells slots Q (pc + 1) lv (.long (x &&& y) :: st) z) : zk_G p l e R s m args below meth c E nL cells slots Q pc lv (.long y :: .long x :: st) z :=
  fun H locs ls hP hS hl => lv_land X.1.1 X.1.2.1 hdg (k H locs ls hP hS hl)
theorem zk_lor (X : zk_X p R s m args meth c E cc nL cells slots Ts own) {x y : Int64} (hdg : decode cc pc = .ok (.lor, 1)) (k : zk_G p l e R s m args below meth c E nL cells slots Q (pc + 1) lv (.long (x ||| y) :: st) z) : zk_G p l e R s m args below meth c E nL cells slots Q pc lv (.long y :: .long x :: st) z :=
  fun H locs ls hP hS hl => lv_lor X.1.1 X.1.2.1 hdg (k H locs ls hP hS hl)
theorem zk_ineg (X : zk_X p R s m args meth c E cc nL cells slots Ts own) {x : Int32} (hdg : decode cc pc = .ok (.ineg, 1)) (k : zk_G p l e R s m args below meth c E nL cells slots Q (pc + 1) lv (.int (0 - x) :: st) z) : zk_G p l e R s m args below meth c E nL cells slots Q pc lv (.int x :: st) z :=
  fun H locs ls hP hS hl => lv_ineg X.1.1 X.1.2.1 hdg (k H locs ls hP hS hl)
theorem zk_lneg (X : zk_X p R s m args meth c E cc nL cells slots Ts own) {x : Int64} (hdg : decode cc pc = .ok (.lneg, 1)) (k : zk_G p l e R s m args below meth c E nL cells slots Q (pc + 1) lv (.long (0 - x) :: st) z) : zk_G p l e R s m args below meth c E nL cells slots Q pc lv (.long x :: st) z :=
  fun H locs ls hP hS hl => lv_lneg X.1.1 X.1.2.1 hdg (k H locs ls hP hS hl)
theorem zk_i2l (X : zk_X p R s m args meth c E cc nL cells slots Ts own) {x : Int32} (hdg : decode cc pc = .ok (.i2l, 1)) (k : zk_G p l e R s m args below meth c E nL cells slots Q (pc + 1) lv (.long (x.toInt64) :: st) z) : zk_G p l e R s m args below meth c E nL cells slots Q pc lv (.int x :: st) z :=
  fun H locs ls hP hS hl => lv_i2l X.1.1 X.1.2.1 hdg rfl (k H locs ls hP hS hl)
theorem zk_l2i (X : zk_X p R s m args meth c E cc nL cells slots Ts own) {x : Int64} (hdg : decode cc pc = .ok (.l2i, 1)) (k : zk_G p l e R s m args below meth c E nL cells slots Q (pc + 1) lv (.int (x.toInt32) :: st) z) : zk_G p l e R s m args below meth c E nL cells slots Q pc lv (.long x :: st) z :=
  fun H locs ls hP hS hl => lv_l2i X.1.1 X.1.2.1 hdg rfl (k H locs ls hP hS hl)
theorem zk_i2b (X : zk_X p R s m args meth c E cc nL cells slots Ts own) {x : Int32} (hdg : decode cc pc = .ok (.i2b, 1)) (k : zk_G p l e R s m args below meth c E nL cells slots Q (pc + 1) lv (.int (x.toInt8.toInt32) :: st) z) : zk_G p l e R s m args below meth c E nL cells slots Q pc lv (.int x :: st) z :=
  fun H locs ls hP hS hl => lv_i2b X.1.1 X.1.2.1 hdg rfl (k H locs ls hP hS hl)
theorem zk_i2s (X : zk_X p R s m args meth c E cc nL cells slots Ts own) {x : Int32} (hdg : decode cc pc = .ok (.i2s, 1)) (k : zk_G p l e R s m args below meth c E nL cells slots Q (pc + 1) lv (.int (x.toInt16.toInt32) :: st) z) : zk_G p l e R s m args below meth c E nL cells slots Q pc lv (.int x :: st) z :=
  fun H locs ls hP hS hl => lv_i2s X.1.1 X.1.2.1 hdg rfl (k H locs ls hP hS hl)
theorem zk_iushr (X : zk_X p R s m args meth c E cc nL cells slots Ts own) {x y : Int32} (hdg : decode cc pc = .ok (.iushr, 1)) (k : zk_G p l e R s m args below meth c E nL cells slots Q (pc + 1) lv (.int ((x.toUInt32 >>> (y.toUInt32 &&& Int32.toUInt32 31)).toInt32) :: st) z) : zk_G p l e R s m args below meth c E nL cells slots Q pc lv (.int y :: .int x :: st) z :=
  fun H locs ls hP hS hl => lv_iushr X.1.1 X.1.2.1 hdg rfl (k H locs ls hP hS hl)
theorem zk_lushr (X : zk_X p R s m args meth c E cc nL cells slots Ts own) {x : Int64} {y : Int32} (hdg : decode cc pc = .ok (.lushr, 1)) (k : zk_G p l e R s m args below meth c E nL cells slots Q (pc + 1) lv (.long ((x.toUInt64 >>> (y.toInt64.toUInt64 &&& Int64.toUInt64 63)).toInt64) :: st) z) : zk_G p l e R s m args below meth c E nL cells slots Q pc lv (.int y :: .long x :: st) z :=
  fun H locs ls hP hS hl => lv_lushr X.1.1 X.1.2.1 hdg rfl (k H locs ls hP hS hl)
theorem zk_lshl (X : zk_X p R s m args meth c E cc nL cells slots Ts own) {x : Int64} {y : Int32} (hdg : decode cc pc = .ok (.lshl, 1)) (k : zk_G p l e R s m args below meth c E nL cells slots Q (pc + 1) lv (.long (x <<< (y.toInt64 &&& 63)) :: st) z) : zk_G p l e R s m args below meth c E nL cells slots Q pc lv (.int y :: .long x :: st) z :=
  fun H locs ls hP hS hl => lv_lshl X.1.1 X.1.2.1 hdg rfl (k H locs ls hP hS hl)
theorem zk_lshr (X : zk_X p R s m args meth c E cc nL cells slots Ts own) {x : Int64} {y : Int32} (hdg : decode cc pc = .ok (.lshr, 1)) (k : zk_G p l e R s m args below meth c E nL cells slots Q (pc + 1) lv (.long (x >>> (y.toInt64 &&& 63)) :: st) z) : zk_G p l e R s m args below meth c E nL cells slots Q pc lv (.int y :: .long x :: st) z :=
  fun H locs ls hP hS hl => lv_lshr X.1.1 X.1.2.1 hdg rfl (k H locs ls hP hS hl)
theorem zk_if_eq (X : zk_X p R s m args meth c E cc nL cells slots Ts own) {x : Int32} {off : Int} {tgt : Nat} {a b : Option α} (hdg : decode cc pc = .ok (.ifCond .eq off, 3)) (ht : (pc : Int) + off = (tgt : Int)) (h : (if x = 0 then a else b) = some o) (kt : a = some o → zk_G p l e R s m args below meth c E nL cells slots Q (tgt) lv st z) (kf : b = some o → zk_G p l e R s m args below meth c E nL cells slots Q (pc + 3) lv st z) : zk_G p l e R s m args below meth c E nL cells slots Q pc lv (.int x :: st) z :=
  fun H locs ls hP hS hl => lv_if_eq X.1.1 X.1.2.1 hdg ht (fun q => kt ((zk_iff h).1 q) H locs ls hP hS hl) (fun q => kf ((zk_iff h).2 q) H locs ls hP hS hl)
theorem zk_icmp_eq (X : zk_X p R s m args meth c E cc nL cells slots Ts own) {x y : Int32} {off : Int} {tgt : Nat} {a b : Option α} (hdg : decode cc pc = .ok (.if_icmp .eq off, 3)) (ht : (pc : Int) + off = (tgt : Int)) (h : (if x = y then a else b) = some o) (kt : a = some o → zk_G p l e R s m args below meth c E nL cells slots Q (tgt) lv st z) (kf : b = some o → zk_G p l e R s m args below meth c E nL cells slots Q (pc + 3) lv st z) : zk_G p l e R s m args below meth c E nL cells slots Q pc lv (.int y :: .int x :: st) z :=
  fun H locs ls hP hS hl => lv_icmp_eq X.1.1 X.1.2.1 hdg ht (fun q => kt ((zk_iff h).1 q) H locs ls hP hS hl) (fun q => kf ((zk_iff h).2 q) H locs ls hP hS hl)
theorem zk_if_ne (X : zk_X p R s m args meth c E cc nL cells slots Ts own) {x : Int32} {off : Int} {tgt : Nat} {a b : Option α} (hdg : decode cc pc = .ok (.ifCond .ne off, 3)) (ht : (pc : Int) + off = (tgt : Int)) (h : (if x = 0 then a else b) = some o) (kt : a = some o → zk_G p l e R s m args below meth c E nL cells slots Q (pc + 3) lv st z) (kf : b = some o → zk_G p l e R s m args below meth c E nL cells slots Q (tgt) lv st z) : zk_G p l e R s m args below meth c E nL cells slots Q pc lv (.int x :: st) z :=
  fun H locs ls hP hS hl => lv_if_ne X.1.1 X.1.2.1 hdg ht (fun q => kf ((zk_iff h).2 q) H locs ls hP hS hl) (fun q => kt ((zk_iff h).1 q) H locs ls hP hS hl)
theorem zk_icmp_ne (X : zk_X p R s m args meth c E cc nL cells slots Ts own) {x y : Int32} {off : Int} {tgt : Nat} {a b : Option α} (hdg : decode cc pc = .ok (.if_icmp .ne off, 3)) (ht : (pc : Int) + off = (tgt : Int)) (h : (if x = y then a else b) = some o) (kt : a = some o → zk_G p l e R s m args below meth c E nL cells slots Q (pc + 3) lv st z) (kf : b = some o → zk_G p l e R s m args below meth c E nL cells slots Q (tgt) lv st z) : zk_G p l e R s m args below meth c E nL cells slots Q pc lv (.int y :: .int x :: st) z :=
  fun H locs ls hP hS hl => lv_icmp_ne X.1.1 X.1.2.1 hdg ht (fun q => kf ((zk_iff h).2 q) H locs ls hP hS hl) (fun q => kt ((zk_iff h).1 q) H locs ls hP hS hl)
theorem zk_if_lt (X : zk_X p R s m args meth c E cc nL cells slots Ts own) {x : Int32} {off : Int} {tgt : Nat} {a b : Option α} (hdg : decode cc pc = .ok (.ifCond .lt off, 3)) (ht : (pc : Int) + off = (tgt : Int)) (h : (if x < 0 then a else b) = some o) (kt : a = some o → zk_G p l e R s m args below meth c E nL cells slots Q (tgt) lv st z) (kf : b = some o → zk_G p l e R s m args below meth c E nL cells slots Q (pc + 3) lv st z) : zk_G p l e R s m args below meth c E nL cells slots Q pc lv (.int x :: st) z :=
  fun H locs ls hP hS hl => lv_if_lt X.1.1 X.1.2.1 hdg ht (fun q => kt ((zk_iff h).1 q) H locs ls hP hS hl) (fun q => kf ((zk_iff h).2 q) H locs ls hP hS hl)
theorem zk_icmp_lt (X : zk_X p R s m args meth c E cc nL cells slots Ts own) {x y : Int32} {off : Int} {tgt : Nat} {a b : Option α} (hdg : decode cc pc = .ok (.if_icmp .lt off, 3)) (ht : (pc : Int) + off = (tgt : Int)) (h : (if x < y then a else b) = some o) (kt : a = some o → zk_G p l e R s m args below meth c E nL cells slots Q (tgt) lv st z) (kf : b = some o → zk_G p l e R s m args below meth c E nL cells slots Q (pc + 3) lv st z) : zk_G p l e R s m args below meth c E nL cells slots Q pc lv (.int y :: .int x :: st) z :=
  fun H locs ls hP hS hl => lv_icmp_lt X.1.1 X.1.2.1 hdg ht (fun q => kt ((zk_iff h).1 q) H locs ls hP hS hl) (fun q => kf ((zk_iff h).2 q) H locs ls hP hS hl)
theorem zk_if_ge (X : zk_X p R s m args meth c E cc nL cells slots Ts own) {x : Int32} {off : Int} {tgt : Nat} {a b : Option α} (hdg : decode cc pc = .ok (.ifCond .ge off, 3)) (ht : (pc : Int) + off = (tgt : Int)) (h : (if 0 ≤ x then a else b) = some o) (kt : a = some o → zk_G p l e R s m args below meth c E nL cells slots Q (tgt) lv st z) (kf : b = some o → zk_G p l e R s m args below meth c E nL cells slots Q (pc + 3) lv st z) : zk_G p l e R s m args below meth c E nL cells slots Q pc lv (.int x :: st) z :=
  fun H locs ls hP hS hl => lv_if_ge X.1.1 X.1.2.1 hdg ht (fun q => kt ((zk_iff h).1 q) H locs ls hP hS hl) (fun q => kf ((zk_iff h).2 q) H locs ls hP hS hl)
theorem zk_icmp_ge (X : zk_X p R s m args meth c E cc nL cells slots Ts own) {x y : Int32} {off : Int} {tgt : Nat} {a b : Option α} (hdg : decode cc pc = .ok (.if_icmp .ge off, 3)) (ht : (pc : Int) + off = (tgt : Int)) (h : (if y ≤ x then a else b) = some o) (kt : a = some o → zk_G p l e R s m args below meth c E nL cells slots Q (tgt) lv st z) (kf : b = some o → zk_G p l e R s m args below meth c E nL cells slots Q (pc + 3) lv st z) : zk_G p l e R s m args below meth c E nL cells slots Q pc lv (.int y :: .int x :: st) z :=
  fun H locs ls hP hS hl => lv_icmp_ge X.1.1 X.1.2.1 hdg ht (fun q => kt ((zk_iff h).1 q) H locs ls hP hS hl) (fun q => kf ((zk_iff h).2 q) H locs ls hP hS hl)
theorem zk_if_gt (X : zk_X p R s m args meth c E cc nL cells slots Ts own) {x : Int32} {off : Int} {tgt : Nat} {a b : Option α} (hdg : decode cc pc = .ok (.ifCond .gt off, 3)) (ht : (pc : Int) + off = (tgt : Int)) (h : (if 0 < x then a else b) = some o) (kt : a = some o → zk_G p l e R s m args below meth c E nL cells slots Q (tgt) lv st z) (kf : b = some o → zk_G p l e R s m args below meth c E nL cells slots Q (pc + 3) lv st z) : zk_G p l e R s m args below meth c E nL cells slots Q pc lv (.int x :: st) z :=
  fun H locs ls hP hS hl => lv_if_gt X.1.1 X.1.2.1 hdg ht (fun q => kt ((zk_iff h).1 q) H locs ls hP hS hl) (fun q => kf ((zk_iff h).2 q) H locs ls hP hS hl)
theorem zk_icmp_gt (X : zk_X p R s m args meth c E cc nL cells slots Ts own) {x y : Int32} {off : Int} {tgt : Nat} {a b : Option α} (hdg : decode cc pc = .ok (.if_icmp .gt off, 3)) (ht : (pc : Int) + off = (tgt : Int)) (h : (if y < x then a else b) = some o) (kt : a = some o → zk_G p l e R s m args below meth c E nL cells slots Q (tgt) lv st z) (kf : b = some o → zk_G p l e R s m args below meth c E nL cells slots Q (pc + 3) lv st z) : zk_G p l e R s m args below meth c E nL cells slots Q pc lv (.int y :: .int x :: st) z :=
  fun H locs ls hP hS hl => lv_icmp_gt X.1.1 X.1.2.1 hdg ht (fun q => kt ((zk_iff h).1 q) H locs ls hP hS hl) (fun q => kf ((zk_iff h).2 q) H locs ls hP hS hl)
theorem zk_if_le (X : zk_X p R s m args meth c E cc nL cells slots Ts own) {x : Int32} {off : Int} {tgt : Nat} {a b : Option α} (hdg : decode cc pc = .ok (.ifCond .le off, 3)) (ht : (pc : Int) + off = (tgt : Int)) (h : (if x ≤ 0 then a else b) = some o) (kt : a = some o → zk_G p l e R s m args below meth c E nL cells slots Q (tgt) lv st z) (kf : b = some o → zk_G p l e R s m args below meth c E nL cells slots Q (pc + 3) lv st z) : zk_G p l e R s m args below meth c E nL cells slots Q pc lv (.int x :: st) z :=
  fun H locs ls hP hS hl => lv_if_le X.1.1 X.1.2.1 hdg ht (fun q => kt ((zk_iff h).1 q) H locs ls hP hS hl) (fun q => kf ((zk_iff h).2 q) H locs ls hP hS hl)
theorem zk_icmp_le (X : zk_X p R s m args meth c E cc nL cells slots Ts own) {x y : Int32} {off : Int} {tgt : Nat} {a b : Option α} (hdg : decode cc pc = .ok (.if_icmp .le off, 3)) (ht : (pc : Int) + off = (tgt : Int)) (h : (if x ≤ y then a else b) = some o) (kt : a = some o → zk_G p l e R s m args below meth c E nL cells slots Q (tgt) lv st z) (kf : b = some o → zk_G p l e R s m args below meth c E nL cells slots Q (pc + 3) lv st z) : zk_G p l e R s m args below meth c E nL cells slots Q pc lv (.int y :: .int x :: st) z :=
  fun H locs ls hP hS hl => lv_icmp_le X.1.1 X.1.2.1 hdg ht (fun q => kt ((zk_iff h).1 q) H locs ls hP hS hl) (fun q => kf ((zk_iff h).2 q) H locs ls hP hS hl)
theorem zk_idiv (X : zk_X p R s m args meth c E cc nL cells slots Ts own) {x y : Int32} {a : Option α} (hdg : decode cc pc = .ok (.idiv, 1)) (h : zk_gd (zk_nz y) a = some o) (k : a = some o → zk_G p l e R s m args below meth c E nL cells slots Q (pc + 1) lv (.int (x / y) :: st) z) : zk_G p l e R s m args below meth c E nL cells slots Q pc lv (.int y :: .int x :: st) z :=
  fun H locs ls hP hS hl => lv_idiv X.1.1 X.1.2.1 hdg (by have := (zk_gd_some h).1; simpa [zk_nz] using this) (k (zk_gd_some h).2 H locs ls hP hS hl)
theorem zk_irem (X : zk_X p R s m args meth c E cc nL cells slots Ts own) {x y : Int32} {a : Option α} (hdg : decode cc pc = .ok (.irem, 1)) (h : zk_gd (zk_nz y) a = some o) (k : a = some o → zk_G p l e R s m args below meth c E nL cells slots Q (pc + 1) lv (.int (x - x / y * y) :: st) z) : zk_G p l e R s m args below meth c E nL cells slots Q pc lv (.int y :: .int x :: st) z :=
  fun H locs ls hP hS hl => lv_irem X.1.1 X.1.2.1 hdg (by have := (zk_gd_some h).1; simpa [zk_nz] using this) (k (zk_gd_some h).2 H locs ls hP hS hl)
theorem zk_ldiv (X : zk_X p R s m args meth c E cc nL cells slots Ts own) {x y : Int64} {a : Option α} (hdg : decode cc pc = .ok (.ldiv, 1)) (h : zk_gd (zk_nzl y) a = some o) (k : a = some o → zk_G p l e R s m args below meth c E nL cells slots Q (pc + 1) lv (.long (x / y) :: st) z) : zk_G p l e R s m args below meth c E nL cells slots Q pc lv (.long y :: .long x :: st) z :=
  fun H locs ls hP hS hl => lv_ldiv X.1.1 X.1.2.1 hdg (by have := (zk_gd_some h).1; simpa [zk_nzl] using this) (k (zk_gd_some h).2 H locs ls hP hS hl)
theorem zk_lrem (X : zk_X p R s m args meth c E cc nL cells slots Ts own) {x y : Int64} {a : Option α} (hdg : decode cc pc = .ok (.lrem, 1)) (h : zk_gd (zk_nzl y) a = some o) (k : a = some o → zk_G p l e R s m args below meth c E nL cells slots Q (pc + 1) lv (.long (x - x / y * y) :: st) z) : zk_G p l e R s m args below meth c E nL cells slots Q pc lv (.long y :: .long x :: st) z :=
  fun H locs ls hP hS hl => lv_lrem X.1.1 X.1.2.1 hdg (by have := (zk_gd_some h).1; simpa [zk_nzl] using this) (k (zk_gd_some h).2 H locs ls hP hS hl)
theorem zk_goto (X : zk_X p R s m args meth c E cc nL cells slots Ts own) {off : Int} {tgt : Nat} (hdg : decode cc pc = .ok (.goto off, 3)) (ht : (pc : Int) + off = (tgt : Int)) (k : zk_G p l e R s m args below meth c E nL cells slots Q tgt lv st z) : zk_G p l e R s m args below meth c E nL cells slots Q pc lv st z :=
  fun H locs ls hP hS hl => lv_goto X.1.1 X.1.2.1 hdg ht (k H locs ls hP hS hl)
theorem zk_null (X : zk_X p R s m args meth c E cc nL cells slots Ts own) (hdg : decode cc pc = .ok (.aconst_null, 1)) (k : zk_G p l e R s m args below meth c E nL cells slots Q (pc + 1) lv (.null :: st) z) : zk_G p l e R s m args below meth c E nL cells slots Q pc lv st z :=
  fun H locs ls hP hS hl => lv_null X.1.1 X.1.2.1 hdg (k H locs ls hP hS hl)
theorem zk_ifnonnull (X : zk_X p R s m args meth c E cc nL cells slots Ts own) {x : Nat} {off : Int} {tgt : Nat} (hdg : decode cc pc = .ok (.ifnonnull off, 3)) (ht : (pc : Int) + off = (tgt : Int)) (k : zk_G p l e R s m args below meth c E nL cells slots Q tgt lv st z) : zk_G p l e R s m args below meth c E nL cells slots Q pc lv (.ref x :: st) z :=
  fun H locs ls hP hS hl => lv_ifnonnull X.1.1 X.1.2.1 hdg ht (k H locs ls hP hS hl)
theorem zk_ifnull (X : zk_X p R s m args meth c E cc nL cells slots Ts own) {x : Nat} {off : Int} (hdg : decode cc pc = .ok (.ifnull off, 3)) (k : zk_G p l e R s m args below meth c E nL cells slots Q (pc + 3) lv st z) : zk_G p l e R s m args below meth c E nL cells slots Q pc lv (.ref x :: st) z :=
  fun H locs ls hP hS hl => lv_ifnull X.1.1 X.1.2.1 hdg (k H locs ls hP hS hl)
theorem zk_ifnullN (X : zk_X p R s m args meth c E cc nL cells slots Ts own) {off : Int} {tgt : Nat} (hdg : decode cc pc = .ok (.ifnull off, 3)) (ht : (pc : Int) + off = (tgt : Int)) (k : zk_G p l e R s m args below meth c E nL cells slots Q tgt lv st z) : zk_G p l e R s m args below meth c E nL cells slots Q pc lv (.null :: st) z :=
  fun H locs ls hP hS hl => lv_ifnullN X.1.1 X.1.2.1 hdg ht (k H locs ls hP hS hl)
theorem zk_ifnonnullN (X : zk_X p R s m args meth c E cc nL cells slots Ts own) {off : Int} (hdg : decode cc pc = .ok (.ifnonnull off, 3)) (k : zk_G p l e R s m args below meth c E nL cells slots Q (pc + 3) lv st z) : zk_G p l e R s m args below meth c E nL cells slots Q pc lv (.null :: st) z :=
  fun H locs ls hP hS hl => lv_ifnonnullN X.1.1 X.1.2.1 hdg (k H locs ls hP hS hl)
theorem zk_dup (X : zk_X p R s m args meth c E cc nL cells slots Ts own) {va : Value} (hdg : decode cc pc = .ok (.dup, 1)) (hva : va.category = 1) (k : zk_G p l e R s m args below meth c E nL cells slots Q (pc + 1) lv (va :: va :: st) z) : zk_G p l e R s m args below meth c E nL cells slots Q pc lv (va :: st) z :=
  fun H locs ls hP hS hl => lv_dup X.1.1 X.1.2.1 hdg hva (k H locs ls hP hS hl)
theorem zk_dup2 (X : zk_X p R s m args meth c E cc nL cells slots Ts own) {va vb : Value} (hdg : decode cc pc = .ok (.dup2, 1)) (hva : va.category = 1) (hvb : vb.category = 1) (k : zk_G p l e R s m args below meth c E nL cells slots Q (pc + 1) lv (va :: vb :: va :: vb :: st) z) : zk_G p l e R s m args below meth c E nL cells slots Q pc lv (va :: vb :: st) z :=
  fun H locs ls hP hS hl => lv_dup2_11 X.1.1 X.1.2.1 hdg hva hvb (k H locs ls hP hS hl)
theorem zk_tsw_in (X : zk_X p R s m args meth c E cc nL cells slots Ts own) {x v : Int32} {dflt lo hi off : Int} {offs : Array Int} {len tgt : Nat} (hdg : decode cc pc = .ok (.tableswitch dflt lo hi offs, len)) (hx : x = v) (h1 : ¬ v.toInt < lo) (h2 : ¬ hi < v.toInt) (ho : offs[(v.toInt - lo).toNat]? = some off) (ht : (pc : Int) + off = (tgt : Int)) (k : zk_G p l e R s m args below meth c E nL cells slots Q tgt lv st z) : zk_G p l e R s m args below meth c E nL cells slots Q pc lv (.int x :: st) z := by
  subst hx
  exact fun H locs ls hP hS hl => lv_tableIn X.1.1 X.1.2.1 hdg h1 h2 ho ht (k H locs ls hP hS hl)
theorem zk_tsw_out (X : zk_X p R s m args meth c E cc nL cells slots Ts own) {x : Int32} {dflt lo hi : Int} {offs : Array Int} {len tgt : Nat} (hdg : decode cc pc = .ok (.tableswitch dflt lo hi offs, len)) (h : x.toInt < lo ∨ hi < x.toInt) (ht : (pc : Int) + dflt = (tgt : Int)) (k : zk_G p l e R s m args below meth c E nL cells slots Q tgt lv st z) : zk_G p l e R s m args below meth c E nL cells slots Q pc lv (.int x :: st) z :=
  fun H locs ls hP hS hl => lv_tableOut X.1.1 X.1.2.1 hdg h ht (k H locs ls hP hS hl)
theorem zk_lsw (X : zk_X p R s m args meth c E cc nL cells slots Ts own) {x : Int32} {dflt off : Int} {ps : Array (Int × Int)} {len tgt : Nat} (hdg : decode cc pc = .ok (.lookupswitch dflt ps, len)) (hp : (ps.toList.zip (ps.toList.drop 1)).all (fun (a, next) => a.1 < next.1) = true) (ho : Op.lookupswitch.offset ps.toList dflt x.toInt = off) (ht : (pc : Int) + off = (tgt : Int)) (k : zk_G p l e R s m args below meth c E nL cells slots Q tgt lv st z) : zk_G p l e R s m args below meth c E nL cells slots Q pc lv (.int x :: st) z :=
  fun H locs ls hP hS hl => lv_lookup X.1.1 X.1.2.1 hdg hp ho ht (k H locs ls hP hS hl)
theorem zk_lcmp (X : zk_X p R s m args meth c E cc nL cells slots Ts own) {x y : Int64} (hdg : decode cc pc = .ok (.lcmp, 1)) (k : zk_G p l e R s m args below meth c E nL cells slots Q (pc + 1) lv (.int (lg_cmp x y) :: st) z) : zk_G p l e R s m args below meth c E nL cells slots Q pc lv (.long y :: .long x :: st) z :=
  fun H locs ls hP hS hl => W.lcmp X.1.1 X.1.2.1 hdg (k H locs ls hP hS hl)
theorem zk_get (X : zk_X p R s m args meth c E cc nL cells slots Ts own) {C : String} {T : u_T} {N ci index g k : Nat} {fs : List Value} {v : Value} (hin : ∀ w ∈ u_ws C T N, w ∈ Ts) (hk : k < zk_cnt g) (he : zk_cell E z g k = .inr (ci, fs)) (hc : vwCl[ci]? = some (C, T, N)) (j : Nat) (hj : j < N) (hw : Cond.fieldLink own index (T j).1 (T j).2.1 (T j).2.2.1 ∈ Ts) (hv : fs[j]? = some v) (hdg : decode cc pc = .ok (.getfield index, 3)) (kk : zk_G p l e R s m args below meth c E nL cells slots Q (pc + 3) lv (v :: st) z) : zk_G p l e R s m args below meth c E nL cells slots Q pc lv (.ref (E.2.1 g k) :: st) z :=
  fun H locs ls hP hS hl => va_get X.1.1 X.1.2.1 X.1.2.2.2.2 hin X.1.2.2.2.1 X.2.1.2.1 (zk_one hP hk he) 0 rfl hc j hj (X.1.2.2.2.2 _ hw) (fun _ h => h) hv hdg (kk H locs ls hP hS hl)
theorem zk_putI (X : zk_X p R s m args meth c E cc nL cells slots Ts own) {C : String} {T : u_T} {N ci index g k : Nat} {fs : List Value} {x : Int32} (hin : ∀ w ∈ u_ws C T N, w ∈ Ts) (ty0 : Nat → FieldType) (hty : ∀ k, k < N → parseFieldDescriptor (T k).2.2.1 = some (ty0 k)) (hnm : ∀ a, a < N → ∀ b, b < N → a ≠ b → (T a).2.1 ≠ (T b).2.1) (hk : k < zk_cnt g) (he : zk_cell E z g k = .inr (ci, fs)) (hc : vwCl[ci]? = some (C, T, N)) (j : Nat) (hj : j < N) (hw : Cond.fieldLink own index (T j).1 (T j).2.1 (T j).2.2.1 ∈ Ts) (hfin : (T j).2.2.2 = false) {ty : FieldType} (hd : parseFieldDescriptor (T j).2.2.1 = some ty) (hn : narrow ty (.int x) = .int x) (hfit : fits ty (.int x) = true) (hl0 : j < fs.length) (he' : zk_row E (upd (z.1 g k) j x) z.2 g k = .inr (ci, fs.set j (.int x))) (hdg : decode cc pc = .ok (.putfield index, 3)) (kk : zk_G p l e R s m args below meth c E nL cells slots Q (pc + 3) lv st (zk_sI z g k j x)) : zk_G p l e R s m args below meth c E nL cells slots Q pc lv (.int x :: .ref (E.2.1 g k) :: st) z := by
  intro H locs ls hP hS0 hl
  have hts := X.1.2.2.2.2
  have hK := X.2.1.2.1
  have hap := va_apart (own := own) hts hin ty0 hty hnm hK hc
  obtain ⟨r, h1, cell, q1, q2, q3, q4⟩ := (zk_one hP hk he) 0 _ rfl
  have hr : r = (C, T, N) := Option.some.inj (h1.symm.trans hc)
  subst hr
  obtain ⟨hS, hfc, kC, hkC, hkind⟩ := hK.1 ci _ hc
  obtain ⟨cf, kf, fi, f, hi, hsl⟩ := hS j hj
  have hlay := hts _ (hin _ (u_in_lay hj))
  unfold u_lay at hlay
  rw [if_neg (by rw [hfin]; decide)] at hlay
  have hst := (u_facts hfc hkC (u_lays hts hin hj) hi).1
  have h6 := u_store hfc hkC hkind hlay hi hd hn hfit
  refine W.putK X.1.1 X.1.2.1 (f := f) ⟨X.1.2.2.2.1, hts _ hw, ⟨_, _, _, hi⟩, hst⟩ (by rw [q2]; exact h6) q1 q3 (by rw [hsl]; exact k2_hasslot (q4 j hj)) rfl rfl hdg fun H' e1 e2 e3 => ?_
  rw [hsl] at e1 ⊢
  refine kk H' _ ls (hP.setI X.2.1.2.2.2 hk ?_ e3) (hS0.put e2 e3 ⟨g, k, hk, rfl⟩) hl
  rw [he']
  exact ⟨_, hc, t_OB.to (V := updV (vp_V fs) j (.int x)) ⟨_, e1, q2, q3, t_set q4 hap hj (.int x)⟩ (fun i _ => vp_updV_set hl0 (.int x) i)⟩
theorem zk_putL (X : zk_X p R s m args meth c E cc nL cells slots Ts own) {C : String} {T : u_T} {N ci index g k : Nat} {fs : List Value} {x : Int64} (hin : ∀ w ∈ u_ws C T N, w ∈ Ts) (ty0 : Nat → FieldType) (hty : ∀ k, k < N → parseFieldDescriptor (T k).2.2.1 = some (ty0 k)) (hnm : ∀ a, a < N → ∀ b, b < N → a ≠ b → (T a).2.1 ≠ (T b).2.1) (hk : k < zk_cnt g) (he : zk_cell E z g k = .inr (ci, fs)) (hc : vwCl[ci]? = some (C, T, N)) (j i : Nat) (hj : j < N) (hw : Cond.fieldLink own index (T j).1 (T j).2.1 (T j).2.2.1 ∈ Ts) (hfin : (T j).2.2.2 = false) (hd : parseFieldDescriptor (T j).2.2.1 = some .long) (hl0 : j < fs.length) (he' : zk_cell E (zk_sL z i x) g k = .inr (ci, fs.set j (.long x))) (hgi : (g = 15 ∧ i = 0) ∨ (g = 20 ∧ i = 1)) (hdg : decode cc pc = .ok (.putfield index, 3)) (kk : zk_G p l e R s m args below meth c E nL cells slots Q (pc + 3) lv st (zk_sL z i x)) : zk_G p l e R s m args below meth c E nL cells slots Q pc lv (.long x :: .ref (E.2.1 g k) :: st) z := by
  intro H locs ls hP hS0 hl
  have hts := X.1.2.2.2.2
  have hK := X.2.1.2.1
  have hap := va_apart (own := own) hts hin ty0 hty hnm hK hc
  obtain ⟨r, h1, cell, q1, q2, q3, q4⟩ := (zk_one hP hk he) 0 _ rfl
  have hr : r = (C, T, N) := Option.some.inj (h1.symm.trans hc)
  subst hr
  obtain ⟨hS, hfc, kC, hkC, hkind⟩ := hK.1 ci _ hc
  obtain ⟨cf, kf, fi, f, hi, hsl⟩ := hS j hj
  have hlay := hts _ (hin _ (u_in_lay hj))
  unfold u_lay at hlay
  rw [if_neg (by rw [hfin]; decide)] at hlay
  have hst := (u_facts hfc hkC (u_lays hts hin hj) hi).1
  have h6 := u_store (v := .long x) hfc hkC hkind hlay hi hd rfl rfl
  refine W.putK X.1.1 X.1.2.1 (f := f) ⟨X.1.2.2.2.1, hts _ hw, ⟨_, _, _, hi⟩, hst⟩ (by rw [q2]; exact h6) q1 q3 (by rw [hsl]; exact k2_hasslot (q4 j hj)) rfl rfl hdg fun H' e1 e2 e3 => ?_
  rw [hsl] at e1 ⊢
  refine kk H' _ ls ?_ (hS0.put e2 e3 ⟨g, k, hk, rfl⟩) hl
  intro g' k' hk'
  by_cases h : g' = g ∧ k' = k
  · obtain ⟨rfl, rfl⟩ := h
    rw [he']
    exact ⟨_, hc, t_OB.to (V := updV (vp_V fs) j (.long x)) ⟨_, e1, q2, q3, t_set q4 hap hj (.long x)⟩ (fun i _ => vp_updV_set hl0 (.long x) i)⟩
  · have hh : zk_cell E (zk_sL z i x) g' k' = zk_cell E z g' k' := by
      refine zk_row_q (fun h15 => ?_) (fun h20 => ?_)
      · show (if 0 = i then x else z.2 0) = z.2 0
        rcases hgi with ⟨h1, h2⟩ | ⟨h1, h2⟩
        · exfalso
          subst h15 h1
          exact h ⟨rfl, by have a1 : k' < 1 := hk'; have a2 : k < 1 := hk; omega⟩
        · rw [h2]; rfl
      · show (if 1 = i then x else z.2 1) = z.2 1
        rcases hgi with ⟨h1, h2⟩ | ⟨h1, h2⟩
        · rw [h2]; rfl
        · exfalso
          subst h20 h1
          exact h ⟨rfl, by have a1 : k' < 1 := hk'; have a2 : k < 1 := hk; omega⟩
    rw [hh]; exact (hP g' k' hk').kept (e3 _ (fun e => h (X.2.1.2.2.2 _ _ _ _ hk' hk e)))
theorem zk_iald (X : zk_X p R s m args meth c E cc nL cells slots Ts own) {g k n : Nat} {i : Int32} {a : Option α} (hk : k < zk_cnt g) (he : zk_cell E z g k = .inl (E.2.2 0, n, .inl (z.1 g k))) (hdg : decode cc pc = .ok (.iaload, 1)) (h : zk_gd (zk_ix i n) a = some o) (kk : a = some o → zk_G p l e R s m args below meth c E nL cells slots Q (pc + 1) lv (.int (z.1 g k i.toNatClampNeg) :: st) z) : zk_G p l e R s m args below meth c E nL cells slots Q pc lv (.int i :: .ref (E.2.1 g k) :: st) z :=
  fun H locs ls hP hS hl => va_iald X.1.1 X.1.2.1 X.2.1.2.1 (zk_one hP hk he) 0 0 rfl rfl (zk_ix_in (zk_gd_some h).1) hdg (kk (zk_gd_some h).2 H locs ls hP hS hl)
theorem zk_iast (X : zk_X p R s m args meth c E cc nL cells slots Ts own) {g k n : Nat} {i x : Int32} {a : Option α} (hk : k < zk_cnt g) (he : zk_cell E z g k = .inl (E.2.2 0, n, .inl (z.1 g k))) (he' : zk_row E (upd (z.1 g k) i.toNatClampNeg x) z.2 g k = .inl (E.2.2 0, n, .inl (upd (z.1 g k) i.toNatClampNeg x))) (hdg : decode cc pc = .ok (.iastore, 1)) (h : zk_gd (zk_ix i n) a = some o) (kk : a = some o → zk_G p l e R s m args below meth c E nL cells slots Q (pc + 1) lv st (zk_sI z g k i.toNatClampNeg x)) : zk_G p l e R s m args below meth c E nL cells slots Q pc lv (.int x :: .int i :: .ref (E.2.1 g k) :: st) z := by
  intro H locs ls hP hS hl
  have hin := zk_ix_in (zk_gd_some h).1
  refine W.iast X.1.1 X.1.2.1 ((zk_one hP hk he) 0 _ rfl) ((X.2.1.2.1.2 0 _ rfl).1 n (fun j => .int (z.1 g k j))) (fun q => by cases q) (by show ¬ (i < 0 ∨ (arrV _ _ _).slots.size ≤ _); rw [arrV_size]; exact hin) rfl rfl hdg fun H1 e z1 oq => ?_
  refine kk (zk_gd_some h).2 H1 _ ls (hP.setI X.2.1.2.2.2 hk ?_ oq) (hS.put z1 oq ⟨g, k, hk, rfl⟩) hl
  rw [he']
  show H1[E.2.1 g k]? = some (vp_cell _ _)
  rw [e]
  rw [vp_cell_i, vp_cell_i, arrV_store]
  congr 2
  funext q
  by_cases hq : q = i.toNatClampNeg
  · subst hq
    simp [updV, upd]
  · simp [updV, upd, hq]
theorem zk_aald (X : zk_X p R s m args meth c E cc nL cells slots Ts own) {g k g' n t : Nat} {C : String} {cA : ClassId} {i : Int32} {a : Option α} (hk : k < zk_cnt g) (he : zk_cell E z g k = .inl (cA, n, .inr (.inr (.inr (.inr (fun j => some (E.2.1 g' j))))))) (ht : (zk_tys E)[t]? = some (cA, .object C)) (hdg : decode cc pc = .ok (.aaload, 1)) (h : zk_gd (zk_ix i n) a = some o) (kk : i.toNatClampNeg < n → a = some o → zk_G p l e R s m args below meth c E nL cells slots Q (pc + 1) lv (.ref (E.2.1 g' i.toNatClampNeg) :: st) z) : zk_G p l e R s m args below meth c E nL cells slots Q pc lv (.int i :: .ref (E.2.1 g k) :: st) z :=
  fun H locs ls hP hS hl => va_aldq X.1.1 X.1.2.1 X.2.1.2.1 (zk_one hP hk he) 0 t rfl ht (zk_ix_in (zk_gd_some h).1) hdg (kk (Nat.not_le.mp fun q => (zk_ix_in (zk_gd_some h).1) (Or.inr q)) (zk_gd_some h).2 H locs ls hP hS hl)
theorem zk_alen (X : zk_X p R s m args meth c E cc nL cells slots Ts own) {g k n : Nat} {v : Int32} (hk : k < zk_cnt g) (he : zk_cell E z g k = .inl (E.2.2 0, n, .inl (z.1 g k))) (hv : Int32.ofNat n = v) (hdg : decode cc pc = .ok (.arraylength, 1)) (kk : zk_G p l e R s m args below meth c E nL cells slots Q (pc + 1) lv (.int v :: st) z) : zk_G p l e R s m args below meth c E nL cells slots Q pc lv (.ref (E.2.1 g k) :: st) z :=
  fun H locs ls hP hS hl => va_alen (x := (n, .inl (z.1 g k))) X.1.1 X.1.2.1 X.2.1.2.1 (zk_one hP hk he) 0 0 rfl rfl hv hdg (kk H locs ls hP hS hl)
/-- the table of the kinds above -/
theorem zk_getT (X : zk_X p R s m args meth c E cc nL cells slots Ts own) {index : Nat} (hw : Cond.fieldLink own index "HiddenWorks$Kind" "ABOVE" "[I" ∈ Ts) (hdg : decode cc pc = .ok (.getstatic index, 3)) (kk : ∀ tb : Nat, va_T .int tb 6 (fun j => .int (zk_above j)) (zk_A E) s s.heap → zk_G p l e R s m args below meth c E nL cells slots Q (pc + 3) lv (.ref tb :: st) z) : zk_G p l e R s m args below meth c E nL cells slots Q pc lv st z := by
  intro H locs ls hP hS hl
  obtain ⟨tb, h1, h2⟩ := X.2.1.2.2.1
  exact va_gets X.1.1 X.1.2.1 h1 hS X.1.2.2.2.1 (X.1.2.2.2.2 _ hw) (fun _ h => h) hdg (kk tb h2 H locs ls hP hS hl)
theorem zk_iaT (X : zk_X p R s m args meth c E cc nL cells slots Ts own) {tb : Nat} {i : Int32} {a : Option α} (hT : va_T .int tb 6 (fun j => .int (zk_above j)) (zk_A E) s s.heap) (hdg : decode cc pc = .ok (.iaload, 1)) (h : zk_gd (zk_ix i 6) a = some o) (kk : a = some o → zk_G p l e R s m args below meth c E nL cells slots Q (pc + 1) lv (.int (zk_above i.toNatClampNeg) :: st) z) : zk_G p l e R s m args below meth c E nL cells slots Q pc lv (.int i :: .ref tb :: st) z :=
  fun H locs ls hP hS hl => va_ti X.1.1 X.1.2.1 hT hS (zk_ix_in (zk_gd_some h).1) rfl hdg (kk (zk_gd_some h).2 H locs ls hP hS hl)
theorem zk_min (X : zk_X p R s m args meth c E cc nL cells slots Ts own) {index : Nat} {x y : Int32} (w1 : Cond.methodLink own index Lib.Math.min.name ∈ Ts) (w2 : Cond.static Lib.Math.min.name ∈ Ts) (w3 : Cond.initialized "java/lang/Math" ∈ Ts) (w4 : Cond.code Lib.Math.min.name Lib.Math.min.code 2 (some .int) ∈ Ts) (hfr : 1 ≤ R.frames) (hlo : (st.map fun v => v.category).sum + 13 ≤ R.locals) (hdg : decode cc pc = .ok (.invokestatic index, 3)) (kk : zk_G p l e R s m args below meth c E nL cells slots Q (pc + 3) lv (.int (if y < x then y else x) :: st) z) : zk_G p l e R s m args below meth c E nL cells slots Q pc lv (.int y :: .int x :: st) z :=
  fun H locs ls hP hS hl => va_mmin X.1.1 X.1.2.1 (X.1.2.2.1.trans hl.1.symm) X.1.2.2.2.1 (X.1.2.2.2.2 _ w1) (X.1.2.2.2.2 _ w2) (X.1.2.2.2.2 _ w3) (X.1.2.2.2.2 _ w4) hfr hlo X.2.2.1 X.2.2.2 hdg (kk H locs ls hP hS hl)
theorem zk_abs (X : zk_X p R s m args meth c E cc nL cells slots Ts own) {index : Nat} {x : Int32} (w1 : Cond.methodLink own index Lib.Math.abs.name ∈ Ts) (w2 : Cond.static Lib.Math.abs.name ∈ Ts) (w3 : Cond.initialized "java/lang/Math" ∈ Ts) (w4 : Cond.code Lib.Math.abs.name Lib.Math.abs.code 1 (some .int) ∈ Ts) (hfr : 1 ≤ R.frames) (hlo : (st.map fun v => v.category).sum + 13 ≤ R.locals) (hdg : decode cc pc = .ok (.invokestatic index, 3)) (kk : zk_G p l e R s m args below meth c E nL cells slots Q (pc + 3) lv (.int (if 0 ≤ x then x else 0 - x) :: st) z) : zk_G p l e R s m args below meth c E nL cells slots Q pc lv (.int x :: st) z :=
  fun H locs ls hP hS hl => va_mabs X.1.1 X.1.2.1 (X.1.2.2.1.trans hl.1.symm) X.1.2.2.2.1 (X.1.2.2.2.2 _ w1) (X.1.2.2.2.2 _ w2) (X.1.2.2.2.2 _ w3) (X.1.2.2.2.2 _ w4) hfr hlo X.2.2.1 X.2.2.2 hdg (kk H locs ls hP hS hl)
/-- System.arraycopy between the rows of numbers of two sheets, or of one -/
theorem zk_acopy (X : zk_X p R s m args meth c E cc nL cells slots Ts own) {index k0 k1 : Nat} {sp dp n : Int32} {a : Option α} (w1 : Cond.methodLink own index arraycopyName ∈ Ts) (w2 : Cond.native arraycopyName ∈ Ts) (w3 : Cond.static arraycopyName ∈ Ts) (w4 : Cond.initialized "java/lang/System" ∈ Ts) (hk0 : k0 < zk_cnt 14) (hk1 : k1 < zk_cnt 14) (hframes : 1 ≤ R.frames) (hlocals : (st.map fun v => v.category).sum + (nativeFrameWords "java/lang/System" "arraycopy" 5 + 11) ≤ R.locals) (hdg : decode cc pc = .ok (.invokestatic index, 3)) (h : zk_gd (zk_cp sp dp n 40) a = some o)
    (kk : a = some o → zk_G p l e R s m args below meth c E nL cells slots Q (pc + 3) lv st (zk_sR z 14 k1 (va_cpy (z.1 14 k0) (z.1 14 k1) sp.toNatClampNeg dp.toNatClampNeg n.toNatClampNeg))) : zk_G p l e R s m args below meth c E nL cells slots Q pc lv (.int n :: .int dp :: .ref (E.2.1 14 k1) :: .int sp :: .ref (E.2.1 14 k0) :: st) z := by
  intro H locs ls hP hS hl
  obtain ⟨⟨h1, h2, h3⟩, h4, h5⟩ := of_decide_eq_true (zk_gd_some h).1
  have nn : ∀ z : Int32, ¬ z < 0 → z.toInt = (z.toNatClampNeg : Int) := by
    intro z hz
    have hz0 : (0 : Int) ≤ z.toInt := by
      have := Int32.not_lt.mp hz
      simpa using Int32.le_iff_toInt_le.mp this
    show z.toInt = ((z.toInt.toNat : Nat) : Int)
    omega
  have hts := X.1.2.2.2.2
  have hx := X.1.1
  have hb := X.1.2.1
  have hK := X.2.1.2.1
  intro T hT X1
  generalize hf : z.1 14 k0 = f at *
  generalize hg : z.1 14 k1 = g at *
  have hc0 : H[E.2.1 14 k0]? = some (vp_cell (E.2.2 0) (40, .inl f)) := by rw [← hf]; exact hP 14 k0 hk0
  have hc1 : H[E.2.1 14 k1]? = some (vp_cell (E.2.2 0) (40, .inl g)) := by rw [← hg]; exact hP 14 k1 hk1
  obtain ⟨-, x0, hx0, cm0, hkk0⟩ := (hK.2 0 _ rfl).1 40 (fun j => .int (f j))
  obtain ⟨-, x1, hx1, cm1, hkk1⟩ := (hK.2 0 _ rfl).1 40 (fun j => .int (g j))
  obtain ⟨vm', X', step⟩ := X1.arraycopy hx X.1.2.2.2.1 (hts _ w1) (hts _ w2) (hts _ w3) (hts _ w4) (src := E.2.1 14 k0) (dst := E.2.1 14 k1) (cs := vp_cell (E.2.2 0) (40, .inl f)) (cd := vp_cell (E.2.2 0) (40, .inl g)) (srcPos := sp) (destPos := dp) (n := n) (by rw [hT]; exact hc0) (by rw [hT]; exact hc1)
    (fun _ h => by cases h) (fun _ h => by cases h) (fun h => by cases h) (fun h => by cases h) hx0 hx1 hkk0 hkk1 rfl h1 h2 h3
    (by rw [nn sp h1, nn n h3]; show ¬ _ > ((arrV (E.2.2 0) 40 (fun j => .int (f j))).slots.size : Int); rw [arrV_size]; omega)
    (by rw [nn dp h2, nn n h3]; show ¬ _ > ((arrV (E.2.2 0) 40 (fun j => .int (g j))).slots.size : Int); rw [arrV_size]; omega)
    (fun vm₁ _ i hi => by
      have e : (vp_cell (E.2.2 0) (40, .inl f)).slots.getD (sp.toNatClampNeg + i) .null = .int (f (sp.toNatClampNeg + i)) := by
        show (arrV (E.2.2 0) 40 (fun j => .int (f j))).slots.getD _ _ = _
        rw [Array.getD_eq_getD_getElem?, arrV_read _ _ (by omega)]
        rfl
      refine ⟨?_, ?_⟩
      · rw [e]
        rfl
      · rw [e]
        exact trivial)
    (g := F0 m pc ls (.int n :: .int dp :: .ref (E.2.1 14 k1) :: .int sp :: .ref (E.2.1 14 k0) :: st)) rfl (by rw [X.1.2.2.1]; exact hl.1) (rest := st) rfl (by rw [hb]; exact hdg) hframes (by show 2 * 0 + _ + _ ≤ _; omega)
  have e1 : copied (vp_cell (E.2.2 0) (40, .inl f)) (vp_cell (E.2.2 0) (40, .inl g)) sp dp n = vp_cell (E.2.2 0) (40, .inl (va_cpy f g sp.toNatClampNeg dp.toNatClampNeg n.toNatClampNeg)) := va_copied (fun z => .int z) (E.2.2 0) (E.2.2 0) f g h4
  rw [e1] at X' step
  have hl1 : E.2.1 14 k1 < H.size := (Array.getElem?_eq_some_iff.mp hc1).1
  have hheap : ((T.setVm vm').setCell (E.2.1 14 k1) (vp_cell (E.2.2 0) (40, .inl (va_cpy f g sp.toNatClampNeg dp.toNatClampNeg n.toNatClampNeg)))).heap = H.setIfInBounds (E.2.1 14 k1) (vp_cell (E.2.2 0) (40, .inl (va_cpy f g sp.toNatClampNeg dp.toNatClampNeg n.toNatClampNeg))) := by rw [← hT]; rfl
  have oq : ∀ q : Nat, q ≠ E.2.1 14 k1 → (H.setIfInBounds (E.2.1 14 k1) (vp_cell (E.2.2 0) (40, .inl (va_cpy f g sp.toNatClampNeg dp.toNatClampNeg n.toNatClampNeg))))[q]? = H[q]? := fun q hq => by simp [Array.getElem?_setIfInBounds, Ne.symm hq]
  obtain ⟨t, a1, b1⟩ := kk (zk_gd_some h).2 _ _ ls (hP.setR X.2.1.2.2.2 hk1 (show (H.setIfInBounds (E.2.1 14 k1) _)[E.2.1 14 k1]? = some _ by simp [Array.getElem?_setIfInBounds, hl1]) oq) ⟨by simp; exact hS.1, fun q g1 g2 => by
      rw [oq q (fun e => g2 (by rw [e]; exact ⟨14, k1, hk1, rfl⟩))]
      exact hS.2.1 q g1 g2, fun q hq => by
      rcases List.mem_append.mp hq with h | h
      · exact hS.2.2 q h
      · obtain ⟨z, -, hz⟩ := List.mem_map.mp h
        rw [← hz]
        exact ⟨14, k1, hk1, rfl⟩⟩ hl _ hheap X'
  exact ⟨t, step t a1, b1⟩
theorem zk_vi (X : zk_X p R s m args meth c E cc nL cells slots Ts own) {y : MethodName} {bytes : ByteArray} {maxL n index : Nat} {ret : Option FieldType} {ws : List Cond} {rm : Room} {As rest : List Value} {C : String} {b : Nat} {fr : Option (Int32 × zk_Z)} {K : Int32 → zk_Z → Option α} (h : zk_bd fr K = some o) (hM : ∀ (r : Int32) (z1 : zk_Z), fr = some (r, z1) → Met l y ws rm (va_Pc (Value.ref b :: As) (zk_W E z)) (zk_Qi E r z1) 0 0 (zk_A E)) (cw : CallW R s args own C index y bytes maxL ret ws rm 0 0 n) (recv : ∀ H : Heap, zk_P E z H → ∃ cell : Cell, H[b]? = some cell ∧ cell.vm.isStatics = false ∧ s.vm.findClass C = some cell.cls) (hn : As.length = n) (hst : st = As.reverse ++ .ref b :: rest) (hW : (rest.map fun v => v.category).sum ≤ 8) (hdg : decode cc pc = .ok (.invokevirtual index, 3)) (kk : ∀ (r : Int32) (z1 : zk_Z), K r z1 = some o → zk_G p l e R s m args below meth c E nL cells slots Q (pc + 3) lv (.int r :: rest) z1) : zk_G p l e R s m args below meth c E nL cells slots Q pc lv st z := by
  obtain ⟨r, z1, hf, h⟩ := zk_bd_some h
  intro H locs ls hP hS hl
  refine va_calli (mc := 0) (ms := 0) (va_runV (As := As) (rest := rest) X.1 (hM r z1 hf) cw ⟨zk_blind, recv H hP, fun U hU hW => ⟨rfl, zk_W.go X.2.1.2.1 X.2.1.2.2.1 hP hS hW.alike hU⟩⟩ rfl hn hl.1 hst (lv_room hW) hdg ⟨X.2.2.1, X.2.2.2⟩) hS (fun _ _ h => h) (fun _ h => h) (fun r' u t H1 locs1 ht hvm hw hB hz1 hk1 hS1 => ?_)
  obtain ⟨rfl, rfl⟩ := hw
  exact kk _ _ h H1 locs1 ls (by rw [← ht]; exact hB.1) hS1 hl
theorem zk_si (X : zk_X p R s m args meth c E cc nL cells slots Ts own) {y : MethodName} {bytes : ByteArray} {maxL n index : Nat} {ret : Option FieldType} {ws : List Cond} {rm : Room} {As rest : List Value} {fr : Option (Int32 × zk_Z)} {K : Int32 → zk_Z → Option α} (h : zk_bd fr K = some o) (hM : ∀ (r : Int32) (z1 : zk_Z), fr = some (r, z1) → Met l y ws rm (va_Pc As (zk_W E z)) (zk_Qi E r z1) 0 0 (zk_A E)) (cw : CallB R s args own index y bytes maxL ret ws rm 0 0 n ∧ (Cond.static y).before args s = true) (hn : As.length = n) (hst : st = As.reverse ++ rest) (hW : (rest.map fun v => v.category).sum ≤ 8) (hdg : decode cc pc = .ok (.invokestatic index, 3)) (kk : ∀ (r : Int32) (z1 : zk_Z), K r z1 = some o → zk_G p l e R s m args below meth c E nL cells slots Q (pc + 3) lv (.int r :: rest) z1) : zk_G p l e R s m args below meth c E nL cells slots Q pc lv st z := by
  obtain ⟨r, z1, hf, h⟩ := zk_bd_some h
  intro H locs ls hP hS hl
  refine va_calli (mc := 0) (ms := 0) (va_runS (As := As) (rest := rest) X.1 (hM r z1 hf) cw ⟨zk_blind, fun U hU hW => ⟨rfl, zk_W.go X.2.1.2.1 X.2.1.2.2.1 hP hS hW.alike hU⟩⟩ rfl hn hl.1 hst (lv_room hW) hdg ⟨X.2.2.1, X.2.2.2⟩) hS (fun _ _ h => h) (fun _ h => h) (fun r' u t H1 locs1 ht hvm hw hB hz1 hk1 hS1 => ?_)
  obtain ⟨rfl, rfl⟩ := hw
  exact kk _ _ h H1 locs1 ls (by rw [← ht]; exact hB.1) hS1 hl
theorem zk_vl (X : zk_X p R s m args meth c E cc nL cells slots Ts own) {y : MethodName} {bytes : ByteArray} {maxL n index : Nat} {ret : Option FieldType} {ws : List Cond} {rm : Room} {As rest : List Value} {C : String} {b : Nat} {fr : Option (Int64 × zk_Z)} {K : Int64 → zk_Z → Option α} (h : zk_bd fr K = some o) (hM : ∀ (r : Int64) (z1 : zk_Z), fr = some (r, z1) → Met l y ws rm (va_Pc (Value.ref b :: As) (zk_W E z)) (zk_Ql E r z1) 0 0 (zk_A E)) (cw : CallW R s args own C index y bytes maxL ret ws rm 0 0 n) (recv : ∀ H : Heap, zk_P E z H → ∃ cell : Cell, H[b]? = some cell ∧ cell.vm.isStatics = false ∧ s.vm.findClass C = some cell.cls) (hn : As.length = n) (hst : st = As.reverse ++ .ref b :: rest) (hW : (rest.map fun v => v.category).sum ≤ 8) (hdg : decode cc pc = .ok (.invokevirtual index, 3)) (kk : ∀ (r : Int64) (z1 : zk_Z), K r z1 = some o → zk_G p l e R s m args below meth c E nL cells slots Q (pc + 3) lv (.long r :: rest) z1) : zk_G p l e R s m args below meth c E nL cells slots Q pc lv st z := by
  obtain ⟨r, z1, hf, h⟩ := zk_bd_some h
  intro H locs ls hP hS hl
  refine va_calll (mc := 0) (ms := 0) (va_runV (As := As) (rest := rest) X.1 (hM r z1 hf) cw ⟨zk_blind, recv H hP, fun U hU hW => ⟨rfl, zk_W.go X.2.1.2.1 X.2.1.2.2.1 hP hS hW.alike hU⟩⟩ rfl hn hl.1 hst (lv_room hW) hdg ⟨X.2.2.1, X.2.2.2⟩) hS (fun _ _ h => h) (fun _ h => h) (fun r' u t H1 locs1 ht hvm hw hB hz1 hk1 hS1 => ?_)
  obtain ⟨rfl, rfl⟩ := hw
  exact kk _ _ h H1 locs1 ls (by rw [← ht]; exact hB.1) hS1 hl
theorem zk_sl (X : zk_X p R s m args meth c E cc nL cells slots Ts own) {y : MethodName} {bytes : ByteArray} {maxL n index : Nat} {ret : Option FieldType} {ws : List Cond} {rm : Room} {As rest : List Value} {fr : Option (Int64 × zk_Z)} {K : Int64 → zk_Z → Option α} (h : zk_bd fr K = some o) (hM : ∀ (r : Int64) (z1 : zk_Z), fr = some (r, z1) → Met l y ws rm (va_Pc As (zk_W E z)) (zk_Ql E r z1) 0 0 (zk_A E)) (cw : CallB R s args own index y bytes maxL ret ws rm 0 0 n ∧ (Cond.static y).before args s = true) (hn : As.length = n) (hst : st = As.reverse ++ rest) (hW : (rest.map fun v => v.category).sum ≤ 8) (hdg : decode cc pc = .ok (.invokestatic index, 3)) (kk : ∀ (r : Int64) (z1 : zk_Z), K r z1 = some o → zk_G p l e R s m args below meth c E nL cells slots Q (pc + 3) lv (.long r :: rest) z1) : zk_G p l e R s m args below meth c E nL cells slots Q pc lv st z := by
  obtain ⟨r, z1, hf, h⟩ := zk_bd_some h
  intro H locs ls hP hS hl
  refine va_calll (mc := 0) (ms := 0) (va_runS (As := As) (rest := rest) X.1 (hM r z1 hf) cw ⟨zk_blind, fun U hU hW => ⟨rfl, zk_W.go X.2.1.2.1 X.2.1.2.2.1 hP hS hW.alike hU⟩⟩ rfl hn hl.1 hst (lv_room hW) hdg ⟨X.2.2.1, X.2.2.2⟩) hS (fun _ _ h => h) (fun _ h => h) (fun r' u t H1 locs1 ht hvm hw hB hz1 hk1 hS1 => ?_)
  obtain ⟨rfl, rfl⟩ := hw
  exact kk _ _ h H1 locs1 ls (by rw [← ht]; exact hB.1) hS1 hl
theorem zk_vv (X : zk_X p R s m args meth c E cc nL cells slots Ts own) {y : MethodName} {bytes : ByteArray} {maxL n index : Nat} {ret : Option FieldType} {ws : List Cond} {rm : Room} {As rest : List Value} {C : String} {b : Nat} {fr : Option (Unit × zk_Z)} {K : Unit → zk_Z → Option α} (h : zk_bd fr K = some o) (hM : ∀ (r : Unit) (z1 : zk_Z), fr = some (r, z1) → Met l y ws rm (va_Pc (Value.ref b :: As) (zk_W E z)) (zk_Qv E z1) 0 0 (zk_A E)) (cw : CallW R s args own C index y bytes maxL ret ws rm 0 0 n) (recv : ∀ H : Heap, zk_P E z H → ∃ cell : Cell, H[b]? = some cell ∧ cell.vm.isStatics = false ∧ s.vm.findClass C = some cell.cls) (hn : As.length = n) (hst : st = As.reverse ++ .ref b :: rest) (hW : (rest.map fun v => v.category).sum ≤ 8) (hdg : decode cc pc = .ok (.invokevirtual index, 3)) (kk : ∀ z1 : zk_Z, K () z1 = some o → zk_G p l e R s m args below meth c E nL cells slots Q (pc + 3) lv (rest) z1) : zk_G p l e R s m args below meth c E nL cells slots Q pc lv st z := by
  obtain ⟨r, z1, hf, h⟩ := zk_bd_some h
  intro H locs ls hP hS hl
  refine va_callv (mc := 0) (ms := 0) (va_runV (As := As) (rest := rest) X.1 (hM r z1 hf) cw ⟨zk_blind, recv H hP, fun U hU hW => ⟨rfl, zk_W.go X.2.1.2.1 X.2.1.2.2.1 hP hS hW.alike hU⟩⟩ rfl hn hl.1 hst (lv_room hW) hdg ⟨X.2.2.1, X.2.2.2⟩) hS (fun _ _ h => h) (fun _ h => h) (fun u t H1 locs1 ht hvm hw hB hz1 hk1 hS1 => ?_)
  subst hw
  cases r
  exact kk _ h H1 locs1 ls (by rw [← ht]; exact hB.1) hS1 hl
theorem zk_sv (X : zk_X p R s m args meth c E cc nL cells slots Ts own) {y : MethodName} {bytes : ByteArray} {maxL n index : Nat} {ret : Option FieldType} {ws : List Cond} {rm : Room} {As rest : List Value} {fr : Option (Unit × zk_Z)} {K : Unit → zk_Z → Option α} (h : zk_bd fr K = some o) (hM : ∀ (r : Unit) (z1 : zk_Z), fr = some (r, z1) → Met l y ws rm (va_Pc As (zk_W E z)) (zk_Qv E z1) 0 0 (zk_A E)) (cw : CallB R s args own index y bytes maxL ret ws rm 0 0 n ∧ (Cond.static y).before args s = true) (hn : As.length = n) (hst : st = As.reverse ++ rest) (hW : (rest.map fun v => v.category).sum ≤ 8) (hdg : decode cc pc = .ok (.invokestatic index, 3)) (kk : ∀ z1 : zk_Z, K () z1 = some o → zk_G p l e R s m args below meth c E nL cells slots Q (pc + 3) lv (rest) z1) : zk_G p l e R s m args below meth c E nL cells slots Q pc lv st z := by
  obtain ⟨r, z1, hf, h⟩ := zk_bd_some h
  intro H locs ls hP hS hl
  refine va_callv (mc := 0) (ms := 0) (va_runS (As := As) (rest := rest) X.1 (hM r z1 hf) cw ⟨zk_blind, fun U hU hW => ⟨rfl, zk_W.go X.2.1.2.1 X.2.1.2.2.1 hP hS hW.alike hU⟩⟩ rfl hn hl.1 hst (lv_room hW) hdg ⟨X.2.2.1, X.2.2.2⟩) hS (fun _ _ h => h) (fun _ h => h) (fun u t H1 locs1 ht hvm hw hB hz1 hk1 hS1 => ?_)
  subst hw
  cases r
  exact kk _ h H1 locs1 ls (by rw [← ht]; exact hB.1) hS1 hl
theorem zk_vq (X : zk_X p R s m args meth c E cc nL cells slots Ts own) {y : MethodName} {bytes : ByteArray} {maxL n index : Nat} {ret : Option FieldType} {ws : List Cond} {rm : Room} {As rest : List Value} {C : String} {b : Nat} {gq : Nat} {fr : Option (Option Nat × zk_Z)} {KA : zk_Z → Option α} {KB : Nat → zk_Z → Option α} (h : zk_bd fr (fun r z => zk_oc r (KA z) (fun k => KB k z)) = some o) (hM : ∀ (r : Option Nat) (z1 : zk_Z), fr = some (r, z1) → Met l y ws rm (va_Pc (Value.ref b :: As) (zk_W E z)) (zk_Qq E gq r z1) 0 0 (zk_A E)) (cw : CallW R s args own C index y bytes maxL ret ws rm 0 0 n) (recv : ∀ H : Heap, zk_P E z H → ∃ cell : Cell, H[b]? = some cell ∧ cell.vm.isStatics = false ∧ s.vm.findClass C = some cell.cls) (hn : As.length = n) (hst : st = As.reverse ++ .ref b :: rest) (hW : (rest.map fun v => v.category).sum ≤ 8) (hdg : decode cc pc = .ok (.invokevirtual index, 3)) (kn : ∀ z1 : zk_Z, KA z1 = some o → zk_G p l e R s m args below meth c E nL cells slots Q (pc + 3) lv (.null :: rest) z1) (ks : ∀ (r : Nat) (z1 : zk_Z), r < zk_cnt gq → KB r z1 = some o → zk_G p l e R s m args below meth c E nL cells slots Q (pc + 3) lv (.ref (E.2.1 gq r) :: rest) z1) : zk_G p l e R s m args below meth c E nL cells slots Q pc lv st z := by
  obtain ⟨r, z1, hf, h⟩ := zk_bd_some h
  intro H locs ls hP hS hl
  refine va_callq (mc := 0) (ms := 0) (va_runV (As := As) (rest := rest) X.1 (hM r z1 hf) cw ⟨zk_blind, recv H hP, fun U hU hW => ⟨rfl, zk_W.go X.2.1.2.1 X.2.1.2.2.1 hP hS hW.alike hU⟩⟩ rfl hn hl.1 hst (lv_room hW) hdg ⟨X.2.2.1, X.2.2.2⟩) hS (fun _ _ h => h) (fun _ h => h) (fun r' u t H1 locs1 ht hvm hw hB hz1 hk1 hS1 => ?_)
  obtain ⟨rfl, hb, rfl⟩ := hw
  cases r with
  | none => exact kn _ h H1 locs1 ls (by rw [← ht]; exact hB.1) hS1 hl
  | some k => exact ks k _ (hb k rfl) h H1 locs1 ls (by rw [← ht]; exact hB.1) hS1 hl
theorem zk_sq (X : zk_X p R s m args meth c E cc nL cells slots Ts own) {y : MethodName} {bytes : ByteArray} {maxL n index : Nat} {ret : Option FieldType} {ws : List Cond} {rm : Room} {As rest : List Value} {gq : Nat} {fr : Option (Option Nat × zk_Z)} {KA : zk_Z → Option α} {KB : Nat → zk_Z → Option α} (h : zk_bd fr (fun r z => zk_oc r (KA z) (fun k => KB k z)) = some o) (hM : ∀ (r : Option Nat) (z1 : zk_Z), fr = some (r, z1) → Met l y ws rm (va_Pc As (zk_W E z)) (zk_Qq E gq r z1) 0 0 (zk_A E)) (cw : CallB R s args own index y bytes maxL ret ws rm 0 0 n ∧ (Cond.static y).before args s = true) (hn : As.length = n) (hst : st = As.reverse ++ rest) (hW : (rest.map fun v => v.category).sum ≤ 8) (hdg : decode cc pc = .ok (.invokestatic index, 3)) (kn : ∀ z1 : zk_Z, KA z1 = some o → zk_G p l e R s m args below meth c E nL cells slots Q (pc + 3) lv (.null :: rest) z1) (ks : ∀ (r : Nat) (z1 : zk_Z), r < zk_cnt gq → KB r z1 = some o → zk_G p l e R s m args below meth c E nL cells slots Q (pc + 3) lv (.ref (E.2.1 gq r) :: rest) z1) : zk_G p l e R s m args below meth c E nL cells slots Q pc lv st z := by
  obtain ⟨r, z1, hf, h⟩ := zk_bd_some h
  intro H locs ls hP hS hl
  refine va_callq (mc := 0) (ms := 0) (va_runS (As := As) (rest := rest) X.1 (hM r z1 hf) cw ⟨zk_blind, fun U hU hW => ⟨rfl, zk_W.go X.2.1.2.1 X.2.1.2.2.1 hP hS hW.alike hU⟩⟩ rfl hn hl.1 hst (lv_room hW) hdg ⟨X.2.2.1, X.2.2.2⟩) hS (fun _ _ h => h) (fun _ h => h) (fun r' u t H1 locs1 ht hvm hw hB hz1 hk1 hS1 => ?_)
  obtain ⟨rfl, hb, rfl⟩ := hw
  cases r with
  | none => exact kn _ h H1 locs1 ls (by rw [← ht]; exact hB.1) hS1 hl
  | some k => exact ks k _ (hb k rfl) h H1 locs1 ls (by rw [← ht]; exact hB.1) hS1 hl
theorem zk_recv (X : zk_X p R s m args meth c E cc nL cells slots Ts own) {g k ci : Nat} {fs : List Value} {q : vw_C} (hk : k < zk_cnt g) (he : zk_cell E z g k = .inr (ci, fs)) (hc : vwCl[ci]? = some q) : ∀ H : Heap, zk_P E z H → ∃ cell : Cell, H[E.2.1 g k]? = some cell ∧ cell.vm.isStatics = false ∧ s.vm.findClass q.1 = some cell.cls :=
  fun H hP => va_recv X.2.1.2.1 (zk_one hP hk he) (q0 := 0) hc rfl
theorem zk_ireturn (X : zk_X p R s m args meth c E cc nL cells slots Ts own) (hr : meth.sig.returnType = some .int) {v r : Int32} {z' : zk_Z} (hdg : decode cc pc = .ok (.ireturn, 1)) (h : (some (v, z) : Option (Int32 × zk_Z)) = some (r, z')) : zk_G p l e R s m args below meth c E nL cells slots (MQ below (zk_Qi E r z') args s cells slots (zk_A E)) pc lv [.int v] z := by
  cases h
  intro H locs ls hP hS hl
  exact W.iret (v := v) X.1.1 X.1.2.1 hr (fun t ht hW => ⟨⟨v, z, rfl, ⟨rfl, rfl⟩, zk_W.go X.2.1.2.1 X.2.1.2.2.1 hP hS hW.alike ht⟩, hS.F ht⟩) hS.2.2 hdg X.2.1.1
theorem zk_zreturn (X : zk_X p R s m args meth c E cc nL cells slots Ts own) (hr : meth.sig.returnType = some .boolean) {v r : Int32} {z' : zk_Z} (hdg : decode cc pc = .ok (.ireturn, 1)) (hn : narrow .boolean (.int v) = .int v) (h : (some (v, z) : Option (Int32 × zk_Z)) = some (r, z')) : zk_G p l e R s m args below meth c E nL cells slots (MQ below (zk_Qi E r z') args s cells slots (zk_A E)) pc lv [.int v] z := by
  cases h
  intro H locs ls hP hS hl
  exact W.zret (v := v) (ty := .boolean) X.1.1 X.1.2.1 hr hn (fun t ht hW => ⟨⟨v, z, rfl, ⟨rfl, rfl⟩, zk_W.go X.2.1.2.1 X.2.1.2.2.1 hP hS hW.alike ht⟩, hS.F ht⟩) hS.2.2 hdg X.2.1.1
theorem zk_zreturnG (X : zk_X p R s m args meth c E cc nL cells slots Ts own) (hr : meth.sig.returnType = some .boolean) {v r : Int32} {z' : zk_Z} (hdg : decode cc pc = .ok (.ireturn, 1)) (h : zk_gd (zk_bz v) (some (v, z) : Option (Int32 × zk_Z)) = some (r, z')) : zk_G p l e R s m args below meth c E nL cells slots (MQ below (zk_Qi E r z') args s cells slots (zk_A E)) pc lv [.int v] z :=
  zk_zreturn X hr hdg (of_decide_eq_true (zk_gd_some h).1) (zk_gd_some h).2
theorem zk_lreturn (X : zk_X p R s m args meth c E cc nL cells slots Ts own) (hr : meth.sig.returnType = some .long) {v r : Int64} {z' : zk_Z} (hdg : decode cc pc = .ok (.lreturn, 1)) (h : (some (v, z) : Option (Int64 × zk_Z)) = some (r, z')) : zk_G p l e R s m args below meth c E nL cells slots (MQ below (zk_Ql E r z') args s cells slots (zk_A E)) pc lv [.long v] z := by
  cases h
  intro H locs ls hP hS hl
  exact W.lret (v := v) X.1.1 X.1.2.1 hr (fun t ht hW => ⟨⟨v, z, rfl, ⟨rfl, rfl⟩, zk_W.go X.2.1.2.1 X.2.1.2.2.1 hP hS hW.alike ht⟩, hS.F ht⟩) hS.2.2 hdg X.2.1.1
theorem zk_vreturn (X : zk_X p R s m args meth c E cc nL cells slots Ts own) (hr : meth.sig.returnType = none) {r : Unit} {z' : zk_Z} (hdg : decode cc pc = .ok (.return_, 1)) (h : (some ((), z) : Option (Unit × zk_Z)) = some (r, z')) : zk_G p l e R s m args below meth c E nL cells slots (MQ below (zk_Qv E z') args s cells slots (zk_A E)) pc lv [] z := by
  cases h
  intro H locs ls hP hS hl
  exact W.vret X.1.1 X.1.2.1 hr (fun t ht hW => ⟨⟨z, rfl, rfl, zk_W.go X.2.1.2.1 X.2.1.2.2.1 hP hS hW.alike ht⟩, hS.F ht⟩) hS.2.2 hdg X.2.1.1
theorem zk_areturn (X : zk_X p R s m args meth c E cc nL cells slots Ts own) {n : String} {gq : Nat} (hr : meth.sig.returnType = some (.object n)) {r r' : Option Nat} {v : Value} {z' : zk_Z} (hv : va_rf (r'.map (E.2.1 gq)) = v) (hb : ∀ k, r' = some k → k < zk_cnt gq) (hdg : decode cc pc = .ok (.areturn, 1)) (h : (some (r', z) : Option (Option Nat × zk_Z)) = some (r, z')) : zk_G p l e R s m args below meth c E nL cells slots (MQ below (zk_Qq E gq r z') args s cells slots (zk_A E)) pc lv [v] z := by
  cases h
  subst hv
  intro H locs ls hP hS hl
  exact W.aret (rt := .object n) X.1.1 X.1.2.1 hr (Or.inl ⟨n, rfl⟩) (va_rf_or _) (fun t ht hW => ⟨⟨_, z, rfl, ⟨rfl, hb, rfl⟩, zk_W.go X.2.1.2.1 X.2.1.2.2.1 hP hS hW.alike ht⟩, hS.F ht⟩) hS.2.2 hdg X.2.1.1
end ZK
theorem zk_met {l : Launch} {y : MethodName} {ws ws' : List Cond} {rm : Room} {cc : ByteArray} {maxL : Nat} {ret : Option FieldType} {Qc : Array Value → State → Outcome → State → Prop} {avs : List Value} {E : zk_E} {z : zk_Z} {own : String} (hy : plainName y.cls = true) (hw : ws = Cond.code y cc maxL ret :: ws') (ho : y.cls = own) (hi : zk_inj E) (hsz : (lg_sl avs).length ≤ maxL)
    (body : ∀ (p : Program) (e : Env) (s : State) (m : MethodId) (args : Array Value) (below : List Frame) (meth : Method) (c : Code), zk_X p (headSpec ws rm).room s m args meth c E cc maxL 0 0 ws own → meth.sig.returnType = ret → zk_G p l e (headSpec ws rm).room s m args below meth c E maxL 0 0 (MQ below Qc args s 0 0 (zk_A E)) 0 (lv_args 0 avs) [] z) : Met l y ws rm (va_Pc avs (zk_W E z)) Qc 0 0 (zk_A E) := by
  subst ho
  refine Met.ofW (cc := cc) (maxL := maxL) (ret := ret) hy hw ?_
  intro p e s m args below meth c s₁ B hml hv
  obtain ⟨rfl, hP, hK, hT⟩ := hv
  have hl := lv_entry avs (n := maxL) hsz
  rw [lg_entry_eq]
  exact body p e s m _ below meth c ⟨⟨B.exec, B.bytes, hml, findClass_of_methodNamed B.named, atoms_spec (ws := ws) B.pre⟩, ⟨B.notSynchronized, hK, hT, hi⟩, ⟨Nat.zero_le _, Nat.zero_le _⟩⟩ B.returns _ _ _ hP va_S.rf hl

