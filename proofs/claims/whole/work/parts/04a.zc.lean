/-! the constructors' memory: cells one behind another from an address on -/
def zc_P (E : zk_E) (b N : Nat) (M : Nat → va_E) (H : Heap) : Prop := H.size = b + N ∧ ∀ i : Nat, i < N → va_at E.1 vwCl (b + i, M i) H
def zc_A (b : Nat) : Nat → Prop := fun q => b ≤ q
def zc_m (M : Nat → va_E) (i : Nat) (e : va_E) : Nat → va_E := fun j => if j = i then e else M j
theorem zc_ms (M : Nat → va_E) (i : Nat) (e : va_E) : zc_m M i e i = e := if_pos rfl
theorem zc_mn {M : Nat → va_E} {i j : Nat} {e : va_E} (h : j ≠ i) : zc_m M i e j = M j := if_neg h
def zc_G (p : Program) (l : Launch) (e : Env) (R : Room) (s : State) (m : MethodId) (args : Array Value) (below : List Frame) (meth : Method) (c : Code) (E : zk_E) (b nL cells slots : Nat) (Q : State → Prop) (pc : Nat) (lv : List (Nat × Value)) (st : List Value) (N : Nat) (M : Nat → va_E) : Prop :=
  ∀ (H : Heap) (locs : List Loc) (ls : Array Slot), zc_P E b N M H → va_S (zc_A b) s.heap H locs → lv_has ls nL lv → W p l e R s m args below meth c H locs cells slots Q (F0 m pc ls st)
def zc_O (U : State) : Prop := va_AO RX0 U ∧ va_AO RX4 U ∧ va_AO RX5 U ∧ va_AO RX7 U
theorem zc_O.moved {u U : State} (hvm : u.vm.Alike U.vm) (h : zc_O u) : zc_O U := ⟨h.1.moved hvm, h.2.1.moved hvm, h.2.2.1.moved hvm, h.2.2.2.moved hvm⟩
def zc_X (p : Program) (s : State) (m : MethodId) (args : Array Value) (meth : Method) (c : Code) (E : zk_E) (cc : ByteArray) (nL : Nat) (Ts : List Cond) (own : String) : Prop := CallFix p m c cc nL s args Ts own ∧ (meth.locks = false ∧ zc_O s) ∧ zk_K E s
def zc_W (E : zk_E) (b N : Nat) (M : Nat → va_E) (U : State) : Prop := zc_P E b N M U.heap ∧ zk_K E U ∧ zc_O U
theorem zc_blind {E : zk_E} {b N : Nat} {M : Nat → va_E} {av : List Value} : FrameBlind (va_Pc av (zc_W E b N M)) := by
  intro a U g mk q
  obtain ⟨q1, q2, q3, q4⟩ := q
  exact ⟨q1, q2, va_K.moved (u := U) (U := U.calling g mk a) (Vm.Alike.refl U.vm) q3, zc_O.moved (u := U) (U := U.calling g mk a) (Vm.Alike.refl U.vm) q4⟩
abbrev zc_Qv (E : zk_E) (b N : Nat) (M : Nat → va_E) : Array Value → State → Outcome → State → Prop := va_Qv (fun (_ : Unit) => True) (fun _ t => zc_W E b N M t) (zc_A b)
theorem zc_one {E : zk_E} {b N : Nat} {M : Nat → va_E} {H : Heap} (hP : zc_P E b N M H) {i : Nat} (hi : i < N) {e : va_E} (he : M i = e) : va_P E.1 vwCl [(b + i, e)] H := by
  intro k q hq
  match k, hq with
  | 0, hq => cases hq; rw [← he]; exact hP.2 i hi
  | k + 1, hq => simp at hq
theorem zc_P.set {E : zk_E} {b N : Nat} {M : Nat → va_E} {H H1 : Heap} (hP : zc_P E b N M H) {i : Nat} {e : va_E} (he : va_at E.1 vwCl (b + i, e) H1) (z : H1.size = H.size) (oq : ∀ q : Nat, q ≠ b + i → H1[q]? = H[q]?) : zc_P E b N (zc_m M i e) H1 := by
  refine ⟨z.trans hP.1, fun j hj => ?_⟩
  by_cases h : j = i
  · subst h
    rw [zc_ms]; exact he
  · rw [zc_mn h]; exact (hP.2 j hj).kept (oq _ (by show b + j ≠ b + i; omega))
theorem zc_P.push {E : zk_E} {b N : Nat} {M : Nat → va_E} {H H1 : Heap} (hP : zc_P E b N M H) {e : va_E} (he : va_at E.1 vwCl (b + N, e) H1) (z : H1.size = H.size + 1) (oq : ∀ q : Nat, q < H.size → H1[q]? = H[q]?) : zc_P E b (N + 1) (zc_m M N e) H1 := by
  refine ⟨by rw [z, hP.1]; omega, fun j hj => ?_⟩
  by_cases h : j = N
  · subst h
    rw [zc_ms]; exact he
  · rw [zc_mn h]; exact (hP.2 j (by omega)).kept (oq _ (by show b + j < H.size; rw [hP.1]; omega))
theorem zc_P.congr {E : zk_E} {b N : Nat} {M M1 : Nat → va_E} {H : Heap} (hP : zc_P E b N M H) (h : ∀ i, i < N → M i = M1 i) : zc_P E b N M1 H := ⟨hP.1, fun i hi => by rw [← h i hi]; exact hP.2 i hi⟩
theorem zc_S {b : Nat} {H0 H H1 : Heap} {locs : List Loc} (hS : va_S (zc_A b) H0 H locs) (z : H1.size = H.size + 1) (oq : ∀ q : Nat, q < H.size → H1[q]? = H[q]?) : va_S (zc_A b) H0 H1 locs := ⟨Nat.le_trans hS.1 (by omega), fun x h1 h2 => (oq x (Nat.lt_of_lt_of_le h1 hS.1)).trans (hS.2.1 x h1 h2), hS.2.2⟩
section ZC
variable {p : Program} {l : Launch} {e : Env} {R : Room} {s : State} {m : MethodId} {args : Array Value} {below : List Frame} {meth : Method} {c : Code} {cells slots : Nat} {Q : State → Prop}
variable {cc : ByteArray} {pc nL b N : Nat} {lv : List (Nat × Value)} {st : List Value} {E : zk_E} {M : Nat → va_E} {Ts : List Cond} {own : String}
theorem zc_iconst (X : zc_X p s m args meth c E cc nL Ts own) {n : Int} {v : Int32} (hdg : decode cc pc = .ok (.iconst n, 1)) (hv : Int32.ofInt n = v) (k : zc_G p l e R s m args below meth c E b nL cells slots Q (pc + 1) lv (.int v :: st) N M) : zc_G p l e R s m args below meth c E b nL cells slots Q pc lv st N M :=
  fun H locs ls hP hS hl => lv_iconst X.1.1 X.1.2.1 hdg hv (k H locs ls hP hS hl)
theorem zc_bipush (X : zc_X p s m args meth c E cc nL Ts own) {n : Int} {v : Int32} (hdg : decode cc pc = .ok (.bipush n, 2)) (hv : (Int8.ofInt n).toInt32 = v) (k : zc_G p l e R s m args below meth c E b nL cells slots Q (pc + 2) lv (.int v :: st) N M) : zc_G p l e R s m args below meth c E b nL cells slots Q pc lv st N M :=
  fun H locs ls hP hS hl => lv_bipush X.1.1 X.1.2.1 hdg hv (k H locs ls hP hS hl)
theorem zc_sipush (X : zc_X p s m args meth c E cc nL Ts own) {n : Int} {v : Int32} (hdg : decode cc pc = .ok (.sipush n, 3)) (hv : (Int16.ofInt n).toInt32 = v) (k : zc_G p l e R s m args below meth c E b nL cells slots Q (pc + 3) lv (.int v :: st) N M) : zc_G p l e R s m args below meth c E b nL cells slots Q pc lv st N M :=
  fun H locs ls hP hS hl => lv_sipush X.1.1 X.1.2.1 hdg hv (k H locs ls hP hS hl)
theorem zc_iload_n (X : zc_X p s m args meth c E cc nL Ts own) {k : Fin 4} {i : Nat} {x : Int32} (j : Nat) (hdg : decode cc pc = .ok (.iload_n k, 1)) (hi : (k : Nat) = i) (hj : lv[j]? = some (i, .int x)) (kk : zc_G p l e R s m args below meth c E b nL cells slots Q (pc + 1) lv (.int x :: st) N M) : zc_G p l e R s m args below meth c E b nL cells slots Q pc lv st N M :=
  fun H locs ls hP hS hl => lv_iload_n X.1.1 X.1.2.1 hdg hi (lv_at hl j hj) (kk H locs ls hP hS hl)
theorem zc_aload_n (X : zc_X p s m args meth c E cc nL Ts own) {k : Fin 4} {i : Nat} {x : Nat} (j : Nat) (hdg : decode cc pc = .ok (.aload_n k, 1)) (hi : (k : Nat) = i) (hj : lv[j]? = some (i, .ref x)) (kk : zc_G p l e R s m args below meth c E b nL cells slots Q (pc + 1) lv (.ref x :: st) N M) : zc_G p l e R s m args below meth c E b nL cells slots Q pc lv st N M :=
  fun H locs ls hP hS hl => lv_aload_n X.1.1 X.1.2.1 hdg hi (lv_at hl j hj) (kk H locs ls hP hS hl)
theorem zc_istore_n (X : zc_X p s m args meth c E cc nL Ts own) {k : Fin 4} {i : Nat} {x : Int32} {lv' : List (Nat × Value)} (hdg : decode cc pc = .ok (.istore_n k, 1)) (hi : (k : Nat) = i) (hn : i < nL) (hl' : (i, Value.int x) :: lv.filter (fun q => !(q.1 == i) && !(q.1 + 1 == i && q.2.category == 2)) = lv') (kk : zc_G p l e R s m args below meth c E b nL cells slots Q (pc + 1) lv' st N M) : zc_G p l e R s m args below meth c E b nL cells slots Q pc lv (.int x :: st) N M :=
  fun H locs _ hP hS hl => lv_istore_n X.1.1 X.1.2.1 hdg hi hl hn hl' (fun ls hl => kk H locs ls hP hS hl)
theorem zc_iinc (X : zc_X p s m args meth c E cc nL Ts own) {i : Nat} {n : Int} {x v : Int32} {lv' : List (Nat × Value)} (k : Nat) (hdg : decode cc pc = .ok (.iinc i n, 3)) (hk : lv[k]? = some (i, .int x)) (hv : x + Int32.ofInt n = v) (hn : i < nL) (hl' : (i, Value.int v) :: lv.filter (fun q => !(q.1 == i) && !(q.1 + 1 == i && q.2.category == 2)) = lv') (kk : zc_G p l e R s m args below meth c E b nL cells slots Q (pc + 3) lv' st N M) : zc_G p l e R s m args below meth c E b nL cells slots Q pc lv st N M :=
  fun H locs _ hP hS hl => lv_iinc (k := k) X.1.1 X.1.2.1 hdg hl hk hv hn hl' (fun ls hl => kk H locs ls hP hS hl)
theorem zc_goto (X : zc_X p s m args meth c E cc nL Ts own) {off : Int} {tgt : Nat} (hdg : decode cc pc = .ok (.goto off, 3)) (ht : (pc : Int) + off = (tgt : Int)) (k : zc_G p l e R s m args below meth c E b nL cells slots Q tgt lv st N M) : zc_G p l e R s m args below meth c E b nL cells slots Q pc lv st N M :=
  fun H locs ls hP hS hl => lv_goto X.1.1 X.1.2.1 hdg ht (k H locs ls hP hS hl)
theorem zc_dup (X : zc_X p s m args meth c E cc nL Ts own) {va : Value} (hdg : decode cc pc = .ok (.dup, 1)) (hva : va.category = 1) (k : zc_G p l e R s m args below meth c E b nL cells slots Q (pc + 1) lv (va :: va :: st) N M) : zc_G p l e R s m args below meth c E b nL cells slots Q pc lv (va :: st) N M :=
  fun H locs ls hP hS hl => lv_dup X.1.1 X.1.2.1 hdg hva (k H locs ls hP hS hl)
theorem zc_astore_n (X : zc_X p s m args meth c E cc nL Ts own) {k : Fin 4} {i : Nat} {x : Nat} {lv' : List (Nat × Value)} (hdg : decode cc pc = .ok (.astore_n k, 1)) (hi : (k : Nat) = i) (hn : i < nL) (hl' : (i, Value.ref x) :: lv.filter (fun q => !(q.1 == i) && !(q.1 + 1 == i && q.2.category == 2)) = lv') (kk : zc_G p l e R s m args below meth c E b nL cells slots Q (pc + 1) lv' st N M) : zc_G p l e R s m args below meth c E b nL cells slots Q pc lv (.ref x :: st) N M :=
  fun H locs _ hP hS hl => lv_astore_n X.1.1 X.1.2.1 hdg hi hl hn hl' (fun ls hl => kk H locs ls hP hS hl)
theorem zc_cmpT (X : zc_X p s m args meth c E cc nL Ts own) {x y : Int32} {off : Int} {tgt : Nat} (hdg : decode cc pc = .ok (.if_icmp .ge off, 3)) (ht : (pc : Int) + off = (tgt : Int)) (h : y ≤ x) (k : zc_G p l e R s m args below meth c E b nL cells slots Q tgt lv st N M) : zc_G p l e R s m args below meth c E b nL cells slots Q pc lv (.int y :: .int x :: st) N M :=
  fun H locs ls hP hS hl => lv_icmp_ge X.1.1 X.1.2.1 hdg ht (fun _ => k H locs ls hP hS hl) (fun q => absurd h q)
theorem zc_cmpF (X : zc_X p s m args meth c E cc nL Ts own) {x y : Int32} {off : Int} {tgt : Nat} (hdg : decode cc pc = .ok (.if_icmp .ge off, 3)) (ht : (pc : Int) + off = (tgt : Int)) (h : ¬ y ≤ x) (k : zc_G p l e R s m args below meth c E b nL cells slots Q (pc + 3) lv st N M) : zc_G p l e R s m args below meth c E b nL cells slots Q pc lv (.int y :: .int x :: st) N M :=
  fun H locs ls hP hS hl => lv_icmp_ge X.1.1 X.1.2.1 hdg ht (fun q => absurd q h) (fun _ => k H locs ls hP hS hl)
theorem zc_obj (X : zc_X p s m args meth c E cc nL Ts own) {index a : Nat} (w1 : Cond.methodLink own index objectInit ∈ Ts) (w2 : Cond.instanceMethod objectInit ∈ Ts) (w3 : Cond.code objectInit ⟨#[0xb1]⟩ 1 none ∈ Ts) (hdg : decode cc pc = .ok (.invokespecial index, 3)) (hfr : 1 ≤ R.frames) (hlo : (st.map fun v => v.category).sum + 12 ≤ R.locals) (k : zc_G p l e R s m args below meth c E b nL cells slots Q (pc + 3) lv st N M) : zc_G p l e R s m args below meth c E b nL cells slots Q pc lv (.ref a :: st) N M :=
  fun H locs ls hP hS hl => W.objInit X.1.1 X.1.2.1 X.1.2.2.2.1 (X.1.2.2.2.2 _ w1) (X.1.2.2.2.2 _ w2) (X.1.2.2.2.2 _ w3) rfl (by rw [X.1.2.2.1]; exact hl.1) rfl hdg hfr (by show 2 * 0 + _ + 12 ≤ _; omega) (k H locs ls hP hS hl)
theorem zc_get (X : zc_X p s m args meth c E cc nL Ts own) {C : String} {T : u_T} {n ci index i : Nat} {fs : List Value} {v : Value} (hin : ∀ w ∈ u_ws C T n, w ∈ Ts) (hi : i < N) (he : M i = .inr (ci, fs)) (hc : vwCl[ci]? = some (C, T, n)) (j : Nat) (hj : j < n) (hw : Cond.fieldLink own index (T j).1 (T j).2.1 (T j).2.2.1 ∈ Ts) (hv : fs[j]? = some v) (hdg : decode cc pc = .ok (.getfield index, 3)) (kk : zc_G p l e R s m args below meth c E b nL cells slots Q (pc + 3) lv (v :: st) N M) : zc_G p l e R s m args below meth c E b nL cells slots Q pc lv (.ref (b + i) :: st) N M :=
  fun H locs ls hP hS hl => va_get X.1.1 X.1.2.1 X.1.2.2.2.2 hin X.1.2.2.2.1 X.2.2 (zc_one hP hi he) 0 rfl hc j hj (X.1.2.2.2.2 _ hw) (fun _ h => h) hv hdg (kk H locs ls hP hS hl)
theorem zc_put (X : zc_X p s m args meth c E cc nL Ts own) {fs1 : List Value} {C : String} {T : u_T} {n ci index i : Nat} {fs : List Value} {v : Value} (hin : ∀ w ∈ u_ws C T n, w ∈ Ts) (ty0 : Nat → FieldType) (hty : ∀ k, k < n → parseFieldDescriptor (T k).2.2.1 = some (ty0 k)) (hnm : ∀ a, a < n → ∀ b, b < n → a ≠ b → (T a).2.1 ≠ (T b).2.1) (hi : i < N) (he : M i = .inr (ci, fs)) (hc : vwCl[ci]? = some (C, T, n)) (j : Nat) (hj : j < n) (hw : Cond.fieldLink own index (T j).1 (T j).2.1 (T j).2.2.1 ∈ Ts) (hfin : (T j).2.2.2 = false) {ty : FieldType} (hd : parseFieldDescriptor (T j).2.2.1 = some ty) (hn : narrow ty v = v) (hfit : fits ty v = true) (hl0 : j < fs.length) (ef : fs.set j v = fs1) (hdg : decode cc pc = .ok (.putfield index, 3)) (kk : zc_G p l e R s m args below meth c E b nL cells slots Q (pc + 3) lv st N (zc_m M i (.inr (ci, fs1)))) : zc_G p l e R s m args below meth c E b nL cells slots Q pc lv (v :: .ref (b + i) :: st) N M := by
  subst ef
  intro H locs ls hP hS0 hl
  have hts := X.1.2.2.2.2
  have hK := X.2.2
  have hap := va_apart (own := own) hts hin ty0 hty hnm hK hc
  obtain ⟨r, h1, cell, q1, q2, q3, q4⟩ := (zc_one hP hi he) 0 _ rfl
  have hr : r = (C, T, n) := Option.some.inj (h1.symm.trans hc)
  subst hr
  obtain ⟨hS, hfc, kC, hkC, hkind⟩ := hK.1 ci _ hc
  obtain ⟨cf, kf, fi, f, hif, hsl⟩ := hS j hj
  have hlay := hts _ (hin _ (u_in_lay hj))
  unfold u_lay at hlay
  rw [if_neg (by rw [hfin]; decide)] at hlay
  have hst := (u_facts hfc hkC (u_lays hts hin hj) hif).1
  have h6 := u_store hfc hkC hkind hlay hif hd hn hfit
  refine W.putK X.1.1 X.1.2.1 (f := f) ⟨X.1.2.2.2.1, hts _ hw, ⟨_, _, _, hif⟩, hst⟩ (by rw [q2]; exact h6) q1 q3 (by rw [hsl]; exact k2_hasslot (q4 j hj)) rfl rfl hdg fun H' e1 e2 e3 => ?_
  rw [hsl] at e1 ⊢
  exact kk H' _ ls (hP.set ⟨_, hc, t_OB.to (V := updV (vp_V fs) j v) ⟨_, e1, q2, q3, t_set q4 hap hj v⟩ (fun a _ => vp_updV_set hl0 v a)⟩ e2 e3) (hS0.put e2 e3 (Nat.le_add_right b i)) hl
theorem zc_putF (X : zc_X p s m args meth c E cc nL Ts own) {fs1 : List Value} {C : String} {T : u_T} {n ci index i : Nat} {fs : List Value} {v : Value} (hin : ∀ w ∈ u_ws C T n, w ∈ Ts) (ty0 : Nat → FieldType) (hty : ∀ k, k < n → parseFieldDescriptor (T k).2.2.1 = some (ty0 k)) (hnm : ∀ a, a < n → ∀ b, b < n → a ≠ b → (T a).2.1 ≠ (T b).2.1) (hin2 : meth.name = "<init>") (hi : i < N) (he : M i = .inr (ci, fs)) (hc : vwCl[ci]? = some (C, T, n)) (j : Nat) (hj : j < n) (hw : Cond.fieldLink own index (T j).1 (T j).2.1 (T j).2.2.1 ∈ Ts) (hfin : (T j).2.2.2 = true) (hdecl : (T j).1 = own) {ty : FieldType} (hd : parseFieldDescriptor (T j).2.2.1 = some ty) (hn : narrow ty v = v) (hfit : fits ty v = true) (hl0 : j < fs.length) (ef : fs.set j v = fs1) (hdg : decode cc pc = .ok (.putfield index, 3)) (kk : zc_G p l e R s m args below meth c E b nL cells slots Q (pc + 3) lv st N (zc_m M i (.inr (ci, fs1)))) : zc_G p l e R s m args below meth c E b nL cells slots Q pc lv (v :: .ref (b + i) :: st) N M := by
  subst ef
  intro H locs ls hP hS0 hl
  have hts := X.1.2.2.2.2
  have hK := X.2.2
  have hown := X.1.2.2.2.1
  have hap := va_apart (own := own) hts hin ty0 hty hnm hK hc
  obtain ⟨r, h1, cell, q1, q2, q3, q4⟩ := (zc_one hP hi he) 0 _ rfl
  have hr : r = (C, T, n) := Option.some.inj (h1.symm.trans hc)
  subst hr
  obtain ⟨hS, hfc, kC, hkC, hkind⟩ := hK.1 ci _ hc
  obtain ⟨cf, kf, fi, f, hif, hsl⟩ := hS j hj
  have hlay := hts _ (hin _ (u_in_lay hj))
  unfold u_lay at hlay
  rw [if_pos hfin] at hlay
  have hst := (u_facts hfc hkC (u_lays hts hin hj) hif).1
  have hcf : m.cls = cf := by
    obtain ⟨_, _, c', _, _, _, -, -, hf', -, -, -, hown2, -⟩ := Cond.laysFinal_spec hlay
    have e1 : c' = cf := by have := hif.symm.trans hf'; simp at this; exact this.1.symm
    rw [hdecl] at hown2
    rw [← e1]; exact Option.some.inj (hown.symm.trans hown2)
  have h6 := u_fits hfc hkC hkind (Or.inr hlay) hif hd hn hfit
  refine W.putFinK X.1.1 X.1.2.1 hown (hts _ hw) hif hst hcf hin2 (by rw [q2]; exact h6) q1 q3 (by rw [hsl]; exact k2_hasslot (q4 j hj)) rfl rfl hdg fun H' e1 e2 e3 => ?_
  rw [hsl] at e1 ⊢
  exact kk H' _ ls (hP.set ⟨_, hc, t_OB.to (V := updV (vp_V fs) j v) ⟨_, e1, q2, q3, t_set q4 hap hj v⟩ (fun a _ => vp_updV_set hl0 v a)⟩ e2 e3) (hS0.put e2 e3 (Nat.le_add_right b i)) hl
theorem zc_new (X : zc_X p s m args meth c E cc nL Ts own) {N1 c1 s1 : Nat} {C : String} {T : u_T} {n ci index : Nat} {fs : List Value} (hin : ∀ w ∈ u_ws C T n, w ∈ Ts) (ty : Nat → FieldType) (hty : ∀ k, k < n → parseFieldDescriptor (T k).2.2.1 = some (ty k)) (w1 : Cond.classLink own index C ∈ Ts) (w2 : Cond.instantiable C n ∈ Ts) (w3 : Cond.initialized C ∈ Ts) (hc : vwCl[ci]? = some (C, T, n)) (hfs : ∀ j, j < n → defaultValue (ty j) = vp_V fs j) (eN : N + 1 = N1) (ec : cells + 1 = c1) (es : slots + n = s1) (hcells : cells + 1 ≤ R.cells) (hslots : slots + n ≤ R.slots) (hdg : decode cc pc = .ok (.new index, 3))
    (kk : zc_G p l e R s m args below meth c E b nL c1 s1 Q (pc + 3) lv (.ref (b + N) :: st) N1 (zc_m M N (.inr (ci, fs)))) : zc_G p l e R s m args below meth c E b nL cells slots Q pc lv st N M := by
  subst eN ec es
  intro H locs ls hP hS hl
  have hts := X.1.2.2.2.2
  have hKn := X.2.2.1 ci _ hc
  refine W.newcK X.1.1 X.1.2.1 X.1.2.2.2.1 (hts _ w1) (hts _ w2) (hts _ w3) rfl hdg hcells hslots hKn.2.1 hP.1 fun H1 kC hkC e1 z1 o1 => ?_
  have z1' : H1.size = H.size + 1 := by rw [z1, hP.1]
  have o1' : ∀ q : Nat, q < H.size → H1[q]? = H[q]? := fun q h => o1 q (by rw [← hP.1]; exact h)
  exact kk H1 locs ls (hP.push ⟨_, hc, (u_born ty hts hin hKn hkC e1 hty).to hfs⟩ z1' o1') (zc_S hS z1' o1') hl
theorem zc_newi (X : zc_X p s m args meth c E cc nL Ts own) {N1 c1 s1 : Nat} {n : Int32} {N' : Nat} (w1 : Cond.arrayClass .int ∈ Ts) (hn : ¬ n < 0) (hN : n.toNatClampNeg = N') (hbytes : N' * 4 ≤ 536870912) (eN : N + 1 = N1) (ec : cells + 1 = c1) (es : slots + N' = s1) (hcells : cells + 1 ≤ R.cells) (hslots : slots + N' ≤ R.slots) (hdg : decode cc pc = .ok (.newarray .int, 2))
    (kk : zc_G p l e R s m args below meth c E b nL c1 s1 Q (pc + 2) lv (.ref (b + N) :: st) N1 (zc_m M N (.inl (E.2.2 0, N', .inl (fun _ => 0))))) : zc_G p l e R s m args below meth c E b nL cells slots Q pc lv (.int n :: st) N M := by
  subst eN ec es
  intro H locs ls hP hS hl
  refine va_newaK (atype := .int) X.1.1 X.1.2.1 (X.1.2.2.2.2 _ w1) rfl hdg rfl hn hN hbytes hcells hslots hP.1 fun H1 cA e1 z1 o1 hA hf => ?_
  have hcy : cA = E.2.2 0 := by
    have h0 : s.vm.findClass ("[" ++ FieldType.int.toString) = some (E.2.2 0) := (X.2.2.2 0 _ rfl).2
    exact Option.some.inj (hf.symm.trans h0)
  subst hcy
  have z1' : H1.size = H.size + 1 := by rw [z1, hP.1]
  have o1' : ∀ q : Nat, q < H.size → H1[q]? = H[q]? := fun q h => o1 q (by rw [← hP.1]; exact h)
  exact kk H1 locs ls (hP.push e1 z1' o1') (zc_S hS z1' o1') hl
theorem zc_newq (X : zc_X p s m args meth c E cc nL Ts own) {N1 c1 s1 : Nat} {n : Int32} {N' index t : Nat} {C : String} {cA : ClassId} (w1 : Cond.classLink own index C ∈ Ts) (w2 : va_AO C s) (ht : (zk_tys E)[t]? = some (cA, .object C)) (hn : ¬ n < 0) (hN : n.toNatClampNeg = N') (hbytes : N' * 4 ≤ 536870912) (eN : N + 1 = N1) (ec : cells + 1 = c1) (es : slots + N' = s1) (hcells : cells + 1 ≤ R.cells) (hslots : slots + N' ≤ R.slots) (hdg : decode cc pc = .ok (.anewarray index, 3))
    (kk : zc_G p l e R s m args below meth c E b nL c1 s1 Q (pc + 3) lv (.ref (b + N) :: st) N1 (zc_m M N (.inl (cA, N', .inr (.inr (.inr (.inr (fun _ => none)))))))) : zc_G p l e R s m args below meth c E b nL cells slots Q pc lv (.int n :: st) N M := by
  subst eN ec es
  intro H locs ls hP hS hl
  subst hN
  refine W.anew X.1.1 X.1.2.1 X.1.2.2.2.1 (X.1.2.2.2.2 _ w1) (va_AO.use w2) rfl hdg rfl hn hbytes hcells hslots fun cA' kA comp f1 f2 f3 f4 => ?_
  have hcy : cA' = cA := by
    obtain ⟨_, _, -, -, -, h0⟩ := (X.2.2.2 t _ ht).2
    exact Option.some.inj (f1.symm.trans h0)
  subst hcy
  generalize hH1 : H.push ({ cls := cA', slots := Array.replicate n.toNatClampNeg .null, vm := .none } : Cell) = H1
  have z1 : H1.size = H.size + 1 := by rw [← hH1, Array.size_push]
  have e1 : H1[H.size]? = some (arrV cA' n.toNatClampNeg (fun _ => .null)) := by rw [← hH1, Array.getElem?_push_size, ← arrV_new]
  have o1 : ∀ q : Nat, q < H.size → H1[q]? = H[q]? := fun q hq => by rw [← hH1, Array.getElem?_push, if_neg (Nat.ne_of_lt hq)]
  rw [hP.1] at e1 ⊢
  exact kk H1 locs ls (hP.push (by show H1[b + N]? = some (vp_cell _ _); rw [vp_cell_q]; exact e1) z1 o1) (zc_S hS z1 o1) hl
theorem zc_iast (X : zc_X p s m args meth c E cc nL Ts own) {i n : Nat} {f : Nat → Int32} {j x : Int32} (hi : i < N) (he : M i = .inl (E.2.2 0, n, .inl f)) (hin : vp_in j n) (hdg : decode cc pc = .ok (.iastore, 1)) (kk : zc_G p l e R s m args below meth c E b nL cells slots Q (pc + 1) lv st N (zc_m M i (.inl (E.2.2 0, n, .inl (upd f j.toNatClampNeg x))))) : zc_G p l e R s m args below meth c E b nL cells slots Q pc lv (.int x :: .int j :: .ref (b + i) :: st) N M := by
  intro H locs ls hP hS hl
  refine W.iast X.1.1 X.1.2.1 ((zc_one hP hi he) 0 _ rfl) ((X.2.2.2 0 _ rfl).1 n (fun j => .int (f j))) (fun q => by cases q) (by show ¬ (j < 0 ∨ (arrV _ _ _).slots.size ≤ _); rw [arrV_size]; exact hin) rfl rfl hdg fun H1 e z1 oq => ?_
  refine kk H1 _ ls (hP.set ?_ z1 oq) (hS.put z1 oq (Nat.le_add_right b i)) hl
  show H1[b + i]? = some (vp_cell _ _)
  rw [e]
  rw [vp_cell_i, vp_cell_i, arrV_store]
  congr 2
  funext q
  by_cases hq : q = j.toNatClampNeg
  · subst hq
    simp [updV, upd]
  · simp [updV, upd, hq]
theorem zc_aast (X : zc_X p s m args meth c E cc nL Ts own) {i k t ci n : Nat} {cA : ClassId} {r : vw_C} {f : Nat → Option Nat} {vs : List Value} {j : Int32} (hi : i < N) (he : M i = .inl (cA, n, .inr (.inr (.inr (.inr f))))) (ht : (zk_tys E)[t]? = some (cA, .object r.1)) (hk : k < N) (hv : M k = .inr (ci, vs)) (hc : vwCl[ci]? = some r) (hin : vp_in j n) (hdg : decode cc pc = .ok (.aastore, 1)) (kk : zc_G p l e R s m args below meth c E b nL cells slots Q (pc + 1) lv st N (zc_m M i (.inl (cA, n, .inr (.inr (.inr (.inr (va_up f j.toNatClampNeg (some (b + k))))))))) ) : zc_G p l e R s m args below meth c E b nL cells slots Q pc lv (.ref (b + k) :: .int j :: .ref (b + i) :: st) N M := by
  intro H locs ls hP hS hl
  have hlt : j.toNatClampNeg < n := Nat.not_le.mp fun q => hin (Or.inr q)
  have h0 : ¬ j < 0 := fun q => hin (Or.inl q)
  obtain ⟨r', hr', cellV, g1, g2, g3, -⟩ := (zc_one hP hk hv) 0 _ rfl
  have hcls := (X.2.2.1 ci r hc).2
  obtain ⟨kA, comp, k1, k2, k3, -⟩ := (X.2.2.2 t _ ht).2
  have hcomp : comp = E.1.1 ci := Option.some.inj (k3.symm.trans hcls.1)
  subst hcomp
  obtain ⟨kC, hkC, -⟩ := hcls.2
  refine W.aast X.1.1 X.1.2.1 ((zc_one hP hi he) 0 _ rfl) (fun q h => by cases h) (fun h => by cases h) k1 k2 rfl hkC ⟨h0, by show _ < (arrV _ _ _).slots.size; rw [arrV_size]; exact hlt⟩ g1 (fun q h => by rw [g3] at h; cases h) (by rw [g2]; exact hkC) (by rw [g2]; exact va_assign hcls) rfl rfl hdg fun H1 e z oq => ?_
  refine kk H1 _ ls (hP.set ?_ z oq) (hS.put z oq (Nat.le_add_right b i)) hl
  show H1[b + i]? = some (vp_cell _ _)
  rw [e]
  rw [vp_cell_q, vp_cell_q, arrV_store]
  congr 2
  funext q
  by_cases hq : q = j.toNatClampNeg
  · subst hq
    simp [updV, va_up, va_rf]
  · simp [updV, va_up, hq]
theorem zc_init (X : zc_X p s m args meth c E cc nL Ts own) {N2 c1 s1 : Nat} {y : MethodName} {bytes : ByteArray} {maxL index mc ms i N1 : Nat} {ws : List Cond} {rm : Room} {M1 : Nat → va_E} (hM : Met l y ws rm (va_Pc [.ref (b + i)] (zc_W E b N M)) (zc_Qv E b N1 M1) mc ms (zc_A b)) (cw : CallB R s args own index y bytes maxL none ws rm mc ms 0 ∧ y.name = "<init>" ∧ (Cond.instanceMethod y).before args s = true) (hW : (st.map fun v => v.category).sum ≤ 8) (hdg : decode cc pc = .ok (.invokespecial index, 3)) (eN : N1 = N2) (ec : cells + mc = c1) (es : slots + ms = s1) (hcells : cells + mc ≤ R.cells) (hslots : slots + ms ≤ R.slots)
    (kk : zc_G p l e R s m args below meth c E b nL c1 s1 Q (pc + 3) lv st N2 M1) : zc_G p l e R s m args below meth c E b nL cells slots Q pc lv (.ref (b + i) :: st) N M := by
  subst eN ec es
  intro H locs ls hP hS hl
  refine va_callv (va_runI (As := []) (rest := st) X.1 hM cw ⟨zc_blind, fun U hU hW => ⟨rfl, by rw [hU]; exact hP, va_K.moved hW.alike X.2.2, X.2.1.2.moved hW.alike⟩⟩ rfl rfl hl.1 rfl (lv_room hW) hdg ⟨hcells, hslots⟩) hS (fun _ _ h => h) (fun _ h => h) (fun u t H1 locs1 ht hvm hw hB hz1 hk1 hS1 => ?_)
  exact kk H1 locs1 ls (by rw [← ht]; exact hB.1) hS1 hl
theorem zc_ret (X : zc_X p s m args meth c E cc nL Ts own) (hr : meth.sig.returnType = none) {M1 : Nat → va_E} (hM : ∀ i, i < N → M i = M1 i) (hdg : decode cc pc = .ok (.return_, 1)) : zc_G p l e R s m args below meth c E b nL cells slots (MQ below (zc_Qv E b N M1) args s cells slots (zc_A b)) pc lv [] N M := by
  intro H locs ls hP hS hl
  exact W.vret X.1.1 X.1.2.1 hr (fun t ht hW => ⟨⟨(), rfl, trivial, by rw [ht]; exact hP.congr hM, va_K.moved hW.alike X.2.2, X.2.1.2.moved hW.alike⟩, hS.F ht⟩) hS.2.2 hdg X.2.1.1
end ZC
theorem zc_met {l : Launch} {y : MethodName} {ws ws' : List Cond} {rm : Room} {cc : ByteArray} {maxL mc ms : Nat} {Qc : Array Value → State → Outcome → State → Prop} {avs : List Value} {E : zk_E} {b N : Nat} {M : Nat → va_E} {own : String} (hy : plainName y.cls = true) (hw : ws = Cond.code y cc maxL none :: ws') (ho : y.cls = own) (hn : y.name = "<init>") (hsz : (lg_sl avs).length ≤ maxL)
    (body : ∀ (p : Program) (e : Env) (s : State) (m : MethodId) (args : Array Value) (below : List Frame) (meth : Method) (c : Code), zc_X p s m args meth c E cc maxL ws own → meth.sig.returnType = none → meth.name = "<init>" → zc_G p l e (headSpec ws rm).room s m args below meth c E b maxL 0 0 (MQ below Qc args s mc ms (zc_A b)) 0 (lv_args 0 avs) [] N M) : Met l y ws rm (va_Pc avs (zc_W E b N M)) Qc mc ms (zc_A b) := by
  subst ho
  refine Met.ofW (cc := cc) (maxL := maxL) (ret := none) hy hw ?_
  intro p e s m args below meth c s₁ B hml hv
  obtain ⟨rfl, hP, hK, hO⟩ := hv
  have hl := lv_entry avs (n := maxL) hsz
  rw [lg_entry_eq]
  exact body p e s m _ below meth c ⟨⟨B.exec, B.bytes, hml, findClass_of_methodNamed B.named, atoms_spec (ws := ws) B.pre⟩, ⟨B.notSynchronized, hO⟩, hK⟩ B.returns ((name_of_methodNamed B.named B.method).1.trans hn) _ _ _ hP va_S.rf hl

