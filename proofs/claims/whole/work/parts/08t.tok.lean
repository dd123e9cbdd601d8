/-! what is made is a task -/
theorem pc_cP : ∀ m, m < 1024 → pc m = cP m.testBit 10 0 := by decide +kernel
theorem cl_ok {n w a H : Nat} {W : Nat → Nat} {kd C : Nat} (O : ROK kd n C w W) (hA : 0 < alS W w (w + 1) 0 0) : ((claP n w W H a).1 < 2 ^ n ∧ (claP n w W H a).2 < 2 ^ n) ∧ (claP n w W H a).1 &&& (claP n w W H a).2 = 0 ∧ wid (claP n w W H a).1 (claP n w W H a).2 = w := by
  have hn := O.1.2.2.1
  have hN := p2_le hn
  have hw := O.1.2.2.2.2.2.2
  have hw3 := O.1.2.2.2.2.2.1
  have hD := cla_in (n := n) (w := w) (a := a) hw
  have hDc := inD_c hD
  have hD1 : claD n w a < 1024 := Nat.lt_of_lt_of_le hD.1 hN
  have hm := Nat.mod_lt (lst (claL n w a) / 16) hA
  have hi := tr_in (W := W) (w := w) (w + 1) 0 (lst (claL n w a) / 16 % alS W w (w + 1) 0 0) (by omega) hm
  obtain ⟨V, v1, _, v3⟩ := tw3 (z := zk_z0) hn hw3 hD hi.1 hi.2
  have e := mk_cl (H := H) (V := V) (t := claT W w (claL n w a)) hn hD v3
  have e1 : (claP n w W H a).1 = claD n w a &&& (1023 ^^^ (claD n w a &&& (V ^^^ H))) := e.1.symm
  have e2 : (claP n w W H a).2 = claD n w a &&& (V ^^^ H) := e.2.symm
  have hb : ∀ b, ¬ b < 10 → (claD n w a).testBit b = false := fun b q => Nat.testBit_lt_two_pow (Nat.lt_of_lt_of_le hD1 (show 2 ^ 10 ≤ 2 ^ b from Nat.pow_le_pow_right (by decide) (by omega)))
  rw [e1, e2]
  refine ⟨⟨and_lt hD.1, and_lt hD.1⟩, ?_, ?_⟩
  · apply Nat.eq_of_testBit_eq
    intro b
    rw [Nat.testBit_and, Nat.testBit_and, Nat.testBit_xor, Nat.testBit_and, Nat.zero_testBit, show (1023 : Nat) = 2 ^ 10 - 1 from rfl, Nat.testBit_two_pow_sub_one]
    by_cases q : b < 10
    · rw [decide_eq_true q]; cases (claD n w a).testBit b <;> cases (V ^^^ H).testBit b <;> rfl
    · rw [hb b q]; simp
  · unfold wid
    have eo : claD n w a &&& (1023 ^^^ (claD n w a &&& (V ^^^ H))) ||| claD n w a &&& (V ^^^ H) = claD n w a := by
      apply Nat.eq_of_testBit_eq
      intro b
      rw [Nat.testBit_or, Nat.testBit_and, Nat.testBit_xor, Nat.testBit_and, show (1023 : Nat) = 2 ^ 10 - 1 from rfl, Nat.testBit_two_pow_sub_one]
      by_cases q : b < 10
      · rw [decide_eq_true q]; cases (claD n w a).testBit b <;> cases (V ^^^ H).testBit b <;> rfl
      · rw [hb b q]; simp
    rw [eo, pc_cP _ hD1]
    have e3 : cP (claD n w a).testBit 10 0 = cP (claD n w a).testBit n 0 + cP (claD n w a).testBit (10 - n) (0 + n) := by
      have := cP_split (claD n w a).testBit n (10 - n) 0
      rwa [show n + (10 - n) = 10 by omega] at this
    have h0 : ∀ d b, n ≤ b → cP (claD n w a).testBit d b = 0 := by
      intro d
      induction d with
      | zero => intro b _; rfl
      | succ d ih =>
        intro b hbn
        rw [cP, ih (b + 1) (by omega), Nat.testBit_lt_two_pow (Nat.lt_of_lt_of_le hD.1 (Nat.pow_le_pow_right (by decide) hbn))]; rfl
    rw [e3, h0 (10 - n) (0 + n) (by omega), hDc, Nat.add_zero]
theorem tok_cl {n w a H kd C : Nat} {W : Nat → Nat} (O : ROK kd n C w W) (hA : 0 < alS W w (w + 1) 0 0) : TOK kd n C (cl1 n w W H a) (cl2 n w W H a) := by
  refine ⟨⟨O.1.1, O.1.2.1, O.1.2.2.1, O.1.2.2.2.1⟩, fun c _ => ?_⟩
  have h := cl_ok (n := n) (w := w) (a := ltS n w a c) (H := H) O hA
  have h1 := O.1.2.2.2.2.1
  have h3 := O.1.2.2.2.2.2.1
  refine ⟨h.1, h.2.1, ?_, ?_⟩
  · show 1 ≤ wid (claP n w W H (ltS n w a c)).1 (claP n w W H (ltS n w a c)).2
    rw [h.2.2]; exact h1
  · show wid (claP n w W H (ltS n w a c)).1 (claP n w W H (ltS n w a c)).2 ≤ 3
    rw [h.2.2]; exact h3
