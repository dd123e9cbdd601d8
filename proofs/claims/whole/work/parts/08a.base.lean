/-! pure rows: the words of the functions at whole numbers -/
theorem zb_some {ρ α : Type} (r : ρ) (z : zk_Z) (k : ρ → zk_Z → Option α) : zk_bd (some (r, z)) k = k r z := rfl
theorem zg_t {α : Type} (x : Option α) : zk_gd true x = x := rfl
theorem zo_n {β : Type} (a : β) (f : Nat → β) : zk_oc none a f = a := rfl
theorem zo_s {β : Type} (k : Nat) (a : β) (f : Nat → β) : zk_oc (some k) a f = f k := rfl
theorem zx_nI {c N : Nat} (h : c < N) (hN : N < 2 ^ 31) : zk_ix (nI c) N = true := by
  unfold zk_ix
  rw [decide_eq_false (fun q => nI_in h hN (Or.inl q)), decide_eq_false (fun q => nI_in h hN (Or.inr q))]
  rfl
theorem nI_and (a b : Nat) : nI a &&& nI b = nI (a &&& b) := by
  apply Int32.toBitVec_inj.mp
  show BitVec.ofNat 32 a &&& BitVec.ofNat 32 b = BitVec.ofNat 32 (a &&& b)
  rw [BitVec.ofNat_and]
theorem nI_or (a b : Nat) : nI a ||| nI b = nI (a ||| b) := by
  apply Int32.toBitVec_inj.mp
  show BitVec.ofNat 32 a ||| BitVec.ofNat 32 b = BitVec.ofNat 32 (a ||| b)
  rw [BitVec.ofNat_or]
theorem nI_xor (a b : Nat) : nI a ^^^ nI b = nI (a ^^^ b) := by
  apply Int32.toBitVec_inj.mp
  show BitVec.ofNat 32 a ^^^ BitVec.ofNat 32 b = BitVec.ofNat 32 (a ^^^ b)
  rw [BitVec.ofNat_xor]
theorem nI_inj {a b : Nat} (ha : a < 2 ^ 32) (hb : b < 2 ^ 32) (h : nI a = nI b) : a = b := by
  have h1 : (nI a).toBitVec = (nI b).toBitVec := by rw [h]
  have h2 : BitVec.ofNat 32 a = BitVec.ofNat 32 b := h1
  have h3 := congrArg BitVec.toNat h2
  rw [BitVec.toNat_ofNat, BitVec.toNat_ofNat, Nat.mod_eq_of_lt ha, Nat.mod_eq_of_lt hb] at h3
  exact h3
theorem nI_m1 : nI 4294967295 = -1 := by decide
/-- letters away from a row -/
theorem nI_not {a r : Nat} (ha : a < 1024) (hr : r < 1024) : nI a &&& (nI r ^^^ (-1)) = nI (a &&& (1023 ^^^ r)) := by
  rw [← nI_m1, nI_xor, nI_and]
  congr 1
  apply Nat.eq_of_testBit_eq
  intro i
  rw [Nat.testBit_and, Nat.testBit_and, Nat.testBit_xor, Nat.testBit_xor]
  by_cases hi : i < 10
  · rw [show (4294967295 : Nat) = 2 ^ 32 - 1 from rfl, show (1023 : Nat) = 2 ^ 10 - 1 from rfl, Nat.testBit_two_pow_sub_one, Nat.testBit_two_pow_sub_one]
    rw [decide_eq_true (show i < 32 by omega), decide_eq_true hi]
    cases r.testBit i <;> rfl
  · have h0 : a.testBit i = false := Nat.testBit_lt_two_pow (Nat.lt_of_lt_of_le ha (by calc 1024 = 2 ^ 10 := rfl
                                                                                         _ ≤ 2 ^ i := Nat.pow_le_pow_right (by decide) (by omega)))
    rw [h0]; rfl
/-- how many of ten bits -/
def pc (m : Nat) : Nat := (m.testBit 0).toNat + (m.testBit 1).toNat + (m.testBit 2).toNat + (m.testBit 3).toNat + (m.testBit 4).toNat + (m.testBit 5).toNat + (m.testBit 6).toNat + (m.testBit 7).toNat + (m.testBit 8).toNat + (m.testBit 9).toNat
theorem pc_or {x y : Nat} (h : ∀ i, i < 10 → ¬ (x.testBit i = true ∧ y.testBit i = true)) : pc (x ||| y) = pc x + pc y := by
  have k : ∀ i, i < 10 → ((x ||| y).testBit i).toNat = (x.testBit i).toNat + (y.testBit i).toNat := by
    intro i hi
    have := h i hi
    rw [Nat.testBit_or]
    revert this
    cases x.testBit i <;> cases y.testBit i <;> simp
  unfold pc
  rw [k 0 (by decide), k 1 (by decide), k 2 (by decide), k 3 (by decide), k 4 (by decide), k 5 (by decide), k 6 (by decide), k 7 (by decide), k 8 (by decide), k 9 (by decide)]
  omega
theorem pc_le (m : Nat) : pc m ≤ 10 := by
  have k : ∀ b : Bool, b.toNat ≤ 1 := by intro b; cases b <;> decide
  unfold pc
  have := k (m.testBit 0); have := k (m.testBit 1); have := k (m.testBit 2); have := k (m.testBit 3); have := k (m.testBit 4)
  have := k (m.testBit 5); have := k (m.testBit 6); have := k (m.testBit 7); have := k (m.testBit 8); have := k (m.testBit 9)
  omega
def bcv (x : Int32) : Int32 := match fJ6_bitCount_0f7a4 x zk_z0 with | some (r, _) => r | none => 0
theorem bcv_eq (x : Int32) (z : zk_Z) : fJ6_bitCount_0f7a4 x z = some (bcv x, z) := rfl
set_option maxRecDepth 100000 in
theorem bcv_pc : ∀ m, m < 1024 → bcv (nI m) = nI (pc m) := by decide +kernel
theorem e_bc {m : Nat} (h : m < 1024) (z : zk_Z) : fJ6_bitCount_0f7a4 (nI m) z = some (nI (pc m), z) := by rw [bcv_eq, bcv_pc m h]
/-- a bit of a small number, as the machine asks for it -/
theorem nI_bit {m k : Nat} (hm : m < 2 ^ 31) (hk : k < 31) : (nI m >>> (nI k &&& 31)) &&& 1 = nI (m.testBit k).toNat := by
  have hs : ((nI k &&& 31).toBitVec.smod 32).toNat = k := by
    have : ∀ k, k < 31 → ((nI k &&& 31).toBitVec.smod 32).toNat = k := by decide +kernel
    exact this k hk
  rw [pk_shrN hm _ k hs, show (1 : Int32) = nI 1 from rfl, nI_and, Nat.and_one_is_mod]
  congr 1
  rw [Nat.testBit_eq_decide_div_mod_eq]
  have : m / 2 ^ k % 2 = 0 ∨ m / 2 ^ k % 2 = 1 := by omega
  rcases this with h | h <;> rw [h] <;> rfl
theorem nI_shl {n : Nat} (h : n ≤ 30) : (1 : Int32) <<< (nI n &&& 31) = nI (2 ^ n) := by
  have : ∀ n, n < 31 → (1 : Int32) <<< (nI n &&& 31) = nI (2 ^ n) := by decide +kernel
  exact this n (by omega)
theorem nI_sub1 (n : Nat) : nI (n + 1) - 1 = nI n := nI_pred n
/-- bits one by one: the other's way -/
def pcS (m : Nat) : Nat → Nat | 0 => 0 | k + 1 => pcS m k + (m.testBit k).toNat
theorem pcS_pc : ∀ m, m < 1024 → pcS m 31 = pc m := by
  intro m hm
  have h0 : ∀ i, 10 ≤ i → (m.testBit i).toNat = 0 := by
    intro i hi
    rw [Nat.testBit_lt_two_pow (Nat.lt_of_lt_of_le hm (by calc 1024 = 2 ^ 10 := rfl
                                                            _ ≤ 2 ^ i := Nat.pow_le_pow_right (by decide) hi))]; rfl
  simp only [pcS, pc]
  rw [h0 10 (by decide), h0 11 (by decide), h0 12 (by decide), h0 13 (by decide), h0 14 (by decide), h0 15 (by decide), h0 16 (by decide), h0 17 (by decide), h0 18 (by decide), h0 19 (by decide), h0 20 (by decide), h0 21 (by decide), h0 22 (by decide), h0 23 (by decide), h0 24 (by decide), h0 25 (by decide), h0 26 (by decide), h0 27 (by decide), h0 28 (by decide), h0 29 (by decide), h0 30 (by decide)]
  omega
theorem e_ones_L {m : Nat} (hm : m < 2 ^ 31) (z : zk_Z) : ∀ d n k : Nat, k + d = 31 → d < n → fX9_ones_L4 n (nI m) (nI (pcS m k)) (nI k) z = some (nI (pcS m 31), z) := by
  intro d
  induction d with
  | zero =>
    intro n k h1 h2
    obtain ⟨n, rfl⟩ : ∃ j, n = j + 1 := ⟨n - 1, by omega⟩
    have : k = 31 := by omega
    subst this
    rw [fX9_ones_L4, if_pos (by decide)]
  | succ d ih =>
    intro n k h1 h2
    obtain ⟨n, rfl⟩ : ∃ j, n = j + 1 := ⟨n - 1, by omega⟩
    rw [fX9_ones_L4, if_neg (by rw [show (31 : Int32) = nI 31 from rfl, nI_leI (by omega) (by omega)]; omega), nI_bit hm (by omega), nI_add, nI_1]
    exact ih n (k + 1) (by omega) (by omega)
theorem e_ones {m : Nat} (hm : m < 1024) (z : zk_Z) : fX9_ones (nI m) z = some (nI (pc m), z) := by
  rw [fX9_ones, show (0 : Int32) = nI (pcS m 0) from rfl, ← pcS_pc m hm]
  exact e_ones_L (by omega) z 31 zk_FU 0 (by omega) (by decide)
