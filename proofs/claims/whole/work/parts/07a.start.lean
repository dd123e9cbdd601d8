/-- where a cell lies behind the first one -/
def zk_off : Nat → Nat → Nat := fun g k => match g with
  | 0 => 0
  | 1 => 1
  | 2 => 2
  | 3 => 11
  | 4 => 12 + 2 * k
  | 5 => 13 + 2 * k
  | 6 => 24
  | 7 => if k = 8 then 5 else 25 + 3 * k
  | 8 => if k = 8 then 6 else 26 + 3 * k
  | 9 => if k = 8 then 7 else 27 + 3 * k
  | 10 => 49
  | 11 => 50 + k
  | 12 => 70
  | 13 => 71 + 2 * k
  | 14 => 72 + 2 * k
  | 15 => 3
  | 16 => 4
  | 17 => 8
  | 18 => 9
  | 19 => 10
  | 20 => 79
  | 21 => 80
  | 22 => 81
  | 23 => 82
  | 24 => 83
  | 25 => 84
  | 26 => 85
  | 27 => 86
  | 28 => 87
  | 29 => 88
  | 30 => 89
  | 31 => 90
  | 32 => 91
  | 33 => 92
  | 34 => 93
  | 35 => 94
  | 36 => 95
  | 37 => 96
  | 38 => 97
  | 39 => 98
  | 40 => 99
  | 41 => 100
  | 42 => 101
  | 43 => 102
  | _ => 0
def zk_inv : List (Nat × Nat) := [(0, 0), (1, 0), (2, 0), (15, 0), (16, 0), (7, 8), (8, 8), (9, 8), (17, 0), (18, 0), (19, 0), (3, 0), (4, 0), (5, 0), (4, 1), (5, 1), (4, 2), (5, 2), (4, 3), (5, 3), (4, 4), (5, 4), (4, 5), (5, 5), (6, 0), (7, 0), (8, 0), (9, 0), (7, 1), (8, 1), (9, 1), (7, 2), (8, 2), (9, 2), (7, 3), (8, 3), (9, 3), (7, 4), (8, 4), (9, 4), (7, 5), (8, 5), (9, 5), (7, 6), (8, 6), (9, 6), (7, 7), (8, 7), (9, 7), (10, 0), (11, 0), (11, 1), (11, 2), (11, 3), (11, 4), (11, 5), (11, 6), (11, 7), (11, 8), (11, 9), (11, 10), (11, 11), (11, 12), (11, 13), (11, 14), (11, 15), (11, 16), (11, 17), (11, 18), (11, 19), (12, 0), (13, 0), (14, 0), (13, 1), (14, 1), (13, 2), (14, 2), (13, 3), (14, 3), (20, 0), (21, 0), (22, 0), (23, 0), (24, 0), (25, 0), (26, 0), (27, 0), (28, 0), (29, 0), (30, 0), (31, 0), (32, 0), (33, 0), (34, 0), (35, 0), (36, 0), (37, 0), (38, 0), (39, 0), (40, 0), (41, 0), (42, 0), (43, 0)]
set_option maxRecDepth 100000 in
theorem zk_inv_ok : ∀ g, g < 44 → ∀ k, k < 20 → k < zk_cnt g → zk_inv[zk_off g k]? = some (g, k) := by decide +kernel
theorem zk_cnt_lt {g k : Nat} (h : k < zk_cnt g) : g < 44 ∧ k < 20 := by
  by_cases hg : g < 44
  · refine ⟨hg, Nat.lt_of_lt_of_le h ?_⟩
    exact (show ∀ g, g < 44 → zk_cnt g ≤ 20 by decide) g hg
  · exfalso
    obtain ⟨j, rfl⟩ : ∃ j, g = j + 44 := ⟨g - 44, by omega⟩
    have h0 : zk_cnt (j + 44) = 0 := rfl
    omega
theorem zk_off_inj {g k g' k' : Nat} (h : k < zk_cnt g) (h' : k' < zk_cnt g') (e : zk_off g k = zk_off g' k') : g = g' ∧ k = k' := by
  obtain ⟨a1, a2⟩ := zk_cnt_lt h
  obtain ⟨b1, b2⟩ := zk_cnt_lt h'
  have e1 := zk_inv_ok g a1 k a2 h
  have e2 := zk_inv_ok g' b1 k' b2 h'
  rw [e, e2] at e1
  have := Option.some.inj e1
  exact ⟨(congrArg Prod.fst this).symm, (congrArg Prod.snd this).symm⟩
/-- the start: all numbers 0, but sorts and the image -/
def zk_z0 : zk_Z := (fun g k i => match g with | 0 => if i = 14 then -1 else 0 | 13 => if i = 0 then -1 else 0 | 39 => (upd (upd (upd (upd (fun _ => 0) (0 : Int32).toNatClampNeg (-1)) (1 : Int32).toNatClampNeg (-1)) (2 : Int32).toNatClampNeg (-1)) (3 : Int32).toNatClampNeg (-1)) i | _ => 0, fun _ => 0)
theorem zc_rq {D : va_G} {cl : List vw_C} {a n : Nat} {cA : ClassId} {f g : Nat → Option Nat} {H : Heap} (h : va_at D cl (a, .inl (cA, n, .inr (.inr (.inr (.inr f))))) H) (hfg : ∀ j, j < n → f j = g j) : va_at D cl (a, .inl (cA, n, .inr (.inr (.inr (.inr g))))) H := by
  have e : arrV cA n (fun j => va_rf (g j)) = arrV cA n (fun j => va_rf (f j)) := by
    unfold arrV
    congr 1
    congr 1
    funext j
    show va_rf (g j.1) = va_rf (f j.1)
    rw [hfg j.1 j.2]
  show H[a]? = some (arrV cA n (fun j => va_rf (g j)))
  rw [e]
  exact h
set_option maxRecDepth 100000 in
set_option maxHeartbeats 8000000 in
theorem zk_start (D : va_G) (cy : Nat → ClassId) (b : Nat) (H : Heap) (hP : zc_P (D, (fun g k => b + zk_off g k), cy) b 103 (zc_M9 (D, (fun g k => b + zk_off g k), cy) b) H) : zk_P (D, (fun g k => b + zk_off g k), cy) zk_z0 H := by
  intro g k hk
  match g, hk with
  | 0, hk =>
    have hk0 : k = 0 := by have : k < 1 := hk; omega
    subst hk0
    exact hP.2 0 (by decide)
  | 1, hk =>
    have hk0 : k = 0 := by have : k < 1 := hk; omega
    subst hk0
    exact hP.2 1 (by decide)
  | 2, hk =>
    have hk0 : k = 0 := by have : k < 1 := hk; omega
    subst hk0
    exact hP.2 2 (by decide)
  | 3, hk =>
    have hk0 : k = 0 := by have : k < 1 := hk; omega
    subst hk0
    exact zc_rq (hP.2 11 (by decide)) (fun j hj => by match j, hj with | 0, _ => rfl | 1, _ => rfl | 2, _ => rfl | 3, _ => rfl | 4, _ => rfl | 5, _ => rfl | j + 6, hj => exact absurd hj (by omega))
  | 4, hk =>
    match k, hk with
    | 0, _ => exact hP.2 12 (by decide)
    | 1, _ => exact hP.2 14 (by decide)
    | 2, _ => exact hP.2 16 (by decide)
    | 3, _ => exact hP.2 18 (by decide)
    | 4, _ => exact hP.2 20 (by decide)
    | 5, _ => exact hP.2 22 (by decide)
    | k + 6, hk => exact absurd hk (by show ¬ k + 6 < 6; omega)
  | 5, hk =>
    match k, hk with
    | 0, _ => exact hP.2 13 (by decide)
    | 1, _ => exact hP.2 15 (by decide)
    | 2, _ => exact hP.2 17 (by decide)
    | 3, _ => exact hP.2 19 (by decide)
    | 4, _ => exact hP.2 21 (by decide)
    | 5, _ => exact hP.2 23 (by decide)
    | k + 6, hk => exact absurd hk (by show ¬ k + 6 < 6; omega)
  | 6, hk =>
    have hk0 : k = 0 := by have : k < 1 := hk; omega
    subst hk0
    exact zc_rq (hP.2 24 (by decide)) (fun j hj => by match j, hj with | 0, _ => rfl | 1, _ => rfl | 2, _ => rfl | 3, _ => rfl | 4, _ => rfl | 5, _ => rfl | 6, _ => rfl | 7, _ => rfl | j + 8, hj => exact absurd hj (by omega))
  | 7, hk =>
    match k, hk with
    | 0, _ => exact hP.2 25 (by decide)
    | 1, _ => exact hP.2 28 (by decide)
    | 2, _ => exact hP.2 31 (by decide)
    | 3, _ => exact hP.2 34 (by decide)
    | 4, _ => exact hP.2 37 (by decide)
    | 5, _ => exact hP.2 40 (by decide)
    | 6, _ => exact hP.2 43 (by decide)
    | 7, _ => exact hP.2 46 (by decide)
    | 8, _ => exact hP.2 5 (by decide)
    | k + 9, hk => exact absurd hk (by show ¬ k + 9 < 9; omega)
  | 8, hk =>
    match k, hk with
    | 0, _ => exact hP.2 26 (by decide)
    | 1, _ => exact hP.2 29 (by decide)
    | 2, _ => exact hP.2 32 (by decide)
    | 3, _ => exact hP.2 35 (by decide)
    | 4, _ => exact hP.2 38 (by decide)
    | 5, _ => exact hP.2 41 (by decide)
    | 6, _ => exact hP.2 44 (by decide)
    | 7, _ => exact hP.2 47 (by decide)
    | 8, _ => exact hP.2 6 (by decide)
    | k + 9, hk => exact absurd hk (by show ¬ k + 9 < 9; omega)
  | 9, hk =>
    match k, hk with
    | 0, _ => exact hP.2 27 (by decide)
    | 1, _ => exact hP.2 30 (by decide)
    | 2, _ => exact hP.2 33 (by decide)
    | 3, _ => exact hP.2 36 (by decide)
    | 4, _ => exact hP.2 39 (by decide)
    | 5, _ => exact hP.2 42 (by decide)
    | 6, _ => exact hP.2 45 (by decide)
    | 7, _ => exact hP.2 48 (by decide)
    | 8, _ => exact hP.2 7 (by decide)
    | k + 9, hk => exact absurd hk (by show ¬ k + 9 < 9; omega)
  | 10, hk =>
    have hk0 : k = 0 := by have : k < 1 := hk; omega
    subst hk0
    exact zc_rq (hP.2 49 (by decide)) (fun j hj => by match j, hj with | 0, _ => rfl | 1, _ => rfl | 2, _ => rfl | 3, _ => rfl | 4, _ => rfl | 5, _ => rfl | 6, _ => rfl | 7, _ => rfl | 8, _ => rfl | 9, _ => rfl | 10, _ => rfl | 11, _ => rfl | 12, _ => rfl | 13, _ => rfl | 14, _ => rfl | 15, _ => rfl | 16, _ => rfl | 17, _ => rfl | 18, _ => rfl | 19, _ => rfl | j + 20, hj => exact absurd hj (by omega))
  | 11, hk =>
    match k, hk with
    | 0, _ => exact hP.2 50 (by decide)
    | 1, _ => exact hP.2 51 (by decide)
    | 2, _ => exact hP.2 52 (by decide)
    | 3, _ => exact hP.2 53 (by decide)
    | 4, _ => exact hP.2 54 (by decide)
    | 5, _ => exact hP.2 55 (by decide)
    | 6, _ => exact hP.2 56 (by decide)
    | 7, _ => exact hP.2 57 (by decide)
    | 8, _ => exact hP.2 58 (by decide)
    | 9, _ => exact hP.2 59 (by decide)
    | 10, _ => exact hP.2 60 (by decide)
    | 11, _ => exact hP.2 61 (by decide)
    | 12, _ => exact hP.2 62 (by decide)
    | 13, _ => exact hP.2 63 (by decide)
    | 14, _ => exact hP.2 64 (by decide)
    | 15, _ => exact hP.2 65 (by decide)
    | 16, _ => exact hP.2 66 (by decide)
    | 17, _ => exact hP.2 67 (by decide)
    | 18, _ => exact hP.2 68 (by decide)
    | 19, _ => exact hP.2 69 (by decide)
    | k + 20, hk => exact absurd hk (by show ¬ k + 20 < 20; omega)
  | 12, hk =>
    have hk0 : k = 0 := by have : k < 1 := hk; omega
    subst hk0
    exact zc_rq (hP.2 70 (by decide)) (fun j hj => by match j, hj with | 0, _ => rfl | 1, _ => rfl | 2, _ => rfl | 3, _ => rfl | j + 4, hj => exact absurd hj (by omega))
  | 13, hk =>
    match k, hk with
    | 0, _ => exact hP.2 71 (by decide)
    | 1, _ => exact hP.2 73 (by decide)
    | 2, _ => exact hP.2 75 (by decide)
    | 3, _ => exact hP.2 77 (by decide)
    | k + 4, hk => exact absurd hk (by show ¬ k + 4 < 4; omega)
  | 14, hk =>
    match k, hk with
    | 0, _ => exact hP.2 72 (by decide)
    | 1, _ => exact hP.2 74 (by decide)
    | 2, _ => exact hP.2 76 (by decide)
    | 3, _ => exact hP.2 78 (by decide)
    | k + 4, hk => exact absurd hk (by show ¬ k + 4 < 4; omega)
  | 15, hk =>
    have hk0 : k = 0 := by have : k < 1 := hk; omega
    subst hk0
    exact hP.2 3 (by decide)
  | 16, hk =>
    have hk0 : k = 0 := by have : k < 1 := hk; omega
    subst hk0
    exact hP.2 4 (by decide)
  | 17, hk =>
    have hk0 : k = 0 := by have : k < 1 := hk; omega
    subst hk0
    exact hP.2 8 (by decide)
  | 18, hk =>
    have hk0 : k = 0 := by have : k < 1 := hk; omega
    subst hk0
    exact hP.2 9 (by decide)
  | 19, hk =>
    have hk0 : k = 0 := by have : k < 1 := hk; omega
    subst hk0
    exact hP.2 10 (by decide)
  | 20, hk =>
    have hk0 : k = 0 := by have : k < 1 := hk; omega
    subst hk0
    exact hP.2 79 (by decide)
  | 21, hk =>
    have hk0 : k = 0 := by have : k < 1 := hk; omega
    subst hk0
    exact hP.2 80 (by decide)
  | 22, hk =>
    have hk0 : k = 0 := by have : k < 1 := hk; omega
    subst hk0
    exact hP.2 81 (by decide)
  | 23, hk =>
    have hk0 : k = 0 := by have : k < 1 := hk; omega
    subst hk0
    exact hP.2 82 (by decide)
  | 24, hk =>
    have hk0 : k = 0 := by have : k < 1 := hk; omega
    subst hk0
    exact hP.2 83 (by decide)
  | 25, hk =>
    have hk0 : k = 0 := by have : k < 1 := hk; omega
    subst hk0
    exact hP.2 84 (by decide)
  | 26, hk =>
    have hk0 : k = 0 := by have : k < 1 := hk; omega
    subst hk0
    exact hP.2 85 (by decide)
  | 27, hk =>
    have hk0 : k = 0 := by have : k < 1 := hk; omega
    subst hk0
    exact hP.2 86 (by decide)
  | 28, hk =>
    have hk0 : k = 0 := by have : k < 1 := hk; omega
    subst hk0
    exact hP.2 87 (by decide)
  | 29, hk =>
    have hk0 : k = 0 := by have : k < 1 := hk; omega
    subst hk0
    exact hP.2 88 (by decide)
  | 30, hk =>
    have hk0 : k = 0 := by have : k < 1 := hk; omega
    subst hk0
    exact hP.2 89 (by decide)
  | 31, hk =>
    have hk0 : k = 0 := by have : k < 1 := hk; omega
    subst hk0
    exact hP.2 90 (by decide)
  | 32, hk =>
    have hk0 : k = 0 := by have : k < 1 := hk; omega
    subst hk0
    exact hP.2 91 (by decide)
  | 33, hk =>
    have hk0 : k = 0 := by have : k < 1 := hk; omega
    subst hk0
    exact hP.2 92 (by decide)
  | 34, hk =>
    have hk0 : k = 0 := by have : k < 1 := hk; omega
    subst hk0
    exact hP.2 93 (by decide)
  | 35, hk =>
    have hk0 : k = 0 := by have : k < 1 := hk; omega
    subst hk0
    exact hP.2 94 (by decide)
  | 36, hk =>
    have hk0 : k = 0 := by have : k < 1 := hk; omega
    subst hk0
    exact hP.2 95 (by decide)
  | 37, hk =>
    have hk0 : k = 0 := by have : k < 1 := hk; omega
    subst hk0
    exact hP.2 96 (by decide)
  | 38, hk =>
    have hk0 : k = 0 := by have : k < 1 := hk; omega
    subst hk0
    exact hP.2 97 (by decide)
  | 39, hk =>
    have hk0 : k = 0 := by have : k < 1 := hk; omega
    subst hk0
    exact hP.2 98 (by decide)
  | 40, hk =>
    have hk0 : k = 0 := by have : k < 1 := hk; omega
    subst hk0
    exact hP.2 99 (by decide)
  | 41, hk =>
    have hk0 : k = 0 := by have : k < 1 := hk; omega
    subst hk0
    exact hP.2 100 (by decide)
  | 42, hk =>
    have hk0 : k = 0 := by have : k < 1 := hk; omega
    subst hk0
    exact hP.2 101 (by decide)
  | 43, hk =>
    have hk0 : k = 0 := by have : k < 1 := hk; omega
    subst hk0
    exact hP.2 102 (by decide)
  | g + 44, hk => exact absurd hk (by show ¬ k < 0; omega)
