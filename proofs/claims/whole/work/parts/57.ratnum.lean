/-! numbers modulo the prime: dividing, lengths that are 0 -/
theorem cancel {v a c : Int} (hv : v % 1000003 ≠ 0) (h : (v * a) % 1000003 = (v * c) % 1000003) : a % 1000003 = c % 1000003 := by
  have h1 := iv_mul hv
  have h2 := cg_mul (a := iv v) (b := iv v) rfl h
  have h3 : ∀ z : Int, (iv v * (v * z)) % 1000003 = z % 1000003 := fun z => by
    rw [← Int.mul_assoc, Int.mul_comm (iv v) v, Int.mul_emod, h1, Int.one_mul, cg_md]
  rw [h3, h3] at h2
  exact h2
theorem small_nz {m : Nat} (h0 : 0 < m) (h1 : m < 1000003) : ((m : Int)) % 1000003 ≠ 0 := by omega
theorem cg_pow {a c : Int} (h : a % 1000003 = c % 1000003) : ∀ k : Nat, a ^ k % 1000003 = c ^ k % 1000003 := by
  intro k
  induction k with
  | zero => rw [Int.pow_zero, Int.pow_zero]
  | succ k ih => rw [Int.pow_succ, Int.pow_succ]; exact cg_mul ih h
theorem flt_int {a : Int} (h : a % 1000003 ≠ 0) : a ^ 1000002 % 1000003 = 1 := by
  have h0 : 0 ≤ a % 1000003 := Int.emod_nonneg _ (by decide)
  have h1 : a % 1000003 < 1000003 := Int.emod_lt_of_pos _ (by decide)
  obtain ⟨k, hk⟩ : ∃ k : Nat, a % 1000003 = (k : Int) := ⟨(a % 1000003).toNat, by omega⟩
  have h2 := flt k (by omega) (by omega)
  rw [cg_pow (c := (k : Int)) (by rw [← hk, cg_md]) 1000002, ← Int.natCast_pow]
  generalize k ^ 1000002 = z at h2 ⊢
  omega
theorem pow_half (a : Int) : (a * a) ^ 500001 = a ^ 1000002 := by
  rw [show (1000002 : Nat) = 2 * 500001 from rfl, Int.pow_mul, show a ^ 2 = a * a from by rw [Int.pow_succ, Int.pow_succ, Int.pow_zero, Int.one_mul]]
theorem neg_half (a : Int) : (-(a * a)) ^ 500001 = - a ^ 1000002 := by
  rw [← pow_half a]
  generalize a * a = z
  have h : ∀ k : Nat, (-z) ^ (2 * k + 1) = - z ^ (2 * k + 1) := by
    intro k
    rw [Int.pow_succ, Int.pow_succ, Int.pow_mul, Int.pow_mul, show (-z) ^ 2 = z ^ 2 from by rw [Int.pow_succ, Int.pow_succ, Int.pow_succ, Int.pow_succ, Int.pow_zero, Int.pow_zero, Int.one_mul, Int.one_mul, Int.neg_mul_neg], Int.mul_neg]
  exact h 250000
theorem sq_z {a : Int} (h : (a * a) % 1000003 = 0) : a % 1000003 = 0 := by
  by_cases ha : a % 1000003 = 0
  · exact ha
  · have := cancel (v := a) (a := a) (c := 0) ha (by rw [h, Int.mul_zero]; rfl)
    rw [this]; rfl
theorem sq_sum {x y : Int} (h : (x * x + y * y) % 1000003 = 0) : x % 1000003 = 0 ∧ y % 1000003 = 0 := by
  have h1 : (x * x) % 1000003 = (-(y * y)) % 1000003 := by
    apply Int.emod_eq_emod_iff_emod_sub_eq_zero.mpr
    rw [Int.sub_neg]
    exact h
  by_cases hx : x % 1000003 = 0
  · refine ⟨hx, sq_z ?_⟩
    have h2 : (x * x) % 1000003 = 0 := by
      rw [cg_mul (b := 0) (d := 0) (by rw [hx]; rfl) (by rw [hx]; rfl)]; rfl
    rw [h2] at h1
    exact neg_z.mp h1.symm
  · by_cases hy : y % 1000003 = 0
    · have h2 : (-(y * y)) % 1000003 = 0 := by
        rw [neg_z, cg_mul (b := 0) (d := 0) (by rw [hy]; rfl) (by rw [hy]; rfl)]; rfl
      rw [h2] at h1
      exact absurd (sq_z h1) hx
    · have h2 := cg_pow h1 500001
      rw [pow_half, neg_half, flt_int hx] at h2
      have h3 := flt_int hy
      have h4 := cg_sub (a := 0) (b := 0) (c := y ^ 1000002) (d := 1) rfl (by rw [h3]; rfl)
      rw [Int.zero_sub] at h4
      rw [h4] at h2
      exact absurd h2 (by decide)
theorem len_z {X Y : Nat → Int} {a c : Nat} (ha : 0 ≤ X a ∧ X a < 1000003) (hc : 0 ≤ X c ∧ X c < 1000003) (ha2 : 0 ≤ Y a ∧ Y a < 1000003) (hc2 : 0 ≤ Y c ∧ Y c < 1000003) : dtp X Y a c a c % 1000003 = 0 ↔ (X a = X c ∧ Y a = Y c) := by
  unfold dtp
  constructor
  · intro h
    have := sq_sum h
    omega
  · rintro ⟨h1, h2⟩
    rw [h1, h2, Int.sub_self, Int.sub_self]
    rfl
/-! the numbers of a ratio: k is 9 (m - 1) + (n - 1) -/
def rtP (P : Nat → Nat → Bool) (k : Nat) : Bool := decide (k / 9 ≠ k % 9) && P (k / 9 + 1) (k % 9 + 1)
def rat (P : Nat → Nat → Bool) : Nat := fst1 (rtP P) 81 0
theorem rat_le (P : Nat → Nat → Bool) : rat P ≤ 81 := by
  have := (fst1_p (rtP P) 81 0).2.1
  unfold rat
  omega
theorem rat_so {P : Nat → Nat → Bool} (h : rat P < 81) : rtP P (rat P) = true := (fst1_p (rtP P) 81 0).2.2.2 (by unfold rat at h; omega)
theorem rat_not {P : Nat → Nat → Bool} {k : Nat} (h : k < rat P) : ¬ rtP P k = true := (fst1_p (rtP P) 81 0).2.2.1 k (Nat.zero_le k) h
theorem rat_eq {P : Nat → Nat → Bool} {k : Nat} (hk : k < 81) (h : rtP P k = true) (h2 : ∀ j, j < k → ¬ rtP P j = true) : rat P = k := by
  by_cases h3 : rat P < k
  · exact absurd (rat_so (by omega)) (h2 _ h3)
  · by_cases h4 : k < rat P
    · exact absurd h (rat_not h4)
    · omega
theorem rat_81 {P : Nat → Nat → Bool} (h2 : ∀ j, j < 81 → ¬ rtP P j = true) : rat P = 81 := by
  have := rat_le P
  by_cases h3 : rat P < 81
  · exact absurd (rat_so h3) (h2 _ h3)
  · omega
theorem rtP_mn {P : Nat → Nat → Bool} {m n : Nat} (hm : 0 < m ∧ m < 10) (hn : 0 < n ∧ n < 10) : rtP P (9 * (m - 1) + (n - 1)) = (decide (m ≠ n) && P m n) := by
  unfold rtP
  rw [show (9 * (m - 1) + (n - 1)) / 9 = m - 1 from by omega, show (9 * (m - 1) + (n - 1)) % 9 = n - 1 from by omega, show m - 1 + 1 = m from by omega, show n - 1 + 1 = n from by omega]
  congr 1
  exact decide_eq_decide.mpr (by omega)
/-- the least n comes with the least m -/
theorem rat_min {P : Nat → Nat → Bool} {m n : Nat} (hm : 0 < m ∧ m < 10) (hn : 0 < n ∧ n < 10) (hne : m ≠ n) (hP : P m n = true) (hmin : ∀ m1 n1, 0 < m1 → m1 < 10 → 0 < n1 → n1 < 10 → m1 ≠ n1 → P m1 n1 = true → m * n1 = m1 * n ∧ n ≤ n1) : rat P = 9 * (m - 1) + (n - 1) := by
  apply rat_eq (by omega)
  · rw [rtP_mn hm hn, decide_eq_true hne, hP]; rfl
  · intro j hj hjt
    unfold rtP at hjt
    rw [Bool.and_eq_true, decide_eq_true_iff] at hjt
    obtain ⟨h1, h2⟩ := hmin (j / 9 + 1) (j % 9 + 1) (by omega) (by omega) (by omega) (by omega) (by omega) hjt.2
    have h3 : m ≤ j / 9 + 1 := by
      by_cases h4 : m ≤ j / 9 + 1
      · exact h4
      · have h5 : (j / 9 + 1) * n < m * n := Nat.mul_lt_mul_of_pos_right (by omega) hn.1
        have h6 : m * n ≤ m * (j % 9 + 1) := Nat.mul_le_mul_left m h2
        omega
    have h4 : j / 9 + 1 = m := by omega
    rw [h4] at h1
    have h5 : j % 9 + 1 = n := Nat.eq_of_mul_eq_mul_left hm.1 h1
    omega
