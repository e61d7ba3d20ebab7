/-- the rest of a division as Java has it -/
theorem rg.rem {x : Int64} {v : Int} {A : Nat} (hx : rg x v A) (d : Int64) (m : Nat) (hd : d.toInt = m) (hm : 0 < m) (hm2 : m < 9223372036854775808) : rg (fr_l x d) (v.tmod m) (m - 1) := by
  obtain ⟨rfl, h1⟩ := hx
  have ne : d ≠ -1 := by
    intro q
    have : d.toInt = -1 := by rw [q]; decide
    omega
  have hdiv := Int64.toInt_div_of_ne_right x d ne
  have hlt := x.toInt_lt
  have hle := x.le_toInt
  have e : (fr_l x d).toInt = x.toInt.tmod m := by
    unfold fr_l
    rw [Int64.toInt_sub, Int64.toInt_mul, hdiv, hd, Int.tmod_def]
    have h2 : x.toInt.tdiv m * m = x.toInt - x.toInt.tmod m := by
      have := Int.tdiv_mul_add_tmod x.toInt m
      omega
    have h3 : (x.toInt.tmod m).natAbs = x.toInt.natAbs % m := by rw [Int.natAbs_tmod]; rfl
    have h4 : (x.toInt.tmod m).natAbs ≤ x.toInt.natAbs := by rw [h3]; exact Nat.mod_le _ _
    have h6 : 0 ≤ x.toInt → 0 ≤ x.toInt.tmod m := fun h => Int.tmod_nonneg _ h
    have h7 : x.toInt ≤ 0 → x.toInt.tmod m ≤ 0 := fun h => by
      have := Int.tmod_nonneg m (show 0 ≤ -x.toInt by omega)
      rw [Int.neg_tmod] at this
      omega
    have h5 : (x.toInt.tdiv m * m).bmod (2 ^ 64) = x.toInt.tdiv m * m := by
      rw [h2]
      apply bm64
      · rcases Int.le_total 0 x.toInt with h | h
        · have := h6 h; omega
        · have := h7 h; omega
      · rcases Int.le_total 0 x.toInt with h | h
        · have := h6 h; omega
        · have := h7 h; omega
    rw [h5, Int.mul_comm ↑m, bm64]
    · rw [h2]
      rcases Int.le_total 0 x.toInt with h | h
      · have := h6 h; omega
      · have := h7 h; omega
    · rw [h2]
      rcases Int.le_total 0 x.toInt with h | h
      · have := h6 h; omega
      · have := h7 h; omega
  refine ⟨e, ?_⟩
  rw [Int.natAbs_tmod]
  have := Nat.mod_lt x.toInt.natAbs hm
  show x.toInt.natAbs % (m : Int).natAbs ≤ m - 1
  rw [Int.natAbs_natCast]
  omega
