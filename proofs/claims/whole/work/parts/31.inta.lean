/-! longs and ints as numbers: what they are, and how large at most -/
theorem u_tn {n : Nat} (h : n < 2 ^ 64) : (UInt64.ofNat n).toNat = n := Nat.mod_eq_of_lt h
theorem g_and {a b c : Nat} (ha : a < 2 ^ 64) (hb : b < 2 ^ 64) (hc : a &&& b = c) : lN a &&& lN b = lN c := by
  subst hc
  have h : UInt64.ofNat a &&& UInt64.ofNat b = UInt64.ofNat (a &&& b) := UInt64.toNat_inj.mp (by rw [UInt64.toNat_and, u_tn ha, u_tn hb, u_tn (Nat.and_lt_two_pow a hb)])
  have h2 := congrArg UInt64.toInt64 h
  exact h2
theorem g_and1 {a : Nat} (ha : a < 2 ^ 64) : lN a &&& 1 = lN (a % 2) := g_and (b := 1) ha (by decide) (Nat.and_two_pow_sub_one_eq_mod a 1)
theorem pf_shr {a d : Nat} {D : Int64} (hD : (D.toBitVec.smod 64).toNat = d) (h : a < 2 ^ 62) : lN a >>> D = lN (a / 2 ^ d) := by
  have hd : a / 2 ^ d ≤ a := Nat.div_le_self _ _
  apply Int64.toInt_inj.mp
  have e : (lN a >>> D).toInt = (lN a).toInt >>> d := by
    rw [← hD]
    exact BitVec.toInt_sshiftRight ..
  rw [e, Int.shiftRight_eq_div_pow, pk_lT (by omega), pk_lT (by omega)]
  rfl
theorem bm64 {z : Int} (h1 : -9223372036854775808 ≤ z) (h2 : z < 9223372036854775808) : z.bmod (2 ^ 64) = z := by
  rw [Int.bmod_eq_of_le] <;> omega
theorem bm32 {z : Int} (h1 : -2147483648 ≤ z) (h2 : z < 2147483648) : z.bmod (2 ^ 32) = z := by
  rw [Int.bmod_eq_of_le] <;> omega
def rg (x : Int64) (v : Int) (B : Nat) : Prop := x.toInt = v ∧ v.natAbs ≤ B
def ri (x : Int32) (v : Int) (B : Nat) : Prop := x.toInt = v ∧ v.natAbs ≤ B
theorem rg.le {x : Int64} {v : Int} {A B : Nat} (h : rg x v A) (hB : A ≤ B) : rg x v B := ⟨h.1, Nat.le_trans h.2 hB⟩
theorem ri.le {x : Int32} {v : Int} {A B : Nat} (h : ri x v A) (hB : A ≤ B) : ri x v B := ⟨h.1, Nat.le_trans h.2 hB⟩
theorem rg.add {x y : Int64} {v w : Int} {A B : Nat} (hx : rg x v A) (hy : rg y w B) (h : A + B < 9223372036854775808) : rg (x + y) (v + w) (A + B) := by
  obtain ⟨rfl, h1⟩ := hx
  obtain ⟨rfl, h2⟩ := hy
  have h3 := Int.natAbs_add_le x.toInt y.toInt
  exact ⟨by rw [Int64.toInt_add, bm64 (by omega) (by omega)], by omega⟩
theorem rg.sub {x y : Int64} {v w : Int} {A B : Nat} (hx : rg x v A) (hy : rg y w B) (h : A + B < 9223372036854775808) : rg (x - y) (v - w) (A + B) := by
  obtain ⟨rfl, h1⟩ := hx
  obtain ⟨rfl, h2⟩ := hy
  have h3 := Int.natAbs_sub_le x.toInt y.toInt
  exact ⟨by rw [Int64.toInt_sub, bm64 (by omega) (by omega)], by omega⟩
theorem rg.mul {x y : Int64} {v w : Int} {A B : Nat} (hx : rg x v A) (hy : rg y w B) (h : A * B < 9223372036854775808) : rg (x * y) (v * w) (A * B) := by
  obtain ⟨rfl, h1⟩ := hx
  obtain ⟨rfl, h2⟩ := hy
  have h3 : (x.toInt * y.toInt).natAbs ≤ A * B := by rw [Int.natAbs_mul]; exact Nat.mul_le_mul h1 h2
  exact ⟨by rw [Int64.toInt_mul, bm64 (by omega) (by omega)], h3⟩
theorem ri.add {x y : Int32} {v w : Int} {A B : Nat} (hx : ri x v A) (hy : ri y w B) (h : A + B < 2147483648) : ri (x + y) (v + w) (A + B) := by
  obtain ⟨rfl, h1⟩ := hx
  obtain ⟨rfl, h2⟩ := hy
  have h3 := Int.natAbs_add_le x.toInt y.toInt
  exact ⟨by rw [Int32.toInt_add, bm32 (by omega) (by omega)], by omega⟩
theorem ri.sub {x y : Int32} {v w : Int} {A B : Nat} (hx : ri x v A) (hy : ri y w B) (h : A + B < 2147483648) : ri (x - y) (v - w) (A + B) := by
  obtain ⟨rfl, h1⟩ := hx
  obtain ⟨rfl, h2⟩ := hy
  have h3 := Int.natAbs_sub_le x.toInt y.toInt
  exact ⟨by rw [Int32.toInt_sub, bm32 (by omega) (by omega)], by omega⟩
theorem ri.mul {x y : Int32} {v w : Int} {A B : Nat} (hx : ri x v A) (hy : ri y w B) (h : A * B < 2147483648) : ri (x * y) (v * w) (A * B) := by
  obtain ⟨rfl, h1⟩ := hx
  obtain ⟨rfl, h2⟩ := hy
  have h3 : (x.toInt * y.toInt).natAbs ≤ A * B := by rw [Int.natAbs_mul]; exact Nat.mul_le_mul h1 h2
  exact ⟨by rw [Int32.toInt_mul, bm32 (by omega) (by omega)], h3⟩
theorem ri.l {x : Int32} {v : Int} {A : Nat} (hx : ri x v A) : rg x.toInt64 v A := ⟨by rw [Int32.toInt_toInt64]; exact hx.1, hx.2⟩
theorem rg.i {x : Int64} {v : Int} {A : Nat} (hx : rg x v A) (h : A < 2147483648) : ri x.toInt32 v A := by
  obtain ⟨rfl, h1⟩ := hx
  exact ⟨by rw [Int64.toInt_toInt32, bm32 (by omega) (by omega)], h1⟩
