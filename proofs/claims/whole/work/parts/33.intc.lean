theorem rg.md {x : Int64} {v : Int} {A : Nat} (hx : rg x v A) : rg (fr_l x 1000003) (v.tmod 1000003) 1000002 := hx.rem 1000003 1000003 (by decide +kernel) (by decide +kernel) (by decide +kernel)
theorem rg.c {x : Int64} {n : Nat} (h : x.toInt = n) : rg x n n := ⟨h, by simp⟩
theorem tm_cg (v : Int) : (v.tmod 1000003) % 1000003 = v % 1000003 := by
  rw [Int.tmod_eq_emod]
  split
  · simp
  · have : ((1000003 : Int).natAbs : Int) = 1000003 := by decide +kernel
    omega
theorem tm_zero (v : Int) : v.tmod 1000003 = 0 ↔ v % 1000003 = 0 := by
  have h := tm_cg v
  have h1 : (v.tmod 1000003).natAbs < 1000003 := by rw [Int.natAbs_tmod]; exact Nat.mod_lt _ (by decide +kernel)
  constructor
  · intro q; rw [q] at h; omega
  · intro q; omega
