theorem fr_nat {r b : Int64} {R B : Nat} (hr : r.toInt = R) (hb : b.toInt = B) (h1 : R < 1000003) (h2 : B < 1000003) : (fr_l (r * b) 1000003).toInt = ((R * B % 1000003 : Nat) : Int) := by
  have a1 : rg r R 1000002 := ⟨hr, by omega⟩
  have a2 : rg b B 1000002 := ⟨hb, by omega⟩
  have h := ((a1.mul a2 (by decide +kernel)).md).1
  rw [h, Int.tmod_eq_emod_of_nonneg (Int.mul_nonneg (Int.natCast_nonneg _) (Int.natCast_nonneg _))]
  omega
theorem pm_s (k b e acc : Nat) : pm (k + 1) b e acc = pm k (b * b % 1000003) (e / 2) (if e % 2 = 1 then acc * b % 1000003 else acc) := by rw [pm]
theorem pm_lt : ∀ (k b e acc : Nat), acc < 1000003 → pm k b e acc < 1000003 := by
  intro k
  induction k with
  | zero => intro b e acc h; rw [pm]; exact h
  | succ k ih =>
    intro b e acc h
    rw [pm_s]
    apply ih
    split
    · exact Nat.mod_lt _ (by decide)
    · exact h
theorem ivL_val : ∀ (k e : Nat) (r b : Int64) (R B : Nat), r.toInt = R → b.toInt = B → R < 1000003 → B < 1000003 → (ivL k e r b).toInt = ((pm k B e R : Nat) : Int) := by
  intro k
  induction k with
  | zero =>
    intro e r b R B hr hb h1 h2
    rw [ivL_z, pm]
    exact hr
  | succ k ih =>
    intro e r b R B hr hb h1 h2
    rw [ivL_s, pm_s]
    by_cases ho : e % 2 = 1
    · rw [if_pos ho, if_pos ho]
      exact ih _ _ _ _ _ (fr_nat hr hb h1 h2) (fr_nat hb hb h2 h2) (Nat.mod_lt _ (by decide)) (Nat.mod_lt _ (by decide))
    · rw [if_neg ho, if_neg ho]
      exact ih _ _ _ _ _ hr (fr_nat hb hb h2 h2) h1 (Nat.mod_lt _ (by decide))
/-- one divided by v, modulo the prime -/
def iv (v : Int) : Int := ((pm 20 (v % 1000003).toNat 1000001 1 : Nat) : Int)
theorem iv_lt (v : Int) : 0 ≤ iv v ∧ iv v < 1000003 := by
  unfold iv
  have := pm_lt 20 (v % 1000003).toNat 1000001 1 (by decide)
  omega
theorem iv_cg {v w : Int} (h : v % 1000003 = w % 1000003) : iv v = iv w := by
  unfold iv
  rw [h]
theorem iv_mul {v : Int} (h : v % 1000003 ≠ 0) : (v * iv v) % 1000003 = 1 := by
  obtain ⟨a, ha⟩ : ∃ a : Nat, v % 1000003 = a := ⟨(v % 1000003).toNat, by omega⟩
  have h0 : 0 < a := by omega
  have h1 : a < 1000003 := by omega
  have e1 : iv v = ((a ^ 1000001 % 1000003 : Nat) : Int) := by
    unfold iv
    have e2 := pm_spec 20 a 1000001 1 (by decide)
    rw [Nat.mod_eq_of_lt (pm_lt 20 a 1000001 1 (by decide)), Nat.one_mul] at e2
    rw [ha, Int.toNat_natCast, e2]
  have e3 := flt a h0 h1
  have e4 : (a * (a ^ 1000001 % 1000003)) % 1000003 = 1 := by
    rw [Nat.mul_mod, Nat.mod_mod, ← Nat.mul_mod, ← Nat.pow_succ']
    exact e3
  rw [Int.mul_emod, e1, ha]
  rw [Int.emod_eq_of_lt (by omega) (by omega : ((a ^ 1000001 % 1000003 : Nat) : Int) < 1000003)]
  have : ((a : Int) * ((a ^ 1000001 % 1000003 : Nat) : Int)) = ((a * (a ^ 1000001 % 1000003) : Nat) : Int) := by rw [Int.natCast_mul]
  rw [this]
  omega
theorem p_invert {N : Nat} (hN : 25 ≤ N) {x : Int64} {v : Int} {A : Nat} (hx : rg x v A) : ∃ r, t_Nu_invert N x = some r ∧ r.toInt = iv v := by
  obtain ⟨r, h1, h2⟩ := p_reduce (N := N) hx
  unfold t_Nu_invert
  rw [h1, Option.bind_some]
  have h3 := q_invert N 20 1000001 N 1 r.toInt64 (by decide) (by decide) (by omega)
  refine ⟨ivL 20 1000001 1 r.toInt64, h3, ?_⟩
  unfold iv
  have h4 : r.toInt64.toInt = (((v % 1000003).toNat : Nat) : Int) := by rw [Int32.toInt_toInt64, h2]; omega
  exact ivL_val 20 1000001 1 r.toInt64 1 _ (by decide) h4 (by decide) (by omega)
theorem p_inverse {N : Nat} (hN : 25 ≤ N) {x : Int64} {v : Int} {A : Nat} (hx : rg x v A) : ∃ r, t_Mo_inverse N x = some r ∧ r.toInt = iv v := by
  obtain ⟨r, h1, h2⟩ := p_mod (N := N) hx
  unfold t_Mo_inverse
  rw [h1, Option.bind_some]
  have h3 := q_inverse N 20 1000001 N 1 r (by decide) (by decide) (by omega)
  refine ⟨ivL 20 1000001 1 r, h3, ?_⟩
  unfold iv
  have h4 : r.toInt = (((v % 1000003).toNat : Nat) : Int) := by rw [h2]; omega
  exact ivL_val 20 1000001 1 r 1 _ (by decide) h4 (by decide) (by omega)
