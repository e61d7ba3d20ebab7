theorem fr_nat {r b : Int64} {R B : Nat} (hr : r.toInt = R) (hb : b.toInt = B) (h1 : R < 1000003) (h2 : B < 1000003) : (fr_l (r * b) 1000003).toInt = ((R * B % 1000003 : Nat) : Int) := by
  have a1 : rg r R 1000002 := ⟨hr, by omega⟩
  have a2 : rg b B 1000002 := ⟨hb, by omega⟩
  have h := ((a1.mul a2 (by decide +kernel)).md).1
  rw [h, Int.tmod_eq_emod_of_nonneg (Int.mul_nonneg (Int.natCast_nonneg _) (Int.natCast_nonneg _))]
  omega
theorem pm_s (k b e acc : Nat) : pm (k + 1) b e acc = pm k (b * b % 1000003) (e / 2) (if e % 2 = 1 then acc * b % 1000003 else acc) := by rw [pm]
theorem pm_lt : ∀ (k b e acc : Nat), acc < 1000003 → pm k b e acc < 1000003 := by
  intro k
  induction k with
  | zero => intro b e acc h; rw [pm]; exact h
  | succ k ih =>
    intro b e acc h
    rw [pm_s]
    apply ih
    split
    · exact Nat.mod_lt _ (by decide)
    · exact h
theorem ivL_val : ∀ (k e : Nat) (r b : Int64) (R B : Nat), r.toInt = R → b.toInt = B → R < 1000003 → B < 1000003 → (ivL k e r b).toInt = ((pm k B e R : Nat) : Int) := by
  intro k
  induction k with
  | zero =>
    intro e r b R B hr hb h1 h2
    rw [ivL_z, pm]
    exact hr
  | succ k ih =>
    intro e r b R B hr hb h1 h2
    rw [ivL_s, pm_s]
    by_cases ho : e % 2 = 1
    · rw [if_pos ho, if_pos ho]
      exact ih _ _ _ _ _ (fr_nat hr hb h1 h2) (fr_nat hb hb h2 h2) (Nat.mod_lt _ (by decide)) (Nat.mod_lt _ (by decide))
    · rw [if_neg ho, if_neg ho]
      exact ih _ _ _ _ _ hr (fr_nat hb hb h2 h2) h1 (Nat.mod_lt _ (by decide))
/-- one divided by v, modulo the prime -/
def iv (v : Int) : Int := ((pm 20 (v % 1000003).toNat 1000001 1 : Nat) : Int)
theorem iv_lt (v : Int) : 0 ≤ iv v ∧ iv v < 1000003 := by
  unfold iv
  have := pm_lt 20 (v % 1000003).toNat 1000001 1 (by decide)
  omega
theorem iv_cg {v w : Int} (h : v % 1000003 = w % 1000003) : iv v = iv w := by
  unfold iv
  rw [h]
theorem iv_mul {v : Int} (h : v % 1000003 ≠ 0) : (v * iv v) % 1000003 = 1 := by
  obtain ⟨a, ha⟩ : ∃ a : Nat, v % 1000003 = a := ⟨(v % 1000003).toNat, by omega⟩
  have h0 : 0 < a := by omega
  have h1 : a < 1000003 := by omega
  have e1 : iv v = ((a ^ 1000001 % 1000003 : Nat) : Int) := by
    unfold iv
    have e2 := pm_spec 20 a 1000001 1 (by decide)
    rw [Nat.mod_eq_of_lt (pm_lt 20 a 1000001 1 (by decide)), Nat.one_mul] at e2
    rw [ha, Int.toNat_natCast, e2]
  have e3 := flt a h0 h1
  have e4 : (a * (a ^ 1000001 % 1000003)) % 1000003 = 1 := by
    rw [Nat.mul_mod, Nat.mod_mod, ← Nat.mul_mod, ← Nat.pow_succ']
    exact e3
  rw [Int.mul_emod, e1, ha]
  rw [Int.emod_eq_of_lt (by omega) (by omega : ((a ^ 1000001 % 1000003 : Nat) : Int) < 1000003)]
  have : ((a : Int) * ((a ^ 1000001 % 1000003 : Nat) : Int)) = ((a * (a ^ 1000001 % 1000003) : Nat) : Int) := by rw [Int.natCast_mul]
  rw [this]
  omega
theorem tn_mul (R B : Int) : ((R * B).tmod 1000003 % 1000003).toNat = (R % 1000003).toNat * (B % 1000003).toNat % 1000003 := by
  obtain ⟨a, ha⟩ : ∃ a : Nat, R % 1000003 = a := ⟨(R % 1000003).toNat, by omega⟩
  obtain ⟨c, hc⟩ : ∃ c : Nat, B % 1000003 = c := ⟨(B % 1000003).toNat, by omega⟩
  rw [tm_cg, Int.mul_emod, ha, hc, Int.toNat_natCast, Int.toNat_natCast]
  have : ((a : Int) * (c : Int)) = ((a * c : Nat) : Int) := by rw [Int.natCast_mul]
  rw [this]
  omega
theorem ivL_cg : ∀ (k e : Nat) (r b : Int64) (R B : Int), rg r R 1000002 → rg b B 1000002 → ∃ w, rg (ivL k e r b) w 1000002 ∧ w % 1000003 = ((pm k (B % 1000003).toNat e (R % 1000003).toNat : Nat) : Int) := by
  intro k
  induction k with
  | zero =>
    intro e r b R B hr hb
    rw [ivL_z, pm]
    exact ⟨R, hr, by omega⟩
  | succ k ih =>
    intro e r b R B hr hb
    have hbb := (hb.mul hb (by decide +kernel)).md
    have hrb := (hr.mul hb (by decide +kernel)).md
    rw [ivL_s, pm_s]
    by_cases ho : e % 2 = 1
    · rw [if_pos ho, if_pos ho, ← tn_mul, ← tn_mul]
      exact ih _ _ _ _ _ hrb hbb
    · rw [if_neg ho, if_neg ho, ← tn_mul]
      exact ih _ _ _ _ _ hr hbb
theorem p_invert {N : Nat} (hN : 25 ≤ N) {x : Int64} {v : Int} {A : Nat} (hx : rg x v A) : ∃ r w, t_FF_invert N x = some r ∧ rg r w 1000002 ∧ w % 1000003 = iv v % 1000003 := by
  have h3 := q_invert N 20 1000001 N 1 (fr_l x 1000003) (by decide) (by decide) (by omega)
  obtain ⟨w, h4, h5⟩ := ivL_cg 20 1000001 1 (fr_l x 1000003) 1 (v.tmod 1000003) ⟨by decide, by decide⟩ hx.md
  refine ⟨ivL 20 1000001 1 (fr_l x 1000003), w, ?_, h4, ?_⟩
  · unfold t_FF_invert
    rw [Option.bind_some]
    exact h3
  · have hl := iv_lt v
    have e : iv v = ((pm 20 (v.tmod 1000003 % 1000003).toNat 1000001 1 : Nat) : Int) := by
      unfold iv
      rw [tm_cg]
    have h1 : ((1 : Int) % 1000003).toNat = 1 := by decide +kernel
    rw [h1] at h5
    rw [Int.emod_eq_of_lt hl.1 hl.2, e]
    exact h5
/-- of a number that is at least 0 -/
theorem p_invertp {N : Nat} (hN : 25 ≤ N) {x : Int64} {v : Int} {A : Nat} (hx : rg x v A) (h0 : 0 ≤ v) : ∃ r, t_FF_invert N x = some r ∧ r.toInt = iv v := by
  have h3 := q_invert N 20 1000001 N 1 (fr_l x 1000003) (by decide) (by decide) (by omega)
  refine ⟨ivL 20 1000001 1 (fr_l x 1000003), ?_, ?_⟩
  · unfold t_FF_invert
    rw [Option.bind_some]
    exact h3
  · unfold iv
    have h2 := hx.md.1
    rw [Int.tmod_eq_emod_of_nonneg h0] at h2
    have h4 : (fr_l x 1000003).toInt = (((v % 1000003).toNat : Nat) : Int) := by rw [h2]; omega
    exact ivL_val 20 1000001 1 (fr_l x 1000003) 1 _ (by decide) h4 (by decide) (by omega)
theorem p_inverse {N : Nat} (hN : 25 ≤ N) {x : Int64} {v : Int} {A : Nat} (hx : rg x v A) : ∃ r, t_Mo_inverse N x = some r ∧ r.toInt = iv v := by
  obtain ⟨r, h1, h2⟩ := p_mod (N := N) hx
  unfold t_Mo_inverse
  rw [h1, Option.bind_some]
  have h3 := q_inverse N 20 1000001 N 1 r (by decide) (by decide) (by omega)
  refine ⟨ivL 20 1000001 1 r, h3, ?_⟩
  unfold iv
  have h4 : r.toInt = (((v % 1000003).toNat : Nat) : Int) := by rw [h2]; omega
  exact ivL_val 20 1000001 1 r 1 _ (by decide) h4 (by decide) (by omega)
