/-! numbers modulo the prime 1000003 -/
def pm : Nat → Nat → Nat → Nat → Nat
  | 0, _, _, acc => acc
  | k + 1, b, e, acc => pm k (b * b % 1000003) (e / 2) (if e % 2 = 1 then acc * b % 1000003 else acc)
theorem pm_spec : ∀ (k b e acc : Nat), e < 2 ^ k → pm k b e acc % 1000003 = acc * b ^ e % 1000003 := by
  intro k
  induction k with
  | zero =>
    intro b e acc he
    have : e = 0 := by simpa using he
    subst this
    simp [pm]
  | succ k ih =>
    intro b e acc he
    have he2 : e / 2 < 2 ^ k := by rw [Nat.pow_succ] at he; omega
    rw [pm, ih _ _ _ he2, Nat.mul_mod, ← Nat.pow_mod, ← Nat.mul_mod]
    have hb : (b * b) ^ (e / 2) = b ^ (2 * (e / 2)) := by rw [Nat.pow_mul, Nat.pow_two]
    rw [hb]
    by_cases h1 : e % 2 = 1
    · rw [if_pos h1, Nat.mul_mod, Nat.mod_mod, ← Nat.mul_mod, Nat.mul_assoc, ← Nat.pow_succ']
      congr 3
      omega
    · rw [if_neg h1]
      congr 3
      omega
theorem flt_tab : (List.range 1001).all (fun a => a == 0 || pm 20 a 1000002 1 == 1) = true := by decide +kernel
theorem flt_small {a : Nat} (h0 : 0 < a) (h1 : a ≤ 1000) : a ^ 1000002 % 1000003 = 1 := by
  have h := List.all_eq_true.mp flt_tab a (List.mem_range.mpr (by omega))
  have h2 : pm 20 a 1000002 1 = 1 := by
    simp only [Bool.or_eq_true, beq_iff_eq] at h
    rcases h with h | h
    · omega
    · exact h
  have h3 := pm_spec 20 a 1000002 1 (by decide)
  rw [h2, Nat.one_mul] at h3
  rw [← h3]
theorem nd_tab : (List.range 1001).all (fun a => a < 2 || !(1000003 % a == 0)) = true := by decide +kernel
theorem nd_small {a : Nat} (h0 : 1 < a) (h1 : a ≤ 1000) : 1000003 % a ≠ 0 := by
  have h := List.all_eq_true.mp nd_tab a (List.mem_range.mpr (by omega))
  simp only [Bool.or_eq_true, decide_eq_true_eq, Bool.not_eq_true', beq_eq_false_iff_ne] at h
  rcases h with h | h
  · omega
  · exact h
theorem nd {a : Nat} (h0 : 1 < a) (h1 : a < 1000003) : 1000003 % a ≠ 0 := by
  by_cases hs : a ≤ 1000
  · exact nd_small h0 hs
  · intro hz
    have hd : a * (1000003 / a) = 1000003 := Nat.mul_div_cancel' (Nat.dvd_of_mod_eq_zero hz)
    generalize hq : 1000003 / a = q at hd
    have hq1 : 1 < q := by
      rcases Nat.lt_or_ge 1 q with h | h
      · exact h
      · rcases (show q = 0 ∨ q = 1 by omega) with h | h <;> subst h <;> omega
    have hq2 : q ≤ 1000 := by
      rcases Nat.lt_or_ge 1000 q with h | h
      · have : 1001 * 1001 ≤ a * q := Nat.mul_le_mul (by omega) h
        omega
      · exact h
    exact nd_small hq1 hq2 (by rw [← hd]; exact Nat.mul_mod_left _ _)
theorem neg_sq {r : Nat} (h : r ≤ 1000003) : ((1000003 - r) * (1000003 - r)) % 1000003 = (r * r) % 1000003 := by
  obtain ⟨s, hs⟩ : ∃ s, 1000003 = r + s := ⟨1000003 - r, by omega⟩
  have h1 : 1000003 - r = s := by omega
  rw [h1]
  have h2 : s * s + 2 * r * 1000003 = r * r + 1000003 * 1000003 := by
    rw [hs]
    grind
  have h3 : (s * s + 2 * r * 1000003) % 1000003 = (r * r + 1000003 * 1000003) % 1000003 := by rw [h2]
  rw [Nat.add_mul_mod_self_right, Nat.add_mul_mod_self_right] at h3
  exact h3
/-- Fermat's little theorem at this prime -/
theorem flt : ∀ (a : Nat), 0 < a → a < 1000003 → a ^ 1000002 % 1000003 = 1 := by
  intro a
  induction a using Nat.strongRecOn with
  | _ a ih =>
    intro h0 h1
    by_cases hs : a ≤ 1000
    · exact flt_small h0 hs
    · have hr : 1000003 % a ≠ 0 := nd (by omega) h1
      have hlt : 1000003 % a < a := Nat.mod_lt _ h0
      have hda : a * (1000003 / a) + 1000003 % a = 1000003 := Nat.div_add_mod _ _
      generalize hqe : 1000003 / a = q at hda
      generalize hre : 1000003 % a = r at hda hr hlt
      have hq0 : 0 < q := by
        rcases Nat.eq_zero_or_pos q with h | h
        · subst h; omega
        · exact h
      have hq2 : q ≤ 1000 := by
        rcases Nat.lt_or_ge 1000 q with h | h
        · have : 1001 * 1001 ≤ a * q := Nat.mul_le_mul (by omega) h
          omega
        · exact h
      have e1 := flt_small hq0 hq2
      have e2 := ih r hlt (by omega) (by omega)
      have haq : a * q = 1000003 - r := by omega
      have e3 : (a * q) ^ 1000002 % 1000003 = 1 := by
        rw [haq, show 1000002 = 2 * 500001 from rfl, Nat.pow_mul, Nat.pow_two, Nat.pow_mod, neg_sq (by omega), ← Nat.pow_mod, ← Nat.pow_two, ← Nat.pow_mul]
        exact e2
      rw [Nat.mul_pow, Nat.mul_mod, e1, Nat.mul_one, Nat.mod_mod] at e3
      exact e3
