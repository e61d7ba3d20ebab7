theorem ri_P : ri 1000003 1000003 1000003 := ⟨by decide +kernel, by decide +kernel⟩
theorem rg_P : rg 1000003 1000003 1000003 := ⟨by decide +kernel, by decide +kernel⟩
theorem red_pos {a v : Int} (h : a % 1000003 = v % 1000003) (h0 : 0 ≤ a) (h1 : a.natAbs ≤ 1000002) : a = v % 1000003 := by omega
theorem red_neg {a v : Int} (h : a % 1000003 = v % 1000003) (h0 : ¬ 0 ≤ a) (h1 : a.natAbs ≤ 1000002) : a + 1000003 = v % 1000003 := by omega
theorem i0_le {y : Int32} : (0 : Int32) ≤ y ↔ 0 ≤ y.toInt := Int32.le_iff_toInt_le
theorem l0_le {y : Int64} : (0 : Int64) ≤ y ↔ 0 ≤ y.toInt := Int64.le_iff_toInt_le
/-- the rest, made at least 0 -/
theorem rd_i {x : Int64} {v : Int} {A : Nat} (hx : rg x v A) : (0 ≤ (fr_l x 1000003).toInt32 → ((fr_l x 1000003).toInt32).toInt = v % 1000003) ∧ (¬ 0 ≤ (fr_l x 1000003).toInt32 → ((fr_l x 1000003).toInt32 + 1000003).toInt = v % 1000003) := by
  have h1 := (hx.md).i (by decide +kernel)
  have h2 := tm_cg v
  obtain ⟨y, hy⟩ : ∃ y, (fr_l x 1000003).toInt32 = y := ⟨_, rfl⟩
  rw [hy] at h1 ⊢
  rw [← h1.1] at h2
  have h4 : y.toInt.natAbs ≤ 1000002 := by rw [h1.1]; exact h1.2
  refine ⟨fun hc => red_pos h2 (i0_le.mp hc) h4, fun hc => ?_⟩
  have h3 := (ri.add (show ri y y.toInt 1000002 from ⟨rfl, h4⟩) ri_P (by decide +kernel)).1
  rw [h3]
  exact red_neg h2 (fun q => hc (i0_le.mpr q)) h4
theorem p_mod {N : Nat} {x : Int64} {v : Int} {A : Nat} (hx : rg x v A) : ∃ r, t_Mo_mod N x = some r ∧ r.toInt = v % 1000003 := by
  have h1 := hx.md
  have h2 := tm_cg v
  obtain ⟨y, hy⟩ : ∃ y, fr_l x 1000003 = y := ⟨_, rfl⟩
  rw [hy] at h1
  rw [← h1.1] at h2
  have h4 : y.toInt.natAbs ≤ 1000002 := by rw [h1.1]; exact h1.2
  unfold t_Mo_mod
  rw [hy, Option.bind_some]
  by_cases hc : 0 ≤ lg_cmp y 0
  · exact ⟨y, if_pos hc, red_pos h2 (l0_le.mp ((lg_cmp_ge y 0).mp hc)) h4⟩
  · refine ⟨y + 1000003, if_neg hc, ?_⟩
    have h3 := (rg.add (show rg y y.toInt 1000002 from ⟨rfl, h4⟩) rg_P (by decide +kernel)).1
    rw [h3]
    exact red_neg h2 (fun q => hc ((lg_cmp_ge y 0).mpr (l0_le.mpr q))) h4
/-- the power by squaring, as both have it -/
def ivB : Nat → Nat → List Bool
  | 0, _ => []
  | k + 1, e => decide (e % 2 = 1) :: ivB k (e / 2)
def ivS (p : Int64 × Int64) (o : Bool) : Int64 × Int64 := (if o = true then fr_l (p.1 * p.2) 1000003 else p.1, fr_l (p.2 * p.2) 1000003)
def ivL (k e : Nat) (r b : Int64) : Int64 := ((ivB k e).foldl ivS (r, b)).1
theorem ivL_s (k e : Nat) (r b : Int64) : ivL (k + 1) e r b = ivL k (e / 2) (if e % 2 = 1 then fr_l (r * b) 1000003 else r) (fr_l (b * b) 1000003) := by
  unfold ivL
  rw [ivB, List.foldl_cons, ivS]
  simp only [decide_eq_true_eq]
theorem ivL_z (e : Nat) (r b : Int64) : ivL 0 e r b = r := by
  unfold ivL
  rw [ivB, List.foldl_nil]
theorem ivL_0 : ∀ (k : Nat) (r b : Int64), ivL k 0 r b = r := by
  intro k
  induction k with
  | zero => intro r b; exact ivL_z 0 r b
  | succ k ih =>
    intro r b
    rw [ivL_s, Nat.zero_div, if_neg (by decide)]
    exact ih _ _
theorem nI_odd {e : Nat} (h : e < 2147483648) : (nI e &&& 1 = 1) ↔ e % 2 = 1 := by
  have h1 : nI e &&& 1 = nI (e % 2 ^ 1) := pk_andN (by omega) 1 (by decide)
  rw [h1]
  rcases (show e % 2 = 0 ∨ e % 2 = 1 by omega) with h | h
  · rw [show e % 2 ^ 1 = 0 by omega]; exact ⟨fun q => absurd q (by decide), fun q => absurd q (by decide)⟩
  · rw [show e % 2 ^ 1 = 1 by omega]; exact ⟨fun _ => rfl, fun _ => by decide⟩
theorem lN_odd {e : Nat} (h : e < 2147483648) : (lN e &&& 1 = 1) ↔ e % 2 = 1 := by
  have h1 : lN e &&& 1 = lN (e % 2) := g_and1 (by omega)
  rw [h1]
  rcases (show e % 2 = 0 ∨ e % 2 = 1 by omega) with h | h
  · rw [h]; decide
  · rw [h]; decide
theorem q_invert (N : Nat) : ∀ (k e n : Nat) (r b : Int64), e < 2 ^ k → e < 2147483648 → k < n → tl_FF_invert_13 N n r b (nI e) = some (ivL k e r b) := by
  intro k
  induction k with
  | zero =>
    intro e n r b h1 h2 h3
    have he : e = 0 := by simpa using h1
    subst he
    obtain ⟨n, rfl⟩ : ∃ m, n = m + 1 := ⟨n - 1, by omega⟩
    show tb_FF_invert_13 N (tl_FF_invert_13 N n) r b (nI 0) = _
    unfold tb_FF_invert_13
    rw [if_pos (show (nI 0 : Int32) ≤ 0 by decide), ivL_z]
  | succ k ih =>
    intro e n r b h1 h2 h3
    obtain ⟨n, rfl⟩ : ∃ m, n = m + 1 := ⟨n - 1, by omega⟩
    show tb_FF_invert_13 N (tl_FF_invert_13 N n) r b (nI e) = _
    unfold tb_FF_invert_13
    rcases Nat.eq_zero_or_pos e with h0 | h0
    · subst h0
      rw [ivL_0, if_pos (show (nI 0 : Int32) ≤ 0 by decide)]
    · rw [if_neg (nI_nle h0 (by omega))]
      have hs : nI e >>> ((1 : Int32) &&& 31) = nI (e / 2 ^ 1) := pk_shrN (by omega) _ 1 (by decide)
      have he : e / 2 < 2 ^ k := by rw [Nat.pow_succ] at h1; omega
      have key : ∀ r', tb_FF_invert_35 N (tl_FF_invert_13 N n) r' b (nI e) = some (ivL k (e / 2) r' (fr_l (b * b) 1000003)) := by
        intro r'
        unfold tb_FF_invert_35
        rw [Option.bind_some, Option.bind_some, hs]
        exact ih (e / 2) n r' _ he (by omega) (by omega)
      by_cases ho : e % 2 = 1
      · rw [if_pos ((nI_odd (by omega)).mpr ho), Option.bind_some, key]
        rw [ivL_s, if_pos ho]
      · rw [if_neg (fun q => ho ((nI_odd (by omega)).mp q)), key]
        rw [ivL_s, if_neg ho]
theorem q_inverse (N : Nat) : ∀ (k e n : Nat) (r b : Int64), e < 2 ^ k → e < 2147483648 → k < n → tl_Mo_inverse_13 N n r b (lN e) = some (ivL k e r b) := by
  intro k
  induction k with
  | zero =>
    intro e n r b h1 h2 h3
    have he : e = 0 := by simpa using h1
    subst he
    obtain ⟨n, rfl⟩ : ∃ m, n = m + 1 := ⟨n - 1, by omega⟩
    show tb_Mo_inverse_13 N (tl_Mo_inverse_13 N n) r b (lN 0) = _
    unfold tb_Mo_inverse_13
    rw [if_pos (show lg_cmp (lN 0) 0 ≤ 0 by decide), ivL_z]
  | succ k ih =>
    intro e n r b h1 h2 h3
    obtain ⟨n, rfl⟩ : ∃ m, n = m + 1 := ⟨n - 1, by omega⟩
    show tb_Mo_inverse_13 N (tl_Mo_inverse_13 N n) r b (lN e) = _
    unfold tb_Mo_inverse_13
    rcases Nat.eq_zero_or_pos e with h0 | h0
    · subst h0
      rw [ivL_0, if_pos (show lg_cmp (lN 0) 0 ≤ 0 by decide)]
    · have hn : ¬ lg_cmp (lN e) 0 ≤ 0 := by
        rw [lg_cmp_le]
        intro q
        have := (lN_le (a := e) (b := 0) (by omega) (by omega)).mp q
        omega
      rw [if_neg hn]
      have hs : lN e >>> ((1 : Int32).toInt64 &&& 63) = lN (e / 2 ^ 1) := pf_shr (by decide) (by omega)
      have he : e / 2 < 2 ^ k := by rw [Nat.pow_succ] at h1; omega
      have key : ∀ r', tb_Mo_inverse_41 N (tl_Mo_inverse_13 N n) b (lN e) r' = some (ivL k (e / 2) r' (fr_l (b * b) 1000003)) := by
        intro r'
        unfold tb_Mo_inverse_41
        rw [Option.bind_some, Option.bind_some, hs]
        exact ih (e / 2) n r' _ he (by omega) (by omega)
      by_cases ho : e % 2 = 1
      · rw [if_pos ((lg_cmp_eq _ _).mpr ((lN_odd (by omega)).mpr ho)), key]
        rw [ivL_s, if_pos ho]
      · rw [if_neg (fun q => ho ((lN_odd (by omega)).mp ((lg_cmp_eq _ _).mp q))), key]
        rw [ivL_s, if_neg ho]
