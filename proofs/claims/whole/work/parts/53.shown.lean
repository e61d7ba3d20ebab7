/-! facts of a drawing: the class's isShown, the model's isAlways -/
def alw (f : Nat) (b : Nat → Bool) (P : Nat → Bool) : Bool := decide (0 < stn b f ∧ ∀ g, g < f → b g = true → P g = true)
theorem alw_iff {f : Nat} {b P : Nat → Bool} : alw f b P = true ↔ (0 < stn b f ∧ ∀ g, g < f → b g = true → P g = true) := decide_eq_true_iff
theorem bool_ext {a b : Bool} (h : a = true ↔ b = true) : a = b := by
  cases a <;> cases b <;> simp_all
/-- drawing i of the class -/
def CD (S : CS) (i f n : Nat) (b : Nat → Bool) (X Y : Nat → Nat → Int) : Prop := f ≤ 5 ∧ n ≤ 10 ∧ cs_dsize S i = nI f ∧ cs_stand S i = nI (stn b f) ∧ ∀ g, g < f → (cs_fallen S (5 * i + g) = -1 ↔ b g = true) ∧ (b g = true → fcx S (5 * i + g) n (X g) (Y g))
def MD (M : MS) (f n : Nat) (b : Nat → Bool) (X Y : Nat → Nat → Int) : Prop := f ≤ 5 ∧ n ≤ 10 ∧ ms_figs M = nI f ∧ ∀ g, g < f → (ms_fallsAt M g = -1 ↔ b g = true) ∧ (b g = true → mco M g n (X g) (Y g))
section ISS
variable {N : Nat} {S : CS} {M : MS} {i f n : Nat} {b : Nat → Bool} {X Y : Nat → Nat → Int} {w k : Nat}
theorem iss_loop (h : CD S i f n b X Y) (hk : k < 9) (hw : w < 2147483648) (hp : ∀ j, j < npk k → rk w j < n) : ∀ (m g fuel : Nat), g + m = f → m < fuel → ∃ q : Bool, tl_Dr_isShown_2 N i fuel (nI k) (nI w) (nI g) S = some (bI q) ∧ (q = true ↔ (0 < stn b f ∧ ∀ h, g ≤ h → h < f → b h = true → sho (X h) (Y h) k (rk w) (rk w 4) (rk w 5) = true)) := by
  intro m
  obtain ⟨hf5, hn10, hd, hst, hfig⟩ := h
  have hsl := stn_le b f
  induction m with
  | zero =>
    intro g fuel hgm hfu
    obtain ⟨fu, rfl⟩ : ∃ f, fuel = f + 1 := ⟨fuel - 1, by omega⟩
    have hg : g = f := by omega
    subst hg
    show ∃ q : Bool, tb_Dr_isShown_2 N (tl_Dr_isShown_2 N i fu) i (nI k) (nI w) (nI g) S = _ ∧ _
    unfold tb_Dr_isShown_2
    by_cases h0 : stn b g = 0
    · refine ⟨false, bs rfl ((if_pos (by rw [hd]; exact nI_le (Nat.le_refl g) (by omega))).trans (bs rfl (if_pos (by rw [hst, h0]; decide)))), ?_⟩
      constructor
      · intro z; cases z
      · intro z; omega
    · refine ⟨true, bs rfl ((if_pos (by rw [hd]; exact nI_le (Nat.le_refl g) (by omega))).trans (bs rfl (if_neg (by rw [hst]; exact nI_nle (by omega) (by omega))))), ?_⟩
      constructor
      · intro _; exact ⟨by omega, fun h h1 h2 => by omega⟩
      · intro z; rfl
  | succ m ih =>
    intro g fuel hgm hfu
    obtain ⟨fu, rfl⟩ : ∃ f, fuel = f + 1 := ⟨fuel - 1, by omega⟩
    have hg : g < f := by omega
    have hx : ta 5 (fun z => 5 * i + z) (nI g) = some (5 * i + g) := ta_n (by omega) (by decide)
    have hle : ¬ cs_dsize S i ≤ nI g := by rw [hd]; exact nI_ge hg (by omega)
    have nx1 : some (nI g + 1) = some (nI (g + 1)) := by rw [nI_1]
    obtain ⟨q, e, hq⟩ := ih (g + 1) fu (by omega) (by omega)
    obtain ⟨hfa, hcx⟩ := hfig g hg
    show ∃ q : Bool, tb_Dr_isShown_2 N (tl_Dr_isShown_2 N i fu) i (nI k) (nI w) (nI g) S = _ ∧ _
    unfold tb_Dr_isShown_2 tb_Dr_isShown_39
    by_cases hb : b g = true
    · have hs := p_shows (N := N) (hcx hb) hk hw hp
      by_cases hsh : sho (X g) (Y g) k (rk w) (rk w 4) (rk w 5) = true
      · refine ⟨q, bs rfl ((if_neg hle).trans (bs hx (bs rfl ((if_pos (hfa.mpr hb)).trans (bs hx (bs hs ((if_neg (fun z => bI_0.mp z hsh)).trans (bs nx1 e)))))))), hq.trans ?_⟩
        constructor
        · intro z
          refine ⟨z.1, fun h h1 h2 h3 => ?_⟩
          by_cases hhg : h = g
          · subst hhg; exact hsh
          · exact z.2 h (by omega) h2 h3
        · intro z
          exact ⟨z.1, fun h h1 h2 h3 => z.2 h (by omega) h2 h3⟩
      · refine ⟨false, bs rfl ((if_neg hle).trans (bs hx (bs rfl ((if_pos (hfa.mpr hb)).trans (bs hx (bs hs (if_pos (bI_0.mpr hsh)))))))), ?_⟩
        constructor
        · intro z; cases z
        · intro z; exact absurd (z.2 g (Nat.le_refl g) hg hb) hsh
    · refine ⟨q, bs rfl ((if_neg hle).trans (bs hx (bs rfl ((if_neg (fun z => hb (hfa.mp z))).trans (bs nx1 e))))), hq.trans ?_⟩
      constructor
      · intro z
        refine ⟨z.1, fun h h1 h2 h3 => ?_⟩
        by_cases hhg : h = g
        · subst hhg; exact absurd h3 hb
        · exact z.2 h (by omega) h2 h3
      · intro z
        exact ⟨z.1, fun h h1 h2 h3 => z.2 h (by omega) h2 h3⟩
theorem p_isShown (hN : 25 ≤ N) (h : CD S i f n b X Y) (hk : k < 9) (hw : w < 2147483648) (hp : ∀ j, j < npk k → rk w j < n) : t_Dr_isShown N i (nI k) (nI w) S = some (bI (alw f b (fun g => sho (X g) (Y g) k (rk w) (rk w 4) (rk w 5)))) := by
  have hf5 := h.1
  obtain ⟨q, e, hq⟩ := iss_loop (N := N) h hk hw hp f 0 N (by omega) (by omega)
  have : q = alw f b (fun g => sho (X g) (Y g) k (rk w) (rk w 4) (rk w 5)) := bool_ext (hq.trans (Iff.trans ⟨fun z => ⟨z.1, fun g h1 h2 => z.2 g (Nat.zero_le g) h1 h2⟩, fun z => ⟨z.1, fun g _ h1 h2 => z.2 g h1 h2⟩⟩ alw_iff.symm))
  rw [← this]
  exact e
/-! only the model's figure may change -/
def FG (M M' : MS) : Prop := ∃ v, M' = ms_set_figure M v
theorem FG.rf {M : MS} : FG M M := ⟨ms_figure M, rfl⟩
theorem FG.tr {M M1 M2 : MS} (h1 : FG M M1) (h2 : FG M1 M2) : FG M M2 := by
  obtain ⟨v, rfl⟩ := h1
  obtain ⟨u, rfl⟩ := h2
  exact ⟨u, rfl⟩
theorem MD.fg {M M' : MS} (h : MD M f n b X Y) (hg : FG M M') : MD M' f n b X Y := by
  obtain ⟨v, rfl⟩ := hg
  exact h
theorem FG.row {M M' : MS} (hg : FG M M') : ms_row M' = ms_row M := by
  obtain ⟨v, rfl⟩ := hg
  rfl
theorem alw_loop {v : Nat → Nat} {m1 n1 : Nat} (hk : k < 9) (hp : ∀ j, j < npk k → v j < n) (hm : m1 < 16) (hn : n1 < 16) : ∀ (m g fuel : Nat) (M : MS) (q0 : Bool), MD M f n b X Y → (∀ j, j < 6 → ms_row M j = nI (v j)) → g + m = f → m < fuel → ∃ (q : Bool) (M' : MS), tl_Mo_isAlways_17 N fuel (nI k) (nI m1) (nI n1) (bI q0) (nI g) M = some (bI q, M') ∧ FG M M' ∧ (q = true ↔ (q0 = true ∧ ∀ h, g ≤ h → h < f → b h = true → sho (X h) (Y h) k v m1 n1 = true)) := by
  intro m
  induction m with
  | zero =>
    intro g fuel M q0 h hv hgm hfu
    obtain ⟨hf5, hn10, hd, hfig⟩ := h
    obtain ⟨fu, rfl⟩ : ∃ f, fuel = f + 1 := ⟨fuel - 1, by omega⟩
    have hg : g = f := by omega
    subst hg
    show ∃ (q : Bool) (M' : MS), tb_Mo_isAlways_17 N (tl_Mo_isAlways_17 N fu) (nI k) (nI m1) (nI n1) (bI q0) (nI g) M = _ ∧ _
    unfold tb_Mo_isAlways_17
    refine ⟨q0, M, bs rfl ((if_pos (by rw [hd]; exact nI_le (Nat.le_refl g) (by omega))).trans (bs (bI_tz q0) rfl)), FG.rf, ?_⟩
    constructor
    · intro z; exact ⟨z, fun h h1 h2 => by omega⟩
    · intro z; exact z.1
  | succ m ih =>
    intro g fuel M q0 h hv hgm hfu
    have h0 := h
    obtain ⟨hf5, hn10, hd, hfig⟩ := h
    obtain ⟨fu, rfl⟩ : ∃ f, fuel = f + 1 := ⟨fuel - 1, by omega⟩
    have hg : g < f := by omega
    have hle : ¬ ms_figs M ≤ nI g := by rw [hd]; exact nI_ge hg (by omega)
    have nx1 : some (nI g + 1) = some (nI (g + 1)) := by rw [nI_1]
    show ∃ (q : Bool) (M' : MS), tb_Mo_isAlways_17 N (tl_Mo_isAlways_17 N fu) (nI k) (nI m1) (nI n1) (bI q0) (nI g) M = _ ∧ _
    unfold tb_Mo_isAlways_17 tb_Mo_isAlways_58 tb_Mo_isAlways_63
    by_cases hq0 : q0 = true
    · subst hq0
      have hx : FG M (ms_set_figure M (nI g)) := ⟨_, rfl⟩
      have hv2 : ∀ j, j < 6 → ms_row (ms_set_figure M (nI g)) j = nI (v j) := fun j hj => by rw [ms_g_row_figure]; exact hv j hj
      have ht : ta 5 (ms_fallsAt (ms_set_figure M (nI g))) (nI g) = some (ms_fallsAt M g) := by rw [ms_g_fallsAt_figure]; exact ta_n (by omega) (by decide)
      obtain ⟨hfa, hcx⟩ := hfig g hg
      have go1 : ∃ (q : Bool) (M' : MS), tl_Mo_isAlways_17 N fu (nI k) (nI m1) (nI n1) 1 (nI (g + 1)) (ms_set_figure M (nI g)) = some (bI q, M') ∧ FG M M' ∧ (q = true ↔ (true = true ∧ ∀ h, g + 1 ≤ h → h < f → b h = true → sho (X h) (Y h) k v m1 n1 = true)) := by
        obtain ⟨q, M', e, x, hq⟩ := ih (g + 1) fu (ms_set_figure M (nI g)) true (h0.fg hx) hv2 (by omega) (by omega)
        exact ⟨q, M', e, hx.tr x, hq⟩
      obtain ⟨q, M', e, x, hq⟩ := go1
      by_cases hb : b g = true
      · have hc : mcx (ms_set_figure M (nI g)) g n (X g) (Y g) := mco.cx (hcx hb) (ms_g_figure_figure _ _)
        have hs := p_isSo (N := N) hc hk hv2 hp hm hn
        by_cases hsh : sho (X g) (Y g) k v m1 n1 = true
        · refine ⟨q, M', bs rfl ((if_neg hle).trans ((if_neg (by decide)).trans (bs rfl (bs ht ((if_pos (hfa.mpr hb)).trans (bs hs ((if_neg (fun z => bI_0.mp z hsh)).trans (bs nx1 e)))))))), x, hq.trans ?_⟩
          constructor
          · intro z
            refine ⟨rfl, fun h h1 h2 h3 => ?_⟩
            by_cases hhg : h = g
            · subst hhg; exact hsh
            · exact z.2 h (by omega) h2 h3
          · intro z
            exact ⟨rfl, fun h h1 h2 h3 => z.2 h (by omega) h2 h3⟩
        · obtain ⟨q2, M2, e2, x2, hq2⟩ := ih (g + 1) fu (ms_set_figure M (nI g)) false (h0.fg hx) hv2 (by omega) (by omega)
          refine ⟨q2, M2, bs rfl ((if_neg hle).trans ((if_neg (by decide)).trans (bs rfl (bs ht ((if_pos (hfa.mpr hb)).trans (bs hs ((if_pos (bI_0.mpr hsh)).trans (bs nx1 e2)))))))), hx.tr x2, hq2.trans ?_⟩
          constructor
          · intro z; cases z.1
          · intro z; exact absurd (z.2 g (Nat.le_refl g) hg hb) hsh
      · refine ⟨q, M', bs rfl ((if_neg hle).trans ((if_neg (by decide)).trans (bs rfl (bs ht ((if_neg (fun z => hb (hfa.mp z))).trans (bs nx1 e)))))), x, hq.trans ?_⟩
        constructor
        · intro z
          refine ⟨rfl, fun h h1 h2 h3 => ?_⟩
          by_cases hhg : h = g
          · subst hhg; exact absurd h3 hb
          · exact z.2 h (by omega) h2 h3
        · intro z
          exact ⟨rfl, fun h h1 h2 h3 => z.2 h (by omega) h2 h3⟩
    · refine ⟨q0, M, bs rfl ((if_neg hle).trans ((if_pos (bI_0.mpr hq0)).trans (bs (bI_tz q0) rfl))), FG.rf, ?_⟩
      constructor
      · intro z; exact absurd z hq0
      · intro z; exact absurd z.1 hq0
theorem m_isAlways {v : Nat → Nat} {m1 n1 : Nat} (hN : 25 ≤ N) (h : MD M f n b X Y) (hk : k < 9) (hv : ∀ j, j < 6 → ms_row M j = nI (v j)) (hp : ∀ j, j < npk k → v j < n) (hm : m1 < 16) (hn : n1 < 16) : ∃ M', t_Mo_isAlways N (nI k) (nI m1) (nI n1) M = some (bI (alw f b (fun g => sho (X g) (Y g) k v m1 n1)), M') ∧ FG M M' := by
  have hf5 := h.1
  have hst := m_standing (N := N) hN hf5 h.2.2.1 (fun g hg => (h.2.2.2 g hg).1)
  have hsl := stn_le b f
  obtain ⟨q, M', e, x, hq⟩ := alw_loop (N := N) hk hp hm hn f 0 N M (decide (0 < stn b f)) h hv (by omega) (by omega)
  have : q = alw f b (fun g => sho (X g) (Y g) k v m1 n1) := bool_ext (hq.trans (Iff.trans ⟨fun z => ⟨of_decide_eq_true z.1, fun g h1 h2 => z.2 g (Nat.zero_le g) h1 h2⟩, fun z => ⟨decide_eq_true z.1, fun g _ h1 h2 => z.2 g h1 h2⟩⟩ alw_iff.symm))
  refine ⟨M', ?_, x⟩
  rw [← this]
  unfold t_Mo_isAlways tb_Mo_isAlways_12
  refine bs hst ?_
  by_cases h0 : stn b f = 0
  · rw [h0] at e ⊢
    exact (if_pos (by decide)).trans e
  · rw [decide_eq_true (show 0 < stn b f by omega)] at e
    exact (if_neg (nI_nle (by omega) (by omega))).trans e
end ISS
