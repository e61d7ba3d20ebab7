/-! the model: what is empty, what is told -/
def emL (f : Nat) (b : Nat → Bool) (X Y : Nat → Nat → Int) (a c : Nat) : Bool := decide (∀ g, g < f → b g = true → dtp (X g) (Y g) a c a c % 1000003 = 0)
def emC (f : Nat) (b : Nat → Bool) (X Y : Nat → Nat → Int) (a c d : Nat) : Bool := decide (∀ g, g < f → b g = true → crs (X g) (Y g) a c a d % 1000003 = 0)
section EMP
variable {N : Nat} {M : MS} {f n : Nat} {b : Nat → Bool} {X Y : Nat → Nat → Int}
/-- what the model's isEmpty asks of a figure -/
def EV (N : Nat) (x y z : Int32) (M2 : MS) (E : Prop) : Prop := ∃ (w : Int64), (if 0 ≤ z then (t_Mo_cross N x y x z M2) else (t_Mo_length N x y M2)) = some w ∧ (lg_cmp w 0 = 0 ↔ E)
theorem em_loop {x y z : Int32} {E : Nat → Prop} (hE : ∀ (M2 : MS) g, MD M2 f n b X Y → g < f → b g = true → ms_figure M2 = nI g → EV N x y z M2 (E g)) : ∀ (m g fuel : Nat) (M : MS) (q0 : Bool), MD M f n b X Y → g + m = f → m < fuel → ∃ (q : Bool) (M' : MS), tl_Mo_isEmpty_6 N fuel x y z (bI q0) (nI g) M = some (bI q, M') ∧ FG M M' ∧ (q = true ↔ (q0 = true ∧ ∀ h, g ≤ h → h < f → b h = true → E h)) := by
  intro m
  induction m with
  | zero =>
    intro g fuel M q0 h hgm hfu
    obtain ⟨hf5, hn10, hd, hfig⟩ := h
    obtain ⟨fu, rfl⟩ : ∃ f, fuel = f + 1 := ⟨fuel - 1, by omega⟩
    have hg : g = f := by omega
    subst hg
    show ∃ (q : Bool) (M' : MS), tb_Mo_isEmpty_6 N (tl_Mo_isEmpty_6 N fu) x y z (bI q0) (nI g) M = _ ∧ _
    unfold tb_Mo_isEmpty_6
    refine ⟨q0, M, bs rfl <| (if_pos (by rw [hd]; exact nI_le (Nat.le_refl g) (by omega))).trans <| bs (bI_tz q0) rfl, FG.rf, ?_⟩
    exact ⟨fun z => ⟨z, fun h h1 h2 => by omega⟩, fun z => z.1⟩
  | succ m ih =>
    intro g fuel M q0 h hgm hfu
    have h0 := h
    obtain ⟨hf5, hn10, hd, hfig⟩ := h
    obtain ⟨fu, rfl⟩ : ∃ f, fuel = f + 1 := ⟨fuel - 1, by omega⟩
    have hg : g < f := by omega
    have hle : ¬ ms_figs M ≤ nI g := by rw [hd]; exact nI_ge hg (by omega)
    have nx1 : some (nI g + 1) = some (nI (g + 1)) := by rw [nI_1]
    have hx : FG M (ms_set_figure M (nI g)) := ⟨_, rfl⟩
    have ht : ta 5 (ms_fallsAt (ms_set_figure M (nI g))) (nI g) = some (ms_fallsAt M g) := by rw [ms_g_fallsAt_figure]; exact ta_n (by omega) (by decide)
    obtain ⟨hfa, hcx⟩ := hfig g hg
    show ∃ (q : Bool) (M' : MS), tb_Mo_isEmpty_6 N (tl_Mo_isEmpty_6 N fu) x y z (bI q0) (nI g) M = _ ∧ _
    unfold tb_Mo_isEmpty_6
    obtain ⟨qt, Mt, et, xt, ht2⟩ := ih (g + 1) fu (ms_set_figure M (nI g)) true (h0.fg hx) (by omega) (by omega)
    obtain ⟨qf, Mf, ef, xf, hf2⟩ := ih (g + 1) fu (ms_set_figure M (nI g)) false (h0.fg hx) (by omega) (by omega)
    have e63 : tb_Mo_isEmpty_63 N (tl_Mo_isEmpty_6 N fu) x y z (nI g) (ms_set_figure M (nI g)) = some (bI qt, Mt) := by
      unfold tb_Mo_isEmpty_63 tb_Mo_isEmpty_68
      exact bs nx1 et
    have e67 : tb_Mo_isEmpty_67 N (tl_Mo_isEmpty_6 N fu) x y z (nI g) (ms_set_figure M (nI g)) = some (bI qf, Mf) := by
      unfold tb_Mo_isEmpty_67 tb_Mo_isEmpty_68
      exact bs nx1 ef
    by_cases hq0 : q0 = true
    · by_cases hb : b g = true
      · obtain ⟨w, ew, hw⟩ := hE (ms_set_figure M (nI g)) g (h0.fg hx) hg hb (ms_g_figure_figure _ _)
        have e58 : ∀ (w' : Int64), w' = w → tb_Mo_isEmpty_58 N (tl_Mo_isEmpty_6 N fu) x y z (nI g) w' (ms_set_figure M (nI g)) = if lg_cmp w 0 = 0 then some (bI qt, Mt) else some (bI qf, Mf) := by
          intro w' hw'
          subst hw'
          unfold tb_Mo_isEmpty_58
          rw [e63, e67]
        have ebody : (if 0 ≤ z then ((t_Mo_cross N x y x z (ms_set_figure M (nI g))).bind fun r6 => tb_Mo_isEmpty_58 N (tl_Mo_isEmpty_6 N fu) x y z (nI g) r6 (ms_set_figure M (nI g))) else ((t_Mo_length N x y (ms_set_figure M (nI g))).bind fun r8 => tb_Mo_isEmpty_58 N (tl_Mo_isEmpty_6 N fu) x y z (nI g) r8 (ms_set_figure M (nI g)))) = if lg_cmp w 0 = 0 then some (bI qt, Mt) else some (bI qf, Mf) := by
          by_cases hz : 0 ≤ z
          · rw [if_pos hz] at ew ⊢
            exact bs ew (e58 w rfl)
          · rw [if_neg hz] at ew ⊢
            exact bs ew (e58 w rfl)
        by_cases hEg : E g
        · refine ⟨qt, Mt, bs rfl <| (if_neg hle).trans <| bs rfl <| (if_neg (fun z => bI_0.mp z hq0)).trans <| bs ht <| (if_pos (hfa.mpr hb)).trans <| ebody.trans <| if_pos (hw.mpr hEg), hx.tr xt, ht2.trans ?_⟩
          constructor
          · intro z
            refine ⟨hq0, fun h h1 h2 h3 => ?_⟩
            by_cases hhg : h = g
            · subst hhg; exact hEg
            · exact z.2 h (by omega) h2 h3
          · intro z
            exact ⟨rfl, fun h h1 h2 h3 => z.2 h (by omega) h2 h3⟩
        · refine ⟨qf, Mf, bs rfl <| (if_neg hle).trans <| bs rfl <| (if_neg (fun z => bI_0.mp z hq0)).trans <| bs ht <| (if_pos (hfa.mpr hb)).trans <| ebody.trans <| if_neg (fun z => hEg (hw.mp z)), hx.tr xf, hf2.trans ?_⟩
          constructor
          · intro z; cases z.1
          · intro z; exact absurd (z.2 g (Nat.le_refl g) hg hb) hEg
      · refine ⟨qt, Mt, bs rfl <| (if_neg hle).trans <| bs rfl <| (if_neg (fun z => bI_0.mp z hq0)).trans <| bs ht <| (if_neg (fun z => hb (hfa.mp z))).trans e63, hx.tr xt, ht2.trans ?_⟩
        constructor
        · intro z
          refine ⟨hq0, fun h h1 h2 h3 => ?_⟩
          by_cases hhg : h = g
          · subst hhg; exact absurd h3 hb
          · exact z.2 h (by omega) h2 h3
        · intro z
          exact ⟨rfl, fun h h1 h2 h3 => z.2 h (by omega) h2 h3⟩
    · refine ⟨qf, Mf, bs rfl <| (if_neg hle).trans <| bs rfl <| (if_pos (bI_0.mpr hq0)).trans e67, hx.tr xf, hf2.trans ?_⟩
      constructor
      · intro z; cases z.1
      · intro z; exact absurd z.1 hq0
theorem m_emptyL {a c : Nat} (hN : 25 ≤ N) (hd : MD M f n b X Y) (ha : a < n) (hc : c < n) : ∃ M', t_Mo_isEmpty N (nI a) (nI c) (-1) M = some (bI (emL f b X Y a c), M') ∧ FG M M' := by
  have hf5 := hd.1
  obtain ⟨q, M', e, x, hq⟩ := em_loop (N := N) (x := nI a) (y := nI c) (z := -1) (E := fun g => dtp (X g) (Y g) a c a c % 1000003 = 0) (fun M2 g h2 hg hb hfig => by
    obtain ⟨r, er, hr⟩ := m_length (N := N) (((h2.2.2.2 g hg).2 hb).cx hfig) ha hc
    exact ⟨r, (if_neg (by decide)).trans er, lgz hr rg_0⟩) f 0 N M true hd (by omega) (by omega)
  refine ⟨M', ?_, x⟩
  have : q = emL f b X Y a c := bool_ext (hq.trans (by
    unfold emL
    rw [decide_eq_true_iff]
    exact ⟨fun z g h1 h2 => z.2 g (Nat.zero_le g) h1 h2, fun z => ⟨rfl, fun g _ h1 h2 => z g h1 h2⟩⟩))
  rw [← this]
  exact e
theorem m_emptyC {a c d : Nat} (hN : 25 ≤ N) (hd : MD M f n b X Y) (ha : a < n) (hc : c < n) (hd2 : d < n) : ∃ M', t_Mo_isEmpty N (nI a) (nI c) (nI d) M = some (bI (emC f b X Y a c d), M') ∧ FG M M' := by
  have hf5 := hd.1
  have hn := hd.2.1
  obtain ⟨q, M', e, x, hq⟩ := em_loop (N := N) (x := nI a) (y := nI c) (z := nI d) (E := fun g => crs (X g) (Y g) a c a d % 1000003 = 0) (fun M2 g h2 hg hb hfig => by
    obtain ⟨r, er, hr⟩ := m_cross (N := N) (((h2.2.2.2 g hg).2 hb).cx hfig) ha hc ha hd2
    exact ⟨r, (if_pos (nI_pos' (by omega))).trans er, lgz hr rg_0⟩) f 0 N M true hd (by omega) (by omega)
  refine ⟨M', ?_, x⟩
  have : q = emC f b X Y a c d := bool_ext (hq.trans (by
    unfold emC
    rw [decide_eq_true_iff]
    exact ⟨fun z g h1 h2 => z.2 g (Nat.zero_le g) h1 h2, fun z => ⟨rfl, fun g _ h1 h2 => z g h1 h2⟩⟩))
  rw [← this]
  exact e
/-- told, as the model has it -/
def wys (k : Nat) : Bool := decide (k = 2 ∨ k = 3 ∨ k = 4 ∨ k = 8)
def mtl (f : Nat) (b : Nat → Bool) (X Y : Nat → Nat → Int) (k : Nat) (v : Nat → Nat) : Bool := decide (hld f b X Y k v = true ∧ (0 < k → apt (sam f b X Y) v (npk k) = true) ∧ (k = 7 → ¬ emC f b X Y (v 0) (v 1) (v 2) = true ∧ ¬ emC f b X Y (v 3) (v 4) (v 5) = true) ∧ (wys k = true → ¬ emL f b X Y (v 0) (v 1) = true ∧ ¬ emL f b X Y (v 2) (v 3) = true))
theorem m_size {k : Nat} (hk : k < 9) : t_Mo_size N (nI k) = some (nI (npk k)) := by
  unfold t_Mo_size
  match k, hk with
  | 0, _ => rfl
  | 1, _ => rfl
  | 2, _ => rfl
  | 3, _ => rfl
  | 4, _ => rfl
  | 5, _ => rfl
  | 6, _ => rfl
  | 7, _ => rfl
  | 8, _ => rfl
  | k + 9, h => omega
/-- the last part of isTold -/
theorem m_told98 {k : Nat} {v : Nat → Nat} {q : Bool} (hN : 25 ≤ N) (hd : MD M f n b X Y) (hk : k < 9) (hv : ∀ j, j < 6 → ms_row M j = nI (v j)) (hp : ∀ j, j < npk k → v j < n) : ∃ M', tb_Mo_isTold_98 N (nI k) (bI q) M = some (bI (decide (q = true ∧ (k = 7 → ¬ emC f b X Y (v 0) (v 1) (v 2) = true ∧ ¬ emC f b X Y (v 3) (v 4) (v 5) = true) ∧ (wys k = true → ¬ emL f b X Y (v 0) (v 1) = true ∧ ¬ emL f b X Y (v 2) (v 3) = true))), M') ∧ FG M M' := by
  have u : ∀ (M2 : MS), FG M M2 → ∀ j, j < 6 → ta 6 (ms_row M2) (nI j) = some (nI (v j)) := fun M2 hg j hj => by rw [hg.row, ta_n hj (by decide), hv j hj]
  have pf : ∀ {p : Prop} [Decidable p], ¬ p → bI (decide p) = 0 := fun h => by rw [decide_eq_false h]; rfl
  have pt : ∀ {p : Prop} [Decidable p], p → bI (decide p) = 1 := fun h => by rw [decide_eq_true h]; rfl
  unfold tb_Mo_isTold_98
  by_cases h7 : k = 7
  · subst h7
    have hw : wys 7 = false := by decide
    by_cases hq : q = true
    · obtain ⟨M1, e1, x1⟩ := m_emptyC (N := N) hN hd (hp 0 (by decide)) (hp 1 (by decide)) (hp 2 (by decide))
      by_cases h1 : emC f b X Y (v 0) (v 1) (v 2) = true
      · refine ⟨M1, (if_pos rfl).trans <| (if_neg (fun z => bI_0.mp z hq)).trans <| bs (u M FG.rf 0 (by decide)) <| bs (u M FG.rf 1 (by decide)) <| bs (u M FG.rf 2 (by decide)) <| bs e1 <| (if_neg (fun z => bI_0.mp z h1)).trans ?_, x1⟩
        rw [pf (fun z => (z.2.1 rfl).1 h1)]
      · obtain ⟨M2, e2, x2⟩ := m_emptyC (N := N) hN (hd.fg x1) (hp 3 (by decide)) (hp 4 (by decide)) (hp 5 (by decide))
        by_cases h2 : emC f b X Y (v 3) (v 4) (v 5) = true
        · refine ⟨M2, (if_pos rfl).trans <| (if_neg (fun z => bI_0.mp z hq)).trans <| bs (u M FG.rf 0 (by decide)) <| bs (u M FG.rf 1 (by decide)) <| bs (u M FG.rf 2 (by decide)) <| bs e1 <| (if_pos (bI_0.mpr h1)).trans <| bs (u M1 x1 3 (by decide)) <| bs (u M1 x1 4 (by decide)) <| bs (u M1 x1 5 (by decide)) <| bs e2 <| (if_neg (fun z => bI_0.mp z h2)).trans ?_, x1.tr x2⟩
          rw [pf (fun z => (z.2.1 rfl).2 h2)]
        · refine ⟨M2, (if_pos rfl).trans <| (if_neg (fun z => bI_0.mp z hq)).trans <| bs (u M FG.rf 0 (by decide)) <| bs (u M FG.rf 1 (by decide)) <| bs (u M FG.rf 2 (by decide)) <| bs e1 <| (if_pos (bI_0.mpr h1)).trans <| bs (u M1 x1 3 (by decide)) <| bs (u M1 x1 4 (by decide)) <| bs (u M1 x1 5 (by decide)) <| bs e2 <| (if_pos (bI_0.mpr h2)).trans ?_, x1.tr x2⟩
          rw [pt ⟨hq, fun _ => ⟨h1, h2⟩, fun z => absurd z (by rw [hw]; decide)⟩]
    · refine ⟨M, (if_pos rfl).trans <| (if_pos (bI_0.mpr hq)).trans ?_, FG.rf⟩
      rw [pf (fun z => hq z.1)]
  · have h7n : ¬ nI k = 7 := fun z => h7 ((nI_eq (a := k) (b := 7) (by omega) (by decide)).mp z)
    have e185 : ∀ (w : Bool), w = wys k → ∃ M', tb_Mo_isTold_185 N (bI q) (bI w) M = some (bI (decide (q = true ∧ (k = 7 → ¬ emC f b X Y (v 0) (v 1) (v 2) = true ∧ ¬ emC f b X Y (v 3) (v 4) (v 5) = true) ∧ (wys k = true → ¬ emL f b X Y (v 0) (v 1) = true ∧ ¬ emL f b X Y (v 2) (v 3) = true))), M') ∧ FG M M' := by
      intro w hw
      subst hw
      unfold tb_Mo_isTold_185
      by_cases hq : q = true
      · by_cases hw : wys k = true
        · have h4 : npk k = 4 := by
            unfold wys at hw
            rw [decide_eq_true_iff] at hw
            rcases hw with h | h | h | h <;> subst h <;> rfl
          obtain ⟨M1, e1, x1⟩ := m_emptyL (N := N) hN hd (hp 0 (by omega)) (hp 1 (by omega))
          by_cases h1 : emL f b X Y (v 0) (v 1) = true
          · refine ⟨M1, (if_neg (fun z => bI_0.mp z hq)).trans <| (if_neg (fun z => bI_0.mp z hw)).trans <| bs (u M FG.rf 0 (by decide)) <| bs (u M FG.rf 1 (by decide)) <| bs e1 <| (if_neg (fun z => bI_0.mp z h1)).trans ?_, x1⟩
            rw [pf (fun z => (z.2.2 hw).1 h1)]
          · obtain ⟨M2, e2, x2⟩ := m_emptyL (N := N) hN (hd.fg x1) (hp 2 (by omega)) (hp 3 (by omega))
            by_cases h2 : emL f b X Y (v 2) (v 3) = true
            · refine ⟨M2, (if_neg (fun z => bI_0.mp z hq)).trans <| (if_neg (fun z => bI_0.mp z hw)).trans <| bs (u M FG.rf 0 (by decide)) <| bs (u M FG.rf 1 (by decide)) <| bs e1 <| (if_pos (bI_0.mpr h1)).trans <| bs (u M1 x1 2 (by decide)) <| bs (u M1 x1 3 (by decide)) <| bs e2 <| (if_neg (fun z => bI_0.mp z h2)).trans ?_, x1.tr x2⟩
              rw [pf (fun z => (z.2.2 hw).2 h2)]
            · refine ⟨M2, (if_neg (fun z => bI_0.mp z hq)).trans <| (if_neg (fun z => bI_0.mp z hw)).trans <| bs (u M FG.rf 0 (by decide)) <| bs (u M FG.rf 1 (by decide)) <| bs e1 <| (if_pos (bI_0.mpr h1)).trans <| bs (u M1 x1 2 (by decide)) <| bs (u M1 x1 3 (by decide)) <| bs e2 <| (if_pos (bI_0.mpr h2)).trans ?_, x1.tr x2⟩
              rw [pt ⟨hq, fun z => absurd z h7, fun _ => ⟨h1, h2⟩⟩]
        · refine ⟨M, (if_neg (fun z => bI_0.mp z hq)).trans <| (if_pos (bI_0.mpr hw)).trans ?_, FG.rf⟩
          rw [pt ⟨hq, fun z => absurd z h7, fun z => absurd z hw⟩]
      · refine ⟨M, (if_pos (bI_0.mpr hq)).trans ?_, FG.rf⟩
        rw [pf (fun z => hq z.1)]
    obtain ⟨M', e, x⟩ := e185 (wys k) rfl
    refine ⟨M', (if_neg h7n).trans ?_, x⟩
    unfold tb_Mo_isTold_174 tb_Mo_isTold_180
    match k, hk, h7, e with
    | 0, _, _, e => exact (if_pos (by decide)).trans <| (if_neg (by decide)).trans e
    | 1, _, _, e => exact (if_pos (by decide)).trans <| (if_neg (by decide)).trans e
    | 2, _, _, e => exact (if_neg (by decide)).trans <| (if_pos (by decide)).trans e
    | 3, _, _, e => exact (if_neg (by decide)).trans <| (if_pos (by decide)).trans e
    | 4, _, _, e => exact (if_neg (by decide)).trans <| (if_pos (by decide)).trans e
    | 5, _, _, e => exact (if_neg (by decide)).trans <| (if_neg (by decide)).trans <| (if_neg (by decide)).trans e
    | 6, _, _, e => exact (if_neg (by decide)).trans <| (if_neg (by decide)).trans <| (if_neg (by decide)).trans e
    | 7, _, h, _ => exact absurd rfl h
    | 8, _, _, e => exact (if_neg (by decide)).trans <| (if_neg (by decide)).trans <| (if_pos rfl).trans e
    | k + 9, h, _, _ => exact absurd h (by omega)
theorem m_isTold {k : Nat} {v : Nat → Nat} (hN : 25 ≤ N) (hd : MD M f n b X Y) (hk : k < 9) (hv : ∀ j, j < 6 → ms_row M j = nI (v j)) (hp : ∀ j, j < npk k → v j < n) (hs : ∀ a c, a < n → c < n → ms_same M (10 * a + c) = bI (sam f b X Y a c)) : ∃ M', t_Mo_isTold N (nI k) M = some (bI (mtl f b X Y k v), M') ∧ KM [8, 14, 15] M M' ∧ (k = 8 → rat (rtQ f b X Y v) < 81 → ms_foundM M' = nI (rat (rtQ f b X Y v) / 9 + 1) ∧ ms_foundN M' = nI (rat (rtQ f b X Y v) % 9 + 1)) := by
  obtain ⟨M1, e1, k1, f1⟩ := m_isHeld (N := N) hN hd hk hv hp
  have hn := hd.2.1
  have hnp := npk_le k hk
  unfold t_Mo_isTold
  by_cases hh : hld f b X Y k v = true
  · have hd1 := k1.md (by decide) hd
    have hv1 : ∀ j, j < 6 → ms_row M1 j = nI (v j) := fun j hj => by rw [k1.row (by decide)]; exact hv j hj
    have hs1 : ∀ a c, a < n → c < n → ms_same M1 (10 * a + c) = bI (sam f b X Y a c) := fun a c ha hc => by rw [k1.same (by decide)]; exact hs a c ha hc
    have u : ∀ j, j < 6 → ta 6 (ms_row M1) (nI j) = some (nI (v j)) := fun j hj => by rw [ta_n hj (by decide), hv1 j hj]
    have fin : ∀ q : Bool, (q = true ↔ (0 < k → apt (sam f b X Y) v (npk k) = true)) → ∃ M', tb_Mo_isTold_98 N (nI k) (bI q) M1 = some (bI (mtl f b X Y k v), M') ∧ KM [8, 14, 15] M M' ∧ (k = 8 → rat (rtQ f b X Y v) < 81 → ms_foundM M' = nI (rat (rtQ f b X Y v) / 9 + 1) ∧ ms_foundN M' = nI (rat (rtQ f b X Y v) % 9 + 1)) := by
      intro q hq
      obtain ⟨M2, e2, x2⟩ := m_told98 (N := N) (q := q) hN hd1 hk hv1 hp
      refine ⟨M2, ?_, k1.tr (x2.km.mo (by decide)), fun h8 hr => ?_⟩
      · rw [e2]
        have : decide (q = true ∧ (k = 7 → ¬ emC f b X Y (v 0) (v 1) (v 2) = true ∧ ¬ emC f b X Y (v 3) (v 4) (v 5) = true) ∧ (wys k = true → ¬ emL f b X Y (v 0) (v 1) = true ∧ ¬ emL f b X Y (v 2) (v 3) = true)) = mtl f b X Y k v := by
          unfold mtl
          apply decide_eq_decide.mpr
          constructor
          · intro z; exact ⟨hh, hq.mp z.1, z.2.1, z.2.2⟩
          · intro z; exact ⟨hq.mpr z.2.1, z.2.2.1, z.2.2.2⟩
        rw [this]
      · rw [x2.km.foundM (by decide), x2.km.foundN (by decide)]
        exact f1 h8 hr
    by_cases hk0 : k = 0
    · obtain ⟨M', e, r⟩ := fin true ⟨fun _ z => by omega, fun _ => rfl⟩
      refine ⟨M', bs e1 <| (if_neg (fun z => bI_0.mp z hh)).trans ?_, r⟩
      obtain ⟨fu, rfl⟩ : ∃ f, N = f + 1 := ⟨N - 1, by omega⟩
      show tb_Mo_isTold_14 (fu + 1) (tl_Mo_isTold_14 (fu + 1) fu) (nI k) 1 0 M1 = _
      unfold tb_Mo_isTold_14
      refine bs (m_size hk) ?_
      subst hk0
      exact (if_neg (by decide)).trans <| (if_pos (by decide)).trans e
    · have main := up_loop (σ := Bool) (L := fun fu p q => tl_Mo_isTold_14 N fu (nI k) (bI q) (nI p) M1) (e := npk k) (I := fun i q => q = true ↔ ∀ i', i' < i → ∀ j', j' < i' → (v i' = v j' ∨ ¬ sam f b X Y (v i') (v j') = true)) (Q := fun o => ∃ M', o = some (bI (mtl f b X Y k v), M') ∧ KM [8, 14, 15] M M' ∧ (k = 8 → rat (rtQ f b X Y v) < 81 → ms_foundM M' = nI (rat (rtQ f b X Y v) / 9 + 1) ∧ ms_foundN M' = nI (rat (rtQ f b X Y v) % 9 + 1))) (by
        intro fu i q hi hI
        have hle : ¬ nI (npk k) ≤ nI i := nI_ge hi (by omega)
        have inner := up_loop (σ := Bool) (L := fun fu2 p q => tl_Mo_isTold_29 N (tl_Mo_isTold_14 N fu) fu2 (nI k) (bI q) (nI i) (nI p) M1) (e := i) (I := fun j q => q = true ↔ ((∀ i', i' < i → ∀ j', j' < i' → (v i' = v j' ∨ ¬ sam f b X Y (v i') (v j') = true)) ∧ ∀ j', j' < j → (v i = v j' ∨ ¬ sam f b X Y (v i) (v j') = true))) (Q := fun o => ∃ q2 : Bool, o = tl_Mo_isTold_14 N fu (nI k) (bI q2) (nI (i + 1)) M1 ∧ (q2 = true ↔ ∀ i', i' < i + 1 → ∀ j', j' < i' → (v i' = v j' ∨ ¬ sam f b X Y (v i') (v j') = true))) (by
          intro fu2 j q2 hj hJ
          have hle2 : ¬ nI i ≤ nI j := nI_ge hj (by omega)
          have nx : some (nI j + 1) = some (nI (j + 1)) := by rw [nI_1]
          have hvi := hp i hi
          have hvj := hp j (by omega)
          have e10 : (10 : Int32) * nI (v i) + nI (v j) = nI (10 * v i + v j) := by rw [show (10 : Int32) = nI 10 from rfl, pk_mul, nI_add]
          have hsm : ta 100 (ms_same M1) ((10 : Int32) * nI (v i) + nI (v j)) = some (bI (sam f b X Y (v i) (v j))) := by rw [e10, ta_n (by omega) (by decide), hs1 _ _ hvi hvj]
          refine Or.inl ?_
          show ∃ s', tb_Mo_isTold_29 N (tl_Mo_isTold_14 N fu) (tl_Mo_isTold_29 N (tl_Mo_isTold_14 N fu) fu2) (nI k) (bI q2) (nI i) (nI j) M1 = _ ∧ _
          unfold tb_Mo_isTold_29 tb_Mo_isTold_80 tb_Mo_isTold_84 tb_Mo_isTold_85
          by_cases hq2 : q2 = true
          · have hJ2 := hJ.mp hq2
            by_cases hvv : v i = v j
            · refine ⟨true, (if_neg hle2).trans <| (if_neg (fun z => bI_0.mp z hq2)).trans <| bs (u i (by omega)) <| bs (u j (by omega)) <| (if_pos (by rw [hvv])).trans <| bs nx rfl, ?_⟩
              refine ⟨fun _ => ⟨hJ2.1, fun j' hj' => ?_⟩, fun _ => rfl⟩
              by_cases hjj : j' = j
              · subst hjj; exact Or.inl hvv
              · exact hJ2.2 j' (by omega)
            · have hne : ¬ nI (v i) = nI (v j) := fun z => hvv ((nI_eq (by omega) (by omega)).mp z)
              by_cases hsa : sam f b X Y (v i) (v j) = true
              · refine ⟨false, (if_neg hle2).trans <| (if_neg (fun z => bI_0.mp z hq2)).trans <| bs (u i (by omega)) <| bs (u j (by omega)) <| (if_neg hne).trans <| bs (u i (by omega)) <| bs (u j (by omega)) <| bs hsm <| (if_neg (fun z => bI_0.mp z hsa)).trans <| bs nx rfl, ?_⟩
                refine ⟨fun z => (by cases z), fun z => ?_⟩
                rcases z.2 j (by omega) with h | h
                · exact absurd h hvv
                · exact absurd hsa h
              · refine ⟨true, (if_neg hle2).trans <| (if_neg (fun z => bI_0.mp z hq2)).trans <| bs (u i (by omega)) <| bs (u j (by omega)) <| (if_neg hne).trans <| bs (u i (by omega)) <| bs (u j (by omega)) <| bs hsm <| (if_pos (bI_0.mpr hsa)).trans <| bs nx rfl, ?_⟩
                refine ⟨fun _ => ⟨hJ2.1, fun j' hj' => ?_⟩, fun _ => rfl⟩
                by_cases hjj : j' = j
                · subst hjj; exact Or.inr hsa
                · exact hJ2.2 j' (by omega)
          · refine ⟨false, (if_neg hle2).trans <| (if_pos (bI_0.mpr hq2)).trans <| bs nx rfl, ?_⟩
            refine ⟨fun z => (by cases z), fun z => ?_⟩
            exact absurd (hJ.mpr ⟨z.1, fun j' hj' => z.2 j' (by omega)⟩) hq2) (by
          intro fu2 q2 hJ
          refine ⟨q2, ?_, hJ.trans ?_⟩
          · show tb_Mo_isTold_29 N (tl_Mo_isTold_14 N fu) (tl_Mo_isTold_29 N (tl_Mo_isTold_14 N fu) fu2) (nI k) (bI q2) (nI i) (nI i) M1 = _
            unfold tb_Mo_isTold_29
            exact (if_pos (nI_le (Nat.le_refl i) (by omega))).trans <| bs (by rw [nI_1]) rfl
          · constructor
            · intro z i' hi' j' hj'
              by_cases hii : i' = i
              · subst hii; exact z.2 j' hj'
              · exact z.1 i' (by omega) j' hj'
            · intro z
              exact ⟨fun i' hi' j' hj' => z i' (by omega) j' hj', fun j' hj' => z i (by omega) j' hj'⟩)
        obtain ⟨q2, e2, hq2⟩ := inner i 0 N q (by omega) (by omega) (hI.trans ⟨fun z => ⟨z, fun j' hj' => by omega⟩, fun z => z.1⟩)
        refine Or.inl ⟨q2, ?_, hq2⟩
        show tb_Mo_isTold_14 N (tl_Mo_isTold_14 N fu) (nI k) (bI q) (nI i) M1 = _
        unfold tb_Mo_isTold_14
        exact bs (m_size hk) <| (if_neg hle).trans <| (if_neg (nI_nle (by omega) (by omega))).trans e2) (by
        intro fu q hI
        obtain ⟨M', e, r⟩ := fin q (hI.trans (by
          constructor
          · intro z _
            rw [apt_iff]
            intro i hi j hj hsa
            by_cases hij : i = j
            · rw [hij]
            · by_cases hlt : j < i
              · exact (z i hi j hlt).resolve_right (fun y => y hsa)
              · exact ((z j hj i (by omega)).resolve_right (fun y => y (sam_sy hsa))).symm
          · intro z i' hi' j' hj'
            have z2 := apt_iff.mp (z (by omega))
            by_cases hsa : sam f b X Y (v i') (v j') = true
            · exact Or.inl (z2 i' hi' j' (by omega) hsa)
            · exact Or.inr hsa))
        refine ⟨M', ?_, r⟩
        show tb_Mo_isTold_14 N (tl_Mo_isTold_14 N fu) (nI k) (bI q) (nI (npk k)) M1 = _
        unfold tb_Mo_isTold_14
        exact bs (m_size hk) <| (if_pos (nI_le (Nat.le_refl _) (by omega))).trans e)
      obtain ⟨M', e, r⟩ := main (npk k) 0 N true (by omega) (by omega) ⟨fun _ i' hi' => by omega, fun _ => rfl⟩
      exact ⟨M', bs e1 <| (if_neg (fun z => bI_0.mp z hh)).trans e, r⟩
  · refine ⟨M1, bs e1 <| (if_pos (bI_0.mpr hh)).trans ?_, k1, f1⟩
    have : mtl f b X Y k v = false := decide_eq_false (fun z => hh z.1)
    rw [this]
    rfl
end EMP
