/-! what the drawing of figure g leaves in the model -/
def DMx (M M' : MS) (g : Nat) : Prop := ms_many M' = ms_many M ∧ ms_kindOf M' = ms_kindOf M ∧ ms_need M' = ms_need M ∧ ms_seed M' = ms_seed M ∧ ms_figs M' = ms_figs M ∧ ms_row M' = ms_row M ∧ ms_foundM M' = ms_foundM M ∧ ms_foundN M' = ms_foundN M ∧ ms_same M' = ms_same M ∧ ms_seen M' = ms_seen M ∧ ms_wanted M' = ms_wanted M ∧ ms_found M' = ms_found M ∧ ms_isFound M' = ms_isFound M ∧ ms_isSet M' = ms_isSet M ∧ (∀ j, j / 10 ≠ g → ms_xs M' j = ms_xs M j) ∧ (∀ j, j / 10 ≠ g → ms_ys M' j = ms_ys M j) ∧ (∀ j, j ≠ g → ms_fallsAt M' j = ms_fallsAt M j)
theorem DMx.rf {M : MS} {g : Nat} : DMx M M g := ⟨rfl, rfl, rfl, rfl, rfl, rfl, rfl, rfl, rfl, rfl, rfl, rfl, rfl, rfl, fun _ _ => rfl, fun _ _ => rfl, fun _ _ => rfl⟩
theorem DMx.tr {M M1 M2 : MS} {g : Nat} (h1 : DMx M M1 g) (h2 : DMx M1 M2 g) : DMx M M2 g := by
  obtain ⟨p0, p1, p2, p3, p4, p5, p6, p7, p8, p9, p10, p11, p12, p13, f0, f1, f2⟩ := h1
  obtain ⟨q0, q1, q2, q3, q4, q5, q6, q7, q8, q9, q10, q11, q12, q13, g0, g1, g2⟩ := h2
  exact ⟨q0.trans p0, q1.trans p1, q2.trans p2, q3.trans p3, q4.trans p4, q5.trans p5, q6.trans p6, q7.trans p7, q8.trans p8, q9.trans p9, q10.trans p10, q11.trans p11, q12.trans p12, q13.trans p13, fun j hj => (g0 j hj).trans (f0 j hj), fun j hj => (g1 j hj).trans (f1 j hj), fun j hj => (g2 j hj).trans (f2 j hj)⟩
theorem MEx.dmx {M M' : MS} {g : Nat} (h : MEx M M') : DMx M M' g := by
  obtain ⟨p_many, p_kindOf, p_need, p_seed, p_figs, p_xs, p_ys, p_fallsAt, p_figure, p_row, p_foundM, p_foundN, p_same, p_seen, p_wanted, p_found, p_isFound, p_isSet⟩ := h
  exact ⟨p_many, p_kindOf, p_need, p_seed, p_figs, p_row, p_foundM, p_foundN, p_same, p_seen, p_wanted, p_found, p_isFound, p_isSet, fun j _ => congrFun p_xs j, fun j _ => congrFun p_ys j, fun j _ => congrFun p_fallsAt j⟩
theorem DMx.xs {M : MS} {g : Nat} {v : Nat → Int64} (hv : ∀ j, j / 10 ≠ g → v j = ms_xs M j) : DMx M (ms_set_xs M v) g := ⟨ms_g_many_xs M v, ms_g_kindOf_xs M v, ms_g_need_xs M v, ms_g_seed_xs M v, ms_g_figs_xs M v, ms_g_row_xs M v, ms_g_foundM_xs M v, ms_g_foundN_xs M v, ms_g_same_xs M v, ms_g_seen_xs M v, ms_g_wanted_xs M v, ms_g_found_xs M v, ms_g_isFound_xs M v, ms_g_isSet_xs M v, fun j hj => (congrFun (ms_g_xs_xs M v) j).trans (hv j hj), fun j _ => congrFun (ms_g_ys_xs M v) j, fun j _ => congrFun (ms_g_fallsAt_xs M v) j⟩
theorem DMx.ys {M : MS} {g : Nat} {v : Nat → Int64} (hv : ∀ j, j / 10 ≠ g → v j = ms_ys M j) : DMx M (ms_set_ys M v) g := ⟨ms_g_many_ys M v, ms_g_kindOf_ys M v, ms_g_need_ys M v, ms_g_seed_ys M v, ms_g_figs_ys M v, ms_g_row_ys M v, ms_g_foundM_ys M v, ms_g_foundN_ys M v, ms_g_same_ys M v, ms_g_seen_ys M v, ms_g_wanted_ys M v, ms_g_found_ys M v, ms_g_isFound_ys M v, ms_g_isSet_ys M v, fun j _ => congrFun (ms_g_xs_ys M v) j, fun j hj => (congrFun (ms_g_ys_ys M v) j).trans (hv j hj), fun j _ => congrFun (ms_g_fallsAt_ys M v) j⟩
theorem DMx.fallsAt {M : MS} {g : Nat} {v : Nat → Int32} (hv : ∀ j, j ≠ g → v j = ms_fallsAt M j) : DMx M (ms_set_fallsAt M v) g := ⟨ms_g_many_fallsAt M v, ms_g_kindOf_fallsAt M v, ms_g_need_fallsAt M v, ms_g_seed_fallsAt M v, ms_g_figs_fallsAt M v, ms_g_row_fallsAt M v, ms_g_foundM_fallsAt M v, ms_g_foundN_fallsAt M v, ms_g_same_fallsAt M v, ms_g_seen_fallsAt M v, ms_g_wanted_fallsAt M v, ms_g_found_fallsAt M v, ms_g_isFound_fallsAt M v, ms_g_isSet_fallsAt M v, fun j _ => congrFun (ms_g_xs_fallsAt M v) j, fun j _ => congrFun (ms_g_ys_fallsAt M v) j, fun j hj => (congrFun (ms_g_fallsAt_fallsAt M v) j).trans (hv j hj)⟩
theorem DMx.figure {M : MS} {g : Nat} {v : Int32} : DMx M (ms_set_figure M v) g := ⟨ms_g_many_figure M v, ms_g_kindOf_figure M v, ms_g_need_figure M v, ms_g_seed_figure M v, ms_g_figs_figure M v, ms_g_row_figure M v, ms_g_foundM_figure M v, ms_g_foundN_figure M v, ms_g_same_figure M v, ms_g_seen_figure M v, ms_g_wanted_figure M v, ms_g_found_figure M v, ms_g_isFound_figure M v, ms_g_isSet_figure M v, fun j _ => congrFun (ms_g_xs_figure M v) j, fun j _ => congrFun (ms_g_ys_figure M v) j, fun j _ => congrFun (ms_g_fallsAt_figure M v) j⟩
theorem DMx.rnd {M : MS} {g : Nat} {v : Int64} : DMx M (ms_set_rnd M v) g := ⟨ms_g_many_rnd M v, ms_g_kindOf_rnd M v, ms_g_need_rnd M v, ms_g_seed_rnd M v, ms_g_figs_rnd M v, ms_g_row_rnd M v, ms_g_foundM_rnd M v, ms_g_foundN_rnd M v, ms_g_same_rnd M v, ms_g_seen_rnd M v, ms_g_wanted_rnd M v, ms_g_found_rnd M v, ms_g_isFound_rnd M v, ms_g_isSet_rnd M v, fun j _ => congrFun (ms_g_xs_rnd M v) j, fun j _ => congrFun (ms_g_ys_rnd M v) j, fun j _ => congrFun (ms_g_fallsAt_rnd M v) j⟩
theorem DMx.plan {M M' : MS} {g : Nat} (h : DMx M M' g) : ms_many M' = ms_many M ∧ ms_kindOf M' = ms_kindOf M ∧ ms_need M' = ms_need M ∧ ms_seed M' = ms_seed M ∧ ms_figs M' = ms_figs M := ⟨h.1, h.2.1, h.2.2.1, h.2.2.2.1, h.2.2.2.2.1⟩
/-- the model's plan of n points -/
def MPR (M : MS) (n : Nat) (kd sr : Nat → Nat) : Prop := ms_many M = nI n ∧ n ≤ 10 ∧ ∀ p, p < n → ms_kindOf M p = nI (kd p) ∧ kd p < 14 ∧ sok p (kd p) (sr (4 * p)) (sr (4 * p + 1)) (sr (4 * p + 2)) (sr (4 * p + 3)) ∧ ∀ j, j < 4 → ms_need M (4 * p + j) = nI (sr (4 * p + j))
theorem MPR.dx {M M' : MS} {g n : Nat} {kd sr : Nat → Nat} (h : MPR M n kd sr) (he : DMx M M' g) : MPR M' n kd sr := by
  obtain ⟨e1, e2, e3, e4, e5⟩ := he.plan
  unfold MPR at h ⊢
  rw [e1, e2, e3]
  exact h
/-- the places of the first n points of figure g of the model -/
def mco (M : MS) (g n : Nat) (X Y : Nat → Int) : Prop := n ≤ 10 ∧ g < 5 ∧ ∀ p, p < n → ((ms_xs M (10 * g + p)).toInt = X p ∧ 0 ≤ X p ∧ X p < 1000003) ∧ ((ms_ys M (10 * g + p)).toInt = Y p ∧ 0 ≤ Y p ∧ Y p < 1000003)
theorem mco.cx {M : MS} {g n : Nat} {X Y : Nat → Int} (h : mco M g n X Y) (hf : ms_figure M = nI g) : mcx M g n X Y := ⟨h.1, h.2.1, hf, h.2.2⟩
theorem mco.congr {M M' : MS} {g n : Nat} {X Y : Nat → Int} (h : mco M g n X Y) (e1 : ∀ p, p < n → ms_xs M' (10 * g + p) = ms_xs M (10 * g + p)) (e2 : ∀ p, p < n → ms_ys M' (10 * g + p) = ms_ys M (10 * g + p)) : mco M' g n X Y := by
  refine ⟨h.1, h.2.1, fun p hp => ?_⟩
  rw [e1 p hp, e2 p hp]
  exact h.2.2 p hp
/-- figure g of the model is the run's state behind p points -/
def MRep (M : MS) (g p : Nat) (F : FS) : Prop := match F.2.2.2 with
  | none => ms_fallsAt M g = -1 ∧ mco M g p F.2.1 F.2.2.1
  | some q => ms_fallsAt M g = nI q ∧ q < 10 ∧ mco M g q F.2.1 F.2.2.1
def LRep (M : MS) (g p : Nat) (F : FS) : Prop := MRep M g p F ∧ (ms_rnd M).toInt = F.1 ∧ (0 ≤ F.1 ∧ F.1 < 2147483647) ∧ ms_figure M = nI g
theorem MRep.any {M : MS} {g p n q : Nat} {F : FS} (h : MRep M g p F) (hf : F.2.2.2 = some q) : MRep M g n F := by
  unfold MRep at h ⊢
  rw [hf] at h ⊢
  exact h
theorem MRep.same {M M' : MS} {g p : Nat} {F : FS} (h : MRep M g p F) (e1 : ∀ q, q < 10 → ms_xs M' (10 * g + q) = ms_xs M (10 * g + q)) (e2 : ∀ q, q < 10 → ms_ys M' (10 * g + q) = ms_ys M (10 * g + q)) (e3 : ms_fallsAt M' g = ms_fallsAt M g) : MRep M' g p F := by
  unfold MRep at h ⊢
  cases hF : F.2.2.2 with
  | none =>
    rw [hF] at h
    dsimp only at h ⊢
    rw [e3]
    exact ⟨h.1, h.2.congr (fun q hq => e1 q (by have := h.2.1; omega)) (fun q hq => e2 q (by have := h.2.1; omega))⟩
  | some w =>
    rw [hF] at h
    dsimp only at h ⊢
    rw [e3]
    exact ⟨h.1, h.2.1, h.2.2.congr (fun q hq => e1 q (by have := h.2.1; omega)) (fun q hq => e2 q (by have := h.2.1; omega))⟩
theorem MRep.dmx {M M' : MS} {g g2 p : Nat} {F : FS} (h : MRep M g p F) (he : DMx M M' g2) (hg : g ≠ g2) : MRep M' g p F := by
  obtain ⟨p0, p1, p2, p3, p4, p5, p6, p7, p8, p9, p10, p11, p12, p13, f0, f1, f2⟩ := he
  exact h.same (fun q hq => f0 _ (by omega)) (fun q hq => f1 _ (by omega)) (f2 g hg)
theorem twl_n {n p : Nat} {f : Nat → Int64} {x : Int64} (h : p < n) (hn : n < 2147483648) : twl n f (nI p) x = some (vp_updL f p x) := by
  unfold twl
  rw [if_neg (nI_in h (by omega)), nI_clamp (by omega)]
theorem mco.push {M M' : MS} {g p : Nat} {X Y : Nat → Int} {x y : Int64} {q : Int × Int} (h : mco M g p X Y) (hp : p < 10) (e1 : ms_xs M' = vp_updL (ms_xs M) (10 * g + p) x) (e2 : ms_ys M' = vp_updL (ms_ys M) (10 * g + p) y) (hx : x.toInt = q.1) (hy : y.toInt = q.2) (hq : inP q) : mco M' g (p + 1) (va_up X p q.1) (va_up Y p q.2) := by
  refine ⟨by omega, h.2.1, fun j hj => ?_⟩
  rw [e1, e2]
  by_cases hjp : j = p
  · subst hjp
    rw [va_up_self, va_up_self, pk_uLs, pk_uLs]
    exact ⟨⟨hx, hq.1⟩, ⟨hy, hq.2⟩⟩
  · rw [va_up_ne _ _ hjp, va_up_ne _ _ hjp, pk_uLn (by omega), pk_uLn (by omega)]
    exact h.2.2 j (by omega)
theorem mco.old {M M' : MS} {g p : Nat} {X Y : Nat → Int} {x y : Int64} (h : mco M g p X Y) (e1 : ms_xs M' = vp_updL (ms_xs M) (10 * g + p) x) (e2 : ms_ys M' = vp_updL (ms_ys M) (10 * g + p) y) : mco M' g p X Y := h.congr (fun q hq => by rw [e1, pk_uLn (by omega)]) (fun q hq => by rw [e2, pk_uLn (by omega)])
/-- one round of the model's loop over the points -/
theorem m_round {N : Nat} {M : MS} {g n p : Nat} {kd sr : Nat → Nat} {F : FS} {k30 : Int32 → Int32 → MS → Option MS} (hN : 25 ≤ N) (hP : MPR M n kd sr) (hp : p < n) (hL : LRep M g p F) (hF : F.2.2.2 = none) :
    ∃ M', tb_Mo_drawFigure_30 N k30 (nI g) (nI p) M = k30 (nI g) (nI (p + 1)) M' ∧ DMx M M' g ∧ LRep M' g (p + 1) (frS kd sr p F) := by
  obtain ⟨hR, hs, hs01, hfig⟩ := hL
  have hn := hP.2.1
  have hp10 : p < 10 := by omega
  unfold MRep at hR
  rw [hF] at hR
  obtain ⟨hfa, hc⟩ := hR
  have hg5 := hc.2.1
  have hpl := hP.2.2 p hp
  have x0 : MEx M (ms_set_isFallen M 0) := MEx.isFallen
  have hc0 : mcx (ms_set_isFallen M 0) g p F.2.1 F.2.2.1 := (hc.cx hfig).ex x0
  have hsr := sStep_s (X := F.2.1) (Y := F.2.2.1) (k := kd p) (a := sr (4 * p)) (b := sr (4 * p + 1)) (c := sr (4 * p + 2)) (d := sr (4 * p + 3)) hs01.1 hs01.2
  obtain ⟨M1, e, hex, hs1, hv⟩ := mf_all (N := N) hN hc0 hpl.2.1 hpl.2.2.1 (s := F.1) (by rw [ms_g_rnd_isFallen]; exact hs) hs01.1 hs01.2 (ms_g_isFallen_isFallen M 0)
  have hfs : frS kd sr p F = (match (sStep F.2.1 F.2.2.1 F.1 (kd p) (sr (4 * p)) (sr (4 * p + 1)) (sr (4 * p + 2)) (sr (4 * p + 3))).1 with
    | none => ((sStep F.2.1 F.2.2.1 F.1 (kd p) (sr (4 * p)) (sr (4 * p + 1)) (sr (4 * p + 2)) (sr (4 * p + 3))).2, F.2.1, F.2.2.1, some p)
    | some q => ((sStep F.2.1 F.2.2.1 F.1 (kd p) (sr (4 * p)) (sr (4 * p + 1)) (sr (4 * p + 2)) (sr (4 * p + 3))).2, va_up F.2.1 p q.1, va_up F.2.2.1 p q.2, none)) := by
    unfold frS
    rw [hF]
    rfl
  rw [hfs]
  generalize (sStep F.2.1 F.2.2.1 F.1 (kd p) (sr (4 * p)) (sr (4 * p + 1)) (sr (4 * p + 2)) (sr (4 * p + 3))).2 = s' at hs1 hsr ⊢
  have hx := x0.tr hex
  have ht : ta 5 (ms_fallsAt M) (nI g) = some (-1) := by rw [ta_n hg5 (by decide), hfa]
  have hle : ¬ ms_many M ≤ nI p := by rw [hP.1]; exact nI_ge hp (by omega)
  have nx1 : some (nI p + 1) = some (nI (p + 1)) := by rw [nI_1]
  have tk0 : ta 10 (ms_kindOf (ms_set_isFallen M 0)) (nI p) = some (nI (kd p)) := by rw [ms_g_kindOf_isFallen, ta_n hp10 (by decide), hpl.1]
  have tn : ∀ j, j < 4 → ta 40 (ms_need (ms_set_isFallen M 0)) (nI (4 * p + j)) = some (nI (sr (4 * p + j))) := fun j hj => by rw [ms_g_need_isFallen, ta_n (by omega) (by decide), hpl.2.2.2 j hj]
  have e4 : (4 : Int32) * nI p = nI (4 * p) := by rw [show (4 : Int32) = nI 4 from rfl, pk_mul]
  have e10 : (10 : Int32) * nI g + nI p = nI (10 * g + p) := by rw [show (10 : Int32) = nI 10 from rfl, pk_mul, nI_add]
  have tn0 := tn 0 (by omega)
  have tn1 := tn 1 (by omega)
  have tn2 := tn 2 (by omega)
  have tn3 := tn 3 (by omega)
  have hw : ∀ (w : Int32) (M2 : MS), twi 5 (ms_fallsAt M2) (nI g) w = some (upd (ms_fallsAt M2) g w) := fun w M2 => twi_n hg5 (by decide)
  have wx : twl 50 (ms_xs M1) ((10 : Int32) * nI g + nI p) (ms_px M1) = some (vp_updL (ms_xs M1) (10 * g + p) (ms_px M1)) := by rw [e10]; exact twl_n (by omega) (by decide)
  have hxs : ms_xs M1 = ms_xs M ∧ ms_ys M1 = ms_ys M ∧ ms_figure M1 = ms_figure M := ⟨hx.fig.2.1, hx.fig.2.2, hx.fig.1⟩
  have e4a : ∀ j : Nat, j < 4 → (4 : Int32) * nI p + nI j = nI (4 * p + j) := fun j _ => by rw [e4, nI_add]
  generalize hM2 : ms_set_xs M1 (vp_updL (ms_xs M1) (10 * g + p) (ms_px M1)) = M2
  have wy : twl 50 (ms_ys M2) ((10 : Int32) * nI g + nI p) (ms_py M2) = some (vp_updL (ms_ys M2) (10 * g + p) (ms_py M2)) := by rw [e10]; exact twl_n (by omega) (by decide)
  generalize hM3 : ms_set_ys M2 (vp_updL (ms_ys M2) (10 * g + p) (ms_py M2)) = M3
  have q1 : ms_xs M3 = vp_updL (ms_xs M) (10 * g + p) (ms_px M1) := by rw [← hM3, ms_g_xs_ys, ← hM2, ms_g_xs_xs, hxs.1]
  have q2 : ms_ys M3 = vp_updL (ms_ys M) (10 * g + p) (ms_py M1) := by rw [← hM3, ms_g_ys_ys, ← hM2, ms_g_ys_xs, ms_g_py_xs, hxs.2.1]
  have q3 : ms_isFallen M3 = ms_isFallen M1 := by rw [← hM3, ms_g_isFallen_ys, ← hM2, ms_g_isFallen_xs]
  have q4 : ms_rnd M3 = ms_rnd M1 := by rw [← hM3, ms_g_rnd_ys, ← hM2, ms_g_rnd_xs]
  have q5 : ms_figure M3 = nI g := by rw [← hM3, ms_g_figure_ys, ← hM2, ms_g_figure_xs, hxs.2.2, hfig]
  have xx : DMx M M3 g := by
    rw [← hM3]
    refine DMx.tr ?_ (DMx.ys (fun j hj => pk_uLn (by omega)))
    rw [← hM2]
    exact hx.dmx.tr (DMx.xs (fun j hj => pk_uLn (by omega)))
  unfold tb_Mo_drawFigure_30 tb_Mo_drawFigure_148
  cases ho : (sStep F.2.1 F.2.2.1 F.1 (kd p) (sr (4 * p)) (sr (4 * p + 1)) (sr (4 * p + 2)) (sr (4 * p + 3))).1 with
  | none =>
    rw [ho] at hv
    have hv1 : ms_isFallen M1 = 1 := hv
    refine ⟨ms_set_fallsAt M3 (upd (ms_fallsAt M3) g (nI p)), bs rfl ((if_neg hle).trans (bs ht ((if_pos rfl).trans (bs tz_0 (bs rfl (bs tk0 (bs (by rw [e4]; exact tn0) (bs (by rw [show (1 : Int32) = nI 1 from rfl, e4a 1 (by omega)]; exact tn1) (bs (by rw [show (2 : Int32) = nI 2 from rfl, e4a 2 (by omega)]; exact tn2) (bs (by rw [show (3 : Int32) = nI 3 from rfl, e4a 3 (by omega)]; exact tn3) (bs e (bs rfl (bs wx (bs (congrArg some hM2) (bs rfl (bs wy (bs (congrArg some hM3) (bs rfl ((if_neg (by rw [q3, hv1]; decide)).trans (bs (hw _ _) (bs rfl (bs nx1 rfl)))))))))))))))))))))), xx.tr (DMx.fallsAt (fun j hj => pk_un hj)), ⟨?_, hp10, ?_⟩, ?_, hsr, ?_⟩
    · rw [ms_g_fallsAt_fallsAt, pk_us]
    · exact (hc.old q1 q2).congr (fun q _ => by rw [ms_g_xs_fallsAt]) (fun q _ => by rw [ms_g_ys_fallsAt])
    · rw [ms_g_rnd_fallsAt, q4]
      exact hs1
    · rw [ms_g_figure_fallsAt, q5]
  | some q =>
    rw [ho] at hv
    obtain ⟨hv1, hpx, hpy⟩ := hv
    have hv1 : ms_isFallen M1 = 0 := hv1.trans (ms_g_isFallen_isFallen M 0)
    have hq := sStep_in ho
    refine ⟨ms_set_fallsAt M3 (upd (ms_fallsAt M3) g (-1)), bs rfl ((if_neg hle).trans (bs ht ((if_pos rfl).trans (bs tz_0 (bs rfl (bs tk0 (bs (by rw [e4]; exact tn0) (bs (by rw [show (1 : Int32) = nI 1 from rfl, e4a 1 (by omega)]; exact tn1) (bs (by rw [show (2 : Int32) = nI 2 from rfl, e4a 2 (by omega)]; exact tn2) (bs (by rw [show (3 : Int32) = nI 3 from rfl, e4a 3 (by omega)]; exact tn3) (bs e (bs rfl (bs wx (bs (congrArg some hM2) (bs rfl (bs wy (bs (congrArg some hM3) (bs rfl ((if_pos (by rw [q3, hv1])).trans (bs (hw _ _) (bs rfl (bs nx1 rfl)))))))))))))))))))))), xx.tr (DMx.fallsAt (fun j hj => pk_un hj)), ⟨?_, ?_⟩, ?_, hsr, ?_⟩
    · rw [ms_g_fallsAt_fallsAt, pk_us]
    · exact (hc.push hp10 q1 q2 hpx hpy hq).congr (fun q _ => by rw [ms_g_xs_fallsAt]) (fun q _ => by rw [ms_g_ys_fallsAt])
    · rw [ms_g_rnd_fallsAt, q4]
      exact hs1
    · rw [ms_g_figure_fallsAt, q5]
theorem m_loop {N : Nat} {g n : Nat} {kd sr : Nat → Nat} (hN : 25 ≤ N) : ∀ (m p fuel : Nat) (M : MS) (F : FS), p + m = n → m < fuel → MPR M n kd sr → LRep M g p F → g < 5 →
    ∃ M', tl_Mo_drawFigure_30 N fuel (nI g) (nI p) M = some M' ∧ DMx M M' g ∧ MRep M' g n (frI kd sr p m F) := by
  intro m
  induction m with
  | zero =>
    intro p fuel M F hpm hfu hP hL hg
    obtain ⟨f, rfl⟩ : ∃ f, fuel = f + 1 := ⟨fuel - 1, by omega⟩
    have hpn : p = n := by omega
    subst hpn
    refine ⟨M, ?_, DMx.rf, hL.1⟩
    show tb_Mo_drawFigure_30 N (tl_Mo_drawFigure_30 N f) (nI g) (nI p) M = some M
    unfold tb_Mo_drawFigure_30
    exact bs rfl (if_pos (by rw [hP.1]; exact nI_le (Nat.le_refl p) (by have := hP.2.1; omega)))
  | succ m ih =>
    intro p fuel M F hpm hfu hP hL hg
    obtain ⟨f, rfl⟩ : ∃ f, fuel = f + 1 := ⟨fuel - 1, by omega⟩
    have hpn : p < n := by omega
    have hn10 := hP.2.1
    cases hF : F.2.2.2 with
    | some q =>
      refine ⟨M, ?_, DMx.rf, ?_⟩
      · have hR := hL.1
        unfold MRep at hR
        rw [hF] at hR
        have hle : ¬ ms_many M ≤ nI p := by rw [hP.1]; exact nI_ge hpn (by omega)
        show tb_Mo_drawFigure_30 N (tl_Mo_drawFigure_30 N f) (nI g) (nI p) M = some M
        unfold tb_Mo_drawFigure_30
        exact bs rfl ((if_neg hle).trans (bs (ta_n hg (by decide)) (if_neg (by rw [hR.1]; exact nI_m1 hR.2.1))))
      · rw [frI_fallen hF]
        exact hL.1.any hF
    | none =>
      obtain ⟨M1, e1, x1, L1⟩ := m_round (N := N) (k30 := tl_Mo_drawFigure_30 N f) hN hP hpn hL hF
      obtain ⟨M2, e2, x2, R2⟩ := ih (p + 1) f M1 _ (by omega) (by omega) (hP.dx x1) L1 hg
      exact ⟨M2, e1.trans e2, x1.tr x2, R2⟩
theorem m_figure {N : Nat} {M : MS} {g n s : Nat} {kd sr : Nat → Nat} (hN : 25 ≤ N) (hP : MPR M n kd sr) (hs : ms_seed M = nI s) (hs1 : s ≤ 1000000) (hg : g < 5) :
    ∃ M', t_Mo_drawFigure N (nI g) M = some M' ∧ DMx M M' g ∧ MRep M' g n (frun kd sr ((s + 1000 * g : Nat) : Int) n) := by
  have hn := hP.2.1
  generalize hM1 : ms_set_figure M (nI g) = M1
  generalize hM2 : ms_set_rnd M1 ((ms_seed M1).toInt64 + 1000 * (nI g).toInt64) = M2
  generalize hM3 : ms_set_fallsAt M2 (upd (ms_fallsAt M2) g (-1)) = M3
  have x3 : DMx M M3 g := by
    rw [← hM3]
    refine DMx.tr ?_ (DMx.fallsAt (fun j hj => pk_un hj))
    rw [← hM2]
    refine DMx.tr ?_ DMx.rnd
    rw [← hM1]
    exact DMx.figure
  have hseed : ms_seed M1 = nI s := by rw [← hM1, ms_g_seed_figure, hs]
  have hr : (ms_rnd M3).toInt = ((s + 1000 * g : Nat) : Int) := by
    rw [← hM3, ms_g_rnd_fallsAt, ← hM2, ms_g_rnd_rnd, hseed]
    have a1 : rg (nI s).toInt64 (s : Int) 1000000 := (show ri (nI s) (s : Int) 1000000 from ⟨nI_toInt (by omega), by omega⟩).l
    have a2 : rg (nI g).toInt64 (g : Int) 5 := (show ri (nI g) (g : Int) 5 from ⟨nI_toInt (by omega), by omega⟩).l
    have a3 : rg (1000 : Int64) (1000 : Int) 1000 := ⟨by decide, by omega⟩
    have a4 := a1.add (a3.mul a2 (by decide)) (by decide)
    rw [a4.1]
    omega
  have L0 : LRep M3 g 0 (frun kd sr ((s + 1000 * g : Nat) : Int) 0) := by
    refine ⟨⟨?_, ?_⟩, ?_, ?_, ?_⟩
    · rw [← hM3, ms_g_fallsAt_fallsAt, pk_us]
    · exact ⟨by omega, hg, fun p hp => absurd hp (Nat.not_lt_zero p)⟩
    · exact hr
    · show (0 : Int) ≤ ((s + 1000 * g : Nat) : Int) ∧ ((s + 1000 * g : Nat) : Int) < 2147483647
      omega
    · rw [← hM3, ms_g_figure_fallsAt, ← hM2, ms_g_figure_rnd, ← hM1, ms_g_figure_figure]
  obtain ⟨M4, e4, x4, R4⟩ := m_loop (N := N) hN n 0 N M3 _ (by omega) (by omega) (hP.dx x3) L0 hg
  rw [frI_run, Nat.zero_add] at R4
  refine ⟨M4, ?_, x3.tr x4, R4⟩
  unfold t_Mo_drawFigure
  exact bs (congrArg some hM1) (bs rfl (bs (congrArg some hM2) (bs (twi_n hg (by decide)) (bs (congrArg some hM3) e4))))
/-! what a drawing of all figures leaves -/
def AMx (M M' : MS) : Prop := ms_many M' = ms_many M ∧ ms_kindOf M' = ms_kindOf M ∧ ms_need M' = ms_need M ∧ ms_seed M' = ms_seed M ∧ ms_figs M' = ms_figs M ∧ ms_row M' = ms_row M ∧ ms_foundM M' = ms_foundM M ∧ ms_foundN M' = ms_foundN M ∧ ms_same M' = ms_same M ∧ ms_seen M' = ms_seen M ∧ ms_wanted M' = ms_wanted M ∧ ms_found M' = ms_found M ∧ ms_isFound M' = ms_isFound M ∧ ms_isSet M' = ms_isSet M
theorem AMx.rf {M : MS} : AMx M M := ⟨rfl, rfl, rfl, rfl, rfl, rfl, rfl, rfl, rfl, rfl, rfl, rfl, rfl, rfl⟩
theorem AMx.tr {M M1 M2 : MS} (h1 : AMx M M1) (h2 : AMx M1 M2) : AMx M M2 := by
  obtain ⟨p0, p1, p2, p3, p4, p5, p6, p7, p8, p9, p10, p11, p12, p13⟩ := h1
  obtain ⟨q0, q1, q2, q3, q4, q5, q6, q7, q8, q9, q10, q11, q12, q13⟩ := h2
  exact ⟨q0.trans p0, q1.trans p1, q2.trans p2, q3.trans p3, q4.trans p4, q5.trans p5, q6.trans p6, q7.trans p7, q8.trans p8, q9.trans p9, q10.trans p10, q11.trans p11, q12.trans p12, q13.trans p13⟩
theorem DMx.amx {M M' : MS} {g : Nat} (h : DMx M M' g) : AMx M M' := by
  obtain ⟨p0, p1, p2, p3, p4, p5, p6, p7, p8, p9, p10, p11, p12, p13, f0, f1, f2⟩ := h
  exact ⟨p0, p1, p2, p3, p4, p5, p6, p7, p8, p9, p10, p11, p12, p13⟩
theorem ma_loop {N : Nat} {n s f : Nat} {kd sr : Nat → Nat} (hN : 25 ≤ N) (hs1 : s ≤ 1000000) (hf : f ≤ 5) : ∀ (m g fuel : Nat) (M : MS), g + m = f → m < fuel → MPR M n kd sr → ms_seed M = nI s → ms_figs M = nI f → (∀ h, h < g → MRep M h n (frun kd sr ((s + 1000 * h : Nat) : Int) n)) →
    ∃ M', tl_Mo_drawAll_2 N fuel (nI g) M = some M' ∧ AMx M M' ∧ (∀ h, h < f → MRep M' h n (frun kd sr ((s + 1000 * h : Nat) : Int) n)) := by
  intro m
  induction m with
  | zero =>
    intro g fuel M hgm hfu hP hs hfi hR
    obtain ⟨fu, rfl⟩ : ∃ f, fuel = f + 1 := ⟨fuel - 1, by omega⟩
    have hg : g = f := by omega
    subst hg
    refine ⟨M, ?_, AMx.rf, hR⟩
    show tb_Mo_drawAll_2 N (tl_Mo_drawAll_2 N fu) (nI g) M = some M
    unfold tb_Mo_drawAll_2
    exact bs rfl (if_pos (by rw [hfi]; exact nI_le (Nat.le_refl g) (by omega)))
  | succ m ih =>
    intro g fuel M hgm hfu hP hs hfi hR
    obtain ⟨fu, rfl⟩ : ∃ f, fuel = f + 1 := ⟨fuel - 1, by omega⟩
    have hg : g < f := by omega
    obtain ⟨M1, e1, x1, R1⟩ := m_figure (N := N) hN hP hs hs1 (show g < 5 by omega)
    have hpl := x1.plan
    obtain ⟨M2, e2, x2, R2⟩ := ih (g + 1) fu M1 (by omega) (by omega) (hP.dx x1) (by rw [hpl.2.2.2.1, hs]) (by rw [hpl.2.2.2.2, hfi]) (fun h hh => by
      by_cases hhg : h = g
      · subst hhg
        exact R1
      · exact (hR h (by omega)).dmx x1 hhg)
    refine ⟨M2, ?_, x1.amx.tr x2, R2⟩
    show tb_Mo_drawAll_2 N (tl_Mo_drawAll_2 N fu) (nI g) M = some M2
    unfold tb_Mo_drawAll_2
    exact bs rfl ((if_neg (by rw [hfi]; exact nI_ge hg (by omega))).trans (bs e1 (bs (by rw [nI_1]) e2)))
theorem m_drawAll {N : Nat} {M : MS} {n s f : Nat} {kd sr : Nat → Nat} (hN : 25 ≤ N) (hP : MPR M n kd sr) (hs : ms_seed M = nI s) (hs1 : s ≤ 1000000) (hfi : ms_figs M = nI f) (hf : f ≤ 5) :
    ∃ M', t_Mo_drawAll N M = some M' ∧ AMx M M' ∧ (∀ h, h < f → MRep M' h n (frun kd sr ((s + 1000 * h : Nat) : Int) n)) := ma_loop hN hs1 hf f 0 N M (by omega) (by omega) hP hs hfi (fun h hh => absurd hh (Nat.not_lt_zero h))
theorem MRep.none_iff {M : MS} {g p : Nat} {F : FS} (h : MRep M g p F) : ms_fallsAt M g = -1 ↔ F.2.2.2.isNone = true := by
  unfold MRep at h
  cases hF : F.2.2.2 with
  | none =>
    rw [hF] at h
    exact ⟨fun _ => rfl, fun _ => h.1⟩
  | some q =>
    rw [hF] at h
    exact ⟨fun e => absurd (h.1.symm.trans e) (nI_m1 h.2.1), fun e => by cases e⟩
theorem ms_loop {N : Nat} {f : Nat} {b : Nat → Bool} {M : MS} (hf : f ≤ 5) (hfi : ms_figs M = nI f) (hb : ∀ h, h < f → (ms_fallsAt M h = -1 ↔ b h = true)) : ∀ (m g fuel : Nat), g + m = f → m < fuel → tl_Mo_standing_4 N fuel (nI (stn b g)) (nI g) M = some (nI (stn b f)) := by
  intro m
  induction m with
  | zero =>
    intro g fuel hgm hfu
    obtain ⟨fu, rfl⟩ : ∃ f, fuel = f + 1 := ⟨fuel - 1, by omega⟩
    have hg : g = f := by omega
    subst hg
    show tb_Mo_standing_4 N (tl_Mo_standing_4 N fu) (nI (stn b g)) (nI g) M = _
    unfold tb_Mo_standing_4
    exact bs rfl (if_pos (by rw [hfi]; exact nI_le (Nat.le_refl g) (by omega)))
  | succ m ih =>
    intro g fuel hgm hfu
    obtain ⟨fu, rfl⟩ : ∃ f, fuel = f + 1 := ⟨fuel - 1, by omega⟩
    have hg : g < f := by omega
    have i1 := ih (g + 1) fu (by omega) (by omega)
    have ht : ta 5 (ms_fallsAt M) (nI g) = some (ms_fallsAt M g) := ta_n (by omega) (by decide)
    have hle : ¬ ms_figs M ≤ nI g := by rw [hfi]; exact nI_ge hg (by omega)
    have nx1 : some (nI g + 1) = some (nI (g + 1)) := by rw [nI_1]
    have hst : stn b (g + 1) = if b g = true then stn b g + 1 else stn b g := rfl
    show tb_Mo_standing_4 N (tl_Mo_standing_4 N fu) (nI (stn b g)) (nI g) M = _
    unfold tb_Mo_standing_4
    refine bs rfl ((if_neg hle).trans (bs ht ?_))
    by_cases hbg : b g = true
    · rw [if_pos ((hb g hg).mpr hbg), nI_1]
      rw [hst, if_pos hbg] at i1
      exact bs nx1 i1
    · rw [if_neg (fun z => hbg ((hb g hg).mp z))]
      rw [hst, if_neg hbg] at i1
      exact bs nx1 i1
theorem m_standing {N : Nat} {f : Nat} {b : Nat → Bool} {M : MS} (hN : 25 ≤ N) (hf : f ≤ 5) (hfi : ms_figs M = nI f) (hb : ∀ h, h < f → (ms_fallsAt M h = -1 ↔ b h = true)) : t_Mo_standing N M = some (nI (stn b f)) := ms_loop hf hfi hb f 0 N (by omega) (by omega)
