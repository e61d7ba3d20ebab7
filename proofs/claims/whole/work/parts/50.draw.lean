/-! what a drawing of its own leaves as it was -/
def DEx (S S' : CS) (i : Nat) : Prop := cs_seed S' = cs_seed S ∧ cs_figs S' = cs_figs S ∧ cs_psize S' = cs_psize S ∧ cs_kinds S' = cs_kinds S ∧ cs_srcs S' = cs_srcs S ∧ cs_pts S' = cs_pts S ∧ cs_known S' = cs_known S ∧ cs_leads S' = cs_leads S ∧ cs_areas S' = cs_areas S ∧ cs_divr S' = cs_divr S ∧ cs_invs S' = cs_invs S ∧ cs_items S' = cs_items S ∧ cs_lsize S' = cs_lsize S ∧ (∀ j, j ≠ i → cs_stand S' j = cs_stand S j) ∧ (∀ j, j ≠ i → cs_dsize S' j = cs_dsize S j) ∧ (∀ j, j / 5 ≠ i → cs_fx S' j = cs_fx S j) ∧ (∀ j, j / 5 ≠ i → cs_fy S' j = cs_fy S j) ∧ (∀ j, j / 5 ≠ i → cs_made S' j = cs_made S j) ∧ (∀ j, j / 5 ≠ i → cs_fallen S' j = cs_fallen S j) ∧ (∀ j, j / 5 ≠ i → cs_rnd S' j = cs_rnd S j)
theorem DEx.rf {S : CS} {i : Nat} : DEx S S i := ⟨rfl, rfl, rfl, rfl, rfl, rfl, rfl, rfl, rfl, rfl, rfl, rfl, rfl, fun _ _ => rfl, fun _ _ => rfl, fun _ _ => rfl, fun _ _ => rfl, fun _ _ => rfl, fun _ _ => rfl, fun _ _ => rfl⟩
theorem DEx.tr {S S1 S2 : CS} {i : Nat} (h1 : DEx S S1 i) (h2 : DEx S1 S2 i) : DEx S S2 i := by
  obtain ⟨p0, p1, p2, p3, p4, p5, p6, p7, p8, p9, p10, p11, p12, f0, f1, f2, f3, f4, f5, f6⟩ := h1
  obtain ⟨q0, q1, q2, q3, q4, q5, q6, q7, q8, q9, q10, q11, q12, g0, g1, g2, g3, g4, g5, g6⟩ := h2
  exact ⟨q0.trans p0, q1.trans p1, q2.trans p2, q3.trans p3, q4.trans p4, q5.trans p5, q6.trans p6, q7.trans p7, q8.trans p8, q9.trans p9, q10.trans p10, q11.trans p11, q12.trans p12, fun j hj => (g0 j hj).trans (f0 j hj), fun j hj => (g1 j hj).trans (f1 j hj), fun j hj => (g2 j hj).trans (f2 j hj), fun j hj => (g3 j hj).trans (f3 j hj), fun j hj => (g4 j hj).trans (f4 j hj), fun j hj => (g5 j hj).trans (f5 j hj), fun j hj => (g6 j hj).trans (f6 j hj)⟩
theorem CEx.dex {S S' : CS} {g i : Nat} (h : CEx S S' g) (hg : g / 5 = i) : DEx S S' i := by
  obtain ⟨p_seed, p_figs, p_psize, p_kinds, p_srcs, p_pts, p_known, p_leads, p_areas, p_stand, p_dsize, p_divr, p_invs, p_items, p_lsize, f_fx, f_fy, f_made, f_fallen, f_rnd⟩ := h
  exact ⟨p_seed, p_figs, p_psize, p_kinds, p_srcs, p_pts, p_known, p_leads, p_areas, p_divr, p_invs, p_items, p_lsize, fun j _ => congrFun p_stand j, fun j _ => congrFun p_dsize j, fun j hj => f_fx j (fun e => hj (e ▸ hg)), fun j hj => f_fy j (fun e => hj (e ▸ hg)), fun j hj => f_made j (fun e => hj (e ▸ hg)), fun j hj => f_fallen j (fun e => hj (e ▸ hg)), fun j hj => f_rnd j (fun e => hj (e ▸ hg))⟩
theorem DEx.stand {S : CS} {i : Nat} {v : Nat → Int32} (hv : ∀ j, j ≠ i → v j = cs_stand S j) : DEx S (cs_set_stand S v) i := ⟨cs_g_seed_stand S v, cs_g_figs_stand S v, cs_g_psize_stand S v, cs_g_kinds_stand S v, cs_g_srcs_stand S v, cs_g_pts_stand S v, cs_g_known_stand S v, cs_g_leads_stand S v, cs_g_areas_stand S v, cs_g_divr_stand S v, cs_g_invs_stand S v, cs_g_items_stand S v, cs_g_lsize_stand S v, fun j hj => (congrFun (cs_g_stand_stand S v) j).trans (hv j hj), fun j _ => congrFun (cs_g_dsize_stand S v) j, fun j _ => congrFun (cs_g_fx_stand S v) j, fun j _ => congrFun (cs_g_fy_stand S v) j, fun j _ => congrFun (cs_g_made_stand S v) j, fun j _ => congrFun (cs_g_fallen_stand S v) j, fun j _ => congrFun (cs_g_rnd_stand S v) j⟩
theorem DEx.dsize {S : CS} {i : Nat} {v : Nat → Int32} (hv : ∀ j, j ≠ i → v j = cs_dsize S j) : DEx S (cs_set_dsize S v) i := ⟨cs_g_seed_dsize S v, cs_g_figs_dsize S v, cs_g_psize_dsize S v, cs_g_kinds_dsize S v, cs_g_srcs_dsize S v, cs_g_pts_dsize S v, cs_g_known_dsize S v, cs_g_leads_dsize S v, cs_g_areas_dsize S v, cs_g_divr_dsize S v, cs_g_invs_dsize S v, cs_g_items_dsize S v, cs_g_lsize_dsize S v, fun j _ => congrFun (cs_g_stand_dsize S v) j, fun j hj => (congrFun (cs_g_dsize_dsize S v) j).trans (hv j hj), fun j _ => congrFun (cs_g_fx_dsize S v) j, fun j _ => congrFun (cs_g_fy_dsize S v) j, fun j _ => congrFun (cs_g_made_dsize S v) j, fun j _ => congrFun (cs_g_fallen_dsize S v) j, fun j _ => congrFun (cs_g_rnd_dsize S v) j⟩
theorem DEx.plan {S S' : CS} {i : Nat} (h : DEx S S' i) : cs_psize S' = cs_psize S ∧ cs_kinds S' = cs_kinds S ∧ cs_srcs S' = cs_srcs S := ⟨h.2.2.1, h.2.2.2.1, h.2.2.2.2.1⟩
theorem PR.dx {S S' : CS} {i n : Nat} {kd sr : Nat → Nat} (h : PR S n kd sr) (he : DEx S S' i) : PR S' n kd sr := by
  obtain ⟨e1, e2, e3⟩ := he.plan
  unfold PR at h ⊢
  rw [e1, e2, e3]
  exact h
/-- a figure is as it was -/
theorem FRep.same {S S' : CS} {j p : Nat} {F : FS} (h : FRep S j p F) (e1 : cs_fx S' j = cs_fx S j) (e2 : cs_fy S' j = cs_fy S j) (e3 : cs_made S' j = cs_made S j) (e4 : cs_fallen S' j = cs_fallen S j) (e5 : cs_rnd S' j = cs_rnd S j) : FRep S' j p F := by
  unfold FRep fcx at h ⊢
  rw [e1, e2, e3, e4, e5]
  exact h
theorem CEx.frep {S S' : CS} {g j p : Nat} {F : FS} (h : FRep S j p F) (he : CEx S S' g) (hj : j ≠ g) : FRep S' j p F := by
  obtain ⟨p0, p1, p2, p3, p4, p5, p6, p7, p8, p9, p10, p11, p12, p13, p14, f0, f1, f2, f3, f4⟩ := he
  exact h.same (f0 j hj) (f1 j hj) (f2 j hj) (f3 j hj) (f4 j hj)
theorem CEx.dsize {S S' : CS} {g : Nat} (he : CEx S S' g) : cs_dsize S' = cs_dsize S ∧ cs_stand S' = cs_stand S := by
  obtain ⟨p0, p1, p2, p3, p4, p5, p6, p7, p8, p9, p10, p11, p12, p13, p14, f0, f1, f2, f3, f4⟩ := he
  exact ⟨p10, p9⟩
theorem DEx.frep {S S' : CS} {i j p : Nat} {F : FS} (h : FRep S j p F) (he : DEx S S' i) (hj : j / 5 ≠ i) : FRep S' j p F := by
  obtain ⟨p0, p1, p2, p3, p4, p5, p6, p7, p8, p9, p10, p11, p12, d0, d1, f0, f1, f2, f3, f4⟩ := he
  exact h.same (f0 j hj) (f1 j hj) (f2 j hj) (f3 j hj) (f4 j hj)
theorem frun_lt {kd sr : Nat → Nat} {s0 : Int} : ∀ (p q : Nat), (frun kd sr s0 p).2.2.2 = some q → q < p := by
  intro p
  induction p with
  | zero => intro q h; cases h
  | succ p ih =>
    intro q h
    have h : (frS kd sr p (frun kd sr s0 p)).2.2.2 = some q := h
    unfold frS at h
    cases hF : (frun kd sr s0 p).2.2.2 with
    | some w =>
      rw [hF] at h
      dsimp only at h
      have := ih q h
      omega
    | none =>
      rw [hF] at h
      dsimp only at h
      cases hs : (sStep (frun kd sr s0 p).2.1 (frun kd sr s0 p).2.2.1 (frun kd sr s0 p).1 (kd p) (sr (4 * p)) (sr (4 * p + 1)) (sr (4 * p + 2)) (sr (4 * p + 3))).1 with
      | none =>
        rw [hs] at h
        have h2 : some p = some q := h
        have := Option.some.inj h2
        omega
      | some w =>
        rw [hs] at h
        have h2 : (none : Option Nat) = some q := h
        cases h2
theorem frI_run {kd sr : Nat → Nat} {s0 : Int} : ∀ (m p : Nat), frI kd sr p m (frun kd sr s0 p) = frun kd sr s0 (p + m) := by
  intro m
  induction m with
  | zero => intro p; rfl
  | succ m ih =>
    intro p
    have := ih (p + 1)
    rw [show p + (m + 1) = p + 1 + m from by omega]
    exact this
theorem frun_fall {kd sr : Nat → Nat} {s0 : Int} {p q : Nat} (h : (frun kd sr s0 p).2.2.2 = some q) (m : Nat) : frun kd sr s0 (p + m) = frun kd sr s0 p := by
  rw [← frI_run, frI_fallen h]
/-- the class's figure goes on -/
theorem fi_goOn {N : Nat} {S : CS} {j n p : Nat} {kd sr : Nat → Nat} {s0 : Int} {fq : Nat → Bool} {v2 : Int32} (hN : 25 ≤ N) (hfr : ∀ p, p < n → (nI p = v2 ↔ fq p = true)) (hP : PR S n kd sr) (hp : p ≤ n) (hR : FRep S j p (frun (fun j => if fq j = true then 0 else kd j) sr s0 p)) :
    ∃ S', t_Fi_goOn N j (some 0) v2 S = some S' ∧ CEx S S' j ∧ FRep S' j n (frun (fun j => if fq j = true then 0 else kd j) sr s0 n) := by
  have hn := hP.2.1
  unfold t_Fi_goOn
  cases hF : (frun (fun j => if fq j = true then 0 else kd j) sr s0 p).2.2.2 with
  | none =>
    have hR2 := hR
    unfold FRep at hR2
    rw [hF] at hR2
    obtain ⟨S', e, x, R⟩ := g_loop (N := N) (i := j) (v2 := v2) hN hfr (n - p) p N S _ (by omega) (by omega) hP hR
    rw [frI_run, show p + (n - p) = n from by omega] at R
    refine ⟨S', ?_, x, R⟩
    rw [hR2.2.2.1, Option.bind_some]
    exact e
  | some q =>
    have hq := frun_lt p q hF
    have hR2 := hR
    unfold FRep at hR2
    rw [hF] at hR2
    obtain ⟨S', e, x, R⟩ := g_loop (N := N) (i := j) (v2 := v2) hN hfr (n - q) q N S _ (by omega) (by omega) hP (hR.any (n := q) hF)
    rw [frI_fallen hF] at R
    refine ⟨S', ?_, x, ?_⟩
    · rw [hR2.2.2.1, Option.bind_some]
      exact e
    · have := frun_fall hF (n - p)
      rw [show p + (n - p) = n from by omega] at this
      rw [this]
      exact R
/-- how many of the first are so -/
def stn (b : Nat → Bool) : Nat → Nat
  | 0 => 0
  | g + 1 => if b g = true then stn b g + 1 else stn b g
theorem stn_le (b : Nat → Bool) : ∀ f, stn b f ≤ f := by
  intro f
  induction f with
  | zero => exact Nat.le_refl 0
  | succ f ih =>
    show (if b f = true then stn b f + 1 else stn b f) ≤ f + 1
    split <;> omega
theorem FRep.none_iff {S : CS} {j p : Nat} {F : FS} (h : FRep S j p F) : cs_fallen S j = -1 ↔ F.2.2.2.isNone = true := by
  unfold FRep at h
  cases hF : F.2.2.2 with
  | none =>
    rw [hF] at h
    exact ⟨fun _ => rfl, fun _ => h.2.2.2.1⟩
  | some q =>
    rw [hF] at h
    exact ⟨fun e => absurd (h.2.2.2.1.symm.trans e) (nI_m1 h.2.2.2.2.1), fun e => by cases e⟩
theorem d_loop {N : Nat} {i n f : Nat} {kd sr : Nat → Nat} {s : Nat} {fq : Nat → Bool} {v2 : Int32} {p : Nat} (hN : 25 ≤ N) (hfr : ∀ p, p < n → (nI p = v2 ↔ fq p = true)) (hp : p ≤ n) (hf : f ≤ 5) : ∀ (m g fuel : Nat) (S : CS), g + m = f → m < fuel → PR S n kd sr → cs_dsize S i = nI f →
    (∀ h, h < f → FRep S (5 * i + h) (if h < g then n else p) (frun (fun j => if fq j = true then 0 else kd j) sr ((s + 1000 * h : Nat) : Int) (if h < g then n else p))) →
    cs_stand S i = nI (stn (fun h => (frun (fun j => if fq j = true then 0 else kd j) sr ((s + 1000 * h : Nat) : Int) n).2.2.2.isNone) g) →
    ∃ S', tl_Dr_goOn_7 N i fuel (some 0) v2 (nI g) S = some S' ∧ DEx S S' i ∧ cs_dsize S' i = nI f ∧ (∀ h, h < f → FRep S' (5 * i + h) n (frun (fun j => if fq j = true then 0 else kd j) sr ((s + 1000 * h : Nat) : Int) n)) ∧ cs_stand S' i = nI (stn (fun h => (frun (fun j => if fq j = true then 0 else kd j) sr ((s + 1000 * h : Nat) : Int) n).2.2.2.isNone) f) := by
  intro m
  induction m with
  | zero =>
    intro g fuel S hgm hfu hP hd hR hs
    obtain ⟨fu, rfl⟩ : ∃ f, fuel = f + 1 := ⟨fuel - 1, by omega⟩
    have hg : g = f := by omega
    subst hg
    refine ⟨S, ?_, DEx.rf, hd, ?_, hs⟩
    · show tb_Dr_goOn_7 N (tl_Dr_goOn_7 N i fu) i (some 0) v2 (nI g) S = some S
      unfold tb_Dr_goOn_7
      exact bs rfl (if_pos (by rw [hd]; exact nI_le (Nat.le_refl g) (by omega)))
    · intro h hh
      have := hR h hh
      rw [if_pos hh] at this
      exact this
  | succ m ih =>
    intro g fuel S hgm hfu hP hd hR hs
    obtain ⟨fu, rfl⟩ : ∃ f, fuel = f + 1 := ⟨fuel - 1, by omega⟩
    have hg : g < f := by omega
    have hRg := hR g hg
    rw [if_neg (Nat.lt_irrefl g)] at hRg
    obtain ⟨S1, e1, x1, R1⟩ := fi_goOn (N := N) (v2 := v2) hN hfr hP hp hRg
    have hgi : (5 * i + g) / 5 = i := by omega
    have hx : ta 5 (fun z => 5 * i + z) (nI g) = some (5 * i + g) := ta_n (by omega) (by decide)
    have hle : ¬ cs_dsize S i ≤ nI g := by rw [hd]; exact nI_ge hg (by omega)
    have nx1 : some (nI g + 1) = some (nI (g + 1)) := by rw [nI_1]
    have hR1 : ∀ h, h < f → FRep S1 (5 * i + h) (if h < g + 1 then n else p) (frun (fun j => if fq j = true then 0 else kd j) sr ((s + 1000 * h : Nat) : Int) (if h < g + 1 then n else p)) := by
      intro h hh
      by_cases hhg : h = g
      · subst hhg
        rw [if_pos (Nat.lt_succ_self h)]
        exact R1
      · have := CEx.frep (hR h hh) x1 (by omega)
        by_cases h3 : h < g
        · rw [if_pos (by omega)]
          rw [if_pos h3] at this
          exact this
        · rw [if_neg (by omega)]
          rw [if_neg h3] at this
          exact this
    have hst := R1.none_iff
    show ∃ S', tb_Dr_goOn_7 N (tl_Dr_goOn_7 N i fu) i (some 0) v2 (nI g) S = some S' ∧ _
    unfold tb_Dr_goOn_7
    by_cases hfa : cs_fallen S1 (5 * i + g) = -1
    · have hb := hst.mp hfa
      obtain ⟨S2, e2, x2, d2, R2, s2⟩ := ih (g + 1) fu (cs_set_stand S1 (va_up (cs_stand S1) i (cs_stand S1 i + 1))) (by omega) (by omega) ((hP.ex x1).dx (DEx.stand (fun j hj => va_up_ne _ _ hj))) (by rw [cs_g_dsize_stand, x1.dsize.1, hd]) (fun h hh => (hR1 h hh).same (congrFun (cs_g_fx_stand _ _) _) (congrFun (cs_g_fy_stand _ _) _) (congrFun (cs_g_made_stand _ _) _) (congrFun (cs_g_fallen_stand _ _) _) (congrFun (cs_g_rnd_stand _ _) _)) (by
        rw [cs_g_stand_stand, va_up_self, x1.dsize.2, hs, nI_1]
        show _ = nI (if _ then _ else _)
        rw [if_pos hb])
      refine ⟨S2, bs rfl ((if_neg hle).trans (bs hx (bs e1 (bs hx (bs rfl ((if_pos hfa).trans (bs rfl (bs rfl (bs nx1 e2))))))))), ((x1.dex hgi).tr (DEx.stand (fun j hj => va_up_ne _ _ hj))).tr x2, d2, R2, s2⟩
    · obtain ⟨S2, e2, x2, d2, R2, s2⟩ := ih (g + 1) fu S1 (by omega) (by omega) (hP.ex x1) (by rw [x1.dsize.1, hd]) hR1 (by
        rw [x1.dsize.2, hs]
        show _ = nI (if _ then _ else _)
        rw [if_neg (fun z => hfa (hst.mpr z))])
      exact ⟨S2, bs rfl ((if_neg hle).trans (bs hx (bs e1 (bs hx (bs rfl ((if_neg hfa).trans (bs nx1 e2))))))), (x1.dex hgi).tr x2, d2, R2, s2⟩
theorem d_goOn {N : Nat} {i n f : Nat} {kd sr : Nat → Nat} {s : Nat} {fq : Nat → Bool} {v2 : Int32} {p : Nat} {S : CS} (hN : 25 ≤ N) (hfr : ∀ p, p < n → (nI p = v2 ↔ fq p = true)) (hp : p ≤ n) (hf : f ≤ 5) (hP : PR S n kd sr) (hd : cs_dsize S i = nI f) (hR : ∀ h, h < f → FRep S (5 * i + h) p (frun (fun j => if fq j = true then 0 else kd j) sr ((s + 1000 * h : Nat) : Int) p)) :
    ∃ S', t_Dr_goOn N i (some 0) v2 S = some S' ∧ DEx S S' i ∧ cs_dsize S' i = nI f ∧ (∀ h, h < f → FRep S' (5 * i + h) n (frun (fun j => if fq j = true then 0 else kd j) sr ((s + 1000 * h : Nat) : Int) n)) ∧ cs_stand S' i = nI (stn (fun h => (frun (fun j => if fq j = true then 0 else kd j) sr ((s + 1000 * h : Nat) : Int) n).2.2.2.isNone) f) := by
  unfold t_Dr_goOn
  obtain ⟨S2, e2, x2, d2, R2, s2⟩ := d_loop (N := N) (i := i) (v2 := v2) (s := s) hN hfr hp hf f 0 N (cs_set_stand S (va_up (cs_stand S) i 0)) (by omega) (by omega) (hP.dx (DEx.stand (fun j hj => va_up_ne _ _ hj))) (by rw [cs_g_dsize_stand, hd]) (fun h hh => by
      rw [if_neg (Nat.not_lt_zero h)]
      exact (hR h hh).same (congrFun (cs_g_fx_stand _ _) _) (congrFun (cs_g_fy_stand _ _) _) (congrFun (cs_g_made_stand _ _) _) (congrFun (cs_g_fallen_stand _ _) _) (congrFun (cs_g_rnd_stand _ _) _)) (by rw [cs_g_stand_stand, va_up_self]; rfl)
  exact ⟨S2, bs rfl e2, (DEx.stand (fun j hj => va_up_ne _ _ hj)).tr x2, d2, R2, s2⟩
theorem fi_begin {N : Nat} {S : CS} {j : Nat} {kd sr : Nat → Nat} {s : Nat} (hs : s < 2147483647) : ∃ S', t_Fi_begin N j (nI s) S = some S' ∧ CEx S S' j ∧ FRep S' j 0 (frun kd sr ((s : Nat) : Int) 0) := by
  unfold t_Fi_begin
  refine ⟨_, bs rfl (bs rfl (bs rfl rfl)), ((CEx.rnd (fun j hj => va_up_ne _ _ hj)).tr (CEx.made (fun j hj => va_up_ne _ _ hj))).tr (CEx.fallen (fun j hj => va_up_ne _ _ hj)), ?_, ?_, ?_, ?_, ?_⟩
  · rw [cs_g_rnd_fallen, cs_g_rnd_made, cs_g_rnd_rnd, va_up_self, Int32.toInt_toInt64, nI_toInt (by omega)]
    rfl
  · show (0 : Int) ≤ (s : Int) ∧ (s : Int) < 2147483647
    omega
  · rw [cs_g_made_fallen, cs_g_made_made, va_up_self]
    rfl
  · rw [cs_g_fallen_fallen, va_up_self]
  · exact ⟨by omega, fun q hq => absurd hq (Nat.not_lt_zero q)⟩
theorem b_loop {N : Nat} {i f : Nat} {kd sr : Nat → Nat} {s : Nat} (hs : s ≤ 1000000) (hf : f ≤ 5) : ∀ (m g fuel : Nat) (S : CS), g + m = f → m < fuel → cs_dsize S i = nI f →
    (∀ h, h < g → FRep S (5 * i + h) 0 (frun kd sr ((s + 1000 * h : Nat) : Int) 0)) →
    ∃ S', tl_Dr_begin_7 N i fuel (nI s) (nI g) S = some S' ∧ DEx S S' i ∧ cs_dsize S' i = nI f ∧ (∀ h, h < f → FRep S' (5 * i + h) 0 (frun kd sr ((s + 1000 * h : Nat) : Int) 0)) := by
  intro m
  induction m with
  | zero =>
    intro g fuel S hgm hfu hd hR
    obtain ⟨fu, rfl⟩ : ∃ f, fuel = f + 1 := ⟨fuel - 1, by omega⟩
    have hg : g = f := by omega
    subst hg
    refine ⟨S, ?_, DEx.rf, hd, hR⟩
    show tb_Dr_begin_7 N (tl_Dr_begin_7 N i fu) i (nI s) (nI g) S = some S
    unfold tb_Dr_begin_7
    exact bs rfl (if_pos (by rw [hd]; exact nI_le (Nat.le_refl g) (by omega)))
  | succ m ih =>
    intro g fuel S hgm hfu hd hR
    obtain ⟨fu, rfl⟩ : ∃ f, fuel = f + 1 := ⟨fuel - 1, by omega⟩
    have hg : g < f := by omega
    have hx : ta 5 (fun z => 5 * i + z) (nI g) = some (5 * i + g) := ta_n (by omega) (by decide)
    have hle : ¬ cs_dsize S i ≤ nI g := by rw [hd]; exact nI_ge hg (by omega)
    have nx1 : some (nI g + 1) = some (nI (g + 1)) := by rw [nI_1]
    have hst : nI s + 1000 * nI g = nI (s + 1000 * g) := by rw [show (1000 : Int32) = nI 1000 from rfl, pk_mul, nI_add]
    obtain ⟨S1, e1, x1, R1⟩ := fi_begin (N := N) (S := S) (j := 5 * i + g) (kd := kd) (sr := sr) (s := s + 1000 * g) (by omega)
    obtain ⟨S2, e2, x2, d2, R2⟩ := ih (g + 1) fu S1 (by omega) (by omega) (by rw [x1.dsize.1, hd]) (fun h hh => by
      by_cases hhg : h = g
      · subst hhg
        exact R1
      · exact CEx.frep (hR h (by omega)) x1 (by omega))
    refine ⟨S2, ?_, (x1.dex (by omega)).tr x2, d2, R2⟩
    show tb_Dr_begin_7 N (tl_Dr_begin_7 N i fu) i (nI s) (nI g) S = some S2
    unfold tb_Dr_begin_7
    rw [hst]
    exact bs rfl ((if_neg hle).trans (bs hx (bs e1 (bs nx1 e2))))
theorem d_begin {N : Nat} {i f : Nat} {kd sr : Nat → Nat} {s : Nat} {S : CS} (hN : 25 ≤ N) (hs : s ≤ 1000000) (hf : f ≤ 5) :
    ∃ S', t_Dr_begin N i (nI s) (nI f) S = some S' ∧ DEx S S' i ∧ cs_dsize S' i = nI f ∧ (∀ h, h < f → FRep S' (5 * i + h) 0 (frun kd sr ((s + 1000 * h : Nat) : Int) 0)) := by
  unfold t_Dr_begin
  obtain ⟨S2, e2, x2, d2, R2⟩ := b_loop (N := N) (i := i) (f := f) (kd := kd) (sr := sr) (s := s) hs hf f 0 N (cs_set_dsize S (va_up (cs_dsize S) i (nI f))) (by omega) (by omega) (by rw [cs_g_dsize_dsize, va_up_self]) (fun h hh => absurd hh (Nat.not_lt_zero h))
  exact ⟨S2, bs rfl e2, (DEx.dsize (fun j hj => va_up_ne _ _ hj)).tr x2, d2, R2⟩
