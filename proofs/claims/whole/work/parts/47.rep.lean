/-! what a step of figure i leaves as it was -/
def CEx (S S' : CS) (i : Nat) : Prop := cs_seed S' = cs_seed S ∧ cs_figs S' = cs_figs S ∧ cs_psize S' = cs_psize S ∧ cs_kinds S' = cs_kinds S ∧ cs_srcs S' = cs_srcs S ∧ cs_pts S' = cs_pts S ∧ cs_known S' = cs_known S ∧ cs_leads S' = cs_leads S ∧ cs_areas S' = cs_areas S ∧ cs_stand S' = cs_stand S ∧ cs_dsize S' = cs_dsize S ∧ cs_divr S' = cs_divr S ∧ cs_invs S' = cs_invs S ∧ cs_items S' = cs_items S ∧ cs_lsize S' = cs_lsize S ∧ (∀ j, j ≠ i → cs_fx S' j = cs_fx S j) ∧ (∀ j, j ≠ i → cs_fy S' j = cs_fy S j) ∧ (∀ j, j ≠ i → cs_made S' j = cs_made S j) ∧ (∀ j, j ≠ i → cs_fallen S' j = cs_fallen S j) ∧ (∀ j, j ≠ i → cs_rnd S' j = cs_rnd S j)
theorem CEx.rf {S : CS} {i : Nat} : CEx S S i := ⟨rfl, rfl, rfl, rfl, rfl, rfl, rfl, rfl, rfl, rfl, rfl, rfl, rfl, rfl, rfl, fun _ _ => rfl, fun _ _ => rfl, fun _ _ => rfl, fun _ _ => rfl, fun _ _ => rfl⟩
theorem CEx.tr {S S1 S2 : CS} {i : Nat} (h1 : CEx S S1 i) (h2 : CEx S1 S2 i) : CEx S S2 i := by
  obtain ⟨p0, p1, p2, p3, p4, p5, p6, p7, p8, p9, p10, p11, p12, p13, p14, f0, f1, f2, f3, f4⟩ := h1
  obtain ⟨q0, q1, q2, q3, q4, q5, q6, q7, q8, q9, q10, q11, q12, q13, q14, g0, g1, g2, g3, g4⟩ := h2
  exact ⟨q0.trans p0, q1.trans p1, q2.trans p2, q3.trans p3, q4.trans p4, q5.trans p5, q6.trans p6, q7.trans p7, q8.trans p8, q9.trans p9, q10.trans p10, q11.trans p11, q12.trans p12, q13.trans p13, q14.trans p14, fun j hj => (g0 j hj).trans (f0 j hj), fun j hj => (g1 j hj).trans (f1 j hj), fun j hj => (g2 j hj).trans (f2 j hj), fun j hj => (g3 j hj).trans (f3 j hj), fun j hj => (g4 j hj).trans (f4 j hj)⟩
theorem CEx.foundX {S : CS} {i : Nat} {v : Nat → Int32} : CEx S (cs_set_foundX S v) i := ⟨cs_g_seed_foundX S v, cs_g_figs_foundX S v, cs_g_psize_foundX S v, cs_g_kinds_foundX S v, cs_g_srcs_foundX S v, cs_g_pts_foundX S v, cs_g_known_foundX S v, cs_g_leads_foundX S v, cs_g_areas_foundX S v, cs_g_stand_foundX S v, cs_g_dsize_foundX S v, cs_g_divr_foundX S v, cs_g_invs_foundX S v, cs_g_items_foundX S v, cs_g_lsize_foundX S v, fun j _ => congrFun (cs_g_fx_foundX S v) j, fun j _ => congrFun (cs_g_fy_foundX S v) j, fun j _ => congrFun (cs_g_made_foundX S v) j, fun j _ => congrFun (cs_g_fallen_foundX S v) j, fun j _ => congrFun (cs_g_rnd_foundX S v) j⟩
theorem CEx.foundY {S : CS} {i : Nat} {v : Nat → Int32} : CEx S (cs_set_foundY S v) i := ⟨cs_g_seed_foundY S v, cs_g_figs_foundY S v, cs_g_psize_foundY S v, cs_g_kinds_foundY S v, cs_g_srcs_foundY S v, cs_g_pts_foundY S v, cs_g_known_foundY S v, cs_g_leads_foundY S v, cs_g_areas_foundY S v, cs_g_stand_foundY S v, cs_g_dsize_foundY S v, cs_g_divr_foundY S v, cs_g_invs_foundY S v, cs_g_items_foundY S v, cs_g_lsize_foundY S v, fun j _ => congrFun (cs_g_fx_foundY S v) j, fun j _ => congrFun (cs_g_fy_foundY S v) j, fun j _ => congrFun (cs_g_made_foundY S v) j, fun j _ => congrFun (cs_g_fallen_foundY S v) j, fun j _ => congrFun (cs_g_rnd_foundY S v) j⟩
theorem CEx.fx {S : CS} {i : Nat} {v : Nat → Nat → Int32} (hv : ∀ j, j ≠ i → v j = cs_fx S j) : CEx S (cs_set_fx S v) i := ⟨cs_g_seed_fx S v, cs_g_figs_fx S v, cs_g_psize_fx S v, cs_g_kinds_fx S v, cs_g_srcs_fx S v, cs_g_pts_fx S v, cs_g_known_fx S v, cs_g_leads_fx S v, cs_g_areas_fx S v, cs_g_stand_fx S v, cs_g_dsize_fx S v, cs_g_divr_fx S v, cs_g_invs_fx S v, cs_g_items_fx S v, cs_g_lsize_fx S v, fun j hj => (congrFun (cs_g_fx_fx S v) j).trans (hv j hj), fun j _ => congrFun (cs_g_fy_fx S v) j, fun j _ => congrFun (cs_g_made_fx S v) j, fun j _ => congrFun (cs_g_fallen_fx S v) j, fun j _ => congrFun (cs_g_rnd_fx S v) j⟩
theorem CEx.fy {S : CS} {i : Nat} {v : Nat → Nat → Int32} (hv : ∀ j, j ≠ i → v j = cs_fy S j) : CEx S (cs_set_fy S v) i := ⟨cs_g_seed_fy S v, cs_g_figs_fy S v, cs_g_psize_fy S v, cs_g_kinds_fy S v, cs_g_srcs_fy S v, cs_g_pts_fy S v, cs_g_known_fy S v, cs_g_leads_fy S v, cs_g_areas_fy S v, cs_g_stand_fy S v, cs_g_dsize_fy S v, cs_g_divr_fy S v, cs_g_invs_fy S v, cs_g_items_fy S v, cs_g_lsize_fy S v, fun j _ => congrFun (cs_g_fx_fy S v) j, fun j hj => (congrFun (cs_g_fy_fy S v) j).trans (hv j hj), fun j _ => congrFun (cs_g_made_fy S v) j, fun j _ => congrFun (cs_g_fallen_fy S v) j, fun j _ => congrFun (cs_g_rnd_fy S v) j⟩
theorem CEx.made {S : CS} {i : Nat} {v : Nat → Int32} (hv : ∀ j, j ≠ i → v j = cs_made S j) : CEx S (cs_set_made S v) i := ⟨cs_g_seed_made S v, cs_g_figs_made S v, cs_g_psize_made S v, cs_g_kinds_made S v, cs_g_srcs_made S v, cs_g_pts_made S v, cs_g_known_made S v, cs_g_leads_made S v, cs_g_areas_made S v, cs_g_stand_made S v, cs_g_dsize_made S v, cs_g_divr_made S v, cs_g_invs_made S v, cs_g_items_made S v, cs_g_lsize_made S v, fun j _ => congrFun (cs_g_fx_made S v) j, fun j _ => congrFun (cs_g_fy_made S v) j, fun j hj => (congrFun (cs_g_made_made S v) j).trans (hv j hj), fun j _ => congrFun (cs_g_fallen_made S v) j, fun j _ => congrFun (cs_g_rnd_made S v) j⟩
theorem CEx.fallen {S : CS} {i : Nat} {v : Nat → Int32} (hv : ∀ j, j ≠ i → v j = cs_fallen S j) : CEx S (cs_set_fallen S v) i := ⟨cs_g_seed_fallen S v, cs_g_figs_fallen S v, cs_g_psize_fallen S v, cs_g_kinds_fallen S v, cs_g_srcs_fallen S v, cs_g_pts_fallen S v, cs_g_known_fallen S v, cs_g_leads_fallen S v, cs_g_areas_fallen S v, cs_g_stand_fallen S v, cs_g_dsize_fallen S v, cs_g_divr_fallen S v, cs_g_invs_fallen S v, cs_g_items_fallen S v, cs_g_lsize_fallen S v, fun j _ => congrFun (cs_g_fx_fallen S v) j, fun j _ => congrFun (cs_g_fy_fallen S v) j, fun j _ => congrFun (cs_g_made_fallen S v) j, fun j hj => (congrFun (cs_g_fallen_fallen S v) j).trans (hv j hj), fun j _ => congrFun (cs_g_rnd_fallen S v) j⟩
theorem CEx.rnd {S : CS} {i : Nat} {v : Nat → Int64} (hv : ∀ j, j ≠ i → v j = cs_rnd S j) : CEx S (cs_set_rnd S v) i := ⟨cs_g_seed_rnd S v, cs_g_figs_rnd S v, cs_g_psize_rnd S v, cs_g_kinds_rnd S v, cs_g_srcs_rnd S v, cs_g_pts_rnd S v, cs_g_known_rnd S v, cs_g_leads_rnd S v, cs_g_areas_rnd S v, cs_g_stand_rnd S v, cs_g_dsize_rnd S v, cs_g_divr_rnd S v, cs_g_invs_rnd S v, cs_g_items_rnd S v, cs_g_lsize_rnd S v, fun j _ => congrFun (cs_g_fx_rnd S v) j, fun j _ => congrFun (cs_g_fy_rnd S v) j, fun j _ => congrFun (cs_g_made_rnd S v) j, fun j _ => congrFun (cs_g_fallen_rnd S v) j, fun j hj => (congrFun (cs_g_rnd_rnd S v) j).trans (hv j hj)⟩
theorem Ex.cex {S S' : CS} {i : Nat} (h : Ex S S' i) : CEx S S' i := by
  obtain ⟨R, fX, fY, rfl, hR⟩ := h
  exact ((CEx.rnd hR).tr CEx.foundX).tr CEx.foundY
theorem Ex.get {S S' : CS} {i : Nat} (h : Ex S S' i) : cs_fx S' = cs_fx S ∧ cs_fy S' = cs_fy S ∧ cs_made S' = cs_made S ∧ cs_fallen S' = cs_fallen S := by
  obtain ⟨R, fX, fY, rfl, hR⟩ := h
  refine ⟨?_, ?_, ?_, ?_⟩
  · rw [cs_g_fx_foundY, cs_g_fx_foundX, cs_g_fx_rnd]
  · rw [cs_g_fy_foundY, cs_g_fy_foundX, cs_g_fy_rnd]
  · rw [cs_g_made_foundY, cs_g_made_foundX, cs_g_made_rnd]
  · rw [cs_g_fallen_foundY, cs_g_fallen_foundX, cs_g_fallen_rnd]
/-- figure i is the run's state behind p points -/
def FRep (S : CS) (i p : Nat) (F : FS) : Prop := (cs_rnd S i).toInt = F.1 ∧ (0 ≤ F.1 ∧ F.1 < 2147483647) ∧ match F.2.2.2 with
  | none => cs_made S i = nI p ∧ cs_fallen S i = -1 ∧ fcx S i p F.2.1 F.2.2.1
  | some q => cs_made S i = nI q ∧ cs_fallen S i = nI q ∧ q < 10 ∧ fcx S i q F.2.1 F.2.2.1
/-- the plan of n points -/
def PR (S : CS) (n : Nat) (kd sr : Nat → Nat) : Prop := cs_psize S = nI n ∧ n ≤ 10 ∧ ∀ p, p < n → cs_kinds S p = nI (kd p) ∧ kd p < 14 ∧ sok p (kd p) (sr (4 * p)) (sr (4 * p + 1)) (sr (4 * p + 2)) (sr (4 * p + 3)) ∧ ∀ j, j < 4 → cs_srcs S (4 * p + j) = nI (sr (4 * p + j))
theorem CEx.plan {S S' : CS} {i : Nat} (h : CEx S S' i) : cs_psize S' = cs_psize S ∧ cs_kinds S' = cs_kinds S ∧ cs_srcs S' = cs_srcs S := by
  obtain ⟨p0, p1, p2, p3, p4, p5, p6, p7, p8, p9, p10, p11, p12, p13, p14, f0, f1, f2, f3, f4⟩ := h
  exact ⟨p2, p3, p4⟩
theorem PR.ex {S S' : CS} {i n : Nat} {kd sr : Nat → Nat} (h : PR S n kd sr) (he : CEx S S' i) : PR S' n kd sr := by
  obtain ⟨e1, e2, e3⟩ := he.plan
  unfold PR at h ⊢
  rw [e1, e2, e3]
  exact h
theorem p_from {N : Nat} {S : CS} {n p j : Nat} {kd sr : Nat → Nat} (h : PR S n kd sr) (hp : p < n) (hj : j < 4) : t_Pl_from N (nI p) (nI j) S = some (nI (sr (4 * p + j))) := by
  unfold t_Pl_from
  rw [show (4 : Int32) = nI 4 from rfl, pk_mul, nI_add, Nat.mul_comm p 4]
  refine bs (ta_n (by have := h.2.1; omega) (by decide)) ?_
  rw [(h.2.2 p hp).2.2.2 j hj]
