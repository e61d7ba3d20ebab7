/-! the model's step: what it leaves -/
def MEx (M M' : MS) : Prop := ms_many M' = ms_many M ∧ ms_kindOf M' = ms_kindOf M ∧ ms_need M' = ms_need M ∧ ms_seed M' = ms_seed M ∧ ms_figs M' = ms_figs M ∧ ms_xs M' = ms_xs M ∧ ms_ys M' = ms_ys M ∧ ms_fallsAt M' = ms_fallsAt M ∧ ms_figure M' = ms_figure M ∧ ms_row M' = ms_row M ∧ ms_foundM M' = ms_foundM M ∧ ms_foundN M' = ms_foundN M ∧ ms_same M' = ms_same M ∧ ms_seen M' = ms_seen M ∧ ms_wanted M' = ms_wanted M ∧ ms_found M' = ms_found M ∧ ms_isFound M' = ms_isFound M ∧ ms_isSet M' = ms_isSet M
theorem MEx.rf {M : MS} : MEx M M := ⟨rfl, rfl, rfl, rfl, rfl, rfl, rfl, rfl, rfl, rfl, rfl, rfl, rfl, rfl, rfl, rfl, rfl, rfl⟩
theorem MEx.tr {M M1 M2 : MS} (h1 : MEx M M1) (h2 : MEx M1 M2) : MEx M M2 := by
  obtain ⟨p0, p1, p2, p3, p4, p5, p6, p7, p8, p9, p10, p11, p12, p13, p14, p15, p16, p17⟩ := h1
  obtain ⟨q0, q1, q2, q3, q4, q5, q6, q7, q8, q9, q10, q11, q12, q13, q14, q15, q16, q17⟩ := h2
  exact ⟨q0.trans p0, q1.trans p1, q2.trans p2, q3.trans p3, q4.trans p4, q5.trans p5, q6.trans p6, q7.trans p7, q8.trans p8, q9.trans p9, q10.trans p10, q11.trans p11, q12.trans p12, q13.trans p13, q14.trans p14, q15.trans p15, q16.trans p16, q17.trans p17⟩
theorem MEx.rnd {M : MS} {v : Int64} : MEx M (ms_set_rnd M v) := ⟨ms_g_many_rnd M v, ms_g_kindOf_rnd M v, ms_g_need_rnd M v, ms_g_seed_rnd M v, ms_g_figs_rnd M v, ms_g_xs_rnd M v, ms_g_ys_rnd M v, ms_g_fallsAt_rnd M v, ms_g_figure_rnd M v, ms_g_row_rnd M v, ms_g_foundM_rnd M v, ms_g_foundN_rnd M v, ms_g_same_rnd M v, ms_g_seen_rnd M v, ms_g_wanted_rnd M v, ms_g_found_rnd M v, ms_g_isFound_rnd M v, ms_g_isSet_rnd M v⟩
theorem MEx.px {M : MS} {v : Int64} : MEx M (ms_set_px M v) := ⟨ms_g_many_px M v, ms_g_kindOf_px M v, ms_g_need_px M v, ms_g_seed_px M v, ms_g_figs_px M v, ms_g_xs_px M v, ms_g_ys_px M v, ms_g_fallsAt_px M v, ms_g_figure_px M v, ms_g_row_px M v, ms_g_foundM_px M v, ms_g_foundN_px M v, ms_g_same_px M v, ms_g_seen_px M v, ms_g_wanted_px M v, ms_g_found_px M v, ms_g_isFound_px M v, ms_g_isSet_px M v⟩
theorem MEx.py {M : MS} {v : Int64} : MEx M (ms_set_py M v) := ⟨ms_g_many_py M v, ms_g_kindOf_py M v, ms_g_need_py M v, ms_g_seed_py M v, ms_g_figs_py M v, ms_g_xs_py M v, ms_g_ys_py M v, ms_g_fallsAt_py M v, ms_g_figure_py M v, ms_g_row_py M v, ms_g_foundM_py M v, ms_g_foundN_py M v, ms_g_same_py M v, ms_g_seen_py M v, ms_g_wanted_py M v, ms_g_found_py M v, ms_g_isFound_py M v, ms_g_isSet_py M v⟩
theorem MEx.isFallen {M : MS} {v : Int32} : MEx M (ms_set_isFallen M v) := ⟨ms_g_many_isFallen M v, ms_g_kindOf_isFallen M v, ms_g_need_isFallen M v, ms_g_seed_isFallen M v, ms_g_figs_isFallen M v, ms_g_xs_isFallen M v, ms_g_ys_isFallen M v, ms_g_fallsAt_isFallen M v, ms_g_figure_isFallen M v, ms_g_row_isFallen M v, ms_g_foundM_isFallen M v, ms_g_foundN_isFallen M v, ms_g_same_isFallen M v, ms_g_seen_isFallen M v, ms_g_wanted_isFallen M v, ms_g_found_isFallen M v, ms_g_isFound_isFallen M v, ms_g_isSet_isFallen M v⟩
theorem MEx.fig {M M' : MS} (h : MEx M M') : ms_figure M' = ms_figure M ∧ ms_xs M' = ms_xs M ∧ ms_ys M' = ms_ys M := by
  obtain ⟨p0, p1, p2, p3, p4, p5, p6, p7, p8, p9, p10, p11, p12, p13, p14, p15, p16, p17⟩ := h
  exact ⟨p8, p5, p6⟩
theorem mcx.ex {M M' : MS} {g n : Nat} {X Y : Nat → Int} (h : mcx M g n X Y) (he : MEx M M') : mcx M' g n X Y := by
  obtain ⟨e1, e2, e3⟩ := he.fig
  unfold mcx at h ⊢
  rw [e1, e2, e3]
  exact h
def MM (M : MS) (e : Option MS) (o : Option (Int × Int)) (s' : Int) : Prop := ∃ M', e = some M' ∧ MEx M M' ∧ (ms_rnd M').toInt = s' ∧ match o with
  | none => ms_isFallen M' = 1
  | some q => ms_isFallen M' = ms_isFallen M ∧ (ms_px M').toInt = q.1 ∧ (ms_py M').toInt = q.2
theorem MFnd.ex {M M' : MS} {x y : Int} (h : MFnd M M' x y) : MEx M M' ∧ ms_rnd M' = ms_rnd M ∧ ms_isFallen M' = ms_isFallen M ∧ (ms_px M').toInt = x ∧ (ms_py M').toInt = y := by
  obtain ⟨r1, r2, rfl, h1, h2⟩ := h
  refine ⟨MEx.px.tr MEx.py, (ms_g_rnd_py _ _).trans (ms_g_rnd_px _ _), (ms_g_isFallen_py _ _).trans (ms_g_isFallen_px _ _), ?_, ?_⟩
  · rw [ms_g_px_py, ms_g_px_px]
    exact h1
  · rw [ms_g_py_py]
    exact h2
theorem MR.mm {M : MS} {e : Option MS} {o : Option (Int × Int)} {s : Int} (h : MR M e o) (hs : (ms_rnd M).toInt = s) : MM M e o s := by
  cases o with
  | none => exact ⟨_, h, MEx.isFallen, by rw [ms_g_rnd_isFallen]; exact hs, ms_g_isFallen_isFallen _ _⟩
  | some q =>
    obtain ⟨M', h1, h2⟩ := h
    obtain ⟨a1, a2, a3, a4, a5⟩ := h2.ex
    exact ⟨M', h1, a1, by rw [a2]; exact hs, a3, a4, a5⟩
theorem MM.eq {M : MS} {e e2 : Option MS} {o : Option (Int × Int)} {s : Int} (h : e2 = e) (k : MM M e o s) : MM M e2 o s := by
  subst h
  exact k
theorem MM.sm {M : MS} {e : Option MS} {o : Option (Int × Int)} {s : Int} (k : MM M e o s) : MM M (e.bind fun r => some r) o s := by
  obtain ⟨M', e1, h⟩ := k
  exact ⟨M', bs e1 rfl, h⟩
theorem MM.ex {M M1 : MS} {e : Option MS} {o : Option (Int × Int)} {s : Int} (h0 : MEx M M1) (hf : ms_isFallen M1 = ms_isFallen M) (h : MM M1 e o s) : MM M e o s := by
  obtain ⟨M', e1, h1, h2, h3⟩ := h
  refine ⟨M', e1, h0.tr h1, h2, ?_⟩
  cases o with
  | none => exact h3
  | some q => exact ⟨h3.1.trans hf, h3.2⟩
section MK
variable {N : Nat} {M : MS} {g n : Nat} {X Y : Nat → Int} {a b c d : Nat} {s : Int}
theorem mf_2 (hN : 25 ≤ N) (h : mcx M g n X Y) (ha : a < n) (hb : b < n) (hc : c < n) (hs : (ms_rnd M).toInt = s) : MM M (t_Mo_doStep N 2 (nI a) (nI b) (nI c) (nI d) M) (sStep X Y s 2 a b c d).1 (sStep X Y s 2 a b c d).2 := by
  unfold t_Mo_doStep
  obtain ⟨xa, exa, hxa⟩ := mp_x (N := N) h ha
  obtain ⟨ya, eya, hya⟩ := mp_y (N := N) h ha
  refine MM.eq ((if_neg (by decide)).trans ((if_neg (by decide)).trans ((if_pos rfl).trans (bs exa (bs eya rfl))))) (MM.sm (MR.mm (m_foot hN h hb hc hxa hya) hs))
theorem mf_3 (hN : 25 ≤ N) (h : mcx M g n X Y) (ha : a < n) (hb : b < n) (hc : c < n) (hd : d < n) (hs : (ms_rnd M).toInt = s) : MM M (t_Mo_doStep N 3 (nI a) (nI b) (nI c) (nI d) M) (sStep X Y s 3 a b c d).1 (sStep X Y s 3 a b c d).2 := by
  unfold t_Mo_doStep
  exact MM.eq ((if_neg (by decide)).trans ((if_neg (by decide)).trans ((if_neg (by decide)).trans ((if_pos rfl).trans (rfl))))) (MM.sm (MR.mm (m_meet hN h ha hb hc hd) hs))
theorem mf_4 (hN : 25 ≤ N) (h : mcx M g n X Y) (ha : a < n) (hb : b < n) (hc : c < n) (hs : (ms_rnd M).toInt = s) : MM M (t_Mo_doStep N 4 (nI a) (nI b) (nI c) (nI d) M) (sStep X Y s 4 a b c d).1 (sStep X Y s 4 a b c d).2 := by
  unfold t_Mo_doStep
  exact MM.eq ((if_neg (by decide)).trans ((if_neg (by decide)).trans ((if_neg (by decide)).trans ((if_neg (by decide)).trans ((if_pos rfl).trans (rfl)))))) (MM.sm (MR.mm (m_cen hN h ha hb hc) hs))
theorem mf_13 (hN : 25 ≤ N) (h : mcx M g n X Y) (ha : a < n) (hb : b < n) (hc : c < n) (hs : (ms_rnd M).toInt = s) : MM M (t_Mo_doMore N 13 (nI a) (nI b) (nI c) (nI d) M) (sStep X Y s 13 a b c d).1 (sStep X Y s 13 a b c d).2 := by
  unfold t_Mo_doMore
  exact MM.eq ((if_neg (by decide)).trans ((if_neg (by decide)).trans ((if_neg (by decide)).trans ((if_neg (by decide)).trans ((if_neg (by decide)).trans ((if_neg (by decide)).trans (rfl))))))) (MM.sm (MR.mm (m_out hN h ha hb hc) hs))
theorem mf_9 (hN : 25 ≤ N) (h : mcx M g n X Y) (ha : a < n) (hb : b < n) (hs : (ms_rnd M).toInt = s) (h0 : 0 ≤ s) (h1 : s < 2147483647) : MM M (t_Mo_doMore N 9 (nI a) (nI b) (nI c) (nI d) M) (sStep X Y s 9 a b c d).1 (sStep X Y s 9 a b c d).2 := by
  unfold t_Mo_doMore
  obtain ⟨r2, z, e2, s2, g2⟩ := m_drawn (N := N) hs h0 h1
  refine MM.eq ((if_neg (by decide)).trans ((if_neg (by decide)).trans ((if_pos rfl).trans (bs e2 rfl)))) (MM.ex MEx.rnd (ms_g_isFallen_rnd _ _) (MM.sm (MR.mm (m_along (N := N) (h.ex MEx.rnd) ha hb g2) ?_)))
  rw [ms_g_rnd_rnd]
  exact s2
theorem mf_10 (hN : 25 ≤ N) (h : mcx M g n X Y) (ha : a < n) (hb : b < n) (hs : (ms_rnd M).toInt = s) (h0 : 0 ≤ s) (h1 : s < 2147483647) : MM M (t_Mo_doMore N 10 (nI a) (nI b) (nI c) (nI d) M) (sStep X Y s 10 a b c d).1 (sStep X Y s 10 a b c d).2 := by
  unfold t_Mo_doMore
  obtain ⟨r2, z, e2, s2, g2⟩ := m_drawn (N := N) hs h0 h1
  refine MM.eq ((if_neg (by decide)).trans ((if_neg (by decide)).trans ((if_neg (by decide)).trans ((if_pos rfl).trans (bs e2 rfl))))) (MM.ex MEx.rnd (ms_g_isFallen_rnd _ _) (MM.sm (MR.mm (m_cir hN (h.ex MEx.rnd) ha hb g2) ?_)))
  rw [ms_g_rnd_rnd]
  exact s2
theorem mf_7 (hN : 25 ≤ N) (h : mcx M g n X Y) (ha : a < n) (hb : b < n) (hs : (ms_rnd M).toInt = s) : MM M (t_Mo_doMore N 7 (nI a) (nI b) (nI c) (nI d) M) (sStep X Y s 7 a b c d).1 (sStep X Y s 7 a b c d).2 := by
  unfold t_Mo_doMore
  obtain ⟨xb, exb, hxb⟩ := mp_x (N := N) h hb
  obtain ⟨ya, eya, hya⟩ := mp_y (N := N) h ha
  obtain ⟨yb, eyb, hyb⟩ := mp_y (N := N) h hb
  obtain ⟨r1, e1, g1⟩ := p_mod (N := N) ((hxb.sub hya (by decide +kernel)).add hyb (by decide +kernel))
  obtain ⟨zb, ezb, hzb⟩ := mp_y (N := N) (h.px r1) hb
  obtain ⟨wa, ewa, hwa⟩ := mp_x (N := N) (h.px r1) ha
  obtain ⟨wb, ewb, hwb⟩ := mp_x (N := N) (h.px r1) hb
  obtain ⟨r2, e2, g2⟩ := p_mod (N := N) ((hzb.add hwa (by decide +kernel)).sub hwb (by decide +kernel))
  refine MM.eq ((if_pos rfl).trans (bs exb (bs eya (bs eyb (bs e1 (bs rfl (bs ezb (bs ewa (bs ewb (bs e2 (bs rfl rfl))))))))))) (MR.mm (o := some ((X b - (Y a - Y b)) % 1000003, (Y b + (X a - X b)) % 1000003)) ⟨ms_set_py (ms_set_px M r1) r2, rfl, r1, r2, rfl, ?_, ?_⟩ hs)
  · rw [g1, ← Int.sub_sub_self (X b) (X b - (Y a - Y b))]
    congr 1
    omega
  · rw [g2]
    congr 1
    omega
theorem mf_8 (hN : 25 ≤ N) (h : mcx M g n X Y) (ha : a < n) (hb : b < n) (hc : c < n) (hs : (ms_rnd M).toInt = s) : MM M (t_Mo_doMore N 8 (nI a) (nI b) (nI c) (nI d) M) (sStep X Y s 8 a b c d).1 (sStep X Y s 8 a b c d).2 := by
  unfold t_Mo_doMore
  obtain ⟨xa, exa, hxa⟩ := mp_x (N := N) h ha
  obtain ⟨xb, exb, hxb⟩ := mp_x (N := N) h hb
  obtain ⟨xc, exc, hxc⟩ := mp_x (N := N) h hc
  obtain ⟨r1, e1, g1⟩ := p_mod (N := N) ((hxa.add hxc (by decide +kernel)).sub hxb (by decide +kernel))
  obtain ⟨ya, eya, hya⟩ := mp_y (N := N) (h.px r1) ha
  obtain ⟨yb, eyb, hyb⟩ := mp_y (N := N) (h.px r1) hb
  obtain ⟨yc, eyc, hyc⟩ := mp_y (N := N) (h.px r1) hc
  obtain ⟨r2, e2, g2⟩ := p_mod (N := N) ((hya.add hyc (by decide +kernel)).sub hyb (by decide +kernel))
  exact MM.eq ((if_neg (by decide)).trans ((if_pos rfl).trans (bs exa (bs exc (bs exb (bs e1 (bs rfl (bs eya (bs eyc (bs eyb (bs e2 (bs rfl rfl)))))))))))) (MR.mm (o := some ((X a + X c - X b) % 1000003, (Y a + Y c - Y b) % 1000003)) ⟨ms_set_py (ms_set_px M r1) r2, rfl, r1, r2, rfl, g1, g2⟩ hs)
end MK
