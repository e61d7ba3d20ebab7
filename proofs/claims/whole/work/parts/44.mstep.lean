section MK3
variable {N : Nat} {M : MS} {g n : Nat} {X Y : Nat → Int} {a b c d : Nat} {s : Int}
theorem m_dbl0 (h : mcx M g n X Y) (ha : a < n) : ∃ M', tb_Mo_doMore_200 N (nI a) M = some M' ∧ MEx M M' ∧ ms_rnd M' = ms_rnd M ∧ ms_isFallen M' = ms_isFallen M := by
  obtain ⟨xa, exa, hxa⟩ := mp_x (N := N) h ha
  obtain ⟨r1, e1⟩ := mod_any (N := N) (2 * ms_px M - xa)
  obtain ⟨ya, eya, hya⟩ := mp_y (N := N) (h.px r1) ha
  obtain ⟨r2, e2⟩ := mod_any (N := N) (2 * ms_py (ms_set_px M r1) - ya)
  refine ⟨ms_set_py (ms_set_px M r1) r2, ?_, MEx.px.tr MEx.py, ?_, ?_⟩
  · unfold tb_Mo_doMore_200
    exact bs rfl (bs exa (bs e1 (bs rfl (bs rfl (bs eya (bs e2 (bs rfl rfl)))))))
  · rw [ms_g_rnd_py, ms_g_rnd_px]
  · rw [ms_g_isFallen_py, ms_g_isFallen_px]
theorem m_dbl (h : mcx M g n X Y) (ha : a < n) {q1 q2 : Int} (gx : rg (ms_px M) q1 1000002) (gy : rg (ms_py M) q2 1000002) : ∃ M', tb_Mo_doMore_200 N (nI a) M = some M' ∧ MEx M M' ∧ ms_rnd M' = ms_rnd M ∧ ms_isFallen M' = ms_isFallen M ∧ (ms_px M').toInt = (2 * q1 - X a) % 1000003 ∧ (ms_py M').toInt = (2 * q2 - Y a) % 1000003 := by
  obtain ⟨xa, exa, hxa⟩ := mp_x (N := N) h ha
  obtain ⟨r1, e1, g1⟩ := p_mod (N := N) (((rg.c (x := 2) (n := 2) (by decide +kernel)).mul gx (by decide +kernel)).sub hxa (by decide +kernel))
  obtain ⟨ya, eya, hya⟩ := mp_y (N := N) (h.px r1) ha
  have gy2 : rg (ms_py (ms_set_px M r1)) q2 1000002 := by rw [ms_g_py_px]; exact gy
  obtain ⟨r2, e2, g2⟩ := p_mod (N := N) (((rg.c (x := 2) (n := 2) (by decide +kernel)).mul gy2 (by decide +kernel)).sub hya (by decide +kernel))
  refine ⟨ms_set_py (ms_set_px M r1) r2, ?_, MEx.px.tr MEx.py, ?_, ?_, ?_, ?_⟩
  · unfold tb_Mo_doMore_200
    exact bs rfl (bs exa (bs e1 (bs rfl (bs rfl (bs eya (bs e2 (bs rfl rfl)))))))
  · rw [ms_g_rnd_py, ms_g_rnd_px]
  · rw [ms_g_isFallen_py, ms_g_isFallen_px]
  · rw [ms_g_px_py, ms_g_px_px]
    exact g1
  · rw [ms_g_py_py]
    exact g2
theorem mf_6 (hN : 25 ≤ N) (h : mcx M g n X Y) (ha : a < n) (hb : b < n) (hc : c < n) (hs : (ms_rnd M).toInt = s) : MM M (t_Mo_doStep N 6 (nI a) (nI b) (nI c) (nI d) M) (sStep X Y s 6 a b c d).1 (sStep X Y s 6 a b c d).2 := by
  unfold t_Mo_doStep
  obtain ⟨xa, exa, hxa⟩ := mp_x (N := N) h ha
  obtain ⟨ya, eya, hya⟩ := mp_y (N := N) h ha
  have hc0 := m_foot hN h hb hc hxa hya
  show MM M _ ((sFoot X Y (X a) (Y a) b c).map _) s
  cases hq : sFoot X Y (X a) (Y a) b c with
  | none =>
    rw [hq] at hc0
    obtain ⟨M', e, x2, s2, i2⟩ := m_dbl0 (N := N) (h.ex (MEx.isFallen (v := 1))) ha
    unfold tb_Mo_doMore_200 at e
    refine ⟨M', (if_neg (by decide)).trans ((if_neg (by decide)).trans ((if_neg (by decide)).trans ((if_neg (by decide)).trans ((if_neg (by decide)).trans ((if_neg (by decide)).trans ((if_pos rfl).trans (bs exa (bs eya (bs hc0 e))))))))), MEx.isFallen.tr x2, ?_, ?_⟩
    · rw [s2, ms_g_rnd_isFallen]
      exact hs
    · show ms_isFallen _ = 1
      rw [i2, ms_g_isFallen_isFallen]
  | some q =>
    rw [hq] at hc0
    obtain ⟨M1, e0, f1⟩ := hc0
    obtain ⟨x1, s1, i1, u1, w1⟩ := f1.ex
    have hr := sFoot_rg hq
    obtain ⟨M', e, x2, s2, i2, v1, v2⟩ := m_dbl (N := N) (h.ex x1) ha (show rg (ms_px M1) q.1 1000002 from ⟨u1, nat_lt hr.1⟩) (show rg (ms_py M1) q.2 1000002 from ⟨w1, nat_lt hr.2⟩)
    unfold tb_Mo_doMore_200 at e
    refine ⟨M', (if_neg (by decide)).trans ((if_neg (by decide)).trans ((if_neg (by decide)).trans ((if_neg (by decide)).trans ((if_neg (by decide)).trans ((if_neg (by decide)).trans ((if_pos rfl).trans (bs exa (bs eya (bs e0 e))))))))), x1.tr x2, ?_, i2.trans i1, v1, v2⟩
    rw [s2, s1]
    exact hs
theorem mf_11 (hN : 25 ≤ N) (h : mcx M g n X Y) (ha : a < n) (hb : b < n) (hc : c < n) (hd : d < n) (hs : (ms_rnd M).toInt = s) (hz : ms_isFallen M = 0) : MM M (t_Mo_doMore N 11 (nI a) (nI b) (nI c) (nI d) M) (sStep X Y s 11 a b c d).1 (sStep X Y s 11 a b c d).2 := by
  unfold t_Mo_doMore
  have hc0 := m_cen hN h ha hc hd
  show MM M _ ((sCen X Y a c d).bind _) s
  cases hq : sCen X Y a c d with
  | none =>
    rw [hq] at hc0
    obtain ⟨M', e, x2, s2, i2⟩ := m_dbl0 (N := N) (h.ex (MEx.isFallen (v := 1))) ha
    refine ⟨M', (if_neg (by decide)).trans ((if_neg (by decide)).trans ((if_neg (by decide)).trans ((if_neg (by decide)).trans ((if_pos rfl).trans (bs hc0 (bs rfl ((if_neg (show ¬ ms_isFallen (ms_set_isFallen M 1) = 0 by rw [ms_g_isFallen_isFallen]; decide)).trans e))))))), MEx.isFallen.tr x2, ?_, ?_⟩
    · rw [s2, ms_g_rnd_isFallen]
      exact hs
    · show ms_isFallen _ = 1
      rw [i2, ms_g_isFallen_isFallen]
  | some q =>
    rw [hq] at hc0
    obtain ⟨M1, e0, f1⟩ := hc0
    obtain ⟨x1, s1, i1, u1, w1⟩ := f1.ex
    have hr := sCen_rg hq
    have h' := h.ex x1
    have hf0 := m_foot hN h' ha hb (show rg (ms_px M1) q.1 1000002 from ⟨u1, nat_lt hr.1⟩) (show rg (ms_py M1) q.2 1000002 from ⟨w1, nat_lt hr.2⟩)
    have hi0 : ms_isFallen M1 = 0 := i1.trans hz
    show MM M _ ((sFoot X Y q.1 q.2 a b).map _) s
    cases hw : sFoot X Y q.1 q.2 a b with
    | none =>
      rw [hw] at hf0
      obtain ⟨M', e, x2, s2, i2⟩ := m_dbl0 (N := N) (h'.ex (MEx.isFallen (v := 1))) ha
      refine ⟨M', (if_neg (by decide)).trans ((if_neg (by decide)).trans ((if_neg (by decide)).trans ((if_neg (by decide)).trans ((if_pos rfl).trans (bs e0 (bs rfl ((if_pos hi0).trans (bs rfl (bs rfl (bs hf0 e)))))))))), (x1.tr MEx.isFallen).tr x2, ?_, ?_⟩
      · rw [s2, ms_g_rnd_isFallen, s1]
        exact hs
      · show ms_isFallen _ = 1
        rw [i2, ms_g_isFallen_isFallen]
    | some w =>
      rw [hw] at hf0
      obtain ⟨M3, e3, f3⟩ := hf0
      obtain ⟨x3, s3, i3, u3, w3⟩ := f3.ex
      have hr3 := sFoot_rg hw
      obtain ⟨M', e, x2, s2, i2, v1, v2⟩ := m_dbl (N := N) (h'.ex x3) ha (show rg (ms_px M3) w.1 1000002 from ⟨u3, nat_lt hr3.1⟩) (show rg (ms_py M3) w.2 1000002 from ⟨w3, nat_lt hr3.2⟩)
      refine ⟨M', (if_neg (by decide)).trans ((if_neg (by decide)).trans ((if_neg (by decide)).trans ((if_neg (by decide)).trans ((if_pos rfl).trans (bs e0 (bs rfl ((if_pos hi0).trans (bs rfl (bs rfl (bs e3 e)))))))))), (x1.tr x3).tr x2, ?_, (i2.trans i3).trans i1, v1, v2⟩
      rw [s2, s3, s1]
      exact hs
end MK3
