theorem mod_any {N : Nat} (x : Int64) : ∃ r, t_Mo_mod N x = some r := by
  obtain ⟨r, e, -⟩ := p_mod (N := N) (show rg x x.toInt x.toInt.natAbs from ⟨rfl, Nat.le_refl _⟩)
  exact ⟨r, e⟩
theorem iv_2 : iv 2 = 500002 := by decide +kernel
theorem iv_3 : iv 3 = 666669 := by decide +kernel
theorem mid_cg (u v : Int) : (u + 500002 * (v - u)) % 1000003 = ((u + v) * 500002) % 1000003 := by
  rw [show u + 500002 * (v - u) = (u + v) * 500002 + 1000003 * (-u) by omega, Int.add_mul_emod_self_left]
section MK2
variable {N : Nat} {M : MS} {g n : Nat} {X Y : Nat → Int} {a b c d : Nat} {s : Int}
theorem mf_0 (hN : 25 ≤ N) (h : mcx M g n X Y)  (hs : (ms_rnd M).toInt = s) (h0 : 0 ≤ s) (h1 : s < 2147483647) : MM M (t_Mo_doStep N 0 (nI a) (nI b) (nI c) (nI d) M) (sStep X Y s 0 a b c d).1 (sStep X Y s 0 a b c d).2 := by
  unfold t_Mo_doStep
  obtain ⟨r1, z1, e1, s1, g1⟩ := m_drawn (N := N) hs h0 h1
  have s5 : (ms_rnd (ms_set_px (ms_set_rnd M z1) r1)).toInt = nx s := by
    rw [ms_g_rnd_px, ms_g_rnd_rnd]
    exact s1
  obtain ⟨r2, z2, e2, s2, g2⟩ := m_drawn (N := N) s5 (nx_lt s).1 (nx_lt s).2
  refine ⟨ms_set_py (ms_set_rnd (ms_set_px (ms_set_rnd M z1) r1) z2) r2, (if_pos rfl).trans (bs e1 (bs rfl (bs e2 (bs rfl rfl)))), ((MEx.rnd.tr MEx.px).tr MEx.rnd).tr MEx.py, ?_, ?_, ?_, ?_⟩
  · rw [ms_g_rnd_py, ms_g_rnd_rnd]
    exact s2
  · rw [ms_g_isFallen_py, ms_g_isFallen_rnd, ms_g_isFallen_px, ms_g_isFallen_rnd]
  · rw [ms_g_px_py, ms_g_px_rnd, ms_g_px_px]
    exact g1.1
  · rw [ms_g_py_py]
    exact g2.1
theorem mf_1 (hN : 25 ≤ N) (h : mcx M g n X Y) (ha : a < n) (hb : b < n) (hs : (ms_rnd M).toInt = s) : MM M (t_Mo_doStep N 1 (nI a) (nI b) (nI c) (nI d) M) (sStep X Y s 1 a b c d).1 (sStep X Y s 1 a b c d).2 := by
  unfold t_Mo_doStep
  obtain ⟨r9, e9, h9⟩ := p_inverse hN (rg.c (x := 2) (n := 2) (by decide +kernel))
  rw [show (((2 : Nat) : Int)) = 2 from rfl, iv_2] at h9
  have hi : rg r9 500002 1000002 := ⟨h9, by decide⟩
  obtain ⟨M', e, hf⟩ := m_along (N := N) h ha hb hi
  refine MM.eq ((if_neg (by decide)).trans ((if_pos rfl).trans (bs e9 rfl))) (MM.sm (MR.mm (o := some ((X a + X b) * 500002 % 1000003, (Y a + Y b) * 500002 % 1000003)) ⟨M', e, ?_⟩ hs))
  unfold sAl at hf
  rw [mid_cg, mid_cg] at hf
  exact hf
theorem mf_12 (hN : 25 ≤ N) (h : mcx M g n X Y) (ha : a < n) (hb : b < n) (hc : c < n) (hs : (ms_rnd M).toInt = s) : MM M (t_Mo_doMore N 12 (nI a) (nI b) (nI c) (nI d) M) (sStep X Y s 12 a b c d).1 (sStep X Y s 12 a b c d).2 := by
  unfold t_Mo_doMore
  obtain ⟨i3, e9, h9⟩ := p_inverse hN (rg.c (x := 3) (n := 3) (by decide +kernel))
  rw [show (((3 : Nat) : Int)) = 3 from rfl, iv_3] at h9
  have hi : rg i3 666669 1000002 := ⟨h9, by decide⟩
  obtain ⟨xa, exa, hxa⟩ := mp_x (N := N) h ha
  obtain ⟨xb, exb, hxb⟩ := mp_x (N := N) h hb
  obtain ⟨xc, exc, hxc⟩ := mp_x (N := N) h hc
  obtain ⟨r1, e1, g1⟩ := p_mod (N := N) (((hxa.add hxb (by decide +kernel)).add hxc (by decide +kernel)).mul hi (by decide +kernel))
  obtain ⟨ya, eya, hya⟩ := mp_y (N := N) (h.px r1) ha
  obtain ⟨yb, eyb, hyb⟩ := mp_y (N := N) (h.px r1) hb
  obtain ⟨yc, eyc, hyc⟩ := mp_y (N := N) (h.px r1) hc
  obtain ⟨r2, e2, g2⟩ := p_mod (N := N) (((hya.add hyb (by decide +kernel)).add hyc (by decide +kernel)).mul hi (by decide +kernel))
  exact MM.eq ((if_neg (by decide)).trans ((if_neg (by decide)).trans ((if_neg (by decide)).trans ((if_neg (by decide)).trans ((if_neg (by decide)).trans ((if_pos rfl).trans (bs exa (bs exb (bs exc (bs e9 (bs e1 (bs rfl (bs eya (bs eyb (bs eyc (bs e9 (bs e2 (bs rfl rfl)))))))))))))))))) (MR.mm (o := some ((X a + X b + X c) * 666669 % 1000003, (Y a + Y b + Y c) * 666669 % 1000003)) ⟨ms_set_py (ms_set_px M r1) r2, rfl, r1, r2, rfl, g1, g2⟩ hs)
theorem mf_5 (hN : 25 ≤ N) (h : mcx M g n X Y) (ha : a < n) (hb : b < n) (hc : c < n) (hs : (ms_rnd M).toInt = s) : MM M (t_Mo_doStep N 5 (nI a) (nI b) (nI c) (nI d) M) (sStep X Y s 5 a b c d).1 (sStep X Y s 5 a b c d).2 := by
  unfold t_Mo_doStep
  have hc0 := m_cen hN h ha hb hc
  show MM M _ ((sCen X Y a b c).map _) s
  cases hq : sCen X Y a b c with
  | none =>
    rw [hq] at hc0
    have h' := h.ex (MEx.isFallen (v := 1))
    obtain ⟨xa, exa, hxa⟩ := mp_x (N := N) h' ha
    obtain ⟨xb, exb, hxb⟩ := mp_x (N := N) h' hb
    obtain ⟨xc, exc, hxc⟩ := mp_x (N := N) h' hc
    obtain ⟨r1, e1⟩ := mod_any (N := N) (((xa + xb) + xc) - (2 * ms_px (ms_set_isFallen M 1)))
    obtain ⟨ya, eya, hya⟩ := mp_y (N := N) (h'.px r1) ha
    obtain ⟨yb, eyb, hyb⟩ := mp_y (N := N) (h'.px r1) hb
    obtain ⟨yc, eyc, hyc⟩ := mp_y (N := N) (h'.px r1) hc
    obtain ⟨r2, e2⟩ := mod_any (N := N) (((ya + yb) + yc) - (2 * ms_py (ms_set_px (ms_set_isFallen M 1) r1)))
    refine ⟨ms_set_py (ms_set_px (ms_set_isFallen M 1) r1) r2, (if_neg (by decide)).trans ((if_neg (by decide)).trans ((if_neg (by decide)).trans ((if_neg (by decide)).trans ((if_neg (by decide)).trans ((if_pos rfl).trans (bs hc0 (bs exa (bs exb (bs exc (bs rfl (bs e1 (bs rfl (bs eya (bs eyb (bs eyc (bs rfl (bs e2 (bs rfl rfl)))))))))))))))))), (MEx.isFallen.tr MEx.px).tr MEx.py, ?_, ?_⟩
    · rw [ms_g_rnd_py, ms_g_rnd_px, ms_g_rnd_isFallen]
      exact hs
    · show ms_isFallen _ = 1
      rw [ms_g_isFallen_py, ms_g_isFallen_px, ms_g_isFallen_isFallen]
  | some q =>
    rw [hq] at hc0
    obtain ⟨M1, e0, f1⟩ := hc0
    obtain ⟨x1, s1, i1, u1, w1⟩ := f1.ex
    have h' := h.ex x1
    have hr := sCen_rg hq
    have gx : rg (ms_px M1) q.1 1000002 := ⟨u1, nat_lt hr.1⟩
    obtain ⟨xa, exa, hxa⟩ := mp_x (N := N) h' ha
    obtain ⟨xb, exb, hxb⟩ := mp_x (N := N) h' hb
    obtain ⟨xc, exc, hxc⟩ := mp_x (N := N) h' hc
    obtain ⟨r1, e1, g1⟩ := p_mod (N := N) (((hxa.add hxb (by decide +kernel)).add hxc (by decide +kernel)).sub ((rg.c (x := 2) (n := 2) (by decide +kernel)).mul gx (by decide +kernel)) (by decide +kernel))
    have gy : rg (ms_py (ms_set_px M1 r1)) q.2 1000002 := ⟨by rw [ms_g_py_px]; exact w1, nat_lt hr.2⟩
    obtain ⟨ya, eya, hya⟩ := mp_y (N := N) (h'.px r1) ha
    obtain ⟨yb, eyb, hyb⟩ := mp_y (N := N) (h'.px r1) hb
    obtain ⟨yc, eyc, hyc⟩ := mp_y (N := N) (h'.px r1) hc
    obtain ⟨r2, e2, g2⟩ := p_mod (N := N) (((hya.add hyb (by decide +kernel)).add hyc (by decide +kernel)).sub ((rg.c (x := 2) (n := 2) (by decide +kernel)).mul gy (by decide +kernel)) (by decide +kernel))
    refine ⟨ms_set_py (ms_set_px M1 r1) r2, (if_neg (by decide)).trans ((if_neg (by decide)).trans ((if_neg (by decide)).trans ((if_neg (by decide)).trans ((if_neg (by decide)).trans ((if_pos rfl).trans (bs e0 (bs exa (bs exb (bs exc (bs rfl (bs e1 (bs rfl (bs eya (bs eyb (bs eyc (bs rfl (bs e2 (bs rfl rfl)))))))))))))))))), (x1.tr MEx.px).tr MEx.py, ?_, ?_, ?_, ?_⟩
    · rw [ms_g_rnd_py, ms_g_rnd_px, s1]
      exact hs
    · rw [ms_g_isFallen_py, ms_g_isFallen_px]
      exact i1
    · rw [ms_g_px_py, ms_g_px_px]
      exact g1
    · rw [ms_g_py_py]
      exact g2
end MK2
