theorem nat_lt {z : Int} (h : 0 ≤ z ∧ z < 1000003) : z.natAbs ≤ 1000002 := by omega
theorem two_zn {w : Nat} (h2 : w < 1000003) (h : (2 * w) % 1000003 = 0) : w = 0 := by
  obtain ⟨k, hk⟩ := Nat.dvd_of_mod_eq_zero h
  clear h
  have hk1 : k < 2 := by
    rcases Nat.lt_or_ge k 2 with q | q
    · exact q
    · have h3 : 1000003 * 2 ≤ 1000003 * k := Nat.mul_le_mul_left 1000003 q
      rw [← hk] at h3
      clear hk
      omega
  rcases (show k = 0 ∨ k = 1 by clear hk; omega) with rfl | rfl
  · rw [Nat.mul_zero] at hk
    omega
  · rw [Nat.mul_one] at hk
    omega
theorem two_z (u : Int) : (2 * (u % 1000003)) % 1000003 = 0 ↔ u % 1000003 = 0 := by
  have h1 : 0 ≤ u % 1000003 := Int.emod_nonneg _ (by omega)
  have h2 : u % 1000003 < 1000003 := Int.emod_lt_of_pos _ (by omega)
  generalize u % 1000003 = w at h1 h2 ⊢
  obtain ⟨n, rfl⟩ := Int.eq_ofNat_of_zero_le h1
  constructor
  · intro h
    have h3 : (2 * n) % 1000003 = 0 := by
      have h4 : (((2 * n) % 1000003 : Nat) : Int) = 0 := h
      exact Int.natCast_eq_zero.mp h4
    rw [two_zn (Int.ofNat_lt.mp h2) h3]
    rfl
  · intro h
    rw [h, Int.mul_zero, Int.zero_emod]
section MGEO2
variable {N : Nat} {M : MS} {g n : Nat} {X Y : Nat → Int} {a b c d : Nat}
theorem m_cen (hN : 25 ≤ N) (h : mcx M g n X Y) (ha : a < n) (hb : b < n) (hc : c < n) : MR M (t_Mo_centre N (nI a) (nI b) (nI c) M) (sCen X Y a b c) := by
  obtain ⟨r2, e2, h2⟩ := m_cross (N := N) h ha hb ha hc
  obtain ⟨r3, e3, h3⟩ := p_modr (N := N) ((rg.c (x := 2) (n := 2) (by decide +kernel)).mul h2 (by decide +kernel))
  unfold t_Mo_centre sCen
  have hz3 : (2 * (crs X Y a b a c % 1000003)) % 1000003 = 0 ↔ crs X Y a b a c % 1000003 = 0 := two_z _
  by_cases hz : crs X Y a b a c % 1000003 = 0
  · rw [if_pos hz]
    exact bs e2 (bs e3 ((if_pos ((lc0 h3).mpr (hz3.mpr hz))).trans (bs tz_1 (bs rfl rfl))))
  · rw [if_neg hz]
    obtain ⟨r4, e4, h4⟩ := p_inverse hN h3
    rw [iv_cg ((cg_md _).trans (cg_mul (rfl : ((2 : Nat) : Int) % 1000003 = _) (cg_md (crs X Y a b a c))))] at h4
    have hiv := iv_lt (2 * crs X Y a b a c)
    have hi : rg r4 (iv (2 * crs X Y a b a c)) 1000002 := ⟨h4, nat_lt hiv⟩
    obtain ⟨r6, e6, h6⟩ := m_dot (N := N) h ha hb ha hb
    obtain ⟨r8, e8, h8⟩ := m_dot (N := N) h ha hc ha hc
    obtain ⟨xa, exa, hxa⟩ := mp_x (N := N) h ha
    obtain ⟨ya, eya, hya⟩ := mp_y (N := N) h ha
    obtain ⟨yb, eyb, hyb⟩ := mp_y (N := N) h hb
    obtain ⟨yc, eyc, hyc⟩ := mp_y (N := N) h hc
    obtain ⟨r15, e15, h15⟩ := p_modr (N := N) (hyc.sub hya (by decide +kernel))
    obtain ⟨r20, e20, h20⟩ := p_modr (N := N) (hyb.sub hya (by decide +kernel))
    obtain ⟨r21, e21, h21⟩ := p_modr (N := N) ((h15.mul h6 (by decide +kernel)).sub (h20.mul h8 (by decide +kernel)) (by decide +kernel))
    obtain ⟨r22, e22, h22⟩ := p_modr (N := N) (hxa.add (h21.mul hi (by decide +kernel)) (by decide +kernel))
    obtain ⟨za, eza, hza⟩ := mp_y (N := N) (h.px r22) ha
    obtain ⟨wa, ewa, hwa⟩ := mp_x (N := N) (h.px r22) ha
    obtain ⟨wb, ewb, hwb⟩ := mp_x (N := N) (h.px r22) hb
    obtain ⟨wc, ewc, hwc⟩ := mp_x (N := N) (h.px r22) hc
    obtain ⟨r30, e30, h30⟩ := p_modr (N := N) (hwb.sub hwa (by decide +kernel))
    obtain ⟨r35, e35, h35⟩ := p_modr (N := N) (hwc.sub hwa (by decide +kernel))
    obtain ⟨r36, e36, h36⟩ := p_modr (N := N) ((h30.mul h8 (by decide +kernel)).sub (h35.mul h6 (by decide +kernel)) (by decide +kernel))
    obtain ⟨r37, e37, h37⟩ := p_modr (N := N) (hza.add (h36.mul hi (by decide +kernel)) (by decide +kernel))
    refine ⟨ms_set_py (ms_set_px M r22) r37, bs e2 (bs e3 ((if_neg (fun q => hz (hz3.mp ((lc0 h3).mp q)))).trans (bs e4 (bs e6 (bs e8 (bs exa (bs eyc (bs eya (bs e15 (bs eyb (bs eya (bs e20 (bs e21 (bs e22 (bs rfl (bs eza (bs ewb (bs ewa (bs e30 (bs ewc (bs ewa (bs e35 (bs e36 (bs e37 (bs rfl rfl))))))))))))))))))))))))), r22, r37, rfl, ?_, ?_⟩
    · have m1 : ((Y c - Y a) % 1000003 * (dtp X Y a b a b % 1000003)) % 1000003 = (dtp X Y a b a b * (Y c - Y a)) % 1000003 := by
        rw [Int.mul_comm]
        exact cg_mul (cg_md _) (cg_md _)
      have m2 : ((Y b - Y a) % 1000003 * (dtp X Y a c a c % 1000003)) % 1000003 = (dtp X Y a c a c * (Y b - Y a)) % 1000003 := by
        rw [Int.mul_comm]
        exact cg_mul (cg_md _) (cg_md _)
      rw [h22.1]
      exact cg_add rfl (cg_mul ((cg_md _).trans (cg_sub m1 m2)) rfl)
    · have m1 : ((X b - X a) % 1000003 * (dtp X Y a c a c % 1000003)) % 1000003 = (dtp X Y a c a c * (X b - X a)) % 1000003 := by
        rw [Int.mul_comm]
        exact cg_mul (cg_md _) (cg_md _)
      have m2 : ((X c - X a) % 1000003 * (dtp X Y a b a b % 1000003)) % 1000003 = (dtp X Y a b a b * (X c - X a)) % 1000003 := by
        rw [Int.mul_comm]
        exact cg_mul (cg_md _) (cg_md _)
      rw [h37.1]
      exact cg_add rfl (cg_mul ((cg_md _).trans (cg_sub m1 m2)) rfl)
theorem m_cir (hN : 25 ≤ N) (h : mcx M g n X Y) (ha : a < n) (hb : b < n) {t : Int64} {T : Int} (ht : rg t T 1000002) : MR M (t_Mo_round N (nI a) (nI b) t M) (sCir X Y a b T) := by
  obtain ⟨r1, e1, h1⟩ := p_modr (N := N) ((rg.c (x := 1) (n := 1) (by decide +kernel)).add (ht.mul ht (by decide +kernel)) (by decide +kernel))
  unfold t_Mo_round sCir
  by_cases hz : (1 + T * T) % 1000003 = 0
  · rw [if_pos hz]
    exact bs e1 ((if_pos ((lc0 h1).mpr hz)).trans (bs tz_1 (bs rfl rfl)))
  · rw [if_neg hz]
    obtain ⟨xa, exa, hxa⟩ := mp_x (N := N) h ha
    obtain ⟨xb, exb, hxb⟩ := mp_x (N := N) h hb
    obtain ⟨ya, eya, hya⟩ := mp_y (N := N) h ha
    obtain ⟨yb, eyb, hyb⟩ := mp_y (N := N) h hb
    obtain ⟨r10, e10, h10⟩ := p_modr (N := N) (hyb.sub hya (by decide +kernel))
    obtain ⟨r11, e11, h11⟩ := p_modr (N := N) ((hxb.sub hxa (by decide +kernel)).add (ht.mul h10 (by decide +kernel)) (by decide +kernel))
    obtain ⟨r12, e12, h12⟩ := p_inverse hN h1
    rw [iv_cg (cg_md _)] at h12
    have hiv := iv_lt (1 + T * T)
    have hi : rg r12 (iv (1 + T * T)) 1000002 := ⟨h12, nat_lt hiv⟩
    obtain ⟨r13, e13, h13⟩ := p_modr (N := N) (((rg.c (x := 2) (n := 2) (by decide +kernel)).mul h11 (by decide +kernel)).md.mul hi (by decide +kernel))
    obtain ⟨r16, e16, h16⟩ := p_modr (N := N) (hxb.sub h13 (by decide +kernel))
    obtain ⟨zb, ezb, hzb⟩ := mp_y (N := N) (h.px r16) hb
    obtain ⟨r20, e20, h20⟩ := p_modr (N := N) (hzb.sub (h13.mul ht (by decide +kernel)) (by decide +kernel))
    have k1 : ((X b - X a + T * ((Y b - Y a) % 1000003)) % 1000003) % 1000003 = (X b - X a + T * (Y b - Y a)) % 1000003 := (cg_md _).trans (cg_add rfl (cg_mul rfl (cg_md _)))
    have k2 := (cg_md _).trans (cg_mul ((tm_cg _).trans (cg_mul (rfl : ((2 : Nat) : Int) % 1000003 = _) k1)) (rfl : iv (1 + T * T) % 1000003 = _))
    have k3 : (2 * (X b - X a + T * (Y b - Y a)) * iv (1 + T * T)) % 1000003 = (2 * ((X b - X a + T * (Y b - Y a)) * iv (1 + T * T))) % 1000003 := by rw [Int.mul_assoc]
    refine ⟨ms_set_py (ms_set_px M r16) r20, bs e1 ((if_neg (fun q => hz ((lc0 h1).mp q))).trans (bs exb (bs exa (bs eyb (bs eya (bs e10 (bs e11 (bs e12 (bs e13 (bs exb (bs e16 (bs rfl (bs ezb (bs e20 (bs rfl rfl))))))))))))))), r16, r20, rfl, ?_, ?_⟩
    · rw [h16.1]
      exact cg_sub rfl (k2.trans k3)
    · rw [h20.1]
      exact cg_sub rfl (cg_mul (k2.trans k3) rfl)
theorem m_drawn {s : Int} (hs : (ms_rnd M).toInt = s) (h0 : 0 ≤ s) (h1 : s < 2147483647) : ∃ (r z : Int64), t_Mo_drawn N M = some (r, ms_set_rnd M z) ∧ z.toInt = nx s ∧ rg r (nx s % 1000003) 1000002 := by
  have a1 : rg (ms_rnd M) s 2147483646 := ⟨hs, by omega⟩
  have a2 := (a1.mul (rg.c (x := 48271) (n := 48271) (by decide +kernel)) (by decide +kernel)).rem 2147483647 2147483647 (by decide +kernel) (by decide +kernel) (by decide +kernel)
  obtain ⟨z, hz⟩ : ∃ z, fr_l (ms_rnd M * 48271) 2147483647 = z := ⟨_, rfl⟩
  rw [hz] at a2
  have a3 : z.toInt = nx s := by
    rw [a2.1]
    exact Int.tmod_eq_emod_of_nonneg (Int.mul_nonneg h0 (by decide))
  have hn := nx_lt s
  have a4 : rg z (nx s) 2147483646 := ⟨a3, by omega⟩
  have a5 := a4.md
  rw [Int.tmod_eq_emod_of_nonneg hn.1] at a5
  refine ⟨fr_l z 1000003, z, ?_, a3, a5⟩
  unfold t_Mo_drawn
  refine bs rfl ?_
  rw [hz]
  exact bs rfl (bs (x := z) rfl rfl)
end MGEO2
