/-! the model's geometry -/
def mcx (M : MS) (g n : Nat) (X Y : Nat → Int) : Prop := n ≤ 10 ∧ g < 5 ∧ ms_figure M = nI g ∧ ∀ p, p < n → ((ms_xs M (10 * g + p)).toInt = X p ∧ 0 ≤ X p ∧ X p < 1000003) ∧ ((ms_ys M (10 * g + p)).toInt = Y p ∧ 0 ≤ Y p ∧ Y p < 1000003)
theorem mcx.px {M : MS} {g n : Nat} {X Y : Nat → Int} (h : mcx M g n X Y) (r : Int64) : mcx (ms_set_px M r) g n X Y := h
theorem mcx.ix {M : MS} {g n : Nat} {X Y : Nat → Int} (h : mcx M g n X Y) {p : Nat} (hp : p < n) : 10 * ms_figure M + nI p = nI (10 * g + p) := by
  rw [h.2.2.1, show (10 : Int32) = nI 10 from rfl, pk_mul, nI_add]
theorem mp_x {N : Nat} {M : MS} {g n : Nat} {X Y : Nat → Int} (h : mcx M g n X Y) {p : Nat} (hp : p < n) : ∃ r, t_Mo_px N (nI p) M = some r ∧ rg r (X p) 1000002 := by
  have h1 := (h.2.2.2 p hp).1
  refine ⟨ms_xs M (10 * g + p), ?_, h1.1, by omega⟩
  unfold t_Mo_px
  refine bs rfl ?_
  rw [h.ix hp]
  exact bs (ta_n (by have := h.1; have := h.2.1; omega) (by decide)) rfl
theorem mp_y {N : Nat} {M : MS} {g n : Nat} {X Y : Nat → Int} (h : mcx M g n X Y) {p : Nat} (hp : p < n) : ∃ r, t_Mo_py N (nI p) M = some r ∧ rg r (Y p) 1000002 := by
  have h1 := (h.2.2.2 p hp).2
  refine ⟨ms_ys M (10 * g + p), ?_, h1.1, by omega⟩
  unfold t_Mo_py
  refine bs rfl ?_
  rw [h.ix hp]
  exact bs (ta_n (by have := h.1; have := h.2.1; omega) (by decide)) rfl
theorem p_modr {N : Nat} {x : Int64} {v : Int} {A : Nat} (hx : rg x v A) : ∃ r, t_Mo_mod N x = some r ∧ rg r (v % 1000003) 1000002 := by
  obtain ⟨r, e, h⟩ := p_mod (N := N) hx
  exact ⟨r, e, h, by omega⟩
section MGEO
variable {N : Nat} {M : MS} {g n : Nat} {X Y : Nat → Int} {a b c d : Nat}
theorem m_cross (h : mcx M g n X Y) (ha : a < n) (hb : b < n) (hc : c < n) (hd : d < n) : ∃ r, t_Mo_cross N (nI a) (nI b) (nI c) (nI d) M = some r ∧ rg r (crs X Y a b c d % 1000003) 1000002 := by
  obtain ⟨xa, exa, hxa⟩ := mp_x (N := N) h ha
  obtain ⟨xb, exb, hxb⟩ := mp_x (N := N) h hb
  obtain ⟨xc, exc, hxc⟩ := mp_x (N := N) h hc
  obtain ⟨xd, exd, hxd⟩ := mp_x (N := N) h hd
  obtain ⟨ya, eya, hya⟩ := mp_y (N := N) h ha
  obtain ⟨yb, eyb, hyb⟩ := mp_y (N := N) h hb
  obtain ⟨yc, eyc, hyc⟩ := mp_y (N := N) h hc
  obtain ⟨yd, eyd, hyd⟩ := mp_y (N := N) h hd
  obtain ⟨r, e, hr⟩ := p_modr (N := N) (((hxb.sub hxa (by decide +kernel)).mul (hyd.sub hyc (by decide +kernel)) (by decide +kernel)).sub ((hyb.sub hya (by decide +kernel)).mul (hxd.sub hxc (by decide +kernel)) (by decide +kernel)) (by decide +kernel))
  refine ⟨r, ?_, hr⟩
  unfold t_Mo_cross
  exact bs exb (bs exa (bs eyd (bs eyc (bs eyb (bs eya (bs exd (bs exc (bs rfl (bs e rfl)))))))))
theorem m_dot (h : mcx M g n X Y) (ha : a < n) (hb : b < n) (hc : c < n) (hd : d < n) : ∃ r, t_Mo_dot N (nI a) (nI b) (nI c) (nI d) M = some r ∧ rg r (dtp X Y a b c d % 1000003) 1000002 := by
  obtain ⟨xa, exa, hxa⟩ := mp_x (N := N) h ha
  obtain ⟨xb, exb, hxb⟩ := mp_x (N := N) h hb
  obtain ⟨xc, exc, hxc⟩ := mp_x (N := N) h hc
  obtain ⟨xd, exd, hxd⟩ := mp_x (N := N) h hd
  obtain ⟨ya, eya, hya⟩ := mp_y (N := N) h ha
  obtain ⟨yb, eyb, hyb⟩ := mp_y (N := N) h hb
  obtain ⟨yc, eyc, hyc⟩ := mp_y (N := N) h hc
  obtain ⟨yd, eyd, hyd⟩ := mp_y (N := N) h hd
  obtain ⟨r, e, hr⟩ := p_modr (N := N) (((hxb.sub hxa (by decide +kernel)).mul (hxd.sub hxc (by decide +kernel)) (by decide +kernel)).add ((hyb.sub hya (by decide +kernel)).mul (hyd.sub hyc (by decide +kernel)) (by decide +kernel)) (by decide +kernel))
  refine ⟨r, ?_, hr⟩
  unfold t_Mo_dot
  exact bs exb (bs exa (bs exd (bs exc (bs eyb (bs eya (bs eyd (bs eyc (bs rfl (bs e rfl)))))))))
/-- the model's place -/
def MFnd (M M' : MS) (x y : Int) : Prop := ∃ r1 r2 : Int64, M' = ms_set_py (ms_set_px M r1) r2 ∧ r1.toInt = x ∧ r2.toInt = y
def MR (M : MS) (e : Option MS) (o : Option (Int × Int)) : Prop := match o with
  | none => e = some (ms_set_isFallen M 1)
  | some q => ∃ M', e = some M' ∧ MFnd M M' q.1 q.2
theorem m_along (h : mcx M g n X Y) (ha : a < n) (hb : b < n) {t : Int64} {T : Int} (ht : rg t T 1000002) : MR M (t_Mo_along N (nI a) (nI b) t M) (some (sAl X Y a b T)) := by
  obtain ⟨xa, exa, hxa⟩ := mp_x (N := N) h ha
  obtain ⟨xb, exb, hxb⟩ := mp_x (N := N) h hb
  obtain ⟨r1, e1, h1⟩ := p_mod (N := N) (hxa.add ((hxb.sub hxa (by decide +kernel)).mul ht (by decide +kernel)) (by decide +kernel))
  obtain ⟨ya, eya, hya⟩ := mp_y (N := N) (h.px r1) ha
  obtain ⟨yb, eyb, hyb⟩ := mp_y (N := N) (h.px r1) hb
  obtain ⟨r2, e2, h2⟩ := p_mod (N := N) (hya.add ((hyb.sub hya (by decide +kernel)).mul ht (by decide +kernel)) (by decide +kernel))
  refine ⟨_, ?_, r1, r2, rfl, ?_, ?_⟩
  · unfold t_Mo_along
    exact bs exa (bs exb (bs exa (bs e1 (bs rfl (bs eya (bs eyb (bs eya (bs e2 (bs rfl rfl)))))))))
  · rw [h1, Int.mul_comm]
    rfl
  · rw [h2, Int.mul_comm]
    rfl
theorem m_meet (hN : 25 ≤ N) (h : mcx M g n X Y) (ha : a < n) (hb : b < n) (hc : c < n) (hd : d < n) : MR M (t_Mo_meet N (nI a) (nI b) (nI c) (nI d) M) (sMeet X Y a b c d) := by
  obtain ⟨r2, e2, h2⟩ := m_cross (N := N) h ha hb hc hd
  obtain ⟨r4, e4, h4⟩ := m_cross (N := N) h ha hc hc hd
  unfold t_Mo_meet sMeet
  by_cases hz : crs X Y a b c d % 1000003 = 0
  · rw [if_pos hz]
    exact bs e2 ((if_pos ((lc0 h2).mpr hz)).trans (bs tz_1 (bs rfl rfl)))
  · rw [if_neg hz]
    obtain ⟨r5, e5, h5⟩ := p_inverse hN h2
    rw [iv_cg (cg_md _)] at h5
    have hiv := iv_lt (crs X Y a b c d)
    have hi : rg r5 (iv (crs X Y a b c d)) 1000002 := ⟨h5, by omega⟩
    obtain ⟨M', e, hf⟩ := m_along (N := N) h ha hb (h4.mul hi (by decide +kernel)).md
    refine ⟨M', bs e2 ((if_neg (fun q => hz ((lc0 h2).mp q))).trans (bs e4 (bs e5 (bs e rfl)))), ?_⟩
    have hc := (tm_cg _).trans (cg_mul (cg_md (crs X Y a c c d)) (rfl : iv (crs X Y a b c d) % 1000003 = _))
    unfold sAl at hf ⊢
    rw [← cg_add rfl (cg_mul hc rfl), ← cg_add rfl (cg_mul hc rfl)]
    exact hf
theorem m_out (hN : 25 ≤ N) (h : mcx M g n X Y) (ha : a < n) (hb : b < n) (hc : c < n) : MR M (t_Mo_turnOut N (nI a) (nI b) (nI c) M) (sOut X Y a b c) := by
  obtain ⟨r2, e2, h2⟩ := m_dot (N := N) h hb ha hb ha
  obtain ⟨r4, e4, h4⟩ := m_dot (N := N) h hb hc hb hc
  unfold t_Mo_turnOut sOut
  by_cases hz : dtp X Y b a b a % 1000003 = 0
  · rw [if_pos hz]
    exact bs e2 ((if_pos ((lc0 h2).mpr hz)).trans (bs tz_1 (bs rfl rfl)))
  · rw [if_neg hz]
    obtain ⟨r5, e5, h5⟩ := p_inverse hN h2
    rw [iv_cg (cg_md _)] at h5
    have hiv := iv_lt (dtp X Y b a b a)
    have hi : rg r5 (iv (dtp X Y b a b a)) 1000002 := ⟨h5, by omega⟩
    obtain ⟨M', e, hf⟩ := m_along (N := N) h hb ha (h4.mul hi (by decide +kernel)).md
    refine ⟨M', bs e2 ((if_neg (fun q => hz ((lc0 h2).mp q))).trans (bs e4 (bs e5 (bs e rfl)))), ?_⟩
    have hc := (tm_cg _).trans (cg_mul (cg_md (dtp X Y b c b c)) (rfl : iv (dtp X Y b a b a) % 1000003 = _))
    unfold sAl at hf ⊢
    rw [← cg_add rfl (cg_mul hc rfl), ← cg_add rfl (cg_mul hc rfl)]
    exact hf
theorem m_foot (hN : 25 ≤ N) (h : mcx M g n X Y) (hb : b < n) (hc : c < n) {x y : Int64} {px py : Int} (hx : rg x px 1000002) (hy : rg y py 1000002) : MR M (t_Mo_foot N x y (nI b) (nI c) M) (sFoot X Y px py b c) := by
  obtain ⟨r2, e2, h2⟩ := m_dot (N := N) h hb hc hb hc
  unfold t_Mo_foot sFoot
  by_cases hz : dtp X Y b c b c % 1000003 = 0
  · rw [if_pos hz]
    exact bs e2 ((if_pos ((lc0 h2).mpr hz)).trans (bs tz_1 (bs rfl rfl)))
  · rw [if_neg hz]
    obtain ⟨xb, exb, hxb⟩ := mp_x (N := N) h hb
    obtain ⟨xc, exc, hxc⟩ := mp_x (N := N) h hc
    obtain ⟨yb, eyb, hyb⟩ := mp_y (N := N) h hb
    obtain ⟨yc, eyc, hyc⟩ := mp_y (N := N) h hc
    obtain ⟨q5, f5, h5⟩ := p_modr (N := N) (hx.sub hxb (by decide +kernel))
    obtain ⟨q10, f10, h10⟩ := p_modr (N := N) (hxc.sub hxb (by decide +kernel))
    obtain ⟨q13, f13, h13⟩ := p_modr (N := N) (hy.sub hyb (by decide +kernel))
    obtain ⟨q18, f18, h18⟩ := p_modr (N := N) (hyc.sub hyb (by decide +kernel))
    obtain ⟨q20, f20, h20⟩ := p_modr (N := N) ((h5.mul h10 (by decide +kernel)).md.add (h13.mul h18 (by decide +kernel)).md (by decide +kernel))
    obtain ⟨r21, e21, h21⟩ := p_inverse hN h2
    rw [iv_cg (cg_md _)] at h21
    have hiv := iv_lt (dtp X Y b c b c)
    have hi : rg r21 (iv (dtp X Y b c b c)) 1000002 := ⟨h21, by omega⟩
    obtain ⟨M', e, hf⟩ := m_along (N := N) h hb hc (h20.mul hi (by decide +kernel)).md
    refine ⟨M', bs e2 ((if_neg (fun q => hz ((lc0 h2).mp q))).trans (bs exb (bs f5 (bs exc (bs exb (bs f10 (bs eyb (bs f13 (bs eyc (bs eyb (bs f18 (bs rfl (bs f20 (bs e21 (bs e rfl))))))))))))))), ?_⟩
    have k1 := (cg_md _).trans (cg_add ((tm_cg _).trans (cg_mul (cg_md (px - X b)) (cg_md (X c - X b)))) ((tm_cg _).trans (cg_mul (cg_md (py - Y b)) (cg_md (Y c - Y b)))))
    have hcc := (tm_cg _).trans (cg_mul k1 (rfl : iv (dtp X Y b c b c) % 1000003 = _))
    unfold sAl at hf ⊢
    rw [← cg_add rfl (cg_mul hcc rfl), ← cg_add rfl (cg_mul hcc rfl)]
    exact hf
end MGEO
