/-- the rest of a division as Java has it -/
theorem ri.rem {x : Int32} {v : Int} {A : Nat} (hx : ri x v A) (d : Int32) (m : Nat) (hd : d.toInt = m) (hm : 0 < m) (hm2 : m < 2147483648) : ri (fr_i x d) (v.tmod m) (m - 1) := by
  obtain ⟨rfl, h1⟩ := hx
  have ne : d ≠ -1 := by
    intro q
    have : d.toInt = -1 := by rw [q]; decide
    omega
  have hdiv := Int32.toInt_div_of_ne_right x d ne
  have hlt := x.toInt_lt
  have hle := x.le_toInt
  have e : (fr_i x d).toInt = x.toInt.tmod m := by
    unfold fr_i
    rw [Int32.toInt_sub, Int32.toInt_mul, hdiv, hd, Int.tmod_def]
    have h2 : x.toInt.tdiv m * m = x.toInt - x.toInt.tmod m := by
      have := Int.tdiv_mul_add_tmod x.toInt m
      omega
    have h3 : (x.toInt.tmod m).natAbs = x.toInt.natAbs % m := by rw [Int.natAbs_tmod]; rfl
    have h4 : (x.toInt.tmod m).natAbs ≤ x.toInt.natAbs := by rw [h3]; exact Nat.mod_le _ _
    have h6 : 0 ≤ x.toInt → 0 ≤ x.toInt.tmod m := fun h => Int.tmod_nonneg _ h
    have h7 : x.toInt ≤ 0 → x.toInt.tmod m ≤ 0 := fun h => by
      have := Int.tmod_nonneg m (show 0 ≤ -x.toInt by omega)
      rw [Int.neg_tmod] at this
      omega
    have h5 : (x.toInt.tdiv m * m).bmod (2 ^ 32) = x.toInt.tdiv m * m := by
      rw [h2]
      apply bm32
      · rcases Int.le_total 0 x.toInt with h | h
        · have := h6 h; omega
        · have := h7 h; omega
      · rcases Int.le_total 0 x.toInt with h | h
        · have := h6 h; omega
        · have := h7 h; omega
    rw [h5, Int.mul_comm ↑m, bm32]
    · rw [h2]
      rcases Int.le_total 0 x.toInt with h | h
      · have := h6 h; omega
      · have := h7 h; omega
    · rw [h2]
      rcases Int.le_total 0 x.toInt with h | h
      · have := h6 h; omega
      · have := h7 h; omega
  refine ⟨e, ?_⟩
  rw [Int.natAbs_tmod]
  have := Nat.mod_lt x.toInt.natAbs hm
  show x.toInt.natAbs % (m : Int).natAbs ≤ m - 1
  rw [Int.natAbs_natCast]
  omega
theorem ri.md {x : Int32} {v : Int} {A : Nat} (hx : ri x v A) : ri (fr_i x 1000003) (v.tmod 1000003) 1000002 := hx.rem 1000003 1000003 (by decide +kernel) (by decide +kernel) (by decide +kernel)
/-- a Boolean as an int -/
def bI (b : Bool) : Int32 := if b = true then 1 else 0
theorem bI_0 {b : Bool} : bI b = 0 ↔ ¬ b = true := by
  cases b <;> decide
theorem bI_1 {b : Bool} : bI b = 1 ↔ b = true := by
  cases b <;> decide
theorem bI_tz (b : Bool) : tz (bI b) = some (bI b) := by
  cases b <;> decide
theorem ifb {c : Prop} [Decidable c] {b : Bool} (h : c ↔ b = true) : (if c then some (1 : Int32) else some 0) = some (bI b) := by
  by_cases hc : c
  · rw [if_pos hc, h.mp hc]
    rfl
  · rw [if_neg hc]
    cases b
    · rfl
    · exact absurd (h.mpr rfl) hc
theorem lgz {x y : Int64} {v w : Int} {A B : Nat} (hx : rg x v A) (hy : rg y w B) : lg_cmp x y = 0 ↔ v = w := by
  rw [lg_cmp_eq, ← Int64.toInt_inj, hx.1, hy.1]
theorem rg_0 : rg (0 : Int64) 0 0 := ⟨by decide, by decide⟩
theorem ri_eq {x y : Int32} {v w : Int} {A B : Nat} (hx : ri x v A) (hy : ri y w B) : x = y ↔ v = w := by
  rw [← Int32.toInt_inj, hx.1, hy.1]
theorem ri_z {x : Int32} {v : Int} {A : Nat} (hx : ri x v A) : x = 0 ↔ v = 0 := ri_eq hx (show ri (0 : Int32) 0 0 from ⟨by decide, by decide⟩)
/-- the points of a packed fact -/
def rk (w k : Nat) : Nat := w / 16 ^ k % 16
theorem rk_lt (w k : Nat) : rk w k < 16 := Nat.mod_lt _ (by decide)
theorem p_unpack {N w k : Nat} (hw : w < 2147483648) (hk : k < 6) : t_FF_unpack N (nI w) (nI k) = some (nI (rk w k)) := by
  unfold t_FF_unpack rk
  have h : nI w >>> ((nI k * 4) &&& 31) = nI (w / 2 ^ (4 * k)) := by
    apply pk_shrN (by omega)
    match k, hk with
    | 0, _ => decide
    | 1, _ => decide
    | 2, _ => decide
    | 3, _ => decide
    | 4, _ => decide
    | 5, _ => decide
    | k + 6, h => omega
  rw [h, pk_andN (Nat.lt_of_le_of_lt (Nat.div_le_self _ _) (by omega)) 4 (by decide), Nat.pow_mul]
/-- how many points a fact of each kind is of -/
def npk : Nat → Nat := fun k => ([2, 3, 4, 4, 4, 4, 3, 6, 4] : List Nat).getD k 0
/-- a fact in a figure; m and n are of the ratio -/
def sho (X Y : Nat → Int) (k : Nat) (v : Nat → Nat) (m n : Nat) : Bool := match k with
  | 0 => decide (X (v 0) = X (v 1) ∧ Y (v 0) = Y (v 1))
  | 1 => decide (crs X Y (v 0) (v 1) (v 0) (v 2) % 1000003 = 0)
  | 2 => decide (crs X Y (v 0) (v 1) (v 2) (v 3) % 1000003 = 0)
  | 3 => decide (dtp X Y (v 0) (v 1) (v 2) (v 3) % 1000003 = 0)
  | 4 => decide (dtp X Y (v 0) (v 1) (v 0) (v 1) % 1000003 = dtp X Y (v 2) (v 3) (v 2) (v 3) % 1000003)
  | 5 => decide ((dtp X Y (v 0) (v 1) (v 0) (v 1) * crs X Y (v 0) (v 2) (v 0) (v 3) - dtp X Y (v 0) (v 2) (v 0) (v 2) * crs X Y (v 0) (v 1) (v 0) (v 3) + dtp X Y (v 0) (v 3) (v 0) (v 3) * crs X Y (v 0) (v 1) (v 0) (v 2)) % 1000003 = 0)
  | 6 => decide ((2 * X (v 0) - X (v 1) - X (v 2)) % 1000003 = 0 ∧ (2 * Y (v 0) - Y (v 1) - Y (v 2)) % 1000003 = 0)
  | 7 => decide (crs X Y (v 0) (v 1) (v 0) (v 2) * crs X Y (v 0) (v 1) (v 0) (v 2) % 1000003 = crs X Y (v 3) (v 4) (v 3) (v 5) * crs X Y (v 3) (v 4) (v 3) (v 5) % 1000003)
  | _ => decide ((m : Int) * dtp X Y (v 0) (v 1) (v 0) (v 1) % 1000003 = (n : Int) * dtp X Y (v 2) (v 3) (v 2) (v 3) % 1000003)
theorem sub_z {a b : Int} : (a - b) % 1000003 = 0 ↔ a % 1000003 = b % 1000003 := by
  rw [Int.emod_eq_emod_iff_emod_sub_eq_zero]
section SHO
variable {N : Nat} {S : CS} {M : MS} {i g n : Nat} {X Y : Nat → Int} {w : Nat}
theorem p_circle {a b c d : Nat} (h : fcx S i n X Y) (ha : a < n) (hb : b < n) (hc : c < n) (hd : d < n) : t_Fi_showsCircle N i (nI a) (nI b) (nI c) (nI d) S = some (bI (decide ((dtp X Y a b a b * crs X Y a c a d - dtp X Y a c a c * crs X Y a b a d + dtp X Y a d a d * crs X Y a b a c) % 1000003 = 0))) := by
  obtain ⟨r1, e1, h1⟩ := p_length (N := N) h ha hb
  obtain ⟨r2, e2, h2⟩ := p_cross (N := N) h ha hc ha hd
  obtain ⟨r3, e3, h3⟩ := p_length (N := N) h ha hc
  obtain ⟨r4, e4, h4⟩ := p_cross (N := N) h ha hb ha hd
  obtain ⟨r5, e5, h5⟩ := p_length (N := N) h ha hd
  obtain ⟨r6, e6, h6⟩ := p_cross (N := N) h ha hb ha hc
  have q := (((h1.mul h2 (by decide +kernel)).sub (h3.mul h4 (by decide +kernel)) (by decide +kernel)).add (h5.mul h6 (by decide +kernel)) (by decide +kernel)).md
  unfold t_Fi_showsCircle
  refine bs e1 (bs e2 (bs e3 (bs e4 (bs e5 (bs e6 (bs rfl (ifb ?_)))))))
  rw [lgz q rg_0, tm_zero, decide_eq_true_iff]
  rw [cg_add (cg_sub (cg_mul (cg_md _) (tm_cg _)) (cg_mul (cg_md _) (tm_cg _))) (cg_mul (cg_md _) (tm_cg _))]
theorem p_shows {k : Nat} (h : fcx S i n X Y) (hk : k < 9) (hw : w < 2147483648) (hp : ∀ j, j < npk k → rk w j < n) : t_Fi_shows N i (nI k) (nI w) S = some (bI (sho X Y k (rk w) (rk w 4) (rk w 5))) := by
  have u0 := p_unpack (N := N) hw (k := 0) (by decide)
  have u1 := p_unpack (N := N) hw (k := 1) (by decide)
  have u2 := p_unpack (N := N) hw (k := 2) (by decide)
  have u3 := p_unpack (N := N) hw (k := 3) (by decide)
  have u4 := p_unpack (N := N) hw (k := 4) (by decide)
  have u5 := p_unpack (N := N) hw (k := 5) (by decide)
  unfold t_Fi_shows
  refine bs u0 (bs u1 (bs u2 (bs u3 (bs u4 (bs u5 ?_)))))
  match k, hk, hp with
  | 0, _, hp =>
    have p0 := hp 0 (by decide)
    have p1 := hp 1 (by decide)
    refine (if_pos rfl).trans (bs (h.tx p0) (bs (h.tx p1) ?_))
    show _ = some (bI (decide (X (rk w 0) = X (rk w 1) ∧ Y (rk w 0) = Y (rk w 1))))
    by_cases hx : X (rk w 0) = X (rk w 1)
    · refine (if_pos ((ri_eq (h.x p0) (h.x p1)).mpr hx)).trans (bs (h.ty p0) (bs (h.ty p1) (ifb ?_)))
      rw [ri_eq (h.y p0) (h.y p1), decide_eq_true_iff]
      exact ⟨fun z => ⟨hx, z⟩, fun z => z.2⟩
    · refine (if_neg (fun z => hx ((ri_eq (h.x p0) (h.x p1)).mp z))).trans ?_
      rw [decide_eq_false (fun z => hx z.1)]
      rfl
  | 1, _, hp =>
    obtain ⟨r1, e1, h1⟩ := p_cross (N := N) h (hp 0 (by decide)) (hp 1 (by decide)) (hp 0 (by decide)) (hp 2 (by decide))
    refine (if_neg (by decide)).trans ((if_pos rfl).trans (bs e1 (ifb ?_)))
    rw [lgz h1 rg_0, tm_zero]
    exact decide_eq_true_iff.symm
  | 2, _, hp =>
    obtain ⟨r1, e1, h1⟩ := p_cross (N := N) h (hp 0 (by decide)) (hp 1 (by decide)) (hp 2 (by decide)) (hp 3 (by decide))
    refine (if_neg (by decide)).trans ((if_neg (by decide)).trans ((if_pos rfl).trans (bs e1 (ifb ?_))))
    rw [lgz h1 rg_0, tm_zero]
    exact decide_eq_true_iff.symm
  | 3, _, hp =>
    obtain ⟨r1, e1, h1⟩ := p_dot (N := N) h (hp 0 (by decide)) (hp 1 (by decide)) (hp 2 (by decide)) (hp 3 (by decide))
    refine (if_neg (by decide)).trans ((if_neg (by decide)).trans ((if_neg (by decide)).trans ((if_pos rfl).trans (bs e1 (ifb ?_)))))
    rw [lgz h1 rg_0, tm_zero]
    exact decide_eq_true_iff.symm
  | 4, _, hp =>
    obtain ⟨r1, e1, h1⟩ := p_length (N := N) h (hp 0 (by decide)) (hp 1 (by decide))
    obtain ⟨r2, e2, h2⟩ := p_length (N := N) h (hp 2 (by decide)) (hp 3 (by decide))
    refine (if_neg (by decide)).trans ((if_neg (by decide)).trans ((if_neg (by decide)).trans ((if_neg (by decide)).trans ((if_pos rfl).trans (bs e1 (bs e2 (ifb ?_)))))))
    rw [lgz h1 h2]
    exact decide_eq_true_iff.symm
  | 5, _, hp =>
    have e1 := p_circle (N := N) h (hp 0 (by decide)) (hp 1 (by decide)) (hp 2 (by decide)) (hp 3 (by decide))
    exact (if_neg (by decide)).trans ((if_neg (by decide)).trans ((if_neg (by decide)).trans ((if_neg (by decide)).trans ((if_neg (by decide)).trans ((if_pos rfl).trans (bs e1 (bs (bI_tz _) rfl)))))))
  | 6, _, hp =>
    have p0 := hp 0 (by decide)
    have p1 := hp 1 (by decide)
    have p2 := hp 2 (by decide)
    have c2 : ri (2 : Int32) 2 2 := ⟨by decide, by decide⟩
    have qx := ((((c2.mul (h.x p0) (by decide)).sub (h.x p1) (by decide)).sub (h.x p2) (by decide)).md)
    have qy := ((((c2.mul (h.y p0) (by decide)).sub (h.y p1) (by decide)).sub (h.y p2) (by decide)).md)
    have zx := ri_z qx
    have zy := ri_z qy
    rw [tm_zero] at zx zy
    refine (if_neg (by decide)).trans ((if_neg (by decide)).trans ((if_neg (by decide)).trans ((if_neg (by decide)).trans ((if_neg (by decide)).trans ((if_neg (by decide)).trans ((if_pos rfl).trans (bs (h.tx p0) (bs (h.tx p1) (bs (h.tx p2) ?_)))))))))
    show _ = some (bI (decide ((2 * X (rk w 0) - X (rk w 1) - X (rk w 2)) % 1000003 = 0 ∧ (2 * Y (rk w 0) - Y (rk w 1) - Y (rk w 2)) % 1000003 = 0)))
    by_cases hx : (2 * X (rk w 0) - X (rk w 1) - X (rk w 2)) % 1000003 = 0
    · refine (if_pos (zx.mpr hx)).trans (bs (h.ty p0) (bs (h.ty p1) (bs (h.ty p2) (ifb ?_))))
      rw [zy, decide_eq_true_iff]
      exact ⟨fun z => ⟨hx, z⟩, fun z => z.2⟩
    · refine (if_neg (fun z => hx (zx.mp z))).trans ?_
      rw [decide_eq_false (fun z => hx z.1)]
      rfl
  | 7, _, hp =>
    obtain ⟨r1, e1, h1⟩ := p_sqarea (N := N) h (hp 0 (by decide)) (hp 1 (by decide)) (hp 2 (by decide))
    obtain ⟨r2, e2, h2⟩ := p_sqarea (N := N) h (hp 3 (by decide)) (hp 4 (by decide)) (hp 5 (by decide))
    refine (if_neg (by decide)).trans ((if_neg (by decide)).trans ((if_neg (by decide)).trans ((if_neg (by decide)).trans ((if_neg (by decide)).trans ((if_neg (by decide)).trans ((if_neg (by decide)).trans ((if_pos rfl).trans (bs e1 (bs e2 (ifb ?_))))))))))
    rw [lgz h1 h2]
    exact decide_eq_true_iff.symm
  | 8, _, hp =>
    obtain ⟨r1, e1, h1⟩ := p_length (N := N) h (hp 0 (by decide)) (hp 1 (by decide))
    obtain ⟨r2, e2, h2⟩ := p_length (N := N) h (hp 2 (by decide)) (hp 3 (by decide))
    have a4 : rg (nI (rk w 4)).toInt64 (rk w 4 : Int) 16 := (show ri (nI (rk w 4)) (rk w 4 : Int) 16 from ⟨nI_toInt (by have := rk_lt w 4; omega), by have := rk_lt w 4; omega⟩).l
    have a5 : rg (nI (rk w 5)).toInt64 (rk w 5 : Int) 16 := (show ri (nI (rk w 5)) (rk w 5 : Int) 16 from ⟨nI_toInt (by have := rk_lt w 5; omega), by have := rk_lt w 5; omega⟩).l
    have q1 := (a4.mul h1 (by decide)).md
    have q2 := (a5.mul h2 (by decide)).md
    refine (if_neg (by decide)).trans ((if_neg (by decide)).trans ((if_neg (by decide)).trans ((if_neg (by decide)).trans ((if_neg (by decide)).trans ((if_neg (by decide)).trans ((if_neg (by decide)).trans ((if_neg (by decide)).trans ((if_pos rfl).trans (bs e1 (bs e2 (ifb ?_)))))))))))
    rw [lgz q1 q2, Int.tmod_eq_emod_of_nonneg (Int.mul_nonneg (by omega) (Int.emod_nonneg _ (by decide))), Int.tmod_eq_emod_of_nonneg (Int.mul_nonneg (by omega) (Int.emod_nonneg _ (by decide))), cg_mul rfl (cg_md _), cg_mul rfl (cg_md (dtp X Y (rk w 2) (rk w 3) (rk w 2) (rk w 3)))]
    exact decide_eq_true_iff.symm
  | k + 9, hk, _ => exact absurd hk (by omega)
/-! the model -/
theorem m_length {a b : Nat} (h : mcx M g n X Y) (ha : a < n) (hb : b < n) : ∃ r, t_Mo_length N (nI a) (nI b) M = some r ∧ rg r (dtp X Y a b a b % 1000003) 1000002 := by
  obtain ⟨r, e, hr⟩ := m_dot (N := N) h ha hb ha hb
  exact ⟨r, bs e rfl, hr⟩
theorem m_square {x : Int64} {v : Int} (hx : rg x v 1000002) : ∃ r, t_Mo_square N x = some r ∧ rg r (v * v % 1000003) 1000002 := by
  have h2 := (hx.mul hx (by decide +kernel)).md
  have h3 : 0 ≤ v * v := by rw [← Int.natAbs_mul_self']; exact Int.natCast_nonneg _
  rw [Int.tmod_eq_emod_of_nonneg h3] at h2
  exact ⟨_, rfl, h2⟩
theorem m_lift {a d : Nat} (h : mcx M g n X Y) (ha : a < n) (hd : d < n) : ∃ r, t_Mo_lift N (nI a) (nI d) M = some r ∧ rg r ((X a * X a + Y a * Y a - X d * X d - Y d * Y d) % 1000003) 1000002 := by
  obtain ⟨r1, e1, h1⟩ := mp_x (N := N) h ha
  obtain ⟨s1, f1, k1⟩ := m_square (N := N) h1
  obtain ⟨r2, e2, h2⟩ := mp_y (N := N) h ha
  obtain ⟨s2, f2, k2⟩ := m_square (N := N) h2
  obtain ⟨r3, e3, h3⟩ := mp_x (N := N) h hd
  obtain ⟨s3, f3, k3⟩ := m_square (N := N) h3
  obtain ⟨r4, e4, h4⟩ := mp_y (N := N) h hd
  obtain ⟨s4, f4, k4⟩ := m_square (N := N) h4
  obtain ⟨r5, e5, h5⟩ := p_modr (N := N) (((k1.add k2 (by decide)).sub k3 (by decide)).sub k4 (by decide))
  unfold t_Mo_lift
  refine ⟨r5, bs e1 (bs f1 (bs e2 (bs f2 (bs e3 (bs f3 (bs e4 (bs f4 (bs e5 rfl)))))))), ?_⟩
  rw [cg_sub (cg_sub (cg_add (cg_md _) (cg_md _)) (cg_md _)) (cg_md _)] at h5
  exact h5
theorem ring_id (xa ya xb yb xc yc xd yd : Int) : (xa * xa + ya * ya - xd * xd - yd * yd) * ((xb - xd) * (yc - yd) - (yb - yd) * (xc - xd)) - (xb * xb + yb * yb - xd * xd - yd * yd) * ((xa - xd) * (yc - yd) - (ya - yd) * (xc - xd)) + (xc * xc + yc * yc - xd * xd - yd * yd) * ((xa - xd) * (yb - yd) - (ya - yd) * (xb - xd)) = -(((xb - xa) * (xb - xa) + (yb - ya) * (yb - ya)) * ((xc - xa) * (yd - ya) - (yc - ya) * (xd - xa)) - ((xc - xa) * (xc - xa) + (yc - ya) * (yc - ya)) * ((xb - xa) * (yd - ya) - (yb - ya) * (xd - xa)) + ((xd - xa) * (xd - xa) + (yd - ya) * (yd - ya)) * ((xb - xa) * (yc - ya) - (yb - ya) * (xc - xa))) := by grind
theorem neg_z {v : Int} : (-v) % 1000003 = 0 ↔ v % 1000003 = 0 := by omega
theorem m_ring {a b c d : Nat} (h : mcx M g n X Y) (ha : a < n) (hb : b < n) (hc : c < n) (hd : d < n) : ∃ r, t_Mo_ringOf N (nI a) (nI b) (nI c) (nI d) M = some r ∧ rg r ((-(dtp X Y a b a b * crs X Y a c a d - dtp X Y a c a c * crs X Y a b a d + dtp X Y a d a d * crs X Y a b a c)) % 1000003) 1000002 := by
  obtain ⟨r1, e1, h1⟩ := m_lift (N := N) h ha hd
  obtain ⟨r2, e2, h2⟩ := m_lift (N := N) h hb hd
  obtain ⟨r3, e3, h3⟩ := m_lift (N := N) h hc hd
  obtain ⟨r4, e4, h4⟩ := m_cross (N := N) h hd hb hd hc
  obtain ⟨r5, e5, h5⟩ := m_cross (N := N) h hd ha hd hc
  obtain ⟨r6, e6, h6⟩ := m_cross (N := N) h hd ha hd hb
  obtain ⟨r7, e7, h7⟩ := p_modr (N := N) (((h1.mul h4 (by decide +kernel)).sub (h2.mul h5 (by decide +kernel)).md (by decide +kernel)).add (h3.mul h6 (by decide +kernel)) (by decide +kernel))
  unfold t_Mo_ringOf
  refine ⟨r7, bs e1 (bs e2 (bs e3 (bs e4 (bs e5 (bs e6 (bs rfl (bs e7 rfl))))))), ?_⟩
  rw [cg_add (cg_sub (cg_mul (cg_md _) (cg_md _)) ((tm_cg _).trans (cg_mul (cg_md _) (cg_md _)))) (cg_mul (cg_md _) (cg_md _))] at h7
  have id := ring_id (X a) (Y a) (X b) (Y b) (X c) (Y c) (X d) (Y d)
  unfold dtp crs
  unfold crs at h7
  rw [← id]
  exact h7
theorem p_isSo {k m1 n1 : Nat} {v : Nat → Nat} (h : mcx M g n X Y) (hk : k < 9) (hv : ∀ j, j < 6 → ms_row M j = nI (v j)) (hp : ∀ j, j < npk k → v j < n) (hm : m1 < 16) (hn : n1 < 16) : t_Mo_isSo N (nI k) (nI m1) (nI n1) M = some (bI (sho X Y k v m1 n1)) := by
  have u0 : ta 6 (ms_row M) 0 = some (nI (v 0)) := by rw [show (0 : Int32) = nI 0 from rfl, ta_n (by decide) (by decide), hv 0 (by decide)]
  have u1 : ta 6 (ms_row M) 1 = some (nI (v 1)) := by rw [show (1 : Int32) = nI 1 from rfl, ta_n (by decide) (by decide), hv 1 (by decide)]
  have u2 : ta 6 (ms_row M) 2 = some (nI (v 2)) := by rw [show (2 : Int32) = nI 2 from rfl, ta_n (by decide) (by decide), hv 2 (by decide)]
  have u3 : ta 6 (ms_row M) 3 = some (nI (v 3)) := by rw [show (3 : Int32) = nI 3 from rfl, ta_n (by decide) (by decide), hv 3 (by decide)]
  have u4 : ta 6 (ms_row M) 4 = some (nI (v 4)) := by rw [show (4 : Int32) = nI 4 from rfl, ta_n (by decide) (by decide), hv 4 (by decide)]
  have u5 : ta 6 (ms_row M) 5 = some (nI (v 5)) := by rw [show (5 : Int32) = nI 5 from rfl, ta_n (by decide) (by decide), hv 5 (by decide)]
  unfold t_Mo_isSo
  refine bs u0 (bs u1 (bs u2 (bs u3 ?_)))
  match k, hk, hp with
  | 0, _, hp =>
    have p0 := hp 0 (by decide)
    have p1 := hp 1 (by decide)
    obtain ⟨r1, e1, h1⟩ := mp_x (N := N) h p0
    obtain ⟨r2, e2, h2⟩ := mp_x (N := N) h p1
    obtain ⟨r3, e3, h3⟩ := mp_y (N := N) h p0
    obtain ⟨r4, e4, h4⟩ := mp_y (N := N) h p1
    refine (if_pos rfl).trans (bs e1 (bs e2 ?_))
    show _ = some (bI (decide (X (v 0) = X (v 1) ∧ Y (v 0) = Y (v 1))))
    by_cases hx : X (v 0) = X (v 1)
    · refine (if_pos ((lgz h1 h2).mpr hx)).trans (bs e3 (bs e4 (ifb ?_)))
      rw [lgz h3 h4, decide_eq_true_iff]
      exact ⟨fun z => ⟨hx, z⟩, fun z => z.2⟩
    · refine (if_neg (fun z => hx ((lgz h1 h2).mp z))).trans ?_
      rw [decide_eq_false (fun z => hx z.1)]
      rfl
  | 1, _, hp =>
    obtain ⟨r1, e1, h1⟩ := m_cross (N := N) h (hp 0 (by decide)) (hp 1 (by decide)) (hp 0 (by decide)) (hp 2 (by decide))
    refine (if_neg (by decide)).trans ((if_pos rfl).trans (bs e1 (ifb ?_)))
    rw [lgz h1 rg_0]
    exact decide_eq_true_iff.symm
  | 2, _, hp =>
    obtain ⟨r1, e1, h1⟩ := m_cross (N := N) h (hp 0 (by decide)) (hp 1 (by decide)) (hp 2 (by decide)) (hp 3 (by decide))
    refine (if_neg (by decide)).trans ((if_neg (by decide)).trans ((if_pos rfl).trans (bs e1 (ifb ?_))))
    rw [lgz h1 rg_0]
    exact decide_eq_true_iff.symm
  | 3, _, hp =>
    obtain ⟨r1, e1, h1⟩ := m_dot (N := N) h (hp 0 (by decide)) (hp 1 (by decide)) (hp 2 (by decide)) (hp 3 (by decide))
    refine (if_neg (by decide)).trans ((if_neg (by decide)).trans ((if_neg (by decide)).trans ((if_pos rfl).trans (bs e1 (ifb ?_)))))
    rw [lgz h1 rg_0]
    exact decide_eq_true_iff.symm
  | 4, _, hp =>
    obtain ⟨r1, e1, h1⟩ := m_length (N := N) h (hp 0 (by decide)) (hp 1 (by decide))
    obtain ⟨r2, e2, h2⟩ := m_length (N := N) h (hp 2 (by decide)) (hp 3 (by decide))
    refine (if_neg (by decide)).trans ((if_neg (by decide)).trans ((if_neg (by decide)).trans ((if_neg (by decide)).trans ((if_pos rfl).trans (bs e1 (bs e2 (ifb ?_)))))))
    rw [lgz h1 h2]
    exact decide_eq_true_iff.symm
  | 5, _, hp =>
    obtain ⟨r1, e1, h1⟩ := m_ring (N := N) h (hp 0 (by decide)) (hp 1 (by decide)) (hp 2 (by decide)) (hp 3 (by decide))
    refine (if_neg (by decide)).trans ((if_neg (by decide)).trans ((if_neg (by decide)).trans ((if_neg (by decide)).trans ((if_neg (by decide)).trans ((if_pos rfl).trans (bs e1 (ifb ?_)))))))
    rw [lgz h1 rg_0, neg_z]
    exact decide_eq_true_iff.symm
  | 6, _, hp =>
    have p0 := hp 0 (by decide)
    have p1 := hp 1 (by decide)
    have p2 := hp 2 (by decide)
    obtain ⟨r1, e1, h1⟩ := mp_x (N := N) h p0
    obtain ⟨r2, e2, h2⟩ := mp_x (N := N) h p1
    obtain ⟨r3, e3, h3⟩ := mp_x (N := N) h p2
    obtain ⟨s1, f1, k1⟩ := mp_y (N := N) h p0
    obtain ⟨s2, f2, k2⟩ := mp_y (N := N) h p1
    obtain ⟨s3, f3, k3⟩ := mp_y (N := N) h p2
    have c2 : rg (2 : Int64) 2 2 := ⟨by decide, by decide⟩
    obtain ⟨r4, e4, h4⟩ := p_modr (N := N) (((c2.mul h1 (by decide)).sub h2 (by decide)).sub h3 (by decide))
    obtain ⟨s4, f4, k4⟩ := p_modr (N := N) (((c2.mul k1 (by decide)).sub k2 (by decide)).sub k3 (by decide))
    have zx := lgz h4 rg_0
    have zy := lgz k4 rg_0
    refine (if_neg (by decide)).trans ((if_neg (by decide)).trans ((if_neg (by decide)).trans ((if_neg (by decide)).trans ((if_neg (by decide)).trans ((if_neg (by decide)).trans ((if_pos rfl).trans (bs e1 (bs e2 (bs e3 (bs e4 ?_))))))))))
    show _ = some (bI (decide ((2 * X (v 0) - X (v 1) - X (v 2)) % 1000003 = 0 ∧ (2 * Y (v 0) - Y (v 1) - Y (v 2)) % 1000003 = 0)))
    by_cases hx : (2 * X (v 0) - X (v 1) - X (v 2)) % 1000003 = 0
    · refine (if_pos (zx.mpr hx)).trans (bs f1 (bs f2 (bs f3 (bs f4 (ifb ?_)))))
      rw [zy, decide_eq_true_iff]
      exact ⟨fun z => ⟨hx, z⟩, fun z => z.2⟩
    · refine (if_neg (fun z => hx (zx.mp z))).trans ?_
      rw [decide_eq_false (fun z => hx z.1)]
      rfl
  | 7, _, hp =>
    obtain ⟨r1, e1, h1⟩ := m_cross (N := N) h (hp 0 (by decide)) (hp 1 (by decide)) (hp 0 (by decide)) (hp 2 (by decide))
    obtain ⟨s1, f1, k1⟩ := m_square (N := N) h1
    obtain ⟨r2, e2, h2⟩ := m_cross (N := N) h (hp 3 (by decide)) (hp 4 (by decide)) (hp 3 (by decide)) (hp 5 (by decide))
    obtain ⟨s2, f2, k2⟩ := m_square (N := N) h2
    refine (if_neg (by decide)).trans ((if_neg (by decide)).trans ((if_neg (by decide)).trans ((if_neg (by decide)).trans ((if_neg (by decide)).trans ((if_neg (by decide)).trans ((if_neg (by decide)).trans ((if_pos rfl).trans (bs e1 (bs f1 (bs u4 (bs u5 (bs e2 (bs f2 (ifb ?_))))))))))))))
    rw [lgz k1 k2, cg_mul (cg_md _) (cg_md _), cg_mul (cg_md (crs X Y (v 3) (v 4) (v 3) (v 5))) (cg_md _)]
    exact decide_eq_true_iff.symm
  | 8, _, hp =>
    obtain ⟨r1, e1, h1⟩ := m_length (N := N) h (hp 0 (by decide)) (hp 1 (by decide))
    obtain ⟨r2, e2, h2⟩ := m_length (N := N) h (hp 2 (by decide)) (hp 3 (by decide))
    have a4 : rg (nI m1).toInt64 (m1 : Int) 16 := (show ri (nI m1) (m1 : Int) 16 from ⟨nI_toInt (by omega), by omega⟩).l
    have a5 : rg (nI n1).toInt64 (n1 : Int) 16 := (show ri (nI n1) (n1 : Int) 16 from ⟨nI_toInt (by omega), by omega⟩).l
    obtain ⟨r4, e4, h4⟩ := p_modr (N := N) ((a4.mul h1 (by decide)).sub (a5.mul h2 (by decide)) (by decide))
    refine (if_neg (by decide)).trans ((if_neg (by decide)).trans ((if_neg (by decide)).trans ((if_neg (by decide)).trans ((if_neg (by decide)).trans ((if_neg (by decide)).trans ((if_neg (by decide)).trans ((if_neg (by decide)).trans (bs e1 (bs e2 (bs e4 (ifb ?_)))))))))))
    rw [lgz h4 rg_0, cg_sub (cg_mul rfl (cg_md _)) (cg_mul rfl (cg_md _))]
    refine Iff.trans ?_ decide_eq_true_iff.symm
    exact sub_z
  | k + 9, hk, _ => exact absurd hk (by omega)
end SHO
