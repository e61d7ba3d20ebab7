/-! what a step makes, in numbers modulo the prime -/
def sAl (X Y : Nat → Int) (a b : Nat) (T : Int) : Int × Int := ((X a + T * (X b - X a)) % 1000003, (Y a + T * (Y b - Y a)) % 1000003)
def sFoot (X Y : Nat → Int) (px py : Int) (b c : Nat) : Option (Int × Int) := if dtp X Y b c b c % 1000003 = 0 then none else some (sAl X Y b c (((px - X b) * (X c - X b) + (py - Y b) * (Y c - Y b)) * iv (dtp X Y b c b c)))
def sMeet (X Y : Nat → Int) (a b c d : Nat) : Option (Int × Int) := if crs X Y a b c d % 1000003 = 0 then none else some (sAl X Y a b (crs X Y a c c d * iv (crs X Y a b c d)))
def sOut (X Y : Nat → Int) (a b c : Nat) : Option (Int × Int) := if dtp X Y b a b a % 1000003 = 0 then none else some (sAl X Y b a (dtp X Y b c b c * iv (dtp X Y b a b a)))
def sCen (X Y : Nat → Int) (a b c : Nat) : Option (Int × Int) := if crs X Y a b a c % 1000003 = 0 then none else
  some ((X a + (dtp X Y a b a b * (Y c - Y a) - dtp X Y a c a c * (Y b - Y a)) * iv (2 * crs X Y a b a c)) % 1000003, (Y a + (dtp X Y a c a c * (X b - X a) - dtp X Y a b a b * (X c - X a)) * iv (2 * crs X Y a b a c)) % 1000003)
def sCir (X Y : Nat → Int) (a b : Nat) (t : Int) : Option (Int × Int) := if (1 + t * t) % 1000003 = 0 then none else
  some ((X b - 2 * (((X b - X a) + t * (Y b - Y a)) * iv (1 + t * t))) % 1000003, (Y b - 2 * (((X b - X a) + t * (Y b - Y a)) * iv (1 + t * t)) * t) % 1000003)
/-- how the class's finders answer -/
def FR (S : CS) (i : Nat) (e : Option (Int32 × CS)) (o : Option (Int × Int)) : Prop := match o with
  | none => e = some (0, S)
  | some q => ∃ S', e = some (1, S') ∧ Fnd S S' i q.1 q.2
section GEO2
variable {N : Nat} {S : CS} {i n : Nat} {X Y : Nat → Int} {a b c d : Nat}
theorem p_foot (hN : 25 ≤ N) (h : fcx S i n X Y) (hb : b < n) (hc : c < n) {x y : Int32} {px py : Int} (hx : ri x px 1000002) (hy : ri y py 1000002) : FR S i (t_Fi_findFoot N i x y (nI b) (nI c) S) (sFoot X Y px py b c) := by
  obtain ⟨r2, e2, h2⟩ := p_length (N := N) h hb hc
  unfold t_Fi_findFoot sFoot
  by_cases hz : dtp X Y b c b c % 1000003 = 0
  · rw [if_pos hz]
    exact bs e2 (if_pos ((lc0 h2).mpr hz))
  · rw [if_neg hz]
    have hD := (((hx.sub (h.x hb) (by decide)).l.mul (h.dx hc hb) (by decide +kernel)).add ((hy.sub (h.y hb) (by decide)).l.mul (h.dy hc hb) (by decide +kernel)) (by decide +kernel)).md
    obtain ⟨r16, ivw, e16, hi, hiw⟩ := p_invert hN h2
    rw [iv_cg (cg_md _)] at hiw
    have hT := (hD.mul hi (by decide +kernel)).md
    obtain ⟨S', e, hf⟩ := p_along (N := N) h hb hc hT
    refine ⟨S', bs e2 ((if_neg (fun q => hz ((lc0 h2).mp q))).trans (bs (h.tx hb) (bs (h.tx hc) (bs (h.tx hb) (bs (h.ty hb) (bs (h.ty hc) (bs (h.ty hb) (bs rfl (bs e16 (bs e (tz_end rfl))))))))))), ?_⟩
    have hc := (tm_cg _).trans (cg_mul (tm_cg ((px - X b) * (X c - X b) + (py - Y b) * (Y c - Y b))) hiw)
    unfold sAl
    rw [← cg_add rfl (cg_mul hc rfl), ← cg_add rfl (cg_mul hc rfl)]
    exact hf
theorem p_meet (hN : 25 ≤ N) (h : fcx S i n X Y) (ha : a < n) (hb : b < n) (hc : c < n) (hd : d < n) : FR S i (t_Fi_findMeet N i (nI a) (nI b) (nI c) (nI d) S) (sMeet X Y a b c d) := by
  obtain ⟨r2, e2, h2⟩ := p_cross (N := N) h ha hb hc hd
  obtain ⟨r4, e4, h4⟩ := p_cross (N := N) h ha hc hc hd
  unfold t_Fi_findMeet sMeet
  by_cases hz : crs X Y a b c d % 1000003 = 0
  · rw [if_pos hz]
    exact bs e2 (if_pos ((lc0 h2).mpr ((tm_zero _).mpr hz)))
  · rw [if_neg hz]
    obtain ⟨r5, ivw, e5, hi, hiw⟩ := p_invert hN h2
    rw [iv_cg (tm_cg _)] at hiw
    have hT := (h4.mul hi (by decide +kernel)).md
    obtain ⟨S', e, hf⟩ := p_along (N := N) h ha hb hT
    refine ⟨S', bs e2 ((if_neg (fun q => hz ((tm_zero _).mp ((lc0 h2).mp q)))).trans (bs e4 (bs e5 (bs e (tz_end rfl))))), ?_⟩
    have hc := (tm_cg _).trans (cg_mul (tm_cg (crs X Y a c c d)) hiw)
    unfold sAl
    rw [← cg_add rfl (cg_mul hc rfl), ← cg_add rfl (cg_mul hc rfl)]
    exact hf
theorem p_out (hN : 25 ≤ N) (h : fcx S i n X Y) (ha : a < n) (hb : b < n) (hc : c < n) : FR S i (t_Fi_findTurnedOut N i (nI a) (nI b) (nI c) S) (sOut X Y a b c) := by
  obtain ⟨r2, e2, h2⟩ := p_length (N := N) h hb ha
  obtain ⟨r4, e4, h4⟩ := p_length (N := N) h hb hc
  unfold t_Fi_findTurnedOut sOut
  by_cases hz : dtp X Y b a b a % 1000003 = 0
  · rw [if_pos hz]
    exact bs e2 (if_pos ((lc0 h2).mpr hz))
  · rw [if_neg hz]
    obtain ⟨r5, ivw, e5, hi, hiw⟩ := p_invert hN h2
    rw [iv_cg (cg_md _)] at hiw
    have hT := (h4.mul hi (by decide +kernel)).md
    obtain ⟨S', e, hf⟩ := p_along (N := N) h hb ha hT
    refine ⟨S', bs e2 ((if_neg (fun q => hz ((lc0 h2).mp q))).trans (bs e4 (bs e5 (bs e (tz_end rfl))))), ?_⟩
    have hc := (tm_cg _).trans (cg_mul (cg_md (dtp X Y b c b c)) hiw)
    unfold sAl
    rw [← cg_add rfl (cg_mul hc rfl), ← cg_add rfl (cg_mul hc rfl)]
    exact hf
theorem p_cen (hN : 25 ≤ N) (h : fcx S i n X Y) (ha : a < n) (hb : b < n) (hc : c < n) : FR S i (t_Fi_findCentre N i (nI a) (nI b) (nI c) S) (sCen X Y a b c) := by
  obtain ⟨r2, e2, h2⟩ := p_cross (N := N) h ha hb ha hc
  unfold t_Fi_findCentre sCen
  by_cases hz : crs X Y a b a c % 1000003 = 0
  · rw [if_pos hz]
    exact bs e2 (if_pos ((lc0 h2).mpr ((tm_zero _).mpr hz)))
  · rw [if_neg hz]
    have h22 : rg (2 * r2) (2 * (crs X Y a b a c).tmod 1000003) (2 * 1000002) := (rg.c (x := 2) (n := 2) (by decide +kernel)).mul h2 (by decide +kernel)
    obtain ⟨r3, ivw, e3, hi, hiw⟩ := p_invert hN h22
    rw [iv_cg (cg_mul (rfl : (2 : Int) % 1000003 = _) (tm_cg (crs X Y a b a c)))] at hiw
    obtain ⟨r5, e5, h5⟩ := p_length (N := N) h ha hb
    obtain ⟨r7, e7, h7⟩ := p_length (N := N) h ha hc
    have hwx := ((h5.mul (h.dy hc ha) (by decide +kernel)).sub (h7.mul (h.dy hb ha) (by decide +kernel)) (by decide +kernel)).md
    have hwy := ((h7.mul (h.dx hb ha) (by decide +kernel)).sub (h5.mul (h.dx hc ha) (by decide +kernel)) (by decide +kernel)).md
    obtain ⟨S', e, hf⟩ := p_found (N := N) (S := S) (i := i) ((h.x ha).l.add (hwx.mul hi (by decide +kernel)) (by decide +kernel)) ((h.y ha).l.add (hwy.mul hi (by decide +kernel)) (by decide +kernel))
    refine ⟨S', bs e2 ((if_neg (fun q => hz ((tm_zero _).mp ((lc0 h2).mp q)))).trans (bs e3 (bs e5 (bs e7 (bs (h.ty hc) (bs (h.ty ha) (bs (h.ty hb) (bs (h.ty ha) (bs rfl (bs rfl (bs (h.tx hb) (bs (h.tx ha) (bs (h.tx hc) (bs (h.tx ha) (bs rfl (bs rfl (bs (h.tx ha) (bs (h.ty ha) (bs e (tz_end rfl)))))))))))))))))))), ?_⟩
    have g1 := (tm_cg (dtp X Y a b a b % 1000003 * (Y c - Y a) - dtp X Y a c a c % 1000003 * (Y b - Y a))).trans (cg_sub (cg_mul (cg_md (dtp X Y a b a b)) (rfl : (Y c - Y a) % 1000003 = _)) (cg_mul (cg_md (dtp X Y a c a c)) (rfl : (Y b - Y a) % 1000003 = _)))
    have g2 := (tm_cg (dtp X Y a c a c % 1000003 * (X b - X a) - dtp X Y a b a b % 1000003 * (X c - X a))).trans (cg_sub (cg_mul (cg_md (dtp X Y a c a c)) (rfl : (X b - X a) % 1000003 = _)) (cg_mul (cg_md (dtp X Y a b a b)) (rfl : (X c - X a) % 1000003 = _)))
    dsimp only
    rw [← cg_add rfl (cg_mul g1 hiw), ← cg_add rfl (cg_mul g2 hiw)]
    exact hf
theorem p_cir (hN : 25 ≤ N) (h : fcx S i n X Y) (ha : a < n) (hb : b < n) {t : Int64} {T : Int} (ht : rg t T 1000002) : FR S i (t_Fi_findOnCircle N i (nI a) (nI b) t S) (sCir X Y a b T) := by
  have h1 : rg (1 + t * t) (1 + T * T) (1 + 1000002 * 1000002) := (rg.c (x := 1) (n := 1) (by decide +kernel)).add (ht.mul ht (by decide +kernel)) (by decide +kernel)
  have h2 := h1.md
  unfold t_Fi_findOnCircle sCir
  by_cases hz : (1 + T * T) % 1000003 = 0
  · rw [if_pos hz]
    exact bs rfl (if_pos ((lc0 h2).mpr ((tm_zero _).mpr hz)))
  · rw [if_neg hz]
    obtain ⟨r11, ivw, e11, hi, hiw⟩ := p_invert hN h2
    rw [iv_cg (tm_cg _)] at hiw
    have hd := ((h.dx hb ha).add (ht.mul (h.dy hb ha) (by decide +kernel)) (by decide +kernel)).md
    have hq := (hd.mul hi (by decide +kernel)).md
    have h2q := (rg.c (x := 2) (n := 2) (by decide +kernel)).mul hq (by decide +kernel)
    obtain ⟨S', e, hf⟩ := p_found (N := N) (S := S) (i := i) ((h.x hb).l.sub h2q (by decide +kernel)) ((h.y hb).l.sub (h2q.mul ht (by decide +kernel)) (by decide +kernel))
    refine ⟨S', bs rfl ((if_neg (fun q => hz ((tm_zero _).mp ((lc0 h2).mp q)))).trans (bs (h.tx hb) (bs (h.tx ha) (bs (h.ty hb) (bs (h.ty ha) (bs rfl (bs e11 (bs rfl (bs (h.tx hb) (bs (h.ty hb) (bs e (tz_end rfl)))))))))))), ?_⟩
    have g := (tm_cg _).trans (cg_mul (tm_cg ((X b - X a) + T * (Y b - Y a))) hiw)
    have g2 := cg_mul (rfl : (2 : Int) % 1000003 = _) g
    dsimp only
    rw [← cg_sub rfl g2, ← cg_sub rfl (cg_mul g2 rfl)]
    exact hf
end GEO2
