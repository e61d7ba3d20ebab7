/-! congruences modulo the prime -/
theorem cg_add {a b c d : Int} (h1 : a % 1000003 = b % 1000003) (h2 : c % 1000003 = d % 1000003) : (a + c) % 1000003 = (b + d) % 1000003 := by
  rw [Int.add_emod, h1, h2, ← Int.add_emod]
theorem cg_sub {a b c d : Int} (h1 : a % 1000003 = b % 1000003) (h2 : c % 1000003 = d % 1000003) : (a - c) % 1000003 = (b - d) % 1000003 := by
  rw [Int.sub_emod, h1, h2, ← Int.sub_emod]
theorem cg_mul {a b c d : Int} (h1 : a % 1000003 = b % 1000003) (h2 : c % 1000003 = d % 1000003) : (a * c) % 1000003 = (b * d) % 1000003 := by
  rw [Int.mul_emod, h1, h2, ← Int.mul_emod]
theorem cg_md (a : Int) : (a % 1000003) % 1000003 = a % 1000003 := Int.emod_emod_of_dvd _ (Int.dvd_refl _)
theorem ta_n {α : Type} {n p : Nat} {f : Nat → α} (h : p < n) (hn : n < 2147483648) : ta n f (nI p) = some (f p) := by
  unfold ta
  rw [if_neg (nI_in h (by omega)), nI_clamp (by omega)]
/-- ab x cd, ab . cd -/
def crs (X Y : Nat → Int) (a b c d : Nat) : Int := (X b - X a) * (Y d - Y c) - (Y b - Y a) * (X d - X c)
def dtp (X Y : Nat → Int) (a b c d : Nat) : Int := (X b - X a) * (X d - X c) + (Y b - Y a) * (Y d - Y c)
/-- the places of the first n points of figure i of the class -/
def fcx (S : CS) (i n : Nat) (X Y : Nat → Int) : Prop := n ≤ 10 ∧ ∀ p, p < n → ((cs_fx S i p).toInt = X p ∧ 0 ≤ X p ∧ X p < 1000003) ∧ ((cs_fy S i p).toInt = Y p ∧ 0 ≤ Y p ∧ Y p < 1000003)
theorem fcx.x {S : CS} {i n : Nat} {X Y : Nat → Int} (h : fcx S i n X Y) {p : Nat} (hp : p < n) : ri (cs_fx S i p) (X p) 1000002 := by
  have := (h.2 p hp).1
  exact ⟨this.1, by omega⟩
theorem fcx.y {S : CS} {i n : Nat} {X Y : Nat → Int} (h : fcx S i n X Y) {p : Nat} (hp : p < n) : ri (cs_fy S i p) (Y p) 1000002 := by
  have := (h.2 p hp).2
  exact ⟨this.1, by omega⟩
theorem fcx.tx {S : CS} {i n : Nat} {X Y : Nat → Int} (h : fcx S i n X Y) {p : Nat} (hp : p < n) : ta 16 (cs_fx S i) (nI p) = some (cs_fx S i p) := ta_n (by have := h.1; omega) (by decide)
theorem fcx.ty {S : CS} {i n : Nat} {X Y : Nat → Int} (h : fcx S i n X Y) {p : Nat} (hp : p < n) : ta 16 (cs_fy S i) (nI p) = some (cs_fy S i p) := ta_n (by have := h.1; omega) (by decide)
theorem fcx.dx {S : CS} {i n : Nat} {X Y : Nat → Int} (h : fcx S i n X Y) {p q : Nat} (hp : p < n) (hq : q < n) : rg (cs_fx S i p - cs_fx S i q).toInt64 (X p - X q) 2000004 := ((h.x hp).sub (h.x hq) (by decide)).l
theorem fcx.dy {S : CS} {i n : Nat} {X Y : Nat → Int} (h : fcx S i n X Y) {p q : Nat} (hp : p < n) (hq : q < n) : rg (cs_fy S i p - cs_fy S i q).toInt64 (Y p - Y q) 2000004 := ((h.y hp).sub (h.y hq) (by decide)).l
theorem bs {α β : Type} {o : Option α} {x : α} {f : α → Option β} {r : Option β} (h : o = some x) (k : f x = r) : o.bind f = r := by
  rw [h]
  exact k
section GEO
variable {N : Nat} {S : CS} {i n : Nat} {X Y : Nat → Int} {a b c d : Nat}
theorem p_cross (h : fcx S i n X Y) (ha : a < n) (hb : b < n) (hc : c < n) (hd : d < n) : ∃ r, t_Fi_cross N i (nI a) (nI b) (nI c) (nI d) S = some r ∧ rg r ((crs X Y a b c d).tmod 1000003) 1000002 := by
  unfold t_Fi_cross
  simp only [h.tx ha, h.tx hb, h.tx hc, h.tx hd, h.ty ha, h.ty hb, h.ty hc, h.ty hd, Option.bind_some]
  exact ⟨_, rfl, (((h.dx hb ha).mul (h.dy hd hc) (by decide +kernel)).sub ((h.dy hb ha).mul (h.dx hd hc) (by decide +kernel)) (by decide +kernel)).md⟩
theorem p_dot (h : fcx S i n X Y) (ha : a < n) (hb : b < n) (hc : c < n) (hd : d < n) : ∃ r, t_Fi_dot N i (nI a) (nI b) (nI c) (nI d) S = some r ∧ rg r ((dtp X Y a b c d).tmod 1000003) 1000002 := by
  unfold t_Fi_dot
  simp only [h.tx ha, h.tx hb, h.tx hc, h.tx hd, h.ty ha, h.ty hb, h.ty hc, h.ty hd, Option.bind_some]
  exact ⟨_, rfl, (((h.dx hb ha).mul (h.dx hd hc) (by decide +kernel)).add ((h.dy hb ha).mul (h.dy hd hc) (by decide +kernel)) (by decide +kernel)).md⟩
theorem dtp_nn (X Y : Nat → Int) (a b : Nat) : 0 ≤ dtp X Y a b a b := by
  unfold dtp
  have h1 : 0 ≤ (X b - X a) * (X b - X a) := by rw [← Int.natAbs_mul_self']; exact Int.natCast_nonneg _
  have h2 : 0 ≤ (Y b - Y a) * (Y b - Y a) := by rw [← Int.natAbs_mul_self']; exact Int.natCast_nonneg _
  omega
theorem p_length (h : fcx S i n X Y) (ha : a < n) (hb : b < n) : ∃ r, t_Fi_length N i (nI a) (nI b) S = some r ∧ rg r (dtp X Y a b a b % 1000003) 1000002 := by
  unfold t_Fi_length
  simp only [h.tx ha, h.tx hb, h.ty ha, h.ty hb, Option.bind_some]
  have e := (((h.dx hb ha).mul (h.dx hb ha) (by decide +kernel)).add ((h.dy hb ha).mul (h.dy hb ha) (by decide +kernel)) (by decide +kernel)).md
  refine ⟨_, rfl, ?_⟩
  have e2 := Int.tmod_eq_emod_of_nonneg (b := 1000003) (dtp_nn X Y a b)
  unfold dtp at e2 ⊢
  rw [← e2]
  exact e
theorem p_sqarea (h : fcx S i n X Y) (ha : a < n) (hb : b < n) (hc : c < n) : ∃ r, t_Fi_squaredArea N i (nI a) (nI b) (nI c) S = some r ∧ rg r (crs X Y a b a c * crs X Y a b a c % 1000003) 1000002 := by
  obtain ⟨r, e, hr⟩ := p_cross (N := N) h ha hb ha hc
  unfold t_Fi_squaredArea
  rw [e, Option.bind_some]
  have h2 := (hr.mul hr (by decide +kernel)).md
  have h3 : 0 ≤ (crs X Y a b a c).tmod 1000003 * (crs X Y a b a c).tmod 1000003 := by rw [← Int.natAbs_mul_self']; exact Int.natCast_nonneg _
  rw [Int.tmod_eq_emod_of_nonneg h3, cg_mul (tm_cg _) (tm_cg _)] at h2
  exact ⟨_, rfl, h2⟩
/-- what 'found' leaves -/
def Fnd (S S' : CS) (i : Nat) (x y : Int) : Prop := ∃ r1 r2 : Int32, S' = cs_set_foundY (cs_set_foundX S (va_up (cs_foundX S) i r1)) (va_up (cs_foundY S) i r2) ∧ r1.toInt = x ∧ r2.toInt = y
theorem p_found {u w : Int64} {U V : Int} {A B : Nat} (hu : rg u U A) (hw : rg w V B) : ∃ S', t_Fi_found N i u w S = some (1, S') ∧ Fnd S S' i (U % 1000003) (V % 1000003) := by
  have h1 := rd_i hu
  have h2 := rd_i hw
  have key : ∀ r1 : Int32, r1.toInt = U % 1000003 → ∃ S', tb_Fi_found_32 N i ((fr_l w 1000003).toInt32) r1 S = some (1, S') ∧ Fnd S S' i (U % 1000003) (V % 1000003) := by
    intro r1 hr1
    unfold tb_Fi_found_32
    by_cases hc : 0 ≤ (fr_l w 1000003).toInt32
    · exact ⟨_, bs rfl <| (if_pos hc).trans <| bs rfl rfl, r1, _, rfl, hr1, h2.1 hc⟩
    · exact ⟨_, bs rfl <| (if_neg hc).trans <| bs rfl rfl, r1, _, rfl, hr1, h2.2 hc⟩
  unfold t_Fi_found
  by_cases hc : 0 ≤ (fr_l u 1000003).toInt32
  · obtain ⟨S', e, F⟩ := key _ (h1.1 hc)
    exact ⟨S', bs rfl <| bs rfl <| (if_pos hc).trans e, F⟩
  · obtain ⟨S', e, F⟩ := key _ (h1.2 hc)
    exact ⟨S', bs rfl <| bs rfl <| (if_neg hc).trans e, F⟩
theorem tz_1 : tz 1 = some 1 := by decide
theorem tz_0 : tz 0 = some 0 := by decide
theorem tz_end {r : Int32 × CS} {S' : CS} (hr : r = (1, S')) : (tz r.1).bind (fun zz => some (zz, r.2)) = some (1, S') := by
  subst hr
  rw [tz_1, Option.bind_some]
theorem p_along (h : fcx S i n X Y) (ha : a < n) (hb : b < n) {t : Int64} {T : Int} (ht : rg t T 1000002) : ∃ S', t_Fi_findAlong N i (nI a) (nI b) t S = some (1, S') ∧ Fnd S S' i ((X a + T * (X b - X a)) % 1000003) ((Y a + T * (Y b - Y a)) % 1000003) := by
  have hu : rg ((cs_fx S i a).toInt64 + t * (cs_fx S i b - cs_fx S i a).toInt64) (X a + T * (X b - X a)) (1000002 + 1000002 * 2000004) := (h.x ha).l.add (ht.mul (h.dx hb ha) (by decide +kernel)) (by decide +kernel)
  have hw : rg ((cs_fy S i a).toInt64 + t * (cs_fy S i b - cs_fy S i a).toInt64) (Y a + T * (Y b - Y a)) (1000002 + 1000002 * 2000004) := (h.y ha).l.add (ht.mul (h.dy hb ha) (by decide +kernel)) (by decide +kernel)
  obtain ⟨S', e, hf⟩ := p_found (N := N) (S := S) (i := i) hu hw
  refine ⟨S', ?_, hf⟩
  unfold t_Fi_findAlong
  exact bs (h.tx ha) (bs (h.tx hb) (bs (h.tx ha) (bs (h.ty ha) (bs (h.ty hb) (bs (h.ty ha) (bs e (tz_end rfl)))))))
theorem lc0 {r : Int64} {v : Int} {A : Nat} (hr : rg r v A) : lg_cmp r 0 = 0 ↔ v = 0 := by
  rw [lg_cmp_eq, ← Int64.toInt_inj, hr.1]
  exact Iff.rfl
end GEO
