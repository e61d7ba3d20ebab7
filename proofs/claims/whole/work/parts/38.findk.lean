/-! the class's 'find', kind by kind -/
def nx (s : Int) : Int := (s * 48271) % 2147483647
theorem nx_lt (s : Int) : 0 ≤ nx s ∧ nx s < 2147483647 := by unfold nx; omega
def Ex (S S' : CS) (i : Nat) : Prop := ∃ (R : Nat → Int64) (fX fY : Nat → Int32), S' = cs_set_foundY (cs_set_foundX (cs_set_rnd S R) fX) fY ∧ ∀ j, j ≠ i → R j = cs_rnd S j
theorem Ex.rf {S : CS} {i : Nat} : Ex S S i := ⟨cs_rnd S, cs_foundX S, cs_foundY S, rfl, fun _ _ => rfl⟩
set_option maxHeartbeats 40000 in
theorem cm_3 (s : CS) (v : Nat → Int64) (w : Nat → Int64) : cs_set_rnd (cs_set_rnd s v) w = cs_set_rnd s w := rfl
set_option maxHeartbeats 40000 in
theorem cm_5 (s : CS) (v : Nat → Int32) (w : Nat → Int32) : cs_set_foundX (cs_set_foundX s v) w = cs_set_foundX s w := rfl
set_option maxHeartbeats 40000 in
theorem cm_6 (s : CS) (v : Nat → Int32) (w : Nat → Int32) : cs_set_foundY (cs_set_foundY s v) w = cs_set_foundY s w := rfl
set_option maxHeartbeats 40000 in
theorem cm_7 (s : CS) (v : Nat → Int32) : cs_rnd (cs_set_foundY s v) = cs_rnd s := rfl
set_option maxHeartbeats 40000 in
theorem cm_8 (s : CS) (v : Nat → Int32) : cs_rnd (cs_set_foundX s v) = cs_rnd s := rfl
set_option maxHeartbeats 40000 in
theorem cm_9 (s : CS) (v : Nat → Int64) : cs_rnd (cs_set_rnd s v) = v := rfl
set_option maxHeartbeats 40000 in
theorem ex_comp (S : CS) (R R2 : Nat → Int64) (fX fY fX2 fY2 : Nat → Int32) : cs_set_foundY (cs_set_foundX (cs_set_rnd (cs_set_foundY (cs_set_foundX (cs_set_rnd S R) fX) fY) R2) fX2) fY2 = cs_set_foundY (cs_set_foundX (cs_set_rnd S R2) fX2) fY2 ∧ cs_rnd (cs_set_foundY (cs_set_foundX (cs_set_rnd S R) fX) fY) = R := by
  rw [cm_1, cm_2, cm_3, cm_4, cm_5, cm_6, cm_7, cm_8, cm_9]
  exact ⟨rfl, rfl⟩
theorem Ex.tr {S S1 S2 : CS} {i : Nat} (h1 : Ex S S1 i) (h2 : Ex S1 S2 i) : Ex S S2 i := by
  obtain ⟨R, fX, fY, rfl, h⟩ := h1
  obtain ⟨R2, fX2, fY2, rfl, h2⟩ := h2
  obtain ⟨e1, e2⟩ := ex_comp S R R2 fX fY fX2 fY2
  rw [e2] at h2
  exact ⟨R2, fX2, fY2, e1, fun j hj => (h2 j hj).trans (h j hj)⟩
theorem Fnd.ex {S S' : CS} {i : Nat} {x y : Int} (h : Fnd S S' i x y) : Ex S S' i ∧ cs_rnd S' i = cs_rnd S i ∧ (cs_foundX S' i).toInt = x ∧ (cs_foundY S' i).toInt = y := by
  obtain ⟨r1, r2, rfl, h1, h2⟩ := h
  refine ⟨⟨cs_rnd S, _, _, rfl, fun _ _ => rfl⟩, rfl, ?_, ?_⟩
  · show (va_up (cs_foundX S) i r1 i).toInt = x
    rw [va_up_self]
    exact h1
  · show (va_up (cs_foundY S) i r2 i).toInt = y
    rw [va_up_self]
    exact h2
theorem fcx.ex {S S' : CS} {i j n : Nat} {X Y : Nat → Int} (h : fcx S j n X Y) (he : Ex S S' i) : fcx S' j n X Y := by
  obtain ⟨R, fX, fY, rfl, -⟩ := he
  exact h
/-- the answer of a finder: none, it falls; else the place; and the state of the draw behind it -/
def FF (S : CS) (i : Nat) (e : Option (Int32 × CS)) (o : Option (Int × Int)) (s' : Int) : Prop := ∃ (S' : CS) (v : Int32), e = some (v, S') ∧ Ex S S' i ∧ (cs_rnd S' i).toInt = s' ∧ match o with
  | none => v = 0
  | some q => v = 1 ∧ (cs_foundX S' i).toInt = q.1 ∧ (cs_foundY S' i).toInt = q.2
theorem FR.ff {S : CS} {i : Nat} {e : Option (Int32 × CS)} {o : Option (Int × Int)} {s : Int} (h : FR S i e o) (hs : (cs_rnd S i).toInt = s) : FF S i e o s := by
  cases o with
  | none => exact ⟨S, 0, h, Ex.rf, hs, rfl⟩
  | some q =>
    obtain ⟨S', h1, h2⟩ := h
    obtain ⟨a1, a2, a3, a4⟩ := h2.ex
    exact ⟨S', 1, h1, a1, by rw [a2]; exact hs, rfl, a3, a4⟩
theorem FF.tzz {S : CS} {i : Nat} {e : Option (Int32 × CS)} {o : Option (Int × Int)} {s : Int} (h : FF S i e o s) : FF S i (e.bind fun r => (tz r.1).bind fun zz => some (zz, r.2)) o s := by
  obtain ⟨S', v, e1, h1, h2, h3⟩ := h
  refine ⟨S', v, bs e1 ?_, h1, h2, h3⟩
  have hv : tz v = some v := by
    cases o with
    | none => rw [show v = 0 from h3]; exact tz_0
    | some q => rw [show v = 1 from h3.1]; exact tz_1
  exact bs hv rfl
theorem FF.ex {S S1 : CS} {i : Nat} {e : Option (Int32 × CS)} {o : Option (Int × Int)} {s : Int} (h0 : Ex S S1 i) (h : FF S1 i e o s) : FF S i e o s := by
  obtain ⟨S', v, e1, h1, h2⟩ := h
  exact ⟨S', v, e1, h0.tr h1, h2⟩
theorem FF.eq {S : CS} {i : Nat} {e e2 : Option (Int32 × CS)} {o : Option (Int × Int)} {s : Int} (h : e2 = e) (k : FF S i e o s) : FF S i e2 o s := by
  subst h
  exact k
theorem FF.fnd {N : Nat} {S : CS} {i : Nat} {u w : Int64} {U V s : Int} {A B : Nat} (hu : rg u U A) (hw : rg w V B) (hs : (cs_rnd S i).toInt = s) : FF S i (t_Fi_found N i u w S) (some (U % 1000003, V % 1000003)) s := by
  obtain ⟨S', e, hf⟩ := p_found (N := N) (S := S) (i := i) hu hw
  exact FR.ff (o := some (U % 1000003, V % 1000003)) ⟨S', e, hf⟩ hs
theorem p_next {N : Nat} {S : CS} {i : Nat} {s : Int} (hs : (cs_rnd S i).toInt = s) (h0 : 0 ≤ s) (h1 : s < 2147483647) : ∃ (r : Int64) (S' : CS), t_Fi_nextNumber N i S = some (r, S') ∧ Ex S S' i ∧ (cs_rnd S' i).toInt = nx s ∧ rg r (nx s % 1000003) 1000002 := by
  have a1 : rg (cs_rnd S i) s 2147483646 := ⟨hs, by omega⟩
  have a2 := (a1.mul (rg.c (x := 48271) (n := 48271) (by decide +kernel)) (by decide +kernel)).rem 2147483647 2147483647 (by decide +kernel) (by decide +kernel) (by decide +kernel)
  obtain ⟨z, hz⟩ : ∃ z, fr_l (cs_rnd S i * 48271) 2147483647 = z := ⟨_, rfl⟩
  rw [hz] at a2
  have a3 : z.toInt = nx s := by
    rw [a2.1]
    exact Int.tmod_eq_emod_of_nonneg (Int.mul_nonneg h0 (by decide))
  have hn := nx_lt s
  have a4 : rg z (nx s) 2147483646 := ⟨a3, by omega⟩
  have a5 := a4.md
  rw [Int.tmod_eq_emod_of_nonneg hn.1] at a5
  refine ⟨fr_l z 1000003, cs_set_rnd S (va_up (cs_rnd S) i z), ?_, ⟨va_up (cs_rnd S) i z, cs_foundX S, cs_foundY S, rfl, fun j hj => va_up_ne _ _ hj⟩, ?_, a5⟩
  · unfold t_Fi_nextNumber
    refine bs rfl ?_
    rw [hz]
    exact bs rfl (bs (x := z) (by show some (va_up (cs_rnd S) i z i) = some z; rw [va_up_self]) rfl)
  · show (va_up (cs_rnd S) i z i).toInt = nx s
    rw [va_up_self]
    exact a3
theorem sCen_rg {X Y : Nat → Int} {a b c : Nat} {q : Int × Int} (h : sCen X Y a b c = some q) : (0 ≤ q.1 ∧ q.1 < 1000003) ∧ (0 ≤ q.2 ∧ q.2 < 1000003) := by
  unfold sCen at h
  split at h
  · cases h
  · obtain rfl := Option.some.inj h
    dsimp only
    omega
theorem sFoot_rg {X Y : Nat → Int} {px py : Int} {b c : Nat} {q : Int × Int} (h : sFoot X Y px py b c = some q) : (0 ≤ q.1 ∧ q.1 < 1000003) ∧ (0 ≤ q.2 ∧ q.2 < 1000003) := by
  unfold sFoot sAl at h
  split at h
  · cases h
  · obtain rfl := Option.some.inj h
    dsimp only
    omega
/-- a step's place, and the draw's state behind it -/
def sStep (X Y : Nat → Int) (s : Int) (k a b c d : Nat) : Option (Int × Int) × Int := match k with
  | 0 => (some (nx s % 1000003, nx (nx s) % 1000003), nx (nx s))
  | 1 => (some ((X a + X b) * 500002 % 1000003, (Y a + Y b) * 500002 % 1000003), s)
  | 2 => (sFoot X Y (X a) (Y a) b c, s)
  | 3 => (sMeet X Y a b c d, s)
  | 4 => (sCen X Y a b c, s)
  | 5 => ((sCen X Y a b c).map (fun q => ((X a + X b + X c - 2 * q.1) % 1000003, (Y a + Y b + Y c - 2 * q.2) % 1000003)), s)
  | 6 => ((sFoot X Y (X a) (Y a) b c).map (fun q => ((2 * q.1 - X a) % 1000003, (2 * q.2 - Y a) % 1000003)), s)
  | 7 => (some ((X b - (Y a - Y b)) % 1000003, (Y b + (X a - X b)) % 1000003), s)
  | 8 => (some ((X a + X c - X b) % 1000003, (Y a + Y c - Y b) % 1000003), s)
  | 9 => (some (sAl X Y a b (nx s % 1000003)), nx s)
  | 10 => (sCir X Y a b (nx s % 1000003), nx s)
  | 11 => ((sCen X Y a c d).bind (fun q => (sFoot X Y q.1 q.2 a b).map (fun w => ((2 * w.1 - X a) % 1000003, (2 * w.2 - Y a) % 1000003))), s)
  | 12 => (some ((X a + X b + X c) * 666669 % 1000003, (Y a + Y b + Y c) * 666669 % 1000003), s)
  | _ => (sOut X Y a b c, s)
section FK
variable {N : Nat} {S : CS} {i n : Nat} {X Y : Nat → Int} {a b c d : Nat} {s : Int}

theorem pf_0 (hN : 25 ≤ N) (h : fcx S i n X Y)  (hs : (cs_rnd S i).toInt = s) (h0 : 0 ≤ s) (h1 : s < 2147483647) : FF S i (t_Fi_find N i 0 (nI a) (nI b) (nI c) (nI d) S) (sStep X Y s 0 a b c d).1 (sStep X Y s 0 a b c d).2 := by
  unfold t_Fi_find
  obtain ⟨r2, S2, e2, x2, s2, g2⟩ := p_next (N := N) hs h0 h1
  obtain ⟨r4, S4, e4, x4, s4, g4⟩ := p_next (N := N) s2 (nx_lt s).1 (nx_lt s).2
  have hf := (FF.fnd (N := N) (S := S4) (i := i) g2 g4 s4).tzz
  rw [cg_md, cg_md] at hf
  have e0 : t_Fi_findFree N i S = (t_Fi_found N i r2 r4 S4).bind (fun r6 => (tz r6.1).bind (fun zz => some (zz, r6.2))) := by
    unfold t_Fi_findFree
    exact bs e2 (bs e4 rfl)
  refine FF.eq ((if_pos rfl).trans (rfl)) ?_
  rw [e0]
  exact FF.ex (x2.tr x4) hf.tzz
theorem pf_1 (hN : 25 ≤ N) (h : fcx S i n X Y) (ha : a < n) (hb : b < n) (hs : (cs_rnd S i).toInt = s) : FF S i (t_Fi_find N i 1 (nI a) (nI b) (nI c) (nI d) S) (sStep X Y s 1 a b c d).1 (sStep X Y s 1 a b c d).2 := by
  unfold t_Fi_find
  refine FF.eq ((if_neg (by decide)).trans ((if_pos rfl).trans (bs (h.tx ha) (bs (h.tx hb) (bs (h.ty ha) (bs (h.ty hb) (rfl))))))) ?_
  exact (FF.fnd (((h.x ha).add (h.x hb) (by decide)).l.mul (rg.c (x := 500002) (n := 500002) (by decide +kernel)) (by decide +kernel)) (((h.y ha).add (h.y hb) (by decide)).l.mul (rg.c (x := 500002) (n := 500002) (by decide +kernel)) (by decide +kernel)) hs).tzz
theorem pf_2 (hN : 25 ≤ N) (h : fcx S i n X Y) (ha : a < n) (hb : b < n) (hc : c < n) (hs : (cs_rnd S i).toInt = s) : FF S i (t_Fi_find N i 2 (nI a) (nI b) (nI c) (nI d) S) (sStep X Y s 2 a b c d).1 (sStep X Y s 2 a b c d).2 := by
  unfold t_Fi_find
  refine FF.eq ((if_neg (by decide)).trans ((if_neg (by decide)).trans ((if_pos rfl).trans (bs (h.tx ha) (bs (h.ty ha) (rfl)))))) ?_
  exact (FR.ff (p_foot hN h hb hc (h.x ha) (h.y ha)) hs).tzz
theorem pf_3 (hN : 25 ≤ N) (h : fcx S i n X Y) (ha : a < n) (hb : b < n) (hc : c < n) (hd : d < n) (hs : (cs_rnd S i).toInt = s) : FF S i (t_Fi_find N i 3 (nI a) (nI b) (nI c) (nI d) S) (sStep X Y s 3 a b c d).1 (sStep X Y s 3 a b c d).2 := by
  unfold t_Fi_find
  refine FF.eq ((if_neg (by decide)).trans ((if_neg (by decide)).trans ((if_neg (by decide)).trans ((if_pos rfl).trans (rfl))))) ?_
  exact (FR.ff (p_meet hN h ha hb hc hd) hs).tzz
theorem pf_4 (hN : 25 ≤ N) (h : fcx S i n X Y) (ha : a < n) (hb : b < n) (hc : c < n) (hs : (cs_rnd S i).toInt = s) : FF S i (t_Fi_find N i 4 (nI a) (nI b) (nI c) (nI d) S) (sStep X Y s 4 a b c d).1 (sStep X Y s 4 a b c d).2 := by
  unfold t_Fi_find
  refine FF.eq ((if_neg (by decide)).trans ((if_neg (by decide)).trans ((if_neg (by decide)).trans ((if_neg (by decide)).trans ((if_pos rfl).trans (rfl)))))) ?_
  exact (FR.ff (p_cen hN h ha hb hc) hs).tzz
theorem pf_5 (hN : 25 ≤ N) (h : fcx S i n X Y) (ha : a < n) (hb : b < n) (hc : c < n) (hs : (cs_rnd S i).toInt = s) : FF S i (t_Fi_find N i 5 (nI a) (nI b) (nI c) (nI d) S) (sStep X Y s 5 a b c d).1 (sStep X Y s 5 a b c d).2 := by
  unfold t_Fi_find
  have hc0 := p_cen hN h ha hb hc
  show FF S i _ ((sCen X Y a b c).map _) s
  cases hq : sCen X Y a b c with
  | none =>
    rw [hq] at hc0
    exact ⟨S, 0, (if_neg (by decide)).trans ((if_neg (by decide)).trans ((if_neg (by decide)).trans ((if_neg (by decide)).trans ((if_neg (by decide)).trans ((if_pos rfl).trans (bs hc0 (if_pos rfl))))))), Ex.rf, hs, rfl⟩
  | some q =>
    rw [hq] at hc0
    obtain ⟨S1, e1, f1⟩ := hc0
    obtain ⟨x1, s1, u1, w1⟩ := f1.ex
    have h' := h.ex x1
    have hr := sCen_rg hq
    have gx : ri (cs_foundX S1 i) q.1 1000002 := ⟨u1, by omega⟩
    have gy : ri (cs_foundY S1 i) q.2 1000002 := ⟨w1, by omega⟩
    have two : ri 2 2 2 := ⟨by decide, by decide⟩
    obtain ⟨S2, v, e2, x2, s2, hv⟩ := FF.fnd (N := N) ((((h'.x ha).add (h'.x hb) (by decide)).add (h'.x hc) (by decide)).sub (two.mul gx (by decide)) (by decide)).l ((((h'.y ha).add (h'.y hb) (by decide)).add (h'.y hc) (by decide)).sub (two.mul gy (by decide)) (by decide)).l (show (cs_rnd S1 i).toInt = s by rw [s1]; exact hs)
    obtain ⟨rfl, v1, v2⟩ := hv
    exact ⟨S2, 1, (if_neg (by decide)).trans ((if_neg (by decide)).trans ((if_neg (by decide)).trans ((if_neg (by decide)).trans ((if_neg (by decide)).trans ((if_pos rfl).trans (bs e1 ((if_neg (show ¬ (1 : Int32) = 0 by decide)).trans (bs (h'.tx ha) (bs (h'.tx hb) (bs (h'.tx hc) (bs (rfl) (bs (h'.ty ha) (bs (h'.ty hb) (bs (h'.ty hc) (bs (rfl) (bs (e2) ((if_neg (show ¬ (1 : Int32) = 0 by decide))))))))))))))))))), x1.tr x2, s2, rfl, v1, v2⟩
theorem pf_6 (hN : 25 ≤ N) (h : fcx S i n X Y) (ha : a < n) (hb : b < n) (hc : c < n) (hs : (cs_rnd S i).toInt = s) : FF S i (t_Fi_find N i 6 (nI a) (nI b) (nI c) (nI d) S) (sStep X Y s 6 a b c d).1 (sStep X Y s 6 a b c d).2 := by
  unfold t_Fi_find
  have hc0 := p_foot hN h hb hc (h.x ha) (h.y ha)
  show FF S i _ ((sFoot X Y (X a) (Y a) b c).map _) s
  cases hq : sFoot X Y (X a) (Y a) b c with
  | none =>
    rw [hq] at hc0
    exact ⟨S, 0, (if_neg (by decide)).trans ((if_neg (by decide)).trans ((if_neg (by decide)).trans ((if_neg (by decide)).trans ((if_neg (by decide)).trans ((if_neg (by decide)).trans ((if_pos rfl).trans (bs (h.tx ha) (bs (h.ty ha) (bs (hc0) (if_pos rfl)))))))))), Ex.rf, hs, rfl⟩
  | some q =>
    rw [hq] at hc0
    obtain ⟨S1, e1, f1⟩ := hc0
    obtain ⟨x1, s1, u1, w1⟩ := f1.ex
    have h' := h.ex x1
    have hr := sFoot_rg hq
    have gx : ri (cs_foundX S1 i) q.1 1000002 := ⟨u1, by omega⟩
    have gy : ri (cs_foundY S1 i) q.2 1000002 := ⟨w1, by omega⟩
    have two : ri 2 2 2 := ⟨by decide, by decide⟩
    obtain ⟨S2, v, e2, x2, s2, hv⟩ := FF.fnd (N := N) ((two.mul gx (by decide)).sub (h'.x ha) (by decide)).l ((two.mul gy (by decide)).sub (h'.y ha) (by decide)).l (show (cs_rnd S1 i).toInt = s by rw [s1]; exact hs)
    obtain ⟨rfl, v1, v2⟩ := hv
    exact ⟨S2, 1, (if_neg (by decide)).trans ((if_neg (by decide)).trans ((if_neg (by decide)).trans ((if_neg (by decide)).trans ((if_neg (by decide)).trans ((if_neg (by decide)).trans ((if_pos rfl).trans (bs (h.tx ha) (bs (h.ty ha) (bs (e1) ((if_neg (show ¬ (1 : Int32) = 0 by decide)).trans (bs (rfl) (bs (h'.tx ha) (bs (rfl) (bs (h'.ty ha) (bs (e2) ((if_neg (show ¬ (1 : Int32) = 0 by decide)))))))))))))))))), x1.tr x2, s2, rfl, v1, v2⟩
theorem pf_7 (hN : 25 ≤ N) (h : fcx S i n X Y) (ha : a < n) (hb : b < n) (hs : (cs_rnd S i).toInt = s) : FF S i (t_Fi_find N i 7 (nI a) (nI b) (nI c) (nI d) S) (sStep X Y s 7 a b c d).1 (sStep X Y s 7 a b c d).2 := by
  unfold t_Fi_find
  refine FF.eq ((if_neg (by decide)).trans ((if_neg (by decide)).trans ((if_neg (by decide)).trans ((if_neg (by decide)).trans ((if_neg (by decide)).trans ((if_neg (by decide)).trans ((if_neg (by decide)).trans ((if_pos rfl).trans (bs (h.tx hb) (bs (h.ty ha) (bs (h.ty hb) (bs (h.ty hb) (bs (h.tx ha) (bs (h.tx hb) (rfl))))))))))))))) ?_
  exact (FF.fnd ((h.x hb).sub ((h.y ha).sub (h.y hb) (by decide)) (by decide)).l ((h.y hb).add ((h.x ha).sub (h.x hb) (by decide)) (by decide)).l hs).tzz
theorem pf_8 (hN : 25 ≤ N) (h : fcx S i n X Y) (ha : a < n) (hb : b < n) (hc : c < n) (hs : (cs_rnd S i).toInt = s) : FF S i (t_Fi_find N i 8 (nI a) (nI b) (nI c) (nI d) S) (sStep X Y s 8 a b c d).1 (sStep X Y s 8 a b c d).2 := by
  unfold t_Fi_find
  refine FF.eq ((if_neg (by decide)).trans ((if_neg (by decide)).trans ((if_neg (by decide)).trans ((if_neg (by decide)).trans ((if_neg (by decide)).trans ((if_neg (by decide)).trans ((if_neg (by decide)).trans ((if_neg (by decide)).trans ((if_pos rfl).trans (bs (h.tx ha) (bs (h.tx hc) (bs (h.tx hb) (bs (h.ty ha) (bs (h.ty hc) (bs (h.ty hb) (rfl)))))))))))))))) ?_
  exact (FF.fnd (((h.x ha).add (h.x hc) (by decide)).sub (h.x hb) (by decide)).l (((h.y ha).add (h.y hc) (by decide)).sub (h.y hb) (by decide)).l hs).tzz
theorem pf_9 (hN : 25 ≤ N) (h : fcx S i n X Y) (ha : a < n) (hb : b < n) (hs : (cs_rnd S i).toInt = s) (h0 : 0 ≤ s) (h1 : s < 2147483647) : FF S i (t_Fi_find N i 9 (nI a) (nI b) (nI c) (nI d) S) (sStep X Y s 9 a b c d).1 (sStep X Y s 9 a b c d).2 := by
  unfold t_Fi_find
  obtain ⟨r2, S2, e2, x2, s2, g2⟩ := p_next (N := N) hs h0 h1
  refine FF.eq ((if_neg (by decide)).trans ((if_neg (by decide)).trans ((if_neg (by decide)).trans ((if_neg (by decide)).trans ((if_neg (by decide)).trans ((if_neg (by decide)).trans ((if_neg (by decide)).trans ((if_neg (by decide)).trans ((if_neg (by decide)).trans ((if_pos rfl).trans (bs e2 rfl))))))))))) (FF.ex x2 (FF.tzz ?_))
  obtain ⟨S3, e3, f3⟩ := p_along (N := N) (h.ex x2) ha hb g2
  exact FR.ff (o := some (sAl X Y a b (nx s % 1000003))) ⟨S3, e3, f3⟩ s2
theorem pf_10 (hN : 25 ≤ N) (h : fcx S i n X Y) (ha : a < n) (hb : b < n) (hs : (cs_rnd S i).toInt = s) (h0 : 0 ≤ s) (h1 : s < 2147483647) : FF S i (t_Fi_find N i 10 (nI a) (nI b) (nI c) (nI d) S) (sStep X Y s 10 a b c d).1 (sStep X Y s 10 a b c d).2 := by
  unfold t_Fi_find
  obtain ⟨r2, S2, e2, x2, s2, g2⟩ := p_next (N := N) hs h0 h1
  refine FF.eq ((if_neg (by decide)).trans ((if_neg (by decide)).trans ((if_neg (by decide)).trans ((if_neg (by decide)).trans ((if_neg (by decide)).trans ((if_neg (by decide)).trans ((if_neg (by decide)).trans ((if_neg (by decide)).trans ((if_neg (by decide)).trans ((if_neg (by decide)).trans ((if_pos rfl).trans (bs e2 rfl)))))))))))) (FF.ex x2 (FF.tzz ?_))
  exact FR.ff (p_cir hN (h.ex x2) ha hb g2) s2
theorem pf_11 (hN : 25 ≤ N) (h : fcx S i n X Y) (ha : a < n) (hb : b < n) (hc : c < n) (hd : d < n) (hs : (cs_rnd S i).toInt = s) : FF S i (t_Fi_find N i 11 (nI a) (nI b) (nI c) (nI d) S) (sStep X Y s 11 a b c d).1 (sStep X Y s 11 a b c d).2 := by
  unfold t_Fi_find
  have hc0 := p_cen hN h ha hc hd
  show FF S i _ ((sCen X Y a c d).bind _) s
  cases hq : sCen X Y a c d with
  | none =>
    rw [hq] at hc0
    exact ⟨S, 0, (if_neg (by decide)).trans ((if_neg (by decide)).trans ((if_neg (by decide)).trans ((if_neg (by decide)).trans ((if_neg (by decide)).trans ((if_neg (by decide)).trans ((if_neg (by decide)).trans ((if_neg (by decide)).trans ((if_neg (by decide)).trans ((if_neg (by decide)).trans ((if_neg (by decide)).trans ((if_pos rfl).trans (bs hc0 (if_pos rfl))))))))))))), Ex.rf, hs, rfl⟩
  | some q =>
    rw [hq] at hc0
    obtain ⟨S1, e1, f1⟩ := hc0
    obtain ⟨x1, s1, u1, w1⟩ := f1.ex
    have h' := h.ex x1
    have hr := sCen_rg hq
    have gx : ri (cs_foundX S1 i) q.1 1000002 := ⟨u1, by omega⟩
    have gy : ri (cs_foundY S1 i) q.2 1000002 := ⟨w1, by omega⟩
    have two : ri 2 2 2 := ⟨by decide, by decide⟩
    have hf0 := p_foot hN h' ha hb gx gy
    have ss1 : (cs_rnd S1 i).toInt = s := by rw [s1]; exact hs
    show FF S i _ ((sFoot X Y q.1 q.2 a b).map _) s
    cases hw : sFoot X Y q.1 q.2 a b with
    | none =>
      rw [hw] at hf0
      exact ⟨S1, 0, (if_neg (by decide)).trans ((if_neg (by decide)).trans ((if_neg (by decide)).trans ((if_neg (by decide)).trans ((if_neg (by decide)).trans ((if_neg (by decide)).trans ((if_neg (by decide)).trans ((if_neg (by decide)).trans ((if_neg (by decide)).trans ((if_neg (by decide)).trans ((if_neg (by decide)).trans ((if_pos rfl).trans (bs (e1) ((if_neg (show ¬ (1 : Int32) = 0 by decide)).trans (bs (rfl) (bs (rfl) (bs (hf0) (if_pos rfl))))))))))))))))), x1, ss1, rfl⟩
    | some w =>
      rw [hw] at hf0
      obtain ⟨S3, e3, f3⟩ := hf0
      obtain ⟨x3, s3, u3, w3⟩ := f3.ex
      have h3 := h'.ex x3
      have hr3 := sFoot_rg hw
      have kx : ri (cs_foundX S3 i) w.1 1000002 := ⟨u3, by omega⟩
      have ky : ri (cs_foundY S3 i) w.2 1000002 := ⟨w3, by omega⟩
      obtain ⟨S2, v, e2, x2, s2, hv⟩ := FF.fnd (N := N) ((two.mul kx (by decide)).sub (h3.x ha) (by decide)).l ((two.mul ky (by decide)).sub (h3.y ha) (by decide)).l (show (cs_rnd S3 i).toInt = s by rw [s3]; exact ss1)
      obtain ⟨rfl, v1, v2⟩ := hv
      exact ⟨S2, 1, (if_neg (by decide)).trans ((if_neg (by decide)).trans ((if_neg (by decide)).trans ((if_neg (by decide)).trans ((if_neg (by decide)).trans ((if_neg (by decide)).trans ((if_neg (by decide)).trans ((if_neg (by decide)).trans ((if_neg (by decide)).trans ((if_neg (by decide)).trans ((if_neg (by decide)).trans ((if_pos rfl).trans (bs (e1) ((if_neg (show ¬ (1 : Int32) = 0 by decide)).trans (bs (rfl) (bs (rfl) (bs (e3) ((if_neg (show ¬ (1 : Int32) = 0 by decide)).trans (bs (rfl) (bs (h3.tx ha) (bs (rfl) (bs (h3.ty ha) (bs (e2) ((if_neg (show ¬ (1 : Int32) = 0 by decide))))))))))))))))))))))))), (x1.tr x3).tr x2, s2, rfl, v1, v2⟩
theorem pf_12 (hN : 25 ≤ N) (h : fcx S i n X Y) (ha : a < n) (hb : b < n) (hc : c < n) (hs : (cs_rnd S i).toInt = s) : FF S i (t_Fi_find N i 12 (nI a) (nI b) (nI c) (nI d) S) (sStep X Y s 12 a b c d).1 (sStep X Y s 12 a b c d).2 := by
  unfold t_Fi_find
  refine FF.eq ((if_neg (by decide)).trans ((if_neg (by decide)).trans ((if_neg (by decide)).trans ((if_neg (by decide)).trans ((if_neg (by decide)).trans ((if_neg (by decide)).trans ((if_neg (by decide)).trans ((if_neg (by decide)).trans ((if_neg (by decide)).trans ((if_neg (by decide)).trans ((if_neg (by decide)).trans ((if_neg (by decide)).trans ((if_pos rfl).trans (bs (h.tx ha) (bs (h.tx hb) (bs (h.tx hc) (bs (h.ty ha) (bs (h.ty hb) (bs (h.ty hc) (rfl)))))))))))))))))))) ?_
  exact (FF.fnd ((((h.x ha).add (h.x hb) (by decide)).add (h.x hc) (by decide)).l.mul (rg.c (x := 666669) (n := 666669) (by decide +kernel)) (by decide +kernel)) ((((h.y ha).add (h.y hb) (by decide)).add (h.y hc) (by decide)).l.mul (rg.c (x := 666669) (n := 666669) (by decide +kernel)) (by decide +kernel)) hs).tzz
theorem pf_13 (hN : 25 ≤ N) (h : fcx S i n X Y) (ha : a < n) (hb : b < n) (hc : c < n) (hs : (cs_rnd S i).toInt = s) : FF S i (t_Fi_find N i 13 (nI a) (nI b) (nI c) (nI d) S) (sStep X Y s 13 a b c d).1 (sStep X Y s 13 a b c d).2 := by
  unfold t_Fi_find
  refine FF.eq ((if_neg (by decide)).trans ((if_neg (by decide)).trans ((if_neg (by decide)).trans ((if_neg (by decide)).trans ((if_neg (by decide)).trans ((if_neg (by decide)).trans ((if_neg (by decide)).trans ((if_neg (by decide)).trans ((if_neg (by decide)).trans ((if_neg (by decide)).trans ((if_neg (by decide)).trans ((if_neg (by decide)).trans ((if_neg (by decide)).trans ((if_pos rfl).trans (rfl))))))))))))))) ?_
  exact (FR.ff (p_out hN h ha hb hc) hs).tzz
end FK
