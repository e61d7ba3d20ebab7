theorem twi_n {n p : Nat} {f : Nat → Int32} {x : Int32} (h : p < n) (hn : n < 2147483648) : twi n f (nI p) x = some (upd f p x) := by
  unfold twi
  rw [if_neg (nI_in h (by omega)), nI_clamp (by omega)]
theorem fcx.congr {S S' : CS} {i n : Nat} {X Y : Nat → Int} (h : fcx S i n X Y) (e1 : cs_fx S' i = cs_fx S i) (e2 : cs_fy S' i = cs_fy S i) : fcx S' i n X Y := by
  unfold fcx at h ⊢
  rw [e1, e2]
  exact h
theorem fcx.push {S S' : CS} {i p : Nat} {X Y : Nat → Int} {x y : Int32} {q : Int × Int} (h : fcx S i p X Y) (hp : p < 10) (e1 : cs_fx S' i = upd (cs_fx S i) p x) (e2 : cs_fy S' i = upd (cs_fy S i) p y) (hx : x.toInt = q.1) (hy : y.toInt = q.2) (hq : inP q) : fcx S' i (p + 1) (va_up X p q.1) (va_up Y p q.2) := by
  refine ⟨by omega, fun j hj => ?_⟩
  rw [e1, e2]
  by_cases hjp : j = p
  · subst hjp
    rw [va_up_self, va_up_self, pk_us, pk_us]
    exact ⟨⟨hx, hq.1⟩, ⟨hy, hq.2⟩⟩
  · rw [va_up_ne _ _ hjp, va_up_ne _ _ hjp, pk_un hjp, pk_un hjp]
    exact h.2 j (by omega)
/-- one round of the class's loop over the points -/
theorem g_36 {N : Nat} {S : CS} {i n p k : Nat} {kd sr : Nat → Nat} {X Y : Nat → Int} {s : Int} {v2 : Int32} {k5 : Option Nat → Int32 → Int32 → CS → Option CS} (hN : 25 ≤ N) (hP : PR S n kd sr) (hp : p < n) (hk : k < 14) (hok : sok p k (sr (4 * p)) (sr (4 * p + 1)) (sr (4 * p + 2)) (sr (4 * p + 3))) (hs : (cs_rnd S i).toInt = s) (h0 : 0 ≤ s) (h1 : s < 2147483647) (hm : cs_made S i = nI p) (hfa : cs_fallen S i = -1) (hc : fcx S i p X Y) :
    ∃ S', tb_Fi_goOn_36 N k5 i (some 0) v2 (nI p) (nI k) S = k5 (some 0) v2 (nI (p + 1)) S' ∧ CEx S S' i ∧ FRep S' i (p + 1) (match (sStep X Y s k (sr (4 * p)) (sr (4 * p + 1)) (sr (4 * p + 2)) (sr (4 * p + 3))).1 with
      | none => ((sStep X Y s k (sr (4 * p)) (sr (4 * p + 1)) (sr (4 * p + 2)) (sr (4 * p + 3))).2, X, Y, some p)
      | some q => ((sStep X Y s k (sr (4 * p)) (sr (4 * p + 1)) (sr (4 * p + 2)) (sr (4 * p + 3))).2, va_up X p q.1, va_up Y p q.2, none)) := by
  have hp10 : p < 10 := by have := hP.2.1; omega
  have hsr := sStep_s (X := X) (Y := Y) (k := k) (a := sr (4 * p)) (b := sr (4 * p + 1)) (c := sr (4 * p + 2)) (d := sr (4 * p + 3)) h0 h1
  obtain ⟨S1, v, e, hex, hs1, hv⟩ := pf_all (N := N) hN hc hk hok hs h0 h1
  obtain ⟨g1, g2, g3, g4⟩ := hex.get
  have t1 : tk 1 (some 0) = some 0 := rfl
  have nx1 : some (nI p + 1) = some (nI (p + 1)) := by rw [nI_1]
  have f0 := p_from (N := N) hP hp (j := 0) (by omega)
  have f1 := p_from (N := N) hP hp (j := 1) (by omega)
  have f2 := p_from (N := N) hP hp (j := 2) (by omega)
  have f3 := p_from (N := N) hP hp (j := 3) (by omega)
  unfold tb_Fi_goOn_36
  generalize (sStep X Y s k (sr (4 * p)) (sr (4 * p + 1)) (sr (4 * p + 2)) (sr (4 * p + 3))).2 = s' at hs1 hsr ⊢
  cases ho : (sStep X Y s k (sr (4 * p)) (sr (4 * p + 1)) (sr (4 * p + 2)) (sr (4 * p + 3))).1 with
  | none =>
    rw [ho] at hv
    have hv0 : v = 0 := hv
    subst hv0
    refine ⟨cs_set_fallen S1 (va_up (cs_fallen S1) i (nI p)), bs t1 (bs f0 (bs f1 (bs f2 (bs f3 (bs e ((if_pos rfl).trans (bs rfl (bs nx1 rfl)))))))), hex.cex.tr (CEx.fallen (fun j hj => va_up_ne _ _ hj)), ?_, hsr, ?_, ?_, hp10, ?_⟩
    · rw [cs_g_rnd_fallen]
      exact hs1
    · rw [cs_g_made_fallen, g3]
      exact hm
    · rw [cs_g_fallen_fallen, va_up_self]
    · exact hc.congr (by rw [cs_g_fx_fallen, g1]) (by rw [cs_g_fy_fallen, g2])
  | some q =>
    rw [ho] at hv
    obtain ⟨hv1, hx, hy⟩ := hv
    subst hv1
    have hq := sStep_in ho
    refine ⟨cs_set_made (cs_set_fy (cs_set_fx S1 (va_up (cs_fx S1) i (upd (cs_fx S1 i) p (cs_foundX S1 i)))) (va_up (cs_fy (cs_set_fx S1 (va_up (cs_fx S1) i (upd (cs_fx S1 i) p (cs_foundX S1 i))))) i (upd (cs_fy (cs_set_fx S1 (va_up (cs_fx S1) i (upd (cs_fx S1 i) p (cs_foundX S1 i)))) i) p (cs_foundY (cs_set_fx S1 (va_up (cs_fx S1) i (upd (cs_fx S1 i) p (cs_foundX S1 i)))) i)))) (va_up (cs_made (cs_set_fy (cs_set_fx S1 (va_up (cs_fx S1) i (upd (cs_fx S1 i) p (cs_foundX S1 i)))) (va_up (cs_fy (cs_set_fx S1 (va_up (cs_fx S1) i (upd (cs_fx S1 i) p (cs_foundX S1 i))))) i (upd (cs_fy (cs_set_fx S1 (va_up (cs_fx S1) i (upd (cs_fx S1 i) p (cs_foundX S1 i)))) i) p (cs_foundY (cs_set_fx S1 (va_up (cs_fx S1) i (upd (cs_fx S1 i) p (cs_foundX S1 i)))) i))))) i (nI p + 1)), bs t1 (bs f0 (bs f1 (bs f2 (bs f3 (bs e ((if_neg (show ¬ (1 : Int32) = 0 by decide)).trans (bs rfl (bs (twi_n (by omega) (by decide)) (bs rfl (bs rfl (bs (twi_n (by omega) (by decide)) (bs rfl (bs rfl (bs nx1 rfl)))))))))))))), ((hex.cex.tr (CEx.fx (fun j hj => va_up_ne _ _ hj))).tr (CEx.fy (fun j hj => va_up_ne _ _ hj))).tr (CEx.made (fun j hj => va_up_ne _ _ hj)), ?_, hsr, ?_, ?_, ?_⟩
    · rw [cs_g_rnd_made, cs_g_rnd_fy, cs_g_rnd_fx]
      exact hs1
    · rw [cs_g_made_made, va_up_self, nI_1]
    · rw [cs_g_fallen_made, cs_g_fallen_fy, cs_g_fallen_fx, g4]
      exact hfa
    · refine hc.push hp10 (x := cs_foundX S1 i) (y := cs_foundY S1 i) ?_ ?_ hx hy hq
      · rw [cs_g_fx_made, cs_g_fx_fy, cs_g_fx_fx, va_up_self, g1]
      · rw [cs_g_fy_made, cs_g_fy_fy, va_up_self, cs_g_fy_fx, cs_g_foundY_fx, g2]
