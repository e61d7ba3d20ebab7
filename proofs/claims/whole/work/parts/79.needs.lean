/-! needs -/
section NED
variable {N : Nat} {S S' : CS} {M : MS} {n s f : Nat} {kd sr : Nat → Nat}
theorem CInv.dx1 (h : CInv S n s f kd sr) (hx : DEx S S' 1) : CInv S' n s f kd sr := by
  have hx0 := hx
  obtain ⟨p0, p1, p2, p3, p4, p5, p6, p7, p8, p9, p10, p11, p12, d0, d1, f0, f1, f2, f3, f4⟩ := hx
  obtain ⟨c1, c2, c3, c4, c5, c6, c7⟩ := h
  refine ⟨c1, c2, p0.trans c3, p1.trans c4, c5.dx hx0, ⟨(d1 0 (by decide)).trans c6.1, (d0 0 (by decide)).trans c6.2.1, fun g hg => DEx.frep (c6.2.2 g hg) hx0 (by omega)⟩, ?_⟩
  obtain ⟨hpt, hD, kn, hkn, hkno, hlead, hlist, hrow, hring⟩ := c7
  refine ⟨p5.trans hpt, hx0.dv hD, kn, hkn, p6.trans hkno, fun z p hp => by rw [p7]; exact hlead z p hp, fun k hk z => (hlist k hk z).kc (by rw [p11]) (by rw [p12]), fun z => (hrow z).kc (by rw [p11]) (by rw [p12]), fun z => (hring z).kc (by rw [p11]) (by rw [p12])⟩
theorem KI.dv {b : Nat → Bool} {X Y : Nat → Nat → Int} (h : KI S f n b X Y) (hk : KC [11, 12] S S') (hD : DV S') : KI S' f n b X Y := by
  obtain ⟨hpt, _, kn, hkn, hkno, hlead, hlist, hrow, hring⟩ := h
  exact ⟨by rw [hk.pts (by decide)]; exact hpt, hD, kn, hkn, by rw [hk.known (by decide)]; exact hkno, fun z p hp => by rw [hk.leads (by decide)]; exact hlead z p hp, fun k hk2 z => (hlist k hk2 z).kc (by rw [hk.items (by decide)]) (by rw [hk.lsize (by decide)]), fun z => (hrow z).kc (by rw [hk.items (by decide)]) (by rw [hk.lsize (by decide)]), fun z => (hring z).kc (by rw [hk.items (by decide)]) (by rw [hk.lsize (by decide)])⟩
theorem AMx.km {M M' : MS} (h : AMx M M') : KM [5, 6, 7, 8, 9, 10, 11, 12] M M' := by
  obtain ⟨p0, p1, p2, p3, p4, p5, p6, p7, p8, p9, p10, p11, p12, p13⟩ := h
  exact ⟨fun _ => p0, fun _ => p1, fun _ => p2, fun _ => p3, fun _ => p4, fun h => absurd (by decide) h, fun h => absurd (by decide) h, fun h => absurd (by decide) h, fun h => absurd (by decide) h, fun h => absurd (by decide) h, fun h => absurd (by decide) h, fun h => absurd (by decide) h, fun h => absurd (by decide) h, fun _ => p5, fun _ => p6, fun _ => p7, fun _ => p8, fun _ => p9, fun _ => p10, fun _ => p11, fun _ => p12, fun _ => p13⟩
theorem call_needs {x y z : Int32} (hN : 2000 ≤ N) (h : STT S M) : CALL (t_FF_needs N x y z S) (t_Mo_needs3 N x y z M) := by
  obtain ⟨n, s, f, kd, sr, hC, hM⟩ := h
  have h0 : STT S M := ⟨n, s, f, kd, sr, hC, hM⟩
  have hP := hC.2.2.2.2.1
  have hn := hP.2.1
  have hf := hC.2.1.2
  have hmd := hM.md hf
  have t1 := c_isThere (N := N) (x := z) hP.1
  have t2 := m_isPoint (N := N) (x := z) hM.2.2.1.1 hn
  unfold t_FF_needs t_Mo_needs3
  cases hx : inb x 9 with
  | false => exact ⟨-2, S, M, bs (x := bI false) (by rw [c_isFactKind, hx]) (if_pos rfl), bs (x := bI false) (by rw [isIn8, hx]) (if_pos rfl), h0⟩
  | true =>
    obtain ⟨k, hk, rfl⟩ := (inb_iff (by decide)).mp hx
    have a1 : t_FF_isFactKind N (nI k) = some (bI true) := by rw [c_isFactKind, hx]
    have a2 : t_Mo_isIn N (nI k) 0 8 = some (bI true) := by rw [isIn8, hx]
    cases hz : inb z n with
    | false =>
      rw [hz] at t1 t2
      exact ⟨-2, S, M, bs a1 <| (if_neg (by decide)).trans <| bs t1 (if_pos rfl), bs a2 <| (if_neg (by decide)).trans <| bs t2 (if_pos rfl), h0⟩
    | true =>
      rw [hz] at t1 t2
      obtain ⟨p, hp, rfl⟩ := (inb_iff (by omega)).mp hz
      obtain ⟨S1, e1, k1, K1, l1⟩ := p_list (N := N) (by omega) hC.cd hC.2.2.2.2.2.2 hk
      obtain ⟨M1, e2, k2, W2⟩ := m_walk (N := N) (want := y) (by omega) hmd hM.2.2.1.1 hk
      have hl := fl_len (f := f) (b := bb kd sr s n) (X := xx kd sr s n) (Y := yy kd sr s n) (n := n) (k := k) (by omega) hk
      have hil := il_le k
      rw [← FL_eq (by omega) hk hmd.xr] at W2
      have hC1 := hC.kc k1 K1
      have hM1 := hM.km k2 (by decide)
      have hh := c_has (N := N) (x := y) l1 hl
      have hok : ∀ i, i < (FL f n (bb kd sr s n) (xx kd sr s n) (yy kd sr s n) k).length → (FL f n (bb kd sr s n) (xx kd sr s n) (yy kd sr s n) k).getD i 0 < 16777216 ∧ ∀ j, j < npk k → rk ((FL f n (bb kd sr s n) (xx kd sr s n) (yy kd sr s n) k).getD i 0) j < n := fun i hi => fl_ok (by omega) hk hi
      generalize FL f n (bb kd sr s n) (xx kd sr s n) (yy kd sr s n) k = L at l1 hl W2 hh hok
      rcases W2.fnd (by omega) with ⟨w1, w2⟩ | ⟨i, hi, rfl, w3, w4⟩
      · rw [w1] at hh
        exact ⟨-1, S1, M1, bs a1 <| (if_neg (by decide)).trans <| bs t1 <| (if_neg (by decide)).trans <| bs e1 <| bs (tk12 (by omega)) <| bs hh (if_pos rfl), bs a2 <| (if_neg (by decide)).trans <| bs t2 <| (if_neg (by decide)).trans <| bs e2 <| bs (congrArg some w2) (if_pos rfl), n, s, f, kd, sr, hC1, hM1⟩
      · have hh1 : t_IL_has N k (nI i) S1 = some (bI true) := by rw [hh, (inb_iff (by omega)).mpr ⟨i, hi, rfl⟩]
        obtain ⟨hw, hwj⟩ := hok i hi
        have hfr : ∀ q, q < n → (nI q = nI p ↔ (fun j => decide (j = p)) q = true) := fun q hq => by
          rw [nI_eq (by omega) (by omega)]
          exact decide_eq_true_iff.symm
        obtain ⟨S2, S3, b1, b2, x3, D3⟩ := c_draw (N := N) (S := S1) (i := 1) (p := 0) (fq := fun j => decide (j = p)) (v2 := nI p) (by omega) hC1.2.2.2.2.1 hC.1.2 hf hfr
        have hC3 := hC1.dx1 x3
        have it3 : cs_items S3 = cs_items S1 := x3.2.2.2.2.2.2.2.2.2.2.2.1
        have l3 : ta (il_len k) (cs_items S3 k) (nI i) = some (nI (L.getD i 0)) := by rw [it3]; exact c_item l1 hl hi
        have hml := hM1.2.2.1.2.2 p hp
        generalize hM2 : ms_set_kindOf M1 (upd (ms_kindOf M1) p 0) = M2
        have q2 : KM [1] M1 M2 := by rw [← hM2]; exact KM.s_kindOf
        generalize hkd : (fun j => if (fun j => decide (j = p)) j = true then 0 else kd j) = kd' at D3
        have kdp : kd' p = 0 := by rw [← hkd]; exact if_pos (decide_eq_true rfl)
        have kdq : ∀ q, q ≠ p → kd' q = kd q := fun q hq => by rw [← hkd]; exact if_neg (by rw [decide_eq_true_iff]; exact hq)
        have P2 : MPR M2 n kd' sr := by
          refine ⟨by rw [q2.many (by decide)]; exact hM1.2.2.1.1, hn, fun q hq => ?_⟩
          have hmq := hM1.2.2.1.2.2 q hq
          refine ⟨?_, ?_, ?_, fun j hj => by rw [q2.need (by decide)]; exact hmq.2.2.2 j hj⟩
          · rw [← hM2, ms_g_kindOf_kindOf]
            by_cases hqp : q = p
            · rw [hqp, pk_us, kdp]; rfl
            · rw [pk_un hqp, kdq q hqp]; exact hmq.1
          · by_cases hqp : q = p
            · rw [hqp, kdp]; decide
            · rw [kdq q hqp]; exact hmq.2.1
          · by_cases hqp : q = p
            · rw [hqp, kdp]; exact sok_0 _ _ _ _ _
            · rw [kdq q hqp]; exact hmq.2.2.1
        obtain ⟨M3, d3, I3, x3m⟩ := mm_drawAll (N := N) (M := M2) (by omega) hC.1.2 hf (by rw [q2.seed (by decide)]; exact hM1.1) (by rw [q2.figs (by decide)]; exact hM1.2.1) P2
        have q3 := x3m.km
        have fnd : ∀ j, j < 6 → ta 6 (ms_found M3) (nI j) = some (nI (rk (L.getD i 0) j)) := fun j hj => by
          rw [ta_n hj (by decide), q3.found (by decide), q2.found (by decide), w4 j hj]
        obtain ⟨R, eR, r0, r1, r2, r3, r4, r5⟩ := m_setRow (N := N) (M := M3) (nI (rk (L.getD i 0) 0)) (nI (rk (L.getD i 0) 1)) (nI (rk (L.getD i 0) 2)) (nI (rk (L.getD i 0) 3)) (nI (rk (L.getD i 0) 4)) (nI (rk (L.getD i 0) 5))
        have q4 : KM [13] M3 (ms_set_row M3 R) := KM.s_row
        have I4 := I3.km q4 (by decide)
        obtain ⟨M5, e5, q5, -⟩ := m_isHeld (N := N) (M := ms_set_row M3 R) (v := rk (L.getD i 0)) (by omega) (I4.md hf) hk (by
          intro j hj
          rw [ms_g_row_row]
          match j, hj with
          | 0, _ => exact r0
          | 1, _ => exact r1
          | 2, _ => exact r2
          | 3, _ => exact r3
          | 4, _ => exact r4
          | 5, _ => exact r5
          | j + 6, h => omega) hwj
        have I5 := I4.km q5 (by decide)
        generalize hM6 : ms_set_kindOf M5 (upd (ms_kindOf M5) p (nI (kd p))) = M6
        have q6 : KM [1] M5 M6 := by rw [← hM6]; exact KM.s_kindOf
        have hkin : ms_kindOf M5 = upd (ms_kindOf M1) p 0 := by rw [q5.kindOf (by decide), q4.kindOf (by decide), q3.kindOf (by decide), ← hM2, ms_g_kindOf_kindOf]
        have P6 : MPR M6 n kd sr := by
          refine ⟨by rw [q6.many (by decide)]; exact I5.2.2.1.1, hn, fun q hq => ?_⟩
          have hmq := hM1.2.2.1.2.2 q hq
          have hmq5 := I5.2.2.1.2.2 q hq
          refine ⟨?_, hmq.2.1, hmq.2.2.1, fun j hj => by rw [q6.need (by decide)]; exact hmq5.2.2.2 j hj⟩
          rw [← hM6, ms_g_kindOf_kindOf, hkin]
          by_cases hqp : q = p
          · rw [hqp, pk_us]
          · rw [pk_un hqp, pk_un hqp]; exact hmq.1
        obtain ⟨M7, d7, I7, -⟩ := mm_drawAll (N := N) (M := M6) (by omega) hC.1.2 hf (by rw [q6.seed (by decide)]; exact I5.1) (by rw [q6.figs (by decide)]; exact I5.2.1) P6
        obtain ⟨S4, b4, k4, D4⟩ := p_bears (N := N) (S := S3) (i := 1) (k := k) (w := L.getD i 0) (by omega) (by decide) (D3.cd hn hf) hC3.2.2.2.2.2.2.2.1 hk (by omega) hwj
        have hC4 := hC3.kc (k4.mo (by decide)) (KI.dv hC3.2.2.2.2.2.2 k4 D4)
        have ek : ta 10 (ms_kindOf M1) (nI p) = some (nI (kd p)) := (ta_n (by omega) (by decide)).trans (congrArg some hml.1)
        cases hv : hld f (bb kd' sr s n) (xx kd' sr s n) (yy kd' sr s n) k (rk (L.getD i 0)) with
        | false =>
          rw [hv] at b4 e5
          exact ⟨1, S4, M7, bs a1 <| (if_neg (by decide)).trans <| bs t1 <| (if_neg (by decide)).trans <| bs e1 <| bs (tk12 (by omega)) <| bs hh1 <| (if_neg (by decide)).trans <| bs (congrArg some hC1.2.2.1) <| bs (congrArg some hC1.2.2.2.1) <| bs b1 <| bs b2 <| bs l3 <| bs b4 <| if_pos rfl, bs a2 <| (if_neg (by decide)).trans <| bs t2 <| (if_neg (by decide)).trans <| bs e2 <| bs (congrArg some w3) <| (if_neg (by decide)).trans <| bs ek <| bs (twi_n (by omega) (by decide)) <| bs (congrArg some hM2) <| bs d3 <| bs (fnd 0 (by decide)) <| bs (fnd 1 (by decide)) <| bs (fnd 2 (by decide)) <| bs (fnd 3 (by decide)) <| bs (fnd 4 (by decide)) <| bs (fnd 5 (by decide)) <| bs eR <| bs e5 <| bs (twi_n (by omega) (by decide)) <| bs (congrArg some hM6) <| bs d7 <| if_pos rfl, n, s, f, kd, sr, hC4, I7⟩
        | true =>
          rw [hv] at b4 e5
          exact ⟨0, S4, M7, bs a1 <| (if_neg (by decide)).trans <| bs t1 <| (if_neg (by decide)).trans <| bs e1 <| bs (tk12 (by omega)) <| bs hh1 <| (if_neg (by decide)).trans <| bs (congrArg some hC1.2.2.1) <| bs (congrArg some hC1.2.2.2.1) <| bs b1 <| bs b2 <| bs l3 <| bs b4 <| if_neg (show ¬ bI true = 0 by decide), bs a2 <| (if_neg (by decide)).trans <| bs t2 <| (if_neg (by decide)).trans <| bs e2 <| bs (congrArg some w3) <| (if_neg (by decide)).trans <| bs ek <| bs (twi_n (by omega) (by decide)) <| bs (congrArg some hM2) <| bs d3 <| bs (fnd 0 (by decide)) <| bs (fnd 1 (by decide)) <| bs (fnd 2 (by decide)) <| bs (fnd 3 (by decide)) <| bs (fnd 4 (by decide)) <| bs (fnd 5 (by decide)) <| bs eR <| bs e5 <| bs (twi_n (by omega) (by decide)) <| bs (congrArg some hM6) <| bs d7 <| if_neg (show ¬ bI true = 0 by decide), n, s, f, kd, sr, hC4, I7⟩
end NED
