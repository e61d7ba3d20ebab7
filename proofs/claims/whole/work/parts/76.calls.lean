/-! the plan behind a step that is written -/
def kdw (kd : Nat → Nat) (p k : Nat) : Nat → Nat := va_up kd p k
def srw (sr : Nat → Nat) (p a b c e : Nat) : Nat → Nat := va_up (va_up (va_up (va_up sr (4 * p) a) (4 * p + 1) b) (4 * p + 2) c) (4 * p + 3) e
theorem srw_j {sr : Nat → Nat} {p a b c e : Nat} : srw sr p a b c e (4 * p) = a ∧ srw sr p a b c e (4 * p + 1) = b ∧ srw sr p a b c e (4 * p + 2) = c ∧ srw sr p a b c e (4 * p + 3) = e := by
  unfold srw
  refine ⟨?_, ?_, ?_, ?_⟩
  · rw [va_up_ne _ _ (by omega), va_up_ne _ _ (by omega), va_up_ne _ _ (by omega), va_up_self]
  · rw [va_up_ne _ _ (by omega), va_up_ne _ _ (by omega), va_up_self]
  · rw [va_up_ne _ _ (by omega), va_up_self]
  · rw [va_up_self]
theorem srw_ne {sr : Nat → Nat} {p a b c e t : Nat} (h : t < 4 * p ∨ 4 * p + 3 < t) : srw sr p a b c e t = sr t := by
  unfold srw
  rw [va_up_ne _ _ (by omega), va_up_ne _ _ (by omega), va_up_ne _ _ (by omega), va_up_ne _ _ (by omega)]
theorem upd4_j {F : Nat → Int32} {p : Nat} {a b c e : Int32} : (upd (upd (upd (upd F (4 * p) a) (4 * p + 1) b) (4 * p + 2) c) (4 * p + 3) e) (4 * p) = a ∧ (upd (upd (upd (upd F (4 * p) a) (4 * p + 1) b) (4 * p + 2) c) (4 * p + 3) e) (4 * p + 1) = b ∧ (upd (upd (upd (upd F (4 * p) a) (4 * p + 1) b) (4 * p + 2) c) (4 * p + 3) e) (4 * p + 2) = c ∧ (upd (upd (upd (upd F (4 * p) a) (4 * p + 1) b) (4 * p + 2) c) (4 * p + 3) e) (4 * p + 3) = e := by
  refine ⟨?_, ?_, ?_, ?_⟩
  · rw [pk_un (by omega), pk_un (by omega), pk_un (by omega), pk_us]
  · rw [pk_un (by omega), pk_un (by omega), pk_us]
  · rw [pk_un (by omega), pk_us]
  · rw [pk_us]
theorem upd4_ne {F : Nat → Int32} {p t : Nat} {a b c e : Int32} (h : t < 4 * p ∨ 4 * p + 3 < t) : (upd (upd (upd (upd F (4 * p) a) (4 * p + 1) b) (4 * p + 2) c) (4 * p + 3) e) t = F t := by
  rw [pk_un (by omega), pk_un (by omega), pk_un (by omega), pk_un (by omega)]
/-- the plan in two rows of ints -/
def PRx (sz : Int32) (ks ss : Nat → Int32) (n : Nat) (kd sr : Nat → Nat) : Prop := sz = nI n ∧ n ≤ 10 ∧ ∀ p, p < n → ks p = nI (kd p) ∧ kd p < 14 ∧ sok p (kd p) (sr (4 * p)) (sr (4 * p + 1)) (sr (4 * p + 2)) (sr (4 * p + 3)) ∧ ∀ j, j < 4 → ss (4 * p + j) = nI (sr (4 * p + j))
theorem PRx.write {sz sz2 : Int32} {ks ss : Nat → Int32} {n n2 p k a b c e : Nat} {kd sr : Nat → Nat} {xa xb xc xe : Int32} (h : PRx sz ks ss n kd sr) (h2 : sz2 = nI n2) (hn2 : n2 ≤ 10) (hq : ∀ q, q < n2 → q ≠ p → q < n) (hk : k < 14) (hok : sok p k a b c e) (ea : xa = nI a) (eb : xb = nI b) (ec : xc = nI c) (ee : xe = nI e) : PRx sz2 (upd ks p (nI k)) (upd (upd (upd (upd ss (4 * p) xa) (4 * p + 1) xb) (4 * p + 2) xc) (4 * p + 3) xe) n2 (kdw kd p k) (srw sr p a b c e) := by
  refine ⟨h2, hn2, fun q hq2 => ?_⟩
  by_cases hqp : q = p
  · subst hqp
    have s1 := srw_j (sr := sr) (p := q) (a := a) (b := b) (c := c) (e := e)
    have u1 := upd4_j (F := ss) (p := q) (a := xa) (b := xb) (c := xc) (e := xe)
    refine ⟨?_, ?_, ?_, fun j hj => ?_⟩
    · unfold kdw; rw [pk_us, va_up_self]
    · unfold kdw; rw [va_up_self]; exact hk
    · unfold kdw; rw [va_up_self, s1.1, s1.2.1, s1.2.2.1, s1.2.2.2]; exact hok
    · match j, hj with
      | 0, _ => exact u1.1.trans (ea.trans (congrArg nI s1.1.symm))
      | 1, _ => rw [u1.2.1, s1.2.1, eb]
      | 2, _ => rw [u1.2.2.1, s1.2.2.1, ec]
      | 3, _ => rw [u1.2.2.2, s1.2.2.2, ee]
      | j + 4, h => omega
  · obtain ⟨g1, g2, g3, g4⟩ := h.2.2 q (hq q hq2 hqp)
    refine ⟨?_, ?_, ?_, fun j hj => ?_⟩
    · unfold kdw; rw [pk_un hqp, va_up_ne _ _ hqp]; exact g1
    · unfold kdw; rw [va_up_ne _ _ hqp]; exact g2
    · unfold kdw; rw [va_up_ne _ _ hqp, srw_ne (by omega), srw_ne (by omega), srw_ne (by omega), srw_ne (by omega)]; exact g3
    · rw [upd4_ne (by omega), srw_ne (by omega)]; exact g4 j hj
theorem srd_in {d j L : Nat} {x : Int32} (hL : L ≤ 10) (h : j < d → inb x L = true) : ∃ t, srd d j x = nI t ∧ (j < d → t < L) := by
  unfold srd
  by_cases hd : d ≤ j
  · exact ⟨0, if_pos hd, fun z => by omega⟩
  · obtain ⟨t, ht, hx⟩ := (inb_iff (by omega)).mp (h (by omega))
    exact ⟨t, (if_neg hd).trans hx, fun _ => ht⟩
theorem stp_in {k L : Nat} {a b c e : Int32} (hL : L ≤ 10) (h : stp (ndk k) L a b c e = true) : ∃ a' b' c' e', srd (ndk k) 0 a = nI a' ∧ srd (ndk k) 1 b = nI b' ∧ srd (ndk k) 2 c = nI c' ∧ srd (ndk k) 3 e = nI e' ∧ sok L k a' b' c' e' := by
  have h := of_decide_eq_true h
  obtain ⟨a', ea, ha⟩ := srd_in hL h.1
  obtain ⟨b', eb, hb⟩ := srd_in hL h.2.1
  obtain ⟨c', ec, hc⟩ := srd_in hL h.2.2.1
  obtain ⟨e', ee, he⟩ := srd_in hL h.2.2.2
  exact ⟨a', b', c', e', ea, eb, ec, ee, ha, hb, hc, he⟩
theorem inb14 {x : Int32} : (∃ k, k < 14 ∧ x = nI k) ∨ inb x 14 = false := by
  cases h : inb x 14 with
  | true => exact Or.inl ((inb_iff (by decide)).mp h)
  | false => exact Or.inr rfl
/-! the calls that draw -/
/-- one call: both sides answer alike, and their states are again of one plan -/
def STT (S : CS) (M : MS) : Prop := ∃ n s f kd sr, CInv S n s f kd sr ∧ MInv M n s f kd sr
def CALL (x : Option (Int32 × CS)) (y : Option (Int32 × MS)) : Prop := ∃ v S M, x = some (v, S) ∧ y = some (v, M) ∧ STT S M
section DRW
variable {N : Nat} {S : CS} {M : MS}
theorem call_clear (hN : 2000 ≤ N) (h : STT S M) : CALL (t_FF_clear N S) (t_Mo_clear N M) := by
  obtain ⟨n, s, f, kd, sr, hC, hM⟩ := h
  have hC0 := hC
  obtain ⟨c1, c2, c3, c4, c5, c6, c7⟩ := hC
  obtain ⟨m1, m2, m3, m4⟩ := hM
  have kp : KC [2] S (cs_set_psize S 0) := KC.s_psize
  have km : KM [0] M (ms_set_many M 0) := KM.s_many
  obtain ⟨S', e1, I1⟩ := c_drawAll (N := N) (S := cs_set_psize S 0) (n := 0) (s := s) (f := f) (kd := kd) (sr := sr) (by omega) c1 c2 (by rw [kp.seed (by decide)]; exact c3) (by rw [kp.figs (by decide)]; exact c4) ⟨by rw [cs_g_psize_psize]; rfl, by omega, fun p hp => by omega⟩ (c7.2.1.kc kp (by decide))
  obtain ⟨M', e2, I2, -⟩ := mm_drawAll (N := N) (M := ms_set_many M 0) (n := 0) (s := s) (f := f) (kd := kd) (sr := sr) (by omega) c1.2 c2.2 (by rw [km.seed (by decide)]; exact m1) (by rw [km.figs (by decide)]; exact m2) ⟨by rw [ms_g_many_many]; rfl, by omega, fun p hp => by omega⟩
  exact ⟨nI n, S', M', bs (congrArg some c5.1) <| bs rfl <| bs e1 rfl, bs (congrArg some m3.1) <| bs rfl <| bs e2 rfl, 0, s, f, kd, sr, I1, I2⟩
theorem call_draw {x y : Int32} (hN : 2000 ≤ N) (h : STT S M) : CALL (t_FF_draw N x y S) (t_Mo_draw N x y M) := by
  obtain ⟨n, s, f, kd, sr, hC, hM⟩ := h
  have h0 : STT S M := ⟨n, s, f, kd, sr, hC, hM⟩
  obtain ⟨c1, c2, c3, c4, c5, c6, c7⟩ := hC
  obtain ⟨m1, m2, m3, m4⟩ := hM
  unfold t_FF_draw t_Mo_draw t_Mo_isIn
  by_cases h1 : x < 1
  · exact ⟨-2, S, M, if_pos h1, bs (if_pos h1) (if_pos rfl), h0⟩
  · by_cases h2 : 1000000 < x
    · exact ⟨-2, S, M, (if_neg h1).trans (if_pos h2), bs ((if_neg h1).trans (if_pos h2)) (if_pos rfl), h0⟩
    · by_cases h3 : y < 1
      · exact ⟨-2, S, M, (if_neg h1).trans <| (if_neg h2).trans <| if_pos h3, bs ((if_neg h1).trans (if_neg h2)) <| (if_neg (by decide)).trans <| bs (if_pos h3) (if_pos rfl), h0⟩
      · by_cases h4 : y ≤ 5
        · have hx : ∃ s', x = nI s' ∧ 1 ≤ s' ∧ s' ≤ 1000000 := by
            rw [Int32.lt_iff_toInt_lt] at h1 h2
            have q1 : (1 : Int32).toInt = 1 := by decide
            have q2 : (1000000 : Int32).toInt = 1000000 := by decide
            rw [q1] at h1
            rw [q2] at h2
            exact ⟨x.toInt.toNat, Int32.toInt_inj.mp (by rw [nI_toInt (by omega)]; omega), by omega, by omega⟩
          have hy : ∃ f', y = nI f' ∧ 1 ≤ f' ∧ f' ≤ 5 := by
            rw [Int32.lt_iff_toInt_lt] at h3
            rw [Int32.le_iff_toInt_le] at h4
            have q1 : (1 : Int32).toInt = 1 := by decide
            have q2 : (5 : Int32).toInt = 5 := by decide
            rw [q1] at h3
            rw [q2] at h4
            exact ⟨y.toInt.toNat, Int32.toInt_inj.mp (by rw [nI_toInt (by omega)]; omega), by omega, by omega⟩
          obtain ⟨s', rfl, hs1, hs2⟩ := hx
          obtain ⟨f', rfl, hf1, hf2⟩ := hy
          have k1 : KC [0] S (cs_set_seed S (nI s')) := KC.s_seed
          have k2 : KC [1] (cs_set_seed S (nI s')) (cs_set_figs (cs_set_seed S (nI s')) (nI f')) := KC.s_figs
          have k12 : KC [0, 1] S (cs_set_figs (cs_set_seed S (nI s')) (nI f')) := (k1.mo (by decide)).tr (k2.mo (by decide))
          have l1 : KM [3] M (ms_set_seed M (nI s')) := KM.s_seed
          have l2 : KM [4] (ms_set_seed M (nI s')) (ms_set_figs (ms_set_seed M (nI s')) (nI f')) := KM.s_figs
          have l12 : KM [3, 4] M (ms_set_figs (ms_set_seed M (nI s')) (nI f')) := (l1.mo (by decide)).tr (l2.mo (by decide))
          obtain ⟨S', e1, I1⟩ := c_drawAll (N := N) (S := cs_set_figs (cs_set_seed S (nI s')) (nI f')) (n := n) (s := s') (f := f') (kd := kd) (sr := sr) (by omega) ⟨hs1, hs2⟩ ⟨hf1, hf2⟩ (by rw [k2.seed (by decide), cs_g_seed_seed]) (cs_g_figs_figs _ _) (c5.kc k12 (by decide)) (c7.2.1.kc k12 (by decide))
          obtain ⟨M', e2, I2, -⟩ := mm_drawAll (N := N) (M := ms_set_figs (ms_set_seed M (nI s')) (nI f')) (n := n) (s := s') (f := f') (kd := kd) (sr := sr) (by omega) hs2 hf2 (by rw [l2.seed (by decide), ms_g_seed_seed]) (ms_g_figs_figs _ _) (m3.km l12 (by decide))
          have d2 := I2.md hf2
          have est := m_standing (N := N) (M := M') (by omega) hf2 d2.2.2.1 (fun g hg => (d2.2.2.2 g hg).1)
          refine ⟨nI (stn (bb kd sr s' n) f'), S', M', (if_neg h1).trans <| (if_neg h2).trans <| (if_neg h3).trans <| (if_pos h4).trans <| bs rfl <| bs rfl <| bs e1 <| bs (congrArg some I1.2.2.2.2.2.1.2.1) rfl, bs ((if_neg h1).trans (if_neg h2)) <| (if_neg (by decide)).trans <| bs ((if_neg h3).trans (if_neg (by rw [Int32.not_lt]; exact h4))) <| (if_neg (by decide)).trans <| bs rfl <| bs rfl <| bs e2 <| bs est rfl, n, s', f', kd, sr, I1, I2⟩
        · exact ⟨-2, S, M, (if_neg h1).trans <| (if_neg h2).trans <| (if_neg h3).trans <| if_neg h4, bs ((if_neg h1).trans (if_neg h2)) <| (if_neg (by decide)).trans <| bs ((if_neg h3).trans (if_pos (by rw [Int32.not_le] at h4; exact h4))) (if_pos rfl), h0⟩
theorem isIn13 {x : Int32} : t_Mo_isIn N x 0 13 = some (bI (inb x 14)) := m_isIn (L := 14) (by decide)
theorem call_change {x k a b c e : Int32} (hN : 2000 ≤ N) (h : STT S M) : CALL (t_FF_change N x k a b c e S) (t_Mo_change N x k a b c e M) := by
  obtain ⟨n, s, f, kd, sr, hC, hM⟩ := h
  have h0 : STT S M := ⟨n, s, f, kd, sr, hC, hM⟩
  obtain ⟨c1, c2, c3, c4, c5, c6, c7⟩ := hC
  obtain ⟨m1, m2, m3, m4⟩ := hM
  have hn := c5.2.1
  have t1 := c_isThere (N := N) (x := x) c5.1
  have t2 := m_isPoint (N := N) (x := x) m3.1 hn
  unfold t_FF_change t_Mo_change
  cases hx : inb x n with
  | false =>
    rw [hx] at t1 t2
    exact ⟨-2, S, M, bs t1 (if_pos rfl), bs t2 (if_pos rfl), h0⟩
  | true =>
    rw [hx] at t1 t2
    obtain ⟨p, hp, rfl⟩ := (inb_iff (by omega)).mp hx
    rcases inb14 (x := k) with ⟨k', hk, rfl⟩ | hk
    · have u1 := c_isStep (N := N) (L := p) (a := a) (b := b) (c := c) (e := e) hk
      have u2 := m_areThere (N := N) (L := p) (a := a) (b := b) (c := c) (e := e) (by omega) hk
      have i2 : t_Mo_isIn N (nI k') 0 13 = some (bI true) := by rw [isIn13, (inb_iff (by decide)).mpr ⟨k', hk, rfl⟩]
      cases hs : stp (ndk k') p a b c e with
      | false =>
        rw [hs] at u1 u2
        exact ⟨-2, S, M, bs t1 <| (if_neg (by decide)).trans <| bs u1 (if_pos rfl), bs t2 <| (if_neg (by decide)).trans <| bs i2 <| (if_neg (by decide)).trans <| bs u2 (if_pos rfl), h0⟩
      | true =>
        rw [hs] at u1 u2
        obtain ⟨a', b', c', e', ea, eb, ec, ee, hok⟩ := stp_in (by omega) hs
        obtain ⟨S1, w1, k1, kk1, ks1⟩ := c_write (N := N) (S := S) (a := a) (b := b) (c := c) (e := e) (show p < 10 by omega) hk
        obtain ⟨M1, w2, l1, lk1, ls1⟩ := m_setStep (N := N) (M := M) (a := a) (b := b) (c := c) (e := e) (show p < 10 by omega) hk
        have P1 : PR S1 n (kdw kd p k') (srw sr p a' b' c' e') := by
          have := PRx.write (sz2 := cs_psize S1) (n2 := n) c5 (by rw [k1.psize (by decide)]; exact c5.1) hn (fun q hq _ => hq) hk hok ea eb ec ee
          rw [← kk1, ← ks1] at this
          exact this
        have P2 : MPR M1 n (kdw kd p k') (srw sr p a' b' c' e') := by
          have := PRx.write (sz2 := ms_many M1) (n2 := n) m3 (by rw [l1.many (by decide)]; exact m3.1) hn (fun q hq _ => hq) hk hok ea eb ec ee
          rw [← lk1, ← ls1] at this
          exact this
        obtain ⟨S2, e1, I1⟩ := c_drawAll (N := N) (S := S1) (by omega) c1 c2 (by rw [k1.seed (by decide)]; exact c3) (by rw [k1.figs (by decide)]; exact c4) P1 (c7.2.1.kc k1 (by decide))
        obtain ⟨M2, e2, I2, -⟩ := mm_drawAll (N := N) (M := M1) (by omega) c1.2 c2.2 (by rw [l1.seed (by decide)]; exact m1) (by rw [l1.figs (by decide)]; exact m2) P2
        have hkp := (c5.2.2 p hp).1
        have hmp := (m3.2.2 p hp).1
        exact ⟨nI (kd p), S2, M2, bs t1 <| (if_neg (by decide)).trans <| bs u1 <| (if_neg (by decide)).trans <| bs ((ta_n (by omega) (by decide)).trans (congrArg some hkp)) <| bs w1 <| bs e1 rfl, bs t2 <| (if_neg (by decide)).trans <| bs i2 <| (if_neg (by decide)).trans <| bs u2 <| (if_neg (by decide)).trans <| bs ((ta_n (by omega) (by decide)).trans (congrArg some hmp)) <| bs w2 <| bs e2 rfl, n, s, f, _, _, I1, I2⟩
    · have u1 := c_noStep (N := N) (L := p) (a := a) (b := b) (c := c) (e := e) hk
      have i2 : t_Mo_isIn N k 0 13 = some (bI false) := by rw [isIn13, hk]
      exact ⟨-2, S, M, bs t1 <| (if_neg (by decide)).trans <| bs u1 (if_pos rfl), bs t2 <| (if_neg (by decide)).trans <| bs i2 (if_pos rfl), h0⟩
theorem call_step {k a b c e : Int32} (hN : 2000 ≤ N) (h : STT S M) : CALL (t_FF_step N k a b c e S) (t_Mo_step N k a b c e M) := by
  obtain ⟨n, s, f, kd, sr, hC, hM⟩ := h
  have h0 : STT S M := ⟨n, s, f, kd, sr, hC, hM⟩
  obtain ⟨c1, c2, c3, c4, c5, c6, c7⟩ := hC
  obtain ⟨m1, m2, m3, m4⟩ := hM
  have hn := c5.2.1
  unfold t_FF_step t_Mo_step
  rcases inb14 (x := k) with ⟨k', hk, rfl⟩ | hk
  · have u1 := c_isStep (N := N) (L := n) (a := a) (b := b) (c := c) (e := e) hk
    have u2 := m_areThere (N := N) (L := n) (a := a) (b := b) (c := c) (e := e) (by omega) hk
    have i2 : t_Mo_isIn N (nI k') 0 13 = some (bI true) := by rw [isIn13, (inb_iff (by decide)).mpr ⟨k', hk, rfl⟩]
    cases hs : stp (ndk k') n a b c e with
    | false =>
      rw [hs] at u1 u2
      exact ⟨-2, S, M, bs (congrArg some c5.1) <| bs u1 (if_pos rfl), bs i2 <| (if_neg (by decide)).trans <| bs (congrArg some m3.1) <| bs u2 (if_pos rfl), h0⟩
    | true =>
      rw [hs] at u1 u2
      by_cases h10 : n < 10
      · obtain ⟨a', b', c', e', ea, eb, ec, ee, hok⟩ := stp_in hn hs
        obtain ⟨S1, w1, k1, kk1, ks1⟩ := c_write (N := N) (S := S) (a := a) (b := b) (c := c) (e := e) h10 hk
        obtain ⟨M1, w2, l1, lk1, ls1⟩ := m_setStep (N := N) (M := M) (a := a) (b := b) (c := c) (e := e) h10 hk
        have k2 : KC [2] S1 (cs_set_psize S1 (nI n + 1)) := KC.s_psize
        have l2 : KM [0] M1 (ms_set_many M1 (ms_many M1 + 1)) := KM.s_many
        have hm1 : ms_many M1 = nI n := by rw [l1.many (by decide)]; exact m3.1
        have P1 : PR (cs_set_psize S1 (nI n + 1)) (n + 1) (kdw kd n k') (srw sr n a' b' c' e') := by
          have := PRx.write (sz2 := cs_psize (cs_set_psize S1 (nI n + 1))) (n2 := n + 1) c5 (by rw [cs_g_psize_psize, nI_1]) (by omega) (fun q hq hqp => by omega) hk hok ea eb ec ee
          rw [← kk1, ← ks1] at this
          unfold PR
          rw [k2.kinds (by decide), k2.srcs (by decide)]
          exact this
        have P2 : MPR (ms_set_many M1 (ms_many M1 + 1)) (n + 1) (kdw kd n k') (srw sr n a' b' c' e') := by
          have := PRx.write (sz2 := ms_many (ms_set_many M1 (ms_many M1 + 1))) (n2 := n + 1) m3 (by rw [ms_g_many_many, hm1, nI_1]) (by omega) (fun q hq hqp => by omega) hk hok ea eb ec ee
          rw [← lk1, ← ls1] at this
          unfold MPR
          rw [l2.kindOf (by decide), l2.need (by decide)]
          exact this
        have k12 : KC [2, 3, 4] S (cs_set_psize S1 (nI n + 1)) := (k1.mo (by decide)).tr (k2.mo (by decide))
        have D1 := c6.kc k12 (by decide)
        have hrun : ∀ g, frun kd sr ((s + 1000 * g : Nat) : Int) n = frun (kdw kd n k') (srw sr n a' b' c' e') ((s + 1000 * g : Nat) : Int) n := fun g => frun_cg n (fun p hp => (va_up_ne _ _ (by omega)).symm) (fun p hp => (srw_ne (by omega)).symm)
        obtain ⟨S2, e1, x1, d1, R1, s1⟩ := d_goOn (N := N) (i := 0) (n := n + 1) (f := f) (s := s) (p := n) (v2 := -1) (fq := fun _ => false) (kd := kdw kd n k') (sr := srw sr n a' b' c' e') (S := cs_set_psize S1 (nI n + 1)) (by omega) (fun p hp => no_m1 p hp (by omega)) (by omega) c2.2 P1 D1.1 (fun h hh => by
          rw [kd_id, ← hrun h]
          exact D1.2.2 h hh)
        rw [kd_id] at R1 s1
        obtain ⟨S3, e3, k3, K3⟩ := c_forget (N := N) (n := n + 1) (x1.dv (c7.2.1.kc k12 (by decide)))
        have hx := x1
        obtain ⟨p0, p1, -⟩ := hx
        have hP2 := P1.dx x1
        have I1 : CInv S3 (n + 1) s f (kdw kd n k') (srw sr n a' b' c' e') := by
          refine ⟨c1, c2, ?_, ?_, hP2.kc k3 (by decide), (show CDr S2 0 (n + 1) s f (kdw kd n k') (srw sr n a' b' c' e') from ⟨d1, s1, R1⟩).kc k3 (by decide), K3 _ _ _ _⟩
          · rw [k3.seed (by decide), p0, k12.seed (by decide)]; exact c3
          · rw [k3.figs (by decide), p1, k12.figs (by decide)]; exact c4
        have l12 : KM [0, 1, 2] M (ms_set_many M1 (ms_many M1 + 1)) := (l1.mo (by decide)).tr (l2.mo (by decide))
        obtain ⟨M2, e2, I2, -⟩ := mm_drawAll (N := N) (M := ms_set_many M1 (ms_many M1 + 1)) (by omega) c1.2 c2.2 (by rw [l12.seed (by decide)]; exact m1) (by rw [l12.figs (by decide)]; exact m2) P2
        refine ⟨nI n, S3, M2, bs (congrArg some c5.1) <| bs u1 <| (if_neg (by decide)).trans <| bs (congrArg some c5.1) <| (if_pos (nI_lt (b := 10) h10 (by decide))).trans <| bs (congrArg some c5.1) <| bs w1 <| bs rfl <| bs e1 <| bs (congrArg some hP2.1) <| bs e3 rfl, bs i2 <| (if_neg (by decide)).trans <| bs (congrArg some m3.1) <| bs u2 <| (if_neg (by decide)).trans <| bs (congrArg some m3.1) <| (if_neg (fun z => by have := (nI_eq (a := n) (b := 10) (by omega) (by decide)).mp z; omega)).trans <| bs (congrArg some m3.1) <| bs w2 <| bs rfl <| bs rfl <| bs e2 <| bs (congrArg some I2.2.2.1.1) ?_, n + 1, s, f, _, _, I1, I2⟩
        rw [nI_pred]
      · have hn10 : n = 10 := by omega
        subst hn10
        exact ⟨-3, S, M, bs (congrArg some c5.1) <| bs u1 <| (if_neg (by decide)).trans <| bs (congrArg some c5.1) <| if_neg (by decide), bs i2 <| (if_neg (by decide)).trans <| bs (congrArg some m3.1) <| bs u2 <| (if_neg (by decide)).trans <| bs (congrArg some m3.1) <| if_pos rfl, h0⟩
  · have u1 := c_noStep (N := N) (L := n) (a := a) (b := b) (c := c) (e := e) hk
    have i2 : t_Mo_isIn N k 0 13 = some (bI false) := by rw [isIn13, hk]
    exact ⟨-2, S, M, bs (congrArg some c5.1) <| bs u1 (if_pos rfl), bs i2 (if_pos rfl), h0⟩
end DRW
