/-! the calls that ask -/
def CALLr (x : Option Int32) (y : Option Int32) : Prop := ∃ v, x = some v ∧ y = some v
theorem STT.c {S S' : CS} {M : MS} {n s f : Nat} {kd sr : Nat → Nat} (hC : CInv S n s f kd sr) (hM : MInv M n s f kd sr) (hk : KC [6, 7, 8, 11, 12, 20, 21] S S') (hK : KI S' f n (bb kd sr s n) (xx kd sr s n) (yy kd sr s n)) {l : List Nat} {M' : MS} (hm : KM l M M') (hl : 0 ∉ l ∧ 1 ∉ l ∧ 2 ∉ l ∧ 3 ∉ l ∧ 4 ∉ l ∧ 5 ∉ l ∧ 6 ∉ l ∧ 7 ∉ l) : STT S' M' := ⟨n, s, f, kd, sr, hC.kc hk hK, hM.km hm hl⟩
section ASK
variable {N : Nat} {S : CS} {M : MS}
theorem c_leads {f n : Nat} {b : Nat → Bool} {X Y : Nat → Nat → Int} (hN : 25 ≤ N) (hd : CD S 0 f n b X Y) (hK : KI S f n b X Y) : ∃ S', t_Fs_findLeads N S = some S' ∧ KC [6, 7] S S' ∧ KI S' f n b X Y ∧ ∀ p, p < n → cs_leads S' p = nI (led f b X Y p) := by
  obtain ⟨hpt, hD, kn, hkn, hkno, hlead, hlist, hrow, hring⟩ := hK
  obtain ⟨S2, e2, k2, kn2, l2⟩ := p_findLeads (N := N) (kn := kn) hN hd hpt hkno (by omega) hlead
  have hit : ∀ j, cs_items S2 j = cs_items S j := fun j => by rw [k2.items (by decide)]
  have hls : ∀ j, cs_lsize S2 j = cs_lsize S j := fun j => by rw [k2.lsize (by decide)]
  have hbit : ∀ j, j ≠ 9 → (kn ||| 2 ^ 9).testBit j = kn.testBit j := fun j hj => by rw [tb_or, decide_eq_false (by omega), Bool.or_false]
  refine ⟨S2, e2, k2, ⟨by rw [k2.pts (by decide)]; exact hpt, hD.kc k2 (by decide), kn ||| 2 ^ 9, Nat.or_lt_two_pow (n := 12) hkn (by decide), kn2, fun _ => l2, fun k hk z => ?_, fun z => ?_, fun z => ?_⟩, l2⟩
  · rw [hbit k (by omega)] at z
    exact (hlist k hk z).kc (hit k) (hls k)
  · rw [hbit 10 (by decide)] at z
    exact (hrow z).kc (hit 9) (hls 9)
  · rw [hbit 11 (by decide)] at z
    exact (hring z).kc (hit 10) (hls 10)
theorem all_mask {n : Nat} (hn : n ≤ 10) : ((1 : Int32) <<< (nI n &&& 31)) - 1 = nI (2 ^ n - 1) := by
  have hp : 1 ≤ 2 ^ n := Nat.one_le_two_pow
  rw [sh_one n (by omega), show (1 : Int32) = nI 1 from rfl, pk_sub hp]
theorem mask_lt {n : Nat} (hn : n ≤ 10) : 2 ^ n - 1 < 2147483648 := by
  have : 2 ^ n ≤ 2 ^ 10 := Nat.pow_le_pow_right (by decide) hn
  omega
theorem isIn4 {x : Int32} : t_Mo_isIn N x 0 4 = some (bI (inb x 5)) := m_isIn (L := 5) (by decide)
theorem call_count {x : Int32} (hN : 2000 ≤ N) (h : STT S M) : CALL (t_FF_count N x S) (t_Mo_count N x M) := by
  obtain ⟨n, s, f, kd, sr, hC, hM⟩ := h
  have h0 : STT S M := ⟨n, s, f, kd, sr, hC, hM⟩
  have hcd := hC.cd
  have hmd := hM.md hC.2.1.2
  have hC0 := hC
  obtain ⟨c1, c2, c3, c4, c5, c6, c7⟩ := hC
  have hM0 := hM
  obtain ⟨m1, m2, m3, m4⟩ := hM
  have hn := c5.2.1
  unfold t_FF_count t_Mo_count
  cases hx : inb x 5 with
  | false =>
    have ne : ∀ j, j < 5 → ¬ x = nI j := fun j hj z => by
      have := (inb_iff (x := x) (L := 5) (by decide)).mpr ⟨j, hj, z⟩
      rw [hx] at this
      cases this
    refine ⟨-2, S, M, (if_neg (ne 0 (by decide))).trans <| (if_neg (ne 1 (by decide))).trans <| (if_neg (ne 2 (by decide))).trans <| (if_neg (ne 3 (by decide))).trans <| if_neg (ne 4 (by decide)), bs (x := bI false) (by rw [isIn4, hx]) (if_pos rfl), h0⟩
  | true =>
    obtain ⟨j, hj, rfl⟩ := (inb_iff (by decide)).mp hx
    have i4 : t_Mo_isIn N (nI j) 0 4 = some (bI true) := by rw [isIn4, hx]
    match j, hj, i4 with
    | 0, _, i4 => exact ⟨nI n, S, M, (if_pos rfl).trans <| bs (congrArg some c5.1) rfl, bs i4 <| (if_neg (by decide)).trans <| (if_pos rfl).trans <| bs (congrArg some m3.1) rfl, h0⟩
    | 1, _, i4 => exact ⟨nI f, S, M, (if_neg (by decide)).trans <| (if_pos rfl).trans <| bs (congrArg some c4) rfl, bs i4 <| (if_neg (by decide)).trans <| (if_neg (by decide)).trans <| (if_pos rfl).trans <| bs (congrArg some m2) rfl, h0⟩
    | 2, _, i4 =>
      have est := m_standing (N := N) (M := M) (by omega) c2.2 hmd.2.2.1 (fun g hg => (hmd.2.2.2 g hg).1)
      exact ⟨nI (stn (bb kd sr s n) f), S, M, (if_neg (by decide)).trans <| (if_neg (by decide)).trans <| (if_pos rfl).trans <| bs (congrArg some c6.2.1) rfl, bs i4 <| (if_neg (by decide)).trans <| (if_neg (by decide)).trans <| (if_neg (by decide)).trans <| (if_pos rfl).trans <| bs est rfl, h0⟩
    | 3, _, i4 => exact ⟨nI s, S, M, (if_neg (by decide)).trans <| (if_neg (by decide)).trans <| (if_neg (by decide)).trans <| (if_pos rfl).trans <| bs (congrArg some c3) rfl, bs i4 <| (if_neg (by decide)).trans <| (if_neg (by decide)).trans <| (if_neg (by decide)).trans <| (if_neg (by decide)).trans <| (if_pos rfl).trans <| bs (congrArg some m1) rfl, h0⟩
    | 4, _, i4 =>
      obtain ⟨S1, e1, k1, K1, l1⟩ := c_leads (N := N) (by omega) hcd c7
      have ep := p_placesOf (N := N) (S := S1) (w := 2 ^ n - 1) (by omega) hn K1.1 l1 (mask_lt hn)
      obtain ⟨M1, e2, k2, -⟩ := m_places (N := N) (w := 2 ^ n - 1) (by omega) hmd m3.1 (mask_lt hn)
      refine ⟨nI (plc (sam f (bb kd sr s n) (xx kd sr s n) (yy kd sr s n)) (2 ^ n - 1) n), S1, M1, (if_neg (by decide)).trans <| (if_neg (by decide)).trans <| (if_neg (by decide)).trans <| (if_neg (by decide)).trans <| (if_pos rfl).trans <| bs (x := (nI (plc (sam f (bb kd sr s n) (xx kd sr s n) (yy kd sr s n)) (2 ^ n - 1) n), S1)) ?_ rfl, bs i4 <| (if_neg (by decide)).trans <| (if_neg (by decide)).trans <| (if_neg (by decide)).trans <| (if_neg (by decide)).trans <| (if_neg (by decide)).trans <| bs (congrArg some m3.1) <| bs (by rw [all_mask hn]; exact e2) rfl, STT.c hC0 hM0 (k1.mo (by decide)) K1 k2 (by decide)⟩
      unfold t_Fs_countPlaces
      exact bs e1 <| bs (congrArg some K1.1) <| bs (by rw [all_mask hn]; exact ep) rfl
    | j + 5, hj, _ => exact absurd hj (by omega)
theorem call_told {x y : Int32} (hN : 2000 ≤ N) (h : STT S M) : CALLr (t_FF_told N x y S) (t_Mo_told N x y M) := by
  obtain ⟨n, s, f, kd, sr, hC, hM⟩ := h
  obtain ⟨c1, c2, c3, c4, c5, c6, c7⟩ := hC
  obtain ⟨m1, m2, m3, m4⟩ := hM
  have hn := c5.2.1
  have t1 := c_isThere (N := N) (x := x) c5.1
  have t2 := m_isPoint (N := N) (x := x) m3.1 hn
  unfold t_FF_told t_Mo_told
  cases hx : inb x n with
  | false =>
    rw [hx] at t1 t2
    exact ⟨-2, bs t1 (if_pos rfl), bs t2 (if_pos rfl)⟩
  | true =>
    rw [hx] at t1 t2
    obtain ⟨p, hp, rfl⟩ := (inb_iff (by omega)).mp hx
    have hpl := c5.2.2 p hp
    have hml := m3.2.2 p hp
    cases hy : inb y 5 with
    | false =>
      have i4 : t_Mo_isIn N y 0 4 = some (bI false) := by rw [isIn4, hy]
      refine ⟨-2, bs t1 <| (if_neg (by decide)).trans ?_, bs t2 <| (if_neg (by decide)).trans <| bs i4 (if_pos rfl)⟩
      by_cases h1 : y < 0
      · exact if_pos h1
      · refine (if_neg h1).trans (if_neg (fun h2 => ?_))
        have hy2 : inb y 5 = true := decide_eq_true ⟨h1, fun z => by
          rw [Int32.le_iff_toInt_le] at h2 z
          have q1 : (4 : Int32).toInt = 4 := by decide
          have q2 : (nI 5).toInt = 5 := by decide
          omega⟩
        rw [hy2] at hy
        cases hy
    | true =>
      obtain ⟨t, ht, rfl⟩ := (inb_iff (by decide)).mp hy
      have i4 : t_Mo_isIn N (nI t) 0 4 = some (bI true) := by rw [isIn4, hy]
      have tk := (ta_n (n := 10) (f := cs_kinds S) (p := p) (by omega) (by decide)).trans (congrArg some hpl.1)
      have tm := (ta_n (n := 10) (f := ms_kindOf M) (p := p) (by omega) (by decide)).trans (congrArg some hml.1)
      have g1 : ¬ nI t < 0 := nI_pos (by omega)
      have g2 : nI t ≤ 4 := nI_le (b := 4) (by omega) (by decide)
      by_cases h0 : t = 0
      · subst h0
        exact ⟨nI (kd p), bs t1 <| (if_neg (by decide)).trans <| (if_neg g1).trans <| (if_pos g2).trans <| bs tk <| (if_pos rfl).trans rfl, bs t2 <| (if_neg (by decide)).trans <| bs i4 <| (if_neg (by decide)).trans <| (if_pos rfl).trans <| bs tm rfl⟩
      · have z0 : ¬ nI t = 0 := nI_ne0 (by omega) (by omega)
        have hd := ndk_le (kd p) hpl.2.1
        have fn : ft_i 14 tb_1 (nI (kd p)) = some (nI (ndk (kd p))) := (ft_n hpl.2.1 (by decide)).trans (congrArg some (nI_ndk _ hpl.2.1))
        by_cases hdt : ndk (kd p) < t
        · exact ⟨-1, bs t1 <| (if_neg (by decide)).trans <| (if_neg g1).trans <| (if_pos g2).trans <| bs tk <| (if_neg z0).trans <| bs fn <| if_pos (nI_lt hdt (by omega)), bs t2 <| (if_neg (by decide)).trans <| bs i4 <| (if_neg (by decide)).trans <| (if_neg z0).trans <| bs tm <| bs (m_needs1 hml.2.1) <| if_pos (nI_lt hdt (by omega))⟩
        · have nlt : ¬ nI (ndk (kd p)) < nI t := nI_nlt (by omega) (by omega)
          obtain ⟨u, rfl⟩ : ∃ u, t = u + 1 := ⟨t - 1, by omega⟩
          have pf := p_from (N := N) (j := u) c5 hp (by omega)
          have e1 : (nI (u + 1) : Int32) - 1 = nI u := nI_pred u
          have e2 : (4 : Int32) * nI p + nI (u + 1) - 1 = nI (4 * p + u) := by
            rw [show (4 : Int32) = nI 4 from rfl, pk_mul, nI_add, show 4 * p + (u + 1) = (4 * p + u) + 1 from by omega, nI_pred]
          refine ⟨nI (sr (4 * p + u)), bs t1 <| (if_neg (by decide)).trans <| (if_neg g1).trans <| (if_pos g2).trans <| bs tk <| (if_neg z0).trans <| bs fn <| (if_neg nlt).trans <| bs (by rw [e1]; exact pf) rfl, bs t2 <| (if_neg (by decide)).trans <| bs i4 <| (if_neg (by decide)).trans <| (if_neg z0).trans <| bs tm <| bs (m_needs1 hml.2.1) <| (if_neg nlt).trans <| bs (x := nI (sr (4 * p + u))) ?_ rfl⟩
          rw [e2, ta_n (by omega) (by decide), hml.2.2.2 u (by omega)]
theorem fig_in {x : Int32} {f : Nat} (hf : f ≤ 5) : (∃ g, g < f ∧ x = nI g) ∨ (inb x f = false ∧ (x < 0 ∨ ¬ x < nI f)) := by
  cases h : inb x f with
  | true => exact Or.inl ((inb_iff (by omega)).mp h)
  | false =>
    refine Or.inr ⟨rfl, ?_⟩
    by_cases h1 : x < 0
    · exact Or.inl h1
    · refine Or.inr (fun h2 => ?_)
      unfold inb at h
      rw [decide_eq_true ⟨h1, by rw [Int32.not_le]; exact h2⟩] at h
      cases h
theorem call_falls {x : Int32} (hN : 2000 ≤ N) (h : STT S M) : CALLr (t_FF_falls N x S) (t_Mo_falls N x M) := by
  obtain ⟨n, s, f, kd, sr, hC, hM⟩ := h
  obtain ⟨c1, c2, c3, c4, c5, c6, c7⟩ := hC
  obtain ⟨m1, m2, m3, m4⟩ := hM
  have hf := c2.2
  unfold t_FF_falls t_Mo_falls
  rcases fig_in (x := x) hf with ⟨g, hg, rfl⟩ | ⟨hx, hx2⟩
  · have i1 : t_Mo_isIn N (nI g) 0 (nI f - 1) = some (bI true) := by rw [m_isIn (by omega), (inb_iff (by omega)).mpr ⟨g, hg, rfl⟩]
    have R1 := c6.2.2 g hg
    have R2 := m4 g hg
    have heq : cs_fallen S (5 * 0 + g) = ms_fallsAt M g := by
      unfold FRep at R1
      unfold MRep at R2
      cases hF : (rn kd sr s n g).2.2.2 with
      | none =>
        rw [hF] at R1 R2
        exact R1.2.2.2.1.trans R2.1.symm
      | some q =>
        rw [hF] at R1 R2
        exact R1.2.2.2.1.trans R2.1.symm
    refine ⟨ms_fallsAt M g, (if_neg (nI_pos (by omega))).trans <| bs (congrArg some c4) <| (if_pos (nI_lt hg (by omega))).trans <| bs (ta_n (by omega) (by decide)) <| bs rfl (congrArg some heq), bs (congrArg some m2) <| bs i1 <| (if_neg (by decide)).trans <| bs (ta_n (by omega) (by decide)) rfl⟩
  · have i1 : t_Mo_isIn N x 0 (nI f - 1) = some (bI false) := by rw [m_isIn (by omega), hx]
    refine ⟨-2, ?_, bs (congrArg some m2) <| bs i1 (if_pos rfl)⟩
    rcases hx2 with h | h
    · exact if_pos h
    · by_cases h1 : x < 0
      · exact if_pos h1
      · exact (if_neg h1).trans <| bs (congrArg some c4) (if_neg h)
theorem isIn1 {x : Int32} : t_Mo_isIn N x 0 1 = some (bI (inb x 2)) := m_isIn (L := 2) (by decide)
theorem call_place {x y z : Int32} (hN : 2000 ≤ N) (h : STT S M) : CALLr (t_FF_place N x y z S) (t_Mo_place N x y z M) := by
  obtain ⟨n, s, f, kd, sr, hC, hM⟩ := h
  obtain ⟨c1, c2, c3, c4, c5, c6, c7⟩ := hC
  obtain ⟨m1, m2, m3, m4⟩ := hM
  have hf := c2.2
  have hn := c5.2.1
  have t1 := c_isThere (N := N) (x := y) c5.1
  have t2 := m_isPoint (N := N) (x := y) m3.1 hn
  unfold t_FF_place t_Mo_place
  rcases fig_in (x := x) hf with ⟨g, hg, rfl⟩ | ⟨hx, hx2⟩
  · have i1 : t_Mo_isIn N (nI g) 0 (nI f - 1) = some (bI true) := by rw [m_isIn (by omega), (inb_iff (by omega)).mpr ⟨g, hg, rfl⟩]
    have a1 : ¬ nI g < 0 := nI_pos (by omega)
    have a2 : ¬ nI f ≤ nI g := nI_ge hg (by omega)
    cases hy : inb y n with
    | false =>
      rw [hy] at t1 t2
      exact ⟨-2, (if_neg a1).trans <| bs (congrArg some c4) <| (if_neg a2).trans <| bs t1 (if_pos rfl), bs (congrArg some m2) <| bs i1 <| (if_neg (by decide)).trans <| bs t2 (if_pos rfl)⟩
    | true =>
      rw [hy] at t1 t2
      obtain ⟨p, hp, rfl⟩ := (inb_iff (by omega)).mp hy
      cases hz : inb z 2 with
      | false =>
        have i3 : t_Mo_isIn N z 0 1 = some (bI false) := by rw [isIn1, hz]
        refine ⟨-2, (if_neg a1).trans <| bs (congrArg some c4) <| (if_neg a2).trans <| bs t1 <| (if_neg (by decide)).trans ?_, bs (congrArg some m2) <| bs i1 <| (if_neg (by decide)).trans <| bs t2 <| (if_neg (by decide)).trans <| bs i3 (if_pos rfl)⟩
        by_cases h1 : z < 0
        · exact if_pos h1
        · refine (if_neg h1).trans (if_neg (fun h2 => ?_))
          have hz2 : inb z 2 = true := decide_eq_true ⟨h1, fun w => by
            rw [Int32.le_iff_toInt_le] at h2 w
            have q1 : (1 : Int32).toInt = 1 := by decide
            have q2 : (nI 2).toInt = 2 := by decide
            omega⟩
          rw [hz2] at hz
          cases hz
      | true =>
        obtain ⟨ax, hax, rfl⟩ := (inb_iff (by decide)).mp hz
        have i3 : t_Mo_isIn N (nI ax) 0 1 = some (bI true) := by rw [isIn1, hz]
        have b1 : ¬ nI ax < 0 := nI_pos (by omega)
        have b2 : nI ax ≤ 1 := nI_le (b := 1) (by omega) (by decide)
        have R1 := c6.2.2 g hg
        have R2 := m4 g hg
        have e10 : (10 : Int32) * nI g + nI p = nI (10 * g + p) := by rw [show (10 : Int32) = nI 10 from rfl, pk_mul, nI_add]
        have tg := ta_n (n := 5) (f := ms_fallsAt M) (p := g) (by omega) (by decide)
        have tg2 := ta_n (n := 5) (f := fun z => 5 * 0 + z) (p := g) (by omega) (by decide)
        have val : ∀ m (X Y : Nat → Int), p < m → fcx S (5 * 0 + g) m X Y → mco M g m X Y → ∃ v, (if nI ax = 0 then ((ta 16 (cs_fx S (5 * 0 + g)) (nI p)).bind fun x12 => some x12) else ((ta 16 (cs_fy S (5 * 0 + g)) (nI p)).bind fun x10 => some x10)) = some v ∧ tb_Mo_place_56 N (nI g) (nI p) (nI ax) M = some v := by
          intro m X Y hpm h1 h2
          have q1 := h1.2 p hpm
          have q2 := h2.2.2 p hpm
          unfold tb_Mo_place_56
          by_cases ha : ax = 0
          · subst ha
            refine ⟨cs_fx S (5 * 0 + g) p, (if_pos rfl).trans <| bs (ta_n (by omega) (by decide)) rfl, (if_pos rfl).trans <| bs (x := ms_xs M (10 * g + p)) (by rw [e10]; exact ta_n (by omega) (by decide)) (congrArg some (Int32.toInt_inj.mp ?_))⟩
            rw [((show rg (ms_xs M (10 * g + p)) (X p) 1000002 from ⟨q2.1.1, by omega⟩).i (by decide)).1, q1.1.1]
          · have z0 : ¬ nI ax = 0 := nI_ne0 (by omega) (by omega)
            refine ⟨cs_fy S (5 * 0 + g) p, (if_neg z0).trans <| bs (ta_n (by omega) (by decide)) rfl, (if_neg z0).trans <| bs (x := ms_ys M (10 * g + p)) (by rw [e10]; exact ta_n (by omega) (by decide)) (congrArg some (Int32.toInt_inj.mp ?_))⟩
            rw [((show rg (ms_ys M (10 * g + p)) (Y p) 1000002 from ⟨q2.2.1, by omega⟩).i (by decide)).1, q1.2.1]
        unfold FRep at R1
        unfold MRep at R2
        cases hF : (rn kd sr s n g).2.2.2 with
        | none =>
          rw [hF] at R1 R2
          obtain ⟨v, v1, v2⟩ := val n _ _ hp R1.2.2.2.2 R2.2
          exact ⟨v, (if_neg a1).trans <| bs (congrArg some c4) <| (if_neg a2).trans <| bs t1 <| (if_neg (by decide)).trans <| (if_neg b1).trans <| (if_pos b2).trans <| bs tg2 <| bs (congrArg some R1.2.2.1) <| (if_pos (nI_lt hp (by omega))).trans v1, bs (congrArg some m2) <| bs i1 <| (if_neg (by decide)).trans <| bs t2 <| (if_neg (by decide)).trans <| bs i3 <| (if_neg (by decide)).trans <| bs (tg.trans (congrArg some R2.1)) <| (if_pos rfl).trans v2⟩
        | some q =>
          rw [hF] at R1 R2
          have hq10 := R2.2.1
          by_cases hpq : p < q
          · obtain ⟨v, v1, v2⟩ := val q _ _ hpq R1.2.2.2.2.2 R2.2.2
            exact ⟨v, (if_neg a1).trans <| bs (congrArg some c4) <| (if_neg a2).trans <| bs t1 <| (if_neg (by decide)).trans <| (if_neg b1).trans <| (if_pos b2).trans <| bs tg2 <| bs (congrArg some R1.2.2.1) <| (if_pos (nI_lt hpq (by omega))).trans v1, bs (congrArg some m2) <| bs i1 <| (if_neg (by decide)).trans <| bs t2 <| (if_neg (by decide)).trans <| bs i3 <| (if_neg (by decide)).trans <| bs (tg.trans (congrArg some R2.1)) <| (if_neg (nI_m1 hq10)).trans <| bs (tg.trans (congrArg some R2.1)) <| (if_pos (nI_lt hpq (by omega))).trans v2⟩
          · exact ⟨-1, (if_neg a1).trans <| bs (congrArg some c4) <| (if_neg a2).trans <| bs t1 <| (if_neg (by decide)).trans <| (if_neg b1).trans <| (if_pos b2).trans <| bs tg2 <| bs (congrArg some R1.2.2.1) <| if_neg (nI_nlt (by omega) (by omega)), bs (congrArg some m2) <| bs i1 <| (if_neg (by decide)).trans <| bs t2 <| (if_neg (by decide)).trans <| bs i3 <| (if_neg (by decide)).trans <| bs (tg.trans (congrArg some R2.1)) <| (if_neg (nI_m1 hq10)).trans <| bs (tg.trans (congrArg some R2.1)) <| if_neg (nI_nlt (by omega) (by omega))⟩
  · have i1 : t_Mo_isIn N x 0 (nI f - 1) = some (bI false) := by rw [m_isIn (by omega), hx]
    refine ⟨-2, ?_, bs (congrArg some m2) <| bs i1 (if_pos rfl)⟩
    rcases hx2 with h | h
    · exact if_pos h
    · by_cases h1 : x < 0
      · exact if_pos h1
      · exact (if_neg h1).trans <| bs (congrArg some c4) (if_pos (by rw [Int32.not_lt] at h; exact h))
/-- the i-th of a list, as the class tells it -/
theorem c_has {k : Nat} {L : List Nat} {x : Int32} (h : LR S k L) (hl : L.length ≤ il_len k) : t_IL_has N k x S = some (bI (inb x L.length)) := by
  obtain ⟨h1, -⟩ := h.le hl
  unfold t_IL_has inb
  by_cases h2 : x < 0
  · rw [if_pos h2, decide_eq_false (fun z => z.1 h2)]; rfl
  · rw [if_neg h2]
    refine bs (congrArg some h1) ?_
    by_cases h3 : nI L.length ≤ x
    · rw [if_pos h3, decide_eq_false (fun z => z.2 h3)]; rfl
    · rw [if_neg h3, decide_eq_true ⟨h2, h3⟩]; rfl
theorem c_item {k i : Nat} {L : List Nat} (h : LR S k L) (hl : L.length ≤ il_len k) (hi : i < L.length) : ta (il_len k) (cs_items S k) (nI i) = some (nI (L.getD i 0)) := by
  have := il_le k
  rw [ta_n (by omega) (by omega), (h.le hl).2 i hi]
theorem c_ans {k : Nat} {L : List Nat} {x : Int32} (h : LR S k L) (hl : L.length ≤ il_len k) : ((t_IL_has N k x S).bind fun r5 => if r5 = 0 then (some ((-1 : Int32), S)) else ((ta (il_len k) (cs_items S k) x).bind fun x7 => some (x7, S))) = some (ansL L x, S) := by
  have hil := il_le k
  refine bs (c_has h hl) ?_
  unfold ansL
  cases hx : inb x L.length with
  | false =>
    refine (if_pos rfl).trans ?_
    unfold inb at hx
    have : x < 0 ∨ nI L.length ≤ x := by
      by_cases h2 : x < 0
      · exact Or.inl h2
      · by_cases h3 : nI L.length ≤ x
        · exact Or.inr h3
        · rw [decide_eq_true ⟨h2, h3⟩] at hx; cases hx
    rw [if_pos this]
  | true =>
    obtain ⟨i, hi, rfl⟩ := (inb_iff (by omega)).mp hx
    refine (if_neg (by decide)).trans <| bs (c_item h hl hi) ?_
    rw [if_neg (by
      rintro (z | z)
      · exact nI_pos (by omega) z
      · exact nI_ge hi (by omega) z), nI_clamp (by omega)]
theorem call_row {x : Int32} (hN : 2000 ≤ N) (h : STT S M) : CALL (t_FF_row N x S) (t_Mo_row N x M) := by
  obtain ⟨n, s, f, kd, sr, hC, hM⟩ := h
  obtain ⟨S1, e1, k1, K1, l1⟩ := p_allRows (N := N) (by omega) hC.cd hC.2.2.2.2.2.2
  obtain ⟨M1, e2, k2⟩ := m_row (N := N) (x := x) (by omega) (hM.md hC.2.1.2) hM.2.2.1.1
  exact ⟨_, S1, M1, bs e1 <| bs (x := 9) (show tk 12 (some 9) = some 9 by decide) <| c_ans l1.1 l1.2, e2, STT.c hC hM k1 K1 k2 (by decide)⟩
theorem call_ring {x : Int32} (hN : 2000 ≤ N) (h : STT S M) : CALL (t_FF_ring N x S) (t_Mo_ring N x M) := by
  obtain ⟨n, s, f, kd, sr, hC, hM⟩ := h
  obtain ⟨S1, e1, k1, K1, l1⟩ := p_allRings (N := N) (by omega) hC.cd hC.2.2.2.2.2.2
  obtain ⟨M1, e2, k2⟩ := m_ringAll (N := N) (x := x) (by omega) (hM.md hC.2.1.2) hM.2.2.1.1
  exact ⟨_, S1, M1, bs e1 <| bs (x := 10) (show tk 12 (some 10) = some 10 by decide) <| c_ans l1.1 l1.2, e2, STT.c hC hM k1 K1 k2 (by decide)⟩
end ASK
