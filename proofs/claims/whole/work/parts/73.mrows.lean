/-! the model's row and ring -/
section MRR
variable {N : Nat} {M : MS} {f n : Nat} {b : Nat → Bool} {X Y : Nat → Nat → Int} {x : Int32}
theorem msk_lin (hn : n ≤ 10) (a c : Nat) : lin f n b X Y a c < 1024 := msk_lt _ n hn
theorem msk_rng (hn : n ≤ 10) (a c d : Nat) : rng f n b X Y a c d < 1024 := msk_lt _ n hn
theorem SQ.pl {q : Nat → Bool} {M1 : MS} {w : Nat} (hN : 25 ≤ N) (hd : MD M f n b X Y) (hm : ms_many M = nI n) (h : SQ M f n b X Y q M1) (hw : w < 1024) : ∃ M2, t_Mo_places N (nI w) M1 = some (nI (plc (sam f b X Y) w n), M2) ∧ SQ M f n b X Y q M2 := by
  obtain ⟨M2, e, k, s⟩ := m_places (N := N) (w := w) hN (h.1.md (by decide) hd) (by rw [h.1.many (by decide)]; exact hm) (by omega)
  exact ⟨M2, e, h.1.tr (k.mo (by decide)), s, fun m hm2 => by rw [k.isSet (by decide)]; exact h.2.2 m hm2⟩
def RQ (f n : Nat) (b : Nat → Bool) (X Y : Nat → Nat → Int) (a c : Nat) (q : Nat → Bool) : Prop := ∀ m, m < 1024 → (q m = true ↔ ∃ a' c', (a' < a ∨ a' = a ∧ c' < c) ∧ a' < c' ∧ c' < n ∧ rowc f n b X Y a' c' m = true)
theorem m_rowStep {a c : Nat} {q : Nat → Bool} {M1 : MS} {k6 : Int32 → Int32 → MS → Option (Int32 × MS)} {k18 : Int32 → Int32 → Int32 → MS → Option (Int32 × MS)} (hN : 25 ≤ N) (hd : MD M f n b X Y) (hm : ms_many M = nI n) (ha : a < n) (hc : c < n) (hI : SQ M f n b X Y q M1) : ∃ (q2 : Nat → Bool) (M2 : MS), tb_Mo_row_18 N k6 k18 x (nI a) (nI c) M1 = k18 x (nI a) (nI (c + 1)) M2 ∧ SQ M f n b X Y q2 M2 ∧ ∀ m, m < 1024 → (q2 m = true ↔ (q m = true ∨ rowc f n b X Y a c m = true)) := by
  have hn := hd.2.1
  have hle : ¬ ms_many M1 ≤ nI c := by rw [hI.1.many (by decide), hm]; exact nI_ge hc (by omega)
  have nx : some (nI c + 1) = some (nI (c + 1)) := by rw [nI_1]
  have ts := same_ta hn hI.2.1 ha hc
  unfold tb_Mo_row_18 tb_Mo_row_74 tb_Mo_row_79 tb_Mo_row_80
  by_cases hs : sam f b X Y a c = true
  · refine ⟨q, M1, bs rfl <| (if_neg hle).trans <| bs ts <| (if_neg (fun z => bI_0.mp z hs)).trans <| bs nx rfl, hI, fun m _ => ?_⟩
    constructor
    · exact Or.inl
    · rintro (h | h)
      · exact h
      · exact absurd hs (of_decide_eq_true h).1
  · obtain ⟨M2, e2, S2⟩ := m_lineOf (N := N) hN hd hm ha hc hI
    have hw := msk_lin (f := f) (b := b) (X := X) (Y := Y) hn a c
    have ht : ta 1024 (ms_isSet M2) (nI (lin f n b X Y a c)) = some (bI (q (lin f n b X Y a c))) := by rw [ta_n hw (by decide), S2.2.2 _ hw]
    by_cases hq : q (lin f n b X Y a c) = true
    · obtain ⟨ew, S3⟩ := S2.mark (w := lin f n b X Y a c) (v := true) hw (Or.inl rfl)
      refine ⟨_, _, bs rfl <| (if_neg hle).trans <| bs ts <| (if_pos (bI_0.mpr hs)).trans <| bs e2 <| bs ht <| (if_neg (fun z => bI_0.mp z hq)).trans <| bs ew <| bs rfl <| bs nx rfl, S3, fun m _ => ?_⟩
      rw [Bool.and_true, Bool.or_eq_true, decide_eq_true_iff]
      constructor
      · rintro (h | h)
        · exact Or.inl h
        · rw [h]; exact Or.inl hq
      · rintro (h | h)
        · exact Or.inl h
        · exact Or.inr (of_decide_eq_true h).2.1
    · obtain ⟨M3, e3, S3⟩ := S2.pl (N := N) hN hd hm hw
      have hpl := plc_le (sam f b X Y) (lin f n b X Y a c) n
      by_cases hp : plc (sam f b X Y) (lin f n b X Y a c) n ≤ 2
      · obtain ⟨ew, S4⟩ := S3.mark (w := lin f n b X Y a c) (v := false) hw (Or.inr (by rw [Bool.not_eq_true] at hq; exact hq))
        refine ⟨_, _, bs rfl <| (if_neg hle).trans <| bs ts <| (if_pos (bI_0.mpr hs)).trans <| bs e2 <| bs ht <| (if_pos (bI_0.mpr hq)).trans <| bs e3 <| (if_pos (nI_le (b := 2) hp (by decide))).trans <| bs ew <| bs rfl <| bs nx rfl, S4, fun m _ => ?_⟩
        rw [Bool.and_false, Bool.or_false]
        constructor
        · exact Or.inl
        · rintro (h | h)
          · exact h
          · have := of_decide_eq_true h
            rw [this.2.1] at this
            omega
      · obtain ⟨ew, S4⟩ := S3.mark (w := lin f n b X Y a c) (v := true) hw (Or.inl rfl)
        refine ⟨_, _, bs rfl <| (if_neg hle).trans <| bs ts <| (if_pos (bI_0.mpr hs)).trans <| bs e2 <| bs ht <| (if_pos (bI_0.mpr hq)).trans <| bs e3 <| (if_neg (nI_ge (a := 2) (by omega) (by omega))).trans <| bs ew <| bs rfl <| bs nx rfl, S4, fun m _ => ?_⟩
        rw [Bool.and_true, Bool.or_eq_true, decide_eq_true_iff]
        constructor
        · rintro (h | h)
          · exact Or.inl h
          · refine Or.inr (decide_eq_true ⟨hs, h, ?_⟩)
            rw [h]; omega
        · rintro (h | h)
          · exact Or.inl h
          · exact Or.inr (of_decide_eq_true h).2.1
theorem m_row (hN : 1100 ≤ N) (hd : MD M f n b X Y) (hm : ms_many M = nI n) : ∃ M', t_Mo_row N x M = some (ansL (RL f n b X Y) x, M') ∧ KM [8, 13, 16, 21] M M' := by
  have hn := hd.2.1
  obtain ⟨M1, e1, S1⟩ := m_clearSets (N := N) hN hd hm
  have main := up_loop (L := fun fu p s => tl_Mo_row_6 N fu x (nI p) s) (e := n) (I := fun a M2 => ∃ q, SQ M f n b X Y q M2 ∧ RQ f n b X Y a 0 q) (Q := fun o => ∃ M', o = some (ansL (RL f n b X Y) x, M') ∧ KM [8, 13, 16, 21] M M') (by
    intro fu a M2 ha hI
    obtain ⟨q, S2, hq⟩ := hI
    have inner := up_loop (L := fun fu2 p s => tl_Mo_row_18 N (tl_Mo_row_6 N fu) fu2 x (nI a) (nI p) s) (e := n) (I := fun c M3 => a < c ∧ ∃ q, SQ M f n b X Y q M3 ∧ RQ f n b X Y a c q) (Q := fun o => ∃ M3, o = tl_Mo_row_6 N fu x (nI (a + 1)) M3 ∧ ∃ q, SQ M f n b X Y q M3 ∧ RQ f n b X Y (a + 1) 0 q) (by
      intro fu2 c M3 hc hJ
      obtain ⟨hac, q3, S3, hq3⟩ := hJ
      obtain ⟨q4, M4, e4, S4, hq4⟩ := m_rowStep (N := N) (x := x) (k6 := tl_Mo_row_6 N fu) (k18 := tl_Mo_row_18 N (tl_Mo_row_6 N fu) fu2) (by omega) hd hm ha hc S3
      refine Or.inl ⟨M4, e4, by omega, q4, S4, fun m hm2 => (hq4 m hm2).trans ?_⟩
      rw [hq3 m hm2]
      constructor
      · rintro (⟨a', c', h1, h2⟩ | h)
        · exact ⟨a', c', by omega, h2⟩
        · exact ⟨a, c, by omega, hac, hc, h⟩
      · rintro ⟨a', c', h1, h2, h3, h4⟩
        by_cases hz : a' = a ∧ c' = c
        · rw [hz.1, hz.2] at h4; exact Or.inr h4
        · exact Or.inl ⟨a', c', by omega, h2, h3, h4⟩) (by
      intro fu2 M3 hJ
      obtain ⟨hac, q3, S3, hq3⟩ := hJ
      refine ⟨M3, ?_, q3, S3, fun m hm2 => (hq3 m hm2).trans ⟨?_, ?_⟩⟩
      · show tb_Mo_row_18 N (tl_Mo_row_6 N fu) (tl_Mo_row_18 N (tl_Mo_row_6 N fu) fu2) x (nI a) (nI n) M3 = _
        unfold tb_Mo_row_18
        exact bs rfl <| (if_pos (by rw [S3.1.many (by decide), hm]; exact nI_le (Nat.le_refl n) (by omega))).trans <| bs (by rw [nI_1]) rfl
      · rintro ⟨a', c', h1, h2, h3, h4⟩
        exact ⟨a', c', by omega, h2, h3, h4⟩
      · rintro ⟨a', c', h1, h2, h3, h4⟩
        exact ⟨a', c', by omega, h2, h3, h4⟩)
    obtain ⟨M3, e3, I3⟩ := inner (n - (a + 1)) (a + 1) N M2 (by omega) (by omega) ⟨by omega, q, S2, fun m hm2 => (hq m hm2).trans ⟨by
      rintro ⟨a', c', h1, h2⟩
      exact ⟨a', c', by omega, h2⟩, by
      rintro ⟨a', c', h1, h2⟩
      exact ⟨a', c', by omega, h2⟩⟩⟩
    refine Or.inl ⟨M3, ?_, I3⟩
    show tb_Mo_row_6 N (tl_Mo_row_6 N fu) x (nI a) M2 = _
    unfold tb_Mo_row_6
    exact bs rfl <| (if_neg (by rw [S2.1.many (by decide), hm]; exact nI_ge ha (by omega))).trans <| bs (by rw [nI_1]) e3) (by
    intro fu M2 hI
    obtain ⟨q, S2, hq⟩ := hI
    have e := m_set (N := N) (x := x) hN S2.2.2
    have hu : upto q = RL f n b X Y := upto_congr (fun m hm2 => bool_ext ((hq m hm2).trans (by
      unfold rws rowc
      rw [decide_eq_true_iff]
      constructor
      · rintro ⟨a', c', h1, h2, h3, h4⟩
        rw [decide_eq_true_iff] at h4
        exact ⟨a', by omega, c', h3, h2, h4⟩
      · rintro ⟨a', h1, c', h2, h3, h4⟩
        exact ⟨a', c', Or.inl h1, h3, h2, decide_eq_true h4⟩)))
    rw [hu] at e
    refine ⟨M2, ?_, S2.1⟩
    show tb_Mo_row_6 N (tl_Mo_row_6 N fu) x (nI n) M2 = _
    unfold tb_Mo_row_6
    exact bs rfl <| (if_pos (by rw [S2.1.many (by decide), hm]; exact nI_le (Nat.le_refl n) (by omega))).trans <| bs e rfl)
  obtain ⟨M', e, k⟩ := main n 0 N M1 (by omega) (by omega) ⟨fun _ => false, S1, fun m _ => by
    constructor
    · intro z; cases z
    · rintro ⟨a', c', h1, h2⟩; omega⟩
  exact ⟨M', bs e1 e, k⟩
def GQ (f n : Nat) (b : Nat → Bool) (X Y : Nat → Nat → Int) (a c d : Nat) (q : Nat → Bool) : Prop := ∀ m, m < 1024 → (q m = true ↔ ∃ a' c' d', (a' < a ∨ a' = a ∧ (c' < c ∨ c' = c ∧ d' < d)) ∧ a' < c' ∧ c' < d' ∧ d' < n ∧ ringc f n b X Y a' c' d' m = true)
theorem ring_none {a c d m : Nat} (hac : a < c) (hcd : c < d) (hd : d < n) (hn : n ≤ 10) (hs : stn b f = 0) : ¬ ringc f n b X Y a c d m = true := by
  intro h
  have h2 := of_decide_eq_true h
  have hno : ∀ k v, ¬ alk f b X Y k v = true := fun k v z => by have := (alw_iff.mp z).1; omega
  have hbits : ∀ j, (rng f n b X Y a c d).testBit j = true ↔ (j = a ∨ j = c ∨ j = d) := fun j => by
    unfold rng
    rw [msk_tb, decide_eq_true_iff]
    constructor
    · rintro ⟨h1, h | h | h | h⟩
      · exact Or.inl h
      · exact Or.inr (Or.inl h)
      · exact Or.inr (Or.inr h)
      · exact absurd h (hno _ _)
    · rintro (h | h | h)
      · exact ⟨by omega, Or.inl h⟩
      · exact ⟨by omega, Or.inr (Or.inl h)⟩
      · exact ⟨by omega, Or.inr (Or.inr (Or.inl h))⟩
  have h4 := h2.2.2.2.2.2
  rw [h2.2.2.2.2.1, plc_stn] at h4
  have h5 := stn_mono (c := fun p => decide ((rng f n b X Y a c d).testBit p = true ∧ ∀ a', a' < p → (rng f n b X Y a c d).testBit a' = true → ¬ sam f b X Y a' p = true)) (d := fun j => decide (j = a ∨ j = c ∨ j = d)) n (fun j _ hj => by
    rw [decide_eq_true_iff] at hj ⊢
    exact (hbits j).mp hj.1)
  rw [stn_3 (by omega) (by omega) hd (by omega) (by omega) (by omega)] at h5
  omega
theorem m_ringStep {a c d : Nat} {q : Nat → Bool} {M1 : MS} {k6 : Int32 → Int32 → MS → Option (Int32 × MS)} {k18 : Int32 → Int32 → Int32 → MS → Option (Int32 × MS)} {k31 : Int32 → Int32 → Int32 → Int32 → MS → Option (Int32 × MS)} (hN : 25 ≤ N) (hd : MD M f n b X Y) (hm : ms_many M = nI n) (hac : a < c) (hcd : c < d) (hd2 : d < n) (hI : SQ M f n b X Y q M1) : ∃ (q2 : Nat → Bool) (M2 : MS), tb_Mo_ring_31 N k6 k18 k31 x (nI a) (nI c) (nI d) M1 = k31 x (nI a) (nI c) (nI (d + 1)) M2 ∧ SQ M f n b X Y q2 M2 ∧ ∀ m, m < 1024 → (q2 m = true ↔ (q m = true ∨ ringc f n b X Y a c d m = true)) := by
  have hn := hd.2.1
  have hsl := stn_le b f
  have hf5 := hd.1
  have hle : ¬ ms_many M1 ≤ nI d := by rw [hI.1.many (by decide), hm]; exact nI_ge hd2 (by omega)
  have nx : some (nI d + 1) = some (nI (d + 1)) := by rw [nI_1]
  have t1 := same_ta hn hI.2.1 (a := a) (p := c) (by omega) (by omega)
  have t2 := same_ta hn hI.2.1 (a := a) (p := d) (by omega) (by omega)
  have t3 := same_ta hn hI.2.1 (a := c) (p := d) (by omega) (by omega)
  obtain ⟨R, eR, r0, r1, r2, r3, r4, r5⟩ := m_setRow (N := N) (M := M1) (nI a) (nI c) (nI d) 0 0 0
  have kR : KM [13] M1 (ms_set_row M1 R) := KM.s_row
  have SR := hI.fr (kR.mo (by decide))
  have no : ∀ w0 : Int32, w0 = 0 → tb_Mo_ring_89 N k6 k18 k31 x (nI a) (nI c) (nI d) w0 M1 = k31 x (nI a) (nI c) (nI (d + 1)) (ms_set_row M1 R) := by
    intro w0 hw0
    unfold tb_Mo_ring_89 tb_Mo_ring_166
    exact bs eR <| (if_pos hw0).trans <| bs nx rfl
  have keep : (∀ m, m < 1024 → ¬ ringc f n b X Y a c d m = true) → ∀ m, m < 1024 → (q m = true ↔ (q m = true ∨ ringc f n b X Y a c d m = true)) := fun h m hm2 => ⟨Or.inl, fun z => z.resolve_right (h m hm2)⟩
  unfold tb_Mo_ring_31 tb_Mo_ring_88
  by_cases h1 : sam f b X Y a c = true
  · exact ⟨q, _, bs rfl <| (if_neg hle).trans <| bs t1 <| (if_neg (fun z => bI_0.mp z h1)).trans <| no 0 rfl, SR, keep (fun m _ z => (of_decide_eq_true z).1 h1)⟩
  · by_cases h2 : sam f b X Y a d = true
    · exact ⟨q, _, bs rfl <| (if_neg hle).trans <| bs t1 <| (if_pos (bI_0.mpr h1)).trans <| bs t2 <| (if_neg (fun z => bI_0.mp z h2)).trans <| no 0 rfl, SR, keep (fun m _ z => (of_decide_eq_true z).2.1 h2)⟩
    · by_cases h3 : sam f b X Y c d = true
      · exact ⟨q, _, bs rfl <| (if_neg hle).trans <| bs t1 <| (if_pos (bI_0.mpr h1)).trans <| bs t2 <| (if_pos (bI_0.mpr h2)).trans <| bs t3 <| (if_neg (fun z => bI_0.mp z h3)).trans <| no 0 rfl, SR, keep (fun m _ z => (of_decide_eq_true z).2.2.1 h3)⟩
      · have dR := SR.1.md (by decide) hd
        have est := m_standing (N := N) (M := ms_set_row M1 R) hN hf5 dR.2.2.1 (fun g hg => (dR.2.2.2 g hg).1)
        unfold tb_Mo_ring_89 tb_Mo_ring_160 tb_Mo_ring_165 tb_Mo_ring_166
        by_cases hs : stn b f = 0
        · exact ⟨q, _, bs rfl <| (if_neg hle).trans <| bs t1 <| (if_pos (bI_0.mpr h1)).trans <| bs t2 <| (if_pos (bI_0.mpr h2)).trans <| bs t3 <| (if_pos (bI_0.mpr h3)).trans <| bs eR <| (if_neg (by decide)).trans <| bs est <| (if_pos (by rw [hs]; decide)).trans <| bs nx rfl, SR, keep (fun m _ => ring_none hac hcd hd2 hn hs)⟩
        · have ns : ¬ nI (stn b f) ≤ 0 := nI_nle (by omega) (by omega)
          obtain ⟨M3, e3, x3⟩ := m_isAlways (N := N) (k := 1) (m1 := 0) (n1 := 0) (v := v3 a c d) (M := ms_set_row M1 R) hN dR (by decide) (by
            intro j hj
            rw [ms_g_row_row]
            unfold v3
            match j, hj with
            | 0, _ => rw [r0, rk_0 (by omega)]
            | 1, _ => rw [r1, rk_1 (by omega) (by omega)]
            | 2, _ => rw [r2, rk_2 (by omega) (by omega) (by omega)]
            | 3, _ => rw [r3, rk_3 (by omega) (by omega) (by omega) (by omega)]; rfl
            | 4, _ => rw [r4, rk_4 (by omega) (by omega) (by omega) (by omega) (by omega)]; rfl
            | 5, _ => rw [r5, rk_5 (by omega) (by omega) (by omega) (by omega) (by omega) (by omega)]; rfl
            | j + 6, h => omega) (w3_j hn (by omega) (by omega) hd2) (by decide) (by decide)
          have e3' : t_Mo_isAlways N 1 0 0 (ms_set_row M1 R) = some (bI (alk f b X Y 1 (v3 a c d)), M3) := e3
          have S3 := SR.fr (x3.km.mo (by decide))
          by_cases hl : alk f b X Y 1 (v3 a c d) = true
          · exact ⟨q, _, bs rfl <| (if_neg hle).trans <| bs t1 <| (if_pos (bI_0.mpr h1)).trans <| bs t2 <| (if_pos (bI_0.mpr h2)).trans <| bs t3 <| (if_pos (bI_0.mpr h3)).trans <| bs eR <| (if_neg (by decide)).trans <| bs est <| (if_neg ns).trans <| bs e3' <| (if_neg (fun z => bI_0.mp z hl)).trans <| bs nx rfl, S3, keep (fun m _ z => (of_decide_eq_true z).2.2.2.1 hl)⟩
          · obtain ⟨M4, e4, S4⟩ := m_ringThrough (N := N) hN hd hm (show a < n by omega) (show c < n by omega) hd2 S3
            have hw := msk_rng (f := f) (b := b) (X := X) (Y := Y) hn a c d
            have ht : ta 1024 (ms_isSet M4) (nI (rng f n b X Y a c d)) = some (bI (q (rng f n b X Y a c d))) := by rw [ta_n hw (by decide), S4.2.2 _ hw]
            by_cases hq : q (rng f n b X Y a c d) = true
            · obtain ⟨ew, S5⟩ := S4.mark (w := rng f n b X Y a c d) (v := true) hw (Or.inl rfl)
              refine ⟨_, _, bs rfl <| (if_neg hle).trans <| bs t1 <| (if_pos (bI_0.mpr h1)).trans <| bs t2 <| (if_pos (bI_0.mpr h2)).trans <| bs t3 <| (if_pos (bI_0.mpr h3)).trans <| bs eR <| (if_neg (by decide)).trans <| bs est <| (if_neg ns).trans <| bs e3' <| (if_pos (bI_0.mpr hl)).trans <| bs e4 <| bs ht <| (if_neg (fun z => bI_0.mp z hq)).trans <| bs ew <| bs rfl <| bs nx rfl, S5, fun m _ => ?_⟩
              rw [Bool.and_true, Bool.or_eq_true, decide_eq_true_iff]
              constructor
              · rintro (h | h)
                · exact Or.inl h
                · rw [h]; exact Or.inl hq
              · rintro (h | h)
                · exact Or.inl h
                · exact Or.inr (of_decide_eq_true h).2.2.2.2.1
            · obtain ⟨M5, e5, S5⟩ := S4.pl (N := N) hN hd hm hw
              have hpl := plc_le (sam f b X Y) (rng f n b X Y a c d) n
              by_cases hp : plc (sam f b X Y) (rng f n b X Y a c d) n ≤ 3
              · obtain ⟨ew, S6⟩ := S5.mark (w := rng f n b X Y a c d) (v := false) hw (Or.inr (by rw [Bool.not_eq_true] at hq; exact hq))
                refine ⟨_, _, bs rfl <| (if_neg hle).trans <| bs t1 <| (if_pos (bI_0.mpr h1)).trans <| bs t2 <| (if_pos (bI_0.mpr h2)).trans <| bs t3 <| (if_pos (bI_0.mpr h3)).trans <| bs eR <| (if_neg (by decide)).trans <| bs est <| (if_neg ns).trans <| bs e3' <| (if_pos (bI_0.mpr hl)).trans <| bs e4 <| bs ht <| (if_pos (bI_0.mpr hq)).trans <| bs e5 <| (if_pos (nI_le (b := 3) hp (by decide))).trans <| bs ew <| bs rfl <| bs nx rfl, S6, fun m _ => ?_⟩
                rw [Bool.and_false, Bool.or_false]
                constructor
                · exact Or.inl
                · rintro (h | h)
                  · exact h
                  · have h9 := of_decide_eq_true h
                    have h10 := h9.2.2.2.2.2
                    rw [h9.2.2.2.2.1] at h10
                    omega
              · obtain ⟨ew, S6⟩ := S5.mark (w := rng f n b X Y a c d) (v := true) hw (Or.inl rfl)
                refine ⟨_, _, bs rfl <| (if_neg hle).trans <| bs t1 <| (if_pos (bI_0.mpr h1)).trans <| bs t2 <| (if_pos (bI_0.mpr h2)).trans <| bs t3 <| (if_pos (bI_0.mpr h3)).trans <| bs eR <| (if_neg (by decide)).trans <| bs est <| (if_neg ns).trans <| bs e3' <| (if_pos (bI_0.mpr hl)).trans <| bs e4 <| bs ht <| (if_pos (bI_0.mpr hq)).trans <| bs e5 <| (if_neg (nI_ge (a := 3) (by omega) (by omega))).trans <| bs ew <| bs rfl <| bs nx rfl, S6, fun m _ => ?_⟩
                rw [Bool.and_true, Bool.or_eq_true, decide_eq_true_iff]
                constructor
                · rintro (h | h)
                  · exact Or.inl h
                  · refine Or.inr (decide_eq_true ⟨h1, h2, h3, hl, h, ?_⟩)
                    rw [h]; omega
                · rintro (h | h)
                  · exact Or.inl h
                  · exact Or.inr (of_decide_eq_true h).2.2.2.2.1
theorem m_ringAll (hN : 1100 ≤ N) (hd : MD M f n b X Y) (hm : ms_many M = nI n) : ∃ M', t_Mo_ring N x M = some (ansL (GL f n b X Y) x, M') ∧ KM [8, 13, 16, 21] M M' := by
  have hn := hd.2.1
  obtain ⟨M1, e1, S1⟩ := m_clearSets (N := N) hN hd hm
  have main := up_loop (L := fun fu p s => tl_Mo_ring_6 N fu x (nI p) s) (e := n) (I := fun a M2 => ∃ q, SQ M f n b X Y q M2 ∧ GQ f n b X Y a 0 0 q) (Q := fun o => ∃ M', o = some (ansL (GL f n b X Y) x, M') ∧ KM [8, 13, 16, 21] M M') (by
    intro fu a M2 ha hI
    obtain ⟨q, S2, hq⟩ := hI
    have mid := up_loop (L := fun fu2 p s => tl_Mo_ring_18 N (tl_Mo_ring_6 N fu) fu2 x (nI a) (nI p) s) (e := n) (I := fun c M3 => a < c ∧ ∃ q, SQ M f n b X Y q M3 ∧ GQ f n b X Y a c 0 q) (Q := fun o => ∃ M3, o = tl_Mo_ring_6 N fu x (nI (a + 1)) M3 ∧ ∃ q, SQ M f n b X Y q M3 ∧ GQ f n b X Y (a + 1) 0 0 q) (by
      intro fu2 c M3 hc hJ
      obtain ⟨hac, q3, S3, hq3⟩ := hJ
      have inner := up_loop (L := fun fu3 p s => tl_Mo_ring_31 N (tl_Mo_ring_6 N fu) (tl_Mo_ring_18 N (tl_Mo_ring_6 N fu) fu2) fu3 x (nI a) (nI c) (nI p) s) (e := n) (I := fun d M4 => c < d ∧ ∃ q, SQ M f n b X Y q M4 ∧ GQ f n b X Y a c d q) (Q := fun o => ∃ M4, o = tl_Mo_ring_18 N (tl_Mo_ring_6 N fu) fu2 x (nI a) (nI (c + 1)) M4 ∧ ∃ q, SQ M f n b X Y q M4 ∧ GQ f n b X Y a (c + 1) 0 q) (by
        intro fu3 d M4 hd2 hK
        obtain ⟨hcd, q4, S4, hq4⟩ := hK
        obtain ⟨q5, M5, e5, S5, hq5⟩ := m_ringStep (N := N) (x := x) (k6 := tl_Mo_ring_6 N fu) (k18 := tl_Mo_ring_18 N (tl_Mo_ring_6 N fu) fu2) (k31 := tl_Mo_ring_31 N (tl_Mo_ring_6 N fu) (tl_Mo_ring_18 N (tl_Mo_ring_6 N fu) fu2) fu3) (by omega) hd hm hac hcd hd2 S4
        refine Or.inl ⟨M5, e5, by omega, q5, S5, fun m hm2 => (hq5 m hm2).trans ?_⟩
        rw [hq4 m hm2]
        constructor
        · rintro (⟨a', c', d', h1, h2⟩ | h)
          · exact ⟨a', c', d', by omega, h2⟩
          · exact ⟨a, c, d, by omega, hac, hcd, hd2, h⟩
        · rintro ⟨a', c', d', h1, h2, h3, h4, h5⟩
          by_cases hz : a' = a ∧ c' = c ∧ d' = d
          · rw [hz.1, hz.2.1, hz.2.2] at h5; exact Or.inr h5
          · exact Or.inl ⟨a', c', d', by omega, h2, h3, h4, h5⟩) (by
        intro fu3 M4 hK
        obtain ⟨hcd, q4, S4, hq4⟩ := hK
        refine ⟨M4, ?_, q4, S4, fun m hm2 => (hq4 m hm2).trans ⟨?_, ?_⟩⟩
        · show tb_Mo_ring_31 N (tl_Mo_ring_6 N fu) (tl_Mo_ring_18 N (tl_Mo_ring_6 N fu) fu2) (tl_Mo_ring_31 N (tl_Mo_ring_6 N fu) (tl_Mo_ring_18 N (tl_Mo_ring_6 N fu) fu2) fu3) x (nI a) (nI c) (nI n) M4 = _
          unfold tb_Mo_ring_31
          exact bs rfl <| (if_pos (by rw [S4.1.many (by decide), hm]; exact nI_le (Nat.le_refl n) (by omega))).trans <| bs (by rw [nI_1]) rfl
        · rintro ⟨a', c', d', h1, h2, h3, h4, h5⟩
          exact ⟨a', c', d', by omega, h2, h3, h4, h5⟩
        · rintro ⟨a', c', d', h1, h2, h3, h4, h5⟩
          exact ⟨a', c', d', by omega, h2, h3, h4, h5⟩)
      obtain ⟨M4, e4, I4⟩ := inner (n - (c + 1)) (c + 1) N M3 (by omega) (by omega) ⟨by omega, q3, S3, fun m hm2 => (hq3 m hm2).trans ⟨by
        rintro ⟨a', c', d', h1, h2⟩
        exact ⟨a', c', d', by omega, h2⟩, by
        rintro ⟨a', c', d', h1, h2⟩
        exact ⟨a', c', d', by omega, h2⟩⟩⟩
      refine Or.inl ⟨M4, ?_, by omega, I4⟩
      show tb_Mo_ring_18 N (tl_Mo_ring_6 N fu) (tl_Mo_ring_18 N (tl_Mo_ring_6 N fu) fu2) x (nI a) (nI c) M3 = _
      unfold tb_Mo_ring_18
      exact bs rfl <| (if_neg (by rw [S3.1.many (by decide), hm]; exact nI_ge hc (by omega))).trans <| bs (by rw [nI_1]) e4) (by
      intro fu2 M3 hJ
      obtain ⟨hac, q3, S3, hq3⟩ := hJ
      refine ⟨M3, ?_, q3, S3, fun m hm2 => (hq3 m hm2).trans ⟨?_, ?_⟩⟩
      · show tb_Mo_ring_18 N (tl_Mo_ring_6 N fu) (tl_Mo_ring_18 N (tl_Mo_ring_6 N fu) fu2) x (nI a) (nI n) M3 = _
        unfold tb_Mo_ring_18
        exact bs rfl <| (if_pos (by rw [S3.1.many (by decide), hm]; exact nI_le (Nat.le_refl n) (by omega))).trans <| bs (by rw [nI_1]) rfl
      · rintro ⟨a', c', d', h1, h2, h3, h4, h5⟩
        exact ⟨a', c', d', by omega, h2, h3, h4, h5⟩
      · rintro ⟨a', c', d', h1, h2, h3, h4, h5⟩
        exact ⟨a', c', d', by omega, h2, h3, h4, h5⟩)
    obtain ⟨M3, e3, I3⟩ := mid (n - (a + 1)) (a + 1) N M2 (by omega) (by omega) ⟨by omega, q, S2, fun m hm2 => (hq m hm2).trans ⟨by
      rintro ⟨a', c', d', h1, h2⟩
      exact ⟨a', c', d', by omega, h2⟩, by
      rintro ⟨a', c', d', h1, h2⟩
      exact ⟨a', c', d', by omega, h2⟩⟩⟩
    refine Or.inl ⟨M3, ?_, I3⟩
    show tb_Mo_ring_6 N (tl_Mo_ring_6 N fu) x (nI a) M2 = _
    unfold tb_Mo_ring_6
    exact bs rfl <| (if_neg (by rw [S2.1.many (by decide), hm]; exact nI_ge ha (by omega))).trans <| bs (by rw [nI_1]) e3) (by
    intro fu M2 hI
    obtain ⟨q, S2, hq⟩ := hI
    have e := m_set (N := N) (x := x) hN S2.2.2
    have hu : upto q = GL f n b X Y := upto_congr (fun m hm2 => bool_ext ((hq m hm2).trans (by
      unfold rgs ringc
      rw [decide_eq_true_iff]
      constructor
      · rintro ⟨a', c', d', h1, h2, h3, h4, h5⟩
        rw [decide_eq_true_iff] at h5
        exact ⟨a', by omega, c', by omega, d', h4, h2, h3, h5⟩
      · rintro ⟨a', h1, c', h2, d', h3, h4, h5, h6⟩
        exact ⟨a', c', d', Or.inl h1, h4, h5, h3, decide_eq_true h6⟩)))
    rw [hu] at e
    refine ⟨M2, ?_, S2.1⟩
    show tb_Mo_ring_6 N (tl_Mo_ring_6 N fu) x (nI n) M2 = _
    unfold tb_Mo_ring_6
    exact bs rfl <| (if_pos (by rw [S2.1.many (by decide), hm]; exact nI_le (Nat.le_refl n) (by omega))).trans <| bs e rfl)
  obtain ⟨M', e, k⟩ := main n 0 N M1 (by omega) (by omega) ⟨fun _ => false, S1, fun m _ => by
    constructor
    · intro z; cases z
    · rintro ⟨a', c', d', h1, h2⟩; omega⟩
  exact ⟨M', bs e1 e, k⟩
end MRR
