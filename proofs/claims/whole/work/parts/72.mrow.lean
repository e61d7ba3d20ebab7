/-! the model's rows and rings -/
def ansL (L : List Nat) (x : Int32) : Int32 := if x < 0 ∨ nI L.length ≤ x then -1 else nI (L.getD x.toNatClampNeg 0)
theorem ans_app {L : List Nat} {s : Nat} {x : Int32} (hL : L.length < 2000) : ansL (L ++ [s]) x = if nI L.length = x then nI s else ansL L x := by
  have hlen : (L ++ [s]).length = L.length + 1 := by rw [List.length_append]; rfl
  unfold ansL
  rw [hlen]
  rcases pk_ix x (n := L.length) (by omega) with h | h | ⟨j, hj, rfl⟩
  · rw [if_pos (Or.inl h), if_pos (Or.inl h), if_neg (fun z => by rw [← z] at h; exact nI_pos (by omega) h)]
  · by_cases he : nI L.length = x
    · rw [if_pos he, ← he, if_neg (by
        rintro (z | z)
        · exact nI_pos (by omega) z
        · exact nI_ge (by omega) (by omega) z), nI_clamp (by omega), gd_e]
    · rw [if_neg he, if_pos (Or.inr h), if_pos (Or.inr ?_)]
      rw [Int32.le_iff_toInt_le, nI_toInt (by omega)] at h ⊢
      have : (nI L.length).toInt ≠ x.toInt := fun z => he (Int32.toInt_inj.mp z)
      rw [nI_toInt (by omega)] at this
      omega
  · rw [if_neg (by
      rintro (z | z)
      · exact nI_pos (by omega) z
      · exact nI_ge (by omega) (by omega) z), if_neg (fun z => by have := (nI_eq (by omega) (by omega)).mp z; omega), if_neg (by
      rintro (z | z)
      · exact nI_pos (by omega) z
      · exact nI_ge hj (by omega) z), nI_clamp (by omega), gd_l hj]
theorem range_len (q : Nat → Bool) (s : Nat) : ((List.range s).filter q).length ≤ s := by
  have := List.length_filter_le q (List.range s)
  rw [List.length_range] at this
  exact this
section MRW
variable {N : Nat} {M : MS} {f n : Nat} {b : Nat → Bool} {X Y : Nat → Nat → Int}
theorem m_set {q : Nat → Bool} {x : Int32} (hN : 1100 ≤ N) (hq : ∀ m, m < 1024 → ms_isSet M m = bI (q m)) : t_Mo_set N x M = some (ansL (upto q) x) := by
  have main := up_loop (σ := Unit) (L := fun fu s _ => tl_Mo_set_7 N fu x (nI ((List.range s).filter q).length) (ansL ((List.range s).filter q) x) (nI s) M) (e := 1024) (I := fun s _ => True) (Q := fun o => o = some (ansL (upto q) x)) (by
    intro fu s u hs _
    refine Or.inl ⟨(), ?_, trivial⟩
    have hl := range_len q s
    have ht : ta 1024 (ms_isSet M) (nI s) = some (bI (q s)) := by rw [ta_n hs (by decide), hq s hs]
    have nx : some (nI s + 1) = some (nI (s + 1)) := by rw [nI_1]
    show tb_Mo_set_7 N (tl_Mo_set_7 N fu) x (nI ((List.range s).filter q).length) (ansL ((List.range s).filter q) x) (nI s) M = _
    unfold tb_Mo_set_7 tb_Mo_set_36 tb_Mo_set_40
    have h10 : ¬ 1024 ≤ nI s := nI_ge (b := 1024) hs (by decide)
    have hr : List.range (s + 1) = List.range s ++ [s] := List.range_succ
    by_cases hqs : q s = true
    · have hf : (List.range (s + 1)).filter q = (List.range s).filter q ++ [s] := by
        rw [hr, List.filter_append, List.filter_cons_of_pos hqs, List.filter_nil]
      have hlen : ((List.range s).filter q ++ [s]).length = ((List.range s).filter q).length + 1 := by rw [List.length_append]; rfl
      rw [hf, ans_app (by omega), hlen]
      refine (if_neg h10).trans <| bs ht <| (if_neg (fun z => bI_0.mp z hqs)).trans ?_
      by_cases he : nI ((List.range s).filter q).length = x
      · rw [if_pos he, if_pos he]
        exact bs (by rw [nI_1]) <| bs nx rfl
      · rw [if_neg he, if_neg he]
        exact bs (by rw [nI_1]) <| bs nx rfl
    · have hf : (List.range (s + 1)).filter q = (List.range s).filter q := by
        rw [hr, List.filter_append, List.filter_cons_of_neg hqs, List.filter_nil, List.append_nil]
      rw [hf]
      exact (if_neg h10).trans <| bs ht <| (if_pos (bI_0.mpr hqs)).trans <| bs nx rfl) (by
    intro fu u _
    show tb_Mo_set_7 N (tl_Mo_set_7 N fu) x (nI ((List.range 1024).filter q).length) (ansL ((List.range 1024).filter q) x) (nI 1024) M = _
    unfold tb_Mo_set_7
    exact if_pos (by decide))
  have h0 : ansL [] x = -1 := by
    unfold ansL
    by_cases hx : x < 0
    · rw [if_pos (Or.inl hx)]
    · rw [if_pos (Or.inr ?_)]
      show nI 0 ≤ x
      rw [Int32.le_iff_toInt_le, nI_toInt (by decide)]
      rw [Int32.lt_iff_toInt_lt, Int32.toInt_zero] at hx
      omega
  have e := main 1024 0 N () (by omega) (by omega) trivial
  show tl_Mo_set_7 N N x 0 (-1) 0 M = _
  rw [← h0]
  exact e
/-- sets q are marked in the model -/
def SQ (M : MS) (f n : Nat) (b : Nat → Bool) (X Y : Nat → Nat → Int) (q : Nat → Bool) (M1 : MS) : Prop := KM [8, 13, 16, 21] M M1 ∧ (∀ a c, a < n → c < n → ms_same M1 (10 * a + c) = bI (sam f b X Y a c)) ∧ ∀ m, m < 1024 → ms_isSet M1 m = bI (q m)
theorem SQ.to {q r : Nat → Bool} {M1 : MS} (h : SQ M f n b X Y q M1) (hr : ∀ m, m < 1024 → q m = r m) : SQ M f n b X Y r M1 := ⟨h.1, h.2.1, fun m hm => by rw [← hr m hm]; exact h.2.2 m hm⟩
theorem SQ.fr {q : Nat → Bool} {M1 M2 : MS} (h : SQ M f n b X Y q M1) (hk : KM [8, 13] M1 M2) : SQ M f n b X Y q M2 := ⟨h.1.tr (hk.mo (by decide)), fun a c ha hc => by rw [hk.same (by decide)]; exact h.2.1 a c ha hc, fun m hm => by rw [hk.isSet (by decide)]; exact h.2.2 m hm⟩
theorem m_clearSets (hN : 1100 ≤ N) (hd : MD M f n b X Y) (hm : ms_many M = nI n) : ∃ M', t_Mo_clearSets N M = some M' ∧ SQ M f n b X Y (fun _ => false) M' := by
  obtain ⟨M1, e1, k1, s1⟩ := m_findSame (N := N) (by omega) hd hm
  have main := up_loop (L := fun fu s M2 => tl_Mo_clearSets_6 N fu (nI s) M2) (e := 1024) (I := fun s M2 => KM [21] M1 M2 ∧ ∀ m, m < s → ms_isSet M2 m = 0) (Q := fun o => ∃ M', o = some M' ∧ KM [21] M1 M' ∧ ∀ m, m < 1024 → ms_isSet M' m = 0) (by
    intro fu s M2 hs hI
    refine Or.inl ⟨ms_set_isSet M2 (upd (ms_isSet M2) s 0), ?_, hI.1.tr KM.s_isSet, fun m hm => ?_⟩
    · show tb_Mo_clearSets_6 N (tl_Mo_clearSets_6 N fu) (nI s) M2 = _
      unfold tb_Mo_clearSets_6
      exact (if_neg (nI_ge (b := 1024) hs (by decide))).trans <| bs ((if_pos (Or.inl rfl)).trans (twi_n hs (by decide))) <| bs rfl <| bs (by rw [nI_1]) rfl
    · rw [ms_g_isSet_isSet]
      by_cases hms : m = s
      · rw [hms, pk_us]
      · rw [pk_un hms]
        exact hI.2 m (by omega)) (by
    intro fu M2 hI
    refine ⟨M2, ?_, hI⟩
    show tb_Mo_clearSets_6 N (tl_Mo_clearSets_6 N fu) (nI 1024) M2 = _
    unfold tb_Mo_clearSets_6
    exact if_pos (by decide))
  obtain ⟨M2, e2, k2, z2⟩ := main 1024 0 N M1 (by omega) (by omega) ⟨KM.rf, fun m hm => by omega⟩
  exact ⟨M2, bs e1 e2, (k1.mo (by decide)).tr (k2.mo (by decide)), fun a c ha hc => by rw [k2.same (by decide)]; exact s1 a c ha hc, fun m hm => z2 m hm⟩
theorem crs_same1 {X Y : Nat → Int} {a c p : Nat} (h1 : X a = X p) (h2 : Y a = Y p) : crs X Y a c a p = 0 := by
  unfold crs
  rw [h1, h2, Int.sub_self, Int.sub_self, Int.mul_zero, Int.mul_zero, Int.sub_zero]
theorem crs_same2 {X Y : Nat → Int} {a c p : Nat} (h1 : X c = X p) (h2 : Y c = Y p) : crs X Y a c a p = 0 := by
  unfold crs
  rw [h1, h2, Int.mul_comm (X p - X a), Int.sub_self]
theorem line_of_sam {a c p : Nat} (ha : a < 16) (hc : c < 16) (hp : p < 16) (h : sam f b X Y a p = true ∨ sam f b X Y c p = true) : p = a ∨ p = c ∨ alk f b X Y 1 (v3 a c p) = true := by
  have key : 0 < stn b f → (∀ g, g < f → b g = true → crs (X g) (Y g) a c a p = 0) → alk f b X Y 1 (v3 a c p) = true := by
    intro hs h
    unfold alk
    rw [alw_iff]
    refine ⟨hs, fun g hg hb => ?_⟩
    show decide (crs (X g) (Y g) (v3 a c p 0) (v3 a c p 1) (v3 a c p 0) (v3 a c p 2) % 1000003 = 0) = true
    unfold v3
    rw [decide_eq_true_iff, rk_0 ha, rk_1 ha hc, rk_2 ha hc hp, h g hg hb]
    rfl
  rcases h with h | h
  · rcases sam_iff.mp h with h | h
    · exact Or.inl h.symm
    · exact Or.inr (Or.inr (key h.1 (fun g hg hb => crs_same1 (h.2 g hg hb).1 (h.2 g hg hb).2)))
  · rcases sam_iff.mp h with h | h
    · exact Or.inr (Or.inl h.symm)
    · exact Or.inr (Or.inr (key h.1 (fun g hg hb => crs_same2 (h.2 g hg hb).1 (h.2 g hg hb).2)))
theorem circ_same (X Y : Nat → Int) (a c d p : Nat) (h : (X a = X p ∧ Y a = Y p) ∨ (X c = X p ∧ Y c = Y p) ∨ (X d = X p ∧ Y d = Y p)) : dtp X Y a c a c * crs X Y a d a p - dtp X Y a d a d * crs X Y a c a p + dtp X Y a p a p * crs X Y a c a d = 0 := by
  unfold dtp crs
  rcases h with ⟨h1, h2⟩ | ⟨h1, h2⟩ | ⟨h1, h2⟩
  · rw [h1, h2]; grind
  · rw [h1, h2]; grind
  · rw [h1, h2]; grind
theorem ring_of_sam {a c d p : Nat} (ha : a < 16) (hc : c < 16) (hd : d < 16) (hp : p < 16) (h : sam f b X Y a p = true ∨ sam f b X Y c p = true ∨ sam f b X Y d p = true) : p = a ∨ p = c ∨ p = d ∨ alk f b X Y 5 (v4 a c d p) = true := by
  have key : 0 < stn b f → (∀ g, g < f → b g = true → ((X g a = X g p ∧ Y g a = Y g p) ∨ (X g c = X g p ∧ Y g c = Y g p) ∨ (X g d = X g p ∧ Y g d = Y g p))) → alk f b X Y 5 (v4 a c d p) = true := by
    intro hs h
    unfold alk
    rw [alw_iff]
    refine ⟨hs, fun g hg hb => ?_⟩
    show decide (_ = (0 : Int)) = true
    unfold v4
    rw [decide_eq_true_iff, rk_0 ha, rk_1 ha hc, rk_2 ha hc hd, rk_3 ha hc hd hp, circ_same (X g) (Y g) a c d p (h g hg hb)]
    rfl
  rcases h with h | h | h
  · rcases sam_iff.mp h with h | h
    · exact Or.inl h.symm
    · exact Or.inr (Or.inr (Or.inr (key h.1 (fun g hg hb => Or.inl (h.2 g hg hb)))))
  · rcases sam_iff.mp h with h | h
    · exact Or.inr (Or.inl h.symm)
    · exact Or.inr (Or.inr (Or.inr (key h.1 (fun g hg hb => Or.inr (Or.inl (h.2 g hg hb))))))
  · rcases sam_iff.mp h with h | h
    · exact Or.inr (Or.inr (Or.inl h.symm))
    · exact Or.inr (Or.inr (Or.inr (key h.1 (fun g hg hb => Or.inr (Or.inr (h.2 g hg hb))))))
theorem same_ta {M1 : MS} {a p : Nat} (hn : n ≤ 10) (hs : ∀ a c, a < n → c < n → ms_same M1 (10 * a + c) = bI (sam f b X Y a c)) (ha : a < n) (hp : p < n) : ta 100 (ms_same M1) ((10 : Int32) * nI a + nI p) = some (bI (sam f b X Y a p)) := by
  rw [show (10 : Int32) = nI 10 from rfl, pk_mul, nI_add, ta_n (by omega) (by decide), hs a p ha hp]
theorem m_lineOf {a c : Nat} {q : Nat → Bool} {M1 : MS} (hN : 25 ≤ N) (hd : MD M f n b X Y) (hm : ms_many M = nI n) (ha : a < n) (hc : c < n) (hI : SQ M f n b X Y q M1) : ∃ M2, t_Mo_lineOf N (nI a) (nI c) M1 = some (nI (lin f n b X Y a c), M2) ∧ SQ M f n b X Y q M2 := by
  have hn := hd.2.1
  have main := up_loop (σ := Nat × MS) (L := fun fu p s => tl_Mo_lineOf_5 N fu (nI a) (nI c) (nI s.1) (nI p) s.2) (e := n) (I := fun p s => s.1 < 1024 ∧ SQ M f n b X Y q s.2 ∧ ∀ j, s.1.testBit j = true ↔ (j < p ∧ (j = a ∨ j = c ∨ alk f b X Y 1 (v3 a c j) = true))) (Q := fun o => ∃ M2, o = some (nI (lin f n b X Y a c), M2) ∧ SQ M f n b X Y q M2) (by
    intro fu p s hp hJ
    obtain ⟨h1, hS, hb⟩ := hJ
    have hm1 : ms_many s.2 = nI n := by rw [hS.1.many (by decide)]; exact hm
    have hle : ¬ ms_many s.2 ≤ nI p := by rw [hm1]; exact nI_ge hp (by omega)
    have nx : some (nI p + 1) = some (nI (p + 1)) := by rw [nI_1]
    obtain ⟨R, eR, r0, r1, r2, r3, r4, r5⟩ := m_setRow (N := N) (M := s.2) (nI a) (nI c) (nI p) 0 0 0
    have kR : KM [13] s.2 (ms_set_row s.2 R) := KM.s_row
    have SR := hS.fr (kR.mo (by decide))
    have ta1 := same_ta (M1 := ms_set_row s.2 R) hn SR.2.1 ha hp
    have ta2 := same_ta (M1 := ms_set_row s.2 R) hn SR.2.1 hc hp
    obtain ⟨M3, e3, x3⟩ := m_isAlways (N := N) (k := 1) (m1 := 0) (n1 := 0) (v := v3 a c p) (M := ms_set_row s.2 R) hN (SR.1.md (by decide) hd) (by decide) (by
      intro j hj
      rw [ms_g_row_row]
      unfold v3
      match j, hj with
      | 0, _ => rw [r0, rk_0 (by omega)]
      | 1, _ => rw [r1, rk_1 (by omega) (by omega)]
      | 2, _ => rw [r2, rk_2 (by omega) (by omega) (by omega)]
      | 3, _ => rw [r3, rk_3 (by omega) (by omega) (by omega) (by omega)]; rfl
      | 4, _ => rw [r4, rk_4 (by omega) (by omega) (by omega) (by omega) (by omega)]; rfl
      | 5, _ => rw [r5, rk_5 (by omega) (by omega) (by omega) (by omega) (by omega) (by omega)]; rfl
      | j + 6, h => omega) (w3_j hn ha hc hp) (by decide) (by decide)
    have e3' : t_Mo_isAlways N 1 0 0 (ms_set_row s.2 R) = some (bI (alk f b X Y 1 (v3 a c p)), M3) := e3
    have yes : ∀ M4 : MS, SQ M f n b X Y q M4 → (p = a ∨ p = c ∨ alk f b X Y 1 (v3 a c p) = true) → ∃ s' : Nat × MS, tb_Mo_lineOf_65 N (tl_Mo_lineOf_5 N fu) (nI a) (nI c) (nI s.1) (nI p) M4 = tl_Mo_lineOf_5 N fu (nI a) (nI c) (nI s'.1) (nI (p + 1)) s'.2 ∧ s'.1 < 1024 ∧ SQ M f n b X Y q s'.2 ∧ ∀ j, s'.1.testBit j = true ↔ (j < p + 1 ∧ (j = a ∨ j = c ∨ alk f b X Y 1 (v3 a c j) = true)) := by
      intro M4 S4 hy
      refine ⟨(s.1 ||| 2 ^ p, M4), ?_, or_lt h1 (by omega), S4, fun j => ?_⟩
      · unfold tb_Mo_lineOf_65 tb_Mo_lineOf_75
        rw [sh_one _ (by omega), nI_or]
        exact bs nx rfl
      · show (s.1 ||| 2 ^ p).testBit j = true ↔ _
        rw [tb_or, Bool.or_eq_true, hb j, decide_eq_true_iff]
        constructor
        · rintro (⟨h1, h2⟩ | h)
          · exact ⟨by omega, h2⟩
          · subst h; exact ⟨by omega, hy⟩
        · rintro ⟨h1, h2⟩
          by_cases hjp : j = p
          · exact Or.inr hjp.symm
          · exact Or.inl ⟨by omega, h2⟩
    show (∃ s', tb_Mo_lineOf_5 N (tl_Mo_lineOf_5 N fu) (nI a) (nI c) (nI s.1) (nI p) s.2 = _ ∧ _) ∨ _
    refine Or.inl ?_
    unfold tb_Mo_lineOf_5
    by_cases hy1 : sam f b X Y a p = true
    · obtain ⟨s', e', r'⟩ := yes _ SR (line_of_sam (by omega) (by omega) (by omega) (Or.inl hy1))
      exact ⟨s', bs rfl <| (if_neg hle).trans <| bs eR <| bs ta1 <| (if_neg (fun z => bI_0.mp z hy1)).trans e', r'⟩
    · by_cases hy2 : sam f b X Y c p = true
      · obtain ⟨s', e', r'⟩ := yes _ SR (line_of_sam (by omega) (by omega) (by omega) (Or.inr hy2))
        exact ⟨s', bs rfl <| (if_neg hle).trans <| bs eR <| bs ta1 <| (if_pos (bI_0.mpr hy1)).trans <| bs ta2 <| (if_neg (fun z => bI_0.mp z hy2)).trans e', r'⟩
      · have S3 := SR.fr (x3.km.mo (by decide))
        by_cases hy3 : alk f b X Y 1 (v3 a c p) = true
        · obtain ⟨s', e', r'⟩ := yes M3 S3 (Or.inr (Or.inr hy3))
          exact ⟨s', bs rfl <| (if_neg hle).trans <| bs eR <| bs ta1 <| (if_pos (bI_0.mpr hy1)).trans <| bs ta2 <| (if_pos (bI_0.mpr hy2)).trans <| bs e3' <| (if_neg (fun z => bI_0.mp z hy3)).trans e', r'⟩
        · refine ⟨(s.1, M3), bs rfl <| (if_neg hle).trans <| bs eR <| bs ta1 <| (if_pos (bI_0.mpr hy1)).trans <| bs ta2 <| (if_pos (bI_0.mpr hy2)).trans <| bs e3' <| (if_pos (bI_0.mpr hy3)).trans <| bs nx rfl, h1, S3, fun j => ?_⟩
          show s.1.testBit j = true ↔ _
          rw [hb j]
          constructor
          · rintro ⟨h1, h2⟩; exact ⟨by omega, h2⟩
          · rintro ⟨h1, h2⟩
            by_cases hjp : j = p
            · subst hjp
              rcases h2 with h2 | h2 | h2
              · subst h2; exact absurd sam_rf hy1
              · subst h2; exact absurd sam_rf hy2
              · exact absurd h2 hy3
            · exact ⟨by omega, h2⟩) (by
    intro fu s hJ
    obtain ⟨h1, hS, hb⟩ := hJ
    refine ⟨s.2, ?_, hS⟩
    have hl : s.1 = lin f n b X Y a c := by
      apply Nat.eq_of_testBit_eq
      intro j
      apply bool_ext
      unfold lin
      rw [hb j, msk_tb, decide_eq_true_iff]
    rw [← hl]
    show tb_Mo_lineOf_5 N (tl_Mo_lineOf_5 N fu) (nI a) (nI c) (nI s.1) (nI n) s.2 = _
    unfold tb_Mo_lineOf_5
    exact bs rfl <| if_pos (by rw [hS.1.many (by decide), hm]; exact nI_le (Nat.le_refl n) (by omega)))
  exact main n 0 N (0, M1) (by omega) (by omega) ⟨show (0 : Nat) < 1024 by decide, hI, fun j => by
    show (0 : Nat).testBit j = true ↔ _
    rw [Nat.zero_testBit]
    constructor
    · intro z; cases z
    · intro z; omega⟩
theorem m_ringThrough {a c d : Nat} {q : Nat → Bool} {M1 : MS} (hN : 25 ≤ N) (hd : MD M f n b X Y) (hm : ms_many M = nI n) (ha : a < n) (hc : c < n) (hd2 : d < n) (hI : SQ M f n b X Y q M1) : ∃ M2, t_Mo_ringThrough N (nI a) (nI c) (nI d) M1 = some (nI (rng f n b X Y a c d), M2) ∧ SQ M f n b X Y q M2 := by
  have hn := hd.2.1
  have main := up_loop (σ := Nat × MS) (L := fun fu p s => tl_Mo_ringThrough_6 N fu (nI a) (nI c) (nI d) (nI s.1) (nI p) s.2) (e := n) (I := fun p s => s.1 < 1024 ∧ SQ M f n b X Y q s.2 ∧ ∀ j, s.1.testBit j = true ↔ (j < p ∧ (j = a ∨ j = c ∨ j = d ∨ alk f b X Y 5 (v4 a c d j) = true))) (Q := fun o => ∃ M2, o = some (nI (rng f n b X Y a c d), M2) ∧ SQ M f n b X Y q M2) (by
    intro fu p s hp hJ
    obtain ⟨h1, hS, hb⟩ := hJ
    have hm1 : ms_many s.2 = nI n := by rw [hS.1.many (by decide)]; exact hm
    have hle : ¬ ms_many s.2 ≤ nI p := by rw [hm1]; exact nI_ge hp (by omega)
    have nx : some (nI p + 1) = some (nI (p + 1)) := by rw [nI_1]
    obtain ⟨R, eR, r0, r1, r2, r3, r4, r5⟩ := m_setRow (N := N) (M := s.2) (nI a) (nI c) (nI d) (nI p) 0 0
    have kR : KM [13] s.2 (ms_set_row s.2 R) := KM.s_row
    have SR := hS.fr (kR.mo (by decide))
    have ta1 := same_ta (M1 := ms_set_row s.2 R) hn SR.2.1 ha hp
    have ta2 := same_ta (M1 := ms_set_row s.2 R) hn SR.2.1 hc hp
    have ta3 := same_ta (M1 := ms_set_row s.2 R) hn SR.2.1 hd2 hp
    obtain ⟨M3, e3, x3⟩ := m_isAlways (N := N) (k := 5) (m1 := 0) (n1 := 0) (v := v4 a c d p) (M := ms_set_row s.2 R) hN (SR.1.md (by decide) hd) (by decide) (by
      intro j hj
      rw [ms_g_row_row]
      unfold v4
      match j, hj with
      | 0, _ => rw [r0, rk_0 (by omega)]
      | 1, _ => rw [r1, rk_1 (by omega) (by omega)]
      | 2, _ => rw [r2, rk_2 (by omega) (by omega) (by omega)]
      | 3, _ => rw [r3, rk_3 (by omega) (by omega) (by omega) (by omega)]
      | 4, _ => rw [r4, rk_4 (by omega) (by omega) (by omega) (by omega) (by omega)]; rfl
      | 5, _ => rw [r5, rk_5 (by omega) (by omega) (by omega) (by omega) (by omega) (by omega)]; rfl
      | j + 6, h => omega) (w4_j hn ha hc hd2 hp) (by decide) (by decide)
    have e3' : t_Mo_isAlways N 5 0 0 (ms_set_row s.2 R) = some (bI (alk f b X Y 5 (v4 a c d p)), M3) := e3
    have yes : ∀ M4 : MS, SQ M f n b X Y q M4 → (p = a ∨ p = c ∨ p = d ∨ alk f b X Y 5 (v4 a c d p) = true) → ∃ s' : Nat × MS, tb_Mo_ringThrough_81 N (tl_Mo_ringThrough_6 N fu) (nI a) (nI c) (nI d) (nI s.1) (nI p) M4 = tl_Mo_ringThrough_6 N fu (nI a) (nI c) (nI d) (nI s'.1) (nI (p + 1)) s'.2 ∧ s'.1 < 1024 ∧ SQ M f n b X Y q s'.2 ∧ ∀ j, s'.1.testBit j = true ↔ (j < p + 1 ∧ (j = a ∨ j = c ∨ j = d ∨ alk f b X Y 5 (v4 a c d j) = true)) := by
      intro M4 S4 hy
      refine ⟨(s.1 ||| 2 ^ p, M4), ?_, or_lt h1 (by omega), S4, fun j => ?_⟩
      · unfold tb_Mo_ringThrough_81 tb_Mo_ringThrough_93
        rw [sh_one _ (by omega), nI_or]
        exact bs nx rfl
      · show (s.1 ||| 2 ^ p).testBit j = true ↔ _
        rw [tb_or, Bool.or_eq_true, hb j, decide_eq_true_iff]
        constructor
        · rintro (⟨h1, h2⟩ | h)
          · exact ⟨by omega, h2⟩
          · subst h; exact ⟨by omega, hy⟩
        · rintro ⟨h1, h2⟩
          by_cases hjp : j = p
          · exact Or.inr hjp.symm
          · exact Or.inl ⟨by omega, h2⟩
    show (∃ s', tb_Mo_ringThrough_6 N (tl_Mo_ringThrough_6 N fu) (nI a) (nI c) (nI d) (nI s.1) (nI p) s.2 = _ ∧ _) ∨ _
    refine Or.inl ?_
    unfold tb_Mo_ringThrough_6
    by_cases hy1 : sam f b X Y a p = true
    · obtain ⟨s', e', r'⟩ := yes _ SR (ring_of_sam (by omega) (by omega) (by omega) (by omega) (Or.inl hy1))
      exact ⟨s', bs rfl <| (if_neg hle).trans <| bs eR <| bs ta1 <| (if_neg (fun z => bI_0.mp z hy1)).trans e', r'⟩
    · by_cases hy2 : sam f b X Y c p = true
      · obtain ⟨s', e', r'⟩ := yes _ SR (ring_of_sam (by omega) (by omega) (by omega) (by omega) (Or.inr (Or.inl hy2)))
        exact ⟨s', bs rfl <| (if_neg hle).trans <| bs eR <| bs ta1 <| (if_pos (bI_0.mpr hy1)).trans <| bs ta2 <| (if_neg (fun z => bI_0.mp z hy2)).trans e', r'⟩
      · by_cases hy4 : sam f b X Y d p = true
        · obtain ⟨s', e', r'⟩ := yes _ SR (ring_of_sam (by omega) (by omega) (by omega) (by omega) (Or.inr (Or.inr hy4)))
          exact ⟨s', bs rfl <| (if_neg hle).trans <| bs eR <| bs ta1 <| (if_pos (bI_0.mpr hy1)).trans <| bs ta2 <| (if_pos (bI_0.mpr hy2)).trans <| bs ta3 <| (if_neg (fun z => bI_0.mp z hy4)).trans e', r'⟩
        · have S3 := SR.fr (x3.km.mo (by decide))
          by_cases hy3 : alk f b X Y 5 (v4 a c d p) = true
          · obtain ⟨s', e', r'⟩ := yes M3 S3 (Or.inr (Or.inr (Or.inr hy3)))
            exact ⟨s', bs rfl <| (if_neg hle).trans <| bs eR <| bs ta1 <| (if_pos (bI_0.mpr hy1)).trans <| bs ta2 <| (if_pos (bI_0.mpr hy2)).trans <| bs ta3 <| (if_pos (bI_0.mpr hy4)).trans <| bs e3' <| (if_neg (fun z => bI_0.mp z hy3)).trans e', r'⟩
          · refine ⟨(s.1, M3), bs rfl <| (if_neg hle).trans <| bs eR <| bs ta1 <| (if_pos (bI_0.mpr hy1)).trans <| bs ta2 <| (if_pos (bI_0.mpr hy2)).trans <| bs ta3 <| (if_pos (bI_0.mpr hy4)).trans <| bs e3' <| (if_pos (bI_0.mpr hy3)).trans <| bs nx rfl, h1, S3, fun j => ?_⟩
            show s.1.testBit j = true ↔ _
            rw [hb j]
            constructor
            · rintro ⟨h1, h2⟩; exact ⟨by omega, h2⟩
            · rintro ⟨h1, h2⟩
              by_cases hjp : j = p
              · subst hjp
                rcases h2 with h2 | h2 | h2 | h2
                · subst h2; exact absurd sam_rf hy1
                · subst h2; exact absurd sam_rf hy2
                · subst h2; exact absurd sam_rf hy4
                · exact absurd h2 hy3
              · exact ⟨by omega, h2⟩) (by
    intro fu s hJ
    obtain ⟨h1, hS, hb⟩ := hJ
    refine ⟨s.2, ?_, hS⟩
    have hl : s.1 = rng f n b X Y a c d := by
      apply Nat.eq_of_testBit_eq
      intro j
      apply bool_ext
      unfold rng
      rw [hb j, msk_tb, decide_eq_true_iff]
    rw [← hl]
    show tb_Mo_ringThrough_6 N (tl_Mo_ringThrough_6 N fu) (nI a) (nI c) (nI d) (nI s.1) (nI n) s.2 = _
    unfold tb_Mo_ringThrough_6
    exact bs rfl <| if_pos (by rw [hS.1.many (by decide), hm]; exact nI_le (Nat.le_refl n) (by omega)))
  exact main n 0 N (0, M1) (by omega) (by omega) ⟨show (0 : Nat) < 1024 by decide, hI, fun j => by
    show (0 : Nat).testBit j = true ↔ _
    rw [Nat.zero_testBit]
    constructor
    · intro z; cases z
    · intro z; omega⟩
/-- a set is marked if it has enough places -/
theorem SQ.mark {q : Nat → Bool} {M1 : MS} {w : Nat} {v : Bool} (h : SQ M f n b X Y q M1) (hw : w < 1024) (hv : v = true ∨ q w = false) : twz 1024 (ms_isSet M1) (nI w) (bI v) = some (upd (ms_isSet M1) w (bI v)) ∧ SQ M f n b X Y (fun m => q m || (decide (m = w) && v)) (ms_set_isSet M1 (upd (ms_isSet M1) w (bI v))) := by
  have kz : KM [21] M1 (ms_set_isSet M1 (upd (ms_isSet M1) w (bI v))) := KM.s_isSet
  refine ⟨(if_pos (by cases v <;> decide)).trans (twi_n hw (by decide)), h.1.tr (kz.mo (by decide)), fun a c ha hc => by rw [kz.same (by decide)]; exact h.2.1 a c ha hc, fun m hm => ?_⟩
  rw [ms_g_isSet_isSet]
  by_cases hmw : m = w
  · rw [hmw, pk_us]
    show bI v = bI (q w || (decide (w = w) && v))
    rw [decide_eq_true rfl, Bool.true_and]
    rcases hv with hv | hv
    · rw [hv, Bool.or_true]
    · rw [hv, Bool.false_or]
  · rw [pk_un hmw]
    show _ = bI (q m || (decide (m = w) && v))
    rw [decide_eq_false hmw, Bool.false_and, Bool.or_false]
    exact h.2.2 m hm
end MRW
