/-! the model's walk over the facts -/
def VI (M0 : MS) (want : Int32) (L : List Nat) (M1 : MS) : Prop := KM [8, 13, 14, 15, 17, 19, 20] M0 M1 ∧ ms_seen M1 = nI L.length ∧ ms_wanted M1 = want ∧ ((ms_isFound M1 = 0 ∧ ∀ i, i < L.length → nI i ≠ want) ∨ (ms_isFound M1 = 1 ∧ ∃ i, i < L.length ∧ nI i = want ∧ (∀ j, j < 6 → ms_found M1 j = nI (rk (L.getD i 0) j)) ∧ ∀ i', i < i' → i' < L.length → nI i' ≠ want))
/-- codes that are visited and told, as they are kept -/
def Vz (f : Nat) (b : Nat → Bool) (X Y : Nat → Nat → Int) (k : Nat) (l : List Nat) : List Nat := (l.filter (fun w => ord k (rk w) && mtl f b X Y k (rk w))).map (outk f b X Y k)
theorem Vz_fm {f : Nat} {b : Nat → Bool} {X Y : Nat → Nat → Int} {k : Nat} {g : Nat → List Nat} {lo n : Nat} : Vz f b X Y k (fm g lo n) = fm (fun a => Vz f b X Y k (g a)) lo n := by
  unfold Vz
  rw [fm_filter, fm_map]
section VIS
variable {N : Nat} {M0 : MS} {f n : Nat} {b : Nat → Bool} {X Y : Nat → Nat → Int} {want : Int32}
theorem VI.km {L : List Nat} {M1 M2 : MS} {l : List Nat} (h : VI M0 want L M1) (hk : KM l M1 M2) (hl : ∀ t, t ∈ l → t ∈ [8, 13, 14, 15]) : VI M0 want L M2 := by
  have hk2 : KM [8, 13, 14, 15] M1 M2 := hk.mo hl
  obtain ⟨k1, h1, h2, h3⟩ := h
  refine ⟨k1.tr (hk2.mo (by decide)), by rw [hk2.seen (by decide)]; exact h1, by rw [hk2.wanted (by decide)]; exact h2, ?_⟩
  rw [hk2.isFound (by decide), hk2.found (by decide)]
  exact h3
theorem vis_end {L : List Nat} {M1 M2 : MS} {w : Nat} (h : VI M0 want L M1) (hk : KM [19, 20] M1 M2) (hf : (¬ nI L.length = want ∧ ms_isFound M2 = ms_isFound M1 ∧ ms_found M2 = ms_found M1) ∨ (nI L.length = want ∧ ms_isFound M2 = 1 ∧ ∀ j, j < 6 → ms_found M2 j = nI (rk w j))) : ∃ M3, tb_Mo_visit_85 N M2 = some M3 ∧ VI M0 want (L ++ [w]) M3 := by
  obtain ⟨k1, h1, h2, h3⟩ := h
  have hlen : (L ++ [w]).length = L.length + 1 := by rw [List.length_append]; rfl
  have kz : KM [17] M2 (ms_set_seen M2 (ms_seen M2 + 1)) := KM.s_seen
  refine ⟨ms_set_seen M2 (ms_seen M2 + 1), bs rfl <| bs rfl rfl, (k1.tr (hk.mo (by decide))).tr (kz.mo (by decide)), ?_, ?_, ?_⟩
  · rw [ms_g_seen_seen, hk.seen (by decide), h1, nI_1, hlen]
  · rw [kz.wanted (by decide), hk.wanted (by decide), h2]
  · rw [kz.isFound (by decide), kz.found (by decide)]
    rcases hf with ⟨hne, hi, hfo⟩ | ⟨heq, hi, hfo⟩
    · rw [hi, hfo]
      rcases h3 with ⟨a1, a2⟩ | ⟨a1, i, a2, a3, a4, a5⟩
      · refine Or.inl ⟨a1, fun i hil => ?_⟩
        by_cases hiL : i = L.length
        · rw [hiL]; exact hne
        · exact a2 i (by omega)
      · refine Or.inr ⟨a1, i, by omega, a3, fun j hj => by rw [gd_l a2]; exact a4 j hj, fun i' h1 h2 => ?_⟩
        by_cases hiL : i' = L.length
        · rw [hiL]; exact hne
        · exact a5 i' h1 (by omega)
    · refine Or.inr ⟨hi, L.length, by omega, heq, fun j hj => by rw [gd_e]; exact hfo j hj, fun i' h1 h2 => by omega⟩
theorem rk_out {k w j : Nat} (hj : j < 6) : rk (outk f b X Y k w) j = if k = 8 ∧ rat (rtQ f b X Y (rk w)) < 81 then (if j = 4 then rat (rtQ f b X Y (rk w)) / 9 + 1 else if j = 5 then rat (rtQ f b X Y (rk w)) % 9 + 1 else rk w j) else if k = 8 then 0 else rk w j := by
  unfold outk
  by_cases hk : k = 8
  · rw [if_pos hk]
    unfold gnm
    by_cases hr : rat (rtQ f b X Y (rk w)) < 81
    · rw [if_pos hr, if_pos ⟨hk, hr⟩]
      by_cases h4 : j = 4
      · rw [if_pos h4, h4, rkn_4 (by omega)]
      · rw [if_neg h4]
        by_cases h5 : j = 5
        · rw [if_pos h5, h5, rkn_5 (by omega) (by omega)]
        · rw [if_neg h5, rkn_j (by omega) j (by omega)]
    · rw [if_neg hr, if_neg (fun z => hr z.2), if_pos hk]
      unfold rk
      rw [Nat.zero_div]
  · rw [if_neg hk, if_neg (fun z => hk z.1), if_neg hk]
theorem m_visit {k w : Nat} {M1 : MS} {L : List Nat} (hN : 25 ≤ N) (hd : MD M0 f n b X Y) (hs : ∀ a c, a < n → c < n → ms_same M0 (10 * a + c) = bI (sam f b X Y a c)) (hk : k < 9) (hv : ∀ j, j < 6 → ms_row M1 j = nI (rk w j)) (hp : ∀ j, j < npk k → rk w j < n) (hI : VI M0 want L M1) : ∃ M2, t_Mo_visit N (nI k) M1 = some M2 ∧ VI M0 want (L ++ Vz f b X Y k [w]) M2 := by
  have hn := hd.2.1
  have hd1 := hI.1.md (by decide) hd
  have hs1 : ∀ a c, a < n → c < n → ms_same M1 (10 * a + c) = bI (sam f b X Y a c) := fun a c ha hc => by rw [hI.1.same (by decide)]; exact hs a c ha hc
  have eo := m_ordered (N := N) (v := rk w) hk (fun j hj => hv j (Nat.lt_of_lt_of_le hj (npk_le k hk))) (fun j hj => by have := hp j hj; omega)
  unfold t_Mo_visit
  by_cases ho : ord k (rk w) = true
  · obtain ⟨M2, e2, k2, f2⟩ := m_isTold (N := N) hN hd1 hk hv hp hs1
    have I2 : VI M0 want L M2 := hI.km k2 (by decide)
    by_cases ht : mtl f b X Y k (rk w) = true
    · have hV : Vz f b X Y k [w] = [outk f b X Y k w] := by
        unfold Vz
        rw [List.filter_cons_of_pos (by rw [ho, ht]; rfl)]
        rfl
      rw [hV]
      by_cases hw : nI L.length = want
      · have kf : KM [20] M2 (ms_set_isFound M2 1) := KM.s_isFound
        have hv2 : ∀ j, j < 6 → ms_row (ms_set_isFound M2 1) j = nI (rk w j) := fun j hj => by rw [kf.row (by decide), k2.row (by decide)]; exact hv j hj
        have lp := up_loop (L := fun fu p s => tl_Mo_visit_35 N fu (nI k) (nI p) s) (e := 6) (I := fun p M3 => KM [19] (ms_set_isFound M2 1) M3 ∧ ∀ j, j < p → ms_found M3 j = nI (rk w j)) (Q := fun o => ∃ M3, o = some M3 ∧ VI M0 want (L ++ [outk f b X Y k w]) M3) (by
          intro fu p M3 hp6 hJ
          refine Or.inl ⟨ms_set_found M3 (upd (ms_found M3) p (nI (rk w p))), ?_, hJ.1.tr KM.s_found, fun j hj => ?_⟩
          · show tb_Mo_visit_35 N (tl_Mo_visit_35 N fu) (nI k) (nI p) M3 = _
            unfold tb_Mo_visit_35
            exact (if_neg (nI_ge (b := 6) hp6 (by decide))).trans <| bs (by rw [hJ.1.row (by decide), ta_n hp6 (by decide), hv2 p hp6]) <| bs (twi_n hp6 (by decide)) <| bs rfl <| bs (by rw [nI_1]) rfl
          · rw [ms_g_found_found]
            by_cases hjp : j = p
            · rw [hjp, pk_us]
            · rw [pk_un hjp]
              exact hJ.2 j (by omega)) (by
          intro fu M3 hJ
          show ∃ M4, tb_Mo_visit_35 N (tl_Mo_visit_35 N fu) (nI k) (nI 6) M3 = some M4 ∧ _
          unfold tb_Mo_visit_35
          have kM3 : KM [19, 20] M2 M3 := (kf.mo (by decide)).tr (hJ.1.mo (by decide))
          have hisf : ms_isFound M3 = 1 := by rw [hJ.1.isFound (by decide), ms_g_isFound_isFound]
          by_cases h8 : k = 8
          · subst h8
            have hrat : rat (rtQ f b X Y (rk w)) < 81 := by
              unfold mtl at ht
              have := (of_decide_eq_true ht).1
              unfold hld at this
              rw [if_neg (show ¬ (8 : Nat) < 8 by decide)] at this
              exact of_decide_eq_true this
            obtain ⟨g1, g2⟩ := f2 rfl hrat
            have k4 : KM [19] M3 (ms_set_found M3 (upd (ms_found M3) 4 (ms_foundM M3))) := KM.s_found
            generalize hM4 : ms_set_found M3 (upd (ms_found M3) 4 (ms_foundM M3)) = M4 at k4
            have k5 : KM [19] M4 (ms_set_found M4 (upd (ms_found M4) 5 (ms_foundN M4))) := KM.s_found
            obtain ⟨M5, e5, I5⟩ := vis_end (N := N) (M2 := ms_set_found M4 (upd (ms_found M4) 5 (ms_foundN M4))) (w := outk f b X Y 8 w) I2 ((kM3.tr (k4.mo (by decide))).tr (k5.mo (by decide))) (Or.inr ⟨hw, by rw [k5.isFound (by decide), k4.isFound (by decide)]; exact hisf, fun j hj => by
              rw [rk_out hj, if_pos ⟨rfl, hrat⟩, ms_g_found_found]
              by_cases h5 : j = 5
              · rw [h5, pk_us, if_neg (by decide), if_pos rfl, k4.foundN (by decide), hJ.1.foundN (by decide), kf.foundN (by decide), g2]
              · rw [pk_un h5, if_neg h5, ← hM4, ms_g_found_found]
                by_cases h4 : j = 4
                · rw [h4, pk_us, if_pos rfl, hJ.1.foundM (by decide), kf.foundM (by decide), g1]
                · rw [pk_un h4, if_neg h4]
                  exact hJ.2 j hj⟩)
            exact ⟨M5, (if_pos (by decide)).trans <| (if_pos rfl).trans <| bs rfl <| bs (twi_n (p := 4) (by decide) (by decide)) <| bs (congrArg some hM4) <| bs rfl <| bs (twi_n (p := 5) (by decide) (by decide)) <| bs rfl e5, I5⟩
          · obtain ⟨M5, e5, I5⟩ := vis_end (N := N) (M2 := M3) (w := outk f b X Y k w) I2 kM3 (Or.inr ⟨hw, hisf, fun j hj => by
              rw [rk_out hj, if_neg (fun z => h8 z.1), if_neg h8]
              exact hJ.2 j hj⟩)
            exact ⟨M5, (if_pos (by decide)).trans <| (if_neg (fun z => h8 ((nI_eq (a := k) (b := 8) (by omega) (by decide)).mp z))).trans e5, I5⟩)
        obtain ⟨M3, e3, I3⟩ := lp 6 0 N (ms_set_isFound M2 1) (by omega) (by omega) ⟨KM.rf, fun j hj => by omega⟩
        exact ⟨M3, bs eo <| (if_neg (fun z => bI_0.mp z ho)).trans <| bs e2 <| (if_neg (fun z => bI_0.mp z ht)).trans <| bs rfl <| bs rfl <| (if_pos (by rw [I2.2.1, I2.2.2.1]; exact hw)).trans <| bs tz_1 <| bs rfl e3, I3⟩
      · obtain ⟨M3, e3, I3⟩ := vis_end (N := N) (M2 := M2) (w := outk f b X Y k w) I2 KM.rf (Or.inl ⟨hw, rfl, rfl⟩)
        exact ⟨M3, bs eo <| (if_neg (fun z => bI_0.mp z ho)).trans <| bs e2 <| (if_neg (fun z => bI_0.mp z ht)).trans <| bs rfl <| bs rfl <| (if_neg (by rw [I2.2.1, I2.2.2.1]; exact hw)).trans e3, I3⟩
    · have hV : Vz f b X Y k [w] = [] := by
        unfold Vz
        rw [List.filter_cons_of_neg (by rw [Bool.and_eq_true]; exact fun z => ht z.2)]
        rfl
      rw [hV, List.append_nil]
      exact ⟨M2, bs eo <| (if_neg (fun z => bI_0.mp z ho)).trans <| bs e2 <| if_pos (bI_0.mpr ht), I2⟩
  · have hV : Vz f b X Y k [w] = [] := by
      unfold Vz
      rw [List.filter_cons_of_neg (by rw [Bool.and_eq_true]; exact fun z => ho z.1)]
      rfl
    rw [hV, List.append_nil]
    exact ⟨M1, bs eo <| if_pos (bI_0.mpr ho), hI⟩
/-- a row is set and visited -/
theorem m_setVisit {k a c d e x y : Nat} {M1 : MS} {L : List Nat} (hN : 25 ≤ N) (hd : MD M0 f n b X Y) (hs : ∀ a c, a < n → c < n → ms_same M0 (10 * a + c) = bI (sam f b X Y a c)) (hk : k < 9) (ha : a < 16) (hc : c < 16) (hd2 : d < 16) (he : e < 16) (hx : x < 16) (hy : y < 16) (hp : ∀ j, j < npk k → rk (w6 a c d e x y) j < n) (hI : VI M0 want L M1) : ∃ M2 M3, t_Mo_setRow N (nI a) (nI c) (nI d) (nI e) (nI x) (nI y) M1 = some M2 ∧ t_Mo_visit N (nI k) M2 = some M3 ∧ VI M0 want (L ++ Vz f b X Y k [w6 a c d e x y]) M3 := by
  obtain ⟨R, eR, r0, r1, r2, r3, r4, r5⟩ := m_setRow (N := N) (M := M1) (nI a) (nI c) (nI d) (nI e) (nI x) (nI y)
  have kR : KM [13] M1 (ms_set_row M1 R) := KM.s_row
  obtain ⟨M3, e3, I3⟩ := m_visit (N := N) (w := w6 a c d e x y) hN hd hs hk (M1 := ms_set_row M1 R) (fun j hj => by
    rw [ms_g_row_row]
    match j, hj with
    | 0, _ => rw [r0, rk_0 ha]
    | 1, _ => rw [r1, rk_1 ha hc]
    | 2, _ => rw [r2, rk_2 ha hc hd2]
    | 3, _ => rw [r3, rk_3 ha hc hd2 he]
    | 4, _ => rw [r4, rk_4 ha hc hd2 he hx]
    | 5, _ => rw [r5, rk_5 ha hc hd2 he hx hy]
    | j + 6, h => omega) hp (hI.km kR (by decide))
  exact ⟨_, M3, eR, e3, I3⟩
end VIS
