/-! whether a fact holds -/
theorem sho_mn {X Y : Nat → Int} {k : Nat} {v : Nat → Nat} {m n m2 n2 : Nat} (hk : k < 8) : sho X Y k v m n = sho X Y k v m2 n2 := by
  match k, hk with
  | 0, _ => rfl
  | 1, _ => rfl
  | 2, _ => rfl
  | 3, _ => rfl
  | 4, _ => rfl
  | 5, _ => rfl
  | 6, _ => rfl
  | 7, _ => rfl
  | k + 8, h => omega
/-- kinds below the ratio's -/
def alk (f : Nat) (b : Nat → Bool) (X Y : Nat → Nat → Int) (k : Nat) (v : Nat → Nat) : Bool := alw f b (fun g => sho (X g) (Y g) k v 0 0)
def hld (f : Nat) (b : Nat → Bool) (X Y : Nat → Nat → Int) (k : Nat) (v : Nat → Nat) : Bool := if k < 8 then alk f b X Y k v else decide (rat (rtQ f b X Y v) < 81)
section HLD
variable {N : Nat} {S : CS} {M : MS} {i f n : Nat} {b : Nat → Bool} {X Y : Nat → Nat → Int} {w k : Nat}
theorem p_shown (hN : 25 ≤ N) (h : CD S i f n b X Y) (hk : k < 8) (hw : w < 2147483648) (hp : ∀ j, j < npk k → rk w j < n) : t_Dr_isShown N i (nI k) (nI w) S = some (bI (alk f b X Y k (rk w))) := by
  rw [p_isShown hN h (by omega) hw hp]
  unfold alk
  have : (fun g => sho (X g) (Y g) k (rk w) (rk w 4) (rk w 5)) = fun g => sho (X g) (Y g) k (rk w) 0 0 := funext fun g => sho_mn hk
  rw [this]
theorem gnm_lt (w k : Nat) : gnm w k < 16777216 := by
  unfold gnm
  split <;> omega
theorem gnm_0 (w k : Nat) : nI (gnm w k) = 0 ↔ ¬ k < 81 := by
  have := gnm_lt w k
  rw [show (0 : Int32) = nI 0 from rfl, nI_eq (by omega) (by decide)]
  unfold gnm
  split
  · constructor
    · intro h; omega
    · intro h; omega
  · constructor
    · intro _; assumption
    · intro _; rfl
theorem p_bears (hN : 25 ≤ N) (hi : i < 2) (h : CD S i f n b X Y) (hD : DV S) (hk : k < 9) (hw : w < 2147483648) (hp : ∀ j, j < npk k → rk w j < n) : ∃ S', t_Dr_bears N i (nI k) (nI w) S = some (bI (hld f b X Y k (rk w)), S') ∧ KC [11, 12] S S' ∧ DV S' := by
  unfold t_Dr_bears hld
  by_cases hk8 : k = 8
  · subst hk8
    obtain ⟨S', e, kc, dv⟩ := p_give (N := N) hN hi h hD hw hp
    refine ⟨S', (if_pos rfl).trans <| bs e ?_, kc, dv⟩
    rw [if_neg (show ¬ (8 : Nat) < 8 by decide)]
    by_cases hr : rat (rtQ f b X Y (rk w)) < 81
    · rw [decide_eq_true hr]
      exact if_neg (fun z => (gnm_0 _ _).mp z hr)
    · rw [decide_eq_false hr]
      exact if_pos ((gnm_0 _ _).mpr hr)
  · refine ⟨S, (if_neg (fun z => hk8 ((nI_eq (a := k) (b := 8) (by omega) (by decide)).mp z))).trans <| bs (p_shown hN h (by omega) hw hp) <| bs (bI_tz _) ?_, KC.rf, hD⟩
    rw [if_pos (by omega)]
def HI (M : MS) (P : Nat → Nat → Bool) (j : Nat) (M1 : MS) : Prop := KM [8, 14, 15] M M1 ∧ ((ms_foundM M1 = 0 ∧ ∀ t, t < j → ¬ rtP P t = true) ∨ (ms_foundM M1 = nI (rat P / 9 + 1) ∧ ms_foundN M1 = nI (rat P % 9 + 1) ∧ rat P < 81))
theorem m_isHeld {v : Nat → Nat} (hN : 25 ≤ N) (h : MD M f n b X Y) (hk : k < 9) (hv : ∀ j, j < 6 → ms_row M j = nI (v j)) (hp : ∀ j, j < npk k → v j < n) : ∃ M', t_Mo_isHeld N (nI k) M = some (bI (hld f b X Y k v), M') ∧ KM [8, 14, 15] M M' ∧ (k = 8 → rat (rtQ f b X Y v) < 81 → ms_foundM M' = nI (rat (rtQ f b X Y v) / 9 + 1) ∧ ms_foundN M' = nI (rat (rtQ f b X Y v) % 9 + 1)) := by
  by_cases hk8 : k = 8
  · subst hk8
    have hfin : ∀ M1 : MS, HI M (rtQ f b X Y v) 81 M1 → ∃ M', tb_Mo_isHeld_87 N M1 = some (bI (hld f b X Y 8 v), M') ∧ KM [8, 14, 15] M M' ∧ (rat (rtQ f b X Y v) < 81 → ms_foundM M' = nI (rat (rtQ f b X Y v) / 9 + 1) ∧ ms_foundN M' = nI (rat (rtQ f b X Y v) % 9 + 1)) := by
      intro M1 hI
      unfold tb_Mo_isHeld_87 hld
      rw [if_neg (show ¬ (8 : Nat) < 8 by decide)]
      rcases hI.2 with ⟨h1, h2⟩ | ⟨h1, h2, h3⟩
      · have hr := rat_81 h2
        refine ⟨M1, bs rfl <| (if_pos (by rw [h1]; decide)).trans ?_, hI.1, fun z => by omega⟩
        rw [hr]; rfl
      · refine ⟨M1, bs rfl <| (if_neg (by rw [h1]; exact nI_nle (by omega) (by omega))).trans ?_, hI.1, fun _ => ⟨h1, h2⟩⟩
        rw [decide_eq_true h3]; rfl
    have main := up_loop (L := fun fu m s => tl_Mo_isHeld_21 N fu (nI m) s) (e := 10) (I := fun m M1 => 0 < m ∧ HI M (rtQ f b X Y v) (9 * (m - 1)) M1) (Q := fun o => ∃ M', o = some (bI (hld f b X Y 8 v), M') ∧ KM [8, 14, 15] M M' ∧ (rat (rtQ f b X Y v) < 81 → ms_foundM M' = nI (rat (rtQ f b X Y v) / 9 + 1) ∧ ms_foundN M' = nI (rat (rtQ f b X Y v) % 9 + 1))) (by
      intro fu m M1 hm10 hI
      obtain ⟨hm0, hI⟩ := hI
      have h10 : ¬ 10 ≤ nI m := nI_ge (a := m) (b := 10) hm10 (by decide)
      rcases hI.2 with ⟨h1, h2⟩ | ⟨h1, h2, h3⟩
      · refine Or.inl ?_
        have inner := up_loop (L := fun fu2 c s => tl_Mo_isHeld_36 N (tl_Mo_isHeld_21 N fu) fu2 (nI m) (nI c) s) (e := 10) (I := fun c M2 => 0 < c ∧ HI M (rtQ f b X Y v) (9 * (m - 1) + (c - 1)) M2) (Q := fun o => ∃ M2, o = tl_Mo_isHeld_21 N fu (nI (m + 1)) M2 ∧ HI M (rtQ f b X Y v) (9 * m) M2) (by
          intro fu2 c M2 hc10 hJ
          obtain ⟨hc0, hK, hJ⟩ := hJ
          have h10c : ¬ 10 ≤ nI c := nI_ge (a := c) (b := 10) hc10 (by decide)
          have nxc : some (nI c + 1) = some (nI (c + 1)) := by rw [nI_1]
          have nxm : some (nI m + 1) = some (nI (m + 1)) := by rw [nI_1]
          have hidx : 9 * (m - 1) + (c + 1 - 1) = 9 * (m - 1) + (c - 1) + 1 := by omega
          rcases hJ with ⟨j1, j2⟩ | ⟨j1, j2, j3⟩
          · by_cases hmc : m = c
            · refine Or.inl ⟨M2, ?_, by omega, hK, Or.inl ⟨j1, fun t ht => ?_⟩⟩
              · show tb_Mo_isHeld_36 N (tl_Mo_isHeld_21 N fu) (tl_Mo_isHeld_36 N (tl_Mo_isHeld_21 N fu) fu2) (nI m) (nI c) M2 = _
                unfold tb_Mo_isHeld_36 tb_Mo_isHeld_75
                exact (if_neg h10c).trans <| bs rfl <| (if_pos j1).trans <| (if_pos (by rw [hmc])).trans <| bs nxc rfl
              · by_cases ht2 : t = 9 * (m - 1) + (c - 1)
                · rw [ht2, rtP_mn (by omega) (by omega), decide_eq_false (fun z => z hmc), Bool.false_and]
                  decide
                · exact j2 t (by omega)
            · have hrow : ∀ j, j < 6 → ms_row M2 j = nI (v j) := fun j hj => by rw [hK.row (by decide)]; exact hv j hj
              obtain ⟨M3, e3, x3⟩ := m_isAlways (N := N) (k := 8) (m1 := m) (n1 := c) hN (hK.md (by decide) h) (by decide) hrow hp (by omega) (by omega)
              have k3 : KM [8, 14, 15] M M3 := hK.tr (x3.km.mo (by decide))
              have hne : ¬ nI m = nI c := fun z => hmc ((nI_eq (by omega) (by omega)).mp z)
              by_cases hq : rtQ f b X Y v m c = true
              · have hr : rat (rtQ f b X Y v) = 9 * (m - 1) + (c - 1) := rat_eq (by omega) (by rw [rtP_mn (by omega) (by omega), decide_eq_true hmc, hq]; rfl) j2
                refine Or.inl ⟨ms_set_foundN (ms_set_foundM M3 (nI m)) (nI c), ?_, by omega, (k3.tr (KM.s_foundM.mo (by decide))).tr (KM.s_foundN.mo (by decide)), Or.inr ⟨?_, ?_, by omega⟩⟩
                · show tb_Mo_isHeld_36 N (tl_Mo_isHeld_21 N fu) (tl_Mo_isHeld_36 N (tl_Mo_isHeld_21 N fu) fu2) (nI m) (nI c) M2 = _
                  unfold tb_Mo_isHeld_36 tb_Mo_isHeld_75
                  exact (if_neg h10c).trans <| bs rfl <| (if_pos j1).trans <| (if_neg hne).trans <| bs e3 <| (if_neg (fun z => bI_0.mp z hq)).trans <| bs rfl <| bs rfl <| bs nxc rfl
                · rw [ms_g_foundM_foundN, ms_g_foundM_foundM, hr, show (9 * (m - 1) + (c - 1)) / 9 + 1 = m from by omega]
                · rw [ms_g_foundN_foundN, hr, show (9 * (m - 1) + (c - 1)) % 9 + 1 = c from by omega]
              · refine Or.inl ⟨M3, ?_, by omega, k3, Or.inl ⟨?_, fun t ht => ?_⟩⟩
                · show tb_Mo_isHeld_36 N (tl_Mo_isHeld_21 N fu) (tl_Mo_isHeld_36 N (tl_Mo_isHeld_21 N fu) fu2) (nI m) (nI c) M2 = _
                  unfold tb_Mo_isHeld_36 tb_Mo_isHeld_75
                  exact (if_neg h10c).trans <| bs rfl <| (if_pos j1).trans <| (if_neg hne).trans <| bs e3 <| (if_pos (bI_0.mpr hq)).trans <| bs nxc rfl
                · rw [x3.km.foundM (by decide)]; exact j1
                · by_cases ht2 : t = 9 * (m - 1) + (c - 1)
                  · rw [ht2, rtP_mn (by omega) (by omega), Bool.and_eq_true]
                    exact fun z => hq z.2
                  · exact j2 t (by omega)
          · refine Or.inr ⟨M2, ?_, hK, Or.inr ⟨j1, j2, j3⟩⟩
            show tb_Mo_isHeld_36 N (tl_Mo_isHeld_21 N fu) (tl_Mo_isHeld_36 N (tl_Mo_isHeld_21 N fu) fu2) (nI m) (nI c) M2 = _
            unfold tb_Mo_isHeld_36 tb_Mo_isHeld_81
            exact (if_neg h10c).trans <| bs rfl <| (if_neg (by rw [j1]; exact nI_ne0 (by omega) (by omega))).trans <| bs nxm rfl) (by
          intro fu2 M2 hJ
          refine ⟨M2, ?_, by have := hJ.2; rw [show 9 * (m - 1) + (10 - 1) = 9 * m from by omega] at this; exact this⟩
          show tb_Mo_isHeld_36 N (tl_Mo_isHeld_21 N fu) (tl_Mo_isHeld_36 N (tl_Mo_isHeld_21 N fu) fu2) (nI m) (nI 10) M2 = _
          unfold tb_Mo_isHeld_36 tb_Mo_isHeld_81
          exact (if_pos (by decide)).trans <| bs (by rw [nI_1]) rfl)
        obtain ⟨M2, e2, I2⟩ := inner 9 1 N M1 (by omega) (by omega) ⟨by omega, hI⟩
        refine ⟨M2, ?_, by omega, by rw [show 9 * (m + 1 - 1) = 9 * m from by omega]; exact I2⟩
        show tb_Mo_isHeld_21 N (tl_Mo_isHeld_21 N fu) (nI m) M1 = _
        unfold tb_Mo_isHeld_21
        exact (if_neg h10).trans <| bs rfl <| (if_pos h1).trans e2
      · refine Or.inr ?_
        obtain ⟨M', e, r⟩ := hfin M1 ⟨hI.1, Or.inr ⟨h1, h2, h3⟩⟩
        refine ⟨M', ?_, r⟩
        show tb_Mo_isHeld_21 N (tl_Mo_isHeld_21 N fu) (nI m) M1 = _
        unfold tb_Mo_isHeld_21
        exact (if_neg h10).trans <| bs rfl <| (if_neg (by rw [h1]; exact nI_ne0 (by omega) (by omega))).trans e) (by
      intro fu M1 hI
      obtain ⟨M', e, r⟩ := hfin M1 hI.2
      refine ⟨M', ?_, r⟩
      show tb_Mo_isHeld_21 N (tl_Mo_isHeld_21 N fu) (nI 10) M1 = _
      unfold tb_Mo_isHeld_21
      exact (if_pos (by decide)).trans e)
    obtain ⟨M', e, kk, hm⟩ := main 9 1 N (ms_set_foundM M 0) (by omega) (by omega) ⟨by omega, KM.s_foundM.mo (by decide), Or.inl ⟨ms_g_foundM_foundM _ _, fun t ht => by omega⟩⟩
    refine ⟨M', ?_, kk, fun _ => hm⟩
    unfold t_Mo_isHeld
    exact (if_pos (by decide)).trans <| bs rfl e
  · obtain ⟨M', e, x⟩ := m_isAlways (N := N) (m1 := 0) (n1 := 0) hN h hk hv hp (by decide) (by decide)
    refine ⟨M', ?_, x.km.mo (by decide), fun z => absurd z hk8⟩
    unfold t_Mo_isHeld hld alk
    rw [if_pos (show k < 8 by omega)]
    exact (if_neg (nI_ge (a := k) (b := 8) (by omega) (by decide))).trans <| bs e <| bs (bI_tz _) rfl
end HLD
