/-! the model's walk, loop by loop -/
def Wa (n a c d e : Nat) : List Nat := fm (fun x => fm (fun y => [w6 a c d e x y]) (x + 1) n) (e + 1) n
def Wm (k n a c d : Nat) : List Nat := fm (fun e => if k = 7 then (if c < d then Wa n a c d e else []) else [w6 a c d e 0 0]) 0 n
def Wt (k n a c : Nat) : List Nat := fm (fun d => if npk k = 3 then [w6 a c d 0 0 0] else Wm k n a c d) 0 n
def Ew (k n : Nat) : List Nat := fm (fun a => fm (fun c => if k = 0 then [w6 a c 0 0 0 0] else if k = 6 ∨ a < c then Wt k n a c else []) 0 n) 0 n
theorem Vz_nil {f : Nat} {b : Nat → Bool} {X Y : Nat → Nat → Int} {k : Nat} : Vz f b X Y k [] = [] := rfl
section WLK
variable {N : Nat} {M0 : MS} {f n : Nat} {b : Nat → Bool} {X Y : Nat → Nat → Int} {want : Int32}
theorem m_walkArea {a c d e : Nat} {M1 : MS} {L : List Nat} (hN : 25 ≤ N) (hd : MD M0 f n b X Y) (hs : ∀ a c, a < n → c < n → ms_same M0 (10 * a + c) = bI (sam f b X Y a c)) (hm : ms_many M0 = nI n) (ha : a < n) (hc : c < n) (hd2 : d < n) (he : e < n) (hI : VI M0 want L M1) : ∃ M2, t_Mo_walkArea N (nI a) (nI c) (nI d) (nI e) M1 = some M2 ∧ VI M0 want (L ++ Vz f b X Y 7 (Wa n a c d e)) M2 := by
  have hn := hd.2.1
  have hpt : ∀ {L : List Nat} {M2 : MS}, VI M0 want L M2 → ms_many M2 = nI n := fun h => by rw [h.1.many (by decide), hm]
  have lev1 := fm_loop (Lp := fun fu p s => tl_Mo_walkArea_6 N fu (nI a) (nI c) (nI d) (nI e) (nI p) s) (K := some) (n := n) (I := fun L s => VI M0 want L s) (g := fun x => Vz f b X Y 7 (fm (fun y => [w6 a c d e x y]) (x + 1) n)) 20 (e + 1) (by omega) (by
    intro fu1 x s1 L1 hlo1 hx I1
    have lev2 := fm_loop (Lp := fun fu p s => tl_Mo_walkArea_21 N (tl_Mo_walkArea_6 N fu1) fu (nI a) (nI c) (nI d) (nI e) (nI x) (nI p) s) (K := fun s => tl_Mo_walkArea_6 N fu1 (nI a) (nI c) (nI d) (nI e) (nI (x + 1)) s) (n := n) (I := fun L s => VI M0 want L s) (g := fun y => Vz f b X Y 7 [w6 a c d e x y]) 20 (x + 1) (by omega) (by
      intro fu2 y s2 L2 hlo2 hy I2
      obtain ⟨m1, m2, e1, e2, I3⟩ := m_setVisit (N := N) (k := 7) (a := a) (c := c) (d := d) (e := e) (x := x) (y := y) hN hd hs (by decide) (by omega) (by omega) (by omega) (by omega) (by omega) (by omega) (by
        intro j hj
        have hj6 : j < 6 := hj
        match j, hj6 with
        | 0, _ => rw [rk_0 (by omega)]; exact ha
        | 1, _ => rw [rk_1 (by omega) (by omega)]; exact hc
        | 2, _ => rw [rk_2 (by omega) (by omega) (by omega)]; exact hd2
        | 3, _ => rw [rk_3 (by omega) (by omega) (by omega) (by omega)]; exact he
        | 4, _ => rw [rk_4 (by omega) (by omega) (by omega) (by omega) (by omega)]; exact hx
        | 5, _ => rw [rk_5 (by omega) (by omega) (by omega) (by omega) (by omega) (by omega)]; exact hy
        | j + 6, h => omega) I2
      refine ⟨m2, ?_, I3⟩
      show tb_Mo_walkArea_21 N (tl_Mo_walkArea_6 N fu1) (tl_Mo_walkArea_21 N (tl_Mo_walkArea_6 N fu1) fu2) (nI a) (nI c) (nI d) (nI e) (nI x) (nI y) s2 = _
      unfold tb_Mo_walkArea_21
      exact bs rfl <| (if_neg (by rw [hpt I2]; exact nI_ge hy (by omega))).trans <| bs e1 <| bs e2 <| bs (by rw [nI_1]) rfl) (by
      intro fu2 p s2 L2 hp hp20 I2
      show tb_Mo_walkArea_21 N (tl_Mo_walkArea_6 N fu1) (tl_Mo_walkArea_21 N (tl_Mo_walkArea_6 N fu1) fu2) (nI a) (nI c) (nI d) (nI e) (nI x) (nI p) s2 = _
      unfold tb_Mo_walkArea_21
      exact bs rfl <| (if_pos (by rw [hpt I2]; exact nI_le hp (by omega))).trans <| bs (by rw [nI_1]) rfl)
    obtain ⟨t1, e1, J1⟩ := lev2 (n - (x + 1)) (x + 1) N s1 L1 rfl (Nat.le_refl _) (by omega) (by omega) I1
    refine ⟨t1, ?_, by rw [Vz_fm]; exact J1⟩
    show tb_Mo_walkArea_6 N (tl_Mo_walkArea_6 N fu1) (nI a) (nI c) (nI d) (nI e) (nI x) s1 = _
    unfold tb_Mo_walkArea_6
    exact bs rfl <| (if_neg (by rw [hpt I1]; exact nI_ge hx (by omega))).trans <| bs (by rw [nI_1]) e1) (by
    intro fu1 p s1 L1 hp hp20 I1
    show tb_Mo_walkArea_6 N (tl_Mo_walkArea_6 N fu1) (nI a) (nI c) (nI d) (nI e) (nI p) s1 = _
    unfold tb_Mo_walkArea_6
    exact bs rfl <| if_pos (by rw [hpt I1]; exact nI_le hp (by omega)))
  obtain ⟨M2, e2, I2⟩ := lev1 (n - (e + 1)) (e + 1) N M1 L rfl (Nat.le_refl _) (by omega) (by omega) hI
  refine ⟨M2, bs (by rw [nI_1]) e2, ?_⟩
  unfold Wa
  rw [Vz_fm]
  exact I2
theorem m_walkMore {k a c d : Nat} {M1 : MS} {L : List Nat} (hN : 25 ≤ N) (hd : MD M0 f n b X Y) (hs : ∀ a c, a < n → c < n → ms_same M0 (10 * a + c) = bI (sam f b X Y a c)) (hm : ms_many M0 = nI n) (hk : k < 9) (h4 : k ≠ 7 → npk k ≤ 4) (ha : a < n) (hc : c < n) (hd2 : d < n) (hI : VI M0 want L M1) : ∃ M2, t_Mo_walkMore N (nI k) (nI a) (nI c) (nI d) M1 = some M2 ∧ VI M0 want (L ++ Vz f b X Y k (Wm k n a c d)) M2 := by
  have hn := hd.2.1
  have hpt : ∀ {L : List Nat} {M2 : MS}, VI M0 want L M2 → ms_many M2 = nI n := fun h => by rw [h.1.many (by decide), hm]
  have lev1 := fm_loop (Lp := fun fu p s => tl_Mo_walkMore_3 N fu (nI k) (nI a) (nI c) (nI d) (nI p) s) (K := some) (n := n) (I := fun L s => VI M0 want L s) (g := fun e => Vz f b X Y k (if k = 7 then (if c < d then Wa n a c d e else []) else [w6 a c d e 0 0])) 20 0 (by omega) (by
    intro fu1 e s1 L1 hlo1 he I1
    have hle : ¬ ms_many s1 ≤ nI e := by rw [hpt I1]; exact nI_ge he (by omega)
    have nx : some (nI e + 1) = some (nI (e + 1)) := by rw [nI_1]
    show ∃ s', tb_Mo_walkMore_3 N (tl_Mo_walkMore_3 N fu1) (nI k) (nI a) (nI c) (nI d) (nI e) s1 = _ ∧ _
    unfold tb_Mo_walkMore_3 tb_Mo_walkMore_54
    by_cases h7 : k = 7
    · subst h7
      rw [if_pos rfl]
      by_cases hcd : c < d
      · rw [if_pos hcd]
        obtain ⟨m2, e2, I2⟩ := m_walkArea (N := N) hN hd hs hm ha hc hd2 he I1
        exact ⟨m2, bs rfl <| (if_neg hle).trans <| (if_pos rfl).trans <| (if_neg (nI_ge hcd (by omega))).trans <| bs e2 <| bs nx rfl, I2⟩
      · rw [if_neg hcd, Vz_nil, List.append_nil]
        exact ⟨s1, bs rfl <| (if_neg hle).trans <| (if_pos rfl).trans <| (if_pos (nI_le (by omega) (by omega))).trans <| bs nx rfl, I1⟩
    · rw [if_neg h7]
      obtain ⟨m1, m2, e1, e2, I2⟩ := m_setVisit (N := N) (k := k) (a := a) (c := c) (d := d) (e := e) (x := 0) (y := 0) hN hd hs hk (by omega) (by omega) (by omega) (by omega) (by omega) (by omega) (fun j hj => w4_j hn ha hc hd2 he j (by have := h4 h7; omega)) I1
      exact ⟨m2, bs rfl <| (if_neg hle).trans <| (if_neg (fun z => h7 ((nI_eq (a := k) (b := 7) (by omega) (by decide)).mp z))).trans <| bs e1 <| bs e2 <| bs nx rfl, I2⟩) (by
    intro fu1 p s1 L1 hp hp20 I1
    show tb_Mo_walkMore_3 N (tl_Mo_walkMore_3 N fu1) (nI k) (nI a) (nI c) (nI d) (nI p) s1 = _
    unfold tb_Mo_walkMore_3
    exact bs rfl <| if_pos (by rw [hpt I1]; exact nI_le hp (by omega)))
  obtain ⟨M2, e2, I2⟩ := lev1 (n - 0) 0 N M1 L rfl (Nat.le_refl _) (by omega) (by omega) hI
  refine ⟨M2, e2, ?_⟩
  unfold Wm
  rw [Vz_fm]
  exact I2
theorem m_walkThird {k a c : Nat} {M1 : MS} {L : List Nat} (hN : 25 ≤ N) (hd : MD M0 f n b X Y) (hs : ∀ a c, a < n → c < n → ms_same M0 (10 * a + c) = bI (sam f b X Y a c)) (hm : ms_many M0 = nI n) (hk : k < 9) (h4 : k ≠ 7 → npk k ≤ 4) (ha : a < n) (hc : c < n) (hI : VI M0 want L M1) : ∃ M2, t_Mo_walkThird N (nI k) (nI a) (nI c) M1 = some M2 ∧ VI M0 want (L ++ Vz f b X Y k (Wt k n a c)) M2 := by
  have hn := hd.2.1
  have hnp := npk_le k hk
  have hpt : ∀ {L : List Nat} {M2 : MS}, VI M0 want L M2 → ms_many M2 = nI n := fun h => by rw [h.1.many (by decide), hm]
  have lev1 := fm_loop (Lp := fun fu p s => tl_Mo_walkThird_3 N fu (nI k) (nI a) (nI c) (nI p) s) (K := some) (n := n) (I := fun L s => VI M0 want L s) (g := fun d => Vz f b X Y k (if npk k = 3 then [w6 a c d 0 0 0] else Wm k n a c d)) 20 0 (by omega) (by
    intro fu1 d s1 L1 hlo1 hd2 I1
    have hle : ¬ ms_many s1 ≤ nI d := by rw [hpt I1]; exact nI_ge hd2 (by omega)
    have nx : some (nI d + 1) = some (nI (d + 1)) := by rw [nI_1]
    show ∃ s', tb_Mo_walkThird_3 N (tl_Mo_walkThird_3 N fu1) (nI k) (nI a) (nI c) (nI d) s1 = _ ∧ _
    unfold tb_Mo_walkThird_3 tb_Mo_walkThird_48
    by_cases h3 : npk k = 3
    · rw [if_pos h3]
      obtain ⟨m1, m2, e1, e2, I2⟩ := m_setVisit (N := N) (k := k) (a := a) (c := c) (d := d) (e := 0) (x := 0) (y := 0) hN hd hs hk (by omega) (by omega) (by omega) (by omega) (by omega) (by omega) (fun j hj => w3_j hn ha hc hd2 j (by omega)) I1
      exact ⟨m2, bs rfl <| (if_neg hle).trans <| bs (m_size hk) <| (if_pos (by rw [h3]; rfl)).trans <| bs e1 <| bs e2 <| bs nx rfl, I2⟩
    · rw [if_neg h3]
      obtain ⟨m2, e2, I2⟩ := m_walkMore (N := N) hN hd hs hm hk h4 ha hc hd2 I1
      exact ⟨m2, bs rfl <| (if_neg hle).trans <| bs (m_size hk) <| (if_neg (fun z => h3 ((nI_eq (a := npk k) (b := 3) (by omega) (by decide)).mp z))).trans <| bs e2 <| bs nx rfl, I2⟩) (by
    intro fu1 p s1 L1 hp hp20 I1
    show tb_Mo_walkThird_3 N (tl_Mo_walkThird_3 N fu1) (nI k) (nI a) (nI c) (nI p) s1 = _
    unfold tb_Mo_walkThird_3
    exact bs rfl <| if_pos (by rw [hpt I1]; exact nI_le hp (by omega)))
  obtain ⟨M2, e2, I2⟩ := lev1 (n - 0) 0 N M1 L rfl (Nat.le_refl _) (by omega) (by omega) hI
  refine ⟨M2, e2, ?_⟩
  unfold Wt
  rw [Vz_fm]
  exact I2
theorem m_walkLoop {k : Nat} {M1 : MS} {L : List Nat} (hN : 25 ≤ N) (hd : MD M0 f n b X Y) (hs : ∀ a c, a < n → c < n → ms_same M0 (10 * a + c) = bI (sam f b X Y a c)) (hm : ms_many M0 = nI n) (hk : k < 9) (hI : VI M0 want L M1) : ∃ M2, tl_Mo_walk_21 N N (nI k) 0 M1 = some M2 ∧ VI M0 want (L ++ Vz f b X Y k (Ew k n)) M2 := by
  have hn := hd.2.1
  have hpt : ∀ {L : List Nat} {M2 : MS}, VI M0 want L M2 → ms_many M2 = nI n := fun h => by rw [h.1.many (by decide), hm]
  have h4 : k ≠ 7 → npk k ≤ 4 := by
    intro h
    match k, hk, h with
    | 0, _, _ => decide
    | 1, _, _ => decide
    | 2, _, _ => decide
    | 3, _, _ => decide
    | 4, _, _ => decide
    | 5, _, _ => decide
    | 6, _, _ => decide
    | 7, _, h => exact absurd rfl h
    | 8, _, _ => decide
    | k + 9, h, _ => exact absurd h (by omega)
  have lev1 := fm_loop (Lp := fun fu p s => tl_Mo_walk_21 N fu (nI k) (nI p) s) (K := some) (n := n) (I := fun L s => VI M0 want L s) (g := fun a => Vz f b X Y k (fm (fun c => if k = 0 then [w6 a c 0 0 0 0] else if k = 6 ∨ a < c then Wt k n a c else []) 0 n)) 20 0 (by omega) (by
    intro fu1 a s1 L1 hlo1 ha I1
    have lev2 := fm_loop (Lp := fun fu p s => tl_Mo_walk_32 N (tl_Mo_walk_21 N fu1) fu (nI k) (nI a) (nI p) s) (K := fun s => tl_Mo_walk_21 N fu1 (nI k) (nI (a + 1)) s) (n := n) (I := fun L s => VI M0 want L s) (g := fun c => Vz f b X Y k (if k = 0 then [w6 a c 0 0 0 0] else if k = 6 ∨ a < c then Wt k n a c else [])) 20 0 (by omega) (by
      intro fu2 c s2 L2 hlo2 hc I2
      have hle : ¬ ms_many s2 ≤ nI c := by rw [hpt I2]; exact nI_ge hc (by omega)
      have nx : some (nI c + 1) = some (nI (c + 1)) := by rw [nI_1]
      show ∃ s', tb_Mo_walk_32 N (tl_Mo_walk_21 N fu1) (tl_Mo_walk_32 N (tl_Mo_walk_21 N fu1) fu2) (nI k) (nI a) (nI c) s2 = _ ∧ _
      unfold tb_Mo_walk_32 tb_Mo_walk_76 tb_Mo_walk_84
      by_cases h0 : k = 0
      · subst h0
        rw [if_pos rfl]
        obtain ⟨m1, m2, e1, e2, I3⟩ := m_setVisit (N := N) (k := 0) (a := a) (c := c) (d := 0) (e := 0) (x := 0) (y := 0) hN hd hs hk (by omega) (by omega) (by omega) (by omega) (by omega) (by omega) (by
          intro j hj
          have hj2 : j < 2 := hj
          match j, hj2 with
          | 0, _ => rw [rk_0 (by omega)]; exact ha
          | 1, _ => rw [rk_1 (by omega) (by omega)]; exact hc
          | j + 2, h => omega) I2
        exact ⟨m2, bs rfl <| (if_neg hle).trans <| (if_pos rfl).trans <| bs e1 <| bs e2 <| bs nx rfl, I3⟩
      · have h0n : ¬ nI k = 0 := nI_ne0 (by omega) (by omega)
        rw [if_neg h0]
        by_cases h6 : k = 6
        · rw [if_pos (Or.inl h6)]
          obtain ⟨m2, e2, I3⟩ := m_walkThird (N := N) hN hd hs hm hk h4 ha hc I2
          exact ⟨m2, bs rfl <| (if_neg hle).trans <| (if_neg h0n).trans <| (if_pos (by rw [h6]; rfl)).trans <| bs e2 <| bs nx rfl, I3⟩
        · have h6n : ¬ nI k = 6 := fun z => h6 ((nI_eq (a := k) (b := 6) (by omega) (by decide)).mp z)
          by_cases hac : a < c
          · rw [if_pos (Or.inr hac)]
            obtain ⟨m2, e2, I3⟩ := m_walkThird (N := N) hN hd hs hm hk h4 ha hc I2
            exact ⟨m2, bs rfl <| (if_neg hle).trans <| (if_neg h0n).trans <| (if_neg h6n).trans <| (if_neg (nI_ge hac (by omega))).trans <| bs e2 <| bs nx rfl, I3⟩
          · rw [if_neg (show ¬ (k = 6 ∨ a < c) by omega), Vz_nil, List.append_nil]
            exact ⟨s2, bs rfl <| (if_neg hle).trans <| (if_neg h0n).trans <| (if_neg h6n).trans <| (if_pos (nI_le (by omega) (by omega))).trans <| bs nx rfl, I2⟩) (by
      intro fu2 p s2 L2 hp hp20 I2
      show tb_Mo_walk_32 N (tl_Mo_walk_21 N fu1) (tl_Mo_walk_32 N (tl_Mo_walk_21 N fu1) fu2) (nI k) (nI a) (nI p) s2 = _
      unfold tb_Mo_walk_32
      exact bs rfl <| (if_pos (by rw [hpt I2]; exact nI_le hp (by omega))).trans <| bs (by rw [nI_1]) rfl)
    obtain ⟨t1, e1, J1⟩ := lev2 (n - 0) 0 N s1 L1 rfl (Nat.le_refl _) (by omega) (by omega) I1
    refine ⟨t1, ?_, by rw [Vz_fm]; exact J1⟩
    show tb_Mo_walk_21 N (tl_Mo_walk_21 N fu1) (nI k) (nI a) s1 = _
    unfold tb_Mo_walk_21
    exact bs rfl <| (if_neg (by rw [hpt I1]; exact nI_ge ha (by omega))).trans e1) (by
    intro fu1 p s1 L1 hp hp20 I1
    show tb_Mo_walk_21 N (tl_Mo_walk_21 N fu1) (nI k) (nI p) s1 = _
    unfold tb_Mo_walk_21
    exact bs rfl <| if_pos (by rw [hpt I1]; exact nI_le hp (by omega)))
  obtain ⟨M2, e2, I2⟩ := lev1 (n - 0) 0 N M1 L rfl (Nat.le_refl _) (by omega) (by omega) hI
  refine ⟨M2, e2, ?_⟩
  unfold Ew
  rw [Vz_fm]
  exact I2
/-- what a walk leaves: L the facts told -/
def WR (want : Int32) (L : List Nat) (M1 : MS) : Prop := ms_seen M1 = nI L.length ∧ ((ms_isFound M1 = 0 ∧ ∀ i, i < L.length → nI i ≠ want) ∨ (ms_isFound M1 = 1 ∧ ∃ i, i < L.length ∧ nI i = want ∧ (∀ j, j < 6 → ms_found M1 j = nI (rk (L.getD i 0) j))))
theorem m_walk {M : MS} {k : Nat} (hN : 25 ≤ N) (hd : MD M f n b X Y) (hm : ms_many M = nI n) (hk : k < 9) : ∃ M2, t_Mo_walk N (nI k) want M = some M2 ∧ KM [8, 13, 14, 15, 16, 17, 18, 19, 20] M M2 ∧ WR want (Vz f b X Y k (Ew k n)) M2 := by
  obtain ⟨M1, e1, k1, s1⟩ := m_findSame (N := N) hN hd hm
  generalize hM2 : ms_set_seen M1 0 = M2
  have k2 : KM [17] M1 M2 := by rw [← hM2]; exact KM.s_seen
  generalize hM3 : ms_set_wanted M2 want = M3
  have k3 : KM [18] M2 M3 := by rw [← hM3]; exact KM.s_wanted
  generalize hM4 : ms_set_isFound M3 0 = M4
  have k4 : KM [20] M3 M4 := by rw [← hM4]; exact KM.s_isFound
  have k14 : KM [17, 18, 20] M1 M4 := ((k2.mo (by decide)).tr (k3.mo (by decide))).tr (k4.mo (by decide))
  have k04 : KM [8, 13, 16, 17, 18, 20] M M4 := (k1.mo (by decide)).tr (k14.mo (by decide))
  have I0 : VI M4 want [] M4 := by
    refine ⟨KM.rf, ?_, ?_, Or.inl ⟨?_, fun i hi => by cases hi⟩⟩
    · rw [k4.seen (by decide), k3.seen (by decide), ← hM2, ms_g_seen_seen]; rfl
    · rw [k4.wanted (by decide), ← hM3, ms_g_wanted_wanted]
    · rw [← hM4, ms_g_isFound_isFound]
  obtain ⟨M5, e5, I5⟩ := m_walkLoop (N := N) (M0 := M4) (want := want) hN (k04.md (by decide) hd) (fun a c ha hc => by rw [k14.same (by decide)]; exact s1 a c ha hc) (by rw [k04.many (by decide)]; exact hm) hk I0
  refine ⟨M5, bs e1 <| bs (congrArg some hM2) <| bs (congrArg some hM3) <| bs tz_0 <| bs (congrArg some hM4) e5, (k04.mo (by decide)).tr (I5.1.mo (by decide)), ?_⟩
  rw [List.nil_append] at I5
  refine ⟨I5.2.1, ?_⟩
  rcases I5.2.2.2 with h | ⟨h1, i, h2, h3, h4, _⟩
  · exact Or.inl h
  · exact Or.inr ⟨h1, i, h2, h3, h4⟩
end WLK
