/-! the class's lists, by their loops -/
def E0 (n : Nat) : List Nat := fm (fun a => fm (fun c => [w6 a c 0 0 0 0]) (a + 1) n) 0 n
def E1 (n : Nat) : List Nat := fm (fun a => fm (fun c => fm (fun d => [w6 a c d 0 0 0]) (c + 1) n) (a + 1) n) 0 n
def E5 (n : Nat) : List Nat := fm (fun a => fm (fun c => fm (fun d => fm (fun e => [w6 a c d e 0 0]) (d + 1) n) (c + 1) n) (a + 1) n) 0 n
def E6 (n : Nat) : List Nat := fm (fun a => fm (fun c => fm (fun d => if a = c ∨ a = d then [] else [w6 a c d 0 0 0]) (c + 1) n) 0 n) 0 n
def E2 (k n : Nat) : List Nat := fm (fun a => fm (fun c => fm (fun d => fm (fun e => if k = 2 ∧ (a = d ∨ a = e ∨ c = d ∨ c = e) then [] else [w6 a c d e 0 0]) (if d = a then c + 1 else d + 1) n) a n) (a + 1) n) 0 n
theorem w3_j {n a b c : Nat} (hn : n ≤ 10) (ha : a < n) (hb : b < n) (hc : c < n) : ∀ j, j < 3 → rk (w6 a b c 0 0 0) j < n := by
  intro j hj
  match j, hj with
  | 0, _ => rw [rk_0 (by omega)]; exact ha
  | 1, _ => rw [rk_1 (by omega) (by omega)]; exact hb
  | 2, _ => rw [rk_2 (by omega) (by omega) (by omega)]; exact hc
  | j + 3, h => omega
theorem w4_j {n a b c d : Nat} (hn : n ≤ 10) (ha : a < n) (hb : b < n) (hc : c < n) (hd : d < n) : ∀ j, j < 4 → rk (w6 a b c d 0 0) j < n := by
  intro j hj
  match j, hj with
  | 0, _ => rw [rk_0 (by omega)]; exact ha
  | 1, _ => rw [rk_1 (by omega) (by omega)]; exact hb
  | 2, _ => rw [rk_2 (by omega) (by omega) (by omega)]; exact hc
  | 3, _ => rw [rk_3 (by omega) (by omega) (by omega) (by omega)]; exact hd
  | j + 4, h => omega
theorem p_four {N a b c d : Nat} (ha : a < 16) (hb : b < 16) (hc : c < 16) (hd : d < 16) : t_FF_join N (nI (w6 a b c 0 0 0)) (nI d) = some (nI (w6 a b c d 0 0)) := by
  have e := p_join (N := N) (x := w6 a b c 0 0 0) (y := d) (by unfold w6; omega) (by omega)
  have h : w6 a b c 0 0 0 + d * 4096 = w6 a b c d 0 0 := by unfold w6; omega
  rw [h] at e
  exact e
theorem same_hld {f : Nat} {b : Nat → Bool} {X Y : Nat → Nat → Int} {a c : Nat} (ha : a < 16) (hc : c < 16) (hne : a ≠ c) : hld f b X Y 0 (rk (w6 a c 0 0 0 0)) = sam f b X Y a c := by
  rw [sam_ne hne]
  unfold hld alk sme
  rw [if_pos (by decide)]
  have : (fun g => sho (X g) (Y g) 0 (rk (w6 a c 0 0 0 0)) 0 0) = fun g => decide (X g a = X g c ∧ Y g a = Y g c) := by
    funext g
    show decide (_ ∧ _) = _
    rw [rk_0 ha, rk_1 ha hc]
  rw [this]
section LST
variable {N : Nat} {S : CS} {f n : Nat} {b : Nat → Bool} {X Y : Nat → Nat → Int}
theorem l_pairs (hN : 25 ≤ N) (hd : CD S 0 f n b X Y) (hpt : cs_pts S = nI n) (hl : ∀ p, p < n → cs_leads S p = nI (led f b X Y p)) (hB : BI S 0 [] S) : ∃ S', t_Fs_listPairs N S = some S' ∧ BI S 0 (fm (fun a => fm (fun c => [w6 a c 0 0 0 0].filter (fun w => hld f b X Y 0 (rk w))) (a + 1) n) 0 n) S' := by
  have hn := hd.2.1
  have lev1 := fm_loop (Lp := fun fu p s => tl_Fs_listPairs_2 N fu (nI p) s) (K := some) (n := n) (I := fun L s => BI S 0 L s) (g := fun a => fm (fun c => [w6 a c 0 0 0 0].filter (fun w => hld f b X Y 0 (rk w))) (a + 1) n) 20 (0) (by omega) (by
    intro fu1 a s1 L1 hlo1 ha hI1
    have hpt1 : cs_pts s1 = nI n := by rw [hI1.1.pts (by decide), hpt]
    have hle1 : ¬ cs_pts s1 ≤ nI a := by rw [hpt1]; exact nI_ge ha (by omega)
    have nx1 : some (nI a + 1) = some (nI (a + 1)) := by rw [nI_1]
    have lev2 := fm_loop (Lp := fun fu p s => tl_Fs_listPairs_14 N (tl_Fs_listPairs_2 N fu1) fu (nI a) (nI p) s) (K := (fun s => tl_Fs_listPairs_2 N fu1 (nI (a + 1)) s)) (n := n) (I := fun L s => BI S 0 L s) (g := fun c => [w6 a c 0 0 0 0].filter (fun w => hld f b X Y 0 (rk w))) 20 (a + 1) (by omega) (by
      intro fu2 c s2 L2 hlo2 hc hI2
      have hpt2 : cs_pts s2 = nI n := by rw [hI2.1.pts (by decide), hpt]
      have hle2 : ¬ cs_pts s2 ≤ nI c := by rw [hpt2]; exact nI_ge hc (by omega)
      have nx2 : some (nI c + 1) = some (nI (c + 1)) := by rw [nI_1]
      refine ?_
      have hsh := same_hld (f := f) (b := b) (X := X) (Y := Y) (a := a) (c := c) (by omega) (by omega) (by omega)
      have la : cs_leads s2 a = nI (led f b X Y a) := by rw [hI2.1.leads (by decide)]; exact hl a ha
      have lc : cs_leads s2 c = nI (led f b X Y c) := by rw [hI2.1.leads (by decide)]; exact hl c hc
      have ta1 : ta 16 (cs_leads s2) (nI a) = some (nI (led f b X Y a)) := (ta_n (by omega) (by decide)).trans (congrArg some la)
      have ta2 : ta 16 (cs_leads s2) (nI c) = some (nI (led f b X Y c)) := (ta_n (by omega) (by decide)).trans (congrArg some lc)
      have l1 := led_le (f := f) (b := b) (X := X) (Y := Y) (p := a)
      have l2 := led_le (f := f) (b := b) (X := X) (Y := Y) (p := c)
      by_cases hs : sam f b X Y a c = true
      · obtain ⟨S2, e3, l3, k3, j3⟩ := p_add (N := N) (w := w6 a c 0 0 0 0) hI2.2.2.2
        refine ⟨S2, ?_, ?_⟩
        · show tb_Fs_listPairs_14 N (tl_Fs_listPairs_2 N fu1) (tl_Fs_listPairs_14 N (tl_Fs_listPairs_2 N fu1) fu2) (nI a) (nI c) s2 = _
          unfold tb_Fs_listPairs_14 tb_Fs_listPairs_52
          exact bs rfl <| (if_neg hle2).trans <| bs ta1 <| bs ta2 <| (if_pos (by rw [led_eq.mpr hs])).trans <| bs (ta_n (p := 0) (by decide) (by decide)) <| bs (p_pack (c := 0) (by omega) (by omega) (by omega)) <| bs e3 <| bs nx2 rfl
        · rw [List.filter_cons_of_pos (by rw [hsh]; exact hs), List.filter_nil]
          exact hI2.add (k3.mo (by decide)) (hI2.2.1.kc k3 (by decide)) j3 l3
      · refine ⟨s2, ?_, ?_⟩
        · show tb_Fs_listPairs_14 N (tl_Fs_listPairs_2 N fu1) (tl_Fs_listPairs_14 N (tl_Fs_listPairs_2 N fu1) fu2) (nI a) (nI c) s2 = _
          unfold tb_Fs_listPairs_14 tb_Fs_listPairs_52
          exact bs rfl <| (if_neg hle2).trans <| bs ta1 <| bs ta2 <| (if_neg (fun z => hs (led_eq.mp ((nI_eq (by omega) (by omega)).mp z)))).trans <| bs nx2 rfl
        · rw [List.filter_cons_of_neg (by rw [hsh]; exact hs), List.filter_nil, List.append_nil]
          exact hI2) (by
      intro fu2 p s2 L2 hp hp20 hI2
      show tb_Fs_listPairs_14 N (tl_Fs_listPairs_2 N fu1) (tl_Fs_listPairs_14 N (tl_Fs_listPairs_2 N fu1) fu2) (nI a) (nI p) s2 = _
      unfold tb_Fs_listPairs_14
      exact bs rfl <| (if_pos (by rw [hI2.1.pts (by decide), hpt]; exact nI_le hp (by omega))).trans <| bs (by rw [nI_1]) rfl)
    obtain ⟨t1, e1, J1⟩ := lev2 (n - (a + 1)) (a + 1) N s1 L1 rfl (Nat.le_refl _) (by omega) (by omega) hI1
    refine ⟨t1, ?_, J1⟩
    show tb_Fs_listPairs_2 N (tl_Fs_listPairs_2 N fu1) (nI a) s1 = _
    unfold tb_Fs_listPairs_2
    exact bs rfl <| (if_neg hle1).trans <| bs nx1 e1) (by
    intro fu1 p s1 L1 hp hp20 hI1
    show tb_Fs_listPairs_2 N (tl_Fs_listPairs_2 N fu1) (nI p) s1 = _
    unfold tb_Fs_listPairs_2
    exact bs rfl <| (if_pos (by rw [hI1.1.pts (by decide), hpt]; exact nI_le hp (by omega))))
  obtain ⟨S', e, I⟩ := lev1 (n - 0) 0 N S [] rfl (Nat.le_refl _) (by omega) (by omega) hB
  exact ⟨S', e, I⟩
theorem l_triples (hN : 25 ≤ N) (hd : CD S 0 f n b X Y) (hpt : cs_pts S = nI n) (hl : ∀ p, p < n → cs_leads S p = nI (led f b X Y p)) (hB : BI S 1 [] S) : ∃ S', t_Fs_listTriples N S = some S' ∧ BI S 1 (fm (fun a => fm (fun c => fm (fun d => [w6 a c d 0 0 0].filter (ctl f b X Y 1)) (c + 1) n) (a + 1) n) 0 n) S' := by
  have hn := hd.2.1
  have lev1 := fm_loop (Lp := fun fu p s => tl_Fs_listTriples_2 N fu (nI p) s) (K := some) (n := n) (I := fun L s => BI S 1 L s) (g := fun a => fm (fun c => fm (fun d => [w6 a c d 0 0 0].filter (ctl f b X Y 1)) (c + 1) n) (a + 1) n) 20 (0) (by omega) (by
    intro fu1 a s1 L1 hlo1 ha hI1
    have hpt1 : cs_pts s1 = nI n := by rw [hI1.1.pts (by decide), hpt]
    have hle1 : ¬ cs_pts s1 ≤ nI a := by rw [hpt1]; exact nI_ge ha (by omega)
    have nx1 : some (nI a + 1) = some (nI (a + 1)) := by rw [nI_1]
    have lev2 := fm_loop (Lp := fun fu p s => tl_Fs_listTriples_14 N (tl_Fs_listTriples_2 N fu1) fu (nI a) (nI p) s) (K := (fun s => tl_Fs_listTriples_2 N fu1 (nI (a + 1)) s)) (n := n) (I := fun L s => BI S 1 L s) (g := fun c => fm (fun d => [w6 a c d 0 0 0].filter (ctl f b X Y 1)) (c + 1) n) 20 (a + 1) (by omega) (by
      intro fu2 c s2 L2 hlo2 hc hI2
      have hpt2 : cs_pts s2 = nI n := by rw [hI2.1.pts (by decide), hpt]
      have hle2 : ¬ cs_pts s2 ≤ nI c := by rw [hpt2]; exact nI_ge hc (by omega)
      have nx2 : some (nI c + 1) = some (nI (c + 1)) := by rw [nI_1]
      have lev3 := fm_loop (Lp := fun fu p s => tl_Fs_listTriples_26 N (tl_Fs_listTriples_2 N fu1) (tl_Fs_listTriples_14 N (tl_Fs_listTriples_2 N fu1) fu2) fu (nI a) (nI c) (nI p) s) (K := (fun s => tl_Fs_listTriples_14 N (tl_Fs_listTriples_2 N fu1) fu2 (nI a) (nI (c + 1)) s)) (n := n) (I := fun L s => BI S 1 L s) (g := fun d => [w6 a c d 0 0 0].filter (ctl f b X Y 1)) 20 (c + 1) (by omega) (by
        intro fu3 d s3 L3 hlo3 hd2 hI3
        have hpt3 : cs_pts s3 = nI n := by rw [hI3.1.pts (by decide), hpt]
        have hle3 : ¬ cs_pts s3 ≤ nI d := by rw [hpt3]; exact nI_ge hd2 (by omega)
        have nx3 : some (nI d + 1) = some (nI (d + 1)) := by rw [nI_1]
        obtain ⟨S2, e3, B3⟩ := p_consider (N := N) (k := 1) (w := w6 a c d 0 0 0) hN hd hl (by decide) (by have := w6_lt (a := a) (b := c) (c := d) (d := 0) (e := 0) (f := 0) (by omega) (by omega) (by omega) (by omega) (by omega) (by omega); omega) (w3_j hn ha hc hd2) hI3
        refine ⟨S2, ?_, B3⟩
        show tb_Fs_listTriples_26 N (tl_Fs_listTriples_2 N fu1) (tl_Fs_listTriples_14 N (tl_Fs_listTriples_2 N fu1) fu2) (tl_Fs_listTriples_26 N (tl_Fs_listTriples_2 N fu1) (tl_Fs_listTriples_14 N (tl_Fs_listTriples_2 N fu1) fu2) fu3) (nI a) (nI c) (nI d) s3 = _
        unfold tb_Fs_listTriples_26
        exact bs rfl <| (if_neg hle3).trans <| bs (p_pack (by omega) (by omega) (by omega)) <| bs e3 <| bs nx3 rfl) (by
        intro fu3 p s3 L3 hp hp20 hI3
        show tb_Fs_listTriples_26 N (tl_Fs_listTriples_2 N fu1) (tl_Fs_listTriples_14 N (tl_Fs_listTriples_2 N fu1) fu2) (tl_Fs_listTriples_26 N (tl_Fs_listTriples_2 N fu1) (tl_Fs_listTriples_14 N (tl_Fs_listTriples_2 N fu1) fu2) fu3) (nI a) (nI c) (nI p) s3 = _
        unfold tb_Fs_listTriples_26
        exact bs rfl <| (if_pos (by rw [hI3.1.pts (by decide), hpt]; exact nI_le hp (by omega))).trans <| bs (by rw [nI_1]) rfl)
      obtain ⟨t2, e2, J2⟩ := lev3 (n - (c + 1)) (c + 1) N s2 L2 rfl (Nat.le_refl _) (by omega) (by omega) hI2
      refine ⟨t2, ?_, J2⟩
      show tb_Fs_listTriples_14 N (tl_Fs_listTriples_2 N fu1) (tl_Fs_listTriples_14 N (tl_Fs_listTriples_2 N fu1) fu2) (nI a) (nI c) s2 = _
      unfold tb_Fs_listTriples_14
      exact bs rfl <| (if_neg hle2).trans <| bs nx2 e2) (by
      intro fu2 p s2 L2 hp hp20 hI2
      show tb_Fs_listTriples_14 N (tl_Fs_listTriples_2 N fu1) (tl_Fs_listTriples_14 N (tl_Fs_listTriples_2 N fu1) fu2) (nI a) (nI p) s2 = _
      unfold tb_Fs_listTriples_14
      exact bs rfl <| (if_pos (by rw [hI2.1.pts (by decide), hpt]; exact nI_le hp (by omega))).trans <| bs (by rw [nI_1]) rfl)
    obtain ⟨t1, e1, J1⟩ := lev2 (n - (a + 1)) (a + 1) N s1 L1 rfl (Nat.le_refl _) (by omega) (by omega) hI1
    refine ⟨t1, ?_, J1⟩
    show tb_Fs_listTriples_2 N (tl_Fs_listTriples_2 N fu1) (nI a) s1 = _
    unfold tb_Fs_listTriples_2
    exact bs rfl <| (if_neg hle1).trans <| bs nx1 e1) (by
    intro fu1 p s1 L1 hp hp20 hI1
    show tb_Fs_listTriples_2 N (tl_Fs_listTriples_2 N fu1) (nI p) s1 = _
    unfold tb_Fs_listTriples_2
    exact bs rfl <| (if_pos (by rw [hI1.1.pts (by decide), hpt]; exact nI_le hp (by omega))))
  obtain ⟨S', e, I⟩ := lev1 (n - 0) 0 N S [] rfl (Nat.le_refl _) (by omega) (by omega) hB
  exact ⟨S', e, I⟩
theorem l_fours (hN : 25 ≤ N) (hd : CD S 0 f n b X Y) (hpt : cs_pts S = nI n) (hl : ∀ p, p < n → cs_leads S p = nI (led f b X Y p)) (hB : BI S 5 [] S) : ∃ S', t_Fs_listFours N S = some S' ∧ BI S 5 (fm (fun a => fm (fun c => fm (fun d => fm (fun e => [w6 a c d e 0 0].filter (ctl f b X Y 5)) (d + 1) n) (c + 1) n) (a + 1) n) 0 n) S' := by
  have hn := hd.2.1
  have lev1 := fm_loop (Lp := fun fu p s => tl_Fs_listFours_2 N fu (nI p) s) (K := some) (n := n) (I := fun L s => BI S 5 L s) (g := fun a => fm (fun c => fm (fun d => fm (fun e => [w6 a c d e 0 0].filter (ctl f b X Y 5)) (d + 1) n) (c + 1) n) (a + 1) n) 20 (0) (by omega) (by
    intro fu1 a s1 L1 hlo1 ha hI1
    have hpt1 : cs_pts s1 = nI n := by rw [hI1.1.pts (by decide), hpt]
    have hle1 : ¬ cs_pts s1 ≤ nI a := by rw [hpt1]; exact nI_ge ha (by omega)
    have nx1 : some (nI a + 1) = some (nI (a + 1)) := by rw [nI_1]
    have lev2 := fm_loop (Lp := fun fu p s => tl_Fs_listFours_14 N (tl_Fs_listFours_2 N fu1) fu (nI a) (nI p) s) (K := (fun s => tl_Fs_listFours_2 N fu1 (nI (a + 1)) s)) (n := n) (I := fun L s => BI S 5 L s) (g := fun c => fm (fun d => fm (fun e => [w6 a c d e 0 0].filter (ctl f b X Y 5)) (d + 1) n) (c + 1) n) 20 (a + 1) (by omega) (by
      intro fu2 c s2 L2 hlo2 hc hI2
      have hpt2 : cs_pts s2 = nI n := by rw [hI2.1.pts (by decide), hpt]
      have hle2 : ¬ cs_pts s2 ≤ nI c := by rw [hpt2]; exact nI_ge hc (by omega)
      have nx2 : some (nI c + 1) = some (nI (c + 1)) := by rw [nI_1]
      have lev3 := fm_loop (Lp := fun fu p s => tl_Fs_listFours_26 N (tl_Fs_listFours_2 N fu1) (tl_Fs_listFours_14 N (tl_Fs_listFours_2 N fu1) fu2) fu (nI a) (nI c) (nI p) s) (K := (fun s => tl_Fs_listFours_14 N (tl_Fs_listFours_2 N fu1) fu2 (nI a) (nI (c + 1)) s)) (n := n) (I := fun L s => BI S 5 L s) (g := fun d => fm (fun e => [w6 a c d e 0 0].filter (ctl f b X Y 5)) (d + 1) n) 20 (c + 1) (by omega) (by
        intro fu3 d s3 L3 hlo3 hd2 hI3
        have hpt3 : cs_pts s3 = nI n := by rw [hI3.1.pts (by decide), hpt]
        have hle3 : ¬ cs_pts s3 ≤ nI d := by rw [hpt3]; exact nI_ge hd2 (by omega)
        have nx3 : some (nI d + 1) = some (nI (d + 1)) := by rw [nI_1]
        have lev4 := fm_loop (Lp := fun fu p s => tl_Fs_listFours_39 N (tl_Fs_listFours_2 N fu1) (tl_Fs_listFours_14 N (tl_Fs_listFours_2 N fu1) fu2) (tl_Fs_listFours_26 N (tl_Fs_listFours_2 N fu1) (tl_Fs_listFours_14 N (tl_Fs_listFours_2 N fu1) fu2) fu3) fu (nI a) (nI c) (nI d) (nI p) s) (K := (fun s => tl_Fs_listFours_26 N (tl_Fs_listFours_2 N fu1) (tl_Fs_listFours_14 N (tl_Fs_listFours_2 N fu1) fu2) fu3 (nI a) (nI c) (nI (d + 1)) s)) (n := n) (I := fun L s => BI S 5 L s) (g := fun e => [w6 a c d e 0 0].filter (ctl f b X Y 5)) 20 (d + 1) (by omega) (by
          intro fu4 e s4 L4 hlo4 he hI4
          have hpt4 : cs_pts s4 = nI n := by rw [hI4.1.pts (by decide), hpt]
          have hle4 : ¬ cs_pts s4 ≤ nI e := by rw [hpt4]; exact nI_ge he (by omega)
          have nx4 : some (nI e + 1) = some (nI (e + 1)) := by rw [nI_1]
          obtain ⟨S2, e4b, B3⟩ := p_consider (N := N) (k := 5) (w := w6 a c d e 0 0) hN hd hl (by decide) (by have := w6_lt (a := a) (b := c) (c := d) (d := e) (e := 0) (f := 0) (by omega) (by omega) (by omega) (by omega) (by omega) (by omega); omega) (w4_j hn ha hc hd2 he) hI4
          refine ⟨S2, ?_, B3⟩
          show tb_Fs_listFours_39 N (tl_Fs_listFours_2 N fu1) (tl_Fs_listFours_14 N (tl_Fs_listFours_2 N fu1) fu2) (tl_Fs_listFours_26 N (tl_Fs_listFours_2 N fu1) (tl_Fs_listFours_14 N (tl_Fs_listFours_2 N fu1) fu2) fu3) (tl_Fs_listFours_39 N (tl_Fs_listFours_2 N fu1) (tl_Fs_listFours_14 N (tl_Fs_listFours_2 N fu1) fu2) (tl_Fs_listFours_26 N (tl_Fs_listFours_2 N fu1) (tl_Fs_listFours_14 N (tl_Fs_listFours_2 N fu1) fu2) fu3) fu4) (nI a) (nI c) (nI d) (nI e) s4 = _
          unfold tb_Fs_listFours_39
          exact bs rfl <| (if_neg hle4).trans <| bs (p_pack (by omega) (by omega) (by omega)) <| bs (p_four (by omega) (by omega) (by omega) (by omega)) <| bs e4b <| bs nx4 rfl) (by
          intro fu4 p s4 L4 hp hp20 hI4
          show tb_Fs_listFours_39 N (tl_Fs_listFours_2 N fu1) (tl_Fs_listFours_14 N (tl_Fs_listFours_2 N fu1) fu2) (tl_Fs_listFours_26 N (tl_Fs_listFours_2 N fu1) (tl_Fs_listFours_14 N (tl_Fs_listFours_2 N fu1) fu2) fu3) (tl_Fs_listFours_39 N (tl_Fs_listFours_2 N fu1) (tl_Fs_listFours_14 N (tl_Fs_listFours_2 N fu1) fu2) (tl_Fs_listFours_26 N (tl_Fs_listFours_2 N fu1) (tl_Fs_listFours_14 N (tl_Fs_listFours_2 N fu1) fu2) fu3) fu4) (nI a) (nI c) (nI d) (nI p) s4 = _
          unfold tb_Fs_listFours_39
          exact bs rfl <| (if_pos (by rw [hI4.1.pts (by decide), hpt]; exact nI_le hp (by omega))).trans <| bs (by rw [nI_1]) rfl)
        obtain ⟨t3, e3, J3⟩ := lev4 (n - (d + 1)) (d + 1) N s3 L3 rfl (Nat.le_refl _) (by omega) (by omega) hI3
        refine ⟨t3, ?_, J3⟩
        show tb_Fs_listFours_26 N (tl_Fs_listFours_2 N fu1) (tl_Fs_listFours_14 N (tl_Fs_listFours_2 N fu1) fu2) (tl_Fs_listFours_26 N (tl_Fs_listFours_2 N fu1) (tl_Fs_listFours_14 N (tl_Fs_listFours_2 N fu1) fu2) fu3) (nI a) (nI c) (nI d) s3 = _
        unfold tb_Fs_listFours_26
        exact bs rfl <| (if_neg hle3).trans <| bs nx3 e3) (by
        intro fu3 p s3 L3 hp hp20 hI3
        show tb_Fs_listFours_26 N (tl_Fs_listFours_2 N fu1) (tl_Fs_listFours_14 N (tl_Fs_listFours_2 N fu1) fu2) (tl_Fs_listFours_26 N (tl_Fs_listFours_2 N fu1) (tl_Fs_listFours_14 N (tl_Fs_listFours_2 N fu1) fu2) fu3) (nI a) (nI c) (nI p) s3 = _
        unfold tb_Fs_listFours_26
        exact bs rfl <| (if_pos (by rw [hI3.1.pts (by decide), hpt]; exact nI_le hp (by omega))).trans <| bs (by rw [nI_1]) rfl)
      obtain ⟨t2, e2, J2⟩ := lev3 (n - (c + 1)) (c + 1) N s2 L2 rfl (Nat.le_refl _) (by omega) (by omega) hI2
      refine ⟨t2, ?_, J2⟩
      show tb_Fs_listFours_14 N (tl_Fs_listFours_2 N fu1) (tl_Fs_listFours_14 N (tl_Fs_listFours_2 N fu1) fu2) (nI a) (nI c) s2 = _
      unfold tb_Fs_listFours_14
      exact bs rfl <| (if_neg hle2).trans <| bs nx2 e2) (by
      intro fu2 p s2 L2 hp hp20 hI2
      show tb_Fs_listFours_14 N (tl_Fs_listFours_2 N fu1) (tl_Fs_listFours_14 N (tl_Fs_listFours_2 N fu1) fu2) (nI a) (nI p) s2 = _
      unfold tb_Fs_listFours_14
      exact bs rfl <| (if_pos (by rw [hI2.1.pts (by decide), hpt]; exact nI_le hp (by omega))).trans <| bs (by rw [nI_1]) rfl)
    obtain ⟨t1, e1, J1⟩ := lev2 (n - (a + 1)) (a + 1) N s1 L1 rfl (Nat.le_refl _) (by omega) (by omega) hI1
    refine ⟨t1, ?_, J1⟩
    show tb_Fs_listFours_2 N (tl_Fs_listFours_2 N fu1) (nI a) s1 = _
    unfold tb_Fs_listFours_2
    exact bs rfl <| (if_neg hle1).trans <| bs nx1 e1) (by
    intro fu1 p s1 L1 hp hp20 hI1
    show tb_Fs_listFours_2 N (tl_Fs_listFours_2 N fu1) (nI p) s1 = _
    unfold tb_Fs_listFours_2
    exact bs rfl <| (if_pos (by rw [hI1.1.pts (by decide), hpt]; exact nI_le hp (by omega))))
  obtain ⟨S', e, I⟩ := lev1 (n - 0) 0 N S [] rfl (Nat.le_refl _) (by omega) (by omega) hB
  exact ⟨S', e, I⟩
theorem l_middles (hN : 25 ≤ N) (hd : CD S 0 f n b X Y) (hpt : cs_pts S = nI n) (hl : ∀ p, p < n → cs_leads S p = nI (led f b X Y p)) (hB : BI S 6 [] S) : ∃ S', t_Fs_listMiddles N S = some S' ∧ BI S 6 (fm (fun a => fm (fun c => fm (fun d => (if a = c ∨ a = d then [] else [w6 a c d 0 0 0]).filter (ctl f b X Y 6)) (c + 1) n) (0) n) 0 n) S' := by
  have hn := hd.2.1
  have lev1 := fm_loop (Lp := fun fu p s => tl_Fs_listMiddles_2 N fu (nI p) s) (K := some) (n := n) (I := fun L s => BI S 6 L s) (g := fun a => fm (fun c => fm (fun d => (if a = c ∨ a = d then [] else [w6 a c d 0 0 0]).filter (ctl f b X Y 6)) (c + 1) n) (0) n) 20 (0) (by omega) (by
    intro fu1 a s1 L1 hlo1 ha hI1
    have hpt1 : cs_pts s1 = nI n := by rw [hI1.1.pts (by decide), hpt]
    have hle1 : ¬ cs_pts s1 ≤ nI a := by rw [hpt1]; exact nI_ge ha (by omega)
    have nx1 : some (nI a + 1) = some (nI (a + 1)) := by rw [nI_1]
    have lev2 := fm_loop (Lp := fun fu p s => tl_Fs_listMiddles_12 N (tl_Fs_listMiddles_2 N fu1) fu (nI a) (nI p) s) (K := (fun s => tl_Fs_listMiddles_2 N fu1 (nI (a + 1)) s)) (n := n) (I := fun L s => BI S 6 L s) (g := fun c => fm (fun d => (if a = c ∨ a = d then [] else [w6 a c d 0 0 0]).filter (ctl f b X Y 6)) (c + 1) n) 20 (0) (by omega) (by
      intro fu2 c s2 L2 hlo2 hc hI2
      have hpt2 : cs_pts s2 = nI n := by rw [hI2.1.pts (by decide), hpt]
      have hle2 : ¬ cs_pts s2 ≤ nI c := by rw [hpt2]; exact nI_ge hc (by omega)
      have nx2 : some (nI c + 1) = some (nI (c + 1)) := by rw [nI_1]
      have lev3 := fm_loop (Lp := fun fu p s => tl_Fs_listMiddles_24 N (tl_Fs_listMiddles_2 N fu1) (tl_Fs_listMiddles_12 N (tl_Fs_listMiddles_2 N fu1) fu2) fu (nI a) (nI c) (nI p) s) (K := (fun s => tl_Fs_listMiddles_12 N (tl_Fs_listMiddles_2 N fu1) fu2 (nI a) (nI (c + 1)) s)) (n := n) (I := fun L s => BI S 6 L s) (g := fun d => (if a = c ∨ a = d then [] else [w6 a c d 0 0 0]).filter (ctl f b X Y 6)) 20 (c + 1) (by omega) (by
        intro fu3 d s3 L3 hlo3 hd2 hI3
        have hpt3 : cs_pts s3 = nI n := by rw [hI3.1.pts (by decide), hpt]
        have hle3 : ¬ cs_pts s3 ≤ nI d := by rw [hpt3]; exact nI_ge hd2 (by omega)
        have nx3 : some (nI d + 1) = some (nI (d + 1)) := by rw [nI_1]
        by_cases hac : a = c ∨ a = d
        · refine ⟨s3, ?_, ?_⟩
          · show tb_Fs_listMiddles_24 N (tl_Fs_listMiddles_2 N fu1) (tl_Fs_listMiddles_12 N (tl_Fs_listMiddles_2 N fu1) fu2) (tl_Fs_listMiddles_24 N (tl_Fs_listMiddles_2 N fu1) (tl_Fs_listMiddles_12 N (tl_Fs_listMiddles_2 N fu1) fu2) fu3) (nI a) (nI c) (nI d) s3 = _
            unfold tb_Fs_listMiddles_24 tb_Fs_listMiddles_54
            refine bs rfl <| (if_neg hle3).trans ?_
            by_cases h1 : a = c
            · exact (if_pos (by rw [h1])).trans <| bs nx3 rfl
            · exact (if_neg (fun z => h1 ((nI_eq (by omega) (by omega)).mp z))).trans <| (if_pos (by rw [hac.resolve_left h1])).trans <| bs nx3 rfl
          · rw [if_pos hac, List.filter_nil, List.append_nil]
            exact hI3
        · obtain ⟨S2, e3, B3⟩ := p_consider (N := N) (k := 6) (w := w6 a c d 0 0 0) hN hd hl (by decide) (by have := w6_lt (a := a) (b := c) (c := d) (d := 0) (e := 0) (f := 0) (by omega) (by omega) (by omega) (by omega) (by omega) (by omega); omega) (w3_j hn ha hc hd2) hI3
          refine ⟨S2, ?_, by rw [if_neg hac]; exact B3⟩
          show tb_Fs_listMiddles_24 N (tl_Fs_listMiddles_2 N fu1) (tl_Fs_listMiddles_12 N (tl_Fs_listMiddles_2 N fu1) fu2) (tl_Fs_listMiddles_24 N (tl_Fs_listMiddles_2 N fu1) (tl_Fs_listMiddles_12 N (tl_Fs_listMiddles_2 N fu1) fu2) fu3) (nI a) (nI c) (nI d) s3 = _
          unfold tb_Fs_listMiddles_24 tb_Fs_listMiddles_54
          exact bs rfl <| (if_neg hle3).trans <| (if_neg (fun z => hac (Or.inl ((nI_eq (by omega) (by omega)).mp z)))).trans <| (if_neg (fun z => hac (Or.inr ((nI_eq (by omega) (by omega)).mp z)))).trans <| bs (p_pack (by omega) (by omega) (by omega)) <| bs e3 <| bs nx3 rfl) (by
        intro fu3 p s3 L3 hp hp20 hI3
        show tb_Fs_listMiddles_24 N (tl_Fs_listMiddles_2 N fu1) (tl_Fs_listMiddles_12 N (tl_Fs_listMiddles_2 N fu1) fu2) (tl_Fs_listMiddles_24 N (tl_Fs_listMiddles_2 N fu1) (tl_Fs_listMiddles_12 N (tl_Fs_listMiddles_2 N fu1) fu2) fu3) (nI a) (nI c) (nI p) s3 = _
        unfold tb_Fs_listMiddles_24
        exact bs rfl <| (if_pos (by rw [hI3.1.pts (by decide), hpt]; exact nI_le hp (by omega))).trans <| bs (by rw [nI_1]) rfl)
      obtain ⟨t2, e2, J2⟩ := lev3 (n - (c + 1)) (c + 1) N s2 L2 rfl (Nat.le_refl _) (by omega) (by omega) hI2
      refine ⟨t2, ?_, J2⟩
      show tb_Fs_listMiddles_12 N (tl_Fs_listMiddles_2 N fu1) (tl_Fs_listMiddles_12 N (tl_Fs_listMiddles_2 N fu1) fu2) (nI a) (nI c) s2 = _
      unfold tb_Fs_listMiddles_12
      exact bs rfl <| (if_neg hle2).trans <| bs nx2 e2) (by
      intro fu2 p s2 L2 hp hp20 hI2
      show tb_Fs_listMiddles_12 N (tl_Fs_listMiddles_2 N fu1) (tl_Fs_listMiddles_12 N (tl_Fs_listMiddles_2 N fu1) fu2) (nI a) (nI p) s2 = _
      unfold tb_Fs_listMiddles_12
      exact bs rfl <| (if_pos (by rw [hI2.1.pts (by decide), hpt]; exact nI_le hp (by omega))).trans <| bs (by rw [nI_1]) rfl)
    obtain ⟨t1, e1, J1⟩ := lev2 (n - (0)) (0) N s1 L1 rfl (Nat.le_refl _) (by omega) (by omega) hI1
    refine ⟨t1, ?_, J1⟩
    show tb_Fs_listMiddles_2 N (tl_Fs_listMiddles_2 N fu1) (nI a) s1 = _
    unfold tb_Fs_listMiddles_2
    exact bs rfl <| (if_neg hle1).trans e1) (by
    intro fu1 p s1 L1 hp hp20 hI1
    show tb_Fs_listMiddles_2 N (tl_Fs_listMiddles_2 N fu1) (nI p) s1 = _
    unfold tb_Fs_listMiddles_2
    exact bs rfl <| (if_pos (by rw [hI1.1.pts (by decide), hpt]; exact nI_le hp (by omega))))
  obtain ⟨S', e, I⟩ := lev1 (n - 0) 0 N S [] rfl (Nat.le_refl _) (by omega) (by omega) hB
  exact ⟨S', e, I⟩
def outk (f : Nat) (b : Nat → Bool) (X Y : Nat → Nat → Int) (k w : Nat) : Nat := if k = 8 then gnm w (rat (rtQ f b X Y (rk w))) else w
theorem p_apartPairs {N a c d e : Nat} (ha : a < 16) (hc : c < 16) (hd : d < 16) (he : e < 16) : t_FF_areApartPairs N (nI a) (nI c) (nI d) (nI e) = some (bI (decide (¬ (a = d ∨ a = e ∨ c = d ∨ c = e)))) := by
  unfold t_FF_areApartPairs
  by_cases h1 : a = d
  · rw [if_pos (by rw [h1]), decide_eq_false (fun z => z (Or.inl h1))]; rfl
  · rw [if_neg (fun z => h1 ((nI_eq (by omega) (by omega)).mp z))]
    by_cases h2 : a = e
    · rw [if_pos (by rw [h2]), decide_eq_false (fun z => z (Or.inr (Or.inl h2)))]; rfl
    · rw [if_neg (fun z => h2 ((nI_eq (by omega) (by omega)).mp z))]
      by_cases h3 : c = d
      · rw [if_pos (by rw [h3]), decide_eq_false (fun z => z (Or.inr (Or.inr (Or.inl h3))))]; rfl
      · rw [if_neg (fun z => h3 ((nI_eq (by omega) (by omega)).mp z))]
        by_cases h4 : c = e
        · rw [if_pos (by rw [h4]), decide_eq_false (fun z => z (Or.inr (Or.inr (Or.inr h4))))]; rfl
        · rw [if_neg (fun z => h4 ((nI_eq (by omega) (by omega)).mp z)), decide_eq_true (by omega)]; rfl
theorem out_map {k : Nat} (h : k ≠ 8) (l : List Nat) : l.map (outk f b X Y k) = l := by
  have : outk f b X Y k = id := funext fun w => if_neg h
  rw [this, List.map_id]
theorem apt_cg {s : Nat → Nat → Bool} {v v' : Nat → Nat} {m : Nat} (h : ∀ j, j < m → v j = v' j) : apt s v m = apt s v' m := by
  unfold apt
  apply decide_eq_decide.mpr
  constructor
  · intro q i hi j hj
    rw [← h i hi, ← h j hj]
    exact q i hi j hj
  · intro q i hi j hj
    rw [h i hi, h j hj]
    exact q i hi j hj
theorem gnm_j {w k : Nat} (hk : k < 81) (j : Nat) (hj : j < 4) : rk (gnm w k) j = rk w j := by
  unfold gnm
  rw [if_pos hk]
  exact rkn_j (by omega) j hj
theorem p_ratio {a c d e : Nat} {S1 : CS} {L : List Nat} (hN : 25 ≤ N) (hd : CD S 0 f n b X Y) (hl : ∀ p, p < n → cs_leads S p = nI (led f b X Y p)) (ha : a < n) (hc : c < n) (hd2 : d < n) (he : e < n) (hB : BI S 8 L S1) : ∃ (v : Int32) (T S2 : CS), t_Dr_giveNumbers N 0 (nI (w6 a c d e 0 0)) S1 = some (v, T) ∧ ((v = 0 ∧ S2 = T) ∨ (¬ v = 0 ∧ ∃ z : Int32, t_Fs_isApart N 8 v T = some z ∧ ((z = 0 ∧ S2 = T) ∨ (¬ z = 0 ∧ t_IL_add N 8 v T = some S2)))) ∧ BI S 8 (L ++ ([w6 a c d e 0 0].filter (ctl f b X Y 8)).map (outk f b X Y 8)) S2 := by
  have hn := hd.2.1
  have hw : w6 a c d e 0 0 < 2147483648 := by have := w6_lt (a := a) (b := c) (c := d) (d := e) (e := 0) (f := 0) (by omega) (by omega) (by omega) (by omega) (by omega) (by omega); omega
  have hpj : ∀ j, j < npk 8 → rk (w6 a c d e 0 0) j < n := fun j hj => w4_j hn ha hc hd2 he j hj
  have hd1 := hB.1.cd (by decide) hd
  have hl1 : ∀ p, p < n → cs_leads S1 p = nI (led f b X Y p) := fun p hp => by rw [hB.1.leads (by decide)]; exact hl p hp
  obtain ⟨S2, e2, k2, D2⟩ := p_give (N := N) (i := 0) hN (by decide) hd1 hB.2.1 hw hpj
  have B2 : BI S 8 L S2 := hB.add (k2.mo (by decide)) D2 (fun j _ => ⟨by rw [k2.items (by decide)], by rw [k2.lsize (by decide)]⟩) ⟨by rw [k2.lsize (by decide)]; exact hB.2.2.2.1, fun i hi => by rw [k2.items (by decide)]; exact hB.2.2.2.2 i hi⟩
  have hl2 : ∀ p, p < n → cs_leads S2 p = nI (led f b X Y p) := fun p hp => by rw [k2.leads (by decide)]; exact hl1 p hp
  have hct : ctl f b X Y 8 (w6 a c d e 0 0) = (decide (rat (rtQ f b X Y (rk (w6 a c d e 0 0))) < 81) && apt (sam f b X Y) (rk (w6 a c d e 0 0)) (npk 8)) := by
    unfold ctl hld
    rw [if_neg (show ¬ (8 : Nat) < 8 by decide)]
  have fno : ¬ ctl f b X Y 8 (w6 a c d e 0 0) = true → L ++ ([w6 a c d e 0 0].filter (ctl f b X Y 8)).map (outk f b X Y 8) = L := fun h => by
    rw [List.filter_cons_of_neg h, List.filter_nil, List.map_nil, List.append_nil]
  by_cases hr : rat (rtQ f b X Y (rk (w6 a c d e 0 0))) < 81
  · have e3 := p_isApart (N := N) (k := 8) (w := gnm (w6 a c d e 0 0) (rat (rtQ f b X Y (rk (w6 a c d e 0 0))))) hN hn hl2 (by decide) (Nat.lt_trans (gnm_lt _ _) (by decide)) (fun j hj => by rw [gnm_j hr j hj]; exact hpj j hj)
    rw [apt_cg (m := npk 8) (v' := rk (w6 a c d e 0 0)) (fun j hj => gnm_j hr j hj)] at e3
    by_cases h2 : apt (sam f b X Y) (rk (w6 a c d e 0 0)) (npk 8) = true
    · obtain ⟨S3, e4, l4, k4, j4⟩ := p_add (N := N) (w := gnm (w6 a c d e 0 0) (rat (rtQ f b X Y (rk (w6 a c d e 0 0))))) B2.2.2.2
      refine ⟨_, S2, S3, e2, Or.inr ⟨fun z => (gnm_0 _ _).mp z hr, _, e3, Or.inr ⟨fun z => bI_0.mp z h2, e4⟩⟩, ?_⟩
      rw [List.filter_cons_of_pos (by rw [hct, decide_eq_true hr, h2]; rfl), List.filter_nil]
      exact B2.add (k4.mo (by decide)) (B2.2.1.kc k4 (by decide)) j4 l4
    · refine ⟨_, S2, S2, e2, Or.inr ⟨fun z => (gnm_0 _ _).mp z hr, _, e3, Or.inl ⟨bI_0.mpr h2, rfl⟩⟩, ?_⟩
      rw [fno (by rw [hct, Bool.and_eq_true]; exact fun z => h2 z.2)]
      exact B2
  · refine ⟨_, S2, S2, e2, Or.inl ⟨(gnm_0 _ _).mpr hr, rfl⟩, ?_⟩
    rw [fno (by rw [hct, Bool.and_eq_true, decide_eq_true_iff]; exact fun z => hr z.1)]
    exact B2
theorem l_two (hN : 25 ≤ N) (hd : CD S 0 f n b X Y) (hpt : cs_pts S = nI n) (hl : ∀ p, p < n → cs_leads S p = nI (led f b X Y p)) {k : Nat} (hk : k < 9 ∧ k ≠ 7 ∧ k ≠ 8) (h4 : npk k = 4) (hB : BI S k [] S) : ∃ S', t_Fs_listTwoPairs N (nI k) S = some S' ∧ BI S k (fm (fun a => fm (fun c => fm (fun d => fm (fun e => ((if k = 2 ∧ (a = d ∨ a = e ∨ c = d ∨ c = e) then [] else [w6 a c d e 0 0]).filter (ctl f b X Y k)).map (outk f b X Y k)) (if d = a then c + 1 else d + 1) n) (a) n) (a + 1) n) 0 n) S' := by
  have hn := hd.2.1
  have lev1 := fm_loop (Lp := fun fu p s => tl_Fs_listTwoPairs_2 N fu (nI k) (nI p) s) (K := some) (n := n) (I := fun L s => BI S k L s) (g := fun a => fm (fun c => fm (fun d => fm (fun e => ((if k = 2 ∧ (a = d ∨ a = e ∨ c = d ∨ c = e) then [] else [w6 a c d e 0 0]).filter (ctl f b X Y k)).map (outk f b X Y k)) (if d = a then c + 1 else d + 1) n) (a) n) (a + 1) n) 20 (0) (by omega) (by
    intro fu1 a s1 L1 hlo1 ha hI1
    have hpt1 : cs_pts s1 = nI n := by rw [hI1.1.pts (by decide), hpt]
    have hle1 : ¬ cs_pts s1 ≤ nI a := by rw [hpt1]; exact nI_ge ha (by omega)
    have nx1 : some (nI a + 1) = some (nI (a + 1)) := by rw [nI_1]
    have lev2 := fm_loop (Lp := fun fu p s => tl_Fs_listTwoPairs_14 N (tl_Fs_listTwoPairs_2 N fu1) fu (nI k) (nI a) (nI p) s) (K := (fun s => tl_Fs_listTwoPairs_2 N fu1 (nI k) (nI (a + 1)) s)) (n := n) (I := fun L s => BI S k L s) (g := fun c => fm (fun d => fm (fun e => ((if k = 2 ∧ (a = d ∨ a = e ∨ c = d ∨ c = e) then [] else [w6 a c d e 0 0]).filter (ctl f b X Y k)).map (outk f b X Y k)) (if d = a then c + 1 else d + 1) n) (a) n) 20 (a + 1) (by omega) (by
      intro fu2 c s2 L2 hlo2 hc hI2
      have hpt2 : cs_pts s2 = nI n := by rw [hI2.1.pts (by decide), hpt]
      have hle2 : ¬ cs_pts s2 ≤ nI c := by rw [hpt2]; exact nI_ge hc (by omega)
      have nx2 : some (nI c + 1) = some (nI (c + 1)) := by rw [nI_1]
      have lev3 := fm_loop (Lp := fun fu p s => tl_Fs_listTwoPairs_25 N (tl_Fs_listTwoPairs_2 N fu1) (tl_Fs_listTwoPairs_14 N (tl_Fs_listTwoPairs_2 N fu1) fu2) fu (nI k) (nI a) (nI c) (nI p) s) (K := (fun s => tl_Fs_listTwoPairs_14 N (tl_Fs_listTwoPairs_2 N fu1) fu2 (nI k) (nI a) (nI (c + 1)) s)) (n := n) (I := fun L s => BI S k L s) (g := fun d => fm (fun e => ((if k = 2 ∧ (a = d ∨ a = e ∨ c = d ∨ c = e) then [] else [w6 a c d e 0 0]).filter (ctl f b X Y k)).map (outk f b X Y k)) (if d = a then c + 1 else d + 1) n) 20 (a) (by omega) (by
        intro fu3 d s3 L3 hlo3 hd2 hI3
        have hpt3 : cs_pts s3 = nI n := by rw [hI3.1.pts (by decide), hpt]
        have hle3 : ¬ cs_pts s3 ≤ nI d := by rw [hpt3]; exact nI_ge hd2 (by omega)
        have nx3 : some (nI d + 1) = some (nI (d + 1)) := by rw [nI_1]
        have lev4 := fm_loop (Lp := fun fu p s => tl_Fs_listTwoPairs_52 N (tl_Fs_listTwoPairs_2 N fu1) (tl_Fs_listTwoPairs_14 N (tl_Fs_listTwoPairs_2 N fu1) fu2) (tl_Fs_listTwoPairs_25 N (tl_Fs_listTwoPairs_2 N fu1) (tl_Fs_listTwoPairs_14 N (tl_Fs_listTwoPairs_2 N fu1) fu2) fu3) fu (nI k) (nI a) (nI c) (nI d) (nI p) s) (K := (fun s => tl_Fs_listTwoPairs_25 N (tl_Fs_listTwoPairs_2 N fu1) (tl_Fs_listTwoPairs_14 N (tl_Fs_listTwoPairs_2 N fu1) fu2) fu3 (nI k) (nI a) (nI c) (nI (d + 1)) s)) (n := n) (I := fun L s => BI S k L s) (g := fun e => ((if k = 2 ∧ (a = d ∨ a = e ∨ c = d ∨ c = e) then [] else [w6 a c d e 0 0]).filter (ctl f b X Y k)).map (outk f b X Y k)) 20 (if d = a then c + 1 else d + 1) (by omega) (by
          intro fu4 e s4 L4 hlo4 he hI4
          have hpt4 : cs_pts s4 = nI n := by rw [hI4.1.pts (by decide), hpt]
          have hle4 : ¬ cs_pts s4 ≤ nI e := by rw [hpt4]; exact nI_ge he (by omega)
          have nx4 : some (nI e + 1) = some (nI (e + 1)) := by rw [nI_1]
          have ea := p_apartPairs (N := N) (a := a) (c := c) (d := d) (e := e) (by omega) (by omega) (by omega) (by omega)
          by_cases hno : k = 2 ∧ (a = d ∨ a = e ∨ c = d ∨ c = e)
          · rw [decide_eq_false (fun z => z hno.2)] at ea
            refine ⟨s4, ?_, ?_⟩
            · show tb_Fs_listTwoPairs_52 N (tl_Fs_listTwoPairs_2 N fu1) (tl_Fs_listTwoPairs_14 N (tl_Fs_listTwoPairs_2 N fu1) fu2) (tl_Fs_listTwoPairs_25 N (tl_Fs_listTwoPairs_2 N fu1) (tl_Fs_listTwoPairs_14 N (tl_Fs_listTwoPairs_2 N fu1) fu2) fu3) (tl_Fs_listTwoPairs_52 N (tl_Fs_listTwoPairs_2 N fu1) (tl_Fs_listTwoPairs_14 N (tl_Fs_listTwoPairs_2 N fu1) fu2) (tl_Fs_listTwoPairs_25 N (tl_Fs_listTwoPairs_2 N fu1) (tl_Fs_listTwoPairs_14 N (tl_Fs_listTwoPairs_2 N fu1) fu2) fu3) fu4) (nI k) (nI a) (nI c) (nI d) (nI e) s4 = _
              unfold tb_Fs_listTwoPairs_52 tb_Fs_listTwoPairs_95
              exact bs rfl <| (if_neg hle4).trans <| (if_pos (by rw [hno.1]; rfl)).trans <| bs ea <| (if_pos (by decide)).trans <| bs nx4 rfl
            · rw [if_pos hno, List.filter_nil, List.map_nil, List.append_nil]
              exact hI4
          · obtain ⟨S2, e5, B5⟩ := p_consider (N := N) (k := k) (w := w6 a c d e 0 0) hN hd hl (by omega) (by have := w6_lt (a := a) (b := c) (c := d) (d := e) (e := 0) (f := 0) (by omega) (by omega) (by omega) (by omega) (by omega) (by omega); omega) (fun j hj => w4_j hn ha hc hd2 he j (by omega)) hI4
            refine ⟨S2, ?_, ?_⟩
            · show tb_Fs_listTwoPairs_52 N (tl_Fs_listTwoPairs_2 N fu1) (tl_Fs_listTwoPairs_14 N (tl_Fs_listTwoPairs_2 N fu1) fu2) (tl_Fs_listTwoPairs_25 N (tl_Fs_listTwoPairs_2 N fu1) (tl_Fs_listTwoPairs_14 N (tl_Fs_listTwoPairs_2 N fu1) fu2) fu3) (tl_Fs_listTwoPairs_52 N (tl_Fs_listTwoPairs_2 N fu1) (tl_Fs_listTwoPairs_14 N (tl_Fs_listTwoPairs_2 N fu1) fu2) (tl_Fs_listTwoPairs_25 N (tl_Fs_listTwoPairs_2 N fu1) (tl_Fs_listTwoPairs_14 N (tl_Fs_listTwoPairs_2 N fu1) fu2) fu3) fu4) (nI k) (nI a) (nI c) (nI d) (nI e) s4 = _
              unfold tb_Fs_listTwoPairs_52 tb_Fs_listTwoPairs_78 tb_Fs_listTwoPairs_95
              by_cases hk2 : k = 2
              · have hnac : ¬ (a = d ∨ a = e ∨ c = d ∨ c = e) := fun z => hno ⟨hk2, z⟩
                rw [decide_eq_true hnac] at ea
                exact bs rfl <| (if_neg hle4).trans <| (if_pos (by rw [hk2]; rfl)).trans <| bs ea <| (if_neg (by decide)).trans <| bs (p_pack (by omega) (by omega) (by omega)) <| bs (p_four (by omega) (by omega) (by omega) (by omega)) <| bs e5 <| bs nx4 rfl
              · exact bs rfl <| (if_neg hle4).trans <| (if_neg (fun z => hk2 ((nI_eq (a := k) (b := 2) (by omega) (by decide)).mp z))).trans <| bs (p_pack (by omega) (by omega) (by omega)) <| bs (p_four (by omega) (by omega) (by omega) (by omega)) <| bs e5 <| bs nx4 rfl
            · rw [if_neg hno, out_map hk.2.2]
              exact B5) (by
          intro fu4 p s4 L4 hp hp20 hI4
          show tb_Fs_listTwoPairs_52 N (tl_Fs_listTwoPairs_2 N fu1) (tl_Fs_listTwoPairs_14 N (tl_Fs_listTwoPairs_2 N fu1) fu2) (tl_Fs_listTwoPairs_25 N (tl_Fs_listTwoPairs_2 N fu1) (tl_Fs_listTwoPairs_14 N (tl_Fs_listTwoPairs_2 N fu1) fu2) fu3) (tl_Fs_listTwoPairs_52 N (tl_Fs_listTwoPairs_2 N fu1) (tl_Fs_listTwoPairs_14 N (tl_Fs_listTwoPairs_2 N fu1) fu2) (tl_Fs_listTwoPairs_25 N (tl_Fs_listTwoPairs_2 N fu1) (tl_Fs_listTwoPairs_14 N (tl_Fs_listTwoPairs_2 N fu1) fu2) fu3) fu4) (nI k) (nI a) (nI c) (nI d) (nI p) s4 = _
          unfold tb_Fs_listTwoPairs_52
          exact bs rfl <| (if_pos (by rw [hI4.1.pts (by decide), hpt]; exact nI_le hp (by omega))).trans <| bs (by rw [nI_1]) rfl)
        obtain ⟨t3, e3, J3⟩ := lev4 (n - (if d = a then c + 1 else d + 1)) (if d = a then c + 1 else d + 1) N s3 L3 rfl (Nat.le_refl _) (by split <;> omega) (by omega) hI3
        refine ⟨t3, ?_, J3⟩
        show tb_Fs_listTwoPairs_25 N (tl_Fs_listTwoPairs_2 N fu1) (tl_Fs_listTwoPairs_14 N (tl_Fs_listTwoPairs_2 N fu1) fu2) (tl_Fs_listTwoPairs_25 N (tl_Fs_listTwoPairs_2 N fu1) (tl_Fs_listTwoPairs_14 N (tl_Fs_listTwoPairs_2 N fu1) fu2) fu3) (nI k) (nI a) (nI c) (nI d) s3 = _
        unfold tb_Fs_listTwoPairs_25
        unfold tb_Fs_listTwoPairs_50
        refine bs rfl <| (if_neg hle3).trans ?_
        by_cases hda : d = a
        · rw [if_pos hda] at e3
          exact (if_pos (by rw [hda])).trans <| (by rw [nI_1]; exact e3)
        · rw [if_neg hda] at e3
          exact (if_neg (fun z => hda ((nI_eq (by omega) (by omega)).mp z))).trans <| (by rw [nI_1]; exact e3)) (by
        intro fu3 p s3 L3 hp hp20 hI3
        show tb_Fs_listTwoPairs_25 N (tl_Fs_listTwoPairs_2 N fu1) (tl_Fs_listTwoPairs_14 N (tl_Fs_listTwoPairs_2 N fu1) fu2) (tl_Fs_listTwoPairs_25 N (tl_Fs_listTwoPairs_2 N fu1) (tl_Fs_listTwoPairs_14 N (tl_Fs_listTwoPairs_2 N fu1) fu2) fu3) (nI k) (nI a) (nI c) (nI p) s3 = _
        unfold tb_Fs_listTwoPairs_25
        exact bs rfl <| (if_pos (by rw [hI3.1.pts (by decide), hpt]; exact nI_le hp (by omega))).trans <| bs (by rw [nI_1]) rfl)
      obtain ⟨t2, e2, J2⟩ := lev3 (n - (a)) (a) N s2 L2 rfl (Nat.le_refl _) (by omega) (by omega) hI2
      refine ⟨t2, ?_, J2⟩
      show tb_Fs_listTwoPairs_14 N (tl_Fs_listTwoPairs_2 N fu1) (tl_Fs_listTwoPairs_14 N (tl_Fs_listTwoPairs_2 N fu1) fu2) (nI k) (nI a) (nI c) s2 = _
      unfold tb_Fs_listTwoPairs_14
      exact bs rfl <| (if_neg hle2).trans e2) (by
      intro fu2 p s2 L2 hp hp20 hI2
      show tb_Fs_listTwoPairs_14 N (tl_Fs_listTwoPairs_2 N fu1) (tl_Fs_listTwoPairs_14 N (tl_Fs_listTwoPairs_2 N fu1) fu2) (nI k) (nI a) (nI p) s2 = _
      unfold tb_Fs_listTwoPairs_14
      exact bs rfl <| (if_pos (by rw [hI2.1.pts (by decide), hpt]; exact nI_le hp (by omega))).trans <| bs (by rw [nI_1]) rfl)
    obtain ⟨t1, e1, J1⟩ := lev2 (n - (a + 1)) (a + 1) N s1 L1 rfl (Nat.le_refl _) (by omega) (by omega) hI1
    refine ⟨t1, ?_, J1⟩
    show tb_Fs_listTwoPairs_2 N (tl_Fs_listTwoPairs_2 N fu1) (nI k) (nI a) s1 = _
    unfold tb_Fs_listTwoPairs_2
    exact bs rfl <| (if_neg hle1).trans <| bs nx1 e1) (by
    intro fu1 p s1 L1 hp hp20 hI1
    show tb_Fs_listTwoPairs_2 N (tl_Fs_listTwoPairs_2 N fu1) (nI k) (nI p) s1 = _
    unfold tb_Fs_listTwoPairs_2
    exact bs rfl <| (if_pos (by rw [hI1.1.pts (by decide), hpt]; exact nI_le hp (by omega))))
  obtain ⟨S', e, I⟩ := lev1 (n - 0) 0 N S [] rfl (Nat.le_refl _) (by omega) (by omega) hB
  exact ⟨S', e, I⟩
theorem l_rat (hN : 25 ≤ N) (hd : CD S 0 f n b X Y) (hpt : cs_pts S = nI n) (hl : ∀ p, p < n → cs_leads S p = nI (led f b X Y p)) (hB : BI S 8 [] S) : ∃ S', t_Fs_listRatios N S = some S' ∧ BI S 8 (fm (fun a => fm (fun c => fm (fun d => fm (fun e => ((if 8 = 2 ∧ (a = d ∨ a = e ∨ c = d ∨ c = e) then [] else [w6 a c d e 0 0]).filter (ctl f b X Y 8)).map (outk f b X Y 8)) (if d = a then c + 1 else d + 1) n) (a) n) (a + 1) n) 0 n) S' := by
  have hn := hd.2.1
  have lev1 := fm_loop (Lp := fun fu p s => tl_Fs_listRatios_2 N fu (nI p) s) (K := some) (n := n) (I := fun L s => BI S 8 L s) (g := fun a => fm (fun c => fm (fun d => fm (fun e => ((if 8 = 2 ∧ (a = d ∨ a = e ∨ c = d ∨ c = e) then [] else [w6 a c d e 0 0]).filter (ctl f b X Y 8)).map (outk f b X Y 8)) (if d = a then c + 1 else d + 1) n) (a) n) (a + 1) n) 20 (0) (by omega) (by
    intro fu1 a s1 L1 hlo1 ha hI1
    have hpt1 : cs_pts s1 = nI n := by rw [hI1.1.pts (by decide), hpt]
    have hle1 : ¬ cs_pts s1 ≤ nI a := by rw [hpt1]; exact nI_ge ha (by omega)
    have nx1 : some (nI a + 1) = some (nI (a + 1)) := by rw [nI_1]
    have lev2 := fm_loop (Lp := fun fu p s => tl_Fs_listRatios_14 N (tl_Fs_listRatios_2 N fu1) fu (nI a) (nI p) s) (K := (fun s => tl_Fs_listRatios_2 N fu1 (nI (a + 1)) s)) (n := n) (I := fun L s => BI S 8 L s) (g := fun c => fm (fun d => fm (fun e => ((if 8 = 2 ∧ (a = d ∨ a = e ∨ c = d ∨ c = e) then [] else [w6 a c d e 0 0]).filter (ctl f b X Y 8)).map (outk f b X Y 8)) (if d = a then c + 1 else d + 1) n) (a) n) 20 (a + 1) (by omega) (by
      intro fu2 c s2 L2 hlo2 hc hI2
      have hpt2 : cs_pts s2 = nI n := by rw [hI2.1.pts (by decide), hpt]
      have hle2 : ¬ cs_pts s2 ≤ nI c := by rw [hpt2]; exact nI_ge hc (by omega)
      have nx2 : some (nI c + 1) = some (nI (c + 1)) := by rw [nI_1]
      have lev3 := fm_loop (Lp := fun fu p s => tl_Fs_listRatios_24 N (tl_Fs_listRatios_2 N fu1) (tl_Fs_listRatios_14 N (tl_Fs_listRatios_2 N fu1) fu2) fu (nI a) (nI c) (nI p) s) (K := (fun s => tl_Fs_listRatios_14 N (tl_Fs_listRatios_2 N fu1) fu2 (nI a) (nI (c + 1)) s)) (n := n) (I := fun L s => BI S 8 L s) (g := fun d => fm (fun e => ((if 8 = 2 ∧ (a = d ∨ a = e ∨ c = d ∨ c = e) then [] else [w6 a c d e 0 0]).filter (ctl f b X Y 8)).map (outk f b X Y 8)) (if d = a then c + 1 else d + 1) n) 20 (a) (by omega) (by
        intro fu3 d s3 L3 hlo3 hd2 hI3
        have hpt3 : cs_pts s3 = nI n := by rw [hI3.1.pts (by decide), hpt]
        have hle3 : ¬ cs_pts s3 ≤ nI d := by rw [hpt3]; exact nI_ge hd2 (by omega)
        have nx3 : some (nI d + 1) = some (nI (d + 1)) := by rw [nI_1]
        have lev4 := fm_loop (Lp := fun fu p s => tl_Fs_listRatios_48 N (tl_Fs_listRatios_2 N fu1) (tl_Fs_listRatios_14 N (tl_Fs_listRatios_2 N fu1) fu2) (tl_Fs_listRatios_24 N (tl_Fs_listRatios_2 N fu1) (tl_Fs_listRatios_14 N (tl_Fs_listRatios_2 N fu1) fu2) fu3) fu (nI a) (nI c) (nI d) (nI p) s) (K := (fun s => tl_Fs_listRatios_24 N (tl_Fs_listRatios_2 N fu1) (tl_Fs_listRatios_14 N (tl_Fs_listRatios_2 N fu1) fu2) fu3 (nI a) (nI c) (nI (d + 1)) s)) (n := n) (I := fun L s => BI S 8 L s) (g := fun e => ((if 8 = 2 ∧ (a = d ∨ a = e ∨ c = d ∨ c = e) then [] else [w6 a c d e 0 0]).filter (ctl f b X Y 8)).map (outk f b X Y 8)) 20 (if d = a then c + 1 else d + 1) (by omega) (by
          intro fu4 e s4 L4 hlo4 he hI4
          have hpt4 : cs_pts s4 = nI n := by rw [hI4.1.pts (by decide), hpt]
          have hle4 : ¬ cs_pts s4 ≤ nI e := by rw [hpt4]; exact nI_ge he (by omega)
          have nx4 : some (nI e + 1) = some (nI (e + 1)) := by rw [nI_1]
          obtain ⟨v, T, S2, e5, hsel, B5⟩ := p_ratio (N := N) (a := a) (c := c) (d := d) (e := e) hN hd hl ha hc hd2 he hI4
          refine ⟨S2, ?_, ?_⟩
          · show tb_Fs_listRatios_48 N (tl_Fs_listRatios_2 N fu1) (tl_Fs_listRatios_14 N (tl_Fs_listRatios_2 N fu1) fu2) (tl_Fs_listRatios_24 N (tl_Fs_listRatios_2 N fu1) (tl_Fs_listRatios_14 N (tl_Fs_listRatios_2 N fu1) fu2) fu3) (tl_Fs_listRatios_48 N (tl_Fs_listRatios_2 N fu1) (tl_Fs_listRatios_14 N (tl_Fs_listRatios_2 N fu1) fu2) (tl_Fs_listRatios_24 N (tl_Fs_listRatios_2 N fu1) (tl_Fs_listRatios_14 N (tl_Fs_listRatios_2 N fu1) fu2) fu3) fu4) (nI a) (nI c) (nI d) (nI e) s4 = _
            unfold tb_Fs_listRatios_48 tb_Fs_listRatios_105
            refine bs rfl <| (if_neg hle4).trans <| bs (p_pack (by omega) (by omega) (by omega)) <| bs (p_four (by omega) (by omega) (by omega) (by omega)) <| bs e5 ?_
            rcases hsel with ⟨hv, hS⟩ | ⟨hv, z, e6, hz⟩
            · rw [hS]
              exact (if_pos hv).trans <| bs nx4 rfl
            · refine (if_neg hv).trans <| bs e6 ?_
              rcases hz with ⟨hz, hS⟩ | ⟨hz, e7⟩
              · rw [hS]
                exact (if_pos hz).trans <| bs nx4 rfl
              · exact (if_neg hz).trans <| bs (ta_n (p := 8) (by decide) (by decide)) <| bs e7 <| bs nx4 rfl
          · rw [if_neg (fun z => absurd z.1 (by decide))]
            exact B5) (by
          intro fu4 p s4 L4 hp hp20 hI4
          show tb_Fs_listRatios_48 N (tl_Fs_listRatios_2 N fu1) (tl_Fs_listRatios_14 N (tl_Fs_listRatios_2 N fu1) fu2) (tl_Fs_listRatios_24 N (tl_Fs_listRatios_2 N fu1) (tl_Fs_listRatios_14 N (tl_Fs_listRatios_2 N fu1) fu2) fu3) (tl_Fs_listRatios_48 N (tl_Fs_listRatios_2 N fu1) (tl_Fs_listRatios_14 N (tl_Fs_listRatios_2 N fu1) fu2) (tl_Fs_listRatios_24 N (tl_Fs_listRatios_2 N fu1) (tl_Fs_listRatios_14 N (tl_Fs_listRatios_2 N fu1) fu2) fu3) fu4) (nI a) (nI c) (nI d) (nI p) s4 = _
          unfold tb_Fs_listRatios_48
          exact bs rfl <| (if_pos (by rw [hI4.1.pts (by decide), hpt]; exact nI_le hp (by omega))).trans <| bs (by rw [nI_1]) rfl)
        obtain ⟨t3, e3, J3⟩ := lev4 (n - (if d = a then c + 1 else d + 1)) (if d = a then c + 1 else d + 1) N s3 L3 rfl (Nat.le_refl _) (by split <;> omega) (by omega) hI3
        refine ⟨t3, ?_, J3⟩
        show tb_Fs_listRatios_24 N (tl_Fs_listRatios_2 N fu1) (tl_Fs_listRatios_14 N (tl_Fs_listRatios_2 N fu1) fu2) (tl_Fs_listRatios_24 N (tl_Fs_listRatios_2 N fu1) (tl_Fs_listRatios_14 N (tl_Fs_listRatios_2 N fu1) fu2) fu3) (nI a) (nI c) (nI d) s3 = _
        unfold tb_Fs_listRatios_24
        unfold tb_Fs_listRatios_46
        refine bs rfl <| (if_neg hle3).trans ?_
        by_cases hda : d = a
        · rw [if_pos hda] at e3
          exact (if_pos (by rw [hda])).trans <| (by rw [nI_1]; exact e3)
        · rw [if_neg hda] at e3
          exact (if_neg (fun z => hda ((nI_eq (by omega) (by omega)).mp z))).trans <| (by rw [nI_1]; exact e3)) (by
        intro fu3 p s3 L3 hp hp20 hI3
        show tb_Fs_listRatios_24 N (tl_Fs_listRatios_2 N fu1) (tl_Fs_listRatios_14 N (tl_Fs_listRatios_2 N fu1) fu2) (tl_Fs_listRatios_24 N (tl_Fs_listRatios_2 N fu1) (tl_Fs_listRatios_14 N (tl_Fs_listRatios_2 N fu1) fu2) fu3) (nI a) (nI c) (nI p) s3 = _
        unfold tb_Fs_listRatios_24
        exact bs rfl <| (if_pos (by rw [hI3.1.pts (by decide), hpt]; exact nI_le hp (by omega))).trans <| bs (by rw [nI_1]) rfl)
      obtain ⟨t2, e2, J2⟩ := lev3 (n - (a)) (a) N s2 L2 rfl (Nat.le_refl _) (by omega) (by omega) hI2
      refine ⟨t2, ?_, J2⟩
      show tb_Fs_listRatios_14 N (tl_Fs_listRatios_2 N fu1) (tl_Fs_listRatios_14 N (tl_Fs_listRatios_2 N fu1) fu2) (nI a) (nI c) s2 = _
      unfold tb_Fs_listRatios_14
      exact bs rfl <| (if_neg hle2).trans e2) (by
      intro fu2 p s2 L2 hp hp20 hI2
      show tb_Fs_listRatios_14 N (tl_Fs_listRatios_2 N fu1) (tl_Fs_listRatios_14 N (tl_Fs_listRatios_2 N fu1) fu2) (nI a) (nI p) s2 = _
      unfold tb_Fs_listRatios_14
      exact bs rfl <| (if_pos (by rw [hI2.1.pts (by decide), hpt]; exact nI_le hp (by omega))).trans <| bs (by rw [nI_1]) rfl)
    obtain ⟨t1, e1, J1⟩ := lev2 (n - (a + 1)) (a + 1) N s1 L1 rfl (Nat.le_refl _) (by omega) (by omega) hI1
    refine ⟨t1, ?_, J1⟩
    show tb_Fs_listRatios_2 N (tl_Fs_listRatios_2 N fu1) (nI a) s1 = _
    unfold tb_Fs_listRatios_2
    exact bs rfl <| (if_neg hle1).trans <| bs nx1 e1) (by
    intro fu1 p s1 L1 hp hp20 hI1
    show tb_Fs_listRatios_2 N (tl_Fs_listRatios_2 N fu1) (nI p) s1 = _
    unfold tb_Fs_listRatios_2
    exact bs rfl <| (if_pos (by rw [hI1.1.pts (by decide), hpt]; exact nI_le hp (by omega))))
  obtain ⟨S', e, I⟩ := lev1 (n - 0) 0 N S [] rfl (Nat.le_refl _) (by omega) (by omega) hB
  exact ⟨S', e, I⟩
end LST
