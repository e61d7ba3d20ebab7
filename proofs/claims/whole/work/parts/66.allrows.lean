/-! all rows, all rings -/
def cA (n : Nat) : Nat → Nat
  | 0 => 0
  | a + 1 => cA n a + (n - (a + 1))
theorem cA_lt : ∀ n, n < 11 → ∀ a, a < n → ∀ c, c < n → a < c → cA n a + (c - (a + 1)) < 45 := by decide +kernel
def cB (n a : Nat) : Nat → Nat
  | 0 => 0
  | t + 1 => cB n a t + (n - (a + 1 + t + 1))
def cR (n : Nat) : Nat → Nat
  | 0 => 0
  | a + 1 => cR n a + cB n a (n - (a + 1))
theorem cR_le : ∀ n, n < 11 → ∀ a, a < n → ∀ c, c < n → a < c → cR n a + cB n a (c - (a + 1)) + (n - (c + 1)) ≤ 120 := by decide +kernel
theorem cR_lt {n a c d : Nat} (hn : n < 11) (ha : a < n) (hc : c < n) (hd : d < n) (hac : a < c) (hcd : c < d) : cR n a + cB n a (c - (a + 1)) + (d - (c + 1)) < 120 := by
  have := cR_le n hn a ha c hc hac
  omega
theorem cA_all : ∀ n, n < 11 → cA n n ≤ 45 := by decide +kernel
theorem cR_all : ∀ n, n < 11 → cR n n ≤ 120 := by decide +kernel
section ALR
variable {N : Nat} {S : CS} {f n : Nat} {b : Nat → Bool} {X Y : Nat → Nat → Int}
def RA (S : CS) (f n : Nat) (b : Nat → Bool) (X Y : Nat → Nat → Int) (a c k : Nat) (S1 : CS) : Prop := ∃ q, RI S 9 q k S1 ∧ ∀ m, q m = true ↔ ∃ a' c', (a' < a ∨ a' = a ∧ c' < c) ∧ a' < c' ∧ c' < n ∧ rowc f n b X Y a' c' m = true
theorem p_rowLoop (hN : 200 ≤ N) (hd : CD S 0 f n b X Y) (hpt : cs_pts S = nI n) (hl : ∀ p, p < n → cs_leads S p = nI (led f b X Y p)) (h0 : LR S 9 []) : ∃ S', tl_Fs_allRows_23 N N 0 S = some (some 9, S') ∧ KC [20, 21] S S' ∧ (∀ j, j ≠ 9 → cs_items S' j = cs_items S j ∧ cs_lsize S' j = cs_lsize S j) ∧ LRb S' 9 (RL f n b X Y) 45 := by
  have hn := hd.2.1
  have main := up_loop (L := fun fu p s => tl_Fs_allRows_23 N fu (nI p) s) (e := n) (I := fun a S1 => RA S f n b X Y a 0 (cA n a) S1) (Q := fun o => ∃ S', o = some (some 9, S') ∧ RA S f n b X Y n 0 (cA n n) S') (by
    intro fu a S1 ha hI
    have hpt1 : cs_pts S1 = nI n := by
      obtain ⟨q, r, _⟩ := hI
      rw [r.1.pts (by decide), hpt]
    have inner := up_loop (L := fun fu2 p s => tl_Fs_allRows_35 N (tl_Fs_allRows_23 N fu) fu2 (nI a) (nI p) s) (e := n) (I := fun c S2 => a < c ∧ RA S f n b X Y a c (cA n a + (c - (a + 1))) S2) (Q := fun o => ∃ S', o = tl_Fs_allRows_23 N fu (nI (a + 1)) S' ∧ RA S f n b X Y (a + 1) 0 (cA n (a + 1)) S') (by
      intro fu2 c S2 hc hJ
      obtain ⟨hac, q, hR, hq⟩ := hJ
      have hle : ¬ cs_pts S2 ≤ nI c := by rw [hR.1.pts (by decide), hpt]; exact nI_ge hc (by omega)
      obtain ⟨S3, e3, R3⟩ := p_addRow (N := N) hN hd hpt hl ha hc hR (cA_lt n (by omega) a ha c hc hac)
      refine Or.inl ⟨S3, ?_, by omega, _, R3.to (fun m _ => rfl) (by omega), fun m => ?_⟩
      · show tb_Fs_allRows_35 N (tl_Fs_allRows_23 N fu) (tl_Fs_allRows_35 N (tl_Fs_allRows_23 N fu) fu2) (nI a) (nI c) S2 = _
        unfold tb_Fs_allRows_35
        exact bs rfl <| (if_neg hle).trans <| bs e3 <| bs (by rw [nI_1]) rfl
      · rw [Bool.or_eq_true, hq m]
        constructor
        · rintro (⟨a', c', h1, h2⟩ | h)
          · exact ⟨a', c', by omega, h2⟩
          · exact ⟨a, c, by omega, hac, hc, h⟩
        · rintro ⟨a', c', h1, h2, h3, h4⟩
          by_cases hz : a' = a ∧ c' = c
          · rw [hz.1, hz.2] at h4; exact Or.inr h4
          · exact Or.inl ⟨a', c', by omega, h2, h3, h4⟩) (by
      intro fu2 S2 hJ
      obtain ⟨hac, q, hR, hq⟩ := hJ
      refine ⟨S2, ?_, q, hR.to (fun m _ => rfl) (Nat.le_refl _), fun m => ?_⟩
      · show tb_Fs_allRows_35 N (tl_Fs_allRows_23 N fu) (tl_Fs_allRows_35 N (tl_Fs_allRows_23 N fu) fu2) (nI a) (nI n) S2 = _
        unfold tb_Fs_allRows_35
        exact bs rfl <| (if_pos (by rw [hR.1.pts (by decide), hpt]; exact nI_le (Nat.le_refl n) (by omega))).trans <| bs (by rw [nI_1]) rfl
      · rw [hq m]
        constructor
        · rintro ⟨a', c', h1, h2, h3, h4⟩
          exact ⟨a', c', by omega, h2, h3, h4⟩
        · rintro ⟨a', c', h1, h2, h3, h4⟩
          exact ⟨a', c', by omega, h2, h3, h4⟩)
    obtain ⟨S3, e3, I3⟩ := inner (n - (a + 1)) (a + 1) N S1 (by omega) (by omega) ⟨by omega, by
      obtain ⟨q, hR, hq⟩ := hI
      refine ⟨q, hR.to (fun m _ => rfl) (by omega), fun m => (hq m).trans ⟨?_, ?_⟩⟩
      · rintro ⟨a', c', h1, h2⟩
        exact ⟨a', c', by omega, h2⟩
      · rintro ⟨a', c', h1, h2⟩
        exact ⟨a', c', by omega, h2⟩⟩
    refine Or.inl ⟨S3, ?_, I3⟩
    show tb_Fs_allRows_23 N (tl_Fs_allRows_23 N fu) (nI a) S1 = _
    unfold tb_Fs_allRows_23
    exact bs rfl <| (if_neg (by rw [hpt1]; exact nI_ge ha (by omega))).trans <| bs (by rw [nI_1]) e3) (by
    intro fu S1 hI
    refine ⟨S1, ?_, hI⟩
    have hpt1 : cs_pts S1 = nI n := by
      obtain ⟨q, r, _⟩ := hI
      rw [r.1.pts (by decide), hpt]
    show tb_Fs_allRows_23 N (tl_Fs_allRows_23 N fu) (nI n) S1 = _
    unfold tb_Fs_allRows_23
    exact bs rfl <| if_pos (by rw [hpt1]; exact nI_le (Nat.le_refl n) (by omega)))
  have hu0 : upto (fun _ => false) = [] := by
    unfold upto
    rw [List.filter_eq_nil_iff]
    intro x _; decide
  obtain ⟨S', e, q, hR, hq⟩ := main n 0 N S (by omega) (by omega) ⟨fun _ => false, ⟨KC.rf, fun j _ => ⟨rfl, rfl⟩, by rw [hu0]; exact h0, by rw [hu0]; exact Nat.zero_le _⟩, fun m => by
    constructor
    · intro z; cases z
    · rintro ⟨a', c', h1, h2⟩; omega⟩
  refine ⟨S', e, hR.1, hR.2.1, ?_⟩
  have : upto q = RL f n b X Y := upto_congr (fun m _ => bool_ext ((hq m).trans (by
    unfold rws rowc
    rw [decide_eq_true_iff]
    constructor
    · rintro ⟨a', c', h1, h2, h3, h4⟩
      rw [decide_eq_true_iff] at h4
      exact ⟨a', by omega, c', h3, h2, h4⟩
    · rintro ⟨a', h1, c', h2, h3, h4⟩
      exact ⟨a', c', Or.inl h1, h3, h2, decide_eq_true h4⟩)))
  rw [← this]
  exact ⟨hR.2.2.1, Nat.le_trans hR.2.2.2 (cA_all n (by omega))⟩
def GA (S : CS) (f n : Nat) (b : Nat → Bool) (X Y : Nat → Nat → Int) (a c d k : Nat) (S1 : CS) : Prop := ∃ q, RI S 10 q k S1 ∧ ∀ m, q m = true ↔ ∃ a' c' d', (a' < a ∨ a' = a ∧ (c' < c ∨ c' = c ∧ d' < d)) ∧ a' < c' ∧ c' < d' ∧ d' < n ∧ ringc f n b X Y a' c' d' m = true
theorem p_ringLoop (hN : 200 ≤ N) (hcd : CD S 0 f n b X Y) (hpt : cs_pts S = nI n) (hl : ∀ p, p < n → cs_leads S p = nI (led f b X Y p)) (h0 : LR S 10 []) : ∃ S', tl_Fs_allRings_23 N N 0 S = some (some 10, S') ∧ KC [20, 21] S S' ∧ (∀ j, j ≠ 10 → cs_items S' j = cs_items S j ∧ cs_lsize S' j = cs_lsize S j) ∧ LRb S' 10 (GL f n b X Y) 120 := by
  have hn := hcd.2.1
  have main := up_loop (L := fun fu p s => tl_Fs_allRings_23 N fu (nI p) s) (e := n) (I := fun a S1 => GA S f n b X Y a 0 0 (cR n a) S1) (Q := fun o => ∃ S', o = some (some 10, S') ∧ GA S f n b X Y n 0 0 (cR n n) S') (by
    intro fu a S1 ha hI
    have hpt1 : cs_pts S1 = nI n := by
      obtain ⟨q, r, _⟩ := hI
      rw [r.1.pts (by decide), hpt]
    have mid := up_loop (L := fun fu2 p s => tl_Fs_allRings_35 N (tl_Fs_allRings_23 N fu) fu2 (nI a) (nI p) s) (e := n) (I := fun c S2 => a < c ∧ GA S f n b X Y a c 0 (cR n a + cB n a (c - (a + 1))) S2) (Q := fun o => ∃ S', o = tl_Fs_allRings_23 N fu (nI (a + 1)) S' ∧ GA S f n b X Y (a + 1) 0 0 (cR n (a + 1)) S') (by
      intro fu2 c S2 hc hJ
      obtain ⟨hac, hJ⟩ := hJ
      have hpt2 : cs_pts S2 = nI n := by
        obtain ⟨q, r, _⟩ := hJ
        rw [r.1.pts (by decide), hpt]
      have inner := up_loop (L := fun fu3 p s => tl_Fs_allRings_47 N (tl_Fs_allRings_23 N fu) (tl_Fs_allRings_35 N (tl_Fs_allRings_23 N fu) fu2) fu3 (nI a) (nI c) (nI p) s) (e := n) (I := fun d S3 => c < d ∧ GA S f n b X Y a c d (cR n a + cB n a (c - (a + 1)) + (d - (c + 1))) S3) (Q := fun o => ∃ S', o = tl_Fs_allRings_35 N (tl_Fs_allRings_23 N fu) fu2 (nI a) (nI (c + 1)) S' ∧ GA S f n b X Y a (c + 1) 0 (cR n a + cB n a (c + 1 - (a + 1))) S') (by
        intro fu3 d S3 hd hK
        obtain ⟨hcd2, q, hR, hq⟩ := hK
        have hle : ¬ cs_pts S3 ≤ nI d := by rw [hR.1.pts (by decide), hpt]; exact nI_ge hd (by omega)
        obtain ⟨S4, e4, R4⟩ := p_addRing (N := N) hN hcd hpt hl hac hcd2 hd hR (cR_lt (by omega) ha hc hd hac hcd2)
        refine Or.inl ⟨S4, ?_, by omega, _, R4.to (fun m _ => rfl) (by omega), fun m => ?_⟩
        · show tb_Fs_allRings_47 N (tl_Fs_allRings_23 N fu) (tl_Fs_allRings_35 N (tl_Fs_allRings_23 N fu) fu2) (tl_Fs_allRings_47 N (tl_Fs_allRings_23 N fu) (tl_Fs_allRings_35 N (tl_Fs_allRings_23 N fu) fu2) fu3) (nI a) (nI c) (nI d) S3 = _
          unfold tb_Fs_allRings_47
          exact bs rfl <| (if_neg hle).trans <| bs e4 <| bs (by rw [nI_1]) rfl
        · rw [Bool.or_eq_true, hq m]
          constructor
          · rintro (⟨a', c', d', h1, h2⟩ | h)
            · exact ⟨a', c', d', by omega, h2⟩
            · exact ⟨a, c, d, by omega, hac, hcd2, hd, h⟩
          · rintro ⟨a', c', d', h1, h2, h3, h4, h5⟩
            by_cases hz : a' = a ∧ c' = c ∧ d' = d
            · rw [hz.1, hz.2.1, hz.2.2] at h5; exact Or.inr h5
            · exact Or.inl ⟨a', c', d', by omega, h2, h3, h4, h5⟩) (by
        intro fu3 S3 hK
        obtain ⟨hcd2, q, hR, hq⟩ := hK
        refine ⟨S3, ?_, q, hR.to (fun m _ => rfl) ?_, fun m => ?_⟩
        · show tb_Fs_allRings_47 N (tl_Fs_allRings_23 N fu) (tl_Fs_allRings_35 N (tl_Fs_allRings_23 N fu) fu2) (tl_Fs_allRings_47 N (tl_Fs_allRings_23 N fu) (tl_Fs_allRings_35 N (tl_Fs_allRings_23 N fu) fu2) fu3) (nI a) (nI c) (nI n) S3 = _
          unfold tb_Fs_allRings_47
          exact bs rfl <| (if_pos (by rw [hR.1.pts (by decide), hpt]; exact nI_le (Nat.le_refl n) (by omega))).trans <| bs (by rw [nI_1]) rfl
        · rw [show c + 1 - (a + 1) = (c - (a + 1)) + 1 from by omega]
          show _ ≤ cR n a + (cB n a (c - (a + 1)) + (n - (a + 1 + (c - (a + 1)) + 1)))
          omega
        · rw [hq m]
          constructor
          · rintro ⟨a', c', d', h1, h2, h3, h4, h5⟩
            exact ⟨a', c', d', by omega, h2, h3, h4, h5⟩
          · rintro ⟨a', c', d', h1, h2, h3, h4, h5⟩
            exact ⟨a', c', d', by omega, h2, h3, h4, h5⟩)
      obtain ⟨S3, e3, I3⟩ := inner (n - (c + 1)) (c + 1) N S2 (by omega) (by omega) ⟨by omega, by
        obtain ⟨q, hR, hq⟩ := hJ
        refine ⟨q, hR.to (fun m _ => rfl) (by omega), fun m => (hq m).trans ⟨?_, ?_⟩⟩
        · rintro ⟨a', c', d', h1, h2⟩
          exact ⟨a', c', d', by omega, h2⟩
        · rintro ⟨a', c', d', h1, h2⟩
          exact ⟨a', c', d', by omega, h2⟩⟩
      refine Or.inl ⟨S3, ?_, by omega, I3⟩
      show tb_Fs_allRings_35 N (tl_Fs_allRings_23 N fu) (tl_Fs_allRings_35 N (tl_Fs_allRings_23 N fu) fu2) (nI a) (nI c) S2 = _
      unfold tb_Fs_allRings_35
      exact bs rfl <| (if_neg (by rw [hpt2]; exact nI_ge hc (by omega))).trans <| bs (by rw [nI_1]) e3) (by
      intro fu2 S2 hJ
      obtain ⟨hac, q, hR, hq⟩ := hJ
      refine ⟨S2, ?_, q, hR.to (fun m _ => rfl) (Nat.le_refl _), fun m => ?_⟩
      · show tb_Fs_allRings_35 N (tl_Fs_allRings_23 N fu) (tl_Fs_allRings_35 N (tl_Fs_allRings_23 N fu) fu2) (nI a) (nI n) S2 = _
        unfold tb_Fs_allRings_35
        exact bs rfl <| (if_pos (by rw [hR.1.pts (by decide), hpt]; exact nI_le (Nat.le_refl n) (by omega))).trans <| bs (by rw [nI_1]) rfl
      · rw [hq m]
        constructor
        · rintro ⟨a', c', d', h1, h2, h3, h4, h5⟩
          exact ⟨a', c', d', by omega, h2, h3, h4, h5⟩
        · rintro ⟨a', c', d', h1, h2, h3, h4, h5⟩
          exact ⟨a', c', d', by omega, h2, h3, h4, h5⟩)
    obtain ⟨S3, e3, I3⟩ := mid (n - (a + 1)) (a + 1) N S1 (by omega) (by omega) ⟨by omega, by
      obtain ⟨q, hR, hq⟩ := hI
      refine ⟨q, hR.to (fun m _ => rfl) (by omega), fun m => (hq m).trans ⟨?_, ?_⟩⟩
      · rintro ⟨a', c', d', h1, h2⟩
        exact ⟨a', c', d', by omega, h2⟩
      · rintro ⟨a', c', d', h1, h2⟩
        exact ⟨a', c', d', by omega, h2⟩⟩
    refine Or.inl ⟨S3, ?_, I3⟩
    show tb_Fs_allRings_23 N (tl_Fs_allRings_23 N fu) (nI a) S1 = _
    unfold tb_Fs_allRings_23
    exact bs rfl <| (if_neg (by rw [hpt1]; exact nI_ge ha (by omega))).trans <| bs (by rw [nI_1]) e3) (by
    intro fu S1 hI
    refine ⟨S1, ?_, hI⟩
    have hpt1 : cs_pts S1 = nI n := by
      obtain ⟨q, r, _⟩ := hI
      rw [r.1.pts (by decide), hpt]
    show tb_Fs_allRings_23 N (tl_Fs_allRings_23 N fu) (nI n) S1 = _
    unfold tb_Fs_allRings_23
    exact bs rfl <| if_pos (by rw [hpt1]; exact nI_le (Nat.le_refl n) (by omega)))
  have hu0 : upto (fun _ => false) = [] := by
    unfold upto
    rw [List.filter_eq_nil_iff]
    intro x _; decide
  obtain ⟨S', e, q, hR, hq⟩ := main n 0 N S (by omega) (by omega) ⟨fun _ => false, ⟨KC.rf, fun j _ => ⟨rfl, rfl⟩, by rw [hu0]; exact h0, by rw [hu0]; exact Nat.zero_le _⟩, fun m => by
    constructor
    · intro z; cases z
    · rintro ⟨a', c', d', h1, h2⟩; omega⟩
  refine ⟨S', e, hR.1, hR.2.1, ?_⟩
  have : upto q = GL f n b X Y := upto_congr (fun m _ => bool_ext ((hq m).trans (by
    unfold rgs ringc
    rw [decide_eq_true_iff]
    constructor
    · rintro ⟨a', c', d', h1, h2, h3, h4, h5⟩
      rw [decide_eq_true_iff] at h5
      exact ⟨a', by omega, c', by omega, d', h4, h2, h3, h5⟩
    · rintro ⟨a', h1, c', h2, d', h3, h4, h5, h6⟩
      exact ⟨a', c', d', Or.inl h1, h4, h5, h3, decide_eq_true h6⟩)))
  rw [← this]
  exact ⟨hR.2.2.1, Nat.le_trans hR.2.2.2 (cR_all n (by omega))⟩
/-- rows (bit 10, list 9) and rings (bit 11, list 10) when they are asked for -/
theorem p_allRows (hN : 200 ≤ N) (hd : CD S 0 f n b X Y) (hK : KI S f n b X Y) : ∃ S', t_Fs_allRows N S = some (some 9, S') ∧ KC [6, 7, 8, 11, 12, 20, 21] S S' ∧ KI S' f n b X Y ∧ LRb S' 9 (RL f n b X Y) 45 := by
  obtain ⟨hpt, hD, kn, hkn, hkno, hlead, hlist, hrow, hring⟩ := hK
  have e1 := p_isNew (N := N) (c := 10) hkno (by omega) (by omega)
  unfold t_Fs_allRows
  by_cases hb : kn.testBit 10 = true
  · rw [hb, pop_old hb] at e1
    have kk : KC [6] S (cs_set_known S (nI kn)) := KC.s_known
    have hit : ∀ j, cs_items (cs_set_known S (nI kn)) j = cs_items S j := fun j => by rw [cs_g_items_known]
    have hls : ∀ j, cs_lsize (cs_set_known S (nI kn)) j = cs_lsize S j := fun j => by rw [cs_g_lsize_known]
    exact ⟨_, bs e1 <| (if_pos (show bI (!true) = 0 by decide)).trans rfl, kk.mo (by decide), ⟨by rw [cs_g_pts_known]; exact hpt, hD.kc kk (by decide), kn, hkn, cs_g_known_known _ _, fun z p hp => by rw [cs_g_leads_known]; exact hlead z p hp, fun j hj z => (hlist j hj z).kc (hit j) (hls j), fun z => (hrow z).kc (hit 9) (hls 9), fun z => (hring z).kc (hit 10) (hls 10)⟩, (hrow hb).kc (hit 9) (hls 9)⟩
  · rw [Bool.not_eq_true] at hb
    rw [hb] at e1
    have k1 : KC [6] S (cs_set_known S (nI (kn ||| 2 ^ 10))) := KC.s_known
    have hkn1 : kn ||| 2 ^ 10 < 4096 := Nat.or_lt_two_pow (n := 12) hkn (by decide)
    have hb9 : (kn ||| 2 ^ 10).testBit 9 = kn.testBit 9 := by rw [tb_or, decide_eq_false (by omega), Bool.or_false]
    obtain ⟨S2, e2, k2, kn2, l2⟩ := p_findLeads (N := N) (kn := kn ||| 2 ^ 10) (by omega) (k1.cd (by decide) hd) (by rw [k1.pts (by decide)]; exact hpt) (cs_g_known_known _ _) (by omega) (fun z p hp => by rw [hb9] at z; rw [k1.leads (by decide)]; exact hlead z p hp)
    have k3 : KC [21] S2 (cs_set_lsize S2 (va_up (cs_lsize S2) 9 0)) := KC.s_lsize
    generalize hS3 : cs_set_lsize S2 (va_up (cs_lsize S2) 9 0) = S3 at k3
    have k03 : KC [6, 7, 21] S S3 := ((k1.mo (by decide)).tr (k2.mo (by decide))).tr (k3.mo (by decide))
    have hls3 : ∀ j, j ≠ 9 → cs_lsize S3 j = cs_lsize S j := fun j hj => by
      rw [← hS3, cs_g_lsize_lsize, va_up_ne _ _ hj, k2.lsize (by decide), k1.lsize (by decide)]
    obtain ⟨S4, e4, k4, j4, l4⟩ := p_rowLoop (N := N) (S := S3) hN (k03.cd (by decide) hd) (by rw [k03.pts (by decide)]; exact hpt) (fun p hp => by rw [k3.leads (by decide)]; exact l2 p hp) ⟨by rw [← hS3, cs_g_lsize_lsize, va_up_self, List.length_nil, Nat.zero_min]; rfl, fun i hi => absurd hi (lr_nil 9 i)⟩
    have kall : KC [6, 7, 8, 11, 12, 20, 21] S S4 := (k03.mo (by decide)).tr (k4.mo (by decide))
    have hit : ∀ j, j ≠ 9 → cs_items S4 j = cs_items S j := fun j h1 => by rw [(j4 j h1).1, k03.items (by decide)]
    have hls : ∀ j, j ≠ 9 → cs_lsize S4 j = cs_lsize S j := fun j h1 => by rw [(j4 j h1).2, hls3 j h1]
    refine ⟨S4, bs e1 <| (if_neg (show ¬ bI (!false) = 0 by decide)).trans <| bs e2 <| bs (congrArg some hS3) e4, kall, ⟨by rw [kall.pts (by decide)]; exact hpt, (hD.kc k03 (by decide)).kc k4 (by decide), (kn ||| 2 ^ 10) ||| 2 ^ 9, Nat.or_lt_two_pow (n := 12) hkn1 (by decide), ?_, fun _ p hp => ?_, fun j hj z => ?_, fun z => l4, fun z => ?_⟩, l4⟩
    · rw [k4.known (by decide), k3.known (by decide)]
      exact kn2
    · rw [k4.leads (by decide), k3.leads (by decide)]
      exact l2 p hp
    · rw [tb_or, tb_or, Bool.or_eq_true, Bool.or_eq_true, decide_eq_true_iff, decide_eq_true_iff] at z
      rcases z with (z | z) | z
      · exact (hlist j hj z).kc (hit j (by omega)) (hls j (by omega))
      · omega
      · omega
    · rw [tb_or, tb_or, Bool.or_eq_true, Bool.or_eq_true, decide_eq_true_iff, decide_eq_true_iff] at z
      rcases z with (z | z) | z
      · exact (hring z).kc (hit 10 (by decide)) (hls 10 (by decide))
      · omega
      · omega
theorem p_allRings (hN : 200 ≤ N) (hd : CD S 0 f n b X Y) (hK : KI S f n b X Y) : ∃ S', t_Fs_allRings N S = some (some 10, S') ∧ KC [6, 7, 8, 11, 12, 20, 21] S S' ∧ KI S' f n b X Y ∧ LRb S' 10 (GL f n b X Y) 120 := by
  obtain ⟨hpt, hD, kn, hkn, hkno, hlead, hlist, hrow, hring⟩ := hK
  have e1 := p_isNew (N := N) (c := 11) hkno (by omega) (by omega)
  unfold t_Fs_allRings
  by_cases hb : kn.testBit 11 = true
  · rw [hb, pop_old hb] at e1
    have kk : KC [6] S (cs_set_known S (nI kn)) := KC.s_known
    have hit : ∀ j, cs_items (cs_set_known S (nI kn)) j = cs_items S j := fun j => by rw [cs_g_items_known]
    have hls : ∀ j, cs_lsize (cs_set_known S (nI kn)) j = cs_lsize S j := fun j => by rw [cs_g_lsize_known]
    exact ⟨_, bs e1 <| (if_pos (show bI (!true) = 0 by decide)).trans rfl, kk.mo (by decide), ⟨by rw [cs_g_pts_known]; exact hpt, hD.kc kk (by decide), kn, hkn, cs_g_known_known _ _, fun z p hp => by rw [cs_g_leads_known]; exact hlead z p hp, fun j hj z => (hlist j hj z).kc (hit j) (hls j), fun z => (hrow z).kc (hit 9) (hls 9), fun z => (hring z).kc (hit 10) (hls 10)⟩, (hring hb).kc (hit 10) (hls 10)⟩
  · rw [Bool.not_eq_true] at hb
    rw [hb] at e1
    have k1 : KC [6] S (cs_set_known S (nI (kn ||| 2 ^ 11))) := KC.s_known
    have hkn1 : kn ||| 2 ^ 11 < 4096 := Nat.or_lt_two_pow (n := 12) hkn (by decide)
    have hb9 : (kn ||| 2 ^ 11).testBit 9 = kn.testBit 9 := by rw [tb_or, decide_eq_false (by omega), Bool.or_false]
    obtain ⟨S2, e2, k2, kn2, l2⟩ := p_findLeads (N := N) (kn := kn ||| 2 ^ 11) (by omega) (k1.cd (by decide) hd) (by rw [k1.pts (by decide)]; exact hpt) (cs_g_known_known _ _) (by omega) (fun z p hp => by rw [hb9] at z; rw [k1.leads (by decide)]; exact hlead z p hp)
    have k3 : KC [21] S2 (cs_set_lsize S2 (va_up (cs_lsize S2) 10 0)) := KC.s_lsize
    generalize hS3 : cs_set_lsize S2 (va_up (cs_lsize S2) 10 0) = S3 at k3
    have k03 : KC [6, 7, 21] S S3 := ((k1.mo (by decide)).tr (k2.mo (by decide))).tr (k3.mo (by decide))
    have hls3 : ∀ j, j ≠ 10 → cs_lsize S3 j = cs_lsize S j := fun j hj => by
      rw [← hS3, cs_g_lsize_lsize, va_up_ne _ _ hj, k2.lsize (by decide), k1.lsize (by decide)]
    obtain ⟨S4, e4, k4, j4, l4⟩ := p_ringLoop (N := N) (S := S3) hN (k03.cd (by decide) hd) (by rw [k03.pts (by decide)]; exact hpt) (fun p hp => by rw [k3.leads (by decide)]; exact l2 p hp) ⟨by rw [← hS3, cs_g_lsize_lsize, va_up_self, List.length_nil, Nat.zero_min]; rfl, fun i hi => absurd hi (lr_nil 10 i)⟩
    have kall : KC [6, 7, 8, 11, 12, 20, 21] S S4 := (k03.mo (by decide)).tr (k4.mo (by decide))
    have hit : ∀ j, j ≠ 10 → cs_items S4 j = cs_items S j := fun j h1 => by rw [(j4 j h1).1, k03.items (by decide)]
    have hls : ∀ j, j ≠ 10 → cs_lsize S4 j = cs_lsize S j := fun j h1 => by rw [(j4 j h1).2, hls3 j h1]
    refine ⟨S4, bs e1 <| (if_neg (show ¬ bI (!false) = 0 by decide)).trans <| bs e2 <| bs (congrArg some hS3) e4, kall, ⟨by rw [kall.pts (by decide)]; exact hpt, (hD.kc k03 (by decide)).kc k4 (by decide), (kn ||| 2 ^ 11) ||| 2 ^ 9, Nat.or_lt_two_pow (n := 12) hkn1 (by decide), ?_, fun _ p hp => ?_, fun j hj z => ?_, fun z => ?_, fun z => l4⟩, l4⟩
    · rw [k4.known (by decide), k3.known (by decide)]
      exact kn2
    · rw [k4.leads (by decide), k3.leads (by decide)]
      exact l2 p hp
    · rw [tb_or, tb_or, Bool.or_eq_true, Bool.or_eq_true, decide_eq_true_iff, decide_eq_true_iff] at z
      rcases z with (z | z) | z
      · exact (hlist j hj z).kc (hit j (by omega)) (hls j (by omega))
      · omega
      · omega
    · rw [tb_or, tb_or, Bool.or_eq_true, Bool.or_eq_true, decide_eq_true_iff, decide_eq_true_iff] at z
      rcases z with (z | z) | z
      · exact (hrow z).kc (hit 9 (by decide)) (hls 9 (by decide))
      · omega
      · omega
end ALR
