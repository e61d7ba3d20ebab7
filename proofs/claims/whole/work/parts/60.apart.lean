/-! loops that put to a list -/
def fm (g : Nat → List Nat) (lo n : Nat) : List Nat := (List.range' lo (n - lo)).flatMap g
theorem fm_s {g : Nat → List Nat} {lo n : Nat} (h : lo < n) : fm g lo n = g lo ++ fm g (lo + 1) n := by
  unfold fm
  rw [show n - lo = (n - (lo + 1)) + 1 from by omega, List.range'_succ, List.flatMap_cons]
theorem fm_0 {g : Nat → List Nat} {lo n : Nat} (h : n ≤ lo) : fm g lo n = [] := by
  unfold fm
  rw [show n - lo = 0 from by omega]
  rfl
theorem fm_filter {g : Nat → List Nat} {p : Nat → Bool} {lo n : Nat} : (fm g lo n).filter p = fm (fun a => (g a).filter p) lo n := by
  unfold fm
  rw [List.filter_flatMap]
theorem fm_loop {σ β : Type} {Lp : Nat → Nat → σ → Option β} {K : σ → Option β} {n : Nat} {I : List Nat → σ → Prop} {g : Nat → List Nat} (hi lo : Nat) (hn : n ≤ hi) (step : ∀ fu p s L, lo ≤ p → p < n → I L s → ∃ s', Lp (fu + 1) p s = Lp fu (p + 1) s' ∧ I (L ++ g p) s') (fin : ∀ fu p s L, n ≤ p → p ≤ hi → I L s → Lp (fu + 1) p s = K s) : ∀ (m p fu : Nat) (s : σ) (L : List Nat), n - p = m → lo ≤ p → p ≤ hi → m < fu → I L s → ∃ s', Lp fu p s = K s' ∧ I (L ++ fm g p n) s' := by
  intro m
  induction m with
  | zero =>
    intro p fu s L hm hl hp hf hI
    obtain ⟨f, rfl⟩ : ∃ f, fu = f + 1 := ⟨fu - 1, by omega⟩
    refine ⟨s, fin f p s L (by omega) hp hI, ?_⟩
    rw [fm_0 (by omega), List.append_nil]
    exact hI
  | succ m ih =>
    intro p fu s L hm hl hp hf hI
    obtain ⟨f, rfl⟩ : ∃ f, fu = f + 1 := ⟨fu - 1, by omega⟩
    obtain ⟨s1, e1, I1⟩ := step f p s L hl (by omega) hI
    obtain ⟨s2, e2, I2⟩ := ih (p + 1) f s1 (L ++ g p) (by omega) (by omega) (by omega) (by omega) I1
    refine ⟨s2, e1.trans e2, ?_⟩
    rw [fm_s (by omega), ← List.append_assoc]
    exact I2
/-! the class's lists: what has no room is left out -/
def LR (S : CS) (k : Nat) (L : List Nat) : Prop := cs_lsize S k = nI (min L.length (il_len k)) ∧ ∀ i, i < min L.length (il_len k) → cs_items S k i = nI (L.getD i 0)
theorem il_le (k : Nat) : il_len k ≤ 7140 := by
  unfold il_len
  match k with
  | 0 => decide
  | 1 => decide
  | 2 => decide
  | 3 => decide
  | 4 => decide
  | 5 => decide
  | 6 => decide
  | 7 => decide
  | 8 => decide
  | 9 => decide
  | 10 => decide
  | 11 => decide
  | k + 12 => exact Nat.zero_le _
theorem gd_l {L : List Nat} {w i : Nat} (h : i < L.length) : (L ++ [w]).getD i 0 = L.getD i 0 := by
  rw [List.getD_eq_getElem?_getD, List.getD_eq_getElem?_getD, List.getElem?_append_left h]
theorem gd_e {L : List Nat} {w : Nat} : (L ++ [w]).getD L.length 0 = w := by
  rw [List.getD_eq_getElem?_getD, List.getElem?_append_right (Nat.le_refl _), Nat.sub_self]
  rfl
theorem p_add {N : Nat} {S : CS} {k w : Nat} {L : List Nat} (h : LR S k L) : ∃ S', t_IL_add N k (nI w) S = some S' ∧ LR S' k (L ++ [w]) ∧ KC [20, 21] S S' ∧ ∀ j, j ≠ k → cs_items S' j = cs_items S j ∧ cs_lsize S' j = cs_lsize S j := by
  have hil := il_le k
  obtain ⟨h1, h2⟩ := h
  have hlen : (L ++ [w]).length = L.length + 1 := by rw [List.length_append]; rfl
  unfold t_IL_add
  by_cases hf : L.length < il_len k
  · have hm : min L.length (il_len k) = L.length := Nat.min_eq_left (by omega)
    have hm2 : min (L ++ [w]).length (il_len k) = L.length + 1 := by rw [hlen]; exact Nat.min_eq_left (by omega)
    rw [hm] at h1 h2
    refine ⟨cs_set_lsize (cs_set_items S (va_up (cs_items S) k (upd (cs_items S k) L.length (nI w)))) (va_up (cs_lsize (cs_set_items S (va_up (cs_items S) k (upd (cs_items S k) L.length (nI w))))) k (nI (L.length + 1))), ?_, ⟨?_, fun i hi => ?_⟩, (KC.s_items.mo (by decide)).tr (KC.s_lsize.mo (by decide)), fun j hj => ⟨?_, ?_⟩⟩
    · refine bs (congrArg some h1) <| bs rfl <| (if_neg (nI_ge hf (by omega))).trans <| bs (congrArg some h1) <| bs (twi_n hf (by omega)) <| bs rfl <| bs (x := nI L.length) ?_ <| bs ?_ rfl
      · rw [cs_g_lsize_items, h1]
      · rw [nI_1]
    · rw [cs_g_lsize_lsize, va_up_self, hm2]
    · rw [cs_g_items_lsize, cs_g_items_items, va_up_self]
      rw [hm2] at hi
      by_cases hil2 : i = L.length
      · rw [hil2, pk_us, gd_e]
      · rw [pk_un hil2, gd_l (by omega)]
        exact h2 i (by omega)
    · rw [cs_g_items_lsize, cs_g_items_items, va_up_ne _ _ hj]
    · rw [cs_g_lsize_lsize, va_up_ne _ _ hj, cs_g_lsize_items]
  · have hm : min L.length (il_len k) = il_len k := Nat.min_eq_right (by omega)
    have hm2 : min (L ++ [w]).length (il_len k) = il_len k := by rw [hlen]; exact Nat.min_eq_right (by omega)
    rw [hm] at h1 h2
    refine ⟨S, bs (congrArg some h1) <| bs rfl <| if_pos (nI_le (Nat.le_refl _) (by omega)), ⟨by rw [hm2]; exact h1, fun i hi => ?_⟩, KC.rf, fun j hj => ⟨rfl, rfl⟩⟩
    rw [hm2] at hi
    rw [gd_l (by omega)]
    exact h2 i hi
/-! points that are apart -/
def apt (s : Nat → Nat → Bool) (v : Nat → Nat) (m : Nat) : Bool := decide (∀ i, i < m → ∀ j, j < m → s (v i) (v j) = true → v i = v j)
theorem apt_iff {s : Nat → Nat → Bool} {v : Nat → Nat} {m : Nat} : apt s v m = true ↔ ∀ i, i < m → ∀ j, j < m → s (v i) (v j) = true → v i = v j := decide_eq_true_iff
theorem ft_n {n p : Nat} {f : Nat → Int32} (h : p < n) (hn : n < 2147483648) : ft_i n f (nI p) = some (f p) := by
  unfold ft_i
  rw [if_neg (nI_in h (by omega)), nI_clamp (by omega)]
theorem tb2_n : ∀ k, k < 9 → tb_2 k = nI (npk k) := by decide
theorem npk_le : ∀ k, k < 9 → npk k ≤ 6 := by decide
section APT
variable {N : Nat} {S : CS} {f n : Nat} {b : Nat → Bool} {X Y : Nat → Nat → Int} {w k : Nat}
theorem p_isApart (hN : 25 ≤ N) (hn : n ≤ 10) (hl : ∀ p, p < n → cs_leads S p = nI (led f b X Y p)) (hk : k < 9) (hw : w < 2147483648) (hp : ∀ j, j < npk k → rk w j < n) : t_Fs_isApart N (nI k) (nI w) S = some (bI (apt (sam f b X Y) (rk w) (npk k))) := by
  have hnp := npk_le k hk
  have ht : ft_i 9 tb_2 (nI k) = some (nI (npk k)) := by rw [ft_n hk (by decide), tb2_n k hk]
  have main := up_loop (σ := Nat × Nat) (L := fun fu p s => tl_Fs_isApart_8 N fu (nI k) (nI w) (nI s.1) (nI s.2) (nI p) S) (e := npk k) (I := fun p s => s.1 < 1024 ∧ s.2 < 1024 ∧ (∀ j, s.1.testBit j = true ↔ ∃ i, i < p ∧ rk w i = j) ∧ (∀ j, s.2.testBit j = true ↔ ∃ i, i < p ∧ led f b X Y (rk w i) = j) ∧ pop s.2 ≤ pop s.1 ∧ (pop s.1 = pop s.2 ↔ apt (sam f b X Y) (rk w) p = true)) (Q := fun o => o = some (bI (apt (sam f b X Y) (rk w) (npk k)))) (by
    intro fu p s hpk hI
    obtain ⟨h1, h2, h3, h4, h5, h6⟩ := hI
    have hpn := hp p hpk
    have hle : ¬ nI (npk k) ≤ nI p := nI_ge hpk (by omega)
    have hled := led_le (f := f) (b := b) (X := X) (Y := Y) (p := rk w p)
    have nx1 : some (nI p + 1) = some (nI (p + 1)) := by rw [nI_1]
    have eu := p_unpack (N := N) hw (k := p) (by omega)
    refine Or.inl ⟨(s.1 ||| 2 ^ rk w p, s.2 ||| 2 ^ led f b X Y (rk w p)), ?_, or_lt h1 (by omega), or_lt h2 (by omega), fun j => ?_, fun j => ?_, ?_⟩
    · show tb_Fs_isApart_8 N (tl_Fs_isApart_8 N fu) (nI k) (nI w) (nI s.1) (nI s.2) (nI p) S = _
      unfold tb_Fs_isApart_8
      exact bs ht <| (if_neg hle).trans <| bs eu <| bs (by rw [sh_one _ (by omega), nI_or]) <| bs (ta_n (by omega) (by decide)) <| bs (by rw [hl _ hpn, sh_one _ (by omega), nI_or]) <| bs nx1 rfl
    · rw [tb_or, Bool.or_eq_true, h3 j, decide_eq_true_iff]
      constructor
      · rintro (⟨a, z1, z2⟩ | z)
        · exact ⟨a, by omega, z2⟩
        · exact ⟨p, by omega, z⟩
      · rintro ⟨a, z1, z2⟩
        by_cases hap : a = p
        · subst hap; exact Or.inr z2
        · exact Or.inl ⟨a, by omega, z2⟩
    · rw [tb_or, Bool.or_eq_true, h4 j, decide_eq_true_iff]
      constructor
      · rintro (⟨a, z1, z2⟩ | z)
        · exact ⟨a, by omega, z2⟩
        · exact ⟨p, by omega, z⟩
      · rintro ⟨a, z1, z2⟩
        by_cases hap : a = p
        · subst hap; exact Or.inr z2
        · exact Or.inl ⟨a, by omega, z2⟩
    · by_cases o1 : s.1.testBit (rk w p) = true
      · obtain ⟨a, z1, z2⟩ := (h3 _).mp o1
        have o2 : s.2.testBit (led f b X Y (rk w p)) = true := (h4 _).mpr ⟨a, z1, by rw [z2]⟩
        show pop (s.2 ||| 2 ^ led f b X Y (rk w p)) ≤ pop (s.1 ||| 2 ^ rk w p) ∧ (pop (s.1 ||| 2 ^ rk w p) = pop (s.2 ||| 2 ^ led f b X Y (rk w p)) ↔ _)
        rw [pop_old o1, pop_old o2]
        refine ⟨h5, h6.trans ?_⟩
        rw [apt_iff, apt_iff]
        constructor
        · intro q i hi j hj hs
          have r1 : ∃ i', i' < p ∧ rk w i' = rk w i := by
            by_cases hip : i = p
            · subst hip; exact ⟨a, z1, z2⟩
            · exact ⟨i, by omega, rfl⟩
          have r2 : ∃ j', j' < p ∧ rk w j' = rk w j := by
            by_cases hjp : j = p
            · subst hjp; exact ⟨a, z1, z2⟩
            · exact ⟨j, by omega, rfl⟩
          obtain ⟨i', y1, y2⟩ := r1
          obtain ⟨j', y3, y4⟩ := r2
          rw [← y2, ← y4] at hs ⊢
          exact q i' y1 j' y3 hs
        · intro q i hi j hj hs
          exact q i (by omega) j (by omega) hs
      · by_cases o2 : s.2.testBit (led f b X Y (rk w p)) = true
        · show pop (s.2 ||| 2 ^ led f b X Y (rk w p)) ≤ pop (s.1 ||| 2 ^ rk w p) ∧ (pop (s.1 ||| 2 ^ rk w p) = pop (s.2 ||| 2 ^ led f b X Y (rk w p)) ↔ _)
          rw [pop_new (by omega) o1, pop_old o2]
          refine ⟨by omega, ⟨fun z => by omega, fun z => ?_⟩⟩
          obtain ⟨a, z1, z2⟩ := (h4 _).mp o2
          have := (apt_iff.mp z) a (by omega) p (by omega) (led_eq.mp z2)
          exact absurd ((h3 _).mpr ⟨a, z1, this⟩) o1
        · show pop (s.2 ||| 2 ^ led f b X Y (rk w p)) ≤ pop (s.1 ||| 2 ^ rk w p) ∧ (pop (s.1 ||| 2 ^ rk w p) = pop (s.2 ||| 2 ^ led f b X Y (rk w p)) ↔ _)
          rw [pop_new (by omega) o1, pop_new (by omega) o2]
          refine ⟨by omega, ?_⟩
          refine Iff.trans ⟨fun z => h6.mp (by omega), fun z => by have := h6.mpr z; omega⟩ ?_
          rw [apt_iff, apt_iff]
          constructor
          · intro q i hi j hj hs
            by_cases hip : i = p
            · by_cases hjp : j = p
              · rw [hip, hjp]
              · subst hip
                exact absurd ((h4 _).mpr ⟨j, by omega, (led_eq.mpr hs).symm⟩) o2
            · by_cases hjp : j = p
              · subst hjp
                exact absurd ((h4 _).mpr ⟨i, by omega, led_eq.mpr hs⟩) o2
              · exact q i (by omega) j (by omega) hs
          · intro q i hi j hj hs
            exact q i (by omega) j (by omega) hs) (by
    intro fu s hI
    obtain ⟨h1, h2, h3, h4, h5, h6⟩ := hI
    show tb_Fs_isApart_8 N (tl_Fs_isApart_8 N fu) (nI k) (nI w) (nI s.1) (nI s.2) (nI (npk k)) S = _
    unfold tb_Fs_isApart_8
    have l1 := stn_le (fun j => s.1.testBit j) 10
    have l2 := stn_le (fun j => s.2.testBit j) 10
    refine bs ht <| (if_pos (nI_le (Nat.le_refl _) (by omega))).trans <| bs (p_bitCount h1) <| bs (p_bitCount h2) <| ifb ?_
    rw [nI_eq (by unfold pop; omega) (by unfold pop; omega)]
    exact h6)
  refine main (npk k) 0 N (0, 0) (by omega) (by omega) ⟨by decide, by decide, fun j => ?_, fun j => ?_, by decide, ?_⟩
  · show (0 : Nat).testBit j = true ↔ _
    rw [Nat.zero_testBit]
    constructor
    · intro z; cases z
    · rintro ⟨a, h, _⟩; omega
  · show (0 : Nat).testBit j = true ↔ _
    rw [Nat.zero_testBit]
    constructor
    · intro z; cases z
    · rintro ⟨a, h, _⟩; omega
  · rw [apt_iff]
    exact ⟨fun _ i hi => by omega, fun _ => rfl⟩
/-- a list k that is being made, behind the state S -/
def BI (S : CS) (k : Nat) (L : List Nat) (S1 : CS) : Prop := KC [11, 12, 20, 21] S S1 ∧ DV S1 ∧ (∀ j, j ≠ k → cs_items S1 j = cs_items S j ∧ cs_lsize S1 j = cs_lsize S j) ∧ LR S1 k L
def ctl (f : Nat) (b : Nat → Bool) (X Y : Nat → Nat → Int) (k w : Nat) : Bool := hld f b X Y k (rk w) && apt (sam f b X Y) (rk w) (npk k)
theorem BI.add {S1 S2 : CS} {L : List Nat} (h : BI S k L S1) (hk : KC [11, 12, 20, 21] S1 S2) (hD : DV S2) (hj : ∀ j, j ≠ k → cs_items S2 j = cs_items S1 j ∧ cs_lsize S2 j = cs_lsize S1 j) {L2 : List Nat} (hl : LR S2 k L2) : BI S k L2 S2 := ⟨h.1.tr hk, hD, fun j hjk => ⟨(hj j hjk).1.trans (h.2.2.1 j hjk).1, (hj j hjk).2.trans (h.2.2.1 j hjk).2⟩, hl⟩
theorem DV.kc {S1 S2 : CS} {l : List Nat} (h : DV S1) (hk : KC l S1 S2) (hl : 11 ∉ l ∧ 12 ∉ l) : DV S2 := by
  unfold DV at h ⊢
  rw [hk.divr hl.1, hk.invs hl.2]
  exact h
theorem p_consider {S1 : CS} {L : List Nat} (hN : 25 ≤ N) (hd : CD S 0 f n b X Y) (hl : ∀ p, p < n → cs_leads S p = nI (led f b X Y p)) (hk : k < 8) (hw : w < 2147483648) (hp : ∀ j, j < npk k → rk w j < n) (hB : BI S k L S1) : ∃ S2, t_Fs_consider N (nI k) (nI w) S1 = some S2 ∧ BI S k (L ++ [w].filter (ctl f b X Y k)) S2 := by
  have hd1 := hB.1.cd (by decide) hd
  have hl1 : ∀ p, p < n → cs_leads S1 p = nI (led f b X Y p) := fun p hp => by rw [hB.1.leads (by decide)]; exact hl p hp
  have e1 := p_shown (N := N) hN hd1 hk hw hp
  have e2 := p_isApart (N := N) (k := k) hN hd.2.1 hl1 (by omega) hw hp
  have hc : ctl f b X Y k w = (alk f b X Y k (rk w) && apt (sam f b X Y) (rk w) (npk k)) := by
    unfold ctl hld
    rw [if_pos hk]
  have fno : ¬ ctl f b X Y k w = true → L ++ [w].filter (ctl f b X Y k) = L := fun h => by
    rw [List.filter_cons_of_neg h, List.filter_nil, List.append_nil]
  unfold t_Fs_consider
  by_cases h1 : alk f b X Y k (rk w) = true
  · by_cases h2 : apt (sam f b X Y) (rk w) (npk k) = true
    · have h3 : ctl f b X Y k w = true := by rw [hc, h1, h2]; rfl
      obtain ⟨S2, e3, l3, k3, j3⟩ := p_add (N := N) (w := w) hB.2.2.2
      refine ⟨S2, bs e1 <| (if_neg (fun z => bI_0.mp z h1)).trans <| bs e2 <| (if_neg (fun z => bI_0.mp z h2)).trans <| bs (ta_n (by omega) (by decide)) <| bs e3 rfl, ?_⟩
      rw [List.filter_cons_of_pos h3, List.filter_nil]
      exact hB.add (k3.mo (by decide)) (hB.2.1.kc k3 (by decide)) j3 l3
    · refine ⟨S1, bs e1 <| (if_neg (fun z => bI_0.mp z h1)).trans <| bs e2 <| if_pos (bI_0.mpr h2), ?_⟩
      rw [fno (by rw [hc, Bool.and_eq_true]; exact fun z => h2 z.2)]
      exact hB
  · refine ⟨S1, bs e1 <| if_pos (bI_0.mpr h1), ?_⟩
    rw [fno (by rw [hc, Bool.and_eq_true]; exact fun z => h1 z.1)]
    exact hB
end APT
