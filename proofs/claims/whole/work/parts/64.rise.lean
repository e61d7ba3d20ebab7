/-! a list that rises -/
theorem gd_ins1 {A B : List Nat} {w j : Nat} (h : j < A.length) : (A ++ w :: B).getD j 0 = (A ++ B).getD j 0 := by
  rw [List.getD_eq_getElem?_getD, List.getD_eq_getElem?_getD, List.getElem?_append_left h, List.getElem?_append_left h]
theorem gd_ins2 {A B : List Nat} {w : Nat} : (A ++ w :: B).getD A.length 0 = w := by
  rw [List.getD_eq_getElem?_getD, List.getElem?_append_right (Nat.le_refl _), Nat.sub_self]
  rfl
theorem gd_ins3 {A B : List Nat} {w j : Nat} (h : A.length < j) : (A ++ w :: B).getD j 0 = (A ++ B).getD (j - 1) 0 := by
  rw [List.getD_eq_getElem?_getD, List.getD_eq_getElem?_getD, List.getElem?_append_right (by omega), List.getElem?_append_right (by omega), show j - A.length = (j - 1 - A.length) + 1 from by omega, List.getElem?_cons_succ]
theorem LR.le {S : CS} {k : Nat} {L : List Nat} (h : LR S k L) (hl : L.length ≤ il_len k) : cs_lsize S k = nI L.length ∧ ∀ i, i < L.length → cs_items S k i = nI (L.getD i 0) := by
  obtain ⟨h1, h2⟩ := h
  rw [Nat.min_eq_left hl] at h1 h2
  exact ⟨h1, h2⟩
theorem LR.of {S : CS} {k : Nat} {L : List Nat} (hl : L.length ≤ il_len k) (h1 : cs_lsize S k = nI L.length) (h2 : ∀ i, i < L.length → cs_items S k i = nI (L.getD i 0)) : LR S k L := by
  unfold LR
  rw [Nat.min_eq_left hl]
  exact ⟨h1, h2⟩
section RIS
variable {N : Nat} {S : CS} {i w : Nat} {A B : List Nat}
theorem ris_end (hlen : (A ++ B).length < il_len i) (hls : cs_lsize S i = nI (A ++ B).length) : ∀ (t fu : Nat) (S1 : CS), t < fu → t ≤ B.length → KC [20] S S1 → (∀ j, j ≠ i → cs_items S1 j = cs_items S j) → (∀ j, j < A.length + t → cs_items S1 i j = nI ((A ++ B).getD j 0)) → (∀ j, A.length + t < j → j ≤ (A ++ B).length → cs_items S1 i j = nI ((A ++ B).getD (j - 1) 0)) →
    ∃ S', tl_IL_addRising_62 N i fu (nI w) (nI A.length) (nI (A.length + t)) S1 = some S' ∧ LR S' i (A ++ w :: B) ∧ KC [20, 21] S S' ∧ ∀ j, j ≠ i → cs_items S' j = cs_items S j ∧ cs_lsize S' j = cs_lsize S j := by
  have hil := il_le i
  have hAB : (A ++ B).length = A.length + B.length := List.length_append
  have hAwB : (A ++ w :: B).length = A.length + B.length + 1 := by rw [List.length_append, List.length_cons]; omega
  intro t
  induction t with
  | zero =>
    intro fu S1 hfu ht hK hj h1 h2
    obtain ⟨fu, rfl⟩ : ∃ f, fu = f + 1 := ⟨fu - 1, by omega⟩
    have hls1 : cs_lsize S1 i = nI (A ++ B).length := by rw [hK.lsize (by decide), hls]
    have wr : twi (il_len i) (cs_items S1 i) (nI A.length) (nI w) = some (upd (cs_items S1 i) A.length (nI w)) := twi_n (by omega) (by omega)
    generalize hS2 : cs_set_items S1 (va_up (cs_items S1) i (upd (cs_items S1 i) A.length (nI w))) = S2
    have k2 : KC [20] S1 S2 := by rw [← hS2]; exact KC.s_items
    have hls2 : cs_lsize S2 i = nI (A ++ B).length := by rw [k2.lsize (by decide), hls1]
    have it2 : cs_items S2 i = upd (cs_items S1 i) A.length (nI w) := by rw [← hS2, cs_g_items_items, va_up_self]
    refine ⟨cs_set_lsize S2 (va_up (cs_lsize S2) i (cs_lsize S2 i + 1)), ?_, ?_, ((hK.mo (by decide)).tr (k2.mo (by decide))).tr (KC.s_lsize.mo (by decide)), fun j hji => ⟨?_, ?_⟩⟩
    · show tb_IL_addRising_62 N (tl_IL_addRising_62 N i fu) i (nI w) (nI A.length) (nI (A.length + 0)) S1 = _
      unfold tb_IL_addRising_62
      exact (if_pos (nI_le (by omega) (by omega))).trans <| bs wr <| bs (congrArg some hS2) <| bs rfl <| bs rfl rfl
    · refine LR.of (by omega) ?_ (fun j hjl => ?_)
      · rw [cs_g_lsize_lsize, va_up_self, hls2, nI_1, hAB, hAwB]
      · rw [cs_g_items_lsize, it2]
        by_cases hjA : j = A.length
        · rw [hjA, pk_us, gd_ins2]
        · rw [pk_un hjA]
          by_cases hjl2 : j < A.length
          · rw [gd_ins1 hjl2]
            exact h1 j (by omega)
          · rw [gd_ins3 (by omega)]
            exact h2 j (by omega) (by omega)
    · rw [cs_g_items_lsize, ← hS2, cs_g_items_items, va_up_ne _ _ hji]
      exact hj j hji
    · rw [cs_g_lsize_lsize, va_up_ne _ _ hji, k2.lsize (by decide), hK.lsize (by decide)]
  | succ t ih =>
    intro fu S1 hfu ht hK hj h1 h2
    obtain ⟨fu, rfl⟩ : ∃ f, fu = f + 1 := ⟨fu - 1, by omega⟩
    have e1 : nI (A.length + (t + 1)) - 1 = nI (A.length + t) := by
      rw [show A.length + (t + 1) = A.length + t + 1 from by omega]; exact nI_pred _
    have e2 : nI (A.length + (t + 1)) + (-1) = nI (A.length + t) := by
      rw [show A.length + (t + 1) = A.length + t + 1 from by omega]; exact pk_m1 _
    have rd : ta (il_len i) (cs_items S1 i) (nI (A.length + (t + 1)) - 1) = some (nI ((A ++ B).getD (A.length + t) 0)) := by
      rw [e1, ta_n (by omega) (by omega), h1 _ (by omega)]
    have wr : twi (il_len i) (cs_items S1 i) (nI (A.length + (t + 1))) (nI ((A ++ B).getD (A.length + t) 0)) = some (upd (cs_items S1 i) (A.length + (t + 1)) (nI ((A ++ B).getD (A.length + t) 0))) := twi_n (by omega) (by omega)
    generalize hS2 : cs_set_items S1 (va_up (cs_items S1) i (upd (cs_items S1 i) (A.length + (t + 1)) (nI ((A ++ B).getD (A.length + t) 0)))) = S2
    have k2 : KC [20] S1 S2 := by rw [← hS2]; exact KC.s_items
    have it2 : cs_items S2 i = upd (cs_items S1 i) (A.length + (t + 1)) (nI ((A ++ B).getD (A.length + t) 0)) := by rw [← hS2, cs_g_items_items, va_up_self]
    obtain ⟨S', e, r⟩ := ih fu S2 (by omega) (by omega) (hK.tr k2) (fun j hji => by rw [← hS2, cs_g_items_items, va_up_ne _ _ hji]; exact hj j hji) (fun j hjl => by rw [it2, pk_un (by omega)]; exact h1 j (by omega)) (fun j hjl hjl2 => by
      rw [it2]
      by_cases hjt : j = A.length + (t + 1)
      · rw [hjt, pk_us, show A.length + (t + 1) - 1 = A.length + t from by omega]
      · rw [pk_un hjt]
        exact h2 j (by omega) hjl2)
    refine ⟨S', ?_, r⟩
    show tb_IL_addRising_62 N (tl_IL_addRising_62 N i fu) i (nI w) (nI A.length) (nI (A.length + (t + 1))) S1 = _
    unfold tb_IL_addRising_62
    exact (if_neg (nI_ge (by omega) (by omega))).trans <| bs rd <| bs wr <| bs (congrArg some hS2) <| bs (congrArg some e2) e
theorem ris_at (hN : il_len i + 5 ≤ N) (hlen : (A ++ B).length ≤ il_len i) (hL : LR S i (A ++ B)) (hA : ∀ x, x ∈ A → x < w) (hB : ∀ x, x ∈ B → w ≤ x ∧ x < 2147483648) (hw : w < 2147483648) : t_IL_addRising N i (nI w) S = tb_IL_addRising_26 N i (nI w) (nI A.length) S := by
  have hil := il_le i
  obtain ⟨hls, hit⟩ := hL.le hlen
  have hAB : (A ++ B).length = A.length + B.length := List.length_append
  have main := up_loop (σ := Unit) (L := fun fu p _ => tl_IL_addRising_2 N i fu (nI w) (nI p) S) (e := A.length) (I := fun p _ => p ≤ A.length) (Q := fun o => o = tb_IL_addRising_26 N i (nI w) (nI A.length) S) (by
    intro fu p u hp _
    refine Or.inl ⟨(), ?_, by omega⟩
    have hg : (A ++ B).getD p 0 ∈ A := by
      rw [List.getD_eq_getElem?_getD, List.getElem?_append_left hp, List.getElem?_eq_getElem hp]
      exact List.getElem_mem hp
    have hlt := hA _ hg
    show tb_IL_addRising_2 N (tl_IL_addRising_2 N i fu) i (nI w) (nI p) S = _
    unfold tb_IL_addRising_2
    exact bs rfl <| (if_neg (by rw [hls]; exact nI_ge (by omega) (by omega))).trans <| bs ((ta_n (by omega) (by omega)).trans (congrArg some (hit p (by omega)))) <| (if_neg (nI_ge hlt (by omega))).trans <| bs (by rw [nI_1]) rfl) (by
    intro fu u _
    show tb_IL_addRising_2 N (tl_IL_addRising_2 N i fu) i (nI w) (nI A.length) S = _
    unfold tb_IL_addRising_2
    by_cases hB0 : B.length = 0
    · exact bs rfl <| if_pos (by rw [hls]; exact nI_le (by omega) (by omega))
    · have hg : (A ++ B).getD A.length 0 ∈ B := by
        rw [List.getD_eq_getElem?_getD, List.getElem?_append_right (Nat.le_refl _), Nat.sub_self, List.getElem?_eq_getElem (by omega)]
        exact List.getElem_mem _
      have hge := hB _ hg
      exact bs rfl <| (if_neg (by rw [hls]; exact nI_ge (by omega) (by omega))).trans <| bs ((ta_n (by omega) (by omega)).trans (congrArg some (hit A.length (by omega)))) <| if_pos (nI_le hge.1 (by omega)))
  exact main A.length 0 N () (by omega) (by omega) (by omega)
theorem p_addRising (hN : il_len i + 5 ≤ N) (hlen : (A ++ B).length < il_len i) (hL : LR S i (A ++ B)) (hA : ∀ x, x ∈ A → x < w) (hB : ∀ x, x ∈ B → w < x ∧ x < 2147483648) (hw : w < 2147483648) : ∃ S', t_IL_addRising N i (nI w) S = some S' ∧ LR S' i (A ++ w :: B) ∧ KC [20, 21] S S' ∧ ∀ j, j ≠ i → cs_items S' j = cs_items S j ∧ cs_lsize S' j = cs_lsize S j := by
  have hil := il_le i
  have hAB : (A ++ B).length = A.length + B.length := List.length_append
  rw [ris_at hN (by omega) hL hA (fun x hx => ⟨by have := (hB x hx).1; omega, (hB x hx).2⟩) hw]
  obtain ⟨hls, hit⟩ := hL.le (by omega)
  obtain ⟨S', e, r⟩ := ris_end (N := N) (w := w) hlen hls B.length N S (by omega) (Nat.le_refl _) KC.rf (fun j _ => rfl) (fun j hj => hit j (by omega)) (fun j h1 h2 => by omega)
  rw [← hAB] at e
  have e44 : tb_IL_addRising_44 N i (nI w) (nI A.length) S = some S' := by
    unfold tb_IL_addRising_44
    exact bs rfl <| bs rfl <| (if_pos (by rw [hls]; exact nI_lt hlen (by omega))).trans <| bs (congrArg some hls) e
  refine ⟨S', ?_, r⟩
  unfold tb_IL_addRising_26
  by_cases hB0 : B.length = 0
  · exact bs rfl <| (if_pos (by rw [hls]; exact nI_le (by omega) (by omega))).trans e44
  · have hg : (A ++ B).getD A.length 0 ∈ B := by
      rw [List.getD_eq_getElem?_getD, List.getElem?_append_right (Nat.le_refl _), Nat.sub_self, List.getElem?_eq_getElem (by omega)]
      exact List.getElem_mem _
    have hge := hB _ hg
    exact bs rfl <| (if_neg (by rw [hls]; exact nI_ge (by omega) (by omega))).trans <| bs ((ta_n (by omega) (by omega)).trans (congrArg some (hit A.length (by omega)))) <| (if_neg (fun z => by have := (nI_eq (by omega) (by omega)).mp z; omega)).trans e44
theorem p_addOld (hN : il_len i + 5 ≤ N) (hlen : (A ++ w :: B).length ≤ il_len i) (hL : LR S i (A ++ w :: B)) (hA : ∀ x, x ∈ A → x < w) (hB : ∀ x, x ∈ B → w < x ∧ x < 2147483648) (hw : w < 2147483648) : t_IL_addRising N i (nI w) S = some S := by
  have hil := il_le i
  have hAB : (A ++ w :: B).length = A.length + B.length + 1 := by rw [List.length_append, List.length_cons]; omega
  rw [ris_at hN hlen hL hA (fun x hx => by
    rcases List.mem_cons.mp hx with h | h
    · subst h; exact ⟨Nat.le_refl _, hw⟩
    · exact ⟨by have := (hB x h).1; omega, (hB x h).2⟩) hw]
  obtain ⟨hls, hit⟩ := hL.le hlen
  unfold tb_IL_addRising_26
  exact bs rfl <| (if_neg (by rw [hls]; exact nI_ge (by omega) (by omega))).trans <| bs ((ta_n (by omega) (by omega)).trans (congrArg some ((hit A.length (by omega)).trans (by rw [gd_ins2])))) <| if_pos rfl
end RIS
/-! sets below 1024 as lists that rise -/
def upto (q : Nat → Bool) : List Nat := (List.range 1024).filter q
theorem rg_split {w : Nat} (hw : w < 1024) : List.range 1024 = List.range' 0 w ++ w :: List.range' (w + 1) (1023 - w) := by
  have h1 := List.range'_append_1 (s := 0) (m := w) (n := 1 + (1023 - w))
  rw [Nat.zero_add] at h1
  have h2 : List.range' w (1 + (1023 - w)) = w :: List.range' (w + 1) (1023 - w) := by rw [Nat.add_comm 1, List.range'_succ]
  rw [← h2, h1, List.range_eq_range', show w + (1 + (1023 - w)) = 1024 from by omega]
theorem upto_add {q : Nat → Bool} {w : Nat} (hw : w < 1024) : ∃ A B : List Nat, (∀ x, x ∈ A → x < w) ∧ (∀ x, x ∈ B → w < x ∧ x < 2147483648) ∧ (q w = true → upto q = A ++ w :: B) ∧ (¬ q w = true → upto q = A ++ B) ∧ upto (fun m => q m || decide (m = w)) = A ++ w :: B := by
  refine ⟨(List.range' 0 w).filter q, (List.range' (w + 1) (1023 - w)).filter q, fun x hx => ?_, fun x hx => ?_, fun h => ?_, fun h => ?_, ?_⟩
  · have := List.mem_range'_1.mp (List.mem_filter.mp hx).1
    omega
  · have := List.mem_range'_1.mp (List.mem_filter.mp hx).1
    omega
  · unfold upto
    rw [rg_split hw, List.filter_append, List.filter_cons_of_pos h]
  · unfold upto
    rw [rg_split hw, List.filter_append, List.filter_cons_of_neg h]
  · unfold upto
    rw [rg_split hw, List.filter_append, List.filter_cons_of_pos (by simp)]
    congr 1
    · apply List.filter_congr
      intro x hx
      have := List.mem_range'_1.mp hx
      rw [decide_eq_false (by omega), Bool.or_false]
    · congr 1
      apply List.filter_congr
      intro x hx
      have := List.mem_range'_1.mp hx
      rw [decide_eq_false (by omega), Bool.or_false]
theorem p_rise {N : Nat} {S : CS} {i w : Nat} {q : Nat → Bool} (hN : il_len i + 5 ≤ N) (hL : LR S i (upto q)) (hlen : (upto q).length < il_len i) (hw : w < 1024) : ∃ S', t_IL_addRising N i (nI w) S = some S' ∧ LR S' i (upto (fun m => q m || decide (m = w))) ∧ KC [20, 21] S S' ∧ (∀ j, j ≠ i → cs_items S' j = cs_items S j ∧ cs_lsize S' j = cs_lsize S j) ∧ (upto (fun m => q m || decide (m = w))).length ≤ (upto q).length + 1 := by
  obtain ⟨A, B, hA, hB, h1, h2, h3⟩ := upto_add (q := q) hw
  rw [h3]
  by_cases hq : q w = true
  · have e := h1 hq
    rw [e] at hL hlen ⊢
    exact ⟨S, p_addOld hN (by omega) hL hA hB (by omega), hL, KC.rf, fun j _ => ⟨rfl, rfl⟩, by omega⟩
  · have e := h2 hq
    rw [e] at hL hlen ⊢
    obtain ⟨S', e1, l1, k1, j1⟩ := p_addRising (N := N) hN hlen hL hA hB (by omega)
    refine ⟨S', e1, l1, k1, j1, ?_⟩
    rw [List.length_append, List.length_append, List.length_cons]
    omega
theorem upto_congr {q r : Nat → Bool} (h : ∀ m, m < 1024 → q m = r m) : upto q = upto r := by
  unfold upto
  apply List.filter_congr
  intro x hx
  exact h x (List.mem_range.mp hx)
/-! rows and rings of the class -/
theorem plc_le (s : Nat → Nat → Bool) (w : Nat) : ∀ m, plc s w m ≤ m := by
  intro m
  induction m with
  | zero => exact Nat.le_refl 0
  | succ m ih =>
    unfold plc
    split <;> omega
theorem p2_lt : ∀ a, a < 10 → 2 ^ a < 1024 := by decide
section ROW
variable {N : Nat} {S : CS} {f n : Nat} {b : Nat → Bool} {X Y : Nat → Nat → Int}
/-- list i is being made out of the sets q -/
def RI (S : CS) (i : Nat) (q : Nat → Bool) (c : Nat) (S1 : CS) : Prop := KC [20, 21] S S1 ∧ (∀ j, j ≠ i → cs_items S1 j = cs_items S j ∧ cs_lsize S1 j = cs_lsize S j) ∧ LR S1 i (upto q) ∧ (upto q).length ≤ c
theorem RI.rise {i w c : Nat} {q : Nat → Bool} {S1 : CS} (h : RI S i q c S1) (hN : il_len i + 5 ≤ N) (hc : c < il_len i) (hw : w < 1024) : ∃ S2, t_IL_addRising N i (nI w) S1 = some S2 ∧ RI S i (fun m => q m || decide (m = w)) (c + 1) S2 := by
  obtain ⟨hK, hj, hL, hl⟩ := h
  obtain ⟨S2, e, l2, k2, j2, c2⟩ := p_rise (N := N) hN hL (by omega) hw
  exact ⟨S2, e, hK.tr k2, fun j hj2 => ⟨(j2 j hj2).1.trans (hj j hj2).1, (j2 j hj2).2.trans (hj j hj2).2⟩, l2, by omega⟩
def rowc (f n : Nat) (b : Nat → Bool) (X Y : Nat → Nat → Int) (a c m : Nat) : Bool := decide (¬ sam f b X Y a c = true ∧ m = lin f n b X Y a c ∧ 3 ≤ plc (sam f b X Y) m n)
def ringc (f n : Nat) (b : Nat → Bool) (X Y : Nat → Nat → Int) (a c d m : Nat) : Bool := decide (¬ sam f b X Y a c = true ∧ ¬ sam f b X Y a d = true ∧ ¬ sam f b X Y c d = true ∧ ¬ alk f b X Y 1 (v3 a c d) = true ∧ m = rng f n b X Y a c d ∧ 4 ≤ plc (sam f b X Y) m n)
theorem RI.to {i c : Nat} {q r : Nat → Bool} {S1 : CS} {c2 : Nat} (h : RI S i q c S1) (hq : ∀ m, m < 1024 → q m = r m) (hc : c ≤ c2) : RI S i r c2 S1 := by
  have e := upto_congr hq
  exact ⟨h.1, h.2.1, e ▸ h.2.2.1, by rw [← e]; exact Nat.le_trans h.2.2.2 hc⟩
theorem p_addRow {a c k : Nat} {q : Nat → Bool} {S1 : CS} (hN : 200 ≤ N) (hd : CD S 0 f n b X Y) (hpt : cs_pts S = nI n) (hl : ∀ p, p < n → cs_leads S p = nI (led f b X Y p)) (ha : a < n) (hc : c < n) (hR : RI S 9 q k S1) (hk : k < 45) : ∃ S2, t_Fs_addRow N (nI a) (nI c) S1 = some S2 ∧ RI S 9 (fun m => q m || rowc f n b X Y a c m) (k + 1) S2 := by
  have hn := hd.2.1
  have hd1 := hR.1.cd (by decide) hd
  have hpt1 : cs_pts S1 = nI n := by rw [hR.1.pts (by decide), hpt]
  have hl1 : ∀ p, p < n → cs_leads S1 p = nI (led f b X Y p) := fun p hp => by rw [hR.1.leads (by decide)]; exact hl p hp
  have ta1 : ta 16 (cs_leads S1) (nI a) = some (nI (led f b X Y a)) := (ta_n (by omega) (by decide)).trans (congrArg some (hl1 a ha))
  have ta2 : ta 16 (cs_leads S1) (nI c) = some (nI (led f b X Y c)) := (ta_n (by omega) (by decide)).trans (congrArg some (hl1 c hc))
  have l1 := led_le (f := f) (b := b) (X := X) (Y := Y) (p := a)
  have l2 := led_le (f := f) (b := b) (X := X) (Y := Y) (p := c)
  unfold t_Fs_addRow
  by_cases hs : sam f b X Y a c = true
  · refine ⟨S1, bs ta1 <| bs ta2 <| if_pos (by rw [led_eq.mpr hs]), hR.to (fun m _ => ?_) (by omega)⟩
    unfold rowc
    rw [decide_eq_false (fun z => z.1 hs), Bool.or_false]
  · have main := up_loop (σ := Nat) (L := fun fu p l => tl_Fs_addRow_27 N fu (nI a) (nI c) (nI l) (nI p) S1) (e := n) (I := fun p l => l < 1024 ∧ ∀ j, l.testBit j = true ↔ (j = a ∨ j = c ∨ (j < p ∧ alk f b X Y 1 (v3 a c j) = true))) (Q := fun o => ∃ S2, o = some S2 ∧ RI S 9 (fun m => q m || rowc f n b X Y a c m) (k + 1) S2) (by
      intro fu p l hp hI
      have hle : ¬ cs_pts S1 ≤ nI p := by rw [hpt1]; exact nI_ge hp (by omega)
      have nx1 : some (nI p + 1) = some (nI (p + 1)) := by rw [nI_1]
      have es := p_shown (N := N) (i := 0) (k := 1) (w := w6 a c p 0 0 0) (by omega) hd1 (by decide) (by have := w6_lt (a := a) (b := c) (c := p) (d := 0) (e := 0) (f := 0) (by omega) (by omega) (by omega) (by omega) (by omega) (by omega); omega) (w3_j hn ha hc hp)
      refine Or.inl ?_
      show ∃ s', tb_Fs_addRow_27 N (tl_Fs_addRow_27 N fu) (nI a) (nI c) (nI l) (nI p) S1 = _ ∧ _
      unfold tb_Fs_addRow_27 tb_Fs_addRow_61
      by_cases hsh : alk f b X Y 1 (v3 a c p) = true
      · refine ⟨l ||| 2 ^ p, bs rfl <| (if_neg hle).trans <| bs (p_pack (by omega) (by omega) (by omega)) <| bs es <| (if_neg (fun z => bI_0.mp z hsh)).trans <| bs (by rw [sh_one _ (by omega), nI_or]) <| bs nx1 rfl, or_lt hI.1 (by omega), fun j => ?_⟩
        rw [tb_or, Bool.or_eq_true, hI.2 j, decide_eq_true_iff]
        constructor
        · rintro ((h | h | ⟨h, h2⟩) | h)
          · exact Or.inl h
          · exact Or.inr (Or.inl h)
          · exact Or.inr (Or.inr ⟨by omega, h2⟩)
          · subst h; exact Or.inr (Or.inr ⟨by omega, hsh⟩)
        · rintro (h | h | ⟨h, h2⟩)
          · exact Or.inl (Or.inl h)
          · exact Or.inl (Or.inr (Or.inl h))
          · by_cases hjp : j = p
            · exact Or.inr hjp.symm
            · exact Or.inl (Or.inr (Or.inr ⟨by omega, h2⟩))
      · refine ⟨l, bs rfl <| (if_neg hle).trans <| bs (p_pack (by omega) (by omega) (by omega)) <| bs es <| (if_pos (bI_0.mpr hsh)).trans <| bs nx1 rfl, hI.1, fun j => ?_⟩
        rw [hI.2 j]
        constructor
        · rintro (h | h | ⟨h, h2⟩)
          · exact Or.inl h
          · exact Or.inr (Or.inl h)
          · exact Or.inr (Or.inr ⟨by omega, h2⟩)
        · rintro (h | h | ⟨h, h2⟩)
          · exact Or.inl h
          · exact Or.inr (Or.inl h)
          · by_cases hjp : j = p
            · subst hjp; exact absurd h2 hsh
            · exact Or.inr (Or.inr ⟨by omega, h2⟩)) (by
      intro fu l hI
      have hlin : l = lin f n b X Y a c := by
        apply Nat.eq_of_testBit_eq
        intro j
        apply bool_ext
        unfold lin
        rw [hI.2 j, msk_tb, decide_eq_true_iff]
        constructor
        · rintro (h | h | ⟨h, h2⟩)
          · exact ⟨by omega, Or.inl h⟩
          · exact ⟨by omega, Or.inr (Or.inl h)⟩
          · exact ⟨h, Or.inr (Or.inr h2)⟩
        · rintro ⟨h1, h | h | h⟩
          · exact Or.inl h
          · exact Or.inr (Or.inl h)
          · exact Or.inr (Or.inr ⟨h1, h⟩)
      have ep := p_placesOf (N := N) (w := l) (by omega) hn hpt1 hl1 (by omega)
      have hple := plc_le (sam f b X Y) l n
      show ∃ S2, tb_Fs_addRow_27 N (tl_Fs_addRow_27 N fu) (nI a) (nI c) (nI l) (nI n) S1 = some S2 ∧ _
      unfold tb_Fs_addRow_27
      by_cases h3 : plc (sam f b X Y) l n < 3
      · refine ⟨S1, bs rfl <| (if_pos (by rw [hpt1]; exact nI_le (Nat.le_refl n) (by omega))).trans <| bs ep <| if_pos (nI_lt (b := 3) h3 (by decide)), hR.to (fun m _ => ?_) (by omega)⟩
        unfold rowc
        rw [decide_eq_false (fun z => by rw [z.2.1, ← hlin] at z; omega), Bool.or_false]
      · obtain ⟨S2, e2, R2⟩ := hR.rise (N := N) (w := l) (by show 45 + 5 ≤ N; omega) hk hI.1
        refine ⟨S2, bs rfl <| (if_pos (by rw [hpt1]; exact nI_le (Nat.le_refl n) (by omega))).trans <| bs ep <| (if_neg (nI_nlt (b := 3) (by omega) (by omega))).trans <| bs e2 rfl, R2.to (fun m _ => ?_) (Nat.le_refl _)⟩
        show (q m || _) = (q m || _)
        congr 1
        unfold rowc
        apply decide_eq_decide.mpr
        constructor
        · intro h
          exact ⟨hs, by rw [h, hlin], by rw [h]; omega⟩
        · intro h
          rw [h.2.1, hlin])
    obtain ⟨S2, e2, R2⟩ := main n 0 N (2 ^ a ||| 2 ^ c) (by omega) (by omega) ⟨or_lt (p2_lt a (by omega)) (by omega), fun j => by
      rw [tb_or, Nat.testBit_two_pow, Bool.or_eq_true, decide_eq_true_iff, decide_eq_true_iff]
      omega⟩
    exact ⟨S2, bs ta1 <| bs ta2 <| (if_neg (fun z => hs (led_eq.mp ((nI_eq (by omega) (by omega)).mp z)))).trans <| bs (by rw [sh_one _ (by omega), sh_one _ (by omega), nI_or]) e2, R2⟩
end ROW
