/-! facts, fact, needs, holds -/
theorem en_len8 : ∀ n, n < 11 → ∀ k, k < 9 → k ≠ 7 → (En k n).length ≤ il_len k := by decide +kernel
theorem en_lt : ∀ n, n < 11 → ∀ k, k < 9 → k ≠ 7 → ∀ w, w ∈ En k n → w < 16777216 := by decide +kernel
theorem prs_tri {F : Nat → Nat → Nat} : ∀ (T : List Nat), (prs (fun x y => [F x y]) T).length * 2 + T.length = T.length * T.length := by
  intro T
  induction T with
  | nil => rfl
  | cons x T ih =>
    have h2 : ∀ (T2 : List Nat), (T2.flatMap (fun y => [F x y])).length = T2.length := by
      intro T2
      induction T2 with
      | nil => rfl
      | cons y T2 ih2 => rw [List.flatMap_cons, List.length_append, ih2, List.length_cons]; exact Nat.add_comm 1 _
    show (T.flatMap (fun y => [F x y]) ++ prs (fun x y => [F x y]) T).length * 2 + (x :: T).length = (x :: T).length * (x :: T).length
    rw [List.length_append, h2 T, List.length_cons]
    have h5 := Nat.add_one_mul T.length (T.length + 1)
    have h6 := Nat.mul_add_one T.length T.length
    omega
theorem en_len (n : Nat) (hn : n < 11) (k : Nat) (hk : k < 9) : (En k n).length ≤ il_len k := by
  by_cases h7 : k = 7
  · subst h7
    have hE := (E1_ok n hn).1
    have h1 := prs_tri (F := fun x y => x + y * 4096) (E1 n)
    show (prs (fun x y => [x + y * 4096]) (E1 n)).length ≤ 7140
    have h2 : (E1 n).length * (E1 n).length ≤ 120 * (E1 n).length := Nat.mul_le_mul_right _ hE
    by_cases h3 : (E1 n).length = 120
    · rw [h3] at h1; omega
    · have h4 : (E1 n).length * (E1 n).length ≤ 119 * (E1 n).length := Nat.mul_le_mul_right _ (by omega)
      omega
  · exact en_len8 n hn k hk h7
section FLS
variable {f n : Nat} {b : Nat → Bool} {X Y : Nat → Nat → Int} {k : Nat}
theorem fl_len (hn : n < 11) (hk : k < 9) : (FL f n b X Y k).length ≤ il_len k := by
  unfold FL
  rw [List.length_map]
  exact Nat.le_trans (List.length_filter_le _ _) (en_len n hn k hk)
theorem en_mem7 {w : Nat} (hn : n < 11) (hw : w ∈ En 7 n) : w < 16777216 ∧ ∀ j, j < 6 → rk w j < n := by
  have hE := E1_ok n hn
  obtain ⟨x, hx1, y, hy1, hwxy⟩ := mem_prs (E1 n) (show w ∈ prs (fun x y => [x + y * 4096]) (E1 n) from hw)
  have hwe : w = x + y * 4096 := List.mem_singleton.mp hwxy
  have mx := hE.2 x hx1
  have my := hE.2 y hy1
  refine ⟨by omega, fun j hj => ?_⟩
  rw [hwe]
  match j, hj with
  | 0, _ => rw [(rk_jn mx.1 (j := 0) (by decide)).1]; exact mx.2.1
  | 1, _ => rw [(rk_jn mx.1 (j := 1) (by decide)).1]; exact mx.2.2.1
  | 2, _ => rw [(rk_jn mx.1 (j := 2) (by decide)).1]; exact mx.2.2.2
  | 3, _ => rw [show (3 : Nat) = 0 + 3 from rfl, (rk_jn mx.1 (j := 0) (by decide)).2]; exact my.2.1
  | 4, _ => rw [show (4 : Nat) = 1 + 3 from rfl, (rk_jn mx.1 (j := 1) (by decide)).2]; exact my.2.2.1
  | 5, _ => rw [show (5 : Nat) = 2 + 3 from rfl, (rk_jn mx.1 (j := 2) (by decide)).2]; exact my.2.2.2
  | j + 6, h => omega
theorem fl_ok (hn : n < 11) (hk : k < 9) {i : Nat} (hi : i < (FL f n b X Y k).length) : (FL f n b X Y k).getD i 0 < 16777216 ∧ ∀ j, j < npk k → rk ((FL f n b X Y k).getD i 0) j < n := by
  have hm := gd_mem hi
  generalize (FL f n b X Y k).getD i 0 = w' at hm
  obtain ⟨w, hw, rfl⟩ := List.mem_map.mp hm
  obtain ⟨hw1, hw2⟩ := List.mem_filter.mp hw
  by_cases h7 : k = 7
  · subst h7
    have := en_mem7 hn hw1
    have ho : outk f b X Y 7 w = w := if_neg (by decide)
    rw [ho]
    exact this
  · have h1 := en_lt n hn k hk h7 w hw1
    have h2 := en_in n hn k hk h7 w hw1
    by_cases h8 : k = 8
    · subst h8
      have hr : rat (rtQ f b X Y (rk w)) < 81 := by
        unfold tol at hw2
        rw [if_neg (by decide), if_neg (by decide)] at hw2
        unfold ctl hld at hw2
        rw [if_neg (show ¬ (8 : Nat) < 8 by decide), Bool.and_eq_true, decide_eq_true_iff] at hw2
        exact hw2.1
      refine ⟨?_, fun j hj => ?_⟩
      · have ho : outk f b X Y 8 w = gnm w (rat (rtQ f b X Y (rk w))) := if_pos rfl
        rw [ho]
        exact gnm_lt _ _
      · have hj4 : j < 4 := hj
        rw [rk_out (by omega), if_pos ⟨rfl, hr⟩, if_neg (by omega), if_neg (by omega)]
        exact h2 j hj
    · have ho : outk f b X Y k w = w := if_neg h8
      rw [ho]
      exact ⟨h1, h2⟩
end FLS
section FCT
variable {N : Nat} {S : CS} {M : MS}
theorem c_isFactKind {x : Int32} : t_FF_isFactKind N x = some (bI (inb x 9)) := by
  unfold t_FF_isFactKind inb
  by_cases h1 : x < 0
  · rw [if_pos h1, decide_eq_false (fun z => z.1 h1)]; rfl
  · rw [if_neg h1]
    by_cases h2 : nI 9 ≤ x
    · exact (if_pos h2).trans (some_f (fun z => z.2 h2))
    · exact (if_neg h2).trans (some_t ⟨h1, h2⟩)
theorem isIn8 {x : Int32} : t_Mo_isIn N x 0 8 = some (bI (inb x 9)) := m_isIn (L := 9) (by decide)
theorem tk12 {k : Nat} (hk : k < 12) : tk 12 (some k) = some k := by
  show (if k < 12 then some k else none) = some k
  rw [if_pos hk]
theorem call_facts {x : Int32} (hN : 2000 ≤ N) (h : STT S M) : CALL (t_FF_facts N x S) (t_Mo_facts N x M) := by
  obtain ⟨n, s, f, kd, sr, hC, hM⟩ := h
  have h0 : STT S M := ⟨n, s, f, kd, sr, hC, hM⟩
  have hn := hC.2.2.2.2.1.2.1
  have hmd := hM.md hC.2.1.2
  unfold t_FF_facts t_Mo_facts
  cases hx : inb x 9 with
  | false => exact ⟨-2, S, M, bs (x := bI false) (by rw [c_isFactKind, hx]) (if_pos rfl), bs (x := bI false) (by rw [isIn8, hx]) (if_pos rfl), h0⟩
  | true =>
    obtain ⟨k, hk, rfl⟩ := (inb_iff (by decide)).mp hx
    obtain ⟨S1, e1, k1, K1, l1⟩ := p_list (N := N) (by omega) hC.cd hC.2.2.2.2.2.2 hk
    obtain ⟨M1, e2, k2, W2⟩ := m_walk (N := N) (want := -1) (by omega) hmd hM.2.2.1.1 hk
    have hl := fl_len (f := f) (b := bb kd sr s n) (X := xx kd sr s n) (Y := yy kd sr s n) (n := n) (k := k) (by omega) hk
    rw [← FL_eq (by omega) hk hmd.xr] at W2
    refine ⟨nI (FL f n (bb kd sr s n) (xx kd sr s n) (yy kd sr s n) k).length, S1, M1, bs (x := bI true) (by rw [c_isFactKind, hx]) <| (if_neg (by decide)).trans <| bs e1 <| bs (tk12 (by omega)) <| bs (congrArg some (l1.le hl).1) rfl, bs (x := bI true) (by rw [isIn8, hx]) <| (if_neg (by decide)).trans <| bs e2 <| bs (congrArg some W2.1) rfl, STT.c hC hM k1 K1 k2 (by decide)⟩
/-- the walk's find against the list -/
theorem WR.fnd {want : Int32} {L : List Nat} {M1 : MS} (h : WR want L M1) (hL : L.length ≤ 7140) : (inb want L.length = false ∧ ms_isFound M1 = 0) ∨ (∃ i, i < L.length ∧ want = nI i ∧ ms_isFound M1 = 1 ∧ ∀ j, j < 6 → ms_found M1 j = nI (rk (L.getD i 0) j)) := by
  rcases h.2 with ⟨h1, h2⟩ | ⟨h1, i, h2, h3, h4⟩
  · refine Or.inl ⟨?_, h1⟩
    cases hi : inb want L.length with
    | false => rfl
    | true =>
      obtain ⟨i, hi1, hi2⟩ := (inb_iff (by omega)).mp hi
      exact absurd hi2.symm (h2 i hi1)
  · exact Or.inr ⟨i, h2, h3.symm, h1, h4⟩
theorem tb3_n : ∀ k, k < 9 → tb_3 k = nI (if k = 8 then 6 else npk k) := by decide
theorem call_fact {x y z : Int32} (hN : 2000 ≤ N) (h : STT S M) : CALL (t_FF_fact N x y z S) (t_Mo_fact N x y z M) := by
  obtain ⟨n, s, f, kd, sr, hC, hM⟩ := h
  have h0 : STT S M := ⟨n, s, f, kd, sr, hC, hM⟩
  have hn := hC.2.2.2.2.1.2.1
  have hmd := hM.md hC.2.1.2
  unfold t_FF_fact t_Mo_fact
  cases hx : inb x 9 with
  | false => exact ⟨-2, S, M, bs (x := bI false) (by rw [c_isFactKind, hx]) (if_pos rfl), bs (x := bI false) (by rw [isIn8, hx]) (if_pos rfl), h0⟩
  | true =>
    obtain ⟨k, hk, rfl⟩ := (inb_iff (by decide)).mp hx
    obtain ⟨S1, e1, k1, K1, l1⟩ := p_list (N := N) (by omega) hC.cd hC.2.2.2.2.2.2 hk
    obtain ⟨M1, e2, k2, W2⟩ := m_walk (N := N) (want := y) (by omega) hmd hM.2.2.1.1 hk
    have hl := fl_len (f := f) (b := bb kd sr s n) (X := xx kd sr s n) (Y := yy kd sr s n) (n := n) (k := k) (by omega) hk
    have hil := il_le k
    rw [← FL_eq (by omega) hk hmd.xr] at W2
    have ST1 := STT.c hC hM k1 K1 k2 (by decide)
    have hh := c_has (N := N) (x := y) l1 hl
    have hnp := npk_le k hk
    obtain ⟨wd, hwd, hw6⟩ : ∃ wd, (if k = 8 then 6 else npk k) = wd ∧ wd ≤ 6 := ⟨_, rfl, by split <;> omega⟩
    have em : (if nI k = 8 then tb_Mo_fact_34 N z 6 M1 else ((t_Mo_size N (nI k)).bind fun r4 => tb_Mo_fact_34 N z r4 M1)) = tb_Mo_fact_34 N z (nI wd) M1 := by
      rw [← hwd]
      by_cases h8 : k = 8
      · rw [if_pos h8, if_pos (by rw [h8]; rfl)]; rfl
      · rw [if_neg h8]
        exact (if_neg (fun q => h8 ((nI_eq (a := k) (b := 8) (by omega) (by decide)).mp q))).trans <| bs (m_size hk) rfl
    have ew : ft_i 9 tb_3 (nI k) = some (nI wd) := (ft_n hk (by decide)).trans (by rw [tb3_n k hk, hwd])
    have hok : ∀ i, i < (FL f n (bb kd sr s n) (xx kd sr s n) (yy kd sr s n) k).length → (FL f n (bb kd sr s n) (xx kd sr s n) (yy kd sr s n) k).getD i 0 < 16777216 := fun i hi => (fl_ok (by omega) hk hi).1
    generalize FL f n (bb kd sr s n) (xx kd sr s n) (yy kd sr s n) k = L at l1 hl W2 hh hok
    rcases W2.fnd (by omega) with ⟨w1, w2⟩ | ⟨i, hi, rfl, w3, w4⟩
    · rw [w1] at hh
      refine ⟨-1, S1, M1, bs (x := bI true) (by rw [c_isFactKind, hx]) <| (if_neg (by decide)).trans <| bs e1 <| bs (tk12 (by omega)) <| bs hh <| if_pos rfl, bs (x := bI true) (by rw [isIn8, hx]) <| (if_neg (by decide)).trans <| bs e2 <| em.trans <| bs (congrArg some w2) (if_pos rfl), ST1⟩
    · have hh1 : t_IL_has N k (nI i) S1 = some (bI true) := by rw [hh, (inb_iff (by omega)).mpr ⟨i, hi, rfl⟩]
      have hm34 : tb_Mo_fact_34 N z (nI wd) M1 = if inb z wd = true then (some (ms_found M1 z.toNatClampNeg, M1)) else some (-1, M1) := by
        refine bs (congrArg some w3) <| (if_neg (by decide)).trans <| bs (m_isIn (by omega)) ?_
        cases hz : inb z wd with
        | false => exact if_pos rfl
        | true =>
          obtain ⟨t, ht, rfl⟩ := (inb_iff (by omega)).mp hz
          refine (if_neg (by decide)).trans <| bs (ta_n (by omega) (by decide)) ?_
          rw [if_pos rfl, nI_clamp (by omega)]
      cases hz : inb z wd with
      | false =>
        rw [hz, if_neg (by decide)] at hm34
        refine ⟨-1, S1, M1, bs (x := bI true) (by rw [c_isFactKind, hx]) <| (if_neg (by decide)).trans <| bs e1 <| bs (tk12 (by omega)) <| bs hh1 <| (if_neg (by decide)).trans ?_, bs (x := bI true) (by rw [isIn8, hx]) <| (if_neg (by decide)).trans <| bs e2 <| em.trans hm34, ST1⟩
        by_cases h1 : z < 0
        · exact if_pos h1
        · refine (if_neg h1).trans <| bs ew <| if_neg (fun h2 => ?_)
          have hz2 : inb z wd = true := decide_eq_true ⟨h1, by rw [Int32.not_le]; exact h2⟩
          rw [hz2] at hz
          cases hz
      | true =>
        rw [hz, if_pos rfl] at hm34
        obtain ⟨t, ht, rfl⟩ := (inb_iff (by omega)).mp hz
        rw [nI_clamp (by omega), w4 t (by omega)] at hm34
        exact ⟨nI (rk (L.getD i 0) t), S1, M1, bs (x := bI true) (by rw [c_isFactKind, hx]) <| (if_neg (by decide)).trans <| bs e1 <| bs (tk12 (by omega)) <| bs hh1 <| (if_neg (by decide)).trans <| (if_neg (nI_pos (by omega))).trans <| bs ew <| (if_pos (nI_lt ht (by omega))).trans <| bs (c_item l1 hl hi) <| bs (p_unpack (by have := hok i hi; omega) (by omega)) rfl, bs (x := bI true) (by rw [isIn8, hx]) <| (if_neg (by decide)).trans <| bs e2 <| em.trans hm34, ST1⟩
end FCT
