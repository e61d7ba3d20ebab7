def t_FF_told (N : Nat) (a1 : Int32) (a2 : Int32) (S0 : CS) : Option (Int32) :=
  (t_FF_isThere N a1 S0).bind fun r2 => if r2 = 0 then (some (-2)) else (if a2 < 0 then (some (-2)) else (if a2 ≤ 4 then ((ta 10 (cs_kinds S0) a1).bind fun x5 => if a2 = 0 then (some x5) else ((ft_i 14 tb_1 x5).bind fun x6 => if x6 < a2 then (some (-1)) else ((t_Pl_from N a1 (a2 - 1) S0).bind fun r9 => some r9))) else (some (-2))))
set_option maxHeartbeats 4000000 in
theorem u_FF_told {K : Nat → ClassId} {N : Nat} {a1 : Int32} {a2 : Int32} {h0 : fh_H} {S0 : CS} {res : Int32} {L : Nat → Nat → Nat} {hb : fh_H} (hL : cs_I L) (ht : t_FF_told N a1 a2 S0 = some res) (hC : cs_W K L hb h0 S0) : RO (fun z => (res, h0) = z) (f_FF_told K N (L 0 0) a1 a2 h0) := by
  unfold t_FF_told at ht
  unfold f_FF_told
  refine ro_b (oi_o (hC.1 0 0 (by decide))) ?_
  obtain ⟨r2, e_r2, ht⟩ := fh_b ht
  refine ro_c (u_FF_isThere hL e_r2 hC) (fun z hz => ?_)
  subst hz
  by_cases c5 : r2 = 0
  · replace ht := fh_t c5 ht
    refine ro_t c5 ?_
    obtain rfl := Option.some.inj ht
    exact ro_s rfl
  · replace ht := fh_f c5 ht
    refine ro_f c5 ?_
    by_cases c4 : a2 < 0
    · replace ht := fh_t c4 ht
      refine ro_t c4 ?_
      obtain rfl := Option.some.inj ht
      exact ro_s rfl
    · replace ht := fh_f c4 ht
      refine ro_f c4 ?_
      by_cases c3 : a2 ≤ 4
      · replace ht := fh_t c3 ht
        refine ro_t c3 ?_
        refine ro_b (oi_a (hC.1 0 0 (by decide)) rfl) ?_
        refine ro_b (oi_a (hC.1 1 0 (by decide)) rfl) ?_
        obtain ⟨x5, e_x5, ht⟩ := fh_b ht
        refine ro_b ((ai_i (hC.1 2 0 (by decide))).trans e_x5) ?_
        by_cases c2 : a2 = 0
        · replace ht := fh_t c2 ht
          refine ro_t c2 ?_
          obtain rfl := Option.some.inj ht
          exact ro_s rfl
        · replace ht := fh_f c2 ht
          refine ro_f c2 ?_
          obtain ⟨x6, e_x6, ht⟩ := fh_b ht
          refine ro_b e_x6 ?_
          by_cases c1 : x6 < a2
          · replace ht := fh_t c1 ht
            refine ro_t c1 ?_
            obtain rfl := Option.some.inj ht
            exact ro_s rfl
          · replace ht := fh_f c1 ht
            refine ro_f c1 ?_
            refine ro_b (oi_a (hC.1 0 0 (by decide)) rfl) ?_
            refine ro_b (oi_o (hC.1 1 0 (by decide))) ?_
            obtain ⟨r9, e_r9, ht⟩ := fh_b ht
            refine ro_c (u_Pl_from hL e_r9 hC) (fun z hz => ?_)
            subst hz
            obtain rfl := Option.some.inj ht
            exact ro_s rfl
      · replace ht := fh_f c3 ht
        refine ro_f c3 ?_
        obtain rfl := Option.some.inj ht
        exact ro_s rfl
def t_FF_falls (N : Nat) (a1 : Int32) (S0 : CS) : Option (Int32) :=
  if a1 < 0 then (some (-2)) else ((some (cs_figs S0)).bind fun x1 => if a1 < x1 then ((ta 5 (fun z => 5 * 0 + z) a1).bind fun x5 => (some (cs_fallen S0 x5)).bind fun x6 => some x6) else (some (-2)))
set_option maxHeartbeats 4000000 in
theorem u_FF_falls {K : Nat → ClassId} {N : Nat} {a1 : Int32} {h0 : fh_H} {S0 : CS} {res : Int32} {L : Nat → Nat → Nat} {hb : fh_H} (hL : cs_I L) (ht : t_FF_falls N a1 S0 = some res) (hC : cs_W K L hb h0 S0) : RO (fun z => (res, h0) = z) (f_FF_falls K N (L 0 0) a1 h0) := by
  unfold t_FF_falls at ht
  unfold f_FF_falls
  by_cases c2 : a1 < 0
  · replace ht := fh_t c2 ht
    refine ro_t c2 ?_
    obtain rfl := Option.some.inj ht
    exact ro_s rfl
  · replace ht := fh_f c2 ht
    refine ro_f c2 ?_
    obtain ⟨x1, e_x1, ht⟩ := fh_b ht
    refine ro_b ((oi_i (hC.1 0 0 (by decide)) rfl).trans e_x1) ?_
    by_cases c1 : a1 < x1
    · replace ht := fh_t c1 ht
      refine ro_t c1 ?_
      refine ro_b (oi_a (hC.1 0 0 (by decide)) rfl) ?_
      refine ro_b (oi_a (hC.1 4 0 (by decide)) rfl) ?_
      refine ro_b (oi_a (hC.1 5 0 (by decide)) rfl) ?_
      obtain ⟨x5, e_x5, ht⟩ := fh_b ht
      have hb_x5 : x5 < 10 := by obtain ⟨k, hk, q⟩ := ta_lt e_x5; have := hk; omega
      refine ro_b ((ai_a (hC.1 6 0 (by decide))).trans (ai_m (g := fun z => some (L 7 z)) e_x5)) ?_
      obtain ⟨x6, e_x6, ht⟩ := fh_b ht
      refine ro_b ((oi_i (hC.1 7 x5 hb_x5) rfl).trans e_x6) ?_
      obtain rfl := Option.some.inj ht
      exact ro_s rfl
    · replace ht := fh_f c1 ht
      refine ro_f c1 ?_
      obtain rfl := Option.some.inj ht
      exact ro_s rfl
def t_FF_place (N : Nat) (a1 : Int32) (a2 : Int32) (a3 : Int32) (S0 : CS) : Option (Int32) :=
  if a1 < 0 then (some (-2)) else ((some (cs_figs S0)).bind fun x1 => if x1 ≤ a1 then (some (-2)) else ((t_FF_isThere N a2 S0).bind fun r3 => if r3 = 0 then (some (-2)) else (if a3 < 0 then (some (-2)) else (if a3 ≤ 1 then ((ta 5 (fun z => 5 * 0 + z) a1).bind fun x7 => (some (cs_made S0 x7)).bind fun x8 => if a2 < x8 then (if a3 = 0 then ((ta 16 (cs_fx S0 x7) a2).bind fun x12 => some x12) else ((ta 16 (cs_fy S0 x7) a2).bind fun x10 => some x10)) else (some (-1))) else (some (-2))))))
set_option maxHeartbeats 4000000 in
theorem u_FF_place {K : Nat → ClassId} {N : Nat} {a1 : Int32} {a2 : Int32} {a3 : Int32} {h0 : fh_H} {S0 : CS} {res : Int32} {L : Nat → Nat → Nat} {hb : fh_H} (hL : cs_I L) (ht : t_FF_place N a1 a2 a3 S0 = some res) (hC : cs_W K L hb h0 S0) : RO (fun z => (res, h0) = z) (f_FF_place K N (L 0 0) a1 a2 a3 h0) := by
  unfold t_FF_place at ht
  unfold f_FF_place
  by_cases c7 : a1 < 0
  · replace ht := fh_t c7 ht
    refine ro_t c7 ?_
    obtain rfl := Option.some.inj ht
    exact ro_s rfl
  · replace ht := fh_f c7 ht
    refine ro_f c7 ?_
    obtain ⟨x1, e_x1, ht⟩ := fh_b ht
    refine ro_b ((oi_i (hC.1 0 0 (by decide)) rfl).trans e_x1) ?_
    by_cases c6 : x1 ≤ a1
    · replace ht := fh_t c6 ht
      refine ro_t c6 ?_
      obtain rfl := Option.some.inj ht
      exact ro_s rfl
    · replace ht := fh_f c6 ht
      refine ro_f c6 ?_
      refine ro_b (oi_o (hC.1 0 0 (by decide))) ?_
      obtain ⟨r3, e_r3, ht⟩ := fh_b ht
      refine ro_c (u_FF_isThere hL e_r3 hC) (fun z hz => ?_)
      subst hz
      by_cases c5 : r3 = 0
      · replace ht := fh_t c5 ht
        refine ro_t c5 ?_
        obtain rfl := Option.some.inj ht
        exact ro_s rfl
      · replace ht := fh_f c5 ht
        refine ro_f c5 ?_
        by_cases c4 : a3 < 0
        · replace ht := fh_t c4 ht
          refine ro_t c4 ?_
          obtain rfl := Option.some.inj ht
          exact ro_s rfl
        · replace ht := fh_f c4 ht
          refine ro_f c4 ?_
          by_cases c3 : a3 ≤ 1
          · replace ht := fh_t c3 ht
            refine ro_t c3 ?_
            refine ro_b (oi_a (hC.1 0 0 (by decide)) rfl) ?_
            refine ro_b (oi_a (hC.1 4 0 (by decide)) rfl) ?_
            refine ro_b (oi_a (hC.1 5 0 (by decide)) rfl) ?_
            obtain ⟨x7, e_x7, ht⟩ := fh_b ht
            have hb_x7 : x7 < 10 := by obtain ⟨k, hk, q⟩ := ta_lt e_x7; have := hk; omega
            refine ro_b ((ai_a (hC.1 6 0 (by decide))).trans (ai_m (g := fun z => some (L 7 z)) e_x7)) ?_
            obtain ⟨x8, e_x8, ht⟩ := fh_b ht
            refine ro_b ((oi_i (hC.1 7 x7 hb_x7) rfl).trans e_x8) ?_
            by_cases c2 : a2 < x8
            · replace ht := fh_t c2 ht
              refine ro_t c2 ?_
              by_cases c1 : a3 = 0
              · replace ht := fh_t c1 ht
                refine ro_t c1 ?_
                refine ro_b (oi_a (hC.1 7 x7 hb_x7) rfl) ?_
                obtain ⟨x12, e_x12, ht⟩ := fh_b ht
                refine ro_b ((ai_i (hC.1 8 x7 hb_x7)).trans e_x12) ?_
                obtain rfl := Option.some.inj ht
                exact ro_s rfl
              · replace ht := fh_f c1 ht
                refine ro_f c1 ?_
                refine ro_b (oi_a (hC.1 7 x7 hb_x7) rfl) ?_
                obtain ⟨x10, e_x10, ht⟩ := fh_b ht
                refine ro_b ((ai_i (hC.1 9 x7 hb_x7)).trans e_x10) ?_
                obtain rfl := Option.some.inj ht
                exact ro_s rfl
            · replace ht := fh_f c2 ht
              refine ro_f c2 ?_
              obtain rfl := Option.some.inj ht
              exact ro_s rfl
          · replace ht := fh_f c3 ht
            refine ro_f c3 ?_
            obtain rfl := Option.some.inj ht
            exact ro_s rfl
def t_FF_isFactKind (N : Nat) (a0 : Int32) : Option (Int32) :=
  if a0 < 0 then (some 0) else (if 9 ≤ a0 then (some 0) else (some 1))
set_option maxHeartbeats 4000000 in
theorem u_FF_isFactKind {K : Nat → ClassId} {N : Nat} {a0 : Int32} {h0 : fh_H} {res : Int32} (ht : t_FF_isFactKind N a0 = some res) : RO (fun z => (res, h0) = z) (f_FF_isFactKind K N a0 h0) := by
  unfold t_FF_isFactKind at ht
  unfold f_FF_isFactKind
  by_cases c2 : a0 < 0
  · replace ht := fh_t c2 ht
    refine ro_t c2 ?_
    obtain rfl := Option.some.inj ht
    exact ro_s rfl
  · replace ht := fh_f c2 ht
    refine ro_f c2 ?_
    by_cases c1 : 9 ≤ a0
    · replace ht := fh_t c1 ht
      refine ro_t c1 ?_
      obtain rfl := Option.some.inj ht
      exact ro_s rfl
    · replace ht := fh_f c1 ht
      refine ro_f c1 ?_
      obtain rfl := Option.some.inj ht
      exact ro_s rfl
def tb_FF_areThere_58 (N : Nat) (v1 : Int32) (v7 : Int32) (S : CS) : Option (Int32) :=
  if v1 < 6 then (some 1) else ((t_FF_isThere N v7 S).bind fun r2 => if r2 = 0 then (some 0) else (some 1))
def tb_FF_areThere_44 (N : Nat) (v1 : Int32) (v6 : Int32) (v7 : Int32) (S : CS) : Option (Int32) :=
  if v1 < 5 then (tb_FF_areThere_58 N v1 v7 S) else ((t_FF_isThere N v6 S).bind fun r2 => if r2 = 0 then (some 0) else (tb_FF_areThere_58 N v1 v7 S))
def tb_FF_areThere_30 (N : Nat) (v1 : Int32) (v5 : Int32) (v6 : Int32) (v7 : Int32) (S : CS) : Option (Int32) :=
  if v1 < 4 then (tb_FF_areThere_44 N v1 v6 v7 S) else ((t_FF_isThere N v5 S).bind fun r2 => if r2 = 0 then (some 0) else (tb_FF_areThere_44 N v1 v6 v7 S))
def t_FF_areThere (N : Nat) (a1 : Int32) (a2 : Int32) (a3 : Int32) (a4 : Int32) (a5 : Int32) (a6 : Int32) (a7 : Int32) (S0 : CS) : Option (Int32) :=
  (t_FF_isThere N a2 S0).bind fun r2 => if r2 = 0 then (some 0) else ((t_FF_isThere N a3 S0).bind fun r4 => if r4 = 0 then (some 0) else (if a1 < 3 then (tb_FF_areThere_30 N a1 a5 a6 a7 S0) else ((t_FF_isThere N a4 S0).bind fun r6 => if r6 = 0 then (some 0) else (tb_FF_areThere_30 N a1 a5 a6 a7 S0))))
set_option maxHeartbeats 4000000 in
theorem u_FF_areThere {K : Nat → ClassId} {N : Nat} {a1 : Int32} {a2 : Int32} {a3 : Int32} {a4 : Int32} {a5 : Int32} {a6 : Int32} {a7 : Int32} {h0 : fh_H} {S0 : CS} {res : Int32} {L : Nat → Nat → Nat} {hb : fh_H} (hL : cs_I L) (ht : t_FF_areThere N a1 a2 a3 a4 a5 a6 a7 S0 = some res) (hC : cs_W K L hb h0 S0) : RO (fun z => (res, h0) = z) (f_FF_areThere K N (L 0 0) a1 a2 a3 a4 a5 a6 a7 h0) := by
  have B58 : ∀ (v1 : Int32) (v7 : Int32), tb_FF_areThere_58 N v1 v7 S0 = some res → RO (fun z => (res, h0) = z) (b_FF_areThere_58 K N (L 0 0) v1 v7 h0) := by
    intro v1 v7 ht
    unfold tb_FF_areThere_58 at ht
    unfold b_FF_areThere_58
    by_cases c2 : v1 < 6
    · replace ht := fh_t c2 ht
      refine ro_t c2 ?_
      obtain rfl := Option.some.inj ht
      exact ro_s rfl
    · replace ht := fh_f c2 ht
      refine ro_f c2 ?_
      refine ro_b (oi_o (hC.1 0 0 (by decide))) ?_
      obtain ⟨r2, e_r2, ht⟩ := fh_b ht
      refine ro_c (u_FF_isThere hL e_r2 hC) (fun z hz => ?_)
      subst hz
      by_cases c1 : r2 = 0
      · replace ht := fh_t c1 ht
        refine ro_t c1 ?_
        obtain rfl := Option.some.inj ht
        exact ro_s rfl
      · replace ht := fh_f c1 ht
        refine ro_f c1 ?_
        obtain rfl := Option.some.inj ht
        exact ro_s rfl
  have B44 : ∀ (v1 : Int32) (v6 : Int32) (v7 : Int32), tb_FF_areThere_44 N v1 v6 v7 S0 = some res → RO (fun z => (res, h0) = z) (b_FF_areThere_44 K N (L 0 0) v1 v6 v7 h0) := by
    intro v1 v6 v7 ht
    unfold tb_FF_areThere_44 at ht
    unfold b_FF_areThere_44
    by_cases c2 : v1 < 5
    · replace ht := fh_t c2 ht
      refine ro_t c2 ?_
      exact B58 v1 v7 ht
    · replace ht := fh_f c2 ht
      refine ro_f c2 ?_
      refine ro_b (oi_o (hC.1 0 0 (by decide))) ?_
      obtain ⟨r2, e_r2, ht⟩ := fh_b ht
      refine ro_c (u_FF_isThere hL e_r2 hC) (fun z hz => ?_)
      subst hz
      by_cases c1 : r2 = 0
      · replace ht := fh_t c1 ht
        refine ro_t c1 ?_
        obtain rfl := Option.some.inj ht
        exact ro_s rfl
      · replace ht := fh_f c1 ht
        refine ro_f c1 ?_
        exact B58 v1 v7 ht
  have B30 : ∀ (v1 : Int32) (v5 : Int32) (v6 : Int32) (v7 : Int32), tb_FF_areThere_30 N v1 v5 v6 v7 S0 = some res → RO (fun z => (res, h0) = z) (b_FF_areThere_30 K N (L 0 0) v1 v5 v6 v7 h0) := by
    intro v1 v5 v6 v7 ht
    unfold tb_FF_areThere_30 at ht
    unfold b_FF_areThere_30
    by_cases c2 : v1 < 4
    · replace ht := fh_t c2 ht
      refine ro_t c2 ?_
      exact B44 v1 v6 v7 ht
    · replace ht := fh_f c2 ht
      refine ro_f c2 ?_
      refine ro_b (oi_o (hC.1 0 0 (by decide))) ?_
      obtain ⟨r2, e_r2, ht⟩ := fh_b ht
      refine ro_c (u_FF_isThere hL e_r2 hC) (fun z hz => ?_)
      subst hz
      by_cases c1 : r2 = 0
      · replace ht := fh_t c1 ht
        refine ro_t c1 ?_
        obtain rfl := Option.some.inj ht
        exact ro_s rfl
      · replace ht := fh_f c1 ht
        refine ro_f c1 ?_
        exact B44 v1 v6 v7 ht
  unfold t_FF_areThere at ht
  unfold f_FF_areThere
  refine ro_b (oi_o (hC.1 0 0 (by decide))) ?_
  obtain ⟨r2, e_r2, ht⟩ := fh_b ht
  refine ro_c (u_FF_isThere hL e_r2 hC) (fun z hz => ?_)
  subst hz
  by_cases c4 : r2 = 0
  · replace ht := fh_t c4 ht
    refine ro_t c4 ?_
    obtain rfl := Option.some.inj ht
    exact ro_s rfl
  · replace ht := fh_f c4 ht
    refine ro_f c4 ?_
    refine ro_b (oi_o (hC.1 0 0 (by decide))) ?_
    obtain ⟨r4, e_r4, ht⟩ := fh_b ht
    refine ro_c (u_FF_isThere hL e_r4 hC) (fun z hz => ?_)
    subst hz
    by_cases c3 : r4 = 0
    · replace ht := fh_t c3 ht
      refine ro_t c3 ?_
      obtain rfl := Option.some.inj ht
      exact ro_s rfl
    · replace ht := fh_f c3 ht
      refine ro_f c3 ?_
      by_cases c2 : a1 < 3
      · replace ht := fh_t c2 ht
        refine ro_t c2 ?_
        exact B30 a1 a5 a6 a7 ht
      · replace ht := fh_f c2 ht
        refine ro_f c2 ?_
        refine ro_b (oi_o (hC.1 0 0 (by decide))) ?_
        obtain ⟨r6, e_r6, ht⟩ := fh_b ht
        refine ro_c (u_FF_isThere hL e_r6 hC) (fun z hz => ?_)
        subst hz
        by_cases c1 : r6 = 0
        · replace ht := fh_t c1 ht
          refine ro_t c1 ?_
          obtain rfl := Option.some.inj ht
          exact ro_s rfl
        · replace ht := fh_f c1 ht
          refine ro_f c1 ?_
          exact B30 a1 a5 a6 a7 ht
def t_FF_areTwoPairs (N : Nat) (a0 : Int32) (a1 : Int32) (a2 : Int32) (a3 : Int32) : Option (Int32) :=
  if a1 ≤ a0 then (some 0) else (if a3 ≤ a2 then (some 0) else (if a0 < a2 then (some 1) else (if a0 = a2 then (if a3 ≤ a1 then (some 0) else (some 1)) else (some 0))))
set_option maxHeartbeats 4000000 in
theorem u_FF_areTwoPairs {K : Nat → ClassId} {N : Nat} {a0 : Int32} {a1 : Int32} {a2 : Int32} {a3 : Int32} {h0 : fh_H} {res : Int32} (ht : t_FF_areTwoPairs N a0 a1 a2 a3 = some res) : RO (fun z => (res, h0) = z) (f_FF_areTwoPairs K N a0 a1 a2 a3 h0) := by
  unfold t_FF_areTwoPairs at ht
  unfold f_FF_areTwoPairs
  by_cases c5 : a1 ≤ a0
  · replace ht := fh_t c5 ht
    refine ro_t c5 ?_
    obtain rfl := Option.some.inj ht
    exact ro_s rfl
  · replace ht := fh_f c5 ht
    refine ro_f c5 ?_
    by_cases c4 : a3 ≤ a2
    · replace ht := fh_t c4 ht
      refine ro_t c4 ?_
      obtain rfl := Option.some.inj ht
      exact ro_s rfl
    · replace ht := fh_f c4 ht
      refine ro_f c4 ?_
      by_cases c3 : a0 < a2
      · replace ht := fh_t c3 ht
        refine ro_t c3 ?_
        obtain rfl := Option.some.inj ht
        exact ro_s rfl
      · replace ht := fh_f c3 ht
        refine ro_f c3 ?_
        by_cases c2 : a0 = a2
        · replace ht := fh_t c2 ht
          refine ro_t c2 ?_
          by_cases c1 : a3 ≤ a1
          · replace ht := fh_t c1 ht
            refine ro_t c1 ?_
            obtain rfl := Option.some.inj ht
            exact ro_s rfl
          · replace ht := fh_f c1 ht
            refine ro_f c1 ?_
            obtain rfl := Option.some.inj ht
            exact ro_s rfl
        · replace ht := fh_f c2 ht
          refine ro_f c2 ?_
          obtain rfl := Option.some.inj ht
          exact ro_s rfl
def t_FF_areApartPairs (N : Nat) (a0 : Int32) (a1 : Int32) (a2 : Int32) (a3 : Int32) : Option (Int32) :=
  if a0 = a2 then (some 0) else (if a0 = a3 then (some 0) else (if a1 = a2 then (some 0) else (if a1 = a3 then (some 0) else (some 1))))
set_option maxHeartbeats 4000000 in
theorem u_FF_areApartPairs {K : Nat → ClassId} {N : Nat} {a0 : Int32} {a1 : Int32} {a2 : Int32} {a3 : Int32} {h0 : fh_H} {res : Int32} (ht : t_FF_areApartPairs N a0 a1 a2 a3 = some res) : RO (fun z => (res, h0) = z) (f_FF_areApartPairs K N a0 a1 a2 a3 h0) := by
  unfold t_FF_areApartPairs at ht
  unfold f_FF_areApartPairs
  by_cases c4 : a0 = a2
  · replace ht := fh_t c4 ht
    refine ro_t c4 ?_
    obtain rfl := Option.some.inj ht
    exact ro_s rfl
  · replace ht := fh_f c4 ht
    refine ro_f c4 ?_
    by_cases c3 : a0 = a3
    · replace ht := fh_t c3 ht
      refine ro_t c3 ?_
      obtain rfl := Option.some.inj ht
      exact ro_s rfl
    · replace ht := fh_f c3 ht
      refine ro_f c3 ?_
      by_cases c2 : a1 = a2
      · replace ht := fh_t c2 ht
        refine ro_t c2 ?_
        obtain rfl := Option.some.inj ht
        exact ro_s rfl
      · replace ht := fh_f c2 ht
        refine ro_f c2 ?_
        by_cases c1 : a1 = a3
        · replace ht := fh_t c1 ht
          refine ro_t c1 ?_
          obtain rfl := Option.some.inj ht
          exact ro_s rfl
        · replace ht := fh_f c1 ht
          refine ro_f c1 ?_
          obtain rfl := Option.some.inj ht
          exact ro_s rfl
def t_FF_isFact (N : Nat) (a0 : Int32) (a1 : Int32) (a2 : Int32) (a3 : Int32) (a4 : Int32) (a5 : Int32) (a6 : Int32) : Option (Int32) :=
  if a0 = 0 then (if a2 ≤ a1 then (some 0) else (some 1)) else (if a0 = 1 then (if a2 ≤ a1 then (some 0) else (if a3 ≤ a2 then (some 0) else (some 1))) else (if a0 = 2 then ((t_FF_areTwoPairs N a1 a2 a3 a4).bind fun r1 => if r1 = 0 then (some 0) else ((t_FF_areApartPairs N a1 a2 a3 a4).bind fun r2 => if r2 = 0 then (some 0) else (some 1))) else (if a0 = 3 then ((t_FF_areTwoPairs N a1 a2 a3 a4).bind fun r3 => (tz r3).bind fun zz => some zz) else (if a0 = 4 then ((t_FF_areTwoPairs N a1 a2 a3 a4).bind fun r4 => (tz r4).bind fun zz => some zz) else (if a0 = 5 then (if a2 ≤ a1 then (some 0) else (if a3 ≤ a2 then (some 0) else (if a4 ≤ a3 then (some 0) else (some 1)))) else (if a0 = 6 then (if a3 ≤ a2 then (some 0) else (if a1 = a2 then (some 0) else (if a1 = a3 then (some 0) else (some 1)))) else (if a0 = 7 then (if a2 ≤ a1 then (some 0) else (if a3 ≤ a2 then (some 0) else (if a5 ≤ a4 then (some 0) else (if a6 ≤ a5 then (some 0) else (if a1 < a4 then (some 1) else (if a1 = a4 then (if a2 < a5 then (some 1) else (if a2 = a5 then (if a6 ≤ a3 then (some 0) else (some 1)) else (some 0))) else (some 0))))))) else (if a0 = 8 then ((t_FF_areTwoPairs N a1 a2 a3 a4).bind fun r5 => (tz r5).bind fun zz => some zz) else (some 0)))))))))
set_option maxHeartbeats 4000000 in
theorem u_FF_isFact {K : Nat → ClassId} {N : Nat} {a0 : Int32} {a1 : Int32} {a2 : Int32} {a3 : Int32} {a4 : Int32} {a5 : Int32} {a6 : Int32} {h0 : fh_H} {res : Int32} (ht : t_FF_isFact N a0 a1 a2 a3 a4 a5 a6 = some res) : RO (fun z => (res, h0) = z) (f_FF_isFact K N a0 a1 a2 a3 a4 a5 a6 h0) := by
  unfold t_FF_isFact at ht
  unfold f_FF_isFact
  by_cases c29 : a0 = 0
  · replace ht := fh_t c29 ht
    refine ro_t c29 ?_
    by_cases c1 : a2 ≤ a1
    · replace ht := fh_t c1 ht
      refine ro_t c1 ?_
      obtain rfl := Option.some.inj ht
      exact ro_s rfl
    · replace ht := fh_f c1 ht
      refine ro_f c1 ?_
      obtain rfl := Option.some.inj ht
      exact ro_s rfl
  · replace ht := fh_f c29 ht
    refine ro_f c29 ?_
    by_cases c28 : a0 = 1
    · replace ht := fh_t c28 ht
      refine ro_t c28 ?_
      by_cases c3 : a2 ≤ a1
      · replace ht := fh_t c3 ht
        refine ro_t c3 ?_
        obtain rfl := Option.some.inj ht
        exact ro_s rfl
      · replace ht := fh_f c3 ht
        refine ro_f c3 ?_
        by_cases c2 : a3 ≤ a2
        · replace ht := fh_t c2 ht
          refine ro_t c2 ?_
          obtain rfl := Option.some.inj ht
          exact ro_s rfl
        · replace ht := fh_f c2 ht
          refine ro_f c2 ?_
          obtain rfl := Option.some.inj ht
          exact ro_s rfl
    · replace ht := fh_f c28 ht
      refine ro_f c28 ?_
      by_cases c27 : a0 = 2
      · replace ht := fh_t c27 ht
        refine ro_t c27 ?_
        obtain ⟨r1, e_r1, ht⟩ := fh_b ht
        refine ro_c (u_FF_areTwoPairs e_r1) (fun z hz => ?_)
        subst hz
        by_cases c5 : r1 = 0
        · replace ht := fh_t c5 ht
          refine ro_t c5 ?_
          obtain rfl := Option.some.inj ht
          exact ro_s rfl
        · replace ht := fh_f c5 ht
          refine ro_f c5 ?_
          obtain ⟨r2, e_r2, ht⟩ := fh_b ht
          refine ro_c (u_FF_areApartPairs e_r2) (fun z hz => ?_)
          subst hz
          by_cases c4 : r2 = 0
          · replace ht := fh_t c4 ht
            refine ro_t c4 ?_
            obtain rfl := Option.some.inj ht
            exact ro_s rfl
          · replace ht := fh_f c4 ht
            refine ro_f c4 ?_
            obtain rfl := Option.some.inj ht
            exact ro_s rfl
      · replace ht := fh_f c27 ht
        refine ro_f c27 ?_
        by_cases c26 : a0 = 3
        · replace ht := fh_t c26 ht
          refine ro_t c26 ?_
          obtain ⟨r3, e_r3, ht⟩ := fh_b ht
          refine ro_c (u_FF_areTwoPairs e_r3) (fun z hz => ?_)
          subst hz
          obtain ⟨zz, e_zz, ht⟩ := fh_b ht
          obtain ⟨hz, rfl⟩ := tz_s e_zz
          obtain rfl := Option.some.inj ht
          exact ro_z hz rfl
        · replace ht := fh_f c26 ht
          refine ro_f c26 ?_
          by_cases c25 : a0 = 4
          · replace ht := fh_t c25 ht
            refine ro_t c25 ?_
            obtain ⟨r4, e_r4, ht⟩ := fh_b ht
            refine ro_c (u_FF_areTwoPairs e_r4) (fun z hz => ?_)
            subst hz
            obtain ⟨zz, e_zz, ht⟩ := fh_b ht
            obtain ⟨hz, rfl⟩ := tz_s e_zz
            obtain rfl := Option.some.inj ht
            exact ro_z hz rfl
          · replace ht := fh_f c25 ht
            refine ro_f c25 ?_
            by_cases c24 : a0 = 5
            · replace ht := fh_t c24 ht
              refine ro_t c24 ?_
              by_cases c8 : a2 ≤ a1
              · replace ht := fh_t c8 ht
                refine ro_t c8 ?_
                obtain rfl := Option.some.inj ht
                exact ro_s rfl
              · replace ht := fh_f c8 ht
                refine ro_f c8 ?_
                by_cases c7 : a3 ≤ a2
                · replace ht := fh_t c7 ht
                  refine ro_t c7 ?_
                  obtain rfl := Option.some.inj ht
                  exact ro_s rfl
                · replace ht := fh_f c7 ht
                  refine ro_f c7 ?_
                  by_cases c6 : a4 ≤ a3
                  · replace ht := fh_t c6 ht
                    refine ro_t c6 ?_
                    obtain rfl := Option.some.inj ht
                    exact ro_s rfl
                  · replace ht := fh_f c6 ht
                    refine ro_f c6 ?_
                    obtain rfl := Option.some.inj ht
                    exact ro_s rfl
            · replace ht := fh_f c24 ht
              refine ro_f c24 ?_
              by_cases c23 : a0 = 6
              · replace ht := fh_t c23 ht
                refine ro_t c23 ?_
                by_cases c11 : a3 ≤ a2
                · replace ht := fh_t c11 ht
                  refine ro_t c11 ?_
                  obtain rfl := Option.some.inj ht
                  exact ro_s rfl
                · replace ht := fh_f c11 ht
                  refine ro_f c11 ?_
                  by_cases c10 : a1 = a2
                  · replace ht := fh_t c10 ht
                    refine ro_t c10 ?_
                    obtain rfl := Option.some.inj ht
                    exact ro_s rfl
                  · replace ht := fh_f c10 ht
                    refine ro_f c10 ?_
                    by_cases c9 : a1 = a3
                    · replace ht := fh_t c9 ht
                      refine ro_t c9 ?_
                      obtain rfl := Option.some.inj ht
                      exact ro_s rfl
                    · replace ht := fh_f c9 ht
                      refine ro_f c9 ?_
                      obtain rfl := Option.some.inj ht
                      exact ro_s rfl
              · replace ht := fh_f c23 ht
                refine ro_f c23 ?_
                by_cases c22 : a0 = 7
                · replace ht := fh_t c22 ht
                  refine ro_t c22 ?_
                  by_cases c20 : a2 ≤ a1
                  · replace ht := fh_t c20 ht
                    refine ro_t c20 ?_
                    obtain rfl := Option.some.inj ht
                    exact ro_s rfl
                  · replace ht := fh_f c20 ht
                    refine ro_f c20 ?_
                    by_cases c19 : a3 ≤ a2
                    · replace ht := fh_t c19 ht
                      refine ro_t c19 ?_
                      obtain rfl := Option.some.inj ht
                      exact ro_s rfl
                    · replace ht := fh_f c19 ht
                      refine ro_f c19 ?_
                      by_cases c18 : a5 ≤ a4
                      · replace ht := fh_t c18 ht
                        refine ro_t c18 ?_
                        obtain rfl := Option.some.inj ht
                        exact ro_s rfl
                      · replace ht := fh_f c18 ht
                        refine ro_f c18 ?_
                        by_cases c17 : a6 ≤ a5
                        · replace ht := fh_t c17 ht
                          refine ro_t c17 ?_
                          obtain rfl := Option.some.inj ht
                          exact ro_s rfl
                        · replace ht := fh_f c17 ht
                          refine ro_f c17 ?_
                          by_cases c16 : a1 < a4
                          · replace ht := fh_t c16 ht
                            refine ro_t c16 ?_
                            obtain rfl := Option.some.inj ht
                            exact ro_s rfl
                          · replace ht := fh_f c16 ht
                            refine ro_f c16 ?_
                            by_cases c15 : a1 = a4
                            · replace ht := fh_t c15 ht
                              refine ro_t c15 ?_
                              by_cases c14 : a2 < a5
                              · replace ht := fh_t c14 ht
                                refine ro_t c14 ?_
                                obtain rfl := Option.some.inj ht
                                exact ro_s rfl
                              · replace ht := fh_f c14 ht
                                refine ro_f c14 ?_
                                by_cases c13 : a2 = a5
                                · replace ht := fh_t c13 ht
                                  refine ro_t c13 ?_
                                  by_cases c12 : a6 ≤ a3
                                  · replace ht := fh_t c12 ht
                                    refine ro_t c12 ?_
                                    obtain rfl := Option.some.inj ht
                                    exact ro_s rfl
                                  · replace ht := fh_f c12 ht
                                    refine ro_f c12 ?_
                                    obtain rfl := Option.some.inj ht
                                    exact ro_s rfl
                                · replace ht := fh_f c13 ht
                                  refine ro_f c13 ?_
                                  obtain rfl := Option.some.inj ht
                                  exact ro_s rfl
                            · replace ht := fh_f c15 ht
                              refine ro_f c15 ?_
                              obtain rfl := Option.some.inj ht
                              exact ro_s rfl
                · replace ht := fh_f c22 ht
                  refine ro_f c22 ?_
                  by_cases c21 : a0 = 8
                  · replace ht := fh_t c21 ht
                    refine ro_t c21 ?_
                    obtain ⟨r5, e_r5, ht⟩ := fh_b ht
                    refine ro_c (u_FF_areTwoPairs e_r5) (fun z hz => ?_)
                    subst hz
                    obtain ⟨zz, e_zz, ht⟩ := fh_b ht
                    obtain ⟨hz, rfl⟩ := tz_s e_zz
                    obtain rfl := Option.some.inj ht
                    exact ro_z hz rfl
                  · replace ht := fh_f c21 ht
                    refine ro_f c21 ?_
                    obtain rfl := Option.some.inj ht
                    exact ro_s rfl
def t_FF_join (N : Nat) (a0 : Int32) (a1 : Int32) : Option (Int32) :=
  some (a0 ||| (a1 <<< ((12 : Int32) &&& 31)))
set_option maxHeartbeats 4000000 in
theorem u_FF_join {K : Nat → ClassId} {N : Nat} {a0 : Int32} {a1 : Int32} {h0 : fh_H} {res : Int32} (ht : t_FF_join N a0 a1 = some res) : RO (fun z => (res, h0) = z) (f_FF_join K N a0 a1 h0) := by
  unfold t_FF_join at ht
  unfold f_FF_join
  obtain rfl := Option.some.inj ht
  exact ro_s rfl
def tb_Dr_firstWithLength_65 (N : Nat) (k2 : Int32 → Int32 → CS → Option (Option Nat)) (i : Nat) (v1 : Int32) (v2 : Int32) (S : CS) : Option (Option Nat) :=
  (some (v2 + 1)).bind fun x1 => k2 v1 x1 S
def tb_Dr_firstWithLength_2 (N : Nat) (k2 : Int32 → Int32 → CS → Option (Option Nat)) (i : Nat) (v1 : Int32) (v2 : Int32) (S : CS) : Option (Option Nat) :=
  (some (cs_dsize S i)).bind fun x1 => if x1 ≤ v2 then (some none) else ((ta 5 (fun z => 5 * i + z) v2).bind fun x3 => (some (cs_fallen S x3)).bind fun x4 => if x4 = (-1) then ((t_FF_unpack N v1 0).bind fun r5 => (t_FF_unpack N v1 1).bind fun r6 => (t_Fi_length N x3 r5 r6 S).bind fun r8 => if (lg_cmp r8 0) = 0 then ((t_FF_unpack N v1 2).bind fun r9 => (t_FF_unpack N v1 3).bind fun r10 => (t_Fi_length N x3 r9 r10 S).bind fun r12 => if (lg_cmp r12 0) = 0 then (tb_Dr_firstWithLength_65 N k2 i v1 v2 S) else (some (some x3))) else (some (some x3))) else (tb_Dr_firstWithLength_65 N k2 i v1 v2 S))
def tl_Dr_firstWithLength_2 (N : Nat) (i : Nat) : Nat → Int32 → Int32 → CS → Option (Option Nat)
  | 0, _, _, _ => none
  | n + 1, v1, v2, S => tb_Dr_firstWithLength_2 N (tl_Dr_firstWithLength_2 N i n) i v1 v2 S
def t_Dr_firstWithLength (N : Nat) (i : Nat) (a1 : Int32) (S0 : CS) : Option (Option Nat) :=
  tl_Dr_firstWithLength_2 N i N a1 0 S0
set_option maxHeartbeats 4000000 in
theorem u_Dr_firstWithLength {K : Nat → ClassId} {N : Nat} {i : Nat} {a1 : Int32} {h0 : fh_H} {S0 : CS} {res : Option Nat} {L : Nat → Nat → Nat} {hb : fh_H} (hL : cs_I L) (ht : t_Dr_firstWithLength N i a1 S0 = some res) (hC : cs_W K L hb h0 S0) (hi : i < 2) : RO (fun z => (Option.map (L 7) res, h0) = z) (f_Dr_firstWithLength K N (L 5 i) a1 h0) := by
  have L2 : ∀ (n2 : Nat) (v1 : Int32) (v2 : Int32), tl_Dr_firstWithLength_2 N i n2 v1 v2 S0 = some res → RO (fun z => (Option.map (L 7) res, h0) = z) (l_Dr_firstWithLength_2 K N (L 5 i) n2 v1 v2 h0) := by
    intro n2
    induction n2 with
    | zero =>
      intro v1 v2 ht
      exact fh_no ht
    | succ n2 ih2 =>
      have B65 : ∀ (v1 : Int32) (v2 : Int32), tb_Dr_firstWithLength_65 N (tl_Dr_firstWithLength_2 N i n2) i v1 v2 S0 = some res → RO (fun z => (Option.map (L 7) res, h0) = z) (b_Dr_firstWithLength_65 K N (l_Dr_firstWithLength_2 K N (L 5 i) n2) (L 5 i) v1 v2 h0) := by
        intro v1 v2 ht
        unfold tb_Dr_firstWithLength_65 at ht
        unfold b_Dr_firstWithLength_65
        obtain ⟨x1, e_x1, ht⟩ := fh_b ht
        refine ro_b e_x1 ?_
        exact ih2 v1 x1 ht
      intro v1 v2 ht
      have ht : tb_Dr_firstWithLength_2 N (tl_Dr_firstWithLength_2 N i n2) i v1 v2 S0 = some res := ht
      show RO _ (b_Dr_firstWithLength_2 K N (l_Dr_firstWithLength_2 K N (L 5 i) n2) (L 5 i) v1 v2 h0)
      unfold tb_Dr_firstWithLength_2 at ht
      unfold b_Dr_firstWithLength_2
      obtain ⟨x1, e_x1, ht⟩ := fh_b ht
      refine ro_b ((oi_i (hC.1 5 i hi) rfl).trans e_x1) ?_
      by_cases c4 : x1 ≤ v2
      · replace ht := fh_t c4 ht
        refine ro_t c4 ?_
        obtain rfl := Option.some.inj ht
        exact ro_s rfl
      · replace ht := fh_f c4 ht
        refine ro_f c4 ?_
        refine ro_b (oi_a (hC.1 5 i hi) rfl) ?_
        obtain ⟨x3, e_x3, ht⟩ := fh_b ht
        have hb_x3 : x3 < 10 := by obtain ⟨k, hk, q⟩ := ta_lt e_x3; have := hi; omega
        refine ro_b ((ai_a (hC.1 6 i hi)).trans (ai_m (g := fun z => some (L 7 z)) e_x3)) ?_
        obtain ⟨x4, e_x4, ht⟩ := fh_b ht
        refine ro_b ((oi_i (hC.1 7 x3 hb_x3) rfl).trans e_x4) ?_
        by_cases c3 : x4 = (-1)
        · replace ht := fh_t c3 ht
          refine ro_t c3 ?_
          obtain ⟨r5, e_r5, ht⟩ := fh_b ht
          refine ro_c (u_FF_unpack e_r5) (fun z hz => ?_)
          subst hz
          obtain ⟨r6, e_r6, ht⟩ := fh_b ht
          refine ro_c (u_FF_unpack e_r6) (fun z hz => ?_)
          subst hz
          refine ro_b (oi_o (hC.1 7 x3 hb_x3)) ?_
          obtain ⟨r8, e_r8, ht⟩ := fh_b ht
          refine ro_c (u_Fi_length hL e_r8 hC hb_x3) (fun z hz => ?_)
          subst hz
          by_cases c2 : (lg_cmp r8 0) = 0
          · replace ht := fh_t c2 ht
            refine ro_t c2 ?_
            obtain ⟨r9, e_r9, ht⟩ := fh_b ht
            refine ro_c (u_FF_unpack e_r9) (fun z hz => ?_)
            subst hz
            obtain ⟨r10, e_r10, ht⟩ := fh_b ht
            refine ro_c (u_FF_unpack e_r10) (fun z hz => ?_)
            subst hz
            refine ro_b (oi_o (hC.1 7 x3 hb_x3)) ?_
            obtain ⟨r12, e_r12, ht⟩ := fh_b ht
            refine ro_c (u_Fi_length hL e_r12 hC hb_x3) (fun z hz => ?_)
            subst hz
            by_cases c1 : (lg_cmp r12 0) = 0
            · replace ht := fh_t c1 ht
              refine ro_t c1 ?_
              exact B65 v1 v2 ht
            · replace ht := fh_f c1 ht
              refine ro_f c1 ?_
              obtain rfl := Option.some.inj ht
              exact ro_s rfl
          · replace ht := fh_f c2 ht
            refine ro_f c2 ?_
            obtain rfl := Option.some.inj ht
            exact ro_s rfl
        · replace ht := fh_f c3 ht
          refine ro_f c3 ?_
          exact B65 v1 v2 ht
  unfold t_Dr_firstWithLength at ht
  unfold f_Dr_firstWithLength
  exact L2 N a1 0 ht
def t_Dr_withNumbers (N : Nat) (a0 : Int32) (a1 : Int32) (a2 : Int32) : Option (Int32) :=
  (some (a0 &&& 65535)).bind fun x1 => (some ((x1 ||| (a1 <<< ((16 : Int32) &&& 31))) ||| (a2 <<< ((20 : Int32) &&& 31)))).bind fun x2 => some x2
set_option maxHeartbeats 4000000 in
theorem u_Dr_withNumbers {K : Nat → ClassId} {N : Nat} {a0 : Int32} {a1 : Int32} {a2 : Int32} {h0 : fh_H} {res : Int32} (ht : t_Dr_withNumbers N a0 a1 a2 = some res) : RO (fun z => (res, h0) = z) (f_Dr_withNumbers K N a0 a1 a2 h0) := by
  unfold t_Dr_withNumbers at ht
  unfold f_Dr_withNumbers
  obtain ⟨x1, e_x1, ht⟩ := fh_b ht
  refine ro_b e_x1 ?_
  obtain ⟨x2, e_x2, ht⟩ := fh_b ht
  refine ro_b e_x2 ?_
  obtain rfl := Option.some.inj ht
  exact ro_s rfl
def tb_Dr_divide_22 (N : Nat) (i : Nat) (v1 : Int64) (S : CS) : Option (Int64 × CS) :=
  (some (cs_invs S i)).bind fun x1 => some (fr_l (v1 * x1) 1000003, S)
def t_Dr_divide (N : Nat) (i : Nat) (a1 : Int64) (a3 : Int64) (S0 : CS) : Option (Int64 × CS) :=
  (some (cs_divr S0 i)).bind fun x1 => if (lg_cmp a3 x1) = 0 then (tb_Dr_divide_22 N i a1 S0) else ((some (cs_set_divr S0 (va_up (cs_divr S0) i a3))).bind fun S2 => (t_FF_invert N a3).bind fun r3 => (some (cs_set_invs S2 (va_up (cs_invs S2) i r3))).bind fun S4 => tb_Dr_divide_22 N i a1 S4)
set_option maxHeartbeats 4000000 in
theorem u_Dr_divide {K : Nat → ClassId} {N : Nat} {i : Nat} {a1 : Int64} {a3 : Int64} {h0 : fh_H} {S0 : CS} {res : Int64 × CS} {L : Nat → Nat → Nat} {hb : fh_H} (hL : cs_I L) (ht : t_Dr_divide N i a1 a3 S0 = some res) (hC : cs_W K L hb h0 S0) (hi : i < 2) : RO (fun z => z.1 = res.1 ∧ cs_W K L hb z.2 res.2) (f_Dr_divide K N (L 5 i) a1 a3 h0) := by
  have B22 : ∀ (v1 : Int64) (S : CS) (h : fh_H), cs_W K L hb h S → tb_Dr_divide_22 N i v1 S = some res → RO (fun z => z.1 = res.1 ∧ cs_W K L hb z.2 res.2) (b_Dr_divide_22 K N (L 5 i) v1 h) := by
    intro v1 S h hC ht
    unfold tb_Dr_divide_22 at ht
    unfold b_Dr_divide_22
    obtain ⟨x1, e_x1, ht⟩ := fh_b ht
    refine ro_b ((oi_l (hC.1 5 i hi) rfl).trans e_x1) ?_
    obtain rfl := Option.some.inj ht
    exact ro_s ⟨rfl, hC⟩
  unfold t_Dr_divide at ht
  unfold f_Dr_divide
  obtain ⟨x1, e_x1, ht⟩ := fh_b ht
  refine ro_b ((oi_l (hC.1 5 i hi) rfl).trans e_x1) ?_
  by_cases c1 : (lg_cmp a3 x1) = 0
  · replace ht := fh_t c1 ht
    refine ro_t c1 ?_
    exact B22 a1 S0 _ hC ht
  · replace ht := fh_f c1 ht
    refine ro_f c1 ?_
    obtain ⟨S2, e_S2, ht⟩ := fh_b ht
    refine ro_c (G1 := (fun z => cs_W K L hb z S2)) ⟨_, oi_p (hC.1 5 i hi) (Nat.le_of_ble_eq_true rfl), by rw [← Option.some.inj e_S2]; exact cs_w_divr hL hC hi rfl⟩ (fun h hC => ?_)
    obtain ⟨r3, e_r3, ht⟩ := fh_b ht
    refine ro_c (u_FF_invert e_r3) (fun z hz => ?_)
    subst hz
    obtain ⟨S4, e_S4, ht⟩ := fh_b ht
    refine ro_c (G1 := (fun z => cs_W K L hb z S4)) ⟨_, oi_p (hC.1 5 i hi) (Nat.le_of_ble_eq_true rfl), by rw [← Option.some.inj e_S4]; exact cs_w_invs hL hC hi rfl⟩ (fun h hC => ?_)
    exact B22 a1 S4 _ hC ht
def tb_Dr_giveNumbers_152 (N : Nat) (k86 : Int32 → Int64 → Int32 → CS → Option (Int32 × CS)) (i : Nat) (v1 : Int32) (v7 : Int64) (v9 : Int32) (S : CS) : Option (Int32 × CS) :=
  (some (v9 + 1)).bind fun x1 => k86 v1 v7 x1 S
def tb_Dr_giveNumbers_86 (N : Nat) (k86 : Int32 → Int64 → Int32 → CS → Option (Int32 × CS)) (i : Nat) (v1 : Int32) (v7 : Int64) (v9 : Int32) (S : CS) : Option (Int32 × CS) :=
  if 9 < v9 then (some (0, S)) else ((some (fr_l (v7 * v9.toInt64) 1000003)).bind fun x1 => if 0 < (lg_cmp x1 9) then (tb_Dr_giveNumbers_152 N k86 i v1 v7 v9 S) else (if (lg_cmp x1 v9.toInt64) = 0 then (tb_Dr_giveNumbers_152 N k86 i v1 v7 v9 S) else ((t_Dr_withNumbers N v1 x1.toInt32 v9).bind fun r2 => (t_Dr_isShown N i 8 r2 S).bind fun r4 => if r4 = 0 then (some (0, S)) else (some (r2, S)))))
def tl_Dr_giveNumbers_86 (N : Nat) (i : Nat) : Nat → Int32 → Int64 → Int32 → CS → Option (Int32 × CS)
  | 0, _, _, _, _ => none
  | n + 1, v1, v7, v9, S => tb_Dr_giveNumbers_86 N (tl_Dr_giveNumbers_86 N i n) i v1 v7 v9 S
def t_Dr_giveNumbers (N : Nat) (i : Nat) (a1 : Int32) (S0 : CS) : Option (Int32 × CS) :=
  (t_Dr_firstWithLength N i a1 S0).bind fun r2 => if r2 = none then ((some (cs_stand S0 i)).bind fun x13 => if x13 ≤ 0 then (some (0, S0)) else ((t_Dr_withNumbers N a1 1 2).bind fun r14 => some (r14, S0))) else ((t_FF_unpack N a1 0).bind fun r3 => (t_FF_unpack N a1 1).bind fun r4 => (tk 10 r2).bind fun j_o5 => (t_Fi_length N j_o5 r3 r4 S0).bind fun r6 => (t_FF_unpack N a1 2).bind fun r7 => (t_FF_unpack N a1 3).bind fun r8 => (t_Fi_length N j_o5 r7 r8 S0).bind fun r10 => if (lg_cmp r6 0) = 0 then (some (0, S0)) else (if (lg_cmp r10 0) = 0 then (some (0, S0)) else ((t_Dr_divide N i r10 r6 S0).bind fun r12 => tl_Dr_giveNumbers_86 N i N a1 r12.1 1 r12.2)))
set_option maxHeartbeats 4000000 in
theorem u_Dr_giveNumbers {K : Nat → ClassId} {N : Nat} {i : Nat} {a1 : Int32} {h0 : fh_H} {S0 : CS} {res : Int32 × CS} {L : Nat → Nat → Nat} {hb : fh_H} (hL : cs_I L) (ht : t_Dr_giveNumbers N i a1 S0 = some res) (hC : cs_W K L hb h0 S0) (hi : i < 2) : RO (fun z => z.1 = res.1 ∧ cs_W K L hb z.2 res.2) (f_Dr_giveNumbers K N (L 5 i) a1 h0) := by
  have L86 : ∀ (n86 : Nat) (v1 : Int32) (v7 : Int64) (v9 : Int32) (S : CS) (h : fh_H), cs_W K L hb h S → tl_Dr_giveNumbers_86 N i n86 v1 v7 v9 S = some res → RO (fun z => z.1 = res.1 ∧ cs_W K L hb z.2 res.2) (l_Dr_giveNumbers_86 K N (L 5 i) n86 v1 v7 v9 h) := by
    intro n86
    induction n86 with
    | zero =>
      intro v1 v7 v9 S h hC ht
      exact fh_no ht
    | succ n86 ih86 =>
      have B152 : ∀ (v1 : Int32) (v7 : Int64) (v9 : Int32) (S : CS) (h : fh_H), cs_W K L hb h S → tb_Dr_giveNumbers_152 N (tl_Dr_giveNumbers_86 N i n86) i v1 v7 v9 S = some res → RO (fun z => z.1 = res.1 ∧ cs_W K L hb z.2 res.2) (b_Dr_giveNumbers_152 K N (l_Dr_giveNumbers_86 K N (L 5 i) n86) (L 5 i) v1 v7 v9 h) := by
        intro v1 v7 v9 S h hC ht
        unfold tb_Dr_giveNumbers_152 at ht
        unfold b_Dr_giveNumbers_152
        obtain ⟨x1, e_x1, ht⟩ := fh_b ht
        refine ro_b e_x1 ?_
        exact ih86 v1 v7 x1 S _ hC ht
      intro v1 v7 v9 S h hC ht
      have ht : tb_Dr_giveNumbers_86 N (tl_Dr_giveNumbers_86 N i n86) i v1 v7 v9 S = some res := ht
      show RO _ (b_Dr_giveNumbers_86 K N (l_Dr_giveNumbers_86 K N (L 5 i) n86) (L 5 i) v1 v7 v9 h)
      unfold tb_Dr_giveNumbers_86 at ht
      unfold b_Dr_giveNumbers_86
      by_cases c4 : 9 < v9
      · replace ht := fh_t c4 ht
        refine ro_t c4 ?_
        obtain rfl := Option.some.inj ht
        exact ro_s ⟨rfl, hC⟩
      · replace ht := fh_f c4 ht
        refine ro_f c4 ?_
        obtain ⟨x1, e_x1, ht⟩ := fh_b ht
        refine ro_b e_x1 ?_
        by_cases c3 : 0 < (lg_cmp x1 9)
        · replace ht := fh_t c3 ht
          refine ro_t c3 ?_
          exact B152 v1 v7 v9 S _ hC ht
        · replace ht := fh_f c3 ht
          refine ro_f c3 ?_
          by_cases c2 : (lg_cmp x1 v9.toInt64) = 0
          · replace ht := fh_t c2 ht
            refine ro_t c2 ?_
            exact B152 v1 v7 v9 S _ hC ht
          · replace ht := fh_f c2 ht
            refine ro_f c2 ?_
            obtain ⟨r2, e_r2, ht⟩ := fh_b ht
            refine ro_c (u_Dr_withNumbers e_r2) (fun z hz => ?_)
            subst hz
            refine ro_b (oi_o (hC.1 5 i hi)) ?_
            obtain ⟨r4, e_r4, ht⟩ := fh_b ht
            refine ro_c (u_Dr_isShown hL e_r4 hC hi) (fun z hz => ?_)
            subst hz
            by_cases c1 : r4 = 0
            · replace ht := fh_t c1 ht
              refine ro_t c1 ?_
              obtain rfl := Option.some.inj ht
              exact ro_s ⟨rfl, hC⟩
            · replace ht := fh_f c1 ht
              refine ro_f c1 ?_
              obtain rfl := Option.some.inj ht
              exact ro_s ⟨rfl, hC⟩
  unfold t_Dr_giveNumbers at ht
  unfold f_Dr_giveNumbers
  refine ro_b (oi_o (hC.1 5 i hi)) ?_
  obtain ⟨r2, e_r2, ht⟩ := fh_b ht
  refine ro_c (u_Dr_firstWithLength hL e_r2 hC hi) (fun z hz => ?_)
  subst hz
  by_cases c4 : r2 = none
  · replace ht := fh_t c4 ht
    refine ro_t (by rw [c4]; rfl) ?_
    obtain ⟨x13, e_x13, ht⟩ := fh_b ht
    refine ro_b ((oi_i (hC.1 5 i hi) rfl).trans e_x13) ?_
    by_cases c1 : x13 ≤ 0
    · replace ht := fh_t c1 ht
      refine ro_t c1 ?_
      obtain rfl := Option.some.inj ht
      exact ro_s ⟨rfl, hC⟩
    · replace ht := fh_f c1 ht
      refine ro_f c1 ?_
      obtain ⟨r14, e_r14, ht⟩ := fh_b ht
      refine ro_c (u_Dr_withNumbers e_r14) (fun z hz => ?_)
      subst hz
      obtain rfl := Option.some.inj ht
      exact ro_s ⟨rfl, hC⟩
  · replace ht := fh_f c4 ht
    refine ro_f (fun q => c4 (Option.map_eq_none_iff.mp q)) ?_
    obtain ⟨r3, e_r3, ht⟩ := fh_b ht
    refine ro_c (u_FF_unpack e_r3) (fun z hz => ?_)
    subst hz
    obtain ⟨r4, e_r4, ht⟩ := fh_b ht
    refine ro_c (u_FF_unpack e_r4) (fun z hz => ?_)
    subst hz
    obtain ⟨j_o5, e_j_o5, ht⟩ := fh_b ht
    obtain ⟨ey_j_o5, hj_j_o5⟩ := tk_s e_j_o5
    rw [ey_j_o5]
    refine ro_b (oi_o (hC.1 7 j_o5 hj_j_o5)) ?_
    obtain ⟨r6, e_r6, ht⟩ := fh_b ht
    refine ro_c (u_Fi_length hL e_r6 hC hj_j_o5) (fun z hz => ?_)
    subst hz
    obtain ⟨r7, e_r7, ht⟩ := fh_b ht
    refine ro_c (u_FF_unpack e_r7) (fun z hz => ?_)
    subst hz
    obtain ⟨r8, e_r8, ht⟩ := fh_b ht
    refine ro_c (u_FF_unpack e_r8) (fun z hz => ?_)
    subst hz
    refine ro_b (oi_o (hC.1 7 j_o5 hj_j_o5)) ?_
    obtain ⟨r10, e_r10, ht⟩ := fh_b ht
    refine ro_c (u_Fi_length hL e_r10 hC hj_j_o5) (fun z hz => ?_)
    subst hz
    by_cases c3 : (lg_cmp r6 0) = 0
    · replace ht := fh_t c3 ht
      refine ro_t c3 ?_
      obtain rfl := Option.some.inj ht
      exact ro_s ⟨rfl, hC⟩
    · replace ht := fh_f c3 ht
      refine ro_f c3 ?_
      by_cases c2 : (lg_cmp r10 0) = 0
      · replace ht := fh_t c2 ht
        refine ro_t c2 ?_
        obtain rfl := Option.some.inj ht
        exact ro_s ⟨rfl, hC⟩
      · replace ht := fh_f c2 ht
        refine ro_f c2 ?_
        refine ro_b (oi_o (hC.1 5 i hi)) ?_
        obtain ⟨r12, e_r12, ht⟩ := fh_b ht
        refine ro_c (u_Dr_divide hL e_r12 hC hi) (fun z hz => ?_)
        obtain ⟨z1, h⟩ := z
        obtain ⟨ez, hC⟩ := hz
        dsimp only at ez hC
        subst ez
        exact L86 N a1 r12.1 1 r12.2 _ hC ht
def t_Dr_bears (N : Nat) (i : Nat) (a1 : Int32) (a2 : Int32) (S0 : CS) : Option (Int32 × CS) :=
  if a1 = 8 then ((t_Dr_giveNumbers N i a2 S0).bind fun r4 => if r4.1 = 0 then (some (0, r4.2)) else (some (1, r4.2))) else ((t_Dr_isShown N i a1 a2 S0).bind fun r2 => (tz r2).bind fun zz => some (zz, S0))
set_option maxHeartbeats 4000000 in
theorem u_Dr_bears {K : Nat → ClassId} {N : Nat} {i : Nat} {a1 : Int32} {a2 : Int32} {h0 : fh_H} {S0 : CS} {res : Int32 × CS} {L : Nat → Nat → Nat} {hb : fh_H} (hL : cs_I L) (ht : t_Dr_bears N i a1 a2 S0 = some res) (hC : cs_W K L hb h0 S0) (hi : i < 2) : RO (fun z => z.1 = res.1 ∧ cs_W K L hb z.2 res.2) (f_Dr_bears K N (L 5 i) a1 a2 h0) := by
  unfold t_Dr_bears at ht
  unfold f_Dr_bears
  by_cases c2 : a1 = 8
  · replace ht := fh_t c2 ht
    refine ro_t c2 ?_
    refine ro_b (oi_o (hC.1 5 i hi)) ?_
    obtain ⟨r4, e_r4, ht⟩ := fh_b ht
    refine ro_c (u_Dr_giveNumbers hL e_r4 hC hi) (fun z hz => ?_)
    obtain ⟨z1, h⟩ := z
    obtain ⟨ez, hC⟩ := hz
    dsimp only at ez hC
    subst ez
    by_cases c1 : r4.1 = 0
    · replace ht := fh_t c1 ht
      refine ro_t c1 ?_
      obtain rfl := Option.some.inj ht
      exact ro_s ⟨rfl, hC⟩
    · replace ht := fh_f c1 ht
      refine ro_f c1 ?_
      obtain rfl := Option.some.inj ht
      exact ro_s ⟨rfl, hC⟩
  · replace ht := fh_f c2 ht
    refine ro_f c2 ?_
    refine ro_b (oi_o (hC.1 5 i hi)) ?_
    obtain ⟨r2, e_r2, ht⟩ := fh_b ht
    refine ro_c (u_Dr_isShown hL e_r2 hC hi) (fun z hz => ?_)
    subst hz
    obtain ⟨zz, e_zz, ht⟩ := fh_b ht
    obtain ⟨hz, rfl⟩ := tz_s e_zz
    obtain rfl := Option.some.inj ht
    exact ro_z hz ⟨rfl, hC⟩
def tb_FF_holds_117 (N : Nat) (v1 : Int32) (v9 : Int32) (S : CS) : Option (Int32 × CS) :=
  (t_Dr_bears N 0 v1 v9 S).bind fun r4 => if r4.1 = 0 then (some (0, r4.2)) else (some (1, r4.2))
def tb_FF_holds_109 (N : Nat) (v1 : Int32) (w0 : Int32) (w1 : Int32) (w2 : Int32) (w3 : Int32) (S : CS) : Option (Int32 × CS) :=
  (t_FF_pack N w1 w2 w3).bind fun r1 => (t_FF_join N w0 r1).bind fun r2 => tb_FF_holds_117 N v1 r2 S
def tb_FF_holds_97 (N : Nat) (v1 : Int32) (v7 : Int32) (v8 : Int32) (w0 : Int32) (w1 : Int32) (w2 : Int32) (S : CS) : Option (Int32 × CS) :=
  if v8 ≤ 4 then (tb_FF_holds_109 N v1 w0 w1 w2 0 S) else (tb_FF_holds_109 N v1 w0 w1 w2 v7 S)
def tb_FF_holds_70 (N : Nat) (v1 : Int32) (v5 : Int32) (v6 : Int32) (v7 : Int32) (v8 : Int32) (w0 : Int32) (w1 : Int32) (w2 : Int32) (S : CS) : Option (Int32 × CS) :=
  (t_FF_pack N w0 w1 w2).bind fun r1 => if v8 ≤ 3 then (tb_FF_holds_117 N v1 r1 S) else (if v8 ≤ 4 then (tb_FF_holds_97 N v1 v7 v8 r1 v5 0 S) else (tb_FF_holds_97 N v1 v7 v8 r1 v5 v6 S))
def t_FF_holds (N : Nat) (a1 : Int32) (a2 : Int32) (a3 : Int32) (a4 : Int32) (a5 : Int32) (a6 : Int32) (a7 : Int32) (S0 : CS) : Option (Int32 × CS) :=
  (t_FF_isFactKind N a1).bind fun r1 => if r1 = 0 then (some ((-2), S0)) else ((ft_i 9 tb_2 a1).bind fun x2 => (t_FF_areThere N x2 a2 a3 a4 a5 a6 a7 S0).bind fun r4 => if r4 = 0 then (some ((-2), S0)) else ((t_FF_isFact N a1 a2 a3 a4 a5 a6 a7).bind fun r5 => if r5 = 0 then (some ((-2), S0)) else ((ft_i 9 tb_2 a1).bind fun x6 => if x6 ≤ 2 then (tb_FF_holds_70 N a1 a5 a6 a7 x6 a2 a3 0 S0) else (tb_FF_holds_70 N a1 a5 a6 a7 x6 a2 a3 a4 S0))))
set_option maxHeartbeats 4000000 in
theorem u_FF_holds {K : Nat → ClassId} {N : Nat} {a1 : Int32} {a2 : Int32} {a3 : Int32} {a4 : Int32} {a5 : Int32} {a6 : Int32} {a7 : Int32} {h0 : fh_H} {S0 : CS} {res : Int32 × CS} {L : Nat → Nat → Nat} {hb : fh_H} (hL : cs_I L) (ht : t_FF_holds N a1 a2 a3 a4 a5 a6 a7 S0 = some res) (hC : cs_W K L hb h0 S0) : RO (fun z => z.1 = res.1 ∧ cs_W K L hb z.2 res.2) (f_FF_holds K N (L 0 0) a1 a2 a3 a4 a5 a6 a7 h0) := by
  have B117 : ∀ (v1 : Int32) (v9 : Int32) (S : CS) (h : fh_H), cs_W K L hb h S → tb_FF_holds_117 N v1 v9 S = some res → RO (fun z => z.1 = res.1 ∧ cs_W K L hb z.2 res.2) (b_FF_holds_117 K N (L 0 0) v1 v9 h) := by
    intro v1 v9 S h hC ht
    unfold tb_FF_holds_117 at ht
    unfold b_FF_holds_117
    refine ro_b (oi_a (hC.1 0 0 (by decide)) rfl) ?_
    refine ro_b (oi_a (hC.1 4 0 (by decide)) rfl) ?_
    refine ro_b (oi_o (hC.1 5 0 (by decide))) ?_
    obtain ⟨r4, e_r4, ht⟩ := fh_b ht
    refine ro_c (u_Dr_bears hL e_r4 hC (by decide)) (fun z hz => ?_)
    obtain ⟨z1, h⟩ := z
    obtain ⟨ez, hC⟩ := hz
    dsimp only at ez hC
    subst ez
    by_cases c1 : r4.1 = 0
    · replace ht := fh_t c1 ht
      refine ro_t c1 ?_
      obtain rfl := Option.some.inj ht
      exact ro_s ⟨rfl, hC⟩
    · replace ht := fh_f c1 ht
      refine ro_f c1 ?_
      obtain rfl := Option.some.inj ht
      exact ro_s ⟨rfl, hC⟩
  have B109 : ∀ (v1 : Int32) (w0 : Int32) (w1 : Int32) (w2 : Int32) (w3 : Int32) (S : CS) (h : fh_H), cs_W K L hb h S → tb_FF_holds_109 N v1 w0 w1 w2 w3 S = some res → RO (fun z => z.1 = res.1 ∧ cs_W K L hb z.2 res.2) (b_FF_holds_109 K N (L 0 0) v1 w0 w1 w2 w3 h) := by
    intro v1 w0 w1 w2 w3 S h hC ht
    unfold tb_FF_holds_109 at ht
    unfold b_FF_holds_109
    obtain ⟨r1, e_r1, ht⟩ := fh_b ht
    refine ro_c (u_FF_pack e_r1) (fun z hz => ?_)
    subst hz
    obtain ⟨r2, e_r2, ht⟩ := fh_b ht
    refine ro_c (u_FF_join e_r2) (fun z hz => ?_)
    subst hz
    exact B117 v1 r2 S _ hC ht
  have B97 : ∀ (v1 : Int32) (v7 : Int32) (v8 : Int32) (w0 : Int32) (w1 : Int32) (w2 : Int32) (S : CS) (h : fh_H), cs_W K L hb h S → tb_FF_holds_97 N v1 v7 v8 w0 w1 w2 S = some res → RO (fun z => z.1 = res.1 ∧ cs_W K L hb z.2 res.2) (b_FF_holds_97 K N (L 0 0) v1 v7 v8 w0 w1 w2 h) := by
    intro v1 v7 v8 w0 w1 w2 S h hC ht
    unfold tb_FF_holds_97 at ht
    unfold b_FF_holds_97
    by_cases c1 : v8 ≤ 4
    · replace ht := fh_t c1 ht
      refine ro_t c1 ?_
      exact B109 v1 w0 w1 w2 0 S _ hC ht
    · replace ht := fh_f c1 ht
      refine ro_f c1 ?_
      exact B109 v1 w0 w1 w2 v7 S _ hC ht
  have B70 : ∀ (v1 : Int32) (v5 : Int32) (v6 : Int32) (v7 : Int32) (v8 : Int32) (w0 : Int32) (w1 : Int32) (w2 : Int32) (S : CS) (h : fh_H), cs_W K L hb h S → tb_FF_holds_70 N v1 v5 v6 v7 v8 w0 w1 w2 S = some res → RO (fun z => z.1 = res.1 ∧ cs_W K L hb z.2 res.2) (b_FF_holds_70 K N (L 0 0) v1 v5 v6 v7 v8 w0 w1 w2 h) := by
    intro v1 v5 v6 v7 v8 w0 w1 w2 S h hC ht
    unfold tb_FF_holds_70 at ht
    unfold b_FF_holds_70
    obtain ⟨r1, e_r1, ht⟩ := fh_b ht
    refine ro_c (u_FF_pack e_r1) (fun z hz => ?_)
    subst hz
    by_cases c2 : v8 ≤ 3
    · replace ht := fh_t c2 ht
      refine ro_t c2 ?_
      exact B117 v1 r1 S _ hC ht
    · replace ht := fh_f c2 ht
      refine ro_f c2 ?_
      by_cases c1 : v8 ≤ 4
      · replace ht := fh_t c1 ht
        refine ro_t c1 ?_
        exact B97 v1 v7 v8 r1 v5 0 S _ hC ht
      · replace ht := fh_f c1 ht
        refine ro_f c1 ?_
        exact B97 v1 v7 v8 r1 v5 v6 S _ hC ht
  unfold t_FF_holds at ht
  unfold f_FF_holds
  obtain ⟨r1, e_r1, ht⟩ := fh_b ht
  refine ro_c (u_FF_isFactKind e_r1) (fun z hz => ?_)
  subst hz
  by_cases c4 : r1 = 0
  · replace ht := fh_t c4 ht
    refine ro_t c4 ?_
    obtain rfl := Option.some.inj ht
    exact ro_s ⟨rfl, hC⟩
  · replace ht := fh_f c4 ht
    refine ro_f c4 ?_
    obtain ⟨x2, e_x2, ht⟩ := fh_b ht
    refine ro_b e_x2 ?_
    refine ro_b (oi_o (hC.1 0 0 (by decide))) ?_
    obtain ⟨r4, e_r4, ht⟩ := fh_b ht
    refine ro_c (u_FF_areThere hL e_r4 hC) (fun z hz => ?_)
    subst hz
    by_cases c3 : r4 = 0
    · replace ht := fh_t c3 ht
      refine ro_t c3 ?_
      obtain rfl := Option.some.inj ht
      exact ro_s ⟨rfl, hC⟩
    · replace ht := fh_f c3 ht
      refine ro_f c3 ?_
      obtain ⟨r5, e_r5, ht⟩ := fh_b ht
      refine ro_c (u_FF_isFact e_r5) (fun z hz => ?_)
      subst hz
      by_cases c2 : r5 = 0
      · replace ht := fh_t c2 ht
        refine ro_t c2 ?_
        obtain rfl := Option.some.inj ht
        exact ro_s ⟨rfl, hC⟩
      · replace ht := fh_f c2 ht
        refine ro_f c2 ?_
        obtain ⟨x6, e_x6, ht⟩ := fh_b ht
        refine ro_b e_x6 ?_
        by_cases c1 : x6 ≤ 2
        · replace ht := fh_t c1 ht
          refine ro_t c1 ?_
          exact B70 a1 a5 a6 a7 x6 a2 a3 0 S0 _ hC ht
        · replace ht := fh_f c1 ht
          refine ro_f c1 ?_
          exact B70 a1 a5 a6 a7 x6 a2 a3 a4 S0 _ hC ht
def t_IL_add (N : Nat) (i : Nat) (a1 : Int32) (S0 : CS) : Option (CS) :=
  (some (cs_lsize S0 i)).bind fun x1 => (some (Int32.ofNat (il_len i))).bind fun x3 => if x3 ≤ x1 then (some S0) else ((some (cs_lsize S0 i)).bind fun x5 => (twi (il_len i) (cs_items S0 i) x5 a1).bind fun F6 => (some (cs_set_items S0 (va_up (cs_items S0) i F6))).bind fun S6 => (some (cs_lsize S6 i)).bind fun x7 => (some (cs_set_lsize S6 (va_up (cs_lsize S6) i (x7 + 1)))).bind fun S8 => some S8)
set_option maxHeartbeats 4000000 in
theorem u_IL_add {K : Nat → ClassId} {N : Nat} {i : Nat} {a1 : Int32} {h0 : fh_H} {S0 : CS} {res : CS} {L : Nat → Nat → Nat} {hb : fh_H} (hL : cs_I L) (ht : t_IL_add N i a1 S0 = some res) (hC : cs_W K L hb h0 S0) (hi : i < 12) : RO (fun z => cs_W K L hb z res) (f_IL_add K N (L 10 i) a1 h0) := by
  unfold t_IL_add at ht
  unfold f_IL_add
  obtain ⟨x1, e_x1, ht⟩ := fh_b ht
  refine ro_b ((oi_i (hC.1 10 i hi) rfl).trans e_x1) ?_
  refine ro_b (oi_a (hC.1 10 i hi) rfl) ?_
  obtain ⟨x3, e_x3, ht⟩ := fh_b ht
  refine ro_b ((ai_n (hC.1 11 i hi)).trans e_x3) ?_
  by_cases c1 : x3 ≤ x1
  · replace ht := fh_t c1 ht
    refine ro_t c1 ?_
    obtain rfl := Option.some.inj ht
    exact ro_s hC
  · replace ht := fh_f c1 ht
    refine ro_f c1 ?_
    refine ro_b (oi_a (hC.1 10 i hi) rfl) ?_
    obtain ⟨x5, e_x5, ht⟩ := fh_b ht
    refine ro_b ((oi_i (hC.1 10 i hi) rfl).trans e_x5) ?_
    obtain ⟨F6, e_F6, ht⟩ := fh_b ht
    obtain ⟨S6, e_S6, ht⟩ := fh_b ht
    refine ro_c (G1 := (fun z => cs_W K L hb z S6)) ⟨_, aw_i (hC.1 11 i hi) e_F6, by rw [← Option.some.inj e_S6]; exact cs_w_items hL hC hi⟩ (fun h hC => ?_)
    obtain ⟨x7, e_x7, ht⟩ := fh_b ht
    refine ro_b ((oi_i (hC.1 10 i hi) rfl).trans e_x7) ?_
    obtain ⟨S8, e_S8, ht⟩ := fh_b ht
    refine ro_c (G1 := (fun z => cs_W K L hb z S8)) ⟨_, oi_p (hC.1 10 i hi) (Nat.le_of_ble_eq_true rfl), by rw [← Option.some.inj e_S8]; exact cs_w_lsize hL hC hi rfl⟩ (fun h hC => ?_)
    obtain rfl := Option.some.inj ht
    exact ro_s hC
def tb_Fs_listPairs_52 (N : Nat) (k2 : Int32 → CS → Option (CS)) (k14 : Int32 → Int32 → CS → Option (CS)) (v1 : Int32) (v2 : Int32) (S : CS) : Option (CS) :=
  (some (v2 + 1)).bind fun x1 => k14 v1 x1 S
def tb_Fs_listPairs_14 (N : Nat) (k2 : Int32 → CS → Option (CS)) (k14 : Int32 → Int32 → CS → Option (CS)) (v1 : Int32) (v2 : Int32) (S : CS) : Option (CS) :=
  (some (cs_pts S)).bind fun x1 => if x1 ≤ v2 then ((some (v1 + 1)).bind fun x2 => k2 x2 S) else ((ta 16 (cs_leads S) v1).bind fun x4 => (ta 16 (cs_leads S) v2).bind fun x6 => if x4 = x6 then ((ta 9 (fun z => z) 0).bind fun x8 => (t_FF_pack N v1 v2 0).bind fun r9 => (t_IL_add N x8 r9 S).bind fun r11 => tb_Fs_listPairs_52 N k2 k14 v1 v2 r11) else (tb_Fs_listPairs_52 N k2 k14 v1 v2 S))
def tl_Fs_listPairs_14 (N : Nat) (k2 : Int32 → CS → Option (CS)) : Nat → Int32 → Int32 → CS → Option (CS)
  | 0, _, _, _ => none
  | n + 1, v1, v2, S => tb_Fs_listPairs_14 N k2 (tl_Fs_listPairs_14 N k2 n) v1 v2 S
def tb_Fs_listPairs_2 (N : Nat) (k2 : Int32 → CS → Option (CS)) (v1 : Int32) (S : CS) : Option (CS) :=
  (some (cs_pts S)).bind fun x1 => if x1 ≤ v1 then (some S) else ((some (v1 + 1)).bind fun x2 => tl_Fs_listPairs_14 N k2 N v1 x2 S)
def tl_Fs_listPairs_2 (N : Nat) : Nat → Int32 → CS → Option (CS)
  | 0, _, _ => none
  | n + 1, v1, S => tb_Fs_listPairs_2 N (tl_Fs_listPairs_2 N n) v1 S
def t_Fs_listPairs (N : Nat)  (S0 : CS) : Option (CS) :=
  tl_Fs_listPairs_2 N N 0 S0
set_option maxHeartbeats 4000000 in
theorem u_Fs_listPairs {K : Nat → ClassId} {N : Nat} {h0 : fh_H} {S0 : CS} {res : CS} {L : Nat → Nat → Nat} {hb : fh_H} (hL : cs_I L) (ht : t_Fs_listPairs N  S0 = some res) (hC : cs_W K L hb h0 S0) : RO (fun z => cs_W K L hb z res) (f_Fs_listPairs K N (L 4 0)  h0) := by
  have L2 : ∀ (n2 : Nat) (v1 : Int32) (S : CS) (h : fh_H), cs_W K L hb h S → tl_Fs_listPairs_2 N n2 v1 S = some res → RO (fun z => cs_W K L hb z res) (l_Fs_listPairs_2 K N (L 4 0) n2 v1 h) := by
    intro n2
    induction n2 with
    | zero =>
      intro v1 S h hC ht
      exact fh_no ht
    | succ n2 ih2 =>
      have L14 : ∀ (n14 : Nat) (v1 : Int32) (v2 : Int32) (S : CS) (h : fh_H), cs_W K L hb h S → tl_Fs_listPairs_14 N (tl_Fs_listPairs_2 N n2) n14 v1 v2 S = some res → RO (fun z => cs_W K L hb z res) (l_Fs_listPairs_14 K N (l_Fs_listPairs_2 K N (L 4 0) n2) (L 4 0) n14 v1 v2 h) := by
        intro n14
        induction n14 with
        | zero =>
          intro v1 v2 S h hC ht
          exact fh_no ht
        | succ n14 ih14 =>
          have B52 : ∀ (v1 : Int32) (v2 : Int32) (S : CS) (h : fh_H), cs_W K L hb h S → tb_Fs_listPairs_52 N (tl_Fs_listPairs_2 N n2) (tl_Fs_listPairs_14 N (tl_Fs_listPairs_2 N n2) n14) v1 v2 S = some res → RO (fun z => cs_W K L hb z res) (b_Fs_listPairs_52 K N (l_Fs_listPairs_2 K N (L 4 0) n2) (l_Fs_listPairs_14 K N (l_Fs_listPairs_2 K N (L 4 0) n2) (L 4 0) n14) (L 4 0) v1 v2 h) := by
            intro v1 v2 S h hC ht
            unfold tb_Fs_listPairs_52 at ht
            unfold b_Fs_listPairs_52
            obtain ⟨x1, e_x1, ht⟩ := fh_b ht
            refine ro_b e_x1 ?_
            exact ih14 v1 x1 S _ hC ht
          intro v1 v2 S h hC ht
          have ht : tb_Fs_listPairs_14 N (tl_Fs_listPairs_2 N n2) (tl_Fs_listPairs_14 N (tl_Fs_listPairs_2 N n2) n14) v1 v2 S = some res := ht
          show RO _ (b_Fs_listPairs_14 K N (l_Fs_listPairs_2 K N (L 4 0) n2) (l_Fs_listPairs_14 K N (l_Fs_listPairs_2 K N (L 4 0) n2) (L 4 0) n14) (L 4 0) v1 v2 h)
          unfold tb_Fs_listPairs_14 at ht
          unfold b_Fs_listPairs_14
          obtain ⟨x1, e_x1, ht⟩ := fh_b ht
          refine ro_b ((oi_i (hC.1 4 0 (by decide)) rfl).trans e_x1) ?_
          by_cases c2 : x1 ≤ v2
          · replace ht := fh_t c2 ht
            refine ro_t c2 ?_
            obtain ⟨x2, e_x2, ht⟩ := fh_b ht
            refine ro_b e_x2 ?_
            exact ih2 x2 S _ hC ht
          · replace ht := fh_f c2 ht
            refine ro_f c2 ?_
            refine ro_b (oi_a (hC.1 4 0 (by decide)) rfl) ?_
            obtain ⟨x4, e_x4, ht⟩ := fh_b ht
            refine ro_b ((ai_i (hC.1 13 0 (by decide))).trans e_x4) ?_
            refine ro_b (oi_a (hC.1 4 0 (by decide)) rfl) ?_
            obtain ⟨x6, e_x6, ht⟩ := fh_b ht
            refine ro_b ((ai_i (hC.1 13 0 (by decide))).trans e_x6) ?_
            by_cases c1 : x4 = x6
            · replace ht := fh_t c1 ht
              refine ro_t c1 ?_
              refine ro_b (oi_a (hC.1 4 0 (by decide)) rfl) ?_
              obtain ⟨x8, e_x8, ht⟩ := fh_b ht
              have hb_x8 : x8 < 12 := by obtain ⟨k, hk, q⟩ := ta_lt e_x8; have := hk; omega
              refine ro_b ((ai_a (hC.1 12 0 (by decide))).trans (ai_m (g := fun z => some (L 10 z)) e_x8)) ?_
              obtain ⟨r9, e_r9, ht⟩ := fh_b ht
              refine ro_c (u_FF_pack e_r9) (fun z hz => ?_)
              subst hz
              refine ro_b (oi_o (hC.1 10 x8 hb_x8)) ?_
              obtain ⟨r11, e_r11, ht⟩ := fh_b ht
              refine ro_c (u_IL_add hL e_r11 hC hb_x8) (fun h hC => ?_)
              exact B52 v1 v2 r11 _ hC ht
            · replace ht := fh_f c1 ht
              refine ro_f c1 ?_
              exact B52 v1 v2 S _ hC ht
      intro v1 S h hC ht
      have ht : tb_Fs_listPairs_2 N (tl_Fs_listPairs_2 N n2) v1 S = some res := ht
      show RO _ (b_Fs_listPairs_2 K N (l_Fs_listPairs_2 K N (L 4 0) n2) (L 4 0) v1 h)
      unfold tb_Fs_listPairs_2 at ht
      unfold b_Fs_listPairs_2
      obtain ⟨x1, e_x1, ht⟩ := fh_b ht
      refine ro_b ((oi_i (hC.1 4 0 (by decide)) rfl).trans e_x1) ?_
      by_cases c1 : x1 ≤ v1
      · replace ht := fh_t c1 ht
        refine ro_t c1 ?_
        obtain rfl := Option.some.inj ht
        exact ro_s hC
      · replace ht := fh_f c1 ht
        refine ro_f c1 ?_
        obtain ⟨x2, e_x2, ht⟩ := fh_b ht
        refine ro_b e_x2 ?_
        exact L14 N v1 x2 S _ hC ht
  unfold t_Fs_listPairs at ht
  unfold f_Fs_listPairs
  exact L2 N 0 S0 _ hC ht
def tb_Fs_isApart_8 (N : Nat) (k8 : Int32 → Int32 → Int32 → Int32 → Int32 → CS → Option (Int32)) (v1 : Int32) (v2 : Int32) (v3 : Int32) (v4 : Int32) (v5 : Int32) (S : CS) : Option (Int32) :=
  (ft_i 9 tb_2 v1).bind fun x1 => if x1 ≤ v5 then ((t_In_bitCount N v3).bind fun r2 => (t_In_bitCount N v4).bind fun r3 => if r2 = r3 then (some 1) else (some 0)) else ((t_FF_unpack N v2 v5).bind fun r4 => (some (v3 ||| ((1 : Int32) <<< (r4 &&& 31)))).bind fun x5 => (ta 16 (cs_leads S) r4).bind fun x7 => (some (v4 ||| ((1 : Int32) <<< (x7 &&& 31)))).bind fun x8 => (some (v5 + 1)).bind fun x9 => k8 v1 v2 x5 x8 x9 S)
def tl_Fs_isApart_8 (N : Nat) : Nat → Int32 → Int32 → Int32 → Int32 → Int32 → CS → Option (Int32)
  | 0, _, _, _, _, _, _ => none
  | n + 1, v1, v2, v3, v4, v5, S => tb_Fs_isApart_8 N (tl_Fs_isApart_8 N n) v1 v2 v3 v4 v5 S
def t_Fs_isApart (N : Nat) (a1 : Int32) (a2 : Int32) (S0 : CS) : Option (Int32) :=
  tl_Fs_isApart_8 N N a1 a2 0 0 0 S0
set_option maxHeartbeats 4000000 in
theorem u_Fs_isApart {K : Nat → ClassId} {N : Nat} {a1 : Int32} {a2 : Int32} {h0 : fh_H} {S0 : CS} {res : Int32} {L : Nat → Nat → Nat} {hb : fh_H} (hL : cs_I L) (ht : t_Fs_isApart N a1 a2 S0 = some res) (hC : cs_W K L hb h0 S0) : RO (fun z => (res, h0) = z) (f_Fs_isApart K N (L 4 0) a1 a2 h0) := by
  have L8 : ∀ (n8 : Nat) (v1 : Int32) (v2 : Int32) (v3 : Int32) (v4 : Int32) (v5 : Int32), tl_Fs_isApart_8 N n8 v1 v2 v3 v4 v5 S0 = some res → RO (fun z => (res, h0) = z) (l_Fs_isApart_8 K N (L 4 0) n8 v1 v2 v3 v4 v5 h0) := by
    intro n8
    induction n8 with
    | zero =>
      intro v1 v2 v3 v4 v5 ht
      exact fh_no ht
    | succ n8 ih8 =>
      intro v1 v2 v3 v4 v5 ht
      have ht : tb_Fs_isApart_8 N (tl_Fs_isApart_8 N n8) v1 v2 v3 v4 v5 S0 = some res := ht
      show RO _ (b_Fs_isApart_8 K N (l_Fs_isApart_8 K N (L 4 0) n8) (L 4 0) v1 v2 v3 v4 v5 h0)
      unfold tb_Fs_isApart_8 at ht
      unfold b_Fs_isApart_8
      obtain ⟨x1, e_x1, ht⟩ := fh_b ht
      refine ro_b e_x1 ?_
      by_cases c2 : x1 ≤ v5
      · replace ht := fh_t c2 ht
        refine ro_t c2 ?_
        obtain ⟨r2, e_r2, ht⟩ := fh_b ht
        refine ro_c (u_In_bitCount e_r2) (fun z hz => ?_)
        subst hz
        obtain ⟨r3, e_r3, ht⟩ := fh_b ht
        refine ro_c (u_In_bitCount e_r3) (fun z hz => ?_)
        subst hz
        by_cases c1 : r2 = r3
        · replace ht := fh_t c1 ht
          refine ro_t c1 ?_
          obtain rfl := Option.some.inj ht
          exact ro_s rfl
        · replace ht := fh_f c1 ht
          refine ro_f c1 ?_
          obtain rfl := Option.some.inj ht
          exact ro_s rfl
      · replace ht := fh_f c2 ht
        refine ro_f c2 ?_
        obtain ⟨r4, e_r4, ht⟩ := fh_b ht
        refine ro_c (u_FF_unpack e_r4) (fun z hz => ?_)
        subst hz
        obtain ⟨x5, e_x5, ht⟩ := fh_b ht
        refine ro_b e_x5 ?_
        refine ro_b (oi_a (hC.1 4 0 (by decide)) rfl) ?_
        obtain ⟨x7, e_x7, ht⟩ := fh_b ht
        refine ro_b ((ai_i (hC.1 13 0 (by decide))).trans e_x7) ?_
        obtain ⟨x8, e_x8, ht⟩ := fh_b ht
        refine ro_b e_x8 ?_
        obtain ⟨x9, e_x9, ht⟩ := fh_b ht
        refine ro_b e_x9 ?_
        exact ih8 v1 v2 x5 x8 x9 ht
  unfold t_Fs_isApart at ht
  unfold f_Fs_isApart
  exact L8 N a1 a2 0 0 0 ht
def t_Fs_consider (N : Nat) (a1 : Int32) (a2 : Int32) (S0 : CS) : Option (CS) :=
  (t_Dr_isShown N 0 a1 a2 S0).bind fun r3 => if r3 = 0 then (some S0) else ((t_Fs_isApart N a1 a2 S0).bind fun r5 => if r5 = 0 then (some S0) else ((ta 9 (fun z => z) a1).bind fun x7 => (t_IL_add N x7 a2 S0).bind fun r9 => some r9))
set_option maxHeartbeats 4000000 in
theorem u_Fs_consider {K : Nat → ClassId} {N : Nat} {a1 : Int32} {a2 : Int32} {h0 : fh_H} {S0 : CS} {res : CS} {L : Nat → Nat → Nat} {hb : fh_H} (hL : cs_I L) (ht : t_Fs_consider N a1 a2 S0 = some res) (hC : cs_W K L hb h0 S0) : RO (fun z => cs_W K L hb z res) (f_Fs_consider K N (L 4 0) a1 a2 h0) := by
  unfold t_Fs_consider at ht
  unfold f_Fs_consider
  refine ro_b (oi_a (hC.1 4 0 (by decide)) rfl) ?_
  refine ro_b (oi_o (hC.1 5 0 (by decide))) ?_
  obtain ⟨r3, e_r3, ht⟩ := fh_b ht
  refine ro_c (u_Dr_isShown hL e_r3 hC (by decide)) (fun z hz => ?_)
  subst hz
  by_cases c2 : r3 = 0
  · replace ht := fh_t c2 ht
    refine ro_t c2 ?_
    obtain rfl := Option.some.inj ht
    exact ro_s hC
  · replace ht := fh_f c2 ht
    refine ro_f c2 ?_
    refine ro_b (oi_o (hC.1 4 0 (by decide))) ?_
    obtain ⟨r5, e_r5, ht⟩ := fh_b ht
    refine ro_c (u_Fs_isApart hL e_r5 hC) (fun z hz => ?_)
    subst hz
    by_cases c1 : r5 = 0
    · replace ht := fh_t c1 ht
      refine ro_t c1 ?_
      obtain rfl := Option.some.inj ht
      exact ro_s hC
    · replace ht := fh_f c1 ht
      refine ro_f c1 ?_
      refine ro_b (oi_a (hC.1 4 0 (by decide)) rfl) ?_
      obtain ⟨x7, e_x7, ht⟩ := fh_b ht
      have hb_x7 : x7 < 12 := by obtain ⟨k, hk, q⟩ := ta_lt e_x7; have := hk; omega
      refine ro_b ((ai_a (hC.1 12 0 (by decide))).trans (ai_m (g := fun z => some (L 10 z)) e_x7)) ?_
      refine ro_b (oi_o (hC.1 10 x7 hb_x7)) ?_
      obtain ⟨r9, e_r9, ht⟩ := fh_b ht
      refine ro_c (u_IL_add hL e_r9 hC hb_x7) (fun h hC => ?_)
      obtain rfl := Option.some.inj ht
      exact ro_s hC
def tb_Fs_listTriples_26 (N : Nat) (k2 : Int32 → CS → Option (CS)) (k14 : Int32 → Int32 → CS → Option (CS)) (k26 : Int32 → Int32 → Int32 → CS → Option (CS)) (v1 : Int32) (v2 : Int32) (v3 : Int32) (S : CS) : Option (CS) :=
  (some (cs_pts S)).bind fun x1 => if x1 ≤ v3 then ((some (v2 + 1)).bind fun x2 => k14 v1 x2 S) else ((t_FF_pack N v1 v2 v3).bind fun r3 => (t_Fs_consider N 1 r3 S).bind fun r5 => (some (v3 + 1)).bind fun x6 => k26 v1 v2 x6 r5)
def tl_Fs_listTriples_26 (N : Nat) (k2 : Int32 → CS → Option (CS)) (k14 : Int32 → Int32 → CS → Option (CS)) : Nat → Int32 → Int32 → Int32 → CS → Option (CS)
  | 0, _, _, _, _ => none
  | n + 1, v1, v2, v3, S => tb_Fs_listTriples_26 N k2 k14 (tl_Fs_listTriples_26 N k2 k14 n) v1 v2 v3 S
def tb_Fs_listTriples_14 (N : Nat) (k2 : Int32 → CS → Option (CS)) (k14 : Int32 → Int32 → CS → Option (CS)) (v1 : Int32) (v2 : Int32) (S : CS) : Option (CS) :=
  (some (cs_pts S)).bind fun x1 => if x1 ≤ v2 then ((some (v1 + 1)).bind fun x2 => k2 x2 S) else ((some (v2 + 1)).bind fun x3 => tl_Fs_listTriples_26 N k2 k14 N v1 v2 x3 S)
def tl_Fs_listTriples_14 (N : Nat) (k2 : Int32 → CS → Option (CS)) : Nat → Int32 → Int32 → CS → Option (CS)
  | 0, _, _, _ => none
  | n + 1, v1, v2, S => tb_Fs_listTriples_14 N k2 (tl_Fs_listTriples_14 N k2 n) v1 v2 S
def tb_Fs_listTriples_2 (N : Nat) (k2 : Int32 → CS → Option (CS)) (v1 : Int32) (S : CS) : Option (CS) :=
  (some (cs_pts S)).bind fun x1 => if x1 ≤ v1 then (some S) else ((some (v1 + 1)).bind fun x2 => tl_Fs_listTriples_14 N k2 N v1 x2 S)
def tl_Fs_listTriples_2 (N : Nat) : Nat → Int32 → CS → Option (CS)
  | 0, _, _ => none
  | n + 1, v1, S => tb_Fs_listTriples_2 N (tl_Fs_listTriples_2 N n) v1 S
def t_Fs_listTriples (N : Nat)  (S0 : CS) : Option (CS) :=
  tl_Fs_listTriples_2 N N 0 S0
set_option maxHeartbeats 4000000 in
theorem u_Fs_listTriples {K : Nat → ClassId} {N : Nat} {h0 : fh_H} {S0 : CS} {res : CS} {L : Nat → Nat → Nat} {hb : fh_H} (hL : cs_I L) (ht : t_Fs_listTriples N  S0 = some res) (hC : cs_W K L hb h0 S0) : RO (fun z => cs_W K L hb z res) (f_Fs_listTriples K N (L 4 0)  h0) := by
  have L2 : ∀ (n2 : Nat) (v1 : Int32) (S : CS) (h : fh_H), cs_W K L hb h S → tl_Fs_listTriples_2 N n2 v1 S = some res → RO (fun z => cs_W K L hb z res) (l_Fs_listTriples_2 K N (L 4 0) n2 v1 h) := by
    intro n2
    induction n2 with
    | zero =>
      intro v1 S h hC ht
      exact fh_no ht
    | succ n2 ih2 =>
      have L14 : ∀ (n14 : Nat) (v1 : Int32) (v2 : Int32) (S : CS) (h : fh_H), cs_W K L hb h S → tl_Fs_listTriples_14 N (tl_Fs_listTriples_2 N n2) n14 v1 v2 S = some res → RO (fun z => cs_W K L hb z res) (l_Fs_listTriples_14 K N (l_Fs_listTriples_2 K N (L 4 0) n2) (L 4 0) n14 v1 v2 h) := by
        intro n14
        induction n14 with
        | zero =>
          intro v1 v2 S h hC ht
          exact fh_no ht
        | succ n14 ih14 =>
          have L26 : ∀ (n26 : Nat) (v1 : Int32) (v2 : Int32) (v3 : Int32) (S : CS) (h : fh_H), cs_W K L hb h S → tl_Fs_listTriples_26 N (tl_Fs_listTriples_2 N n2) (tl_Fs_listTriples_14 N (tl_Fs_listTriples_2 N n2) n14) n26 v1 v2 v3 S = some res → RO (fun z => cs_W K L hb z res) (l_Fs_listTriples_26 K N (l_Fs_listTriples_2 K N (L 4 0) n2) (l_Fs_listTriples_14 K N (l_Fs_listTriples_2 K N (L 4 0) n2) (L 4 0) n14) (L 4 0) n26 v1 v2 v3 h) := by
            intro n26
            induction n26 with
            | zero =>
              intro v1 v2 v3 S h hC ht
              exact fh_no ht
            | succ n26 ih26 =>
              intro v1 v2 v3 S h hC ht
              have ht : tb_Fs_listTriples_26 N (tl_Fs_listTriples_2 N n2) (tl_Fs_listTriples_14 N (tl_Fs_listTriples_2 N n2) n14) (tl_Fs_listTriples_26 N (tl_Fs_listTriples_2 N n2) (tl_Fs_listTriples_14 N (tl_Fs_listTriples_2 N n2) n14) n26) v1 v2 v3 S = some res := ht
              show RO _ (b_Fs_listTriples_26 K N (l_Fs_listTriples_2 K N (L 4 0) n2) (l_Fs_listTriples_14 K N (l_Fs_listTriples_2 K N (L 4 0) n2) (L 4 0) n14) (l_Fs_listTriples_26 K N (l_Fs_listTriples_2 K N (L 4 0) n2) (l_Fs_listTriples_14 K N (l_Fs_listTriples_2 K N (L 4 0) n2) (L 4 0) n14) (L 4 0) n26) (L 4 0) v1 v2 v3 h)
              unfold tb_Fs_listTriples_26 at ht
              unfold b_Fs_listTriples_26
              obtain ⟨x1, e_x1, ht⟩ := fh_b ht
              refine ro_b ((oi_i (hC.1 4 0 (by decide)) rfl).trans e_x1) ?_
              by_cases c1 : x1 ≤ v3
              · replace ht := fh_t c1 ht
                refine ro_t c1 ?_
                obtain ⟨x2, e_x2, ht⟩ := fh_b ht
                refine ro_b e_x2 ?_
                exact ih14 v1 x2 S _ hC ht
              · replace ht := fh_f c1 ht
                refine ro_f c1 ?_
                obtain ⟨r3, e_r3, ht⟩ := fh_b ht
                refine ro_c (u_FF_pack e_r3) (fun z hz => ?_)
                subst hz
                refine ro_b (oi_o (hC.1 4 0 (by decide))) ?_
                obtain ⟨r5, e_r5, ht⟩ := fh_b ht
                refine ro_c (u_Fs_consider hL e_r5 hC) (fun h hC => ?_)
                obtain ⟨x6, e_x6, ht⟩ := fh_b ht
                refine ro_b e_x6 ?_
                exact ih26 v1 v2 x6 r5 _ hC ht
          intro v1 v2 S h hC ht
          have ht : tb_Fs_listTriples_14 N (tl_Fs_listTriples_2 N n2) (tl_Fs_listTriples_14 N (tl_Fs_listTriples_2 N n2) n14) v1 v2 S = some res := ht
          show RO _ (b_Fs_listTriples_14 K N (l_Fs_listTriples_2 K N (L 4 0) n2) (l_Fs_listTriples_14 K N (l_Fs_listTriples_2 K N (L 4 0) n2) (L 4 0) n14) (L 4 0) v1 v2 h)
          unfold tb_Fs_listTriples_14 at ht
          unfold b_Fs_listTriples_14
          obtain ⟨x1, e_x1, ht⟩ := fh_b ht
          refine ro_b ((oi_i (hC.1 4 0 (by decide)) rfl).trans e_x1) ?_
          by_cases c1 : x1 ≤ v2
          · replace ht := fh_t c1 ht
            refine ro_t c1 ?_
            obtain ⟨x2, e_x2, ht⟩ := fh_b ht
            refine ro_b e_x2 ?_
            exact ih2 x2 S _ hC ht
          · replace ht := fh_f c1 ht
            refine ro_f c1 ?_
            obtain ⟨x3, e_x3, ht⟩ := fh_b ht
            refine ro_b e_x3 ?_
            exact L26 N v1 v2 x3 S _ hC ht
      intro v1 S h hC ht
      have ht : tb_Fs_listTriples_2 N (tl_Fs_listTriples_2 N n2) v1 S = some res := ht
      show RO _ (b_Fs_listTriples_2 K N (l_Fs_listTriples_2 K N (L 4 0) n2) (L 4 0) v1 h)
      unfold tb_Fs_listTriples_2 at ht
      unfold b_Fs_listTriples_2
      obtain ⟨x1, e_x1, ht⟩ := fh_b ht
      refine ro_b ((oi_i (hC.1 4 0 (by decide)) rfl).trans e_x1) ?_
      by_cases c1 : x1 ≤ v1
      · replace ht := fh_t c1 ht
        refine ro_t c1 ?_
        obtain rfl := Option.some.inj ht
        exact ro_s hC
      · replace ht := fh_f c1 ht
        refine ro_f c1 ?_
        obtain ⟨x2, e_x2, ht⟩ := fh_b ht
        refine ro_b e_x2 ?_
        exact L14 N v1 x2 S _ hC ht
  unfold t_Fs_listTriples at ht
  unfold f_Fs_listTriples
  exact L2 N 0 S0 _ hC ht
def tb_Fs_listFours_39 (N : Nat) (k2 : Int32 → CS → Option (CS)) (k14 : Int32 → Int32 → CS → Option (CS)) (k26 : Int32 → Int32 → Int32 → CS → Option (CS)) (k39 : Int32 → Int32 → Int32 → Int32 → CS → Option (CS)) (v1 : Int32) (v2 : Int32) (v3 : Int32) (v4 : Int32) (S : CS) : Option (CS) :=
  (some (cs_pts S)).bind fun x1 => if x1 ≤ v4 then ((some (v3 + 1)).bind fun x2 => k26 v1 v2 x2 S) else ((t_FF_pack N v1 v2 v3).bind fun r3 => (t_FF_join N r3 v4).bind fun r4 => (t_Fs_consider N 5 r4 S).bind fun r6 => (some (v4 + 1)).bind fun x7 => k39 v1 v2 v3 x7 r6)
def tl_Fs_listFours_39 (N : Nat) (k2 : Int32 → CS → Option (CS)) (k14 : Int32 → Int32 → CS → Option (CS)) (k26 : Int32 → Int32 → Int32 → CS → Option (CS)) : Nat → Int32 → Int32 → Int32 → Int32 → CS → Option (CS)
  | 0, _, _, _, _, _ => none
  | n + 1, v1, v2, v3, v4, S => tb_Fs_listFours_39 N k2 k14 k26 (tl_Fs_listFours_39 N k2 k14 k26 n) v1 v2 v3 v4 S
def tb_Fs_listFours_26 (N : Nat) (k2 : Int32 → CS → Option (CS)) (k14 : Int32 → Int32 → CS → Option (CS)) (k26 : Int32 → Int32 → Int32 → CS → Option (CS)) (v1 : Int32) (v2 : Int32) (v3 : Int32) (S : CS) : Option (CS) :=
  (some (cs_pts S)).bind fun x1 => if x1 ≤ v3 then ((some (v2 + 1)).bind fun x2 => k14 v1 x2 S) else ((some (v3 + 1)).bind fun x3 => tl_Fs_listFours_39 N k2 k14 k26 N v1 v2 v3 x3 S)
def tl_Fs_listFours_26 (N : Nat) (k2 : Int32 → CS → Option (CS)) (k14 : Int32 → Int32 → CS → Option (CS)) : Nat → Int32 → Int32 → Int32 → CS → Option (CS)
  | 0, _, _, _, _ => none
  | n + 1, v1, v2, v3, S => tb_Fs_listFours_26 N k2 k14 (tl_Fs_listFours_26 N k2 k14 n) v1 v2 v3 S
def tb_Fs_listFours_14 (N : Nat) (k2 : Int32 → CS → Option (CS)) (k14 : Int32 → Int32 → CS → Option (CS)) (v1 : Int32) (v2 : Int32) (S : CS) : Option (CS) :=
  (some (cs_pts S)).bind fun x1 => if x1 ≤ v2 then ((some (v1 + 1)).bind fun x2 => k2 x2 S) else ((some (v2 + 1)).bind fun x3 => tl_Fs_listFours_26 N k2 k14 N v1 v2 x3 S)
def tl_Fs_listFours_14 (N : Nat) (k2 : Int32 → CS → Option (CS)) : Nat → Int32 → Int32 → CS → Option (CS)
  | 0, _, _, _ => none
  | n + 1, v1, v2, S => tb_Fs_listFours_14 N k2 (tl_Fs_listFours_14 N k2 n) v1 v2 S
def tb_Fs_listFours_2 (N : Nat) (k2 : Int32 → CS → Option (CS)) (v1 : Int32) (S : CS) : Option (CS) :=
  (some (cs_pts S)).bind fun x1 => if x1 ≤ v1 then (some S) else ((some (v1 + 1)).bind fun x2 => tl_Fs_listFours_14 N k2 N v1 x2 S)
def tl_Fs_listFours_2 (N : Nat) : Nat → Int32 → CS → Option (CS)
  | 0, _, _ => none
  | n + 1, v1, S => tb_Fs_listFours_2 N (tl_Fs_listFours_2 N n) v1 S
def t_Fs_listFours (N : Nat)  (S0 : CS) : Option (CS) :=
  tl_Fs_listFours_2 N N 0 S0
set_option maxHeartbeats 4000000 in
theorem u_Fs_listFours {K : Nat → ClassId} {N : Nat} {h0 : fh_H} {S0 : CS} {res : CS} {L : Nat → Nat → Nat} {hb : fh_H} (hL : cs_I L) (ht : t_Fs_listFours N  S0 = some res) (hC : cs_W K L hb h0 S0) : RO (fun z => cs_W K L hb z res) (f_Fs_listFours K N (L 4 0)  h0) := by
  have L2 : ∀ (n2 : Nat) (v1 : Int32) (S : CS) (h : fh_H), cs_W K L hb h S → tl_Fs_listFours_2 N n2 v1 S = some res → RO (fun z => cs_W K L hb z res) (l_Fs_listFours_2 K N (L 4 0) n2 v1 h) := by
    intro n2
    induction n2 with
    | zero =>
      intro v1 S h hC ht
      exact fh_no ht
    | succ n2 ih2 =>
      have L14 : ∀ (n14 : Nat) (v1 : Int32) (v2 : Int32) (S : CS) (h : fh_H), cs_W K L hb h S → tl_Fs_listFours_14 N (tl_Fs_listFours_2 N n2) n14 v1 v2 S = some res → RO (fun z => cs_W K L hb z res) (l_Fs_listFours_14 K N (l_Fs_listFours_2 K N (L 4 0) n2) (L 4 0) n14 v1 v2 h) := by
        intro n14
        induction n14 with
        | zero =>
          intro v1 v2 S h hC ht
          exact fh_no ht
        | succ n14 ih14 =>
          have L26 : ∀ (n26 : Nat) (v1 : Int32) (v2 : Int32) (v3 : Int32) (S : CS) (h : fh_H), cs_W K L hb h S → tl_Fs_listFours_26 N (tl_Fs_listFours_2 N n2) (tl_Fs_listFours_14 N (tl_Fs_listFours_2 N n2) n14) n26 v1 v2 v3 S = some res → RO (fun z => cs_W K L hb z res) (l_Fs_listFours_26 K N (l_Fs_listFours_2 K N (L 4 0) n2) (l_Fs_listFours_14 K N (l_Fs_listFours_2 K N (L 4 0) n2) (L 4 0) n14) (L 4 0) n26 v1 v2 v3 h) := by
            intro n26
            induction n26 with
            | zero =>
              intro v1 v2 v3 S h hC ht
              exact fh_no ht
            | succ n26 ih26 =>
              have L39 : ∀ (n39 : Nat) (v1 : Int32) (v2 : Int32) (v3 : Int32) (v4 : Int32) (S : CS) (h : fh_H), cs_W K L hb h S → tl_Fs_listFours_39 N (tl_Fs_listFours_2 N n2) (tl_Fs_listFours_14 N (tl_Fs_listFours_2 N n2) n14) (tl_Fs_listFours_26 N (tl_Fs_listFours_2 N n2) (tl_Fs_listFours_14 N (tl_Fs_listFours_2 N n2) n14) n26) n39 v1 v2 v3 v4 S = some res → RO (fun z => cs_W K L hb z res) (l_Fs_listFours_39 K N (l_Fs_listFours_2 K N (L 4 0) n2) (l_Fs_listFours_14 K N (l_Fs_listFours_2 K N (L 4 0) n2) (L 4 0) n14) (l_Fs_listFours_26 K N (l_Fs_listFours_2 K N (L 4 0) n2) (l_Fs_listFours_14 K N (l_Fs_listFours_2 K N (L 4 0) n2) (L 4 0) n14) (L 4 0) n26) (L 4 0) n39 v1 v2 v3 v4 h) := by
                intro n39
                induction n39 with
                | zero =>
                  intro v1 v2 v3 v4 S h hC ht
                  exact fh_no ht
                | succ n39 ih39 =>
                  intro v1 v2 v3 v4 S h hC ht
                  have ht : tb_Fs_listFours_39 N (tl_Fs_listFours_2 N n2) (tl_Fs_listFours_14 N (tl_Fs_listFours_2 N n2) n14) (tl_Fs_listFours_26 N (tl_Fs_listFours_2 N n2) (tl_Fs_listFours_14 N (tl_Fs_listFours_2 N n2) n14) n26) (tl_Fs_listFours_39 N (tl_Fs_listFours_2 N n2) (tl_Fs_listFours_14 N (tl_Fs_listFours_2 N n2) n14) (tl_Fs_listFours_26 N (tl_Fs_listFours_2 N n2) (tl_Fs_listFours_14 N (tl_Fs_listFours_2 N n2) n14) n26) n39) v1 v2 v3 v4 S = some res := ht
                  show RO _ (b_Fs_listFours_39 K N (l_Fs_listFours_2 K N (L 4 0) n2) (l_Fs_listFours_14 K N (l_Fs_listFours_2 K N (L 4 0) n2) (L 4 0) n14) (l_Fs_listFours_26 K N (l_Fs_listFours_2 K N (L 4 0) n2) (l_Fs_listFours_14 K N (l_Fs_listFours_2 K N (L 4 0) n2) (L 4 0) n14) (L 4 0) n26) (l_Fs_listFours_39 K N (l_Fs_listFours_2 K N (L 4 0) n2) (l_Fs_listFours_14 K N (l_Fs_listFours_2 K N (L 4 0) n2) (L 4 0) n14) (l_Fs_listFours_26 K N (l_Fs_listFours_2 K N (L 4 0) n2) (l_Fs_listFours_14 K N (l_Fs_listFours_2 K N (L 4 0) n2) (L 4 0) n14) (L 4 0) n26) (L 4 0) n39) (L 4 0) v1 v2 v3 v4 h)
                  unfold tb_Fs_listFours_39 at ht
                  unfold b_Fs_listFours_39
                  obtain ⟨x1, e_x1, ht⟩ := fh_b ht
                  refine ro_b ((oi_i (hC.1 4 0 (by decide)) rfl).trans e_x1) ?_
                  by_cases c1 : x1 ≤ v4
                  · replace ht := fh_t c1 ht
                    refine ro_t c1 ?_
                    obtain ⟨x2, e_x2, ht⟩ := fh_b ht
                    refine ro_b e_x2 ?_
                    exact ih26 v1 v2 x2 S _ hC ht
                  · replace ht := fh_f c1 ht
                    refine ro_f c1 ?_
                    obtain ⟨r3, e_r3, ht⟩ := fh_b ht
                    refine ro_c (u_FF_pack e_r3) (fun z hz => ?_)
                    subst hz
                    obtain ⟨r4, e_r4, ht⟩ := fh_b ht
                    refine ro_c (u_FF_join e_r4) (fun z hz => ?_)
                    subst hz
                    refine ro_b (oi_o (hC.1 4 0 (by decide))) ?_
                    obtain ⟨r6, e_r6, ht⟩ := fh_b ht
                    refine ro_c (u_Fs_consider hL e_r6 hC) (fun h hC => ?_)
                    obtain ⟨x7, e_x7, ht⟩ := fh_b ht
                    refine ro_b e_x7 ?_
                    exact ih39 v1 v2 v3 x7 r6 _ hC ht
              intro v1 v2 v3 S h hC ht
              have ht : tb_Fs_listFours_26 N (tl_Fs_listFours_2 N n2) (tl_Fs_listFours_14 N (tl_Fs_listFours_2 N n2) n14) (tl_Fs_listFours_26 N (tl_Fs_listFours_2 N n2) (tl_Fs_listFours_14 N (tl_Fs_listFours_2 N n2) n14) n26) v1 v2 v3 S = some res := ht
              show RO _ (b_Fs_listFours_26 K N (l_Fs_listFours_2 K N (L 4 0) n2) (l_Fs_listFours_14 K N (l_Fs_listFours_2 K N (L 4 0) n2) (L 4 0) n14) (l_Fs_listFours_26 K N (l_Fs_listFours_2 K N (L 4 0) n2) (l_Fs_listFours_14 K N (l_Fs_listFours_2 K N (L 4 0) n2) (L 4 0) n14) (L 4 0) n26) (L 4 0) v1 v2 v3 h)
              unfold tb_Fs_listFours_26 at ht
              unfold b_Fs_listFours_26
              obtain ⟨x1, e_x1, ht⟩ := fh_b ht
              refine ro_b ((oi_i (hC.1 4 0 (by decide)) rfl).trans e_x1) ?_
              by_cases c1 : x1 ≤ v3
              · replace ht := fh_t c1 ht
                refine ro_t c1 ?_
                obtain ⟨x2, e_x2, ht⟩ := fh_b ht
                refine ro_b e_x2 ?_
                exact ih14 v1 x2 S _ hC ht
              · replace ht := fh_f c1 ht
                refine ro_f c1 ?_
                obtain ⟨x3, e_x3, ht⟩ := fh_b ht
                refine ro_b e_x3 ?_
                exact L39 N v1 v2 v3 x3 S _ hC ht
          intro v1 v2 S h hC ht
          have ht : tb_Fs_listFours_14 N (tl_Fs_listFours_2 N n2) (tl_Fs_listFours_14 N (tl_Fs_listFours_2 N n2) n14) v1 v2 S = some res := ht
          show RO _ (b_Fs_listFours_14 K N (l_Fs_listFours_2 K N (L 4 0) n2) (l_Fs_listFours_14 K N (l_Fs_listFours_2 K N (L 4 0) n2) (L 4 0) n14) (L 4 0) v1 v2 h)
          unfold tb_Fs_listFours_14 at ht
          unfold b_Fs_listFours_14
          obtain ⟨x1, e_x1, ht⟩ := fh_b ht
          refine ro_b ((oi_i (hC.1 4 0 (by decide)) rfl).trans e_x1) ?_
          by_cases c1 : x1 ≤ v2
          · replace ht := fh_t c1 ht
            refine ro_t c1 ?_
            obtain ⟨x2, e_x2, ht⟩ := fh_b ht
            refine ro_b e_x2 ?_
            exact ih2 x2 S _ hC ht
          · replace ht := fh_f c1 ht
            refine ro_f c1 ?_
            obtain ⟨x3, e_x3, ht⟩ := fh_b ht
            refine ro_b e_x3 ?_
            exact L26 N v1 v2 x3 S _ hC ht
      intro v1 S h hC ht
      have ht : tb_Fs_listFours_2 N (tl_Fs_listFours_2 N n2) v1 S = some res := ht
      show RO _ (b_Fs_listFours_2 K N (l_Fs_listFours_2 K N (L 4 0) n2) (L 4 0) v1 h)
      unfold tb_Fs_listFours_2 at ht
      unfold b_Fs_listFours_2
      obtain ⟨x1, e_x1, ht⟩ := fh_b ht
      refine ro_b ((oi_i (hC.1 4 0 (by decide)) rfl).trans e_x1) ?_
      by_cases c1 : x1 ≤ v1
      · replace ht := fh_t c1 ht
        refine ro_t c1 ?_
        obtain rfl := Option.some.inj ht
        exact ro_s hC
      · replace ht := fh_f c1 ht
        refine ro_f c1 ?_
        obtain ⟨x2, e_x2, ht⟩ := fh_b ht
        refine ro_b e_x2 ?_
        exact L14 N v1 x2 S _ hC ht
  unfold t_Fs_listFours at ht
  unfold f_Fs_listFours
  exact L2 N 0 S0 _ hC ht
def tb_Fs_listMiddles_54 (N : Nat) (k2 : Int32 → CS → Option (CS)) (k12 : Int32 → Int32 → CS → Option (CS)) (k24 : Int32 → Int32 → Int32 → CS → Option (CS)) (v1 : Int32) (v2 : Int32) (v3 : Int32) (S : CS) : Option (CS) :=
  (some (v3 + 1)).bind fun x1 => k24 v1 v2 x1 S
def tb_Fs_listMiddles_24 (N : Nat) (k2 : Int32 → CS → Option (CS)) (k12 : Int32 → Int32 → CS → Option (CS)) (k24 : Int32 → Int32 → Int32 → CS → Option (CS)) (v1 : Int32) (v2 : Int32) (v3 : Int32) (S : CS) : Option (CS) :=
  (some (cs_pts S)).bind fun x1 => if x1 ≤ v3 then ((some (v2 + 1)).bind fun x2 => k12 v1 x2 S) else (if v1 = v2 then (tb_Fs_listMiddles_54 N k2 k12 k24 v1 v2 v3 S) else (if v1 = v3 then (tb_Fs_listMiddles_54 N k2 k12 k24 v1 v2 v3 S) else ((t_FF_pack N v1 v2 v3).bind fun r3 => (t_Fs_consider N 6 r3 S).bind fun r5 => tb_Fs_listMiddles_54 N k2 k12 k24 v1 v2 v3 r5)))
def tl_Fs_listMiddles_24 (N : Nat) (k2 : Int32 → CS → Option (CS)) (k12 : Int32 → Int32 → CS → Option (CS)) : Nat → Int32 → Int32 → Int32 → CS → Option (CS)
  | 0, _, _, _, _ => none
  | n + 1, v1, v2, v3, S => tb_Fs_listMiddles_24 N k2 k12 (tl_Fs_listMiddles_24 N k2 k12 n) v1 v2 v3 S
def tb_Fs_listMiddles_12 (N : Nat) (k2 : Int32 → CS → Option (CS)) (k12 : Int32 → Int32 → CS → Option (CS)) (v1 : Int32) (v2 : Int32) (S : CS) : Option (CS) :=
  (some (cs_pts S)).bind fun x1 => if x1 ≤ v2 then ((some (v1 + 1)).bind fun x2 => k2 x2 S) else ((some (v2 + 1)).bind fun x3 => tl_Fs_listMiddles_24 N k2 k12 N v1 v2 x3 S)
def tl_Fs_listMiddles_12 (N : Nat) (k2 : Int32 → CS → Option (CS)) : Nat → Int32 → Int32 → CS → Option (CS)
  | 0, _, _, _ => none
  | n + 1, v1, v2, S => tb_Fs_listMiddles_12 N k2 (tl_Fs_listMiddles_12 N k2 n) v1 v2 S
def tb_Fs_listMiddles_2 (N : Nat) (k2 : Int32 → CS → Option (CS)) (v1 : Int32) (S : CS) : Option (CS) :=
  (some (cs_pts S)).bind fun x1 => if x1 ≤ v1 then (some S) else (tl_Fs_listMiddles_12 N k2 N v1 0 S)
def tl_Fs_listMiddles_2 (N : Nat) : Nat → Int32 → CS → Option (CS)
  | 0, _, _ => none
  | n + 1, v1, S => tb_Fs_listMiddles_2 N (tl_Fs_listMiddles_2 N n) v1 S
def t_Fs_listMiddles (N : Nat)  (S0 : CS) : Option (CS) :=
  tl_Fs_listMiddles_2 N N 0 S0
set_option maxHeartbeats 4000000 in
theorem u_Fs_listMiddles {K : Nat → ClassId} {N : Nat} {h0 : fh_H} {S0 : CS} {res : CS} {L : Nat → Nat → Nat} {hb : fh_H} (hL : cs_I L) (ht : t_Fs_listMiddles N  S0 = some res) (hC : cs_W K L hb h0 S0) : RO (fun z => cs_W K L hb z res) (f_Fs_listMiddles K N (L 4 0)  h0) := by
  have L2 : ∀ (n2 : Nat) (v1 : Int32) (S : CS) (h : fh_H), cs_W K L hb h S → tl_Fs_listMiddles_2 N n2 v1 S = some res → RO (fun z => cs_W K L hb z res) (l_Fs_listMiddles_2 K N (L 4 0) n2 v1 h) := by
    intro n2
    induction n2 with
    | zero =>
      intro v1 S h hC ht
      exact fh_no ht
    | succ n2 ih2 =>
      have L12 : ∀ (n12 : Nat) (v1 : Int32) (v2 : Int32) (S : CS) (h : fh_H), cs_W K L hb h S → tl_Fs_listMiddles_12 N (tl_Fs_listMiddles_2 N n2) n12 v1 v2 S = some res → RO (fun z => cs_W K L hb z res) (l_Fs_listMiddles_12 K N (l_Fs_listMiddles_2 K N (L 4 0) n2) (L 4 0) n12 v1 v2 h) := by
        intro n12
        induction n12 with
        | zero =>
          intro v1 v2 S h hC ht
          exact fh_no ht
        | succ n12 ih12 =>
          have L24 : ∀ (n24 : Nat) (v1 : Int32) (v2 : Int32) (v3 : Int32) (S : CS) (h : fh_H), cs_W K L hb h S → tl_Fs_listMiddles_24 N (tl_Fs_listMiddles_2 N n2) (tl_Fs_listMiddles_12 N (tl_Fs_listMiddles_2 N n2) n12) n24 v1 v2 v3 S = some res → RO (fun z => cs_W K L hb z res) (l_Fs_listMiddles_24 K N (l_Fs_listMiddles_2 K N (L 4 0) n2) (l_Fs_listMiddles_12 K N (l_Fs_listMiddles_2 K N (L 4 0) n2) (L 4 0) n12) (L 4 0) n24 v1 v2 v3 h) := by
            intro n24
            induction n24 with
            | zero =>
              intro v1 v2 v3 S h hC ht
              exact fh_no ht
            | succ n24 ih24 =>
              have B54 : ∀ (v1 : Int32) (v2 : Int32) (v3 : Int32) (S : CS) (h : fh_H), cs_W K L hb h S → tb_Fs_listMiddles_54 N (tl_Fs_listMiddles_2 N n2) (tl_Fs_listMiddles_12 N (tl_Fs_listMiddles_2 N n2) n12) (tl_Fs_listMiddles_24 N (tl_Fs_listMiddles_2 N n2) (tl_Fs_listMiddles_12 N (tl_Fs_listMiddles_2 N n2) n12) n24) v1 v2 v3 S = some res → RO (fun z => cs_W K L hb z res) (b_Fs_listMiddles_54 K N (l_Fs_listMiddles_2 K N (L 4 0) n2) (l_Fs_listMiddles_12 K N (l_Fs_listMiddles_2 K N (L 4 0) n2) (L 4 0) n12) (l_Fs_listMiddles_24 K N (l_Fs_listMiddles_2 K N (L 4 0) n2) (l_Fs_listMiddles_12 K N (l_Fs_listMiddles_2 K N (L 4 0) n2) (L 4 0) n12) (L 4 0) n24) (L 4 0) v1 v2 v3 h) := by
                intro v1 v2 v3 S h hC ht
                unfold tb_Fs_listMiddles_54 at ht
                unfold b_Fs_listMiddles_54
                obtain ⟨x1, e_x1, ht⟩ := fh_b ht
                refine ro_b e_x1 ?_
                exact ih24 v1 v2 x1 S _ hC ht
              intro v1 v2 v3 S h hC ht
              have ht : tb_Fs_listMiddles_24 N (tl_Fs_listMiddles_2 N n2) (tl_Fs_listMiddles_12 N (tl_Fs_listMiddles_2 N n2) n12) (tl_Fs_listMiddles_24 N (tl_Fs_listMiddles_2 N n2) (tl_Fs_listMiddles_12 N (tl_Fs_listMiddles_2 N n2) n12) n24) v1 v2 v3 S = some res := ht
              show RO _ (b_Fs_listMiddles_24 K N (l_Fs_listMiddles_2 K N (L 4 0) n2) (l_Fs_listMiddles_12 K N (l_Fs_listMiddles_2 K N (L 4 0) n2) (L 4 0) n12) (l_Fs_listMiddles_24 K N (l_Fs_listMiddles_2 K N (L 4 0) n2) (l_Fs_listMiddles_12 K N (l_Fs_listMiddles_2 K N (L 4 0) n2) (L 4 0) n12) (L 4 0) n24) (L 4 0) v1 v2 v3 h)
              unfold tb_Fs_listMiddles_24 at ht
              unfold b_Fs_listMiddles_24
              obtain ⟨x1, e_x1, ht⟩ := fh_b ht
              refine ro_b ((oi_i (hC.1 4 0 (by decide)) rfl).trans e_x1) ?_
              by_cases c3 : x1 ≤ v3
              · replace ht := fh_t c3 ht
                refine ro_t c3 ?_
                obtain ⟨x2, e_x2, ht⟩ := fh_b ht
                refine ro_b e_x2 ?_
                exact ih12 v1 x2 S _ hC ht
              · replace ht := fh_f c3 ht
                refine ro_f c3 ?_
                by_cases c2 : v1 = v2
                · replace ht := fh_t c2 ht
                  refine ro_t c2 ?_
                  exact B54 v1 v2 v3 S _ hC ht
                · replace ht := fh_f c2 ht
                  refine ro_f c2 ?_
                  by_cases c1 : v1 = v3
                  · replace ht := fh_t c1 ht
                    refine ro_t c1 ?_
                    exact B54 v1 v2 v3 S _ hC ht
                  · replace ht := fh_f c1 ht
                    refine ro_f c1 ?_
                    obtain ⟨r3, e_r3, ht⟩ := fh_b ht
                    refine ro_c (u_FF_pack e_r3) (fun z hz => ?_)
                    subst hz
                    refine ro_b (oi_o (hC.1 4 0 (by decide))) ?_
                    obtain ⟨r5, e_r5, ht⟩ := fh_b ht
                    refine ro_c (u_Fs_consider hL e_r5 hC) (fun h hC => ?_)
                    exact B54 v1 v2 v3 r5 _ hC ht
          intro v1 v2 S h hC ht
          have ht : tb_Fs_listMiddles_12 N (tl_Fs_listMiddles_2 N n2) (tl_Fs_listMiddles_12 N (tl_Fs_listMiddles_2 N n2) n12) v1 v2 S = some res := ht
          show RO _ (b_Fs_listMiddles_12 K N (l_Fs_listMiddles_2 K N (L 4 0) n2) (l_Fs_listMiddles_12 K N (l_Fs_listMiddles_2 K N (L 4 0) n2) (L 4 0) n12) (L 4 0) v1 v2 h)
          unfold tb_Fs_listMiddles_12 at ht
          unfold b_Fs_listMiddles_12
          obtain ⟨x1, e_x1, ht⟩ := fh_b ht
          refine ro_b ((oi_i (hC.1 4 0 (by decide)) rfl).trans e_x1) ?_
          by_cases c1 : x1 ≤ v2
          · replace ht := fh_t c1 ht
            refine ro_t c1 ?_
            obtain ⟨x2, e_x2, ht⟩ := fh_b ht
            refine ro_b e_x2 ?_
            exact ih2 x2 S _ hC ht
          · replace ht := fh_f c1 ht
            refine ro_f c1 ?_
            obtain ⟨x3, e_x3, ht⟩ := fh_b ht
            refine ro_b e_x3 ?_
            exact L24 N v1 v2 x3 S _ hC ht
      intro v1 S h hC ht
      have ht : tb_Fs_listMiddles_2 N (tl_Fs_listMiddles_2 N n2) v1 S = some res := ht
      show RO _ (b_Fs_listMiddles_2 K N (l_Fs_listMiddles_2 K N (L 4 0) n2) (L 4 0) v1 h)
      unfold tb_Fs_listMiddles_2 at ht
      unfold b_Fs_listMiddles_2
      obtain ⟨x1, e_x1, ht⟩ := fh_b ht
      refine ro_b ((oi_i (hC.1 4 0 (by decide)) rfl).trans e_x1) ?_
      by_cases c1 : x1 ≤ v1
      · replace ht := fh_t c1 ht
        refine ro_t c1 ?_
        obtain rfl := Option.some.inj ht
        exact ro_s hC
      · replace ht := fh_f c1 ht
        refine ro_f c1 ?_
        exact L12 N v1 0 S _ hC ht
  unfold t_Fs_listMiddles at ht
  unfold f_Fs_listMiddles
  exact L2 N 0 S0 _ hC ht
def tb_Dr_firstStanding_2 (N : Nat) (k2 : Int32 → CS → Option (Option Nat)) (i : Nat) (v1 : Int32) (S : CS) : Option (Option Nat) :=
  (some (cs_dsize S i)).bind fun x1 => if x1 ≤ v1 then (some none) else ((ta 5 (fun z => 5 * i + z) v1).bind fun x3 => (some (cs_fallen S x3)).bind fun x4 => if x4 = (-1) then ((ta 5 (fun z => 5 * i + z) v1).bind fun x7 => some (some x7)) else ((some (v1 + 1)).bind fun x5 => k2 x5 S))
def tl_Dr_firstStanding_2 (N : Nat) (i : Nat) : Nat → Int32 → CS → Option (Option Nat)
  | 0, _, _ => none
  | n + 1, v1, S => tb_Dr_firstStanding_2 N (tl_Dr_firstStanding_2 N i n) i v1 S
def t_Dr_firstStanding (N : Nat) (i : Nat)  (S0 : CS) : Option (Option Nat) :=
  tl_Dr_firstStanding_2 N i N 0 S0
set_option maxHeartbeats 4000000 in
theorem u_Dr_firstStanding {K : Nat → ClassId} {N : Nat} {i : Nat} {h0 : fh_H} {S0 : CS} {res : Option Nat} {L : Nat → Nat → Nat} {hb : fh_H} (hL : cs_I L) (ht : t_Dr_firstStanding N i  S0 = some res) (hC : cs_W K L hb h0 S0) (hi : i < 2) : RO (fun z => (Option.map (L 7) res, h0) = z) (f_Dr_firstStanding K N (L 5 i)  h0) := by
  have L2 : ∀ (n2 : Nat) (v1 : Int32), tl_Dr_firstStanding_2 N i n2 v1 S0 = some res → RO (fun z => (Option.map (L 7) res, h0) = z) (l_Dr_firstStanding_2 K N (L 5 i) n2 v1 h0) := by
    intro n2
    induction n2 with
    | zero =>
      intro v1 ht
      exact fh_no ht
    | succ n2 ih2 =>
      intro v1 ht
      have ht : tb_Dr_firstStanding_2 N (tl_Dr_firstStanding_2 N i n2) i v1 S0 = some res := ht
      show RO _ (b_Dr_firstStanding_2 K N (l_Dr_firstStanding_2 K N (L 5 i) n2) (L 5 i) v1 h0)
      unfold tb_Dr_firstStanding_2 at ht
      unfold b_Dr_firstStanding_2
      obtain ⟨x1, e_x1, ht⟩ := fh_b ht
      refine ro_b ((oi_i (hC.1 5 i hi) rfl).trans e_x1) ?_
      by_cases c2 : x1 ≤ v1
      · replace ht := fh_t c2 ht
        refine ro_t c2 ?_
        obtain rfl := Option.some.inj ht
        exact ro_s rfl
      · replace ht := fh_f c2 ht
        refine ro_f c2 ?_
        refine ro_b (oi_a (hC.1 5 i hi) rfl) ?_
        obtain ⟨x3, e_x3, ht⟩ := fh_b ht
        have hb_x3 : x3 < 10 := by obtain ⟨k, hk, q⟩ := ta_lt e_x3; have := hi; omega
        refine ro_b ((ai_a (hC.1 6 i hi)).trans (ai_m (g := fun z => some (L 7 z)) e_x3)) ?_
        obtain ⟨x4, e_x4, ht⟩ := fh_b ht
        refine ro_b ((oi_i (hC.1 7 x3 hb_x3) rfl).trans e_x4) ?_
        by_cases c1 : x4 = (-1)
        · replace ht := fh_t c1 ht
          refine ro_t c1 ?_
          refine ro_b (oi_a (hC.1 5 i hi) rfl) ?_
          obtain ⟨x7, e_x7, ht⟩ := fh_b ht
          have hb_x7 : x7 < 10 := by obtain ⟨k, hk, q⟩ := ta_lt e_x7; have := hi; omega
          refine ro_b ((ai_a (hC.1 6 i hi)).trans (ai_m (g := fun z => some (L 7 z)) e_x7)) ?_
          obtain rfl := Option.some.inj ht
          exact ro_s rfl
        · replace ht := fh_f c1 ht
          refine ro_f c1 ?_
          obtain ⟨x5, e_x5, ht⟩ := fh_b ht
          refine ro_b e_x5 ?_
          exact ih2 x5 ht
  unfold t_Dr_firstStanding at ht
  unfold f_Dr_firstStanding
  exact L2 N 0 ht
def tb_Fs_findTriples_108 (N : Nat) (k10 : Option Nat → Int32 → CS → Option (CS)) (k22 : Option Nat → Int32 → Int32 → CS → Option (CS)) (k35 : Option Nat → Int32 → Int32 → Int32 → CS → Option (CS)) (v1 : Option Nat) (v2 : Int32) (v3 : Int32) (v4 : Int32) (S : CS) : Option (CS) :=
  (some (v4 + 1)).bind fun x1 => k35 v1 v2 v3 x1 S
def tb_Fs_findTriples_35 (N : Nat) (k10 : Option Nat → Int32 → CS → Option (CS)) (k22 : Option Nat → Int32 → Int32 → CS → Option (CS)) (k35 : Option Nat → Int32 → Int32 → Int32 → CS → Option (CS)) (v1 : Option Nat) (v2 : Int32) (v3 : Int32) (v4 : Int32) (S : CS) : Option (CS) :=
  (some (cs_pts S)).bind fun x1 => if x1 ≤ v4 then ((some (v3 + 1)).bind fun x2 => k22 v1 v2 x2 S) else ((some (cs_lsize S 11)).bind fun x4 => if 120 ≤ x4 then (tb_Fs_findTriples_108 N k10 k22 k35 v1 v2 v3 v4 S) else ((t_FF_pack N v2 v3 v4).bind fun r6 => (t_Dr_isShown N 0 1 r6 S).bind fun r8 => if r8 = 0 then ((some (cs_lsize S 11)).bind fun x11 => (tk 10 v1).bind fun j_o12 => (t_Fi_squaredArea N j_o12 v2 v3 v4 S).bind fun r13 => (twl 120 (cs_areas S) x11 r13).bind fun F14 => (some (cs_set_areas S F14)).bind fun S14 => (t_FF_pack N v2 v3 v4).bind fun r16 => (t_IL_add N 11 r16 S14).bind fun r18 => tb_Fs_findTriples_108 N k10 k22 k35 (some j_o12) v2 v3 v4 r18) else (tb_Fs_findTriples_108 N k10 k22 k35 v1 v2 v3 v4 S)))
def tl_Fs_findTriples_35 (N : Nat) (k10 : Option Nat → Int32 → CS → Option (CS)) (k22 : Option Nat → Int32 → Int32 → CS → Option (CS)) : Nat → Option Nat → Int32 → Int32 → Int32 → CS → Option (CS)
  | 0, _, _, _, _, _ => none
  | n + 1, v1, v2, v3, v4, S => tb_Fs_findTriples_35 N k10 k22 (tl_Fs_findTriples_35 N k10 k22 n) v1 v2 v3 v4 S
def tb_Fs_findTriples_22 (N : Nat) (k10 : Option Nat → Int32 → CS → Option (CS)) (k22 : Option Nat → Int32 → Int32 → CS → Option (CS)) (v1 : Option Nat) (v2 : Int32) (v3 : Int32) (S : CS) : Option (CS) :=
  (some (cs_pts S)).bind fun x1 => if x1 ≤ v3 then ((some (v2 + 1)).bind fun x2 => k10 v1 x2 S) else ((some (v3 + 1)).bind fun x3 => tl_Fs_findTriples_35 N k10 k22 N v1 v2 v3 x3 S)
def tl_Fs_findTriples_22 (N : Nat) (k10 : Option Nat → Int32 → CS → Option (CS)) : Nat → Option Nat → Int32 → Int32 → CS → Option (CS)
  | 0, _, _, _, _ => none
  | n + 1, v1, v2, v3, S => tb_Fs_findTriples_22 N k10 (tl_Fs_findTriples_22 N k10 n) v1 v2 v3 S
def tb_Fs_findTriples_10 (N : Nat) (k10 : Option Nat → Int32 → CS → Option (CS)) (v1 : Option Nat) (v2 : Int32) (S : CS) : Option (CS) :=
  (some (cs_pts S)).bind fun x1 => if x1 ≤ v2 then (some S) else ((some (v2 + 1)).bind fun x2 => tl_Fs_findTriples_22 N k10 N v1 v2 x2 S)
def tl_Fs_findTriples_10 (N : Nat) : Nat → Option Nat → Int32 → CS → Option (CS)
  | 0, _, _, _ => none
  | n + 1, v1, v2, S => tb_Fs_findTriples_10 N (tl_Fs_findTriples_10 N n) v1 v2 S
def t_Fs_findTriples (N : Nat) (a1 : Option Nat) (S0 : CS) : Option (CS) :=
  (some (cs_set_lsize S0 (va_up (cs_lsize S0) 11 0))).bind fun S2 => tl_Fs_findTriples_10 N N a1 0 S2
set_option maxHeartbeats 4000000 in
theorem u_Fs_findTriples {K : Nat → ClassId} {N : Nat} {a1 : Option Nat} {h0 : fh_H} {S0 : CS} {res : CS} {L : Nat → Nat → Nat} {hb : fh_H} (hL : cs_I L) (ht : t_Fs_findTriples N a1 S0 = some res) (hC : cs_W K L hb h0 S0) : RO (fun z => cs_W K L hb z res) (f_Fs_findTriples K N (L 4 0) (Option.map (L 7) a1) h0) := by
  have L10 : ∀ (n10 : Nat) (v1 : Option Nat) (v2 : Int32) (S : CS) (h : fh_H), cs_W K L hb h S → tl_Fs_findTriples_10 N n10 v1 v2 S = some res → RO (fun z => cs_W K L hb z res) (l_Fs_findTriples_10 K N (L 4 0) n10 (Option.map (L 7) v1) v2 h) := by
    intro n10
    induction n10 with
    | zero =>
      intro v1 v2 S h hC ht
      exact fh_no ht
    | succ n10 ih10 =>
      have L22 : ∀ (n22 : Nat) (v1 : Option Nat) (v2 : Int32) (v3 : Int32) (S : CS) (h : fh_H), cs_W K L hb h S → tl_Fs_findTriples_22 N (tl_Fs_findTriples_10 N n10) n22 v1 v2 v3 S = some res → RO (fun z => cs_W K L hb z res) (l_Fs_findTriples_22 K N (l_Fs_findTriples_10 K N (L 4 0) n10) (L 4 0) n22 (Option.map (L 7) v1) v2 v3 h) := by
        intro n22
        induction n22 with
        | zero =>
          intro v1 v2 v3 S h hC ht
          exact fh_no ht
        | succ n22 ih22 =>
          have L35 : ∀ (n35 : Nat) (v1 : Option Nat) (v2 : Int32) (v3 : Int32) (v4 : Int32) (S : CS) (h : fh_H), cs_W K L hb h S → tl_Fs_findTriples_35 N (tl_Fs_findTriples_10 N n10) (tl_Fs_findTriples_22 N (tl_Fs_findTriples_10 N n10) n22) n35 v1 v2 v3 v4 S = some res → RO (fun z => cs_W K L hb z res) (l_Fs_findTriples_35 K N (l_Fs_findTriples_10 K N (L 4 0) n10) (l_Fs_findTriples_22 K N (l_Fs_findTriples_10 K N (L 4 0) n10) (L 4 0) n22) (L 4 0) n35 (Option.map (L 7) v1) v2 v3 v4 h) := by
            intro n35
            induction n35 with
            | zero =>
              intro v1 v2 v3 v4 S h hC ht
              exact fh_no ht
            | succ n35 ih35 =>
              have B108 : ∀ (v1 : Option Nat) (v2 : Int32) (v3 : Int32) (v4 : Int32) (S : CS) (h : fh_H), cs_W K L hb h S → tb_Fs_findTriples_108 N (tl_Fs_findTriples_10 N n10) (tl_Fs_findTriples_22 N (tl_Fs_findTriples_10 N n10) n22) (tl_Fs_findTriples_35 N (tl_Fs_findTriples_10 N n10) (tl_Fs_findTriples_22 N (tl_Fs_findTriples_10 N n10) n22) n35) v1 v2 v3 v4 S = some res → RO (fun z => cs_W K L hb z res) (b_Fs_findTriples_108 K N (l_Fs_findTriples_10 K N (L 4 0) n10) (l_Fs_findTriples_22 K N (l_Fs_findTriples_10 K N (L 4 0) n10) (L 4 0) n22) (l_Fs_findTriples_35 K N (l_Fs_findTriples_10 K N (L 4 0) n10) (l_Fs_findTriples_22 K N (l_Fs_findTriples_10 K N (L 4 0) n10) (L 4 0) n22) (L 4 0) n35) (L 4 0) (Option.map (L 7) v1) v2 v3 v4 h) := by
                intro v1 v2 v3 v4 S h hC ht
                unfold tb_Fs_findTriples_108 at ht
                unfold b_Fs_findTriples_108
                obtain ⟨x1, e_x1, ht⟩ := fh_b ht
                refine ro_b e_x1 ?_
                exact ih35 v1 v2 v3 x1 S _ hC ht
              intro v1 v2 v3 v4 S h hC ht
              have ht : tb_Fs_findTriples_35 N (tl_Fs_findTriples_10 N n10) (tl_Fs_findTriples_22 N (tl_Fs_findTriples_10 N n10) n22) (tl_Fs_findTriples_35 N (tl_Fs_findTriples_10 N n10) (tl_Fs_findTriples_22 N (tl_Fs_findTriples_10 N n10) n22) n35) v1 v2 v3 v4 S = some res := ht
              show RO _ (b_Fs_findTriples_35 K N (l_Fs_findTriples_10 K N (L 4 0) n10) (l_Fs_findTriples_22 K N (l_Fs_findTriples_10 K N (L 4 0) n10) (L 4 0) n22) (l_Fs_findTriples_35 K N (l_Fs_findTriples_10 K N (L 4 0) n10) (l_Fs_findTriples_22 K N (l_Fs_findTriples_10 K N (L 4 0) n10) (L 4 0) n22) (L 4 0) n35) (L 4 0) (Option.map (L 7) v1) v2 v3 v4 h)
              unfold tb_Fs_findTriples_35 at ht
              unfold b_Fs_findTriples_35
              obtain ⟨x1, e_x1, ht⟩ := fh_b ht
              refine ro_b ((oi_i (hC.1 4 0 (by decide)) rfl).trans e_x1) ?_
              by_cases c3 : x1 ≤ v4
              · replace ht := fh_t c3 ht
                refine ro_t c3 ?_
                obtain ⟨x2, e_x2, ht⟩ := fh_b ht
                refine ro_b e_x2 ?_
                exact ih22 v1 v2 x2 S _ hC ht
              · replace ht := fh_f c3 ht
                refine ro_f c3 ?_
                refine ro_b (oi_a (hC.1 4 0 (by decide)) rfl) ?_
                obtain ⟨x4, e_x4, ht⟩ := fh_b ht
                refine ro_b ((oi_i (hC.1 10 11 (by decide)) rfl).trans e_x4) ?_
                by_cases c2 : 120 ≤ x4
                · replace ht := fh_t c2 ht
                  refine ro_t c2 ?_
                  exact B108 v1 v2 v3 v4 S _ hC ht
                · replace ht := fh_f c2 ht
                  refine ro_f c2 ?_
                  refine ro_b (oi_a (hC.1 4 0 (by decide)) rfl) ?_
                  obtain ⟨r6, e_r6, ht⟩ := fh_b ht
                  refine ro_c (u_FF_pack e_r6) (fun z hz => ?_)
                  subst hz
                  refine ro_b (oi_o (hC.1 5 0 (by decide))) ?_
                  obtain ⟨r8, e_r8, ht⟩ := fh_b ht
                  refine ro_c (u_Dr_isShown hL e_r8 hC (by decide)) (fun z hz => ?_)
                  subst hz
                  by_cases c1 : r8 = 0
                  · replace ht := fh_t c1 ht
                    refine ro_t c1 ?_
                    refine ro_b (oi_a (hC.1 4 0 (by decide)) rfl) ?_
                    refine ro_b (oi_a (hC.1 4 0 (by decide)) rfl) ?_
                    obtain ⟨x11, e_x11, ht⟩ := fh_b ht
                    refine ro_b ((oi_i (hC.1 10 11 (by decide)) rfl).trans e_x11) ?_
                    obtain ⟨j_o12, e_j_o12, ht⟩ := fh_b ht
                    obtain ⟨ey_j_o12, hj_j_o12⟩ := tk_s e_j_o12
                    rw [ey_j_o12]
                    refine ro_b (oi_o (hC.1 7 j_o12 hj_j_o12)) ?_
                    obtain ⟨r13, e_r13, ht⟩ := fh_b ht
                    refine ro_c (u_Fi_squaredArea hL e_r13 hC hj_j_o12) (fun z hz => ?_)
                    subst hz
                    obtain ⟨F14, e_F14, ht⟩ := fh_b ht
                    obtain ⟨S14, e_S14, ht⟩ := fh_b ht
                    refine ro_c (G1 := (fun z => cs_W K L hb z S14)) ⟨_, aw_l (hC.1 14 0 (by decide)) e_F14, by rw [← Option.some.inj e_S14]; exact cs_w_areas hL hC ⟩ (fun h hC => ?_)
                    refine ro_b (oi_a (hC.1 4 0 (by decide)) rfl) ?_
                    obtain ⟨r16, e_r16, ht⟩ := fh_b ht
                    refine ro_c (u_FF_pack e_r16) (fun z hz => ?_)
                    subst hz
                    refine ro_b (oi_o (hC.1 10 11 (by decide))) ?_
                    obtain ⟨r18, e_r18, ht⟩ := fh_b ht
                    refine ro_c (u_IL_add hL e_r18 hC (by decide)) (fun h hC => ?_)
                    exact B108 (some j_o12) v2 v3 v4 r18 _ hC ht
                  · replace ht := fh_f c1 ht
                    refine ro_f c1 ?_
                    exact B108 v1 v2 v3 v4 S _ hC ht
          intro v1 v2 v3 S h hC ht
          have ht : tb_Fs_findTriples_22 N (tl_Fs_findTriples_10 N n10) (tl_Fs_findTriples_22 N (tl_Fs_findTriples_10 N n10) n22) v1 v2 v3 S = some res := ht
          show RO _ (b_Fs_findTriples_22 K N (l_Fs_findTriples_10 K N (L 4 0) n10) (l_Fs_findTriples_22 K N (l_Fs_findTriples_10 K N (L 4 0) n10) (L 4 0) n22) (L 4 0) (Option.map (L 7) v1) v2 v3 h)
          unfold tb_Fs_findTriples_22 at ht
          unfold b_Fs_findTriples_22
          obtain ⟨x1, e_x1, ht⟩ := fh_b ht
          refine ro_b ((oi_i (hC.1 4 0 (by decide)) rfl).trans e_x1) ?_
          by_cases c1 : x1 ≤ v3
          · replace ht := fh_t c1 ht
            refine ro_t c1 ?_
            obtain ⟨x2, e_x2, ht⟩ := fh_b ht
            refine ro_b e_x2 ?_
            exact ih10 v1 x2 S _ hC ht
          · replace ht := fh_f c1 ht
            refine ro_f c1 ?_
            obtain ⟨x3, e_x3, ht⟩ := fh_b ht
            refine ro_b e_x3 ?_
            exact L35 N v1 v2 v3 x3 S _ hC ht
      intro v1 v2 S h hC ht
      have ht : tb_Fs_findTriples_10 N (tl_Fs_findTriples_10 N n10) v1 v2 S = some res := ht
      show RO _ (b_Fs_findTriples_10 K N (l_Fs_findTriples_10 K N (L 4 0) n10) (L 4 0) (Option.map (L 7) v1) v2 h)
      unfold tb_Fs_findTriples_10 at ht
      unfold b_Fs_findTriples_10
      obtain ⟨x1, e_x1, ht⟩ := fh_b ht
      refine ro_b ((oi_i (hC.1 4 0 (by decide)) rfl).trans e_x1) ?_
      by_cases c1 : x1 ≤ v2
      · replace ht := fh_t c1 ht
        refine ro_t c1 ?_
        obtain rfl := Option.some.inj ht
        exact ro_s hC
      · replace ht := fh_f c1 ht
        refine ro_f c1 ?_
        obtain ⟨x2, e_x2, ht⟩ := fh_b ht
        refine ro_b e_x2 ?_
        exact L22 N v1 v2 x2 S _ hC ht
  unfold t_Fs_findTriples at ht
  unfold f_Fs_findTriples
  refine ro_b (oi_a (hC.1 4 0 (by decide)) rfl) ?_
  obtain ⟨S2, e_S2, ht⟩ := fh_b ht
  refine ro_c (G1 := (fun z => cs_W K L hb z S2)) ⟨_, oi_p (hC.1 10 11 (by decide)) (Nat.le_of_ble_eq_true rfl), by rw [← Option.some.inj e_S2]; exact cs_w_lsize hL hC (by decide) rfl⟩ (fun h hC => ?_)
  exact L10 N a1 0 S2 _ hC ht
