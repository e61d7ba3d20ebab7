def tb_Mo_lineOf_75 (N : Nat) (k5 : Int32 → Int32 → Int32 → Int32 → MS → Option (Int32 × MS)) (v1 : Int32) (v2 : Int32) (v4 : Int32) (w0 : Int32) (S : MS) : Option (Int32 × MS) :=
  (some (v4 + 1)).bind fun x1 => k5 v1 v2 w0 x1 S
def tb_Mo_lineOf_65 (N : Nat) (k5 : Int32 → Int32 → Int32 → Int32 → MS → Option (Int32 × MS)) (v1 : Int32) (v2 : Int32) (v3 : Int32) (v4 : Int32) (S : MS) : Option (Int32 × MS) :=
  tb_Mo_lineOf_75 N k5 v1 v2 v4 (v3 ||| ((1 : Int32) <<< (v4 &&& 31))) S
def tb_Mo_lineOf_5 (N : Nat) (k5 : Int32 → Int32 → Int32 → Int32 → MS → Option (Int32 × MS)) (v1 : Int32) (v2 : Int32) (v3 : Int32) (v4 : Int32) (S : MS) : Option (Int32 × MS) :=
  (some (ms_many S)).bind fun x1 => if x1 ≤ v4 then (some (v3, S)) else ((t_Mo_setRow N v1 v2 v4 0 0 0 S).bind fun r3 => (ta 100 (ms_same r3) ((10 * v1) + v4)).bind fun x5 => if x5 = 0 then ((ta 100 (ms_same r3) ((10 * v2) + v4)).bind fun x7 => if x7 = 0 then ((t_Mo_isAlways N 1 0 0 r3).bind fun r9 => if r9.1 = 0 then (tb_Mo_lineOf_75 N k5 v1 v2 v4 v3 r9.2) else (tb_Mo_lineOf_65 N k5 v1 v2 v3 v4 r9.2)) else (tb_Mo_lineOf_65 N k5 v1 v2 v3 v4 r3)) else (tb_Mo_lineOf_65 N k5 v1 v2 v3 v4 r3))
def tl_Mo_lineOf_5 (N : Nat) : Nat → Int32 → Int32 → Int32 → Int32 → MS → Option (Int32 × MS)
  | 0, _, _, _, _, _ => none
  | n + 1, v1, v2, v3, v4, S => tb_Mo_lineOf_5 N (tl_Mo_lineOf_5 N n) v1 v2 v3 v4 S
def t_Mo_lineOf (N : Nat) (a1 : Int32) (a2 : Int32) (S0 : MS) : Option (Int32 × MS) :=
  tl_Mo_lineOf_5 N N a1 a2 0 0 S0
set_option maxHeartbeats 4000000 in
theorem u_Mo_lineOf {K : Nat → ClassId} {N : Nat} {a1 : Int32} {a2 : Int32} {h0 : fh_H} {S0 : MS} {res : Int32 × MS} {L : Nat → Nat → Nat} {hb : fh_H} (hL : ms_I L) (ht : t_Mo_lineOf N a1 a2 S0 = some res) (hC : ms_W K L hb h0 S0) : RO (fun z => z.1 = res.1 ∧ ms_W K L hb z.2 res.2) (f_Mo_lineOf K N (L 0 0) a1 a2 h0) := by
  have L5 : ∀ (n5 : Nat) (v1 : Int32) (v2 : Int32) (v3 : Int32) (v4 : Int32) (S : MS) (h : fh_H), ms_W K L hb h S → tl_Mo_lineOf_5 N n5 v1 v2 v3 v4 S = some res → RO (fun z => z.1 = res.1 ∧ ms_W K L hb z.2 res.2) (l_Mo_lineOf_5 K N (L 0 0) n5 v1 v2 v3 v4 h) := by
    intro n5
    induction n5 with
    | zero =>
      intro v1 v2 v3 v4 S h hC ht
      exact fh_no ht
    | succ n5 ih5 =>
      have B75 : ∀ (v1 : Int32) (v2 : Int32) (v4 : Int32) (w0 : Int32) (S : MS) (h : fh_H), ms_W K L hb h S → tb_Mo_lineOf_75 N (tl_Mo_lineOf_5 N n5) v1 v2 v4 w0 S = some res → RO (fun z => z.1 = res.1 ∧ ms_W K L hb z.2 res.2) (b_Mo_lineOf_75 K N (l_Mo_lineOf_5 K N (L 0 0) n5) (L 0 0) v1 v2 v4 w0 h) := by
        intro v1 v2 v4 w0 S h hC ht
        unfold tb_Mo_lineOf_75 at ht
        unfold b_Mo_lineOf_75
        obtain ⟨x1, e_x1, ht⟩ := fh_b ht
        refine ro_b e_x1 ?_
        exact ih5 v1 v2 w0 x1 S _ hC ht
      have B65 : ∀ (v1 : Int32) (v2 : Int32) (v3 : Int32) (v4 : Int32) (S : MS) (h : fh_H), ms_W K L hb h S → tb_Mo_lineOf_65 N (tl_Mo_lineOf_5 N n5) v1 v2 v3 v4 S = some res → RO (fun z => z.1 = res.1 ∧ ms_W K L hb z.2 res.2) (b_Mo_lineOf_65 K N (l_Mo_lineOf_5 K N (L 0 0) n5) (L 0 0) v1 v2 v3 v4 h) := by
        intro v1 v2 v3 v4 S h hC ht
        unfold tb_Mo_lineOf_65 at ht
        unfold b_Mo_lineOf_65
        exact B75 v1 v2 v4 (v3 ||| ((1 : Int32) <<< (v4 &&& 31))) S _ hC ht
      intro v1 v2 v3 v4 S h hC ht
      have ht : tb_Mo_lineOf_5 N (tl_Mo_lineOf_5 N n5) v1 v2 v3 v4 S = some res := ht
      show RO _ (b_Mo_lineOf_5 K N (l_Mo_lineOf_5 K N (L 0 0) n5) (L 0 0) v1 v2 v3 v4 h)
      unfold tb_Mo_lineOf_5 at ht
      unfold b_Mo_lineOf_5
      obtain ⟨x1, e_x1, ht⟩ := fh_b ht
      refine ro_b ((oi_i (hC.1 0 0 (by decide)) rfl).trans e_x1) ?_
      by_cases c4 : x1 ≤ v4
      · replace ht := fh_t c4 ht
        refine ro_t c4 ?_
        obtain rfl := Option.some.inj ht
        exact ro_s ⟨rfl, hC⟩
      · replace ht := fh_f c4 ht
        refine ro_f c4 ?_
        refine ro_b (oi_o (hC.1 0 0 (by decide))) ?_
        obtain ⟨r3, e_r3, ht⟩ := fh_b ht
        refine ro_c (u_Mo_setRow hL e_r3 hC) (fun h hC => ?_)
        refine ro_b (oi_a (hC.1 0 0 (by decide)) rfl) ?_
        obtain ⟨x5, e_x5, ht⟩ := fh_b ht
        refine ro_b ((ai_i (hC.1 7 0 (by decide))).trans e_x5) ?_
        by_cases c3 : x5 = 0
        · replace ht := fh_t c3 ht
          refine ro_t c3 ?_
          refine ro_b (oi_a (hC.1 0 0 (by decide)) rfl) ?_
          obtain ⟨x7, e_x7, ht⟩ := fh_b ht
          refine ro_b ((ai_i (hC.1 7 0 (by decide))).trans e_x7) ?_
          by_cases c2 : x7 = 0
          · replace ht := fh_t c2 ht
            refine ro_t c2 ?_
            refine ro_b (oi_o (hC.1 0 0 (by decide))) ?_
            obtain ⟨r9, e_r9, ht⟩ := fh_b ht
            refine ro_c (u_Mo_isAlways hL e_r9 hC) (fun z hz => ?_)
            obtain ⟨z1, h⟩ := z
            obtain ⟨ez, hC⟩ := hz
            dsimp only at ez hC
            subst ez
            by_cases c1 : r9.1 = 0
            · replace ht := fh_t c1 ht
              refine ro_t c1 ?_
              exact B75 v1 v2 v4 v3 r9.2 _ hC ht
            · replace ht := fh_f c1 ht
              refine ro_f c1 ?_
              exact B65 v1 v2 v3 v4 r9.2 _ hC ht
          · replace ht := fh_f c2 ht
            refine ro_f c2 ?_
            exact B65 v1 v2 v3 v4 r3 _ hC ht
        · replace ht := fh_f c3 ht
          refine ro_f c3 ?_
          exact B65 v1 v2 v3 v4 r3 _ hC ht
  unfold t_Mo_lineOf at ht
  unfold f_Mo_lineOf
  exact L5 N a1 a2 0 0 S0 _ hC ht
def tb_Mo_row_80 (N : Nat) (k6 : Int32 → Int32 → MS → Option (Int32 × MS)) (k18 : Int32 → Int32 → Int32 → MS → Option (Int32 × MS)) (v1 : Int32) (v2 : Int32) (v3 : Int32) (S : MS) : Option (Int32 × MS) :=
  (some (v3 + 1)).bind fun x1 => k18 v1 v2 x1 S
def tb_Mo_row_79 (N : Nat) (k6 : Int32 → Int32 → MS → Option (Int32 × MS)) (k18 : Int32 → Int32 → Int32 → MS → Option (Int32 × MS)) (v1 : Int32) (v2 : Int32) (v3 : Int32) (w1 : Int32) (w2 : Int32) (S : MS) : Option (Int32 × MS) :=
  (twz 1024 (ms_isSet S) w1 w2).bind fun F1 => (some (ms_set_isSet S F1)).bind fun S1 => tb_Mo_row_80 N k6 k18 v1 v2 v3 S1
def tb_Mo_row_74 (N : Nat) (k6 : Int32 → Int32 → MS → Option (Int32 × MS)) (k18 : Int32 → Int32 → Int32 → MS → Option (Int32 × MS)) (v1 : Int32) (v2 : Int32) (v3 : Int32) (w1 : Int32) (S : MS) : Option (Int32 × MS) :=
  tb_Mo_row_79 N k6 k18 v1 v2 v3 w1 1 S
def tb_Mo_row_18 (N : Nat) (k6 : Int32 → Int32 → MS → Option (Int32 × MS)) (k18 : Int32 → Int32 → Int32 → MS → Option (Int32 × MS)) (v1 : Int32) (v2 : Int32) (v3 : Int32) (S : MS) : Option (Int32 × MS) :=
  (some (ms_many S)).bind fun x1 => if x1 ≤ v3 then ((some (v2 + 1)).bind fun x2 => k6 v1 x2 S) else ((ta 100 (ms_same S) ((10 * v2) + v3)).bind fun x4 => if x4 = 0 then ((t_Mo_lineOf N v2 v3 S).bind fun r6 => (ta 1024 (ms_isSet r6.2) r6.1).bind fun x9 => if x9 = 0 then ((t_Mo_places N r6.1 r6.2).bind fun r11 => if r11.1 ≤ 2 then (tb_Mo_row_79 N k6 k18 v1 v2 v3 r6.1 0 r11.2) else (tb_Mo_row_74 N k6 k18 v1 v2 v3 r6.1 r11.2)) else (tb_Mo_row_74 N k6 k18 v1 v2 v3 r6.1 r6.2)) else (tb_Mo_row_80 N k6 k18 v1 v2 v3 S))
def tl_Mo_row_18 (N : Nat) (k6 : Int32 → Int32 → MS → Option (Int32 × MS)) : Nat → Int32 → Int32 → Int32 → MS → Option (Int32 × MS)
  | 0, _, _, _, _ => none
  | n + 1, v1, v2, v3, S => tb_Mo_row_18 N k6 (tl_Mo_row_18 N k6 n) v1 v2 v3 S
def tb_Mo_row_6 (N : Nat) (k6 : Int32 → Int32 → MS → Option (Int32 × MS)) (v1 : Int32) (v2 : Int32) (S : MS) : Option (Int32 × MS) :=
  (some (ms_many S)).bind fun x1 => if x1 ≤ v2 then ((t_Mo_set N v1 S).bind fun r3 => some (r3, S)) else ((some (v2 + 1)).bind fun x4 => tl_Mo_row_18 N k6 N v1 v2 x4 S)
def tl_Mo_row_6 (N : Nat) : Nat → Int32 → Int32 → MS → Option (Int32 × MS)
  | 0, _, _, _ => none
  | n + 1, v1, v2, S => tb_Mo_row_6 N (tl_Mo_row_6 N n) v1 v2 S
def t_Mo_row (N : Nat) (a1 : Int32) (S0 : MS) : Option (Int32 × MS) :=
  (t_Mo_clearSets N S0).bind fun r2 => tl_Mo_row_6 N N a1 0 r2
set_option maxHeartbeats 4000000 in
theorem u_Mo_row {K : Nat → ClassId} {N : Nat} {a1 : Int32} {h0 : fh_H} {S0 : MS} {res : Int32 × MS} {L : Nat → Nat → Nat} {hb : fh_H} (hL : ms_I L) (ht : t_Mo_row N a1 S0 = some res) (hC : ms_W K L hb h0 S0) : RO (fun z => z.1 = res.1 ∧ ms_W K L hb z.2 res.2) (f_Mo_row K N (L 0 0) a1 h0) := by
  have L6 : ∀ (n6 : Nat) (v1 : Int32) (v2 : Int32) (S : MS) (h : fh_H), ms_W K L hb h S → tl_Mo_row_6 N n6 v1 v2 S = some res → RO (fun z => z.1 = res.1 ∧ ms_W K L hb z.2 res.2) (l_Mo_row_6 K N (L 0 0) n6 v1 v2 h) := by
    intro n6
    induction n6 with
    | zero =>
      intro v1 v2 S h hC ht
      exact fh_no ht
    | succ n6 ih6 =>
      have L18 : ∀ (n18 : Nat) (v1 : Int32) (v2 : Int32) (v3 : Int32) (S : MS) (h : fh_H), ms_W K L hb h S → tl_Mo_row_18 N (tl_Mo_row_6 N n6) n18 v1 v2 v3 S = some res → RO (fun z => z.1 = res.1 ∧ ms_W K L hb z.2 res.2) (l_Mo_row_18 K N (l_Mo_row_6 K N (L 0 0) n6) (L 0 0) n18 v1 v2 v3 h) := by
        intro n18
        induction n18 with
        | zero =>
          intro v1 v2 v3 S h hC ht
          exact fh_no ht
        | succ n18 ih18 =>
          have B80 : ∀ (v1 : Int32) (v2 : Int32) (v3 : Int32) (S : MS) (h : fh_H), ms_W K L hb h S → tb_Mo_row_80 N (tl_Mo_row_6 N n6) (tl_Mo_row_18 N (tl_Mo_row_6 N n6) n18) v1 v2 v3 S = some res → RO (fun z => z.1 = res.1 ∧ ms_W K L hb z.2 res.2) (b_Mo_row_80 K N (l_Mo_row_6 K N (L 0 0) n6) (l_Mo_row_18 K N (l_Mo_row_6 K N (L 0 0) n6) (L 0 0) n18) (L 0 0) v1 v2 v3 h) := by
            intro v1 v2 v3 S h hC ht
            unfold tb_Mo_row_80 at ht
            unfold b_Mo_row_80
            obtain ⟨x1, e_x1, ht⟩ := fh_b ht
            refine ro_b e_x1 ?_
            exact ih18 v1 v2 x1 S _ hC ht
          have B79 : ∀ (v1 : Int32) (v2 : Int32) (v3 : Int32) (w1 : Int32) (w2 : Int32) (S : MS) (h : fh_H), ms_W K L hb h S → tb_Mo_row_79 N (tl_Mo_row_6 N n6) (tl_Mo_row_18 N (tl_Mo_row_6 N n6) n18) v1 v2 v3 w1 w2 S = some res → RO (fun z => z.1 = res.1 ∧ ms_W K L hb z.2 res.2) (b_Mo_row_79 K N (l_Mo_row_6 K N (L 0 0) n6) (l_Mo_row_18 K N (l_Mo_row_6 K N (L 0 0) n6) (L 0 0) n18) (L 0 0) v1 v2 v3 (some (L 9 0)) w1 w2 h) := by
            intro v1 v2 v3 w1 w2 S h hC ht
            unfold tb_Mo_row_79 at ht
            unfold b_Mo_row_79
            obtain ⟨F1, e_F1, ht⟩ := fh_b ht
            obtain ⟨S1, e_S1, ht⟩ := fh_b ht
            refine ro_c (G1 := (fun z => ms_W K L hb z S1)) ⟨_, aw_z (hC.1 9 0 (by decide)) e_F1, by rw [← Option.some.inj e_S1]; exact ms_w_isSet hL hC ⟩ (fun h hC => ?_)
            exact B80 v1 v2 v3 S1 _ hC ht
          have B74 : ∀ (v1 : Int32) (v2 : Int32) (v3 : Int32) (w1 : Int32) (S : MS) (h : fh_H), ms_W K L hb h S → tb_Mo_row_74 N (tl_Mo_row_6 N n6) (tl_Mo_row_18 N (tl_Mo_row_6 N n6) n18) v1 v2 v3 w1 S = some res → RO (fun z => z.1 = res.1 ∧ ms_W K L hb z.2 res.2) (b_Mo_row_74 K N (l_Mo_row_6 K N (L 0 0) n6) (l_Mo_row_18 K N (l_Mo_row_6 K N (L 0 0) n6) (L 0 0) n18) (L 0 0) v1 v2 v3 (some (L 9 0)) w1 h) := by
            intro v1 v2 v3 w1 S h hC ht
            unfold tb_Mo_row_74 at ht
            unfold b_Mo_row_74
            exact B79 v1 v2 v3 w1 1 S _ hC ht
          intro v1 v2 v3 S h hC ht
          have ht : tb_Mo_row_18 N (tl_Mo_row_6 N n6) (tl_Mo_row_18 N (tl_Mo_row_6 N n6) n18) v1 v2 v3 S = some res := ht
          show RO _ (b_Mo_row_18 K N (l_Mo_row_6 K N (L 0 0) n6) (l_Mo_row_18 K N (l_Mo_row_6 K N (L 0 0) n6) (L 0 0) n18) (L 0 0) v1 v2 v3 h)
          unfold tb_Mo_row_18 at ht
          unfold b_Mo_row_18
          obtain ⟨x1, e_x1, ht⟩ := fh_b ht
          refine ro_b ((oi_i (hC.1 0 0 (by decide)) rfl).trans e_x1) ?_
          by_cases c4 : x1 ≤ v3
          · replace ht := fh_t c4 ht
            refine ro_t c4 ?_
            obtain ⟨x2, e_x2, ht⟩ := fh_b ht
            refine ro_b e_x2 ?_
            exact ih6 v1 x2 S _ hC ht
          · replace ht := fh_f c4 ht
            refine ro_f c4 ?_
            refine ro_b (oi_a (hC.1 0 0 (by decide)) rfl) ?_
            obtain ⟨x4, e_x4, ht⟩ := fh_b ht
            refine ro_b ((ai_i (hC.1 7 0 (by decide))).trans e_x4) ?_
            by_cases c3 : x4 = 0
            · replace ht := fh_t c3 ht
              refine ro_t c3 ?_
              refine ro_b (oi_o (hC.1 0 0 (by decide))) ?_
              obtain ⟨r6, e_r6, ht⟩ := fh_b ht
              refine ro_c (u_Mo_lineOf hL e_r6 hC) (fun z hz => ?_)
              obtain ⟨z1, h⟩ := z
              obtain ⟨ez, hC⟩ := hz
              dsimp only at ez hC
              subst ez
              refine ro_b (oi_a (hC.1 0 0 (by decide)) rfl) ?_
              refine ro_b (oi_a (hC.1 0 0 (by decide)) rfl) ?_
              obtain ⟨x9, e_x9, ht⟩ := fh_b ht
              refine ro_b ((ai_i (hC.1 9 0 (by decide))).trans e_x9) ?_
              by_cases c2 : x9 = 0
              · replace ht := fh_t c2 ht
                refine ro_t c2 ?_
                refine ro_b (oi_o (hC.1 0 0 (by decide))) ?_
                obtain ⟨r11, e_r11, ht⟩ := fh_b ht
                refine ro_c (u_Mo_places hL e_r11 hC) (fun z hz => ?_)
                obtain ⟨z1, h⟩ := z
                obtain ⟨ez, hC⟩ := hz
                dsimp only at ez hC
                subst ez
                by_cases c1 : r11.1 ≤ 2
                · replace ht := fh_t c1 ht
                  refine ro_t c1 ?_
                  exact B79 v1 v2 v3 r6.1 0 r11.2 _ hC ht
                · replace ht := fh_f c1 ht
                  refine ro_f c1 ?_
                  exact B74 v1 v2 v3 r6.1 r11.2 _ hC ht
              · replace ht := fh_f c2 ht
                refine ro_f c2 ?_
                exact B74 v1 v2 v3 r6.1 r6.2 _ hC ht
            · replace ht := fh_f c3 ht
              refine ro_f c3 ?_
              exact B80 v1 v2 v3 S _ hC ht
      intro v1 v2 S h hC ht
      have ht : tb_Mo_row_6 N (tl_Mo_row_6 N n6) v1 v2 S = some res := ht
      show RO _ (b_Mo_row_6 K N (l_Mo_row_6 K N (L 0 0) n6) (L 0 0) v1 v2 h)
      unfold tb_Mo_row_6 at ht
      unfold b_Mo_row_6
      obtain ⟨x1, e_x1, ht⟩ := fh_b ht
      refine ro_b ((oi_i (hC.1 0 0 (by decide)) rfl).trans e_x1) ?_
      by_cases c1 : x1 ≤ v2
      · replace ht := fh_t c1 ht
        refine ro_t c1 ?_
        refine ro_b (oi_o (hC.1 0 0 (by decide))) ?_
        obtain ⟨r3, e_r3, ht⟩ := fh_b ht
        refine ro_c (u_Mo_set hL e_r3 hC) (fun z hz => ?_)
        subst hz
        obtain rfl := Option.some.inj ht
        exact ro_s ⟨rfl, hC⟩
      · replace ht := fh_f c1 ht
        refine ro_f c1 ?_
        obtain ⟨x4, e_x4, ht⟩ := fh_b ht
        refine ro_b e_x4 ?_
        exact L18 N v1 v2 x4 S _ hC ht
  unfold t_Mo_row at ht
  unfold f_Mo_row
  refine ro_b (oi_o (hC.1 0 0 (by decide))) ?_
  obtain ⟨r2, e_r2, ht⟩ := fh_b ht
  refine ro_c (u_Mo_clearSets hL e_r2 hC) (fun h hC => ?_)
  exact L6 N a1 0 r2 _ hC ht
def tb_Mo_ringThrough_93 (N : Nat) (k6 : Int32 → Int32 → Int32 → Int32 → Int32 → MS → Option (Int32 × MS)) (v1 : Int32) (v2 : Int32) (v3 : Int32) (v5 : Int32) (w0 : Int32) (S : MS) : Option (Int32 × MS) :=
  (some (v5 + 1)).bind fun x1 => k6 v1 v2 v3 w0 x1 S
def tb_Mo_ringThrough_81 (N : Nat) (k6 : Int32 → Int32 → Int32 → Int32 → Int32 → MS → Option (Int32 × MS)) (v1 : Int32) (v2 : Int32) (v3 : Int32) (v4 : Int32) (v5 : Int32) (S : MS) : Option (Int32 × MS) :=
  tb_Mo_ringThrough_93 N k6 v1 v2 v3 v5 (v4 ||| ((1 : Int32) <<< (v5 &&& 31))) S
def tb_Mo_ringThrough_6 (N : Nat) (k6 : Int32 → Int32 → Int32 → Int32 → Int32 → MS → Option (Int32 × MS)) (v1 : Int32) (v2 : Int32) (v3 : Int32) (v4 : Int32) (v5 : Int32) (S : MS) : Option (Int32 × MS) :=
  (some (ms_many S)).bind fun x1 => if x1 ≤ v5 then (some (v4, S)) else ((t_Mo_setRow N v1 v2 v3 v5 0 0 S).bind fun r3 => (ta 100 (ms_same r3) ((10 * v1) + v5)).bind fun x5 => if x5 = 0 then ((ta 100 (ms_same r3) ((10 * v2) + v5)).bind fun x7 => if x7 = 0 then ((ta 100 (ms_same r3) ((10 * v3) + v5)).bind fun x9 => if x9 = 0 then ((t_Mo_isAlways N 5 0 0 r3).bind fun r11 => if r11.1 = 0 then (tb_Mo_ringThrough_93 N k6 v1 v2 v3 v5 v4 r11.2) else (tb_Mo_ringThrough_81 N k6 v1 v2 v3 v4 v5 r11.2)) else (tb_Mo_ringThrough_81 N k6 v1 v2 v3 v4 v5 r3)) else (tb_Mo_ringThrough_81 N k6 v1 v2 v3 v4 v5 r3)) else (tb_Mo_ringThrough_81 N k6 v1 v2 v3 v4 v5 r3))
def tl_Mo_ringThrough_6 (N : Nat) : Nat → Int32 → Int32 → Int32 → Int32 → Int32 → MS → Option (Int32 × MS)
  | 0, _, _, _, _, _, _ => none
  | n + 1, v1, v2, v3, v4, v5, S => tb_Mo_ringThrough_6 N (tl_Mo_ringThrough_6 N n) v1 v2 v3 v4 v5 S
def t_Mo_ringThrough (N : Nat) (a1 : Int32) (a2 : Int32) (a3 : Int32) (S0 : MS) : Option (Int32 × MS) :=
  tl_Mo_ringThrough_6 N N a1 a2 a3 0 0 S0
set_option maxHeartbeats 4000000 in
theorem u_Mo_ringThrough {K : Nat → ClassId} {N : Nat} {a1 : Int32} {a2 : Int32} {a3 : Int32} {h0 : fh_H} {S0 : MS} {res : Int32 × MS} {L : Nat → Nat → Nat} {hb : fh_H} (hL : ms_I L) (ht : t_Mo_ringThrough N a1 a2 a3 S0 = some res) (hC : ms_W K L hb h0 S0) : RO (fun z => z.1 = res.1 ∧ ms_W K L hb z.2 res.2) (f_Mo_ringThrough K N (L 0 0) a1 a2 a3 h0) := by
  have L6 : ∀ (n6 : Nat) (v1 : Int32) (v2 : Int32) (v3 : Int32) (v4 : Int32) (v5 : Int32) (S : MS) (h : fh_H), ms_W K L hb h S → tl_Mo_ringThrough_6 N n6 v1 v2 v3 v4 v5 S = some res → RO (fun z => z.1 = res.1 ∧ ms_W K L hb z.2 res.2) (l_Mo_ringThrough_6 K N (L 0 0) n6 v1 v2 v3 v4 v5 h) := by
    intro n6
    induction n6 with
    | zero =>
      intro v1 v2 v3 v4 v5 S h hC ht
      exact fh_no ht
    | succ n6 ih6 =>
      have B93 : ∀ (v1 : Int32) (v2 : Int32) (v3 : Int32) (v5 : Int32) (w0 : Int32) (S : MS) (h : fh_H), ms_W K L hb h S → tb_Mo_ringThrough_93 N (tl_Mo_ringThrough_6 N n6) v1 v2 v3 v5 w0 S = some res → RO (fun z => z.1 = res.1 ∧ ms_W K L hb z.2 res.2) (b_Mo_ringThrough_93 K N (l_Mo_ringThrough_6 K N (L 0 0) n6) (L 0 0) v1 v2 v3 v5 w0 h) := by
        intro v1 v2 v3 v5 w0 S h hC ht
        unfold tb_Mo_ringThrough_93 at ht
        unfold b_Mo_ringThrough_93
        obtain ⟨x1, e_x1, ht⟩ := fh_b ht
        refine ro_b e_x1 ?_
        exact ih6 v1 v2 v3 w0 x1 S _ hC ht
      have B81 : ∀ (v1 : Int32) (v2 : Int32) (v3 : Int32) (v4 : Int32) (v5 : Int32) (S : MS) (h : fh_H), ms_W K L hb h S → tb_Mo_ringThrough_81 N (tl_Mo_ringThrough_6 N n6) v1 v2 v3 v4 v5 S = some res → RO (fun z => z.1 = res.1 ∧ ms_W K L hb z.2 res.2) (b_Mo_ringThrough_81 K N (l_Mo_ringThrough_6 K N (L 0 0) n6) (L 0 0) v1 v2 v3 v4 v5 h) := by
        intro v1 v2 v3 v4 v5 S h hC ht
        unfold tb_Mo_ringThrough_81 at ht
        unfold b_Mo_ringThrough_81
        exact B93 v1 v2 v3 v5 (v4 ||| ((1 : Int32) <<< (v5 &&& 31))) S _ hC ht
      intro v1 v2 v3 v4 v5 S h hC ht
      have ht : tb_Mo_ringThrough_6 N (tl_Mo_ringThrough_6 N n6) v1 v2 v3 v4 v5 S = some res := ht
      show RO _ (b_Mo_ringThrough_6 K N (l_Mo_ringThrough_6 K N (L 0 0) n6) (L 0 0) v1 v2 v3 v4 v5 h)
      unfold tb_Mo_ringThrough_6 at ht
      unfold b_Mo_ringThrough_6
      obtain ⟨x1, e_x1, ht⟩ := fh_b ht
      refine ro_b ((oi_i (hC.1 0 0 (by decide)) rfl).trans e_x1) ?_
      by_cases c5 : x1 ≤ v5
      · replace ht := fh_t c5 ht
        refine ro_t c5 ?_
        obtain rfl := Option.some.inj ht
        exact ro_s ⟨rfl, hC⟩
      · replace ht := fh_f c5 ht
        refine ro_f c5 ?_
        refine ro_b (oi_o (hC.1 0 0 (by decide))) ?_
        obtain ⟨r3, e_r3, ht⟩ := fh_b ht
        refine ro_c (u_Mo_setRow hL e_r3 hC) (fun h hC => ?_)
        refine ro_b (oi_a (hC.1 0 0 (by decide)) rfl) ?_
        obtain ⟨x5, e_x5, ht⟩ := fh_b ht
        refine ro_b ((ai_i (hC.1 7 0 (by decide))).trans e_x5) ?_
        by_cases c4 : x5 = 0
        · replace ht := fh_t c4 ht
          refine ro_t c4 ?_
          refine ro_b (oi_a (hC.1 0 0 (by decide)) rfl) ?_
          obtain ⟨x7, e_x7, ht⟩ := fh_b ht
          refine ro_b ((ai_i (hC.1 7 0 (by decide))).trans e_x7) ?_
          by_cases c3 : x7 = 0
          · replace ht := fh_t c3 ht
            refine ro_t c3 ?_
            refine ro_b (oi_a (hC.1 0 0 (by decide)) rfl) ?_
            obtain ⟨x9, e_x9, ht⟩ := fh_b ht
            refine ro_b ((ai_i (hC.1 7 0 (by decide))).trans e_x9) ?_
            by_cases c2 : x9 = 0
            · replace ht := fh_t c2 ht
              refine ro_t c2 ?_
              refine ro_b (oi_o (hC.1 0 0 (by decide))) ?_
              obtain ⟨r11, e_r11, ht⟩ := fh_b ht
              refine ro_c (u_Mo_isAlways hL e_r11 hC) (fun z hz => ?_)
              obtain ⟨z1, h⟩ := z
              obtain ⟨ez, hC⟩ := hz
              dsimp only at ez hC
              subst ez
              by_cases c1 : r11.1 = 0
              · replace ht := fh_t c1 ht
                refine ro_t c1 ?_
                exact B93 v1 v2 v3 v5 v4 r11.2 _ hC ht
              · replace ht := fh_f c1 ht
                refine ro_f c1 ?_
                exact B81 v1 v2 v3 v4 v5 r11.2 _ hC ht
            · replace ht := fh_f c2 ht
              refine ro_f c2 ?_
              exact B81 v1 v2 v3 v4 v5 r3 _ hC ht
          · replace ht := fh_f c3 ht
            refine ro_f c3 ?_
            exact B81 v1 v2 v3 v4 v5 r3 _ hC ht
        · replace ht := fh_f c4 ht
          refine ro_f c4 ?_
          exact B81 v1 v2 v3 v4 v5 r3 _ hC ht
  unfold t_Mo_ringThrough at ht
  unfold f_Mo_ringThrough
  exact L6 N a1 a2 a3 0 0 S0 _ hC ht
def tb_Mo_ring_166 (N : Nat) (k6 : Int32 → Int32 → MS → Option (Int32 × MS)) (k18 : Int32 → Int32 → Int32 → MS → Option (Int32 × MS)) (k31 : Int32 → Int32 → Int32 → Int32 → MS → Option (Int32 × MS)) (v1 : Int32) (v2 : Int32) (v3 : Int32) (v4 : Int32) (S : MS) : Option (Int32 × MS) :=
  (some (v4 + 1)).bind fun x1 => k31 v1 v2 v3 x1 S
def tb_Mo_ring_165 (N : Nat) (k6 : Int32 → Int32 → MS → Option (Int32 × MS)) (k18 : Int32 → Int32 → Int32 → MS → Option (Int32 × MS)) (k31 : Int32 → Int32 → Int32 → Int32 → MS → Option (Int32 × MS)) (v1 : Int32) (v2 : Int32) (v3 : Int32) (v4 : Int32) (w1 : Int32) (w2 : Int32) (S : MS) : Option (Int32 × MS) :=
  (twz 1024 (ms_isSet S) w1 w2).bind fun F1 => (some (ms_set_isSet S F1)).bind fun S1 => tb_Mo_ring_166 N k6 k18 k31 v1 v2 v3 v4 S1
def tb_Mo_ring_160 (N : Nat) (k6 : Int32 → Int32 → MS → Option (Int32 × MS)) (k18 : Int32 → Int32 → Int32 → MS → Option (Int32 × MS)) (k31 : Int32 → Int32 → Int32 → Int32 → MS → Option (Int32 × MS)) (v1 : Int32) (v2 : Int32) (v3 : Int32) (v4 : Int32) (w1 : Int32) (S : MS) : Option (Int32 × MS) :=
  tb_Mo_ring_165 N k6 k18 k31 v1 v2 v3 v4 w1 1 S
def tb_Mo_ring_89 (N : Nat) (k6 : Int32 → Int32 → MS → Option (Int32 × MS)) (k18 : Int32 → Int32 → Int32 → MS → Option (Int32 × MS)) (k31 : Int32 → Int32 → Int32 → Int32 → MS → Option (Int32 × MS)) (v1 : Int32) (v2 : Int32) (v3 : Int32) (v4 : Int32) (w0 : Int32) (S : MS) : Option (Int32 × MS) :=
  (t_Mo_setRow N v2 v3 v4 0 0 0 S).bind fun r2 => if w0 = 0 then (tb_Mo_ring_166 N k6 k18 k31 v1 v2 v3 v4 r2) else ((t_Mo_standing N r2).bind fun r4 => if r4 ≤ 0 then (tb_Mo_ring_166 N k6 k18 k31 v1 v2 v3 v4 r2) else ((t_Mo_isAlways N 1 0 0 r2).bind fun r6 => if r6.1 = 0 then ((t_Mo_ringThrough N v2 v3 v4 r6.2).bind fun r8 => (ta 1024 (ms_isSet r8.2) r8.1).bind fun x11 => if x11 = 0 then ((t_Mo_places N r8.1 r8.2).bind fun r13 => if r13.1 ≤ 3 then (tb_Mo_ring_165 N k6 k18 k31 v1 v2 v3 v4 r8.1 0 r13.2) else (tb_Mo_ring_160 N k6 k18 k31 v1 v2 v3 v4 r8.1 r13.2)) else (tb_Mo_ring_160 N k6 k18 k31 v1 v2 v3 v4 r8.1 r8.2)) else (tb_Mo_ring_166 N k6 k18 k31 v1 v2 v3 v4 r6.2)))
def tb_Mo_ring_88 (N : Nat) (k6 : Int32 → Int32 → MS → Option (Int32 × MS)) (k18 : Int32 → Int32 → Int32 → MS → Option (Int32 × MS)) (k31 : Int32 → Int32 → Int32 → Int32 → MS → Option (Int32 × MS)) (v1 : Int32) (v2 : Int32) (v3 : Int32) (v4 : Int32) (S : MS) : Option (Int32 × MS) :=
  tb_Mo_ring_89 N k6 k18 k31 v1 v2 v3 v4 0 S
def tb_Mo_ring_31 (N : Nat) (k6 : Int32 → Int32 → MS → Option (Int32 × MS)) (k18 : Int32 → Int32 → Int32 → MS → Option (Int32 × MS)) (k31 : Int32 → Int32 → Int32 → Int32 → MS → Option (Int32 × MS)) (v1 : Int32) (v2 : Int32) (v3 : Int32) (v4 : Int32) (S : MS) : Option (Int32 × MS) :=
  (some (ms_many S)).bind fun x1 => if x1 ≤ v4 then ((some (v3 + 1)).bind fun x2 => k18 v1 v2 x2 S) else ((ta 100 (ms_same S) ((10 * v2) + v3)).bind fun x4 => if x4 = 0 then ((ta 100 (ms_same S) ((10 * v2) + v4)).bind fun x6 => if x6 = 0 then ((ta 100 (ms_same S) ((10 * v3) + v4)).bind fun x8 => if x8 = 0 then (tb_Mo_ring_89 N k6 k18 k31 v1 v2 v3 v4 1 S) else (tb_Mo_ring_88 N k6 k18 k31 v1 v2 v3 v4 S)) else (tb_Mo_ring_88 N k6 k18 k31 v1 v2 v3 v4 S)) else (tb_Mo_ring_88 N k6 k18 k31 v1 v2 v3 v4 S))
def tl_Mo_ring_31 (N : Nat) (k6 : Int32 → Int32 → MS → Option (Int32 × MS)) (k18 : Int32 → Int32 → Int32 → MS → Option (Int32 × MS)) : Nat → Int32 → Int32 → Int32 → Int32 → MS → Option (Int32 × MS)
  | 0, _, _, _, _, _ => none
  | n + 1, v1, v2, v3, v4, S => tb_Mo_ring_31 N k6 k18 (tl_Mo_ring_31 N k6 k18 n) v1 v2 v3 v4 S
def tb_Mo_ring_18 (N : Nat) (k6 : Int32 → Int32 → MS → Option (Int32 × MS)) (k18 : Int32 → Int32 → Int32 → MS → Option (Int32 × MS)) (v1 : Int32) (v2 : Int32) (v3 : Int32) (S : MS) : Option (Int32 × MS) :=
  (some (ms_many S)).bind fun x1 => if x1 ≤ v3 then ((some (v2 + 1)).bind fun x2 => k6 v1 x2 S) else ((some (v3 + 1)).bind fun x3 => tl_Mo_ring_31 N k6 k18 N v1 v2 v3 x3 S)
def tl_Mo_ring_18 (N : Nat) (k6 : Int32 → Int32 → MS → Option (Int32 × MS)) : Nat → Int32 → Int32 → Int32 → MS → Option (Int32 × MS)
  | 0, _, _, _, _ => none
  | n + 1, v1, v2, v3, S => tb_Mo_ring_18 N k6 (tl_Mo_ring_18 N k6 n) v1 v2 v3 S
def tb_Mo_ring_6 (N : Nat) (k6 : Int32 → Int32 → MS → Option (Int32 × MS)) (v1 : Int32) (v2 : Int32) (S : MS) : Option (Int32 × MS) :=
  (some (ms_many S)).bind fun x1 => if x1 ≤ v2 then ((t_Mo_set N v1 S).bind fun r3 => some (r3, S)) else ((some (v2 + 1)).bind fun x4 => tl_Mo_ring_18 N k6 N v1 v2 x4 S)
def tl_Mo_ring_6 (N : Nat) : Nat → Int32 → Int32 → MS → Option (Int32 × MS)
  | 0, _, _, _ => none
  | n + 1, v1, v2, S => tb_Mo_ring_6 N (tl_Mo_ring_6 N n) v1 v2 S
def t_Mo_ring (N : Nat) (a1 : Int32) (S0 : MS) : Option (Int32 × MS) :=
  (t_Mo_clearSets N S0).bind fun r2 => tl_Mo_ring_6 N N a1 0 r2
set_option maxHeartbeats 4000000 in
theorem u_Mo_ring {K : Nat → ClassId} {N : Nat} {a1 : Int32} {h0 : fh_H} {S0 : MS} {res : Int32 × MS} {L : Nat → Nat → Nat} {hb : fh_H} (hL : ms_I L) (ht : t_Mo_ring N a1 S0 = some res) (hC : ms_W K L hb h0 S0) : RO (fun z => z.1 = res.1 ∧ ms_W K L hb z.2 res.2) (f_Mo_ring K N (L 0 0) a1 h0) := by
  have L6 : ∀ (n6 : Nat) (v1 : Int32) (v2 : Int32) (S : MS) (h : fh_H), ms_W K L hb h S → tl_Mo_ring_6 N n6 v1 v2 S = some res → RO (fun z => z.1 = res.1 ∧ ms_W K L hb z.2 res.2) (l_Mo_ring_6 K N (L 0 0) n6 v1 v2 h) := by
    intro n6
    induction n6 with
    | zero =>
      intro v1 v2 S h hC ht
      exact fh_no ht
    | succ n6 ih6 =>
      have L18 : ∀ (n18 : Nat) (v1 : Int32) (v2 : Int32) (v3 : Int32) (S : MS) (h : fh_H), ms_W K L hb h S → tl_Mo_ring_18 N (tl_Mo_ring_6 N n6) n18 v1 v2 v3 S = some res → RO (fun z => z.1 = res.1 ∧ ms_W K L hb z.2 res.2) (l_Mo_ring_18 K N (l_Mo_ring_6 K N (L 0 0) n6) (L 0 0) n18 v1 v2 v3 h) := by
        intro n18
        induction n18 with
        | zero =>
          intro v1 v2 v3 S h hC ht
          exact fh_no ht
        | succ n18 ih18 =>
          have L31 : ∀ (n31 : Nat) (v1 : Int32) (v2 : Int32) (v3 : Int32) (v4 : Int32) (S : MS) (h : fh_H), ms_W K L hb h S → tl_Mo_ring_31 N (tl_Mo_ring_6 N n6) (tl_Mo_ring_18 N (tl_Mo_ring_6 N n6) n18) n31 v1 v2 v3 v4 S = some res → RO (fun z => z.1 = res.1 ∧ ms_W K L hb z.2 res.2) (l_Mo_ring_31 K N (l_Mo_ring_6 K N (L 0 0) n6) (l_Mo_ring_18 K N (l_Mo_ring_6 K N (L 0 0) n6) (L 0 0) n18) (L 0 0) n31 v1 v2 v3 v4 h) := by
            intro n31
            induction n31 with
            | zero =>
              intro v1 v2 v3 v4 S h hC ht
              exact fh_no ht
            | succ n31 ih31 =>
              have B166 : ∀ (v1 : Int32) (v2 : Int32) (v3 : Int32) (v4 : Int32) (S : MS) (h : fh_H), ms_W K L hb h S → tb_Mo_ring_166 N (tl_Mo_ring_6 N n6) (tl_Mo_ring_18 N (tl_Mo_ring_6 N n6) n18) (tl_Mo_ring_31 N (tl_Mo_ring_6 N n6) (tl_Mo_ring_18 N (tl_Mo_ring_6 N n6) n18) n31) v1 v2 v3 v4 S = some res → RO (fun z => z.1 = res.1 ∧ ms_W K L hb z.2 res.2) (b_Mo_ring_166 K N (l_Mo_ring_6 K N (L 0 0) n6) (l_Mo_ring_18 K N (l_Mo_ring_6 K N (L 0 0) n6) (L 0 0) n18) (l_Mo_ring_31 K N (l_Mo_ring_6 K N (L 0 0) n6) (l_Mo_ring_18 K N (l_Mo_ring_6 K N (L 0 0) n6) (L 0 0) n18) (L 0 0) n31) (L 0 0) v1 v2 v3 v4 h) := by
                intro v1 v2 v3 v4 S h hC ht
                unfold tb_Mo_ring_166 at ht
                unfold b_Mo_ring_166
                obtain ⟨x1, e_x1, ht⟩ := fh_b ht
                refine ro_b e_x1 ?_
                exact ih31 v1 v2 v3 x1 S _ hC ht
              have B165 : ∀ (v1 : Int32) (v2 : Int32) (v3 : Int32) (v4 : Int32) (w1 : Int32) (w2 : Int32) (S : MS) (h : fh_H), ms_W K L hb h S → tb_Mo_ring_165 N (tl_Mo_ring_6 N n6) (tl_Mo_ring_18 N (tl_Mo_ring_6 N n6) n18) (tl_Mo_ring_31 N (tl_Mo_ring_6 N n6) (tl_Mo_ring_18 N (tl_Mo_ring_6 N n6) n18) n31) v1 v2 v3 v4 w1 w2 S = some res → RO (fun z => z.1 = res.1 ∧ ms_W K L hb z.2 res.2) (b_Mo_ring_165 K N (l_Mo_ring_6 K N (L 0 0) n6) (l_Mo_ring_18 K N (l_Mo_ring_6 K N (L 0 0) n6) (L 0 0) n18) (l_Mo_ring_31 K N (l_Mo_ring_6 K N (L 0 0) n6) (l_Mo_ring_18 K N (l_Mo_ring_6 K N (L 0 0) n6) (L 0 0) n18) (L 0 0) n31) (L 0 0) v1 v2 v3 v4 (some (L 9 0)) w1 w2 h) := by
                intro v1 v2 v3 v4 w1 w2 S h hC ht
                unfold tb_Mo_ring_165 at ht
                unfold b_Mo_ring_165
                obtain ⟨F1, e_F1, ht⟩ := fh_b ht
                obtain ⟨S1, e_S1, ht⟩ := fh_b ht
                refine ro_c (G1 := (fun z => ms_W K L hb z S1)) ⟨_, aw_z (hC.1 9 0 (by decide)) e_F1, by rw [← Option.some.inj e_S1]; exact ms_w_isSet hL hC ⟩ (fun h hC => ?_)
                exact B166 v1 v2 v3 v4 S1 _ hC ht
              have B160 : ∀ (v1 : Int32) (v2 : Int32) (v3 : Int32) (v4 : Int32) (w1 : Int32) (S : MS) (h : fh_H), ms_W K L hb h S → tb_Mo_ring_160 N (tl_Mo_ring_6 N n6) (tl_Mo_ring_18 N (tl_Mo_ring_6 N n6) n18) (tl_Mo_ring_31 N (tl_Mo_ring_6 N n6) (tl_Mo_ring_18 N (tl_Mo_ring_6 N n6) n18) n31) v1 v2 v3 v4 w1 S = some res → RO (fun z => z.1 = res.1 ∧ ms_W K L hb z.2 res.2) (b_Mo_ring_160 K N (l_Mo_ring_6 K N (L 0 0) n6) (l_Mo_ring_18 K N (l_Mo_ring_6 K N (L 0 0) n6) (L 0 0) n18) (l_Mo_ring_31 K N (l_Mo_ring_6 K N (L 0 0) n6) (l_Mo_ring_18 K N (l_Mo_ring_6 K N (L 0 0) n6) (L 0 0) n18) (L 0 0) n31) (L 0 0) v1 v2 v3 v4 (some (L 9 0)) w1 h) := by
                intro v1 v2 v3 v4 w1 S h hC ht
                unfold tb_Mo_ring_160 at ht
                unfold b_Mo_ring_160
                exact B165 v1 v2 v3 v4 w1 1 S _ hC ht
              have B89 : ∀ (v1 : Int32) (v2 : Int32) (v3 : Int32) (v4 : Int32) (w0 : Int32) (S : MS) (h : fh_H), ms_W K L hb h S → tb_Mo_ring_89 N (tl_Mo_ring_6 N n6) (tl_Mo_ring_18 N (tl_Mo_ring_6 N n6) n18) (tl_Mo_ring_31 N (tl_Mo_ring_6 N n6) (tl_Mo_ring_18 N (tl_Mo_ring_6 N n6) n18) n31) v1 v2 v3 v4 w0 S = some res → RO (fun z => z.1 = res.1 ∧ ms_W K L hb z.2 res.2) (b_Mo_ring_89 K N (l_Mo_ring_6 K N (L 0 0) n6) (l_Mo_ring_18 K N (l_Mo_ring_6 K N (L 0 0) n6) (L 0 0) n18) (l_Mo_ring_31 K N (l_Mo_ring_6 K N (L 0 0) n6) (l_Mo_ring_18 K N (l_Mo_ring_6 K N (L 0 0) n6) (L 0 0) n18) (L 0 0) n31) (L 0 0) v1 v2 v3 v4 w0 h) := by
                intro v1 v2 v3 v4 w0 S h hC ht
                unfold tb_Mo_ring_89 at ht
                unfold b_Mo_ring_89
                refine ro_b (oi_o (hC.1 0 0 (by decide))) ?_
                obtain ⟨r2, e_r2, ht⟩ := fh_b ht
                refine ro_c (u_Mo_setRow hL e_r2 hC) (fun h hC => ?_)
                by_cases c5 : w0 = 0
                · replace ht := fh_t c5 ht
                  refine ro_t c5 ?_
                  exact B166 v1 v2 v3 v4 r2 _ hC ht
                · replace ht := fh_f c5 ht
                  refine ro_f c5 ?_
                  refine ro_b (oi_o (hC.1 0 0 (by decide))) ?_
                  obtain ⟨r4, e_r4, ht⟩ := fh_b ht
                  refine ro_c (u_Mo_standing hL e_r4 hC) (fun z hz => ?_)
                  subst hz
                  by_cases c4 : r4 ≤ 0
                  · replace ht := fh_t c4 ht
                    refine ro_t c4 ?_
                    exact B166 v1 v2 v3 v4 r2 _ hC ht
                  · replace ht := fh_f c4 ht
                    refine ro_f c4 ?_
                    refine ro_b (oi_o (hC.1 0 0 (by decide))) ?_
                    obtain ⟨r6, e_r6, ht⟩ := fh_b ht
                    refine ro_c (u_Mo_isAlways hL e_r6 hC) (fun z hz => ?_)
                    obtain ⟨z1, h⟩ := z
                    obtain ⟨ez, hC⟩ := hz
                    dsimp only at ez hC
                    subst ez
                    by_cases c3 : r6.1 = 0
                    · replace ht := fh_t c3 ht
                      refine ro_t c3 ?_
                      refine ro_b (oi_o (hC.1 0 0 (by decide))) ?_
                      obtain ⟨r8, e_r8, ht⟩ := fh_b ht
                      refine ro_c (u_Mo_ringThrough hL e_r8 hC) (fun z hz => ?_)
                      obtain ⟨z1, h⟩ := z
                      obtain ⟨ez, hC⟩ := hz
                      dsimp only at ez hC
                      subst ez
                      refine ro_b (oi_a (hC.1 0 0 (by decide)) rfl) ?_
                      refine ro_b (oi_a (hC.1 0 0 (by decide)) rfl) ?_
                      obtain ⟨x11, e_x11, ht⟩ := fh_b ht
                      refine ro_b ((ai_i (hC.1 9 0 (by decide))).trans e_x11) ?_
                      by_cases c2 : x11 = 0
                      · replace ht := fh_t c2 ht
                        refine ro_t c2 ?_
                        refine ro_b (oi_o (hC.1 0 0 (by decide))) ?_
                        obtain ⟨r13, e_r13, ht⟩ := fh_b ht
                        refine ro_c (u_Mo_places hL e_r13 hC) (fun z hz => ?_)
                        obtain ⟨z1, h⟩ := z
                        obtain ⟨ez, hC⟩ := hz
                        dsimp only at ez hC
                        subst ez
                        by_cases c1 : r13.1 ≤ 3
                        · replace ht := fh_t c1 ht
                          refine ro_t c1 ?_
                          exact B165 v1 v2 v3 v4 r8.1 0 r13.2 _ hC ht
                        · replace ht := fh_f c1 ht
                          refine ro_f c1 ?_
                          exact B160 v1 v2 v3 v4 r8.1 r13.2 _ hC ht
                      · replace ht := fh_f c2 ht
                        refine ro_f c2 ?_
                        exact B160 v1 v2 v3 v4 r8.1 r8.2 _ hC ht
                    · replace ht := fh_f c3 ht
                      refine ro_f c3 ?_
                      exact B166 v1 v2 v3 v4 r6.2 _ hC ht
              have B88 : ∀ (v1 : Int32) (v2 : Int32) (v3 : Int32) (v4 : Int32) (S : MS) (h : fh_H), ms_W K L hb h S → tb_Mo_ring_88 N (tl_Mo_ring_6 N n6) (tl_Mo_ring_18 N (tl_Mo_ring_6 N n6) n18) (tl_Mo_ring_31 N (tl_Mo_ring_6 N n6) (tl_Mo_ring_18 N (tl_Mo_ring_6 N n6) n18) n31) v1 v2 v3 v4 S = some res → RO (fun z => z.1 = res.1 ∧ ms_W K L hb z.2 res.2) (b_Mo_ring_88 K N (l_Mo_ring_6 K N (L 0 0) n6) (l_Mo_ring_18 K N (l_Mo_ring_6 K N (L 0 0) n6) (L 0 0) n18) (l_Mo_ring_31 K N (l_Mo_ring_6 K N (L 0 0) n6) (l_Mo_ring_18 K N (l_Mo_ring_6 K N (L 0 0) n6) (L 0 0) n18) (L 0 0) n31) (L 0 0) v1 v2 v3 v4 h) := by
                intro v1 v2 v3 v4 S h hC ht
                unfold tb_Mo_ring_88 at ht
                unfold b_Mo_ring_88
                exact B89 v1 v2 v3 v4 0 S _ hC ht
              intro v1 v2 v3 v4 S h hC ht
              have ht : tb_Mo_ring_31 N (tl_Mo_ring_6 N n6) (tl_Mo_ring_18 N (tl_Mo_ring_6 N n6) n18) (tl_Mo_ring_31 N (tl_Mo_ring_6 N n6) (tl_Mo_ring_18 N (tl_Mo_ring_6 N n6) n18) n31) v1 v2 v3 v4 S = some res := ht
              show RO _ (b_Mo_ring_31 K N (l_Mo_ring_6 K N (L 0 0) n6) (l_Mo_ring_18 K N (l_Mo_ring_6 K N (L 0 0) n6) (L 0 0) n18) (l_Mo_ring_31 K N (l_Mo_ring_6 K N (L 0 0) n6) (l_Mo_ring_18 K N (l_Mo_ring_6 K N (L 0 0) n6) (L 0 0) n18) (L 0 0) n31) (L 0 0) v1 v2 v3 v4 h)
              unfold tb_Mo_ring_31 at ht
              unfold b_Mo_ring_31
              obtain ⟨x1, e_x1, ht⟩ := fh_b ht
              refine ro_b ((oi_i (hC.1 0 0 (by decide)) rfl).trans e_x1) ?_
              by_cases c4 : x1 ≤ v4
              · replace ht := fh_t c4 ht
                refine ro_t c4 ?_
                obtain ⟨x2, e_x2, ht⟩ := fh_b ht
                refine ro_b e_x2 ?_
                exact ih18 v1 v2 x2 S _ hC ht
              · replace ht := fh_f c4 ht
                refine ro_f c4 ?_
                refine ro_b (oi_a (hC.1 0 0 (by decide)) rfl) ?_
                obtain ⟨x4, e_x4, ht⟩ := fh_b ht
                refine ro_b ((ai_i (hC.1 7 0 (by decide))).trans e_x4) ?_
                by_cases c3 : x4 = 0
                · replace ht := fh_t c3 ht
                  refine ro_t c3 ?_
                  refine ro_b (oi_a (hC.1 0 0 (by decide)) rfl) ?_
                  obtain ⟨x6, e_x6, ht⟩ := fh_b ht
                  refine ro_b ((ai_i (hC.1 7 0 (by decide))).trans e_x6) ?_
                  by_cases c2 : x6 = 0
                  · replace ht := fh_t c2 ht
                    refine ro_t c2 ?_
                    refine ro_b (oi_a (hC.1 0 0 (by decide)) rfl) ?_
                    obtain ⟨x8, e_x8, ht⟩ := fh_b ht
                    refine ro_b ((ai_i (hC.1 7 0 (by decide))).trans e_x8) ?_
                    by_cases c1 : x8 = 0
                    · replace ht := fh_t c1 ht
                      refine ro_t c1 ?_
                      exact B89 v1 v2 v3 v4 1 S _ hC ht
                    · replace ht := fh_f c1 ht
                      refine ro_f c1 ?_
                      exact B88 v1 v2 v3 v4 S _ hC ht
                  · replace ht := fh_f c2 ht
                    refine ro_f c2 ?_
                    exact B88 v1 v2 v3 v4 S _ hC ht
                · replace ht := fh_f c3 ht
                  refine ro_f c3 ?_
                  exact B88 v1 v2 v3 v4 S _ hC ht
          intro v1 v2 v3 S h hC ht
          have ht : tb_Mo_ring_18 N (tl_Mo_ring_6 N n6) (tl_Mo_ring_18 N (tl_Mo_ring_6 N n6) n18) v1 v2 v3 S = some res := ht
          show RO _ (b_Mo_ring_18 K N (l_Mo_ring_6 K N (L 0 0) n6) (l_Mo_ring_18 K N (l_Mo_ring_6 K N (L 0 0) n6) (L 0 0) n18) (L 0 0) v1 v2 v3 h)
          unfold tb_Mo_ring_18 at ht
          unfold b_Mo_ring_18
          obtain ⟨x1, e_x1, ht⟩ := fh_b ht
          refine ro_b ((oi_i (hC.1 0 0 (by decide)) rfl).trans e_x1) ?_
          by_cases c1 : x1 ≤ v3
          · replace ht := fh_t c1 ht
            refine ro_t c1 ?_
            obtain ⟨x2, e_x2, ht⟩ := fh_b ht
            refine ro_b e_x2 ?_
            exact ih6 v1 x2 S _ hC ht
          · replace ht := fh_f c1 ht
            refine ro_f c1 ?_
            obtain ⟨x3, e_x3, ht⟩ := fh_b ht
            refine ro_b e_x3 ?_
            exact L31 N v1 v2 v3 x3 S _ hC ht
      intro v1 v2 S h hC ht
      have ht : tb_Mo_ring_6 N (tl_Mo_ring_6 N n6) v1 v2 S = some res := ht
      show RO _ (b_Mo_ring_6 K N (l_Mo_ring_6 K N (L 0 0) n6) (L 0 0) v1 v2 h)
      unfold tb_Mo_ring_6 at ht
      unfold b_Mo_ring_6
      obtain ⟨x1, e_x1, ht⟩ := fh_b ht
      refine ro_b ((oi_i (hC.1 0 0 (by decide)) rfl).trans e_x1) ?_
      by_cases c1 : x1 ≤ v2
      · replace ht := fh_t c1 ht
        refine ro_t c1 ?_
        refine ro_b (oi_o (hC.1 0 0 (by decide))) ?_
        obtain ⟨r3, e_r3, ht⟩ := fh_b ht
        refine ro_c (u_Mo_set hL e_r3 hC) (fun z hz => ?_)
        subst hz
        obtain rfl := Option.some.inj ht
        exact ro_s ⟨rfl, hC⟩
      · replace ht := fh_f c1 ht
        refine ro_f c1 ?_
        obtain ⟨x4, e_x4, ht⟩ := fh_b ht
        refine ro_b e_x4 ?_
        exact L18 N v1 v2 x4 S _ hC ht
  unfold t_Mo_ring at ht
  unfold f_Mo_ring
  refine ro_b (oi_o (hC.1 0 0 (by decide))) ?_
  obtain ⟨r2, e_r2, ht⟩ := fh_b ht
  refine ro_c (u_Mo_clearSets hL e_r2 hC) (fun h hC => ?_)
  exact L6 N a1 0 r2 _ hC ht
