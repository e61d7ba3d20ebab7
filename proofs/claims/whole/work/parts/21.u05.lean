def t_Mo_setRow (N : Nat) (a1 : Int32) (a2 : Int32) (a3 : Int32) (a4 : Int32) (a5 : Int32) (a6 : Int32) (S0 : MS) : Option (MS) :=
  (twi 6 (ms_row S0) 0 a1).bind fun F2 => (some (ms_set_row S0 F2)).bind fun S2 => (twi 6 (ms_row S2) 1 a2).bind fun F4 => (some (ms_set_row S2 F4)).bind fun S4 => (twi 6 (ms_row S4) 2 a3).bind fun F6 => (some (ms_set_row S4 F6)).bind fun S6 => (twi 6 (ms_row S6) 3 a4).bind fun F8 => (some (ms_set_row S6 F8)).bind fun S8 => (twi 6 (ms_row S8) 4 a5).bind fun F10 => (some (ms_set_row S8 F10)).bind fun S10 => (twi 6 (ms_row S10) 5 a6).bind fun F12 => (some (ms_set_row S10 F12)).bind fun S12 => some S12
set_option maxHeartbeats 4000000 in
theorem u_Mo_setRow {K : Nat → ClassId} {N : Nat} {a1 : Int32} {a2 : Int32} {a3 : Int32} {a4 : Int32} {a5 : Int32} {a6 : Int32} {h0 : fh_H} {S0 : MS} {res : MS} {L : Nat → Nat → Nat} {hb : fh_H} (hL : ms_I L) (ht : t_Mo_setRow N a1 a2 a3 a4 a5 a6 S0 = some res) (hC : ms_W K L hb h0 S0) : RO (fun z => ms_W K L hb z res) (f_Mo_setRow K N (L 0 0) a1 a2 a3 a4 a5 a6 h0) := by
  unfold t_Mo_setRow at ht
  unfold f_Mo_setRow
  refine ro_b (oi_a (hC.1 0 0 (by decide)) rfl) ?_
  obtain ⟨F2, e_F2, ht⟩ := fh_b ht
  obtain ⟨S2, e_S2, ht⟩ := fh_b ht
  refine ro_c (G1 := (fun z => ms_W K L hb z S2)) ⟨_, aw_i (hC.1 6 0 (by decide)) e_F2, by rw [← Option.some.inj e_S2]; exact ms_w_row hL hC ⟩ (fun h hC => ?_)
  refine ro_b (oi_a (hC.1 0 0 (by decide)) rfl) ?_
  obtain ⟨F4, e_F4, ht⟩ := fh_b ht
  obtain ⟨S4, e_S4, ht⟩ := fh_b ht
  refine ro_c (G1 := (fun z => ms_W K L hb z S4)) ⟨_, aw_i (hC.1 6 0 (by decide)) e_F4, by rw [← Option.some.inj e_S4]; exact ms_w_row hL hC ⟩ (fun h hC => ?_)
  refine ro_b (oi_a (hC.1 0 0 (by decide)) rfl) ?_
  obtain ⟨F6, e_F6, ht⟩ := fh_b ht
  obtain ⟨S6, e_S6, ht⟩ := fh_b ht
  refine ro_c (G1 := (fun z => ms_W K L hb z S6)) ⟨_, aw_i (hC.1 6 0 (by decide)) e_F6, by rw [← Option.some.inj e_S6]; exact ms_w_row hL hC ⟩ (fun h hC => ?_)
  refine ro_b (oi_a (hC.1 0 0 (by decide)) rfl) ?_
  obtain ⟨F8, e_F8, ht⟩ := fh_b ht
  obtain ⟨S8, e_S8, ht⟩ := fh_b ht
  refine ro_c (G1 := (fun z => ms_W K L hb z S8)) ⟨_, aw_i (hC.1 6 0 (by decide)) e_F8, by rw [← Option.some.inj e_S8]; exact ms_w_row hL hC ⟩ (fun h hC => ?_)
  refine ro_b (oi_a (hC.1 0 0 (by decide)) rfl) ?_
  obtain ⟨F10, e_F10, ht⟩ := fh_b ht
  obtain ⟨S10, e_S10, ht⟩ := fh_b ht
  refine ro_c (G1 := (fun z => ms_W K L hb z S10)) ⟨_, aw_i (hC.1 6 0 (by decide)) e_F10, by rw [← Option.some.inj e_S10]; exact ms_w_row hL hC ⟩ (fun h hC => ?_)
  refine ro_b (oi_a (hC.1 0 0 (by decide)) rfl) ?_
  obtain ⟨F12, e_F12, ht⟩ := fh_b ht
  obtain ⟨S12, e_S12, ht⟩ := fh_b ht
  refine ro_c (G1 := (fun z => ms_W K L hb z S12)) ⟨_, aw_i (hC.1 6 0 (by decide)) e_F12, by rw [← Option.some.inj e_S12]; exact ms_w_row hL hC ⟩ (fun h hC => ?_)
  obtain rfl := Option.some.inj ht
  exact ro_s hC
def t_Mo_length (N : Nat) (a1 : Int32) (a2 : Int32) (S0 : MS) : Option (Int64) :=
  (t_Mo_dot N a1 a2 a1 a2 S0).bind fun r2 => some r2
set_option maxHeartbeats 4000000 in
theorem u_Mo_length {K : Nat → ClassId} {N : Nat} {a1 : Int32} {a2 : Int32} {h0 : fh_H} {S0 : MS} {res : Int64} {L : Nat → Nat → Nat} {hb : fh_H} (hL : ms_I L) (ht : t_Mo_length N a1 a2 S0 = some res) (hC : ms_W K L hb h0 S0) : RO (fun z => (res, h0) = z) (f_Mo_length K N (L 0 0) a1 a2 h0) := by
  unfold t_Mo_length at ht
  unfold f_Mo_length
  refine ro_b (oi_o (hC.1 0 0 (by decide))) ?_
  obtain ⟨r2, e_r2, ht⟩ := fh_b ht
  refine ro_c (u_Mo_dot hL e_r2 hC) (fun z hz => ?_)
  subst hz
  obtain rfl := Option.some.inj ht
  exact ro_s rfl
def t_Mo_square (N : Nat) (a0 : Int64) : Option (Int64) :=
  some (fr_l (a0 * a0) 1000003)
set_option maxHeartbeats 4000000 in
theorem u_Mo_square {K : Nat → ClassId} {N : Nat} {a0 : Int64} {h0 : fh_H} {res : Int64} (ht : t_Mo_square N a0 = some res) : RO (fun z => (res, h0) = z) (f_Mo_square K N a0 h0) := by
  unfold t_Mo_square at ht
  unfold f_Mo_square
  obtain rfl := Option.some.inj ht
  exact ro_s rfl
def t_Mo_lift (N : Nat) (a1 : Int32) (a2 : Int32) (S0 : MS) : Option (Int64) :=
  (t_Mo_px N a1 S0).bind fun r2 => (t_Mo_square N r2).bind fun r3 => (t_Mo_py N a1 S0).bind fun r5 => (t_Mo_square N r5).bind fun r6 => (t_Mo_px N a2 S0).bind fun r8 => (t_Mo_square N r8).bind fun r9 => (t_Mo_py N a2 S0).bind fun r11 => (t_Mo_square N r11).bind fun r12 => (t_Mo_mod N (((r3 + r6) - r9) - r12)).bind fun r13 => some r13
set_option maxHeartbeats 4000000 in
theorem u_Mo_lift {K : Nat → ClassId} {N : Nat} {a1 : Int32} {a2 : Int32} {h0 : fh_H} {S0 : MS} {res : Int64} {L : Nat → Nat → Nat} {hb : fh_H} (hL : ms_I L) (ht : t_Mo_lift N a1 a2 S0 = some res) (hC : ms_W K L hb h0 S0) : RO (fun z => (res, h0) = z) (f_Mo_lift K N (L 0 0) a1 a2 h0) := by
  unfold t_Mo_lift at ht
  unfold f_Mo_lift
  refine ro_b (oi_o (hC.1 0 0 (by decide))) ?_
  obtain ⟨r2, e_r2, ht⟩ := fh_b ht
  refine ro_c (u_Mo_px hL e_r2 hC) (fun z hz => ?_)
  subst hz
  obtain ⟨r3, e_r3, ht⟩ := fh_b ht
  refine ro_c (u_Mo_square e_r3) (fun z hz => ?_)
  subst hz
  refine ro_b (oi_o (hC.1 0 0 (by decide))) ?_
  obtain ⟨r5, e_r5, ht⟩ := fh_b ht
  refine ro_c (u_Mo_py hL e_r5 hC) (fun z hz => ?_)
  subst hz
  obtain ⟨r6, e_r6, ht⟩ := fh_b ht
  refine ro_c (u_Mo_square e_r6) (fun z hz => ?_)
  subst hz
  refine ro_b (oi_o (hC.1 0 0 (by decide))) ?_
  obtain ⟨r8, e_r8, ht⟩ := fh_b ht
  refine ro_c (u_Mo_px hL e_r8 hC) (fun z hz => ?_)
  subst hz
  obtain ⟨r9, e_r9, ht⟩ := fh_b ht
  refine ro_c (u_Mo_square e_r9) (fun z hz => ?_)
  subst hz
  refine ro_b (oi_o (hC.1 0 0 (by decide))) ?_
  obtain ⟨r11, e_r11, ht⟩ := fh_b ht
  refine ro_c (u_Mo_py hL e_r11 hC) (fun z hz => ?_)
  subst hz
  obtain ⟨r12, e_r12, ht⟩ := fh_b ht
  refine ro_c (u_Mo_square e_r12) (fun z hz => ?_)
  subst hz
  obtain ⟨r13, e_r13, ht⟩ := fh_b ht
  refine ro_c (u_Mo_mod e_r13) (fun z hz => ?_)
  subst hz
  obtain rfl := Option.some.inj ht
  exact ro_s rfl
def t_Mo_ringOf (N : Nat) (a1 : Int32) (a2 : Int32) (a3 : Int32) (a4 : Int32) (S0 : MS) : Option (Int64) :=
  (t_Mo_lift N a1 a4 S0).bind fun r2 => (t_Mo_lift N a2 a4 S0).bind fun r4 => (t_Mo_lift N a3 a4 S0).bind fun r6 => (t_Mo_cross N a4 a2 a4 a3 S0).bind fun r8 => (t_Mo_cross N a4 a1 a4 a3 S0).bind fun r10 => (t_Mo_cross N a4 a1 a4 a2 S0).bind fun r12 => (some (((r2 * r8) - (fr_l (r4 * r10) 1000003)) + (r6 * r12))).bind fun x13 => (t_Mo_mod N x13).bind fun r14 => some r14
set_option maxHeartbeats 4000000 in
theorem u_Mo_ringOf {K : Nat → ClassId} {N : Nat} {a1 : Int32} {a2 : Int32} {a3 : Int32} {a4 : Int32} {h0 : fh_H} {S0 : MS} {res : Int64} {L : Nat → Nat → Nat} {hb : fh_H} (hL : ms_I L) (ht : t_Mo_ringOf N a1 a2 a3 a4 S0 = some res) (hC : ms_W K L hb h0 S0) : RO (fun z => (res, h0) = z) (f_Mo_ringOf K N (L 0 0) a1 a2 a3 a4 h0) := by
  unfold t_Mo_ringOf at ht
  unfold f_Mo_ringOf
  refine ro_b (oi_o (hC.1 0 0 (by decide))) ?_
  obtain ⟨r2, e_r2, ht⟩ := fh_b ht
  refine ro_c (u_Mo_lift hL e_r2 hC) (fun z hz => ?_)
  subst hz
  refine ro_b (oi_o (hC.1 0 0 (by decide))) ?_
  obtain ⟨r4, e_r4, ht⟩ := fh_b ht
  refine ro_c (u_Mo_lift hL e_r4 hC) (fun z hz => ?_)
  subst hz
  refine ro_b (oi_o (hC.1 0 0 (by decide))) ?_
  obtain ⟨r6, e_r6, ht⟩ := fh_b ht
  refine ro_c (u_Mo_lift hL e_r6 hC) (fun z hz => ?_)
  subst hz
  refine ro_b (oi_o (hC.1 0 0 (by decide))) ?_
  obtain ⟨r8, e_r8, ht⟩ := fh_b ht
  refine ro_c (u_Mo_cross hL e_r8 hC) (fun z hz => ?_)
  subst hz
  refine ro_b (oi_o (hC.1 0 0 (by decide))) ?_
  obtain ⟨r10, e_r10, ht⟩ := fh_b ht
  refine ro_c (u_Mo_cross hL e_r10 hC) (fun z hz => ?_)
  subst hz
  refine ro_b (oi_o (hC.1 0 0 (by decide))) ?_
  obtain ⟨r12, e_r12, ht⟩ := fh_b ht
  refine ro_c (u_Mo_cross hL e_r12 hC) (fun z hz => ?_)
  subst hz
  obtain ⟨x13, e_x13, ht⟩ := fh_b ht
  refine ro_b e_x13 ?_
  obtain ⟨r14, e_r14, ht⟩ := fh_b ht
  refine ro_c (u_Mo_mod e_r14) (fun z hz => ?_)
  subst hz
  obtain rfl := Option.some.inj ht
  exact ro_s rfl
def t_Mo_isSo (N : Nat) (a1 : Int32) (a2 : Int32) (a3 : Int32) (S0 : MS) : Option (Int32) :=
  (ta 6 (ms_row S0) 0).bind fun x2 => (ta 6 (ms_row S0) 1).bind fun x4 => (ta 6 (ms_row S0) 2).bind fun x6 => (ta 6 (ms_row S0) 3).bind fun x8 => if a1 = 0 then ((t_Mo_px N x2 S0).bind fun r15 => (t_Mo_px N x4 S0).bind fun r17 => if (lg_cmp r15 r17) = 0 then ((t_Mo_py N x2 S0).bind fun r19 => (t_Mo_py N x4 S0).bind fun r21 => if (lg_cmp r19 r21) = 0 then (some 1) else (some 0)) else (some 0)) else (if a1 = 1 then ((t_Mo_cross N x2 x4 x2 x6 S0).bind fun r23 => if (lg_cmp r23 0) = 0 then (some 1) else (some 0)) else (if a1 = 2 then ((t_Mo_cross N x2 x4 x6 x8 S0).bind fun r25 => if (lg_cmp r25 0) = 0 then (some 1) else (some 0)) else (if a1 = 3 then ((t_Mo_dot N x2 x4 x6 x8 S0).bind fun r27 => if (lg_cmp r27 0) = 0 then (some 1) else (some 0)) else (if a1 = 4 then ((t_Mo_length N x2 x4 S0).bind fun r29 => (t_Mo_length N x6 x8 S0).bind fun r31 => if (lg_cmp r29 r31) = 0 then (some 1) else (some 0)) else (if a1 = 5 then ((t_Mo_ringOf N x2 x4 x6 x8 S0).bind fun r33 => if (lg_cmp r33 0) = 0 then (some 1) else (some 0)) else (if a1 = 6 then ((t_Mo_px N x2 S0).bind fun r35 => (t_Mo_px N x4 S0).bind fun r37 => (t_Mo_px N x6 S0).bind fun r39 => (t_Mo_mod N (((2 * r35) - r37) - r39)).bind fun r40 => if (lg_cmp r40 0) = 0 then ((t_Mo_py N x2 S0).bind fun r42 => (t_Mo_py N x4 S0).bind fun r44 => (t_Mo_py N x6 S0).bind fun r46 => (t_Mo_mod N (((2 * r42) - r44) - r46)).bind fun r47 => if (lg_cmp r47 0) = 0 then (some 1) else (some 0)) else (some 0)) else (if a1 = 7 then ((t_Mo_cross N x2 x4 x2 x6 S0).bind fun r49 => (t_Mo_square N r49).bind fun r50 => (ta 6 (ms_row S0) 4).bind fun x52 => (ta 6 (ms_row S0) 5).bind fun x54 => (t_Mo_cross N x8 x52 x8 x54 S0).bind fun r56 => (t_Mo_square N r56).bind fun r57 => if (lg_cmp r50 r57) = 0 then (some 1) else (some 0)) else ((t_Mo_length N x2 x4 S0).bind fun r10 => (t_Mo_length N x6 x8 S0).bind fun r12 => (t_Mo_mod N ((a2.toInt64 * r10) - (a3.toInt64 * r12))).bind fun r13 => if (lg_cmp r13 0) = 0 then (some 1) else (some 0)))))))))
set_option maxHeartbeats 4000000 in
theorem u_Mo_isSo {K : Nat → ClassId} {N : Nat} {a1 : Int32} {a2 : Int32} {a3 : Int32} {h0 : fh_H} {S0 : MS} {res : Int32} {L : Nat → Nat → Nat} {hb : fh_H} (hL : ms_I L) (ht : t_Mo_isSo N a1 a2 a3 S0 = some res) (hC : ms_W K L hb h0 S0) : RO (fun z => (res, h0) = z) (f_Mo_isSo K N (L 0 0) a1 a2 a3 h0) := by
  unfold t_Mo_isSo at ht
  unfold f_Mo_isSo
  refine ro_b (oi_a (hC.1 0 0 (by decide)) rfl) ?_
  obtain ⟨x2, e_x2, ht⟩ := fh_b ht
  refine ro_b ((ai_i (hC.1 6 0 (by decide))).trans e_x2) ?_
  refine ro_b (oi_a (hC.1 0 0 (by decide)) rfl) ?_
  obtain ⟨x4, e_x4, ht⟩ := fh_b ht
  refine ro_b ((ai_i (hC.1 6 0 (by decide))).trans e_x4) ?_
  refine ro_b (oi_a (hC.1 0 0 (by decide)) rfl) ?_
  obtain ⟨x6, e_x6, ht⟩ := fh_b ht
  refine ro_b ((ai_i (hC.1 6 0 (by decide))).trans e_x6) ?_
  refine ro_b (oi_a (hC.1 0 0 (by decide)) rfl) ?_
  obtain ⟨x8, e_x8, ht⟩ := fh_b ht
  refine ro_b ((ai_i (hC.1 6 0 (by decide))).trans e_x8) ?_
  by_cases c19 : a1 = 0
  · replace ht := fh_t c19 ht
    refine ro_t c19 ?_
    refine ro_b (oi_o (hC.1 0 0 (by decide))) ?_
    obtain ⟨r15, e_r15, ht⟩ := fh_b ht
    refine ro_c (u_Mo_px hL e_r15 hC) (fun z hz => ?_)
    subst hz
    refine ro_b (oi_o (hC.1 0 0 (by decide))) ?_
    obtain ⟨r17, e_r17, ht⟩ := fh_b ht
    refine ro_c (u_Mo_px hL e_r17 hC) (fun z hz => ?_)
    subst hz
    by_cases c2 : (lg_cmp r15 r17) = 0
    · replace ht := fh_t c2 ht
      refine ro_t c2 ?_
      refine ro_b (oi_o (hC.1 0 0 (by decide))) ?_
      obtain ⟨r19, e_r19, ht⟩ := fh_b ht
      refine ro_c (u_Mo_py hL e_r19 hC) (fun z hz => ?_)
      subst hz
      refine ro_b (oi_o (hC.1 0 0 (by decide))) ?_
      obtain ⟨r21, e_r21, ht⟩ := fh_b ht
      refine ro_c (u_Mo_py hL e_r21 hC) (fun z hz => ?_)
      subst hz
      by_cases c1 : (lg_cmp r19 r21) = 0
      · replace ht := fh_t c1 ht
        refine ro_t c1 ?_
        obtain rfl := Option.some.inj ht
        exact ro_s rfl
      · replace ht := fh_f c1 ht
        refine ro_f c1 ?_
        obtain rfl := Option.some.inj ht
        exact ro_s rfl
    · replace ht := fh_f c2 ht
      refine ro_f c2 ?_
      obtain rfl := Option.some.inj ht
      exact ro_s rfl
  · replace ht := fh_f c19 ht
    refine ro_f c19 ?_
    by_cases c18 : a1 = 1
    · replace ht := fh_t c18 ht
      refine ro_t c18 ?_
      refine ro_b (oi_o (hC.1 0 0 (by decide))) ?_
      obtain ⟨r23, e_r23, ht⟩ := fh_b ht
      refine ro_c (u_Mo_cross hL e_r23 hC) (fun z hz => ?_)
      subst hz
      by_cases c3 : (lg_cmp r23 0) = 0
      · replace ht := fh_t c3 ht
        refine ro_t c3 ?_
        obtain rfl := Option.some.inj ht
        exact ro_s rfl
      · replace ht := fh_f c3 ht
        refine ro_f c3 ?_
        obtain rfl := Option.some.inj ht
        exact ro_s rfl
    · replace ht := fh_f c18 ht
      refine ro_f c18 ?_
      by_cases c17 : a1 = 2
      · replace ht := fh_t c17 ht
        refine ro_t c17 ?_
        refine ro_b (oi_o (hC.1 0 0 (by decide))) ?_
        obtain ⟨r25, e_r25, ht⟩ := fh_b ht
        refine ro_c (u_Mo_cross hL e_r25 hC) (fun z hz => ?_)
        subst hz
        by_cases c4 : (lg_cmp r25 0) = 0
        · replace ht := fh_t c4 ht
          refine ro_t c4 ?_
          obtain rfl := Option.some.inj ht
          exact ro_s rfl
        · replace ht := fh_f c4 ht
          refine ro_f c4 ?_
          obtain rfl := Option.some.inj ht
          exact ro_s rfl
      · replace ht := fh_f c17 ht
        refine ro_f c17 ?_
        by_cases c16 : a1 = 3
        · replace ht := fh_t c16 ht
          refine ro_t c16 ?_
          refine ro_b (oi_o (hC.1 0 0 (by decide))) ?_
          obtain ⟨r27, e_r27, ht⟩ := fh_b ht
          refine ro_c (u_Mo_dot hL e_r27 hC) (fun z hz => ?_)
          subst hz
          by_cases c5 : (lg_cmp r27 0) = 0
          · replace ht := fh_t c5 ht
            refine ro_t c5 ?_
            obtain rfl := Option.some.inj ht
            exact ro_s rfl
          · replace ht := fh_f c5 ht
            refine ro_f c5 ?_
            obtain rfl := Option.some.inj ht
            exact ro_s rfl
        · replace ht := fh_f c16 ht
          refine ro_f c16 ?_
          by_cases c15 : a1 = 4
          · replace ht := fh_t c15 ht
            refine ro_t c15 ?_
            refine ro_b (oi_o (hC.1 0 0 (by decide))) ?_
            obtain ⟨r29, e_r29, ht⟩ := fh_b ht
            refine ro_c (u_Mo_length hL e_r29 hC) (fun z hz => ?_)
            subst hz
            refine ro_b (oi_o (hC.1 0 0 (by decide))) ?_
            obtain ⟨r31, e_r31, ht⟩ := fh_b ht
            refine ro_c (u_Mo_length hL e_r31 hC) (fun z hz => ?_)
            subst hz
            by_cases c6 : (lg_cmp r29 r31) = 0
            · replace ht := fh_t c6 ht
              refine ro_t c6 ?_
              obtain rfl := Option.some.inj ht
              exact ro_s rfl
            · replace ht := fh_f c6 ht
              refine ro_f c6 ?_
              obtain rfl := Option.some.inj ht
              exact ro_s rfl
          · replace ht := fh_f c15 ht
            refine ro_f c15 ?_
            by_cases c14 : a1 = 5
            · replace ht := fh_t c14 ht
              refine ro_t c14 ?_
              refine ro_b (oi_o (hC.1 0 0 (by decide))) ?_
              obtain ⟨r33, e_r33, ht⟩ := fh_b ht
              refine ro_c (u_Mo_ringOf hL e_r33 hC) (fun z hz => ?_)
              subst hz
              by_cases c7 : (lg_cmp r33 0) = 0
              · replace ht := fh_t c7 ht
                refine ro_t c7 ?_
                obtain rfl := Option.some.inj ht
                exact ro_s rfl
              · replace ht := fh_f c7 ht
                refine ro_f c7 ?_
                obtain rfl := Option.some.inj ht
                exact ro_s rfl
            · replace ht := fh_f c14 ht
              refine ro_f c14 ?_
              by_cases c13 : a1 = 6
              · replace ht := fh_t c13 ht
                refine ro_t c13 ?_
                refine ro_b (oi_o (hC.1 0 0 (by decide))) ?_
                obtain ⟨r35, e_r35, ht⟩ := fh_b ht
                refine ro_c (u_Mo_px hL e_r35 hC) (fun z hz => ?_)
                subst hz
                refine ro_b (oi_o (hC.1 0 0 (by decide))) ?_
                obtain ⟨r37, e_r37, ht⟩ := fh_b ht
                refine ro_c (u_Mo_px hL e_r37 hC) (fun z hz => ?_)
                subst hz
                refine ro_b (oi_o (hC.1 0 0 (by decide))) ?_
                obtain ⟨r39, e_r39, ht⟩ := fh_b ht
                refine ro_c (u_Mo_px hL e_r39 hC) (fun z hz => ?_)
                subst hz
                obtain ⟨r40, e_r40, ht⟩ := fh_b ht
                refine ro_c (u_Mo_mod e_r40) (fun z hz => ?_)
                subst hz
                by_cases c9 : (lg_cmp r40 0) = 0
                · replace ht := fh_t c9 ht
                  refine ro_t c9 ?_
                  refine ro_b (oi_o (hC.1 0 0 (by decide))) ?_
                  obtain ⟨r42, e_r42, ht⟩ := fh_b ht
                  refine ro_c (u_Mo_py hL e_r42 hC) (fun z hz => ?_)
                  subst hz
                  refine ro_b (oi_o (hC.1 0 0 (by decide))) ?_
                  obtain ⟨r44, e_r44, ht⟩ := fh_b ht
                  refine ro_c (u_Mo_py hL e_r44 hC) (fun z hz => ?_)
                  subst hz
                  refine ro_b (oi_o (hC.1 0 0 (by decide))) ?_
                  obtain ⟨r46, e_r46, ht⟩ := fh_b ht
                  refine ro_c (u_Mo_py hL e_r46 hC) (fun z hz => ?_)
                  subst hz
                  obtain ⟨r47, e_r47, ht⟩ := fh_b ht
                  refine ro_c (u_Mo_mod e_r47) (fun z hz => ?_)
                  subst hz
                  by_cases c8 : (lg_cmp r47 0) = 0
                  · replace ht := fh_t c8 ht
                    refine ro_t c8 ?_
                    obtain rfl := Option.some.inj ht
                    exact ro_s rfl
                  · replace ht := fh_f c8 ht
                    refine ro_f c8 ?_
                    obtain rfl := Option.some.inj ht
                    exact ro_s rfl
                · replace ht := fh_f c9 ht
                  refine ro_f c9 ?_
                  obtain rfl := Option.some.inj ht
                  exact ro_s rfl
              · replace ht := fh_f c13 ht
                refine ro_f c13 ?_
                by_cases c12 : a1 = 7
                · replace ht := fh_t c12 ht
                  refine ro_t c12 ?_
                  refine ro_b (oi_o (hC.1 0 0 (by decide))) ?_
                  obtain ⟨r49, e_r49, ht⟩ := fh_b ht
                  refine ro_c (u_Mo_cross hL e_r49 hC) (fun z hz => ?_)
                  subst hz
                  obtain ⟨r50, e_r50, ht⟩ := fh_b ht
                  refine ro_c (u_Mo_square e_r50) (fun z hz => ?_)
                  subst hz
                  refine ro_b (oi_a (hC.1 0 0 (by decide)) rfl) ?_
                  obtain ⟨x52, e_x52, ht⟩ := fh_b ht
                  refine ro_b ((ai_i (hC.1 6 0 (by decide))).trans e_x52) ?_
                  refine ro_b (oi_a (hC.1 0 0 (by decide)) rfl) ?_
                  obtain ⟨x54, e_x54, ht⟩ := fh_b ht
                  refine ro_b ((ai_i (hC.1 6 0 (by decide))).trans e_x54) ?_
                  refine ro_b (oi_o (hC.1 0 0 (by decide))) ?_
                  obtain ⟨r56, e_r56, ht⟩ := fh_b ht
                  refine ro_c (u_Mo_cross hL e_r56 hC) (fun z hz => ?_)
                  subst hz
                  obtain ⟨r57, e_r57, ht⟩ := fh_b ht
                  refine ro_c (u_Mo_square e_r57) (fun z hz => ?_)
                  subst hz
                  by_cases c10 : (lg_cmp r50 r57) = 0
                  · replace ht := fh_t c10 ht
                    refine ro_t c10 ?_
                    obtain rfl := Option.some.inj ht
                    exact ro_s rfl
                  · replace ht := fh_f c10 ht
                    refine ro_f c10 ?_
                    obtain rfl := Option.some.inj ht
                    exact ro_s rfl
                · replace ht := fh_f c12 ht
                  refine ro_f c12 ?_
                  refine ro_b (oi_o (hC.1 0 0 (by decide))) ?_
                  obtain ⟨r10, e_r10, ht⟩ := fh_b ht
                  refine ro_c (u_Mo_length hL e_r10 hC) (fun z hz => ?_)
                  subst hz
                  refine ro_b (oi_o (hC.1 0 0 (by decide))) ?_
                  obtain ⟨r12, e_r12, ht⟩ := fh_b ht
                  refine ro_c (u_Mo_length hL e_r12 hC) (fun z hz => ?_)
                  subst hz
                  obtain ⟨r13, e_r13, ht⟩ := fh_b ht
                  refine ro_c (u_Mo_mod e_r13) (fun z hz => ?_)
                  subst hz
                  by_cases c11 : (lg_cmp r13 0) = 0
                  · replace ht := fh_t c11 ht
                    refine ro_t c11 ?_
                    obtain rfl := Option.some.inj ht
                    exact ro_s rfl
                  · replace ht := fh_f c11 ht
                    refine ro_f c11 ?_
                    obtain rfl := Option.some.inj ht
                    exact ro_s rfl
def tb_Mo_isAlways_63 (N : Nat) (k17 : Int32 → Int32 → Int32 → Int32 → Int32 → MS → Option (Int32 × MS)) (v1 : Int32) (v2 : Int32) (v3 : Int32) (v5 : Int32) (w0 : Int32) (S : MS) : Option (Int32 × MS) :=
  (some (v5 + 1)).bind fun x1 => k17 v1 v2 v3 w0 x1 S
def tb_Mo_isAlways_58 (N : Nat) (k17 : Int32 → Int32 → Int32 → Int32 → Int32 → MS → Option (Int32 × MS)) (v1 : Int32) (v2 : Int32) (v3 : Int32) (v5 : Int32) (S : MS) : Option (Int32 × MS) :=
  tb_Mo_isAlways_63 N k17 v1 v2 v3 v5 1 S
def tb_Mo_isAlways_17 (N : Nat) (k17 : Int32 → Int32 → Int32 → Int32 → Int32 → MS → Option (Int32 × MS)) (v1 : Int32) (v2 : Int32) (v3 : Int32) (v4 : Int32) (v5 : Int32) (S : MS) : Option (Int32 × MS) :=
  (some (ms_figs S)).bind fun x1 => if x1 ≤ v5 then ((tz v4).bind fun zz => some (zz, S)) else (if v4 = 0 then ((tz v4).bind fun zz => some (zz, S)) else ((some (ms_set_figure S v5)).bind fun S2 => (ta 5 (ms_fallsAt S2) v5).bind fun x4 => if x4 = (-1) then ((t_Mo_isSo N v1 v2 v3 S2).bind fun r6 => if r6 = 0 then (tb_Mo_isAlways_63 N k17 v1 v2 v3 v5 0 S2) else (tb_Mo_isAlways_58 N k17 v1 v2 v3 v5 S2)) else (tb_Mo_isAlways_58 N k17 v1 v2 v3 v5 S2)))
def tl_Mo_isAlways_17 (N : Nat) : Nat → Int32 → Int32 → Int32 → Int32 → Int32 → MS → Option (Int32 × MS)
  | 0, _, _, _, _, _, _ => none
  | n + 1, v1, v2, v3, v4, v5, S => tb_Mo_isAlways_17 N (tl_Mo_isAlways_17 N n) v1 v2 v3 v4 v5 S
def tb_Mo_isAlways_12 (N : Nat) (v1 : Int32) (v2 : Int32) (v3 : Int32) (w0 : Int32) (S : MS) : Option (Int32 × MS) :=
  tl_Mo_isAlways_17 N N v1 v2 v3 w0 0 S
def t_Mo_isAlways (N : Nat) (a1 : Int32) (a2 : Int32) (a3 : Int32) (S0 : MS) : Option (Int32 × MS) :=
  (t_Mo_standing N S0).bind fun r2 => if r2 ≤ 0 then (tb_Mo_isAlways_12 N a1 a2 a3 0 S0) else (tb_Mo_isAlways_12 N a1 a2 a3 1 S0)
set_option maxHeartbeats 4000000 in
theorem u_Mo_isAlways {K : Nat → ClassId} {N : Nat} {a1 : Int32} {a2 : Int32} {a3 : Int32} {h0 : fh_H} {S0 : MS} {res : Int32 × MS} {L : Nat → Nat → Nat} {hb : fh_H} (hL : ms_I L) (ht : t_Mo_isAlways N a1 a2 a3 S0 = some res) (hC : ms_W K L hb h0 S0) : RO (fun z => z.1 = res.1 ∧ ms_W K L hb z.2 res.2) (f_Mo_isAlways K N (L 0 0) a1 a2 a3 h0) := by
  have L17 : ∀ (n17 : Nat) (v1 : Int32) (v2 : Int32) (v3 : Int32) (v4 : Int32) (v5 : Int32) (S : MS) (h : fh_H), ms_W K L hb h S → tl_Mo_isAlways_17 N n17 v1 v2 v3 v4 v5 S = some res → RO (fun z => z.1 = res.1 ∧ ms_W K L hb z.2 res.2) (l_Mo_isAlways_17 K N (L 0 0) n17 v1 v2 v3 v4 v5 h) := by
    intro n17
    induction n17 with
    | zero =>
      intro v1 v2 v3 v4 v5 S h hC ht
      exact fh_no ht
    | succ n17 ih17 =>
      have B63 : ∀ (v1 : Int32) (v2 : Int32) (v3 : Int32) (v5 : Int32) (w0 : Int32) (S : MS) (h : fh_H), ms_W K L hb h S → tb_Mo_isAlways_63 N (tl_Mo_isAlways_17 N n17) v1 v2 v3 v5 w0 S = some res → RO (fun z => z.1 = res.1 ∧ ms_W K L hb z.2 res.2) (b_Mo_isAlways_63 K N (l_Mo_isAlways_17 K N (L 0 0) n17) (L 0 0) v1 v2 v3 v5 w0 h) := by
        intro v1 v2 v3 v5 w0 S h hC ht
        unfold tb_Mo_isAlways_63 at ht
        unfold b_Mo_isAlways_63
        obtain ⟨x1, e_x1, ht⟩ := fh_b ht
        refine ro_b e_x1 ?_
        exact ih17 v1 v2 v3 w0 x1 S _ hC ht
      have B58 : ∀ (v1 : Int32) (v2 : Int32) (v3 : Int32) (v5 : Int32) (S : MS) (h : fh_H), ms_W K L hb h S → tb_Mo_isAlways_58 N (tl_Mo_isAlways_17 N n17) v1 v2 v3 v5 S = some res → RO (fun z => z.1 = res.1 ∧ ms_W K L hb z.2 res.2) (b_Mo_isAlways_58 K N (l_Mo_isAlways_17 K N (L 0 0) n17) (L 0 0) v1 v2 v3 v5 h) := by
        intro v1 v2 v3 v5 S h hC ht
        unfold tb_Mo_isAlways_58 at ht
        unfold b_Mo_isAlways_58
        exact B63 v1 v2 v3 v5 1 S _ hC ht
      intro v1 v2 v3 v4 v5 S h hC ht
      have ht : tb_Mo_isAlways_17 N (tl_Mo_isAlways_17 N n17) v1 v2 v3 v4 v5 S = some res := ht
      show RO _ (b_Mo_isAlways_17 K N (l_Mo_isAlways_17 K N (L 0 0) n17) (L 0 0) v1 v2 v3 v4 v5 h)
      unfold tb_Mo_isAlways_17 at ht
      unfold b_Mo_isAlways_17
      obtain ⟨x1, e_x1, ht⟩ := fh_b ht
      refine ro_b ((oi_i (hC.1 0 0 (by decide)) rfl).trans e_x1) ?_
      by_cases c4 : x1 ≤ v5
      · replace ht := fh_t c4 ht
        refine ro_t c4 ?_
        obtain ⟨zz, e_zz, ht⟩ := fh_b ht
        obtain ⟨hz, rfl⟩ := tz_s e_zz
        obtain rfl := Option.some.inj ht
        exact ro_z hz ⟨rfl, hC⟩
      · replace ht := fh_f c4 ht
        refine ro_f c4 ?_
        by_cases c3 : v4 = 0
        · replace ht := fh_t c3 ht
          refine ro_t c3 ?_
          obtain ⟨zz, e_zz, ht⟩ := fh_b ht
          obtain ⟨hz, rfl⟩ := tz_s e_zz
          obtain rfl := Option.some.inj ht
          exact ro_z hz ⟨rfl, hC⟩
        · replace ht := fh_f c3 ht
          refine ro_f c3 ?_
          obtain ⟨S2, e_S2, ht⟩ := fh_b ht
          refine ro_c (G1 := (fun z => ms_W K L hb z S2)) ⟨_, oi_p (hC.1 0 0 (by decide)) (Nat.le_of_ble_eq_true rfl), by rw [← Option.some.inj e_S2]; exact ms_w_figure hL hC rfl⟩ (fun h hC => ?_)
          refine ro_b (oi_a (hC.1 0 0 (by decide)) rfl) ?_
          obtain ⟨x4, e_x4, ht⟩ := fh_b ht
          refine ro_b ((ai_i (hC.1 5 0 (by decide))).trans e_x4) ?_
          by_cases c2 : x4 = (-1)
          · replace ht := fh_t c2 ht
            refine ro_t c2 ?_
            refine ro_b (oi_o (hC.1 0 0 (by decide))) ?_
            obtain ⟨r6, e_r6, ht⟩ := fh_b ht
            refine ro_c (u_Mo_isSo hL e_r6 hC) (fun z hz => ?_)
            subst hz
            by_cases c1 : r6 = 0
            · replace ht := fh_t c1 ht
              refine ro_t c1 ?_
              exact B63 v1 v2 v3 v5 0 S2 _ hC ht
            · replace ht := fh_f c1 ht
              refine ro_f c1 ?_
              exact B58 v1 v2 v3 v5 S2 _ hC ht
          · replace ht := fh_f c2 ht
            refine ro_f c2 ?_
            exact B58 v1 v2 v3 v5 S2 _ hC ht
  have B12 : ∀ (v1 : Int32) (v2 : Int32) (v3 : Int32) (w0 : Int32) (S : MS) (h : fh_H), ms_W K L hb h S → tb_Mo_isAlways_12 N v1 v2 v3 w0 S = some res → RO (fun z => z.1 = res.1 ∧ ms_W K L hb z.2 res.2) (b_Mo_isAlways_12 K N (L 0 0) v1 v2 v3 w0 h) := by
    intro v1 v2 v3 w0 S h hC ht
    unfold tb_Mo_isAlways_12 at ht
    unfold b_Mo_isAlways_12
    exact L17 N v1 v2 v3 w0 0 S _ hC ht
  unfold t_Mo_isAlways at ht
  unfold f_Mo_isAlways
  refine ro_b (oi_o (hC.1 0 0 (by decide))) ?_
  obtain ⟨r2, e_r2, ht⟩ := fh_b ht
  refine ro_c (u_Mo_standing hL e_r2 hC) (fun z hz => ?_)
  subst hz
  by_cases c1 : r2 ≤ 0
  · replace ht := fh_t c1 ht
    refine ro_t c1 ?_
    exact B12 a1 a2 a3 0 S0 _ hC ht
  · replace ht := fh_f c1 ht
    refine ro_f c1 ?_
    exact B12 a1 a2 a3 1 S0 _ hC ht
def tb_Mo_findSame_60 (N : Nat) (k2 : Int32 → MS → Option (MS)) (k12 : Int32 → Int32 → MS → Option (MS)) (v1 : Int32) (v2 : Int32) (w1 : Int32) (w2 : Int32) (S : MS) : Option (MS) :=
  (twz 100 (ms_same S) w1 w2).bind fun F1 => (some (ms_set_same S F1)).bind fun S1 => (some (v2 + 1)).bind fun x2 => k12 v1 x2 S1
def tb_Mo_findSame_55 (N : Nat) (k2 : Int32 → MS → Option (MS)) (k12 : Int32 → Int32 → MS → Option (MS)) (v1 : Int32) (v2 : Int32) (w1 : Int32) (S : MS) : Option (MS) :=
  tb_Mo_findSame_60 N k2 k12 v1 v2 w1 1 S
def tb_Mo_findSame_12 (N : Nat) (k2 : Int32 → MS → Option (MS)) (k12 : Int32 → Int32 → MS → Option (MS)) (v1 : Int32) (v2 : Int32) (S : MS) : Option (MS) :=
  (some (ms_many S)).bind fun x1 => if x1 ≤ v2 then ((some (v1 + 1)).bind fun x2 => k2 x2 S) else ((t_Mo_setRow N v1 v2 0 0 0 0 S).bind fun r4 => if v1 = v2 then (tb_Mo_findSame_55 N k2 k12 v1 v2 ((10 * v1) + v2) r4) else ((t_Mo_isAlways N 0 0 0 r4).bind fun r7 => if r7.1 = 0 then (tb_Mo_findSame_60 N k2 k12 v1 v2 ((10 * v1) + v2) 0 r7.2) else (tb_Mo_findSame_55 N k2 k12 v1 v2 ((10 * v1) + v2) r7.2)))
def tl_Mo_findSame_12 (N : Nat) (k2 : Int32 → MS → Option (MS)) : Nat → Int32 → Int32 → MS → Option (MS)
  | 0, _, _, _ => none
  | n + 1, v1, v2, S => tb_Mo_findSame_12 N k2 (tl_Mo_findSame_12 N k2 n) v1 v2 S
def tb_Mo_findSame_2 (N : Nat) (k2 : Int32 → MS → Option (MS)) (v1 : Int32) (S : MS) : Option (MS) :=
  (some (ms_many S)).bind fun x1 => if x1 ≤ v1 then (some S) else (tl_Mo_findSame_12 N k2 N v1 0 S)
def tl_Mo_findSame_2 (N : Nat) : Nat → Int32 → MS → Option (MS)
  | 0, _, _ => none
  | n + 1, v1, S => tb_Mo_findSame_2 N (tl_Mo_findSame_2 N n) v1 S
def t_Mo_findSame (N : Nat)  (S0 : MS) : Option (MS) :=
  tl_Mo_findSame_2 N N 0 S0
set_option maxHeartbeats 4000000 in
theorem u_Mo_findSame {K : Nat → ClassId} {N : Nat} {h0 : fh_H} {S0 : MS} {res : MS} {L : Nat → Nat → Nat} {hb : fh_H} (hL : ms_I L) (ht : t_Mo_findSame N  S0 = some res) (hC : ms_W K L hb h0 S0) : RO (fun z => ms_W K L hb z res) (f_Mo_findSame K N (L 0 0)  h0) := by
  have L2 : ∀ (n2 : Nat) (v1 : Int32) (S : MS) (h : fh_H), ms_W K L hb h S → tl_Mo_findSame_2 N n2 v1 S = some res → RO (fun z => ms_W K L hb z res) (l_Mo_findSame_2 K N (L 0 0) n2 v1 h) := by
    intro n2
    induction n2 with
    | zero =>
      intro v1 S h hC ht
      exact fh_no ht
    | succ n2 ih2 =>
      have L12 : ∀ (n12 : Nat) (v1 : Int32) (v2 : Int32) (S : MS) (h : fh_H), ms_W K L hb h S → tl_Mo_findSame_12 N (tl_Mo_findSame_2 N n2) n12 v1 v2 S = some res → RO (fun z => ms_W K L hb z res) (l_Mo_findSame_12 K N (l_Mo_findSame_2 K N (L 0 0) n2) (L 0 0) n12 v1 v2 h) := by
        intro n12
        induction n12 with
        | zero =>
          intro v1 v2 S h hC ht
          exact fh_no ht
        | succ n12 ih12 =>
          have B60 : ∀ (v1 : Int32) (v2 : Int32) (w1 : Int32) (w2 : Int32) (S : MS) (h : fh_H), ms_W K L hb h S → tb_Mo_findSame_60 N (tl_Mo_findSame_2 N n2) (tl_Mo_findSame_12 N (tl_Mo_findSame_2 N n2) n12) v1 v2 w1 w2 S = some res → RO (fun z => ms_W K L hb z res) (b_Mo_findSame_60 K N (l_Mo_findSame_2 K N (L 0 0) n2) (l_Mo_findSame_12 K N (l_Mo_findSame_2 K N (L 0 0) n2) (L 0 0) n12) (L 0 0) v1 v2 (some (L 7 0)) w1 w2 h) := by
            intro v1 v2 w1 w2 S h hC ht
            unfold tb_Mo_findSame_60 at ht
            unfold b_Mo_findSame_60
            obtain ⟨F1, e_F1, ht⟩ := fh_b ht
            obtain ⟨S1, e_S1, ht⟩ := fh_b ht
            refine ro_c (G1 := (fun z => ms_W K L hb z S1)) ⟨_, aw_z (hC.1 7 0 (by decide)) e_F1, by rw [← Option.some.inj e_S1]; exact ms_w_same hL hC ⟩ (fun h hC => ?_)
            obtain ⟨x2, e_x2, ht⟩ := fh_b ht
            refine ro_b e_x2 ?_
            exact ih12 v1 x2 S1 _ hC ht
          have B55 : ∀ (v1 : Int32) (v2 : Int32) (w1 : Int32) (S : MS) (h : fh_H), ms_W K L hb h S → tb_Mo_findSame_55 N (tl_Mo_findSame_2 N n2) (tl_Mo_findSame_12 N (tl_Mo_findSame_2 N n2) n12) v1 v2 w1 S = some res → RO (fun z => ms_W K L hb z res) (b_Mo_findSame_55 K N (l_Mo_findSame_2 K N (L 0 0) n2) (l_Mo_findSame_12 K N (l_Mo_findSame_2 K N (L 0 0) n2) (L 0 0) n12) (L 0 0) v1 v2 (some (L 7 0)) w1 h) := by
            intro v1 v2 w1 S h hC ht
            unfold tb_Mo_findSame_55 at ht
            unfold b_Mo_findSame_55
            exact B60 v1 v2 w1 1 S _ hC ht
          intro v1 v2 S h hC ht
          have ht : tb_Mo_findSame_12 N (tl_Mo_findSame_2 N n2) (tl_Mo_findSame_12 N (tl_Mo_findSame_2 N n2) n12) v1 v2 S = some res := ht
          show RO _ (b_Mo_findSame_12 K N (l_Mo_findSame_2 K N (L 0 0) n2) (l_Mo_findSame_12 K N (l_Mo_findSame_2 K N (L 0 0) n2) (L 0 0) n12) (L 0 0) v1 v2 h)
          unfold tb_Mo_findSame_12 at ht
          unfold b_Mo_findSame_12
          obtain ⟨x1, e_x1, ht⟩ := fh_b ht
          refine ro_b ((oi_i (hC.1 0 0 (by decide)) rfl).trans e_x1) ?_
          by_cases c3 : x1 ≤ v2
          · replace ht := fh_t c3 ht
            refine ro_t c3 ?_
            obtain ⟨x2, e_x2, ht⟩ := fh_b ht
            refine ro_b e_x2 ?_
            exact ih2 x2 S _ hC ht
          · replace ht := fh_f c3 ht
            refine ro_f c3 ?_
            refine ro_b (oi_o (hC.1 0 0 (by decide))) ?_
            obtain ⟨r4, e_r4, ht⟩ := fh_b ht
            refine ro_c (u_Mo_setRow hL e_r4 hC) (fun h hC => ?_)
            refine ro_b (oi_a (hC.1 0 0 (by decide)) rfl) ?_
            by_cases c2 : v1 = v2
            · replace ht := fh_t c2 ht
              refine ro_t c2 ?_
              exact B55 v1 v2 ((10 * v1) + v2) r4 _ hC ht
            · replace ht := fh_f c2 ht
              refine ro_f c2 ?_
              refine ro_b (oi_o (hC.1 0 0 (by decide))) ?_
              obtain ⟨r7, e_r7, ht⟩ := fh_b ht
              refine ro_c (u_Mo_isAlways hL e_r7 hC) (fun z hz => ?_)
              obtain ⟨z1, h⟩ := z
              obtain ⟨ez, hC⟩ := hz
              dsimp only at ez hC
              subst ez
              by_cases c1 : r7.1 = 0
              · replace ht := fh_t c1 ht
                refine ro_t c1 ?_
                exact B60 v1 v2 ((10 * v1) + v2) 0 r7.2 _ hC ht
              · replace ht := fh_f c1 ht
                refine ro_f c1 ?_
                exact B55 v1 v2 ((10 * v1) + v2) r7.2 _ hC ht
      intro v1 S h hC ht
      have ht : tb_Mo_findSame_2 N (tl_Mo_findSame_2 N n2) v1 S = some res := ht
      show RO _ (b_Mo_findSame_2 K N (l_Mo_findSame_2 K N (L 0 0) n2) (L 0 0) v1 h)
      unfold tb_Mo_findSame_2 at ht
      unfold b_Mo_findSame_2
      obtain ⟨x1, e_x1, ht⟩ := fh_b ht
      refine ro_b ((oi_i (hC.1 0 0 (by decide)) rfl).trans e_x1) ?_
      by_cases c1 : x1 ≤ v1
      · replace ht := fh_t c1 ht
        refine ro_t c1 ?_
        obtain rfl := Option.some.inj ht
        exact ro_s hC
      · replace ht := fh_f c1 ht
        refine ro_f c1 ?_
        exact L12 N v1 0 S _ hC ht
  unfold t_Mo_findSame at ht
  unfold f_Mo_findSame
  exact L2 N 0 S0 _ hC ht
def tb_Mo_places_96 (N : Nat) (k8 : Int32 → Int32 → Int32 → MS → Option (Int32 × MS)) (v1 : Int32) (v3 : Int32) (w0 : Int32) (S : MS) : Option (Int32 × MS) :=
  (some (v3 + 1)).bind fun x1 => k8 v1 w0 x1 S
def tb_Mo_places_76 (N : Nat) (k8 : Int32 → Int32 → Int32 → MS → Option (Int32 × MS)) (k35 : Int32 → Int32 → Int32 → Int32 → Int32 → MS → Option (Int32 × MS)) (v1 : Int32) (v2 : Int32) (v3 : Int32) (v5 : Int32) (w0 : Int32) (S : MS) : Option (Int32 × MS) :=
  (some (v5 + 1)).bind fun x1 => k35 v1 v2 v3 w0 x1 S
def tb_Mo_places_71 (N : Nat) (k8 : Int32 → Int32 → Int32 → MS → Option (Int32 × MS)) (k35 : Int32 → Int32 → Int32 → Int32 → Int32 → MS → Option (Int32 × MS)) (v1 : Int32) (v2 : Int32) (v3 : Int32) (v5 : Int32) (S : MS) : Option (Int32 × MS) :=
  tb_Mo_places_76 N k8 k35 v1 v2 v3 v5 1 S
def tb_Mo_places_75 (N : Nat) (k8 : Int32 → Int32 → Int32 → MS → Option (Int32 × MS)) (k35 : Int32 → Int32 → Int32 → Int32 → Int32 → MS → Option (Int32 × MS)) (v1 : Int32) (v2 : Int32) (v3 : Int32) (v5 : Int32) (S : MS) : Option (Int32 × MS) :=
  tb_Mo_places_76 N k8 k35 v1 v2 v3 v5 0 S
def tb_Mo_places_35 (N : Nat) (k8 : Int32 → Int32 → Int32 → MS → Option (Int32 × MS)) (k35 : Int32 → Int32 → Int32 → Int32 → Int32 → MS → Option (Int32 × MS)) (v1 : Int32) (v2 : Int32) (v3 : Int32) (v4 : Int32) (v5 : Int32) (S : MS) : Option (Int32 × MS) :=
  if v3 ≤ v5 then (if v4 = 0 then (tb_Mo_places_96 N k8 v1 v3 v2 S) else (tb_Mo_places_96 N k8 v1 v3 (v2 + 1) S)) else (if v4 = 0 then (tb_Mo_places_75 N k8 k35 v1 v2 v3 v5 S) else (if ((v1 >>> (v5 &&& 31)) &&& 1) = 1 then ((ta 100 (ms_same S) ((10 * v5) + v3)).bind fun x2 => if x2 = 0 then (tb_Mo_places_71 N k8 k35 v1 v2 v3 v5 S) else (tb_Mo_places_75 N k8 k35 v1 v2 v3 v5 S)) else (tb_Mo_places_71 N k8 k35 v1 v2 v3 v5 S)))
def tl_Mo_places_35 (N : Nat) (k8 : Int32 → Int32 → Int32 → MS → Option (Int32 × MS)) : Nat → Int32 → Int32 → Int32 → Int32 → Int32 → MS → Option (Int32 × MS)
  | 0, _, _, _, _, _, _ => none
  | n + 1, v1, v2, v3, v4, v5, S => tb_Mo_places_35 N k8 (tl_Mo_places_35 N k8 n) v1 v2 v3 v4 v5 S
def tb_Mo_places_30 (N : Nat) (k8 : Int32 → Int32 → Int32 → MS → Option (Int32 × MS)) (v1 : Int32) (v2 : Int32) (v3 : Int32) (w0 : Int32) (S : MS) : Option (Int32 × MS) :=
  tl_Mo_places_35 N k8 N v1 v2 v3 w0 0 S
def tb_Mo_places_8 (N : Nat) (k8 : Int32 → Int32 → Int32 → MS → Option (Int32 × MS)) (v1 : Int32) (v2 : Int32) (v3 : Int32) (S : MS) : Option (Int32 × MS) :=
  (some (ms_many S)).bind fun x1 => if x1 ≤ v3 then (some (v2, S)) else (if ((v1 >>> (v3 &&& 31)) &&& 1) = 1 then (tb_Mo_places_30 N k8 v1 v2 v3 1 S) else (tb_Mo_places_30 N k8 v1 v2 v3 0 S))
def tl_Mo_places_8 (N : Nat) : Nat → Int32 → Int32 → Int32 → MS → Option (Int32 × MS)
  | 0, _, _, _, _ => none
  | n + 1, v1, v2, v3, S => tb_Mo_places_8 N (tl_Mo_places_8 N n) v1 v2 v3 S
def t_Mo_places (N : Nat) (a1 : Int32) (S0 : MS) : Option (Int32 × MS) :=
  (t_Mo_findSame N S0).bind fun r2 => tl_Mo_places_8 N N a1 0 0 r2
set_option maxHeartbeats 4000000 in
theorem u_Mo_places {K : Nat → ClassId} {N : Nat} {a1 : Int32} {h0 : fh_H} {S0 : MS} {res : Int32 × MS} {L : Nat → Nat → Nat} {hb : fh_H} (hL : ms_I L) (ht : t_Mo_places N a1 S0 = some res) (hC : ms_W K L hb h0 S0) : RO (fun z => z.1 = res.1 ∧ ms_W K L hb z.2 res.2) (f_Mo_places K N (L 0 0) a1 h0) := by
  have L8 : ∀ (n8 : Nat) (v1 : Int32) (v2 : Int32) (v3 : Int32) (S : MS) (h : fh_H), ms_W K L hb h S → tl_Mo_places_8 N n8 v1 v2 v3 S = some res → RO (fun z => z.1 = res.1 ∧ ms_W K L hb z.2 res.2) (l_Mo_places_8 K N (L 0 0) n8 v1 v2 v3 h) := by
    intro n8
    induction n8 with
    | zero =>
      intro v1 v2 v3 S h hC ht
      exact fh_no ht
    | succ n8 ih8 =>
      have B96 : ∀ (v1 : Int32) (v3 : Int32) (w0 : Int32) (S : MS) (h : fh_H), ms_W K L hb h S → tb_Mo_places_96 N (tl_Mo_places_8 N n8) v1 v3 w0 S = some res → RO (fun z => z.1 = res.1 ∧ ms_W K L hb z.2 res.2) (b_Mo_places_96 K N (l_Mo_places_8 K N (L 0 0) n8) (L 0 0) v1 v3 w0 h) := by
        intro v1 v3 w0 S h hC ht
        unfold tb_Mo_places_96 at ht
        unfold b_Mo_places_96
        obtain ⟨x1, e_x1, ht⟩ := fh_b ht
        refine ro_b e_x1 ?_
        exact ih8 v1 w0 x1 S _ hC ht
      have L35 : ∀ (n35 : Nat) (v1 : Int32) (v2 : Int32) (v3 : Int32) (v4 : Int32) (v5 : Int32) (S : MS) (h : fh_H), ms_W K L hb h S → tl_Mo_places_35 N (tl_Mo_places_8 N n8) n35 v1 v2 v3 v4 v5 S = some res → RO (fun z => z.1 = res.1 ∧ ms_W K L hb z.2 res.2) (l_Mo_places_35 K N (l_Mo_places_8 K N (L 0 0) n8) (L 0 0) n35 v1 v2 v3 v4 v5 h) := by
        intro n35
        induction n35 with
        | zero =>
          intro v1 v2 v3 v4 v5 S h hC ht
          exact fh_no ht
        | succ n35 ih35 =>
          have B76 : ∀ (v1 : Int32) (v2 : Int32) (v3 : Int32) (v5 : Int32) (w0 : Int32) (S : MS) (h : fh_H), ms_W K L hb h S → tb_Mo_places_76 N (tl_Mo_places_8 N n8) (tl_Mo_places_35 N (tl_Mo_places_8 N n8) n35) v1 v2 v3 v5 w0 S = some res → RO (fun z => z.1 = res.1 ∧ ms_W K L hb z.2 res.2) (b_Mo_places_76 K N (l_Mo_places_8 K N (L 0 0) n8) (l_Mo_places_35 K N (l_Mo_places_8 K N (L 0 0) n8) (L 0 0) n35) (L 0 0) v1 v2 v3 v5 w0 h) := by
            intro v1 v2 v3 v5 w0 S h hC ht
            unfold tb_Mo_places_76 at ht
            unfold b_Mo_places_76
            obtain ⟨x1, e_x1, ht⟩ := fh_b ht
            refine ro_b e_x1 ?_
            exact ih35 v1 v2 v3 w0 x1 S _ hC ht
          have B71 : ∀ (v1 : Int32) (v2 : Int32) (v3 : Int32) (v5 : Int32) (S : MS) (h : fh_H), ms_W K L hb h S → tb_Mo_places_71 N (tl_Mo_places_8 N n8) (tl_Mo_places_35 N (tl_Mo_places_8 N n8) n35) v1 v2 v3 v5 S = some res → RO (fun z => z.1 = res.1 ∧ ms_W K L hb z.2 res.2) (b_Mo_places_71 K N (l_Mo_places_8 K N (L 0 0) n8) (l_Mo_places_35 K N (l_Mo_places_8 K N (L 0 0) n8) (L 0 0) n35) (L 0 0) v1 v2 v3 v5 h) := by
            intro v1 v2 v3 v5 S h hC ht
            unfold tb_Mo_places_71 at ht
            unfold b_Mo_places_71
            exact B76 v1 v2 v3 v5 1 S _ hC ht
          have B75 : ∀ (v1 : Int32) (v2 : Int32) (v3 : Int32) (v5 : Int32) (S : MS) (h : fh_H), ms_W K L hb h S → tb_Mo_places_75 N (tl_Mo_places_8 N n8) (tl_Mo_places_35 N (tl_Mo_places_8 N n8) n35) v1 v2 v3 v5 S = some res → RO (fun z => z.1 = res.1 ∧ ms_W K L hb z.2 res.2) (b_Mo_places_75 K N (l_Mo_places_8 K N (L 0 0) n8) (l_Mo_places_35 K N (l_Mo_places_8 K N (L 0 0) n8) (L 0 0) n35) (L 0 0) v1 v2 v3 v5 h) := by
            intro v1 v2 v3 v5 S h hC ht
            unfold tb_Mo_places_75 at ht
            unfold b_Mo_places_75
            exact B76 v1 v2 v3 v5 0 S _ hC ht
          intro v1 v2 v3 v4 v5 S h hC ht
          have ht : tb_Mo_places_35 N (tl_Mo_places_8 N n8) (tl_Mo_places_35 N (tl_Mo_places_8 N n8) n35) v1 v2 v3 v4 v5 S = some res := ht
          show RO _ (b_Mo_places_35 K N (l_Mo_places_8 K N (L 0 0) n8) (l_Mo_places_35 K N (l_Mo_places_8 K N (L 0 0) n8) (L 0 0) n35) (L 0 0) v1 v2 v3 v4 v5 h)
          unfold tb_Mo_places_35 at ht
          unfold b_Mo_places_35
          by_cases c5 : v3 ≤ v5
          · replace ht := fh_t c5 ht
            refine ro_t c5 ?_
            by_cases c1 : v4 = 0
            · replace ht := fh_t c1 ht
              refine ro_t c1 ?_
              exact B96 v1 v3 v2 S _ hC ht
            · replace ht := fh_f c1 ht
              refine ro_f c1 ?_
              exact B96 v1 v3 (v2 + 1) S _ hC ht
          · replace ht := fh_f c5 ht
            refine ro_f c5 ?_
            by_cases c4 : v4 = 0
            · replace ht := fh_t c4 ht
              refine ro_t c4 ?_
              exact B75 v1 v2 v3 v5 S _ hC ht
            · replace ht := fh_f c4 ht
              refine ro_f c4 ?_
              by_cases c3 : ((v1 >>> (v5 &&& 31)) &&& 1) = 1
              · replace ht := fh_t c3 ht
                refine ro_t c3 ?_
                refine ro_b (oi_a (hC.1 0 0 (by decide)) rfl) ?_
                obtain ⟨x2, e_x2, ht⟩ := fh_b ht
                refine ro_b ((ai_i (hC.1 7 0 (by decide))).trans e_x2) ?_
                by_cases c2 : x2 = 0
                · replace ht := fh_t c2 ht
                  refine ro_t c2 ?_
                  exact B71 v1 v2 v3 v5 S _ hC ht
                · replace ht := fh_f c2 ht
                  refine ro_f c2 ?_
                  exact B75 v1 v2 v3 v5 S _ hC ht
              · replace ht := fh_f c3 ht
                refine ro_f c3 ?_
                exact B71 v1 v2 v3 v5 S _ hC ht
      have B30 : ∀ (v1 : Int32) (v2 : Int32) (v3 : Int32) (w0 : Int32) (S : MS) (h : fh_H), ms_W K L hb h S → tb_Mo_places_30 N (tl_Mo_places_8 N n8) v1 v2 v3 w0 S = some res → RO (fun z => z.1 = res.1 ∧ ms_W K L hb z.2 res.2) (b_Mo_places_30 K N (l_Mo_places_8 K N (L 0 0) n8) (L 0 0) v1 v2 v3 w0 h) := by
        intro v1 v2 v3 w0 S h hC ht
        unfold tb_Mo_places_30 at ht
        unfold b_Mo_places_30
        exact L35 N v1 v2 v3 w0 0 S _ hC ht
      intro v1 v2 v3 S h hC ht
      have ht : tb_Mo_places_8 N (tl_Mo_places_8 N n8) v1 v2 v3 S = some res := ht
      show RO _ (b_Mo_places_8 K N (l_Mo_places_8 K N (L 0 0) n8) (L 0 0) v1 v2 v3 h)
      unfold tb_Mo_places_8 at ht
      unfold b_Mo_places_8
      obtain ⟨x1, e_x1, ht⟩ := fh_b ht
      refine ro_b ((oi_i (hC.1 0 0 (by decide)) rfl).trans e_x1) ?_
      by_cases c2 : x1 ≤ v3
      · replace ht := fh_t c2 ht
        refine ro_t c2 ?_
        obtain rfl := Option.some.inj ht
        exact ro_s ⟨rfl, hC⟩
      · replace ht := fh_f c2 ht
        refine ro_f c2 ?_
        by_cases c1 : ((v1 >>> (v3 &&& 31)) &&& 1) = 1
        · replace ht := fh_t c1 ht
          refine ro_t c1 ?_
          exact B30 v1 v2 v3 1 S _ hC ht
        · replace ht := fh_f c1 ht
          refine ro_f c1 ?_
          exact B30 v1 v2 v3 0 S _ hC ht
  unfold t_Mo_places at ht
  unfold f_Mo_places
  refine ro_b (oi_o (hC.1 0 0 (by decide))) ?_
  obtain ⟨r2, e_r2, ht⟩ := fh_b ht
  refine ro_c (u_Mo_findSame hL e_r2 hC) (fun h hC => ?_)
  exact L8 N a1 0 0 r2 _ hC ht
def t_Mo_count (N : Nat) (a1 : Int32) (S0 : MS) : Option (Int32 × MS) :=
  (t_Mo_isIn N a1 0 4).bind fun r1 => if r1 = 0 then (some ((-2), S0)) else (if a1 = 0 then ((some (ms_many S0)).bind fun x9 => some (x9, S0)) else (if a1 = 1 then ((some (ms_figs S0)).bind fun x8 => some (x8, S0)) else (if a1 = 2 then ((t_Mo_standing N S0).bind fun r7 => some (r7, S0)) else (if a1 = 3 then ((some (ms_seed S0)).bind fun x5 => some (x5, S0)) else ((some (ms_many S0)).bind fun x2 => (t_Mo_places N (((1 : Int32) <<< (x2 &&& 31)) - 1) S0).bind fun r4 => some (r4.1, r4.2))))))
set_option maxHeartbeats 4000000 in
theorem u_Mo_count {K : Nat → ClassId} {N : Nat} {a1 : Int32} {h0 : fh_H} {S0 : MS} {res : Int32 × MS} {L : Nat → Nat → Nat} {hb : fh_H} (hL : ms_I L) (ht : t_Mo_count N a1 S0 = some res) (hC : ms_W K L hb h0 S0) : RO (fun z => z.1 = res.1 ∧ ms_W K L hb z.2 res.2) (f_Mo_count K N (L 0 0) a1 h0) := by
  unfold t_Mo_count at ht
  unfold f_Mo_count
  obtain ⟨r1, e_r1, ht⟩ := fh_b ht
  refine ro_c (u_Mo_isIn e_r1) (fun z hz => ?_)
  subst hz
  by_cases c5 : r1 = 0
  · replace ht := fh_t c5 ht
    refine ro_t c5 ?_
    obtain rfl := Option.some.inj ht
    exact ro_s ⟨rfl, hC⟩
  · replace ht := fh_f c5 ht
    refine ro_f c5 ?_
    by_cases c4 : a1 = 0
    · replace ht := fh_t c4 ht
      refine ro_t c4 ?_
      obtain ⟨x9, e_x9, ht⟩ := fh_b ht
      refine ro_b ((oi_i (hC.1 0 0 (by decide)) rfl).trans e_x9) ?_
      obtain rfl := Option.some.inj ht
      exact ro_s ⟨rfl, hC⟩
    · replace ht := fh_f c4 ht
      refine ro_f c4 ?_
      by_cases c3 : a1 = 1
      · replace ht := fh_t c3 ht
        refine ro_t c3 ?_
        obtain ⟨x8, e_x8, ht⟩ := fh_b ht
        refine ro_b ((oi_i (hC.1 0 0 (by decide)) rfl).trans e_x8) ?_
        obtain rfl := Option.some.inj ht
        exact ro_s ⟨rfl, hC⟩
      · replace ht := fh_f c3 ht
        refine ro_f c3 ?_
        by_cases c2 : a1 = 2
        · replace ht := fh_t c2 ht
          refine ro_t c2 ?_
          refine ro_b (oi_o (hC.1 0 0 (by decide))) ?_
          obtain ⟨r7, e_r7, ht⟩ := fh_b ht
          refine ro_c (u_Mo_standing hL e_r7 hC) (fun z hz => ?_)
          subst hz
          obtain rfl := Option.some.inj ht
          exact ro_s ⟨rfl, hC⟩
        · replace ht := fh_f c2 ht
          refine ro_f c2 ?_
          by_cases c1 : a1 = 3
          · replace ht := fh_t c1 ht
            refine ro_t c1 ?_
            obtain ⟨x5, e_x5, ht⟩ := fh_b ht
            refine ro_b ((oi_i (hC.1 0 0 (by decide)) rfl).trans e_x5) ?_
            obtain rfl := Option.some.inj ht
            exact ro_s ⟨rfl, hC⟩
          · replace ht := fh_f c1 ht
            refine ro_f c1 ?_
            obtain ⟨x2, e_x2, ht⟩ := fh_b ht
            refine ro_b ((oi_i (hC.1 0 0 (by decide)) rfl).trans e_x2) ?_
            refine ro_b (oi_o (hC.1 0 0 (by decide))) ?_
            obtain ⟨r4, e_r4, ht⟩ := fh_b ht
            refine ro_c (u_Mo_places hL e_r4 hC) (fun z hz => ?_)
            obtain ⟨z1, h⟩ := z
            obtain ⟨ez, hC⟩ := hz
            dsimp only at ez hC
            subst ez
            obtain rfl := Option.some.inj ht
            exact ro_s ⟨rfl, hC⟩
def t_Mo_told (N : Nat) (a1 : Int32) (a2 : Int32) (S0 : MS) : Option (Int32) :=
  (t_Mo_isPoint N a1 S0).bind fun r2 => if r2 = 0 then (some (-2)) else ((t_Mo_isIn N a2 0 4).bind fun r3 => if r3 = 0 then (some (-2)) else (if a2 = 0 then ((ta 10 (ms_kindOf S0) a1).bind fun x10 => some x10) else ((ta 10 (ms_kindOf S0) a1).bind fun x5 => (t_Mo_needs1 N x5).bind fun r6 => if r6 < a2 then (some (-1)) else ((ta 40 (ms_need S0) (((4 * a1) + a2) - 1)).bind fun x8 => some x8))))
set_option maxHeartbeats 4000000 in
theorem u_Mo_told {K : Nat → ClassId} {N : Nat} {a1 : Int32} {a2 : Int32} {h0 : fh_H} {S0 : MS} {res : Int32} {L : Nat → Nat → Nat} {hb : fh_H} (hL : ms_I L) (ht : t_Mo_told N a1 a2 S0 = some res) (hC : ms_W K L hb h0 S0) : RO (fun z => (res, h0) = z) (f_Mo_told K N (L 0 0) a1 a2 h0) := by
  unfold t_Mo_told at ht
  unfold f_Mo_told
  refine ro_b (oi_o (hC.1 0 0 (by decide))) ?_
  obtain ⟨r2, e_r2, ht⟩ := fh_b ht
  refine ro_c (u_Mo_isPoint hL e_r2 hC) (fun z hz => ?_)
  subst hz
  by_cases c4 : r2 = 0
  · replace ht := fh_t c4 ht
    refine ro_t c4 ?_
    obtain rfl := Option.some.inj ht
    exact ro_s rfl
  · replace ht := fh_f c4 ht
    refine ro_f c4 ?_
    obtain ⟨r3, e_r3, ht⟩ := fh_b ht
    refine ro_c (u_Mo_isIn e_r3) (fun z hz => ?_)
    subst hz
    by_cases c3 : r3 = 0
    · replace ht := fh_t c3 ht
      refine ro_t c3 ?_
      obtain rfl := Option.some.inj ht
      exact ro_s rfl
    · replace ht := fh_f c3 ht
      refine ro_f c3 ?_
      by_cases c2 : a2 = 0
      · replace ht := fh_t c2 ht
        refine ro_t c2 ?_
        refine ro_b (oi_a (hC.1 0 0 (by decide)) rfl) ?_
        obtain ⟨x10, e_x10, ht⟩ := fh_b ht
        refine ro_b ((ai_i (hC.1 1 0 (by decide))).trans e_x10) ?_
        obtain rfl := Option.some.inj ht
        exact ro_s rfl
      · replace ht := fh_f c2 ht
        refine ro_f c2 ?_
        refine ro_b (oi_a (hC.1 0 0 (by decide)) rfl) ?_
        obtain ⟨x5, e_x5, ht⟩ := fh_b ht
        refine ro_b ((ai_i (hC.1 1 0 (by decide))).trans e_x5) ?_
        obtain ⟨r6, e_r6, ht⟩ := fh_b ht
        refine ro_c (u_Mo_needs1 e_r6) (fun z hz => ?_)
        subst hz
        by_cases c1 : r6 < a2
        · replace ht := fh_t c1 ht
          refine ro_t c1 ?_
          obtain rfl := Option.some.inj ht
          exact ro_s rfl
        · replace ht := fh_f c1 ht
          refine ro_f c1 ?_
          refine ro_b (oi_a (hC.1 0 0 (by decide)) rfl) ?_
          obtain ⟨x8, e_x8, ht⟩ := fh_b ht
          refine ro_b ((ai_i (hC.1 2 0 (by decide))).trans e_x8) ?_
          obtain rfl := Option.some.inj ht
          exact ro_s rfl
def t_Mo_falls (N : Nat) (a1 : Int32) (S0 : MS) : Option (Int32) :=
  (some (ms_figs S0)).bind fun x1 => (t_Mo_isIn N a1 0 (x1 - 1)).bind fun r2 => if r2 = 0 then (some (-2)) else ((ta 5 (ms_fallsAt S0) a1).bind fun x4 => some x4)
set_option maxHeartbeats 4000000 in
theorem u_Mo_falls {K : Nat → ClassId} {N : Nat} {a1 : Int32} {h0 : fh_H} {S0 : MS} {res : Int32} {L : Nat → Nat → Nat} {hb : fh_H} (hL : ms_I L) (ht : t_Mo_falls N a1 S0 = some res) (hC : ms_W K L hb h0 S0) : RO (fun z => (res, h0) = z) (f_Mo_falls K N (L 0 0) a1 h0) := by
  unfold t_Mo_falls at ht
  unfold f_Mo_falls
  obtain ⟨x1, e_x1, ht⟩ := fh_b ht
  refine ro_b ((oi_i (hC.1 0 0 (by decide)) rfl).trans e_x1) ?_
  obtain ⟨r2, e_r2, ht⟩ := fh_b ht
  refine ro_c (u_Mo_isIn e_r2) (fun z hz => ?_)
  subst hz
  by_cases c1 : r2 = 0
  · replace ht := fh_t c1 ht
    refine ro_t c1 ?_
    obtain rfl := Option.some.inj ht
    exact ro_s rfl
  · replace ht := fh_f c1 ht
    refine ro_f c1 ?_
    refine ro_b (oi_a (hC.1 0 0 (by decide)) rfl) ?_
    obtain ⟨x4, e_x4, ht⟩ := fh_b ht
    refine ro_b ((ai_i (hC.1 5 0 (by decide))).trans e_x4) ?_
    obtain rfl := Option.some.inj ht
    exact ro_s rfl
def tb_Mo_place_56 (N : Nat) (v1 : Int32) (v2 : Int32) (v3 : Int32) (S : MS) : Option (Int32) :=
  if v3 = 0 then ((ta 50 (ms_xs S) ((10 * v1) + v2)).bind fun x4 => some x4.toInt32) else ((ta 50 (ms_ys S) ((10 * v1) + v2)).bind fun x2 => some x2.toInt32)
def t_Mo_place (N : Nat) (a1 : Int32) (a2 : Int32) (a3 : Int32) (S0 : MS) : Option (Int32) :=
  (some (ms_figs S0)).bind fun x1 => (t_Mo_isIn N a1 0 (x1 - 1)).bind fun r2 => if r2 = 0 then (some (-2)) else ((t_Mo_isPoint N a2 S0).bind fun r4 => if r4 = 0 then (some (-2)) else ((t_Mo_isIn N a3 0 1).bind fun r5 => if r5 = 0 then (some (-2)) else ((ta 5 (ms_fallsAt S0) a1).bind fun x7 => if x7 = (-1) then (tb_Mo_place_56 N a1 a2 a3 S0) else ((ta 5 (ms_fallsAt S0) a1).bind fun x9 => if a2 < x9 then (tb_Mo_place_56 N a1 a2 a3 S0) else (some (-1))))))
set_option maxHeartbeats 4000000 in
theorem u_Mo_place {K : Nat → ClassId} {N : Nat} {a1 : Int32} {a2 : Int32} {a3 : Int32} {h0 : fh_H} {S0 : MS} {res : Int32} {L : Nat → Nat → Nat} {hb : fh_H} (hL : ms_I L) (ht : t_Mo_place N a1 a2 a3 S0 = some res) (hC : ms_W K L hb h0 S0) : RO (fun z => (res, h0) = z) (f_Mo_place K N (L 0 0) a1 a2 a3 h0) := by
  have B56 : ∀ (v1 : Int32) (v2 : Int32) (v3 : Int32), tb_Mo_place_56 N v1 v2 v3 S0 = some res → RO (fun z => (res, h0) = z) (b_Mo_place_56 K N (L 0 0) v1 v2 v3 h0) := by
    intro v1 v2 v3 ht
    unfold tb_Mo_place_56 at ht
    unfold b_Mo_place_56
    by_cases c1 : v3 = 0
    · replace ht := fh_t c1 ht
      refine ro_t c1 ?_
      refine ro_b (oi_a (hC.1 0 0 (by decide)) rfl) ?_
      obtain ⟨x4, e_x4, ht⟩ := fh_b ht
      refine ro_b ((ai_l (hC.1 3 0 (by decide))).trans e_x4) ?_
      obtain rfl := Option.some.inj ht
      exact ro_s rfl
    · replace ht := fh_f c1 ht
      refine ro_f c1 ?_
      refine ro_b (oi_a (hC.1 0 0 (by decide)) rfl) ?_
      obtain ⟨x2, e_x2, ht⟩ := fh_b ht
      refine ro_b ((ai_l (hC.1 4 0 (by decide))).trans e_x2) ?_
      obtain rfl := Option.some.inj ht
      exact ro_s rfl
  unfold t_Mo_place at ht
  unfold f_Mo_place
  obtain ⟨x1, e_x1, ht⟩ := fh_b ht
  refine ro_b ((oi_i (hC.1 0 0 (by decide)) rfl).trans e_x1) ?_
  obtain ⟨r2, e_r2, ht⟩ := fh_b ht
  refine ro_c (u_Mo_isIn e_r2) (fun z hz => ?_)
  subst hz
  by_cases c5 : r2 = 0
  · replace ht := fh_t c5 ht
    refine ro_t c5 ?_
    obtain rfl := Option.some.inj ht
    exact ro_s rfl
  · replace ht := fh_f c5 ht
    refine ro_f c5 ?_
    refine ro_b (oi_o (hC.1 0 0 (by decide))) ?_
    obtain ⟨r4, e_r4, ht⟩ := fh_b ht
    refine ro_c (u_Mo_isPoint hL e_r4 hC) (fun z hz => ?_)
    subst hz
    by_cases c4 : r4 = 0
    · replace ht := fh_t c4 ht
      refine ro_t c4 ?_
      obtain rfl := Option.some.inj ht
      exact ro_s rfl
    · replace ht := fh_f c4 ht
      refine ro_f c4 ?_
      obtain ⟨r5, e_r5, ht⟩ := fh_b ht
      refine ro_c (u_Mo_isIn e_r5) (fun z hz => ?_)
      subst hz
      by_cases c3 : r5 = 0
      · replace ht := fh_t c3 ht
        refine ro_t c3 ?_
        obtain rfl := Option.some.inj ht
        exact ro_s rfl
      · replace ht := fh_f c3 ht
        refine ro_f c3 ?_
        refine ro_b (oi_a (hC.1 0 0 (by decide)) rfl) ?_
        obtain ⟨x7, e_x7, ht⟩ := fh_b ht
        refine ro_b ((ai_i (hC.1 5 0 (by decide))).trans e_x7) ?_
        by_cases c2 : x7 = (-1)
        · replace ht := fh_t c2 ht
          refine ro_t c2 ?_
          exact B56 a1 a2 a3 ht
        · replace ht := fh_f c2 ht
          refine ro_f c2 ?_
          refine ro_b (oi_a (hC.1 0 0 (by decide)) rfl) ?_
          obtain ⟨x9, e_x9, ht⟩ := fh_b ht
          refine ro_b ((ai_i (hC.1 5 0 (by decide))).trans e_x9) ?_
          by_cases c1 : a2 < x9
          · replace ht := fh_t c1 ht
            refine ro_t c1 ?_
            exact B56 a1 a2 a3 ht
          · replace ht := fh_f c1 ht
            refine ro_f c1 ?_
            obtain rfl := Option.some.inj ht
            exact ro_s rfl
def tb_Mo_isHeld_87 (N : Nat)  (S : MS) : Option (Int32 × MS) :=
  (some (ms_foundM S)).bind fun x1 => if x1 ≤ 0 then (some (0, S)) else (some (1, S))
def tb_Mo_isHeld_81 (N : Nat) (k21 : Int32 → MS → Option (Int32 × MS)) (v2 : Int32) (S : MS) : Option (Int32 × MS) :=
  (some (v2 + 1)).bind fun x1 => k21 x1 S
def tb_Mo_isHeld_75 (N : Nat) (k21 : Int32 → MS → Option (Int32 × MS)) (k36 : Int32 → Int32 → MS → Option (Int32 × MS)) (v2 : Int32) (v3 : Int32) (S : MS) : Option (Int32 × MS) :=
  (some (v3 + 1)).bind fun x1 => k36 v2 x1 S
def tb_Mo_isHeld_36 (N : Nat) (k21 : Int32 → MS → Option (Int32 × MS)) (k36 : Int32 → Int32 → MS → Option (Int32 × MS)) (v2 : Int32) (v3 : Int32) (S : MS) : Option (Int32 × MS) :=
  if 10 ≤ v3 then (tb_Mo_isHeld_81 N k21 v2 S) else ((some (ms_foundM S)).bind fun x1 => if x1 = 0 then (if v2 = v3 then (tb_Mo_isHeld_75 N k21 k36 v2 v3 S) else ((t_Mo_isAlways N 8 v2 v3 S).bind fun r3 => if r3.1 = 0 then (tb_Mo_isHeld_75 N k21 k36 v2 v3 r3.2) else ((some (ms_set_foundM r3.2 v2)).bind fun S4 => (some (ms_set_foundN S4 v3)).bind fun S5 => tb_Mo_isHeld_75 N k21 k36 v2 v3 S5))) else (tb_Mo_isHeld_81 N k21 v2 S))
def tl_Mo_isHeld_36 (N : Nat) (k21 : Int32 → MS → Option (Int32 × MS)) : Nat → Int32 → Int32 → MS → Option (Int32 × MS)
  | 0, _, _, _ => none
  | n + 1, v2, v3, S => tb_Mo_isHeld_36 N k21 (tl_Mo_isHeld_36 N k21 n) v2 v3 S
def tb_Mo_isHeld_21 (N : Nat) (k21 : Int32 → MS → Option (Int32 × MS)) (v2 : Int32) (S : MS) : Option (Int32 × MS) :=
  if 10 ≤ v2 then (tb_Mo_isHeld_87 N S) else ((some (ms_foundM S)).bind fun x1 => if x1 = 0 then (tl_Mo_isHeld_36 N k21 N v2 1 S) else (tb_Mo_isHeld_87 N S))
def tl_Mo_isHeld_21 (N : Nat) : Nat → Int32 → MS → Option (Int32 × MS)
  | 0, _, _ => none
  | n + 1, v2, S => tb_Mo_isHeld_21 N (tl_Mo_isHeld_21 N n) v2 S
def t_Mo_isHeld (N : Nat) (a1 : Int32) (S0 : MS) : Option (Int32 × MS) :=
  if 8 ≤ a1 then ((some (ms_set_foundM S0 0)).bind fun S1 => tl_Mo_isHeld_21 N N 1 S1) else ((t_Mo_isAlways N a1 0 0 S0).bind fun r3 => (tz r3.1).bind fun zz => some (zz, r3.2))
set_option maxHeartbeats 4000000 in
theorem u_Mo_isHeld {K : Nat → ClassId} {N : Nat} {a1 : Int32} {h0 : fh_H} {S0 : MS} {res : Int32 × MS} {L : Nat → Nat → Nat} {hb : fh_H} (hL : ms_I L) (ht : t_Mo_isHeld N a1 S0 = some res) (hC : ms_W K L hb h0 S0) : RO (fun z => z.1 = res.1 ∧ ms_W K L hb z.2 res.2) (f_Mo_isHeld K N (L 0 0) a1 h0) := by
  have B87 : ∀  (S : MS) (h : fh_H), ms_W K L hb h S → tb_Mo_isHeld_87 N  S = some res → RO (fun z => z.1 = res.1 ∧ ms_W K L hb z.2 res.2) (b_Mo_isHeld_87 K N (L 0 0)  h) := by
    intro  S h hC ht
    unfold tb_Mo_isHeld_87 at ht
    unfold b_Mo_isHeld_87
    obtain ⟨x1, e_x1, ht⟩ := fh_b ht
    refine ro_b ((oi_i (hC.1 0 0 (by decide)) rfl).trans e_x1) ?_
    by_cases c1 : x1 ≤ 0
    · replace ht := fh_t c1 ht
      refine ro_t c1 ?_
      obtain rfl := Option.some.inj ht
      exact ro_s ⟨rfl, hC⟩
    · replace ht := fh_f c1 ht
      refine ro_f c1 ?_
      obtain rfl := Option.some.inj ht
      exact ro_s ⟨rfl, hC⟩
  have L21 : ∀ (n21 : Nat) (v2 : Int32) (S : MS) (h : fh_H), ms_W K L hb h S → tl_Mo_isHeld_21 N n21 v2 S = some res → RO (fun z => z.1 = res.1 ∧ ms_W K L hb z.2 res.2) (l_Mo_isHeld_21 K N (L 0 0) n21 v2 h) := by
    intro n21
    induction n21 with
    | zero =>
      intro v2 S h hC ht
      exact fh_no ht
    | succ n21 ih21 =>
      have B81 : ∀ (v2 : Int32) (S : MS) (h : fh_H), ms_W K L hb h S → tb_Mo_isHeld_81 N (tl_Mo_isHeld_21 N n21) v2 S = some res → RO (fun z => z.1 = res.1 ∧ ms_W K L hb z.2 res.2) (b_Mo_isHeld_81 K N (l_Mo_isHeld_21 K N (L 0 0) n21) (L 0 0) v2 h) := by
        intro v2 S h hC ht
        unfold tb_Mo_isHeld_81 at ht
        unfold b_Mo_isHeld_81
        obtain ⟨x1, e_x1, ht⟩ := fh_b ht
        refine ro_b e_x1 ?_
        exact ih21 x1 S _ hC ht
      have L36 : ∀ (n36 : Nat) (v2 : Int32) (v3 : Int32) (S : MS) (h : fh_H), ms_W K L hb h S → tl_Mo_isHeld_36 N (tl_Mo_isHeld_21 N n21) n36 v2 v3 S = some res → RO (fun z => z.1 = res.1 ∧ ms_W K L hb z.2 res.2) (l_Mo_isHeld_36 K N (l_Mo_isHeld_21 K N (L 0 0) n21) (L 0 0) n36 v2 v3 h) := by
        intro n36
        induction n36 with
        | zero =>
          intro v2 v3 S h hC ht
          exact fh_no ht
        | succ n36 ih36 =>
          have B75 : ∀ (v2 : Int32) (v3 : Int32) (S : MS) (h : fh_H), ms_W K L hb h S → tb_Mo_isHeld_75 N (tl_Mo_isHeld_21 N n21) (tl_Mo_isHeld_36 N (tl_Mo_isHeld_21 N n21) n36) v2 v3 S = some res → RO (fun z => z.1 = res.1 ∧ ms_W K L hb z.2 res.2) (b_Mo_isHeld_75 K N (l_Mo_isHeld_21 K N (L 0 0) n21) (l_Mo_isHeld_36 K N (l_Mo_isHeld_21 K N (L 0 0) n21) (L 0 0) n36) (L 0 0) v2 v3 h) := by
            intro v2 v3 S h hC ht
            unfold tb_Mo_isHeld_75 at ht
            unfold b_Mo_isHeld_75
            obtain ⟨x1, e_x1, ht⟩ := fh_b ht
            refine ro_b e_x1 ?_
            exact ih36 v2 x1 S _ hC ht
          intro v2 v3 S h hC ht
          have ht : tb_Mo_isHeld_36 N (tl_Mo_isHeld_21 N n21) (tl_Mo_isHeld_36 N (tl_Mo_isHeld_21 N n21) n36) v2 v3 S = some res := ht
          show RO _ (b_Mo_isHeld_36 K N (l_Mo_isHeld_21 K N (L 0 0) n21) (l_Mo_isHeld_36 K N (l_Mo_isHeld_21 K N (L 0 0) n21) (L 0 0) n36) (L 0 0) v2 v3 h)
          unfold tb_Mo_isHeld_36 at ht
          unfold b_Mo_isHeld_36
          by_cases c4 : 10 ≤ v3
          · replace ht := fh_t c4 ht
            refine ro_t c4 ?_
            exact B81 v2 S _ hC ht
          · replace ht := fh_f c4 ht
            refine ro_f c4 ?_
            obtain ⟨x1, e_x1, ht⟩ := fh_b ht
            refine ro_b ((oi_i (hC.1 0 0 (by decide)) rfl).trans e_x1) ?_
            by_cases c3 : x1 = 0
            · replace ht := fh_t c3 ht
              refine ro_t c3 ?_
              by_cases c2 : v2 = v3
              · replace ht := fh_t c2 ht
                refine ro_t c2 ?_
                exact B75 v2 v3 S _ hC ht
              · replace ht := fh_f c2 ht
                refine ro_f c2 ?_
                refine ro_b (oi_o (hC.1 0 0 (by decide))) ?_
                obtain ⟨r3, e_r3, ht⟩ := fh_b ht
                refine ro_c (u_Mo_isAlways hL e_r3 hC) (fun z hz => ?_)
                obtain ⟨z1, h⟩ := z
                obtain ⟨ez, hC⟩ := hz
                dsimp only at ez hC
                subst ez
                by_cases c1 : r3.1 = 0
                · replace ht := fh_t c1 ht
                  refine ro_t c1 ?_
                  exact B75 v2 v3 r3.2 _ hC ht
                · replace ht := fh_f c1 ht
                  refine ro_f c1 ?_
                  obtain ⟨S4, e_S4, ht⟩ := fh_b ht
                  refine ro_c (G1 := (fun z => ms_W K L hb z S4)) ⟨_, oi_p (hC.1 0 0 (by decide)) (Nat.le_of_ble_eq_true rfl), by rw [← Option.some.inj e_S4]; exact ms_w_foundM hL hC rfl⟩ (fun h hC => ?_)
                  obtain ⟨S5, e_S5, ht⟩ := fh_b ht
                  refine ro_c (G1 := (fun z => ms_W K L hb z S5)) ⟨_, oi_p (hC.1 0 0 (by decide)) (Nat.le_of_ble_eq_true rfl), by rw [← Option.some.inj e_S5]; exact ms_w_foundN hL hC rfl⟩ (fun h hC => ?_)
                  exact B75 v2 v3 S5 _ hC ht
            · replace ht := fh_f c3 ht
              refine ro_f c3 ?_
              exact B81 v2 S _ hC ht
      intro v2 S h hC ht
      have ht : tb_Mo_isHeld_21 N (tl_Mo_isHeld_21 N n21) v2 S = some res := ht
      show RO _ (b_Mo_isHeld_21 K N (l_Mo_isHeld_21 K N (L 0 0) n21) (L 0 0) v2 h)
      unfold tb_Mo_isHeld_21 at ht
      unfold b_Mo_isHeld_21
      by_cases c2 : 10 ≤ v2
      · replace ht := fh_t c2 ht
        refine ro_t c2 ?_
        exact B87 S _ hC ht
      · replace ht := fh_f c2 ht
        refine ro_f c2 ?_
        obtain ⟨x1, e_x1, ht⟩ := fh_b ht
        refine ro_b ((oi_i (hC.1 0 0 (by decide)) rfl).trans e_x1) ?_
        by_cases c1 : x1 = 0
        · replace ht := fh_t c1 ht
          refine ro_t c1 ?_
          exact L36 N v2 1 S _ hC ht
        · replace ht := fh_f c1 ht
          refine ro_f c1 ?_
          exact B87 S _ hC ht
  unfold t_Mo_isHeld at ht
  unfold f_Mo_isHeld
  by_cases c1 : 8 ≤ a1
  · replace ht := fh_t c1 ht
    refine ro_t c1 ?_
    obtain ⟨S1, e_S1, ht⟩ := fh_b ht
    refine ro_c (G1 := (fun z => ms_W K L hb z S1)) ⟨_, oi_p (hC.1 0 0 (by decide)) (Nat.le_of_ble_eq_true rfl), by rw [← Option.some.inj e_S1]; exact ms_w_foundM hL hC rfl⟩ (fun h hC => ?_)
    exact L21 N 1 S1 _ hC ht
  · replace ht := fh_f c1 ht
    refine ro_f c1 ?_
    refine ro_b (oi_o (hC.1 0 0 (by decide))) ?_
    obtain ⟨r3, e_r3, ht⟩ := fh_b ht
    refine ro_c (u_Mo_isAlways hL e_r3 hC) (fun z hz => ?_)
    obtain ⟨z1, h⟩ := z
    obtain ⟨ez, hC⟩ := hz
    dsimp only at ez hC
    subst ez
    obtain ⟨zz, e_zz, ht⟩ := fh_b ht
    obtain ⟨hz, rfl⟩ := tz_s e_zz
    obtain rfl := Option.some.inj ht
    exact ro_z hz ⟨rfl, hC⟩
def t_Mo_isBefore (N : Nat)  (S0 : MS) : Option (Int32) :=
  (ta 6 (ms_row S0) 0).bind fun x2 => (ta 6 (ms_row S0) 3).bind fun x4 => if x2 = x4 then ((ta 6 (ms_row S0) 1).bind fun x6 => (ta 6 (ms_row S0) 4).bind fun x8 => if x6 = x8 then ((ta 6 (ms_row S0) 2).bind fun x10 => (ta 6 (ms_row S0) 5).bind fun x12 => if x12 ≤ x10 then (some 0) else (some 1)) else ((ta 6 (ms_row S0) 1).bind fun x14 => (ta 6 (ms_row S0) 4).bind fun x16 => if x16 ≤ x14 then (some 0) else (some 1))) else ((ta 6 (ms_row S0) 0).bind fun x18 => (ta 6 (ms_row S0) 3).bind fun x20 => if x20 ≤ x18 then (some 0) else (some 1))
set_option maxHeartbeats 4000000 in
theorem u_Mo_isBefore {K : Nat → ClassId} {N : Nat} {h0 : fh_H} {S0 : MS} {res : Int32} {L : Nat → Nat → Nat} {hb : fh_H} (hL : ms_I L) (ht : t_Mo_isBefore N  S0 = some res) (hC : ms_W K L hb h0 S0) : RO (fun z => (res, h0) = z) (f_Mo_isBefore K N (L 0 0)  h0) := by
  unfold t_Mo_isBefore at ht
  unfold f_Mo_isBefore
  refine ro_b (oi_a (hC.1 0 0 (by decide)) rfl) ?_
  obtain ⟨x2, e_x2, ht⟩ := fh_b ht
  refine ro_b ((ai_i (hC.1 6 0 (by decide))).trans e_x2) ?_
  refine ro_b (oi_a (hC.1 0 0 (by decide)) rfl) ?_
  obtain ⟨x4, e_x4, ht⟩ := fh_b ht
  refine ro_b ((ai_i (hC.1 6 0 (by decide))).trans e_x4) ?_
  by_cases c5 : x2 = x4
  · replace ht := fh_t c5 ht
    refine ro_t c5 ?_
    refine ro_b (oi_a (hC.1 0 0 (by decide)) rfl) ?_
    obtain ⟨x6, e_x6, ht⟩ := fh_b ht
    refine ro_b ((ai_i (hC.1 6 0 (by decide))).trans e_x6) ?_
    refine ro_b (oi_a (hC.1 0 0 (by decide)) rfl) ?_
    obtain ⟨x8, e_x8, ht⟩ := fh_b ht
    refine ro_b ((ai_i (hC.1 6 0 (by decide))).trans e_x8) ?_
    by_cases c3 : x6 = x8
    · replace ht := fh_t c3 ht
      refine ro_t c3 ?_
      refine ro_b (oi_a (hC.1 0 0 (by decide)) rfl) ?_
      obtain ⟨x10, e_x10, ht⟩ := fh_b ht
      refine ro_b ((ai_i (hC.1 6 0 (by decide))).trans e_x10) ?_
      refine ro_b (oi_a (hC.1 0 0 (by decide)) rfl) ?_
      obtain ⟨x12, e_x12, ht⟩ := fh_b ht
      refine ro_b ((ai_i (hC.1 6 0 (by decide))).trans e_x12) ?_
      by_cases c1 : x12 ≤ x10
      · replace ht := fh_t c1 ht
        refine ro_t c1 ?_
        obtain rfl := Option.some.inj ht
        exact ro_s rfl
      · replace ht := fh_f c1 ht
        refine ro_f c1 ?_
        obtain rfl := Option.some.inj ht
        exact ro_s rfl
    · replace ht := fh_f c3 ht
      refine ro_f c3 ?_
      refine ro_b (oi_a (hC.1 0 0 (by decide)) rfl) ?_
      obtain ⟨x14, e_x14, ht⟩ := fh_b ht
      refine ro_b ((ai_i (hC.1 6 0 (by decide))).trans e_x14) ?_
      refine ro_b (oi_a (hC.1 0 0 (by decide)) rfl) ?_
      obtain ⟨x16, e_x16, ht⟩ := fh_b ht
      refine ro_b ((ai_i (hC.1 6 0 (by decide))).trans e_x16) ?_
      by_cases c2 : x16 ≤ x14
      · replace ht := fh_t c2 ht
        refine ro_t c2 ?_
        obtain rfl := Option.some.inj ht
        exact ro_s rfl
      · replace ht := fh_f c2 ht
        refine ro_f c2 ?_
        obtain rfl := Option.some.inj ht
        exact ro_s rfl
  · replace ht := fh_f c5 ht
    refine ro_f c5 ?_
    refine ro_b (oi_a (hC.1 0 0 (by decide)) rfl) ?_
    obtain ⟨x18, e_x18, ht⟩ := fh_b ht
    refine ro_b ((ai_i (hC.1 6 0 (by decide))).trans e_x18) ?_
    refine ro_b (oi_a (hC.1 0 0 (by decide)) rfl) ?_
    obtain ⟨x20, e_x20, ht⟩ := fh_b ht
    refine ro_b ((ai_i (hC.1 6 0 (by decide))).trans e_x20) ?_
    by_cases c4 : x20 ≤ x18
    · replace ht := fh_t c4 ht
      refine ro_t c4 ?_
      obtain rfl := Option.some.inj ht
      exact ro_s rfl
    · replace ht := fh_f c4 ht
      refine ro_f c4 ?_
      obtain rfl := Option.some.inj ht
      exact ro_s rfl
