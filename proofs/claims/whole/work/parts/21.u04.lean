def t_Mo_centre (N : Nat) (a1 : Int32) (a2 : Int32) (a3 : Int32) (S0 : MS) : Option (MS) :=
  (t_Mo_cross N a1 a2 a1 a3 S0).bind fun r2 => (t_Mo_mod N (2 * r2)).bind fun r3 => if (lg_cmp r3 0) = 0 then ((tz 1).bind fun z39 => (some (ms_set_isFallen S0 z39)).bind fun S39 => some S39) else ((t_Mo_inverse N r3).bind fun r4 => (t_Mo_dot N a1 a2 a1 a2 S0).bind fun r6 => (t_Mo_dot N a1 a3 a1 a3 S0).bind fun r8 => (t_Mo_px N a1 S0).bind fun r10 => (t_Mo_py N a3 S0).bind fun r12 => (t_Mo_py N a1 S0).bind fun r14 => (t_Mo_mod N (r12 - r14)).bind fun r15 => (t_Mo_py N a2 S0).bind fun r17 => (t_Mo_py N a1 S0).bind fun r19 => (t_Mo_mod N (r17 - r19)).bind fun r20 => (t_Mo_mod N ((r15 * r6) - (r20 * r8))).bind fun r21 => (t_Mo_mod N (r10 + (r21 * r4))).bind fun r22 => (some (ms_set_px S0 r22)).bind fun S23 => (t_Mo_py N a1 S23).bind fun r25 => (t_Mo_px N a2 S23).bind fun r27 => (t_Mo_px N a1 S23).bind fun r29 => (t_Mo_mod N (r27 - r29)).bind fun r30 => (t_Mo_px N a3 S23).bind fun r32 => (t_Mo_px N a1 S23).bind fun r34 => (t_Mo_mod N (r32 - r34)).bind fun r35 => (t_Mo_mod N ((r30 * r8) - (r35 * r6))).bind fun r36 => (t_Mo_mod N (r25 + (r36 * r4))).bind fun r37 => (some (ms_set_py S23 r37)).bind fun S38 => some S38)
set_option maxHeartbeats 4000000 in
theorem u_Mo_centre {K : Nat → ClassId} {N : Nat} {a1 : Int32} {a2 : Int32} {a3 : Int32} {h0 : fh_H} {S0 : MS} {res : MS} {L : Nat → Nat → Nat} {hb : fh_H} (hL : ms_I L) (ht : t_Mo_centre N a1 a2 a3 S0 = some res) (hC : ms_W K L hb h0 S0) : RO (fun z => ms_W K L hb z res) (f_Mo_centre K N (L 0 0) a1 a2 a3 h0) := by
  unfold t_Mo_centre at ht
  unfold f_Mo_centre
  refine ro_b (oi_o (hC.1 0 0 (by decide))) ?_
  obtain ⟨r2, e_r2, ht⟩ := fh_b ht
  refine ro_c (u_Mo_cross hL e_r2 hC) (fun z hz => ?_)
  subst hz
  obtain ⟨r3, e_r3, ht⟩ := fh_b ht
  refine ro_c (u_Mo_mod e_r3) (fun z hz => ?_)
  subst hz
  by_cases c1 : (lg_cmp r3 0) = 0
  · replace ht := fh_t c1 ht
    refine ro_t c1 ?_
    obtain ⟨z39, e_z39, ht⟩ := fh_b ht
    obtain ⟨hz_z39, ez_z39⟩ := tz_s e_z39
    obtain ⟨S39, e_S39, ht⟩ := fh_b ht
    refine ro_c (G1 := (fun z => ms_W K L hb z S39)) ⟨_, oi_z (hC.1 0 0 (by decide)) (Nat.le_of_ble_eq_true rfl) hz_z39, by rw [← Option.some.inj e_S39, ← ez_z39]; exact ms_w_isFallen hL hC rfl⟩ (fun h hC => ?_)
    obtain rfl := Option.some.inj ht
    exact ro_s hC
  · replace ht := fh_f c1 ht
    refine ro_f c1 ?_
    obtain ⟨r4, e_r4, ht⟩ := fh_b ht
    refine ro_c (u_Mo_inverse e_r4) (fun z hz => ?_)
    subst hz
    refine ro_b (oi_o (hC.1 0 0 (by decide))) ?_
    obtain ⟨r6, e_r6, ht⟩ := fh_b ht
    refine ro_c (u_Mo_dot hL e_r6 hC) (fun z hz => ?_)
    subst hz
    refine ro_b (oi_o (hC.1 0 0 (by decide))) ?_
    obtain ⟨r8, e_r8, ht⟩ := fh_b ht
    refine ro_c (u_Mo_dot hL e_r8 hC) (fun z hz => ?_)
    subst hz
    refine ro_b (oi_o (hC.1 0 0 (by decide))) ?_
    obtain ⟨r10, e_r10, ht⟩ := fh_b ht
    refine ro_c (u_Mo_px hL e_r10 hC) (fun z hz => ?_)
    subst hz
    refine ro_b (oi_o (hC.1 0 0 (by decide))) ?_
    obtain ⟨r12, e_r12, ht⟩ := fh_b ht
    refine ro_c (u_Mo_py hL e_r12 hC) (fun z hz => ?_)
    subst hz
    refine ro_b (oi_o (hC.1 0 0 (by decide))) ?_
    obtain ⟨r14, e_r14, ht⟩ := fh_b ht
    refine ro_c (u_Mo_py hL e_r14 hC) (fun z hz => ?_)
    subst hz
    obtain ⟨r15, e_r15, ht⟩ := fh_b ht
    refine ro_c (u_Mo_mod e_r15) (fun z hz => ?_)
    subst hz
    refine ro_b (oi_o (hC.1 0 0 (by decide))) ?_
    obtain ⟨r17, e_r17, ht⟩ := fh_b ht
    refine ro_c (u_Mo_py hL e_r17 hC) (fun z hz => ?_)
    subst hz
    refine ro_b (oi_o (hC.1 0 0 (by decide))) ?_
    obtain ⟨r19, e_r19, ht⟩ := fh_b ht
    refine ro_c (u_Mo_py hL e_r19 hC) (fun z hz => ?_)
    subst hz
    obtain ⟨r20, e_r20, ht⟩ := fh_b ht
    refine ro_c (u_Mo_mod e_r20) (fun z hz => ?_)
    subst hz
    obtain ⟨r21, e_r21, ht⟩ := fh_b ht
    refine ro_c (u_Mo_mod e_r21) (fun z hz => ?_)
    subst hz
    obtain ⟨r22, e_r22, ht⟩ := fh_b ht
    refine ro_c (u_Mo_mod e_r22) (fun z hz => ?_)
    subst hz
    obtain ⟨S23, e_S23, ht⟩ := fh_b ht
    refine ro_c (G1 := (fun z => ms_W K L hb z S23)) ⟨_, oi_p (hC.1 0 0 (by decide)) (Nat.le_of_ble_eq_true rfl), by rw [← Option.some.inj e_S23]; exact ms_w_px hL hC rfl⟩ (fun h hC => ?_)
    refine ro_b (oi_o (hC.1 0 0 (by decide))) ?_
    obtain ⟨r25, e_r25, ht⟩ := fh_b ht
    refine ro_c (u_Mo_py hL e_r25 hC) (fun z hz => ?_)
    subst hz
    refine ro_b (oi_o (hC.1 0 0 (by decide))) ?_
    obtain ⟨r27, e_r27, ht⟩ := fh_b ht
    refine ro_c (u_Mo_px hL e_r27 hC) (fun z hz => ?_)
    subst hz
    refine ro_b (oi_o (hC.1 0 0 (by decide))) ?_
    obtain ⟨r29, e_r29, ht⟩ := fh_b ht
    refine ro_c (u_Mo_px hL e_r29 hC) (fun z hz => ?_)
    subst hz
    obtain ⟨r30, e_r30, ht⟩ := fh_b ht
    refine ro_c (u_Mo_mod e_r30) (fun z hz => ?_)
    subst hz
    refine ro_b (oi_o (hC.1 0 0 (by decide))) ?_
    obtain ⟨r32, e_r32, ht⟩ := fh_b ht
    refine ro_c (u_Mo_px hL e_r32 hC) (fun z hz => ?_)
    subst hz
    refine ro_b (oi_o (hC.1 0 0 (by decide))) ?_
    obtain ⟨r34, e_r34, ht⟩ := fh_b ht
    refine ro_c (u_Mo_px hL e_r34 hC) (fun z hz => ?_)
    subst hz
    obtain ⟨r35, e_r35, ht⟩ := fh_b ht
    refine ro_c (u_Mo_mod e_r35) (fun z hz => ?_)
    subst hz
    obtain ⟨r36, e_r36, ht⟩ := fh_b ht
    refine ro_c (u_Mo_mod e_r36) (fun z hz => ?_)
    subst hz
    obtain ⟨r37, e_r37, ht⟩ := fh_b ht
    refine ro_c (u_Mo_mod e_r37) (fun z hz => ?_)
    subst hz
    obtain ⟨S38, e_S38, ht⟩ := fh_b ht
    refine ro_c (G1 := (fun z => ms_W K L hb z S38)) ⟨_, oi_p (hC.1 0 0 (by decide)) (Nat.le_of_ble_eq_true rfl), by rw [← Option.some.inj e_S38]; exact ms_w_py hL hC rfl⟩ (fun h hC => ?_)
    obtain rfl := Option.some.inj ht
    exact ro_s hC
def t_Mo_meet (N : Nat) (a1 : Int32) (a2 : Int32) (a3 : Int32) (a4 : Int32) (S0 : MS) : Option (MS) :=
  (t_Mo_cross N a1 a2 a3 a4 S0).bind fun r2 => if (lg_cmp r2 0) = 0 then ((tz 1).bind fun z8 => (some (ms_set_isFallen S0 z8)).bind fun S8 => some S8) else ((t_Mo_cross N a1 a3 a3 a4 S0).bind fun r4 => (t_Mo_inverse N r2).bind fun r5 => (t_Mo_along N a1 a2 (fr_l (r4 * r5) 1000003) S0).bind fun r7 => some r7)
set_option maxHeartbeats 4000000 in
theorem u_Mo_meet {K : Nat → ClassId} {N : Nat} {a1 : Int32} {a2 : Int32} {a3 : Int32} {a4 : Int32} {h0 : fh_H} {S0 : MS} {res : MS} {L : Nat → Nat → Nat} {hb : fh_H} (hL : ms_I L) (ht : t_Mo_meet N a1 a2 a3 a4 S0 = some res) (hC : ms_W K L hb h0 S0) : RO (fun z => ms_W K L hb z res) (f_Mo_meet K N (L 0 0) a1 a2 a3 a4 h0) := by
  unfold t_Mo_meet at ht
  unfold f_Mo_meet
  refine ro_b (oi_o (hC.1 0 0 (by decide))) ?_
  obtain ⟨r2, e_r2, ht⟩ := fh_b ht
  refine ro_c (u_Mo_cross hL e_r2 hC) (fun z hz => ?_)
  subst hz
  by_cases c1 : (lg_cmp r2 0) = 0
  · replace ht := fh_t c1 ht
    refine ro_t c1 ?_
    obtain ⟨z8, e_z8, ht⟩ := fh_b ht
    obtain ⟨hz_z8, ez_z8⟩ := tz_s e_z8
    obtain ⟨S8, e_S8, ht⟩ := fh_b ht
    refine ro_c (G1 := (fun z => ms_W K L hb z S8)) ⟨_, oi_z (hC.1 0 0 (by decide)) (Nat.le_of_ble_eq_true rfl) hz_z8, by rw [← Option.some.inj e_S8, ← ez_z8]; exact ms_w_isFallen hL hC rfl⟩ (fun h hC => ?_)
    obtain rfl := Option.some.inj ht
    exact ro_s hC
  · replace ht := fh_f c1 ht
    refine ro_f c1 ?_
    refine ro_b (oi_o (hC.1 0 0 (by decide))) ?_
    obtain ⟨r4, e_r4, ht⟩ := fh_b ht
    refine ro_c (u_Mo_cross hL e_r4 hC) (fun z hz => ?_)
    subst hz
    obtain ⟨r5, e_r5, ht⟩ := fh_b ht
    refine ro_c (u_Mo_inverse e_r5) (fun z hz => ?_)
    subst hz
    refine ro_b (oi_o (hC.1 0 0 (by decide))) ?_
    obtain ⟨r7, e_r7, ht⟩ := fh_b ht
    refine ro_c (u_Mo_along hL e_r7 hC) (fun h hC => ?_)
    obtain rfl := Option.some.inj ht
    exact ro_s hC
def t_Mo_round (N : Nat) (a1 : Int32) (a2 : Int32) (a3 : Int64) (S0 : MS) : Option (MS) :=
  (t_Mo_mod N (1 + (a3 * a3))).bind fun r1 => if (lg_cmp r1 0) = 0 then ((tz 1).bind fun z22 => (some (ms_set_isFallen S0 z22)).bind fun S22 => some S22) else ((t_Mo_px N a2 S0).bind fun r3 => (t_Mo_px N a1 S0).bind fun r5 => (t_Mo_py N a2 S0).bind fun r7 => (t_Mo_py N a1 S0).bind fun r9 => (t_Mo_mod N (r7 - r9)).bind fun r10 => (t_Mo_mod N ((r3 - r5) + (a3 * r10))).bind fun r11 => (t_Mo_inverse N r1).bind fun r12 => (t_Mo_mod N ((fr_l (2 * r11) 1000003) * r12)).bind fun r13 => (t_Mo_px N a2 S0).bind fun r15 => (t_Mo_mod N (r15 - r13)).bind fun r16 => (some (ms_set_px S0 r16)).bind fun S17 => (t_Mo_py N a2 S17).bind fun r19 => (t_Mo_mod N (r19 - (r13 * a3))).bind fun r20 => (some (ms_set_py S17 r20)).bind fun S21 => some S21)
set_option maxHeartbeats 4000000 in
theorem u_Mo_round {K : Nat → ClassId} {N : Nat} {a1 : Int32} {a2 : Int32} {a3 : Int64} {h0 : fh_H} {S0 : MS} {res : MS} {L : Nat → Nat → Nat} {hb : fh_H} (hL : ms_I L) (ht : t_Mo_round N a1 a2 a3 S0 = some res) (hC : ms_W K L hb h0 S0) : RO (fun z => ms_W K L hb z res) (f_Mo_round K N (L 0 0) a1 a2 a3 h0) := by
  unfold t_Mo_round at ht
  unfold f_Mo_round
  obtain ⟨r1, e_r1, ht⟩ := fh_b ht
  refine ro_c (u_Mo_mod e_r1) (fun z hz => ?_)
  subst hz
  by_cases c1 : (lg_cmp r1 0) = 0
  · replace ht := fh_t c1 ht
    refine ro_t c1 ?_
    obtain ⟨z22, e_z22, ht⟩ := fh_b ht
    obtain ⟨hz_z22, ez_z22⟩ := tz_s e_z22
    obtain ⟨S22, e_S22, ht⟩ := fh_b ht
    refine ro_c (G1 := (fun z => ms_W K L hb z S22)) ⟨_, oi_z (hC.1 0 0 (by decide)) (Nat.le_of_ble_eq_true rfl) hz_z22, by rw [← Option.some.inj e_S22, ← ez_z22]; exact ms_w_isFallen hL hC rfl⟩ (fun h hC => ?_)
    obtain rfl := Option.some.inj ht
    exact ro_s hC
  · replace ht := fh_f c1 ht
    refine ro_f c1 ?_
    refine ro_b (oi_o (hC.1 0 0 (by decide))) ?_
    obtain ⟨r3, e_r3, ht⟩ := fh_b ht
    refine ro_c (u_Mo_px hL e_r3 hC) (fun z hz => ?_)
    subst hz
    refine ro_b (oi_o (hC.1 0 0 (by decide))) ?_
    obtain ⟨r5, e_r5, ht⟩ := fh_b ht
    refine ro_c (u_Mo_px hL e_r5 hC) (fun z hz => ?_)
    subst hz
    refine ro_b (oi_o (hC.1 0 0 (by decide))) ?_
    obtain ⟨r7, e_r7, ht⟩ := fh_b ht
    refine ro_c (u_Mo_py hL e_r7 hC) (fun z hz => ?_)
    subst hz
    refine ro_b (oi_o (hC.1 0 0 (by decide))) ?_
    obtain ⟨r9, e_r9, ht⟩ := fh_b ht
    refine ro_c (u_Mo_py hL e_r9 hC) (fun z hz => ?_)
    subst hz
    obtain ⟨r10, e_r10, ht⟩ := fh_b ht
    refine ro_c (u_Mo_mod e_r10) (fun z hz => ?_)
    subst hz
    obtain ⟨r11, e_r11, ht⟩ := fh_b ht
    refine ro_c (u_Mo_mod e_r11) (fun z hz => ?_)
    subst hz
    obtain ⟨r12, e_r12, ht⟩ := fh_b ht
    refine ro_c (u_Mo_inverse e_r12) (fun z hz => ?_)
    subst hz
    obtain ⟨r13, e_r13, ht⟩ := fh_b ht
    refine ro_c (u_Mo_mod e_r13) (fun z hz => ?_)
    subst hz
    refine ro_b (oi_o (hC.1 0 0 (by decide))) ?_
    obtain ⟨r15, e_r15, ht⟩ := fh_b ht
    refine ro_c (u_Mo_px hL e_r15 hC) (fun z hz => ?_)
    subst hz
    obtain ⟨r16, e_r16, ht⟩ := fh_b ht
    refine ro_c (u_Mo_mod e_r16) (fun z hz => ?_)
    subst hz
    obtain ⟨S17, e_S17, ht⟩ := fh_b ht
    refine ro_c (G1 := (fun z => ms_W K L hb z S17)) ⟨_, oi_p (hC.1 0 0 (by decide)) (Nat.le_of_ble_eq_true rfl), by rw [← Option.some.inj e_S17]; exact ms_w_px hL hC rfl⟩ (fun h hC => ?_)
    refine ro_b (oi_o (hC.1 0 0 (by decide))) ?_
    obtain ⟨r19, e_r19, ht⟩ := fh_b ht
    refine ro_c (u_Mo_py hL e_r19 hC) (fun z hz => ?_)
    subst hz
    obtain ⟨r20, e_r20, ht⟩ := fh_b ht
    refine ro_c (u_Mo_mod e_r20) (fun z hz => ?_)
    subst hz
    obtain ⟨S21, e_S21, ht⟩ := fh_b ht
    refine ro_c (G1 := (fun z => ms_W K L hb z S21)) ⟨_, oi_p (hC.1 0 0 (by decide)) (Nat.le_of_ble_eq_true rfl), by rw [← Option.some.inj e_S21]; exact ms_w_py hL hC rfl⟩ (fun h hC => ?_)
    obtain rfl := Option.some.inj ht
    exact ro_s hC
def t_Mo_turnOut (N : Nat) (a1 : Int32) (a2 : Int32) (a3 : Int32) (S0 : MS) : Option (MS) :=
  (t_Mo_dot N a2 a1 a2 a1 S0).bind fun r2 => if (lg_cmp r2 0) = 0 then ((tz 1).bind fun z8 => (some (ms_set_isFallen S0 z8)).bind fun S8 => some S8) else ((t_Mo_dot N a2 a3 a2 a3 S0).bind fun r4 => (t_Mo_inverse N r2).bind fun r5 => (t_Mo_along N a2 a1 (fr_l (r4 * r5) 1000003) S0).bind fun r7 => some r7)
set_option maxHeartbeats 4000000 in
theorem u_Mo_turnOut {K : Nat → ClassId} {N : Nat} {a1 : Int32} {a2 : Int32} {a3 : Int32} {h0 : fh_H} {S0 : MS} {res : MS} {L : Nat → Nat → Nat} {hb : fh_H} (hL : ms_I L) (ht : t_Mo_turnOut N a1 a2 a3 S0 = some res) (hC : ms_W K L hb h0 S0) : RO (fun z => ms_W K L hb z res) (f_Mo_turnOut K N (L 0 0) a1 a2 a3 h0) := by
  unfold t_Mo_turnOut at ht
  unfold f_Mo_turnOut
  refine ro_b (oi_o (hC.1 0 0 (by decide))) ?_
  obtain ⟨r2, e_r2, ht⟩ := fh_b ht
  refine ro_c (u_Mo_dot hL e_r2 hC) (fun z hz => ?_)
  subst hz
  by_cases c1 : (lg_cmp r2 0) = 0
  · replace ht := fh_t c1 ht
    refine ro_t c1 ?_
    obtain ⟨z8, e_z8, ht⟩ := fh_b ht
    obtain ⟨hz_z8, ez_z8⟩ := tz_s e_z8
    obtain ⟨S8, e_S8, ht⟩ := fh_b ht
    refine ro_c (G1 := (fun z => ms_W K L hb z S8)) ⟨_, oi_z (hC.1 0 0 (by decide)) (Nat.le_of_ble_eq_true rfl) hz_z8, by rw [← Option.some.inj e_S8, ← ez_z8]; exact ms_w_isFallen hL hC rfl⟩ (fun h hC => ?_)
    obtain rfl := Option.some.inj ht
    exact ro_s hC
  · replace ht := fh_f c1 ht
    refine ro_f c1 ?_
    refine ro_b (oi_o (hC.1 0 0 (by decide))) ?_
    obtain ⟨r4, e_r4, ht⟩ := fh_b ht
    refine ro_c (u_Mo_dot hL e_r4 hC) (fun z hz => ?_)
    subst hz
    obtain ⟨r5, e_r5, ht⟩ := fh_b ht
    refine ro_c (u_Mo_inverse e_r5) (fun z hz => ?_)
    subst hz
    refine ro_b (oi_o (hC.1 0 0 (by decide))) ?_
    obtain ⟨r7, e_r7, ht⟩ := fh_b ht
    refine ro_c (u_Mo_along hL e_r7 hC) (fun h hC => ?_)
    obtain rfl := Option.some.inj ht
    exact ro_s hC
def tb_Mo_doMore_200 (N : Nat) (v2 : Int32) (S : MS) : Option (MS) :=
  (some (ms_px S)).bind fun x1 => (t_Mo_px N v2 S).bind fun r3 => (t_Mo_mod N ((2 * x1) - r3)).bind fun r4 => (some (ms_set_px S r4)).bind fun S5 => (some (ms_py S5)).bind fun x6 => (t_Mo_py N v2 S5).bind fun r8 => (t_Mo_mod N ((2 * x6) - r8)).bind fun r9 => (some (ms_set_py S5 r9)).bind fun S10 => some S10
def t_Mo_doMore (N : Nat) (a1 : Int32) (a2 : Int32) (a3 : Int32) (a4 : Int32) (a5 : Int32) (S0 : MS) : Option (MS) :=
  if a1 = 7 then ((t_Mo_px N a3 S0).bind fun r4 => (t_Mo_py N a2 S0).bind fun r6 => (t_Mo_py N a3 S0).bind fun r8 => (t_Mo_mod N ((r4 - r6) + r8)).bind fun r9 => (some (ms_set_px S0 r9)).bind fun S10 => (t_Mo_py N a3 S10).bind fun r12 => (t_Mo_px N a2 S10).bind fun r14 => (t_Mo_px N a3 S10).bind fun r16 => (t_Mo_mod N ((r12 + r14) - r16)).bind fun r17 => (some (ms_set_py S10 r17)).bind fun S18 => some S18) else (if a1 = 8 then ((t_Mo_px N a2 S0).bind fun r20 => (t_Mo_px N a4 S0).bind fun r22 => (t_Mo_px N a3 S0).bind fun r24 => (t_Mo_mod N ((r20 + r22) - r24)).bind fun r25 => (some (ms_set_px S0 r25)).bind fun S26 => (t_Mo_py N a2 S26).bind fun r28 => (t_Mo_py N a4 S26).bind fun r30 => (t_Mo_py N a3 S26).bind fun r32 => (t_Mo_mod N ((r28 + r30) - r32)).bind fun r33 => (some (ms_set_py S26 r33)).bind fun S34 => some S34) else (if a1 = 9 then ((t_Mo_drawn N S0).bind fun r36 => (t_Mo_along N a2 a3 r36.1 r36.2).bind fun r38 => some r38) else (if a1 = 10 then ((t_Mo_drawn N S0).bind fun r40 => (t_Mo_round N a2 a3 r40.1 r40.2).bind fun r42 => some r42) else (if a1 = 11 then ((t_Mo_centre N a2 a4 a5 S0).bind fun r44 => (some (ms_isFallen r44)).bind fun x45 => if x45 = 0 then ((some (ms_px r44)).bind fun x46 => (some (ms_py r44)).bind fun x47 => (t_Mo_foot N x46 x47 a2 a3 r44).bind fun r49 => tb_Mo_doMore_200 N a2 r49) else (tb_Mo_doMore_200 N a2 r44)) else (if a1 = 12 then ((t_Mo_px N a2 S0).bind fun r51 => (t_Mo_px N a3 S0).bind fun r53 => (t_Mo_px N a4 S0).bind fun r55 => (t_Mo_inverse N 3).bind fun r56 => (t_Mo_mod N (((r51 + r53) + r55) * r56)).bind fun r57 => (some (ms_set_px S0 r57)).bind fun S58 => (t_Mo_py N a2 S58).bind fun r60 => (t_Mo_py N a3 S58).bind fun r62 => (t_Mo_py N a4 S58).bind fun r64 => (t_Mo_inverse N 3).bind fun r65 => (t_Mo_mod N (((r60 + r62) + r64) * r65)).bind fun r66 => (some (ms_set_py S58 r66)).bind fun S67 => some S67) else ((t_Mo_turnOut N a2 a3 a4 S0).bind fun r2 => some r2))))))
set_option maxHeartbeats 4000000 in
theorem u_Mo_doMore {K : Nat → ClassId} {N : Nat} {a1 : Int32} {a2 : Int32} {a3 : Int32} {a4 : Int32} {a5 : Int32} {h0 : fh_H} {S0 : MS} {res : MS} {L : Nat → Nat → Nat} {hb : fh_H} (hL : ms_I L) (ht : t_Mo_doMore N a1 a2 a3 a4 a5 S0 = some res) (hC : ms_W K L hb h0 S0) : RO (fun z => ms_W K L hb z res) (f_Mo_doMore K N (L 0 0) a1 a2 a3 a4 a5 h0) := by
  have B200 : ∀ (v2 : Int32) (S : MS) (h : fh_H), ms_W K L hb h S → tb_Mo_doMore_200 N v2 S = some res → RO (fun z => ms_W K L hb z res) (b_Mo_doMore_200 K N (L 0 0) v2 h) := by
    intro v2 S h hC ht
    unfold tb_Mo_doMore_200 at ht
    unfold b_Mo_doMore_200
    obtain ⟨x1, e_x1, ht⟩ := fh_b ht
    refine ro_b ((oi_l (hC.1 0 0 (by decide)) rfl).trans e_x1) ?_
    refine ro_b (oi_o (hC.1 0 0 (by decide))) ?_
    obtain ⟨r3, e_r3, ht⟩ := fh_b ht
    refine ro_c (u_Mo_px hL e_r3 hC) (fun z hz => ?_)
    subst hz
    obtain ⟨r4, e_r4, ht⟩ := fh_b ht
    refine ro_c (u_Mo_mod e_r4) (fun z hz => ?_)
    subst hz
    obtain ⟨S5, e_S5, ht⟩ := fh_b ht
    refine ro_c (G1 := (fun z => ms_W K L hb z S5)) ⟨_, oi_p (hC.1 0 0 (by decide)) (Nat.le_of_ble_eq_true rfl), by rw [← Option.some.inj e_S5]; exact ms_w_px hL hC rfl⟩ (fun h hC => ?_)
    obtain ⟨x6, e_x6, ht⟩ := fh_b ht
    refine ro_b ((oi_l (hC.1 0 0 (by decide)) rfl).trans e_x6) ?_
    refine ro_b (oi_o (hC.1 0 0 (by decide))) ?_
    obtain ⟨r8, e_r8, ht⟩ := fh_b ht
    refine ro_c (u_Mo_py hL e_r8 hC) (fun z hz => ?_)
    subst hz
    obtain ⟨r9, e_r9, ht⟩ := fh_b ht
    refine ro_c (u_Mo_mod e_r9) (fun z hz => ?_)
    subst hz
    obtain ⟨S10, e_S10, ht⟩ := fh_b ht
    refine ro_c (G1 := (fun z => ms_W K L hb z S10)) ⟨_, oi_p (hC.1 0 0 (by decide)) (Nat.le_of_ble_eq_true rfl), by rw [← Option.some.inj e_S10]; exact ms_w_py hL hC rfl⟩ (fun h hC => ?_)
    obtain rfl := Option.some.inj ht
    exact ro_s hC
  unfold t_Mo_doMore at ht
  unfold f_Mo_doMore
  by_cases c7 : a1 = 7
  · replace ht := fh_t c7 ht
    refine ro_t c7 ?_
    refine ro_b (oi_o (hC.1 0 0 (by decide))) ?_
    obtain ⟨r4, e_r4, ht⟩ := fh_b ht
    refine ro_c (u_Mo_px hL e_r4 hC) (fun z hz => ?_)
    subst hz
    refine ro_b (oi_o (hC.1 0 0 (by decide))) ?_
    obtain ⟨r6, e_r6, ht⟩ := fh_b ht
    refine ro_c (u_Mo_py hL e_r6 hC) (fun z hz => ?_)
    subst hz
    refine ro_b (oi_o (hC.1 0 0 (by decide))) ?_
    obtain ⟨r8, e_r8, ht⟩ := fh_b ht
    refine ro_c (u_Mo_py hL e_r8 hC) (fun z hz => ?_)
    subst hz
    obtain ⟨r9, e_r9, ht⟩ := fh_b ht
    refine ro_c (u_Mo_mod e_r9) (fun z hz => ?_)
    subst hz
    obtain ⟨S10, e_S10, ht⟩ := fh_b ht
    refine ro_c (G1 := (fun z => ms_W K L hb z S10)) ⟨_, oi_p (hC.1 0 0 (by decide)) (Nat.le_of_ble_eq_true rfl), by rw [← Option.some.inj e_S10]; exact ms_w_px hL hC rfl⟩ (fun h hC => ?_)
    refine ro_b (oi_o (hC.1 0 0 (by decide))) ?_
    obtain ⟨r12, e_r12, ht⟩ := fh_b ht
    refine ro_c (u_Mo_py hL e_r12 hC) (fun z hz => ?_)
    subst hz
    refine ro_b (oi_o (hC.1 0 0 (by decide))) ?_
    obtain ⟨r14, e_r14, ht⟩ := fh_b ht
    refine ro_c (u_Mo_px hL e_r14 hC) (fun z hz => ?_)
    subst hz
    refine ro_b (oi_o (hC.1 0 0 (by decide))) ?_
    obtain ⟨r16, e_r16, ht⟩ := fh_b ht
    refine ro_c (u_Mo_px hL e_r16 hC) (fun z hz => ?_)
    subst hz
    obtain ⟨r17, e_r17, ht⟩ := fh_b ht
    refine ro_c (u_Mo_mod e_r17) (fun z hz => ?_)
    subst hz
    obtain ⟨S18, e_S18, ht⟩ := fh_b ht
    refine ro_c (G1 := (fun z => ms_W K L hb z S18)) ⟨_, oi_p (hC.1 0 0 (by decide)) (Nat.le_of_ble_eq_true rfl), by rw [← Option.some.inj e_S18]; exact ms_w_py hL hC rfl⟩ (fun h hC => ?_)
    obtain rfl := Option.some.inj ht
    exact ro_s hC
  · replace ht := fh_f c7 ht
    refine ro_f c7 ?_
    by_cases c6 : a1 = 8
    · replace ht := fh_t c6 ht
      refine ro_t c6 ?_
      refine ro_b (oi_o (hC.1 0 0 (by decide))) ?_
      obtain ⟨r20, e_r20, ht⟩ := fh_b ht
      refine ro_c (u_Mo_px hL e_r20 hC) (fun z hz => ?_)
      subst hz
      refine ro_b (oi_o (hC.1 0 0 (by decide))) ?_
      obtain ⟨r22, e_r22, ht⟩ := fh_b ht
      refine ro_c (u_Mo_px hL e_r22 hC) (fun z hz => ?_)
      subst hz
      refine ro_b (oi_o (hC.1 0 0 (by decide))) ?_
      obtain ⟨r24, e_r24, ht⟩ := fh_b ht
      refine ro_c (u_Mo_px hL e_r24 hC) (fun z hz => ?_)
      subst hz
      obtain ⟨r25, e_r25, ht⟩ := fh_b ht
      refine ro_c (u_Mo_mod e_r25) (fun z hz => ?_)
      subst hz
      obtain ⟨S26, e_S26, ht⟩ := fh_b ht
      refine ro_c (G1 := (fun z => ms_W K L hb z S26)) ⟨_, oi_p (hC.1 0 0 (by decide)) (Nat.le_of_ble_eq_true rfl), by rw [← Option.some.inj e_S26]; exact ms_w_px hL hC rfl⟩ (fun h hC => ?_)
      refine ro_b (oi_o (hC.1 0 0 (by decide))) ?_
      obtain ⟨r28, e_r28, ht⟩ := fh_b ht
      refine ro_c (u_Mo_py hL e_r28 hC) (fun z hz => ?_)
      subst hz
      refine ro_b (oi_o (hC.1 0 0 (by decide))) ?_
      obtain ⟨r30, e_r30, ht⟩ := fh_b ht
      refine ro_c (u_Mo_py hL e_r30 hC) (fun z hz => ?_)
      subst hz
      refine ro_b (oi_o (hC.1 0 0 (by decide))) ?_
      obtain ⟨r32, e_r32, ht⟩ := fh_b ht
      refine ro_c (u_Mo_py hL e_r32 hC) (fun z hz => ?_)
      subst hz
      obtain ⟨r33, e_r33, ht⟩ := fh_b ht
      refine ro_c (u_Mo_mod e_r33) (fun z hz => ?_)
      subst hz
      obtain ⟨S34, e_S34, ht⟩ := fh_b ht
      refine ro_c (G1 := (fun z => ms_W K L hb z S34)) ⟨_, oi_p (hC.1 0 0 (by decide)) (Nat.le_of_ble_eq_true rfl), by rw [← Option.some.inj e_S34]; exact ms_w_py hL hC rfl⟩ (fun h hC => ?_)
      obtain rfl := Option.some.inj ht
      exact ro_s hC
    · replace ht := fh_f c6 ht
      refine ro_f c6 ?_
      by_cases c5 : a1 = 9
      · replace ht := fh_t c5 ht
        refine ro_t c5 ?_
        refine ro_b (oi_o (hC.1 0 0 (by decide))) ?_
        obtain ⟨r36, e_r36, ht⟩ := fh_b ht
        refine ro_c (u_Mo_drawn hL e_r36 hC) (fun z hz => ?_)
        obtain ⟨z1, h⟩ := z
        obtain ⟨ez, hC⟩ := hz
        dsimp only at ez hC
        subst ez
        refine ro_b (oi_o (hC.1 0 0 (by decide))) ?_
        obtain ⟨r38, e_r38, ht⟩ := fh_b ht
        refine ro_c (u_Mo_along hL e_r38 hC) (fun h hC => ?_)
        obtain rfl := Option.some.inj ht
        exact ro_s hC
      · replace ht := fh_f c5 ht
        refine ro_f c5 ?_
        by_cases c4 : a1 = 10
        · replace ht := fh_t c4 ht
          refine ro_t c4 ?_
          refine ro_b (oi_o (hC.1 0 0 (by decide))) ?_
          obtain ⟨r40, e_r40, ht⟩ := fh_b ht
          refine ro_c (u_Mo_drawn hL e_r40 hC) (fun z hz => ?_)
          obtain ⟨z1, h⟩ := z
          obtain ⟨ez, hC⟩ := hz
          dsimp only at ez hC
          subst ez
          refine ro_b (oi_o (hC.1 0 0 (by decide))) ?_
          obtain ⟨r42, e_r42, ht⟩ := fh_b ht
          refine ro_c (u_Mo_round hL e_r42 hC) (fun h hC => ?_)
          obtain rfl := Option.some.inj ht
          exact ro_s hC
        · replace ht := fh_f c4 ht
          refine ro_f c4 ?_
          by_cases c3 : a1 = 11
          · replace ht := fh_t c3 ht
            refine ro_t c3 ?_
            refine ro_b (oi_o (hC.1 0 0 (by decide))) ?_
            obtain ⟨r44, e_r44, ht⟩ := fh_b ht
            refine ro_c (u_Mo_centre hL e_r44 hC) (fun h hC => ?_)
            obtain ⟨x45, e_x45, ht⟩ := fh_b ht
            refine ro_b ((oi_i (hC.1 0 0 (by decide)) rfl).trans e_x45) ?_
            by_cases c1 : x45 = 0
            · replace ht := fh_t c1 ht
              refine ro_t c1 ?_
              obtain ⟨x46, e_x46, ht⟩ := fh_b ht
              refine ro_b ((oi_l (hC.1 0 0 (by decide)) rfl).trans e_x46) ?_
              obtain ⟨x47, e_x47, ht⟩ := fh_b ht
              refine ro_b ((oi_l (hC.1 0 0 (by decide)) rfl).trans e_x47) ?_
              refine ro_b (oi_o (hC.1 0 0 (by decide))) ?_
              obtain ⟨r49, e_r49, ht⟩ := fh_b ht
              refine ro_c (u_Mo_foot hL e_r49 hC) (fun h hC => ?_)
              exact B200 a2 r49 _ hC ht
            · replace ht := fh_f c1 ht
              refine ro_f c1 ?_
              exact B200 a2 r44 _ hC ht
          · replace ht := fh_f c3 ht
            refine ro_f c3 ?_
            by_cases c2 : a1 = 12
            · replace ht := fh_t c2 ht
              refine ro_t c2 ?_
              refine ro_b (oi_o (hC.1 0 0 (by decide))) ?_
              obtain ⟨r51, e_r51, ht⟩ := fh_b ht
              refine ro_c (u_Mo_px hL e_r51 hC) (fun z hz => ?_)
              subst hz
              refine ro_b (oi_o (hC.1 0 0 (by decide))) ?_
              obtain ⟨r53, e_r53, ht⟩ := fh_b ht
              refine ro_c (u_Mo_px hL e_r53 hC) (fun z hz => ?_)
              subst hz
              refine ro_b (oi_o (hC.1 0 0 (by decide))) ?_
              obtain ⟨r55, e_r55, ht⟩ := fh_b ht
              refine ro_c (u_Mo_px hL e_r55 hC) (fun z hz => ?_)
              subst hz
              obtain ⟨r56, e_r56, ht⟩ := fh_b ht
              refine ro_c (u_Mo_inverse e_r56) (fun z hz => ?_)
              subst hz
              obtain ⟨r57, e_r57, ht⟩ := fh_b ht
              refine ro_c (u_Mo_mod e_r57) (fun z hz => ?_)
              subst hz
              obtain ⟨S58, e_S58, ht⟩ := fh_b ht
              refine ro_c (G1 := (fun z => ms_W K L hb z S58)) ⟨_, oi_p (hC.1 0 0 (by decide)) (Nat.le_of_ble_eq_true rfl), by rw [← Option.some.inj e_S58]; exact ms_w_px hL hC rfl⟩ (fun h hC => ?_)
              refine ro_b (oi_o (hC.1 0 0 (by decide))) ?_
              obtain ⟨r60, e_r60, ht⟩ := fh_b ht
              refine ro_c (u_Mo_py hL e_r60 hC) (fun z hz => ?_)
              subst hz
              refine ro_b (oi_o (hC.1 0 0 (by decide))) ?_
              obtain ⟨r62, e_r62, ht⟩ := fh_b ht
              refine ro_c (u_Mo_py hL e_r62 hC) (fun z hz => ?_)
              subst hz
              refine ro_b (oi_o (hC.1 0 0 (by decide))) ?_
              obtain ⟨r64, e_r64, ht⟩ := fh_b ht
              refine ro_c (u_Mo_py hL e_r64 hC) (fun z hz => ?_)
              subst hz
              obtain ⟨r65, e_r65, ht⟩ := fh_b ht
              refine ro_c (u_Mo_inverse e_r65) (fun z hz => ?_)
              subst hz
              obtain ⟨r66, e_r66, ht⟩ := fh_b ht
              refine ro_c (u_Mo_mod e_r66) (fun z hz => ?_)
              subst hz
              obtain ⟨S67, e_S67, ht⟩ := fh_b ht
              refine ro_c (G1 := (fun z => ms_W K L hb z S67)) ⟨_, oi_p (hC.1 0 0 (by decide)) (Nat.le_of_ble_eq_true rfl), by rw [← Option.some.inj e_S67]; exact ms_w_py hL hC rfl⟩ (fun h hC => ?_)
              obtain rfl := Option.some.inj ht
              exact ro_s hC
            · replace ht := fh_f c2 ht
              refine ro_f c2 ?_
              refine ro_b (oi_o (hC.1 0 0 (by decide))) ?_
              obtain ⟨r2, e_r2, ht⟩ := fh_b ht
              refine ro_c (u_Mo_turnOut hL e_r2 hC) (fun h hC => ?_)
              obtain rfl := Option.some.inj ht
              exact ro_s hC
def t_Mo_doStep (N : Nat) (a1 : Int32) (a2 : Int32) (a3 : Int32) (a4 : Int32) (a5 : Int32) (S0 : MS) : Option (MS) :=
  if a1 = 0 then ((t_Mo_drawn N S0).bind fun r4 => (some (ms_set_px r4.2 r4.1)).bind fun S5 => (t_Mo_drawn N S5).bind fun r7 => (some (ms_set_py r7.2 r7.1)).bind fun S8 => some S8) else (if a1 = 1 then ((t_Mo_inverse N 2).bind fun r9 => (t_Mo_along N a2 a3 r9 S0).bind fun r11 => some r11) else (if a1 = 2 then ((t_Mo_px N a2 S0).bind fun r13 => (t_Mo_py N a2 S0).bind fun r15 => (t_Mo_foot N r13 r15 a3 a4 S0).bind fun r17 => some r17) else (if a1 = 3 then ((t_Mo_meet N a2 a3 a4 a5 S0).bind fun r19 => some r19) else (if a1 = 4 then ((t_Mo_centre N a2 a3 a4 S0).bind fun r21 => some r21) else (if a1 = 5 then ((t_Mo_centre N a2 a3 a4 S0).bind fun r23 => (t_Mo_px N a2 r23).bind fun r25 => (t_Mo_px N a3 r23).bind fun r27 => (t_Mo_px N a4 r23).bind fun r29 => (some (ms_px r23)).bind fun x30 => (t_Mo_mod N (((r25 + r27) + r29) - (2 * x30))).bind fun r31 => (some (ms_set_px r23 r31)).bind fun S32 => (t_Mo_py N a2 S32).bind fun r34 => (t_Mo_py N a3 S32).bind fun r36 => (t_Mo_py N a4 S32).bind fun r38 => (some (ms_py S32)).bind fun x39 => (t_Mo_mod N (((r34 + r36) + r38) - (2 * x39))).bind fun r40 => (some (ms_set_py S32 r40)).bind fun S41 => some S41) else (if a1 = 6 then ((t_Mo_px N a2 S0).bind fun r43 => (t_Mo_py N a2 S0).bind fun r45 => (t_Mo_foot N r43 r45 a3 a4 S0).bind fun r47 => (some (ms_px r47)).bind fun x48 => (t_Mo_px N a2 r47).bind fun r50 => (t_Mo_mod N ((2 * x48) - r50)).bind fun r51 => (some (ms_set_px r47 r51)).bind fun S52 => (some (ms_py S52)).bind fun x53 => (t_Mo_py N a2 S52).bind fun r55 => (t_Mo_mod N ((2 * x53) - r55)).bind fun r56 => (some (ms_set_py S52 r56)).bind fun S57 => some S57) else ((t_Mo_doMore N a1 a2 a3 a4 a5 S0).bind fun r2 => some r2)))))))
set_option maxHeartbeats 4000000 in
theorem u_Mo_doStep {K : Nat → ClassId} {N : Nat} {a1 : Int32} {a2 : Int32} {a3 : Int32} {a4 : Int32} {a5 : Int32} {h0 : fh_H} {S0 : MS} {res : MS} {L : Nat → Nat → Nat} {hb : fh_H} (hL : ms_I L) (ht : t_Mo_doStep N a1 a2 a3 a4 a5 S0 = some res) (hC : ms_W K L hb h0 S0) : RO (fun z => ms_W K L hb z res) (f_Mo_doStep K N (L 0 0) a1 a2 a3 a4 a5 h0) := by
  unfold t_Mo_doStep at ht
  unfold f_Mo_doStep
  by_cases c7 : a1 = 0
  · replace ht := fh_t c7 ht
    refine ro_t c7 ?_
    refine ro_b (oi_o (hC.1 0 0 (by decide))) ?_
    obtain ⟨r4, e_r4, ht⟩ := fh_b ht
    refine ro_c (u_Mo_drawn hL e_r4 hC) (fun z hz => ?_)
    obtain ⟨z1, h⟩ := z
    obtain ⟨ez, hC⟩ := hz
    dsimp only at ez hC
    subst ez
    obtain ⟨S5, e_S5, ht⟩ := fh_b ht
    refine ro_c (G1 := (fun z => ms_W K L hb z S5)) ⟨_, oi_p (hC.1 0 0 (by decide)) (Nat.le_of_ble_eq_true rfl), by rw [← Option.some.inj e_S5]; exact ms_w_px hL hC rfl⟩ (fun h hC => ?_)
    refine ro_b (oi_o (hC.1 0 0 (by decide))) ?_
    obtain ⟨r7, e_r7, ht⟩ := fh_b ht
    refine ro_c (u_Mo_drawn hL e_r7 hC) (fun z hz => ?_)
    obtain ⟨z1, h⟩ := z
    obtain ⟨ez, hC⟩ := hz
    dsimp only at ez hC
    subst ez
    obtain ⟨S8, e_S8, ht⟩ := fh_b ht
    refine ro_c (G1 := (fun z => ms_W K L hb z S8)) ⟨_, oi_p (hC.1 0 0 (by decide)) (Nat.le_of_ble_eq_true rfl), by rw [← Option.some.inj e_S8]; exact ms_w_py hL hC rfl⟩ (fun h hC => ?_)
    obtain rfl := Option.some.inj ht
    exact ro_s hC
  · replace ht := fh_f c7 ht
    refine ro_f c7 ?_
    by_cases c6 : a1 = 1
    · replace ht := fh_t c6 ht
      refine ro_t c6 ?_
      obtain ⟨r9, e_r9, ht⟩ := fh_b ht
      refine ro_c (u_Mo_inverse e_r9) (fun z hz => ?_)
      subst hz
      refine ro_b (oi_o (hC.1 0 0 (by decide))) ?_
      obtain ⟨r11, e_r11, ht⟩ := fh_b ht
      refine ro_c (u_Mo_along hL e_r11 hC) (fun h hC => ?_)
      obtain rfl := Option.some.inj ht
      exact ro_s hC
    · replace ht := fh_f c6 ht
      refine ro_f c6 ?_
      by_cases c5 : a1 = 2
      · replace ht := fh_t c5 ht
        refine ro_t c5 ?_
        refine ro_b (oi_o (hC.1 0 0 (by decide))) ?_
        obtain ⟨r13, e_r13, ht⟩ := fh_b ht
        refine ro_c (u_Mo_px hL e_r13 hC) (fun z hz => ?_)
        subst hz
        refine ro_b (oi_o (hC.1 0 0 (by decide))) ?_
        obtain ⟨r15, e_r15, ht⟩ := fh_b ht
        refine ro_c (u_Mo_py hL e_r15 hC) (fun z hz => ?_)
        subst hz
        refine ro_b (oi_o (hC.1 0 0 (by decide))) ?_
        obtain ⟨r17, e_r17, ht⟩ := fh_b ht
        refine ro_c (u_Mo_foot hL e_r17 hC) (fun h hC => ?_)
        obtain rfl := Option.some.inj ht
        exact ro_s hC
      · replace ht := fh_f c5 ht
        refine ro_f c5 ?_
        by_cases c4 : a1 = 3
        · replace ht := fh_t c4 ht
          refine ro_t c4 ?_
          refine ro_b (oi_o (hC.1 0 0 (by decide))) ?_
          obtain ⟨r19, e_r19, ht⟩ := fh_b ht
          refine ro_c (u_Mo_meet hL e_r19 hC) (fun h hC => ?_)
          obtain rfl := Option.some.inj ht
          exact ro_s hC
        · replace ht := fh_f c4 ht
          refine ro_f c4 ?_
          by_cases c3 : a1 = 4
          · replace ht := fh_t c3 ht
            refine ro_t c3 ?_
            refine ro_b (oi_o (hC.1 0 0 (by decide))) ?_
            obtain ⟨r21, e_r21, ht⟩ := fh_b ht
            refine ro_c (u_Mo_centre hL e_r21 hC) (fun h hC => ?_)
            obtain rfl := Option.some.inj ht
            exact ro_s hC
          · replace ht := fh_f c3 ht
            refine ro_f c3 ?_
            by_cases c2 : a1 = 5
            · replace ht := fh_t c2 ht
              refine ro_t c2 ?_
              refine ro_b (oi_o (hC.1 0 0 (by decide))) ?_
              obtain ⟨r23, e_r23, ht⟩ := fh_b ht
              refine ro_c (u_Mo_centre hL e_r23 hC) (fun h hC => ?_)
              refine ro_b (oi_o (hC.1 0 0 (by decide))) ?_
              obtain ⟨r25, e_r25, ht⟩ := fh_b ht
              refine ro_c (u_Mo_px hL e_r25 hC) (fun z hz => ?_)
              subst hz
              refine ro_b (oi_o (hC.1 0 0 (by decide))) ?_
              obtain ⟨r27, e_r27, ht⟩ := fh_b ht
              refine ro_c (u_Mo_px hL e_r27 hC) (fun z hz => ?_)
              subst hz
              refine ro_b (oi_o (hC.1 0 0 (by decide))) ?_
              obtain ⟨r29, e_r29, ht⟩ := fh_b ht
              refine ro_c (u_Mo_px hL e_r29 hC) (fun z hz => ?_)
              subst hz
              obtain ⟨x30, e_x30, ht⟩ := fh_b ht
              refine ro_b ((oi_l (hC.1 0 0 (by decide)) rfl).trans e_x30) ?_
              obtain ⟨r31, e_r31, ht⟩ := fh_b ht
              refine ro_c (u_Mo_mod e_r31) (fun z hz => ?_)
              subst hz
              obtain ⟨S32, e_S32, ht⟩ := fh_b ht
              refine ro_c (G1 := (fun z => ms_W K L hb z S32)) ⟨_, oi_p (hC.1 0 0 (by decide)) (Nat.le_of_ble_eq_true rfl), by rw [← Option.some.inj e_S32]; exact ms_w_px hL hC rfl⟩ (fun h hC => ?_)
              refine ro_b (oi_o (hC.1 0 0 (by decide))) ?_
              obtain ⟨r34, e_r34, ht⟩ := fh_b ht
              refine ro_c (u_Mo_py hL e_r34 hC) (fun z hz => ?_)
              subst hz
              refine ro_b (oi_o (hC.1 0 0 (by decide))) ?_
              obtain ⟨r36, e_r36, ht⟩ := fh_b ht
              refine ro_c (u_Mo_py hL e_r36 hC) (fun z hz => ?_)
              subst hz
              refine ro_b (oi_o (hC.1 0 0 (by decide))) ?_
              obtain ⟨r38, e_r38, ht⟩ := fh_b ht
              refine ro_c (u_Mo_py hL e_r38 hC) (fun z hz => ?_)
              subst hz
              obtain ⟨x39, e_x39, ht⟩ := fh_b ht
              refine ro_b ((oi_l (hC.1 0 0 (by decide)) rfl).trans e_x39) ?_
              obtain ⟨r40, e_r40, ht⟩ := fh_b ht
              refine ro_c (u_Mo_mod e_r40) (fun z hz => ?_)
              subst hz
              obtain ⟨S41, e_S41, ht⟩ := fh_b ht
              refine ro_c (G1 := (fun z => ms_W K L hb z S41)) ⟨_, oi_p (hC.1 0 0 (by decide)) (Nat.le_of_ble_eq_true rfl), by rw [← Option.some.inj e_S41]; exact ms_w_py hL hC rfl⟩ (fun h hC => ?_)
              obtain rfl := Option.some.inj ht
              exact ro_s hC
            · replace ht := fh_f c2 ht
              refine ro_f c2 ?_
              by_cases c1 : a1 = 6
              · replace ht := fh_t c1 ht
                refine ro_t c1 ?_
                refine ro_b (oi_o (hC.1 0 0 (by decide))) ?_
                obtain ⟨r43, e_r43, ht⟩ := fh_b ht
                refine ro_c (u_Mo_px hL e_r43 hC) (fun z hz => ?_)
                subst hz
                refine ro_b (oi_o (hC.1 0 0 (by decide))) ?_
                obtain ⟨r45, e_r45, ht⟩ := fh_b ht
                refine ro_c (u_Mo_py hL e_r45 hC) (fun z hz => ?_)
                subst hz
                refine ro_b (oi_o (hC.1 0 0 (by decide))) ?_
                obtain ⟨r47, e_r47, ht⟩ := fh_b ht
                refine ro_c (u_Mo_foot hL e_r47 hC) (fun h hC => ?_)
                obtain ⟨x48, e_x48, ht⟩ := fh_b ht
                refine ro_b ((oi_l (hC.1 0 0 (by decide)) rfl).trans e_x48) ?_
                refine ro_b (oi_o (hC.1 0 0 (by decide))) ?_
                obtain ⟨r50, e_r50, ht⟩ := fh_b ht
                refine ro_c (u_Mo_px hL e_r50 hC) (fun z hz => ?_)
                subst hz
                obtain ⟨r51, e_r51, ht⟩ := fh_b ht
                refine ro_c (u_Mo_mod e_r51) (fun z hz => ?_)
                subst hz
                obtain ⟨S52, e_S52, ht⟩ := fh_b ht
                refine ro_c (G1 := (fun z => ms_W K L hb z S52)) ⟨_, oi_p (hC.1 0 0 (by decide)) (Nat.le_of_ble_eq_true rfl), by rw [← Option.some.inj e_S52]; exact ms_w_px hL hC rfl⟩ (fun h hC => ?_)
                obtain ⟨x53, e_x53, ht⟩ := fh_b ht
                refine ro_b ((oi_l (hC.1 0 0 (by decide)) rfl).trans e_x53) ?_
                refine ro_b (oi_o (hC.1 0 0 (by decide))) ?_
                obtain ⟨r55, e_r55, ht⟩ := fh_b ht
                refine ro_c (u_Mo_py hL e_r55 hC) (fun z hz => ?_)
                subst hz
                obtain ⟨r56, e_r56, ht⟩ := fh_b ht
                refine ro_c (u_Mo_mod e_r56) (fun z hz => ?_)
                subst hz
                obtain ⟨S57, e_S57, ht⟩ := fh_b ht
                refine ro_c (G1 := (fun z => ms_W K L hb z S57)) ⟨_, oi_p (hC.1 0 0 (by decide)) (Nat.le_of_ble_eq_true rfl), by rw [← Option.some.inj e_S57]; exact ms_w_py hL hC rfl⟩ (fun h hC => ?_)
                obtain rfl := Option.some.inj ht
                exact ro_s hC
              · replace ht := fh_f c1 ht
                refine ro_f c1 ?_
                refine ro_b (oi_o (hC.1 0 0 (by decide))) ?_
                obtain ⟨r2, e_r2, ht⟩ := fh_b ht
                refine ro_c (u_Mo_doMore hL e_r2 hC) (fun h hC => ?_)
                obtain rfl := Option.some.inj ht
                exact ro_s hC
def tb_Mo_drawFigure_148 (N : Nat) (k30 : Int32 → Int32 → MS → Option (MS)) (v1 : Int32) (v2 : Int32) (w1 : Int32) (w2 : Int32) (S : MS) : Option (MS) :=
  (twi 5 (ms_fallsAt S) w1 w2).bind fun F1 => (some (ms_set_fallsAt S F1)).bind fun S1 => (some (v2 + 1)).bind fun x2 => k30 v1 x2 S1
def tb_Mo_drawFigure_30 (N : Nat) (k30 : Int32 → Int32 → MS → Option (MS)) (v1 : Int32) (v2 : Int32) (S : MS) : Option (MS) :=
  (some (ms_many S)).bind fun x1 => if x1 ≤ v2 then (some S) else ((ta 5 (ms_fallsAt S) v1).bind fun x3 => if x3 = (-1) then ((tz 0).bind fun z4 => (some (ms_set_isFallen S z4)).bind fun S4 => (ta 10 (ms_kindOf S4) v2).bind fun x6 => (ta 40 (ms_need S4) (4 * v2)).bind fun x8 => (ta 40 (ms_need S4) ((4 * v2) + 1)).bind fun x10 => (ta 40 (ms_need S4) ((4 * v2) + 2)).bind fun x12 => (ta 40 (ms_need S4) ((4 * v2) + 3)).bind fun x14 => (t_Mo_doStep N x6 x8 x10 x12 x14 S4).bind fun r16 => (some (ms_px r16)).bind fun x18 => (twl 50 (ms_xs r16) ((10 * v1) + v2) x18).bind fun F19 => (some (ms_set_xs r16 F19)).bind fun S19 => (some (ms_py S19)).bind fun x21 => (twl 50 (ms_ys S19) ((10 * v1) + v2) x21).bind fun F22 => (some (ms_set_ys S19 F22)).bind fun S22 => (some (ms_isFallen S22)).bind fun x24 => if x24 = 0 then (tb_Mo_drawFigure_148 N k30 v1 v2 v1 (-1) S22) else (tb_Mo_drawFigure_148 N k30 v1 v2 v1 v2 S22)) else (some S))
def tl_Mo_drawFigure_30 (N : Nat) : Nat → Int32 → Int32 → MS → Option (MS)
  | 0, _, _, _ => none
  | n + 1, v1, v2, S => tb_Mo_drawFigure_30 N (tl_Mo_drawFigure_30 N n) v1 v2 S
def t_Mo_drawFigure (N : Nat) (a1 : Int32) (S0 : MS) : Option (MS) :=
  (some (ms_set_figure S0 a1)).bind fun S1 => (some (ms_seed S1)).bind fun x2 => (some (ms_set_rnd S1 (x2.toInt64 + (1000 * a1.toInt64)))).bind fun S3 => (twi 5 (ms_fallsAt S3) a1 (-1)).bind fun F5 => (some (ms_set_fallsAt S3 F5)).bind fun S5 => tl_Mo_drawFigure_30 N N a1 0 S5
set_option maxHeartbeats 4000000 in
theorem u_Mo_drawFigure {K : Nat → ClassId} {N : Nat} {a1 : Int32} {h0 : fh_H} {S0 : MS} {res : MS} {L : Nat → Nat → Nat} {hb : fh_H} (hL : ms_I L) (ht : t_Mo_drawFigure N a1 S0 = some res) (hC : ms_W K L hb h0 S0) : RO (fun z => ms_W K L hb z res) (f_Mo_drawFigure K N (L 0 0) a1 h0) := by
  have L30 : ∀ (n30 : Nat) (v1 : Int32) (v2 : Int32) (S : MS) (h : fh_H), ms_W K L hb h S → tl_Mo_drawFigure_30 N n30 v1 v2 S = some res → RO (fun z => ms_W K L hb z res) (l_Mo_drawFigure_30 K N (L 0 0) n30 v1 v2 h) := by
    intro n30
    induction n30 with
    | zero =>
      intro v1 v2 S h hC ht
      exact fh_no ht
    | succ n30 ih30 =>
      have B148 : ∀ (v1 : Int32) (v2 : Int32) (w1 : Int32) (w2 : Int32) (S : MS) (h : fh_H), ms_W K L hb h S → tb_Mo_drawFigure_148 N (tl_Mo_drawFigure_30 N n30) v1 v2 w1 w2 S = some res → RO (fun z => ms_W K L hb z res) (b_Mo_drawFigure_148 K N (l_Mo_drawFigure_30 K N (L 0 0) n30) (L 0 0) v1 v2 (some (L 5 0)) w1 w2 h) := by
        intro v1 v2 w1 w2 S h hC ht
        unfold tb_Mo_drawFigure_148 at ht
        unfold b_Mo_drawFigure_148
        obtain ⟨F1, e_F1, ht⟩ := fh_b ht
        obtain ⟨S1, e_S1, ht⟩ := fh_b ht
        refine ro_c (G1 := (fun z => ms_W K L hb z S1)) ⟨_, aw_i (hC.1 5 0 (by decide)) e_F1, by rw [← Option.some.inj e_S1]; exact ms_w_fallsAt hL hC ⟩ (fun h hC => ?_)
        obtain ⟨x2, e_x2, ht⟩ := fh_b ht
        refine ro_b e_x2 ?_
        exact ih30 v1 x2 S1 _ hC ht
      intro v1 v2 S h hC ht
      have ht : tb_Mo_drawFigure_30 N (tl_Mo_drawFigure_30 N n30) v1 v2 S = some res := ht
      show RO _ (b_Mo_drawFigure_30 K N (l_Mo_drawFigure_30 K N (L 0 0) n30) (L 0 0) v1 v2 h)
      unfold tb_Mo_drawFigure_30 at ht
      unfold b_Mo_drawFigure_30
      obtain ⟨x1, e_x1, ht⟩ := fh_b ht
      refine ro_b ((oi_i (hC.1 0 0 (by decide)) rfl).trans e_x1) ?_
      by_cases c3 : x1 ≤ v2
      · replace ht := fh_t c3 ht
        refine ro_t c3 ?_
        obtain rfl := Option.some.inj ht
        exact ro_s hC
      · replace ht := fh_f c3 ht
        refine ro_f c3 ?_
        refine ro_b (oi_a (hC.1 0 0 (by decide)) rfl) ?_
        obtain ⟨x3, e_x3, ht⟩ := fh_b ht
        refine ro_b ((ai_i (hC.1 5 0 (by decide))).trans e_x3) ?_
        by_cases c2 : x3 = (-1)
        · replace ht := fh_t c2 ht
          refine ro_t c2 ?_
          obtain ⟨z4, e_z4, ht⟩ := fh_b ht
          obtain ⟨hz_z4, ez_z4⟩ := tz_s e_z4
          obtain ⟨S4, e_S4, ht⟩ := fh_b ht
          refine ro_c (G1 := (fun z => ms_W K L hb z S4)) ⟨_, oi_z (hC.1 0 0 (by decide)) (Nat.le_of_ble_eq_true rfl) hz_z4, by rw [← Option.some.inj e_S4, ← ez_z4]; exact ms_w_isFallen hL hC rfl⟩ (fun h hC => ?_)
          refine ro_b (oi_a (hC.1 0 0 (by decide)) rfl) ?_
          obtain ⟨x6, e_x6, ht⟩ := fh_b ht
          refine ro_b ((ai_i (hC.1 1 0 (by decide))).trans e_x6) ?_
          refine ro_b (oi_a (hC.1 0 0 (by decide)) rfl) ?_
          obtain ⟨x8, e_x8, ht⟩ := fh_b ht
          refine ro_b ((ai_i (hC.1 2 0 (by decide))).trans e_x8) ?_
          refine ro_b (oi_a (hC.1 0 0 (by decide)) rfl) ?_
          obtain ⟨x10, e_x10, ht⟩ := fh_b ht
          refine ro_b ((ai_i (hC.1 2 0 (by decide))).trans e_x10) ?_
          refine ro_b (oi_a (hC.1 0 0 (by decide)) rfl) ?_
          obtain ⟨x12, e_x12, ht⟩ := fh_b ht
          refine ro_b ((ai_i (hC.1 2 0 (by decide))).trans e_x12) ?_
          refine ro_b (oi_a (hC.1 0 0 (by decide)) rfl) ?_
          obtain ⟨x14, e_x14, ht⟩ := fh_b ht
          refine ro_b ((ai_i (hC.1 2 0 (by decide))).trans e_x14) ?_
          refine ro_b (oi_o (hC.1 0 0 (by decide))) ?_
          obtain ⟨r16, e_r16, ht⟩ := fh_b ht
          refine ro_c (u_Mo_doStep hL e_r16 hC) (fun h hC => ?_)
          refine ro_b (oi_a (hC.1 0 0 (by decide)) rfl) ?_
          obtain ⟨x18, e_x18, ht⟩ := fh_b ht
          refine ro_b ((oi_l (hC.1 0 0 (by decide)) rfl).trans e_x18) ?_
          obtain ⟨F19, e_F19, ht⟩ := fh_b ht
          obtain ⟨S19, e_S19, ht⟩ := fh_b ht
          refine ro_c (G1 := (fun z => ms_W K L hb z S19)) ⟨_, aw_l (hC.1 3 0 (by decide)) e_F19, by rw [← Option.some.inj e_S19]; exact ms_w_xs hL hC ⟩ (fun h hC => ?_)
          refine ro_b (oi_a (hC.1 0 0 (by decide)) rfl) ?_
          obtain ⟨x21, e_x21, ht⟩ := fh_b ht
          refine ro_b ((oi_l (hC.1 0 0 (by decide)) rfl).trans e_x21) ?_
          obtain ⟨F22, e_F22, ht⟩ := fh_b ht
          obtain ⟨S22, e_S22, ht⟩ := fh_b ht
          refine ro_c (G1 := (fun z => ms_W K L hb z S22)) ⟨_, aw_l (hC.1 4 0 (by decide)) e_F22, by rw [← Option.some.inj e_S22]; exact ms_w_ys hL hC ⟩ (fun h hC => ?_)
          refine ro_b (oi_a (hC.1 0 0 (by decide)) rfl) ?_
          obtain ⟨x24, e_x24, ht⟩ := fh_b ht
          refine ro_b ((oi_i (hC.1 0 0 (by decide)) rfl).trans e_x24) ?_
          by_cases c1 : x24 = 0
          · replace ht := fh_t c1 ht
            refine ro_t c1 ?_
            exact B148 v1 v2 v1 (-1) S22 _ hC ht
          · replace ht := fh_f c1 ht
            refine ro_f c1 ?_
            exact B148 v1 v2 v1 v2 S22 _ hC ht
        · replace ht := fh_f c2 ht
          refine ro_f c2 ?_
          obtain rfl := Option.some.inj ht
          exact ro_s hC
  unfold t_Mo_drawFigure at ht
  unfold f_Mo_drawFigure
  obtain ⟨S1, e_S1, ht⟩ := fh_b ht
  refine ro_c (G1 := (fun z => ms_W K L hb z S1)) ⟨_, oi_p (hC.1 0 0 (by decide)) (Nat.le_of_ble_eq_true rfl), by rw [← Option.some.inj e_S1]; exact ms_w_figure hL hC rfl⟩ (fun h hC => ?_)
  obtain ⟨x2, e_x2, ht⟩ := fh_b ht
  refine ro_b ((oi_i (hC.1 0 0 (by decide)) rfl).trans e_x2) ?_
  obtain ⟨S3, e_S3, ht⟩ := fh_b ht
  refine ro_c (G1 := (fun z => ms_W K L hb z S3)) ⟨_, oi_p (hC.1 0 0 (by decide)) (Nat.le_of_ble_eq_true rfl), by rw [← Option.some.inj e_S3]; exact ms_w_rnd hL hC rfl⟩ (fun h hC => ?_)
  refine ro_b (oi_a (hC.1 0 0 (by decide)) rfl) ?_
  obtain ⟨F5, e_F5, ht⟩ := fh_b ht
  obtain ⟨S5, e_S5, ht⟩ := fh_b ht
  refine ro_c (G1 := (fun z => ms_W K L hb z S5)) ⟨_, aw_i (hC.1 5 0 (by decide)) e_F5, by rw [← Option.some.inj e_S5]; exact ms_w_fallsAt hL hC ⟩ (fun h hC => ?_)
  exact L30 N a1 0 S5 _ hC ht
def tb_Mo_drawAll_2 (N : Nat) (k2 : Int32 → MS → Option (MS)) (v1 : Int32) (S : MS) : Option (MS) :=
  (some (ms_figs S)).bind fun x1 => if x1 ≤ v1 then (some S) else ((t_Mo_drawFigure N v1 S).bind fun r3 => (some (v1 + 1)).bind fun x4 => k2 x4 r3)
def tl_Mo_drawAll_2 (N : Nat) : Nat → Int32 → MS → Option (MS)
  | 0, _, _ => none
  | n + 1, v1, S => tb_Mo_drawAll_2 N (tl_Mo_drawAll_2 N n) v1 S
def t_Mo_drawAll (N : Nat)  (S0 : MS) : Option (MS) :=
  tl_Mo_drawAll_2 N N 0 S0
set_option maxHeartbeats 4000000 in
theorem u_Mo_drawAll {K : Nat → ClassId} {N : Nat} {h0 : fh_H} {S0 : MS} {res : MS} {L : Nat → Nat → Nat} {hb : fh_H} (hL : ms_I L) (ht : t_Mo_drawAll N  S0 = some res) (hC : ms_W K L hb h0 S0) : RO (fun z => ms_W K L hb z res) (f_Mo_drawAll K N (L 0 0)  h0) := by
  have L2 : ∀ (n2 : Nat) (v1 : Int32) (S : MS) (h : fh_H), ms_W K L hb h S → tl_Mo_drawAll_2 N n2 v1 S = some res → RO (fun z => ms_W K L hb z res) (l_Mo_drawAll_2 K N (L 0 0) n2 v1 h) := by
    intro n2
    induction n2 with
    | zero =>
      intro v1 S h hC ht
      exact fh_no ht
    | succ n2 ih2 =>
      intro v1 S h hC ht
      have ht : tb_Mo_drawAll_2 N (tl_Mo_drawAll_2 N n2) v1 S = some res := ht
      show RO _ (b_Mo_drawAll_2 K N (l_Mo_drawAll_2 K N (L 0 0) n2) (L 0 0) v1 h)
      unfold tb_Mo_drawAll_2 at ht
      unfold b_Mo_drawAll_2
      obtain ⟨x1, e_x1, ht⟩ := fh_b ht
      refine ro_b ((oi_i (hC.1 0 0 (by decide)) rfl).trans e_x1) ?_
      by_cases c1 : x1 ≤ v1
      · replace ht := fh_t c1 ht
        refine ro_t c1 ?_
        obtain rfl := Option.some.inj ht
        exact ro_s hC
      · replace ht := fh_f c1 ht
        refine ro_f c1 ?_
        refine ro_b (oi_o (hC.1 0 0 (by decide))) ?_
        obtain ⟨r3, e_r3, ht⟩ := fh_b ht
        refine ro_c (u_Mo_drawFigure hL e_r3 hC) (fun h hC => ?_)
        obtain ⟨x4, e_x4, ht⟩ := fh_b ht
        refine ro_b e_x4 ?_
        exact ih2 x4 r3 _ hC ht
  unfold t_Mo_drawAll at ht
  unfold f_Mo_drawAll
  exact L2 N 0 S0 _ hC ht
def tb_Mo_standing_29 (N : Nat) (k4 : Int32 → Int32 → MS → Option (Int32)) (v2 : Int32) (w0 : Int32) (S : MS) : Option (Int32) :=
  (some (v2 + 1)).bind fun x1 => k4 w0 x1 S
def tb_Mo_standing_4 (N : Nat) (k4 : Int32 → Int32 → MS → Option (Int32)) (v1 : Int32) (v2 : Int32) (S : MS) : Option (Int32) :=
  (some (ms_figs S)).bind fun x1 => if x1 ≤ v2 then (some v1) else ((ta 5 (ms_fallsAt S) v2).bind fun x3 => if x3 = (-1) then (tb_Mo_standing_29 N k4 v2 (v1 + 1) S) else (tb_Mo_standing_29 N k4 v2 v1 S))
def tl_Mo_standing_4 (N : Nat) : Nat → Int32 → Int32 → MS → Option (Int32)
  | 0, _, _, _ => none
  | n + 1, v1, v2, S => tb_Mo_standing_4 N (tl_Mo_standing_4 N n) v1 v2 S
def t_Mo_standing (N : Nat)  (S0 : MS) : Option (Int32) :=
  tl_Mo_standing_4 N N 0 0 S0
set_option maxHeartbeats 4000000 in
theorem u_Mo_standing {K : Nat → ClassId} {N : Nat} {h0 : fh_H} {S0 : MS} {res : Int32} {L : Nat → Nat → Nat} {hb : fh_H} (hL : ms_I L) (ht : t_Mo_standing N  S0 = some res) (hC : ms_W K L hb h0 S0) : RO (fun z => (res, h0) = z) (f_Mo_standing K N (L 0 0)  h0) := by
  have L4 : ∀ (n4 : Nat) (v1 : Int32) (v2 : Int32), tl_Mo_standing_4 N n4 v1 v2 S0 = some res → RO (fun z => (res, h0) = z) (l_Mo_standing_4 K N (L 0 0) n4 v1 v2 h0) := by
    intro n4
    induction n4 with
    | zero =>
      intro v1 v2 ht
      exact fh_no ht
    | succ n4 ih4 =>
      have B29 : ∀ (v2 : Int32) (w0 : Int32), tb_Mo_standing_29 N (tl_Mo_standing_4 N n4) v2 w0 S0 = some res → RO (fun z => (res, h0) = z) (b_Mo_standing_29 K N (l_Mo_standing_4 K N (L 0 0) n4) (L 0 0) v2 w0 h0) := by
        intro v2 w0 ht
        unfold tb_Mo_standing_29 at ht
        unfold b_Mo_standing_29
        obtain ⟨x1, e_x1, ht⟩ := fh_b ht
        refine ro_b e_x1 ?_
        exact ih4 w0 x1 ht
      intro v1 v2 ht
      have ht : tb_Mo_standing_4 N (tl_Mo_standing_4 N n4) v1 v2 S0 = some res := ht
      show RO _ (b_Mo_standing_4 K N (l_Mo_standing_4 K N (L 0 0) n4) (L 0 0) v1 v2 h0)
      unfold tb_Mo_standing_4 at ht
      unfold b_Mo_standing_4
      obtain ⟨x1, e_x1, ht⟩ := fh_b ht
      refine ro_b ((oi_i (hC.1 0 0 (by decide)) rfl).trans e_x1) ?_
      by_cases c2 : x1 ≤ v2
      · replace ht := fh_t c2 ht
        refine ro_t c2 ?_
        obtain rfl := Option.some.inj ht
        exact ro_s rfl
      · replace ht := fh_f c2 ht
        refine ro_f c2 ?_
        refine ro_b (oi_a (hC.1 0 0 (by decide)) rfl) ?_
        obtain ⟨x3, e_x3, ht⟩ := fh_b ht
        refine ro_b ((ai_i (hC.1 5 0 (by decide))).trans e_x3) ?_
        by_cases c1 : x3 = (-1)
        · replace ht := fh_t c1 ht
          refine ro_t c1 ?_
          exact B29 v2 (v1 + 1) ht
        · replace ht := fh_f c1 ht
          refine ro_f c1 ?_
          exact B29 v2 v1 ht
  unfold t_Mo_standing at ht
  unfold f_Mo_standing
  exact L4 N 0 0 ht
def t_Mo_clear (N : Nat)  (S0 : MS) : Option (Int32 × MS) :=
  (some (ms_many S0)).bind fun x1 => (some (ms_set_many S0 0)).bind fun S2 => (t_Mo_drawAll N S2).bind fun r4 => some (x1, r4)
set_option maxHeartbeats 4000000 in
theorem u_Mo_clear {K : Nat → ClassId} {N : Nat} {h0 : fh_H} {S0 : MS} {res : Int32 × MS} {L : Nat → Nat → Nat} {hb : fh_H} (hL : ms_I L) (ht : t_Mo_clear N  S0 = some res) (hC : ms_W K L hb h0 S0) : RO (fun z => z.1 = res.1 ∧ ms_W K L hb z.2 res.2) (f_Mo_clear K N (L 0 0)  h0) := by
  unfold t_Mo_clear at ht
  unfold f_Mo_clear
  obtain ⟨x1, e_x1, ht⟩ := fh_b ht
  refine ro_b ((oi_i (hC.1 0 0 (by decide)) rfl).trans e_x1) ?_
  obtain ⟨S2, e_S2, ht⟩ := fh_b ht
  refine ro_c (G1 := (fun z => ms_W K L hb z S2)) ⟨_, oi_p (hC.1 0 0 (by decide)) (Nat.le_of_ble_eq_true rfl), by rw [← Option.some.inj e_S2]; exact ms_w_many hL hC rfl⟩ (fun h hC => ?_)
  refine ro_b (oi_o (hC.1 0 0 (by decide))) ?_
  obtain ⟨r4, e_r4, ht⟩ := fh_b ht
  refine ro_c (u_Mo_drawAll hL e_r4 hC) (fun h hC => ?_)
  obtain rfl := Option.some.inj ht
  exact ro_s ⟨rfl, hC⟩
def tb_Mo_areThere_60 (N : Nat) (v4 : Int32) (v5 : Int32) (v6 : Int32) : Option (Int32) :=
  if v6 < 4 then (some 1) else ((t_Mo_isIn N v4 0 (v5 - 1)).bind fun r1 => if r1 = 0 then (some 0) else (some 1))
def tb_Mo_areThere_42 (N : Nat) (v3 : Int32) (v4 : Int32) (v5 : Int32) (v6 : Int32) : Option (Int32) :=
  if v6 < 3 then (tb_Mo_areThere_60 N v4 v5 v6) else ((t_Mo_isIn N v3 0 (v5 - 1)).bind fun r1 => if r1 = 0 then (some 0) else (tb_Mo_areThere_60 N v4 v5 v6))
def tb_Mo_areThere_24 (N : Nat) (v2 : Int32) (v3 : Int32) (v4 : Int32) (v5 : Int32) (v6 : Int32) : Option (Int32) :=
  if v6 < 2 then (tb_Mo_areThere_42 N v3 v4 v5 v6) else ((t_Mo_isIn N v2 0 (v5 - 1)).bind fun r1 => if r1 = 0 then (some 0) else (tb_Mo_areThere_42 N v3 v4 v5 v6))
def t_Mo_areThere (N : Nat) (a0 : Int32) (a1 : Int32) (a2 : Int32) (a3 : Int32) (a4 : Int32) (a5 : Int32) : Option (Int32) :=
  (t_Mo_needs1 N a0).bind fun r1 => if r1 < 1 then (tb_Mo_areThere_24 N a2 a3 a4 a5 r1) else ((t_Mo_isIn N a1 0 (a5 - 1)).bind fun r2 => if r2 = 0 then (some 0) else (tb_Mo_areThere_24 N a2 a3 a4 a5 r1))
set_option maxHeartbeats 4000000 in
theorem u_Mo_areThere {K : Nat → ClassId} {N : Nat} {a0 : Int32} {a1 : Int32} {a2 : Int32} {a3 : Int32} {a4 : Int32} {a5 : Int32} {h0 : fh_H} {res : Int32} (ht : t_Mo_areThere N a0 a1 a2 a3 a4 a5 = some res) : RO (fun z => (res, h0) = z) (f_Mo_areThere K N a0 a1 a2 a3 a4 a5 h0) := by
  have B60 : ∀ (v4 : Int32) (v5 : Int32) (v6 : Int32), tb_Mo_areThere_60 N v4 v5 v6 = some res → RO (fun z => (res, h0) = z) (b_Mo_areThere_60 K N v4 v5 v6 h0) := by
    intro v4 v5 v6 ht
    unfold tb_Mo_areThere_60 at ht
    unfold b_Mo_areThere_60
    by_cases c2 : v6 < 4
    · replace ht := fh_t c2 ht
      refine ro_t c2 ?_
      obtain rfl := Option.some.inj ht
      exact ro_s rfl
    · replace ht := fh_f c2 ht
      refine ro_f c2 ?_
      obtain ⟨r1, e_r1, ht⟩ := fh_b ht
      refine ro_c (u_Mo_isIn e_r1) (fun z hz => ?_)
      subst hz
      by_cases c1 : r1 = 0
      · replace ht := fh_t c1 ht
        refine ro_t c1 ?_
        obtain rfl := Option.some.inj ht
        exact ro_s rfl
      · replace ht := fh_f c1 ht
        refine ro_f c1 ?_
        obtain rfl := Option.some.inj ht
        exact ro_s rfl
  have B42 : ∀ (v3 : Int32) (v4 : Int32) (v5 : Int32) (v6 : Int32), tb_Mo_areThere_42 N v3 v4 v5 v6 = some res → RO (fun z => (res, h0) = z) (b_Mo_areThere_42 K N v3 v4 v5 v6 h0) := by
    intro v3 v4 v5 v6 ht
    unfold tb_Mo_areThere_42 at ht
    unfold b_Mo_areThere_42
    by_cases c2 : v6 < 3
    · replace ht := fh_t c2 ht
      refine ro_t c2 ?_
      exact B60 v4 v5 v6 ht
    · replace ht := fh_f c2 ht
      refine ro_f c2 ?_
      obtain ⟨r1, e_r1, ht⟩ := fh_b ht
      refine ro_c (u_Mo_isIn e_r1) (fun z hz => ?_)
      subst hz
      by_cases c1 : r1 = 0
      · replace ht := fh_t c1 ht
        refine ro_t c1 ?_
        obtain rfl := Option.some.inj ht
        exact ro_s rfl
      · replace ht := fh_f c1 ht
        refine ro_f c1 ?_
        exact B60 v4 v5 v6 ht
  have B24 : ∀ (v2 : Int32) (v3 : Int32) (v4 : Int32) (v5 : Int32) (v6 : Int32), tb_Mo_areThere_24 N v2 v3 v4 v5 v6 = some res → RO (fun z => (res, h0) = z) (b_Mo_areThere_24 K N v2 v3 v4 v5 v6 h0) := by
    intro v2 v3 v4 v5 v6 ht
    unfold tb_Mo_areThere_24 at ht
    unfold b_Mo_areThere_24
    by_cases c2 : v6 < 2
    · replace ht := fh_t c2 ht
      refine ro_t c2 ?_
      exact B42 v3 v4 v5 v6 ht
    · replace ht := fh_f c2 ht
      refine ro_f c2 ?_
      obtain ⟨r1, e_r1, ht⟩ := fh_b ht
      refine ro_c (u_Mo_isIn e_r1) (fun z hz => ?_)
      subst hz
      by_cases c1 : r1 = 0
      · replace ht := fh_t c1 ht
        refine ro_t c1 ?_
        obtain rfl := Option.some.inj ht
        exact ro_s rfl
      · replace ht := fh_f c1 ht
        refine ro_f c1 ?_
        exact B42 v3 v4 v5 v6 ht
  unfold t_Mo_areThere at ht
  unfold f_Mo_areThere
  obtain ⟨r1, e_r1, ht⟩ := fh_b ht
  refine ro_c (u_Mo_needs1 e_r1) (fun z hz => ?_)
  subst hz
  by_cases c2 : r1 < 1
  · replace ht := fh_t c2 ht
    refine ro_t c2 ?_
    exact B24 a2 a3 a4 a5 r1 ht
  · replace ht := fh_f c2 ht
    refine ro_f c2 ?_
    obtain ⟨r2, e_r2, ht⟩ := fh_b ht
    refine ro_c (u_Mo_isIn e_r2) (fun z hz => ?_)
    subst hz
    by_cases c1 : r2 = 0
    · replace ht := fh_t c1 ht
      refine ro_t c1 ?_
      obtain rfl := Option.some.inj ht
      exact ro_s rfl
    · replace ht := fh_f c1 ht
      refine ro_f c1 ?_
      exact B24 a2 a3 a4 a5 r1 ht
def tb_Mo_setStep_74 (N : Nat) (v1 : Int32) (v6 : Int32) (v7 : Int32) (w1 : Int32) (w2 : Int32) (S : MS) : Option (MS) :=
  (twi 40 (ms_need S) w1 w2).bind fun F1 => (some (ms_set_need S F1)).bind fun S1 => if v7 ≤ 3 then ((twi 40 (ms_need S1) ((4 * v1) + 3) 0).bind fun F3 => (some (ms_set_need S1 F3)).bind fun S3 => some S3) else ((twi 40 (ms_need S1) ((4 * v1) + 3) v6).bind fun F4 => (some (ms_set_need S1 F4)).bind fun S4 => some S4)
def tb_Mo_setStep_52 (N : Nat) (v1 : Int32) (v5 : Int32) (v6 : Int32) (v7 : Int32) (w1 : Int32) (w2 : Int32) (S : MS) : Option (MS) :=
  (twi 40 (ms_need S) w1 w2).bind fun F1 => (some (ms_set_need S F1)).bind fun S1 => if v7 ≤ 2 then (tb_Mo_setStep_74 N v1 v6 v7 ((4 * v1) + 2) 0 S1) else (tb_Mo_setStep_74 N v1 v6 v7 ((4 * v1) + 2) v5 S1)
def tb_Mo_setStep_30 (N : Nat) (v1 : Int32) (v4 : Int32) (v5 : Int32) (v6 : Int32) (v7 : Int32) (w1 : Int32) (w2 : Int32) (S : MS) : Option (MS) :=
  (twi 40 (ms_need S) w1 w2).bind fun F1 => (some (ms_set_need S F1)).bind fun S1 => if v7 ≤ 1 then (tb_Mo_setStep_52 N v1 v5 v6 v7 ((4 * v1) + 1) 0 S1) else (tb_Mo_setStep_52 N v1 v5 v6 v7 ((4 * v1) + 1) v4 S1)
def t_Mo_setStep (N : Nat) (a1 : Int32) (a2 : Int32) (a3 : Int32) (a4 : Int32) (a5 : Int32) (a6 : Int32) (S0 : MS) : Option (MS) :=
  (t_Mo_needs1 N a2).bind fun r1 => (twi 10 (ms_kindOf S0) a1 a2).bind fun F3 => (some (ms_set_kindOf S0 F3)).bind fun S3 => if r1 ≤ 0 then (tb_Mo_setStep_30 N a1 a4 a5 a6 r1 (4 * a1) 0 S3) else (tb_Mo_setStep_30 N a1 a4 a5 a6 r1 (4 * a1) a3 S3)
set_option maxHeartbeats 4000000 in
theorem u_Mo_setStep {K : Nat → ClassId} {N : Nat} {a1 : Int32} {a2 : Int32} {a3 : Int32} {a4 : Int32} {a5 : Int32} {a6 : Int32} {h0 : fh_H} {S0 : MS} {res : MS} {L : Nat → Nat → Nat} {hb : fh_H} (hL : ms_I L) (ht : t_Mo_setStep N a1 a2 a3 a4 a5 a6 S0 = some res) (hC : ms_W K L hb h0 S0) : RO (fun z => ms_W K L hb z res) (f_Mo_setStep K N (L 0 0) a1 a2 a3 a4 a5 a6 h0) := by
  have B74 : ∀ (v1 : Int32) (v6 : Int32) (v7 : Int32) (w1 : Int32) (w2 : Int32) (S : MS) (h : fh_H), ms_W K L hb h S → tb_Mo_setStep_74 N v1 v6 v7 w1 w2 S = some res → RO (fun z => ms_W K L hb z res) (b_Mo_setStep_74 K N (L 0 0) v1 v6 v7 (some (L 2 0)) w1 w2 h) := by
    intro v1 v6 v7 w1 w2 S h hC ht
    unfold tb_Mo_setStep_74 at ht
    unfold b_Mo_setStep_74
    obtain ⟨F1, e_F1, ht⟩ := fh_b ht
    obtain ⟨S1, e_S1, ht⟩ := fh_b ht
    refine ro_c (G1 := (fun z => ms_W K L hb z S1)) ⟨_, aw_i (hC.1 2 0 (by decide)) e_F1, by rw [← Option.some.inj e_S1]; exact ms_w_need hL hC ⟩ (fun h hC => ?_)
    refine ro_b (oi_a (hC.1 0 0 (by decide)) rfl) ?_
    by_cases c1 : v7 ≤ 3
    · replace ht := fh_t c1 ht
      refine ro_t c1 ?_
      obtain ⟨F3, e_F3, ht⟩ := fh_b ht
      obtain ⟨S3, e_S3, ht⟩ := fh_b ht
      refine ro_c (G1 := (fun z => ms_W K L hb z S3)) ⟨_, aw_i (hC.1 2 0 (by decide)) e_F3, by rw [← Option.some.inj e_S3]; exact ms_w_need hL hC ⟩ (fun h hC => ?_)
      obtain rfl := Option.some.inj ht
      exact ro_s hC
    · replace ht := fh_f c1 ht
      refine ro_f c1 ?_
      obtain ⟨F4, e_F4, ht⟩ := fh_b ht
      obtain ⟨S4, e_S4, ht⟩ := fh_b ht
      refine ro_c (G1 := (fun z => ms_W K L hb z S4)) ⟨_, aw_i (hC.1 2 0 (by decide)) e_F4, by rw [← Option.some.inj e_S4]; exact ms_w_need hL hC ⟩ (fun h hC => ?_)
      obtain rfl := Option.some.inj ht
      exact ro_s hC
  have B52 : ∀ (v1 : Int32) (v5 : Int32) (v6 : Int32) (v7 : Int32) (w1 : Int32) (w2 : Int32) (S : MS) (h : fh_H), ms_W K L hb h S → tb_Mo_setStep_52 N v1 v5 v6 v7 w1 w2 S = some res → RO (fun z => ms_W K L hb z res) (b_Mo_setStep_52 K N (L 0 0) v1 v5 v6 v7 (some (L 2 0)) w1 w2 h) := by
    intro v1 v5 v6 v7 w1 w2 S h hC ht
    unfold tb_Mo_setStep_52 at ht
    unfold b_Mo_setStep_52
    obtain ⟨F1, e_F1, ht⟩ := fh_b ht
    obtain ⟨S1, e_S1, ht⟩ := fh_b ht
    refine ro_c (G1 := (fun z => ms_W K L hb z S1)) ⟨_, aw_i (hC.1 2 0 (by decide)) e_F1, by rw [← Option.some.inj e_S1]; exact ms_w_need hL hC ⟩ (fun h hC => ?_)
    refine ro_b (oi_a (hC.1 0 0 (by decide)) rfl) ?_
    by_cases c1 : v7 ≤ 2
    · replace ht := fh_t c1 ht
      refine ro_t c1 ?_
      exact B74 v1 v6 v7 ((4 * v1) + 2) 0 S1 _ hC ht
    · replace ht := fh_f c1 ht
      refine ro_f c1 ?_
      exact B74 v1 v6 v7 ((4 * v1) + 2) v5 S1 _ hC ht
  have B30 : ∀ (v1 : Int32) (v4 : Int32) (v5 : Int32) (v6 : Int32) (v7 : Int32) (w1 : Int32) (w2 : Int32) (S : MS) (h : fh_H), ms_W K L hb h S → tb_Mo_setStep_30 N v1 v4 v5 v6 v7 w1 w2 S = some res → RO (fun z => ms_W K L hb z res) (b_Mo_setStep_30 K N (L 0 0) v1 v4 v5 v6 v7 (some (L 2 0)) w1 w2 h) := by
    intro v1 v4 v5 v6 v7 w1 w2 S h hC ht
    unfold tb_Mo_setStep_30 at ht
    unfold b_Mo_setStep_30
    obtain ⟨F1, e_F1, ht⟩ := fh_b ht
    obtain ⟨S1, e_S1, ht⟩ := fh_b ht
    refine ro_c (G1 := (fun z => ms_W K L hb z S1)) ⟨_, aw_i (hC.1 2 0 (by decide)) e_F1, by rw [← Option.some.inj e_S1]; exact ms_w_need hL hC ⟩ (fun h hC => ?_)
    refine ro_b (oi_a (hC.1 0 0 (by decide)) rfl) ?_
    by_cases c1 : v7 ≤ 1
    · replace ht := fh_t c1 ht
      refine ro_t c1 ?_
      exact B52 v1 v5 v6 v7 ((4 * v1) + 1) 0 S1 _ hC ht
    · replace ht := fh_f c1 ht
      refine ro_f c1 ?_
      exact B52 v1 v5 v6 v7 ((4 * v1) + 1) v4 S1 _ hC ht
  unfold t_Mo_setStep at ht
  unfold f_Mo_setStep
  obtain ⟨r1, e_r1, ht⟩ := fh_b ht
  refine ro_c (u_Mo_needs1 e_r1) (fun z hz => ?_)
  subst hz
  refine ro_b (oi_a (hC.1 0 0 (by decide)) rfl) ?_
  obtain ⟨F3, e_F3, ht⟩ := fh_b ht
  obtain ⟨S3, e_S3, ht⟩ := fh_b ht
  refine ro_c (G1 := (fun z => ms_W K L hb z S3)) ⟨_, aw_i (hC.1 1 0 (by decide)) e_F3, by rw [← Option.some.inj e_S3]; exact ms_w_kindOf hL hC ⟩ (fun h hC => ?_)
  refine ro_b (oi_a (hC.1 0 0 (by decide)) rfl) ?_
  by_cases c1 : r1 ≤ 0
  · replace ht := fh_t c1 ht
    refine ro_t c1 ?_
    exact B30 a1 a4 a5 a6 r1 (4 * a1) 0 S3 _ hC ht
  · replace ht := fh_f c1 ht
    refine ro_f c1 ?_
    exact B30 a1 a4 a5 a6 r1 (4 * a1) a3 S3 _ hC ht
def t_Mo_step (N : Nat) (a1 : Int32) (a2 : Int32) (a3 : Int32) (a4 : Int32) (a5 : Int32) (S0 : MS) : Option (Int32 × MS) :=
  (t_Mo_isIn N a1 0 13).bind fun r1 => if r1 = 0 then (some ((-2), S0)) else ((some (ms_many S0)).bind fun x2 => (t_Mo_areThere N a1 a2 a3 a4 a5 x2).bind fun r3 => if r3 = 0 then (some ((-2), S0)) else ((some (ms_many S0)).bind fun x4 => if x4 = 10 then (some ((-3), S0)) else ((some (ms_many S0)).bind fun x5 => (t_Mo_setStep N x5 a1 a2 a3 a4 a5 S0).bind fun r7 => (some (ms_many r7)).bind fun x8 => (some (ms_set_many r7 (x8 + 1))).bind fun S9 => (t_Mo_drawAll N S9).bind fun r11 => (some (ms_many r11)).bind fun x12 => some (x12 - 1, r11))))
set_option maxHeartbeats 4000000 in
theorem u_Mo_step {K : Nat → ClassId} {N : Nat} {a1 : Int32} {a2 : Int32} {a3 : Int32} {a4 : Int32} {a5 : Int32} {h0 : fh_H} {S0 : MS} {res : Int32 × MS} {L : Nat → Nat → Nat} {hb : fh_H} (hL : ms_I L) (ht : t_Mo_step N a1 a2 a3 a4 a5 S0 = some res) (hC : ms_W K L hb h0 S0) : RO (fun z => z.1 = res.1 ∧ ms_W K L hb z.2 res.2) (f_Mo_step K N (L 0 0) a1 a2 a3 a4 a5 h0) := by
  unfold t_Mo_step at ht
  unfold f_Mo_step
  obtain ⟨r1, e_r1, ht⟩ := fh_b ht
  refine ro_c (u_Mo_isIn e_r1) (fun z hz => ?_)
  subst hz
  by_cases c3 : r1 = 0
  · replace ht := fh_t c3 ht
    refine ro_t c3 ?_
    obtain rfl := Option.some.inj ht
    exact ro_s ⟨rfl, hC⟩
  · replace ht := fh_f c3 ht
    refine ro_f c3 ?_
    obtain ⟨x2, e_x2, ht⟩ := fh_b ht
    refine ro_b ((oi_i (hC.1 0 0 (by decide)) rfl).trans e_x2) ?_
    obtain ⟨r3, e_r3, ht⟩ := fh_b ht
    refine ro_c (u_Mo_areThere e_r3) (fun z hz => ?_)
    subst hz
    by_cases c2 : r3 = 0
    · replace ht := fh_t c2 ht
      refine ro_t c2 ?_
      obtain rfl := Option.some.inj ht
      exact ro_s ⟨rfl, hC⟩
    · replace ht := fh_f c2 ht
      refine ro_f c2 ?_
      obtain ⟨x4, e_x4, ht⟩ := fh_b ht
      refine ro_b ((oi_i (hC.1 0 0 (by decide)) rfl).trans e_x4) ?_
      by_cases c1 : x4 = 10
      · replace ht := fh_t c1 ht
        refine ro_t c1 ?_
        obtain rfl := Option.some.inj ht
        exact ro_s ⟨rfl, hC⟩
      · replace ht := fh_f c1 ht
        refine ro_f c1 ?_
        obtain ⟨x5, e_x5, ht⟩ := fh_b ht
        refine ro_b ((oi_i (hC.1 0 0 (by decide)) rfl).trans e_x5) ?_
        refine ro_b (oi_o (hC.1 0 0 (by decide))) ?_
        obtain ⟨r7, e_r7, ht⟩ := fh_b ht
        refine ro_c (u_Mo_setStep hL e_r7 hC) (fun h hC => ?_)
        obtain ⟨x8, e_x8, ht⟩ := fh_b ht
        refine ro_b ((oi_i (hC.1 0 0 (by decide)) rfl).trans e_x8) ?_
        obtain ⟨S9, e_S9, ht⟩ := fh_b ht
        refine ro_c (G1 := (fun z => ms_W K L hb z S9)) ⟨_, oi_p (hC.1 0 0 (by decide)) (Nat.le_of_ble_eq_true rfl), by rw [← Option.some.inj e_S9]; exact ms_w_many hL hC rfl⟩ (fun h hC => ?_)
        refine ro_b (oi_o (hC.1 0 0 (by decide))) ?_
        obtain ⟨r11, e_r11, ht⟩ := fh_b ht
        refine ro_c (u_Mo_drawAll hL e_r11 hC) (fun h hC => ?_)
        obtain ⟨x12, e_x12, ht⟩ := fh_b ht
        refine ro_b ((oi_i (hC.1 0 0 (by decide)) rfl).trans e_x12) ?_
        obtain rfl := Option.some.inj ht
        exact ro_s ⟨rfl, hC⟩
def t_Mo_isPoint (N : Nat) (a1 : Int32) (S0 : MS) : Option (Int32) :=
  (some (ms_many S0)).bind fun x1 => (t_Mo_isIn N a1 0 (x1 - 1)).bind fun r2 => (tz r2).bind fun zz => some zz
set_option maxHeartbeats 4000000 in
theorem u_Mo_isPoint {K : Nat → ClassId} {N : Nat} {a1 : Int32} {h0 : fh_H} {S0 : MS} {res : Int32} {L : Nat → Nat → Nat} {hb : fh_H} (hL : ms_I L) (ht : t_Mo_isPoint N a1 S0 = some res) (hC : ms_W K L hb h0 S0) : RO (fun z => (res, h0) = z) (f_Mo_isPoint K N (L 0 0) a1 h0) := by
  unfold t_Mo_isPoint at ht
  unfold f_Mo_isPoint
  obtain ⟨x1, e_x1, ht⟩ := fh_b ht
  refine ro_b ((oi_i (hC.1 0 0 (by decide)) rfl).trans e_x1) ?_
  obtain ⟨r2, e_r2, ht⟩ := fh_b ht
  refine ro_c (u_Mo_isIn e_r2) (fun z hz => ?_)
  subst hz
  obtain ⟨zz, e_zz, ht⟩ := fh_b ht
  obtain ⟨hz, rfl⟩ := tz_s e_zz
  obtain rfl := Option.some.inj ht
  exact ro_z hz rfl
def t_Mo_change (N : Nat) (a1 : Int32) (a2 : Int32) (a3 : Int32) (a4 : Int32) (a5 : Int32) (a6 : Int32) (S0 : MS) : Option (Int32 × MS) :=
  (t_Mo_isPoint N a1 S0).bind fun r2 => if r2 = 0 then (some ((-2), S0)) else ((t_Mo_isIn N a2 0 13).bind fun r3 => if r3 = 0 then (some ((-2), S0)) else ((t_Mo_areThere N a2 a3 a4 a5 a6 a1).bind fun r4 => if r4 = 0 then (some ((-2), S0)) else ((ta 10 (ms_kindOf S0) a1).bind fun x6 => (t_Mo_setStep N a1 a2 a3 a4 a5 a6 S0).bind fun r8 => (t_Mo_drawAll N r8).bind fun r10 => some (x6, r10))))
set_option maxHeartbeats 4000000 in
theorem u_Mo_change {K : Nat → ClassId} {N : Nat} {a1 : Int32} {a2 : Int32} {a3 : Int32} {a4 : Int32} {a5 : Int32} {a6 : Int32} {h0 : fh_H} {S0 : MS} {res : Int32 × MS} {L : Nat → Nat → Nat} {hb : fh_H} (hL : ms_I L) (ht : t_Mo_change N a1 a2 a3 a4 a5 a6 S0 = some res) (hC : ms_W K L hb h0 S0) : RO (fun z => z.1 = res.1 ∧ ms_W K L hb z.2 res.2) (f_Mo_change K N (L 0 0) a1 a2 a3 a4 a5 a6 h0) := by
  unfold t_Mo_change at ht
  unfold f_Mo_change
  refine ro_b (oi_o (hC.1 0 0 (by decide))) ?_
  obtain ⟨r2, e_r2, ht⟩ := fh_b ht
  refine ro_c (u_Mo_isPoint hL e_r2 hC) (fun z hz => ?_)
  subst hz
  by_cases c3 : r2 = 0
  · replace ht := fh_t c3 ht
    refine ro_t c3 ?_
    obtain rfl := Option.some.inj ht
    exact ro_s ⟨rfl, hC⟩
  · replace ht := fh_f c3 ht
    refine ro_f c3 ?_
    obtain ⟨r3, e_r3, ht⟩ := fh_b ht
    refine ro_c (u_Mo_isIn e_r3) (fun z hz => ?_)
    subst hz
    by_cases c2 : r3 = 0
    · replace ht := fh_t c2 ht
      refine ro_t c2 ?_
      obtain rfl := Option.some.inj ht
      exact ro_s ⟨rfl, hC⟩
    · replace ht := fh_f c2 ht
      refine ro_f c2 ?_
      obtain ⟨r4, e_r4, ht⟩ := fh_b ht
      refine ro_c (u_Mo_areThere e_r4) (fun z hz => ?_)
      subst hz
      by_cases c1 : r4 = 0
      · replace ht := fh_t c1 ht
        refine ro_t c1 ?_
        obtain rfl := Option.some.inj ht
        exact ro_s ⟨rfl, hC⟩
      · replace ht := fh_f c1 ht
        refine ro_f c1 ?_
        refine ro_b (oi_a (hC.1 0 0 (by decide)) rfl) ?_
        obtain ⟨x6, e_x6, ht⟩ := fh_b ht
        refine ro_b ((ai_i (hC.1 1 0 (by decide))).trans e_x6) ?_
        refine ro_b (oi_o (hC.1 0 0 (by decide))) ?_
        obtain ⟨r8, e_r8, ht⟩ := fh_b ht
        refine ro_c (u_Mo_setStep hL e_r8 hC) (fun h hC => ?_)
        refine ro_b (oi_o (hC.1 0 0 (by decide))) ?_
        obtain ⟨r10, e_r10, ht⟩ := fh_b ht
        refine ro_c (u_Mo_drawAll hL e_r10 hC) (fun h hC => ?_)
        obtain rfl := Option.some.inj ht
        exact ro_s ⟨rfl, hC⟩
def t_Mo_draw (N : Nat) (a1 : Int32) (a2 : Int32) (S0 : MS) : Option (Int32 × MS) :=
  (t_Mo_isIn N a1 1 1000000).bind fun r1 => if r1 = 0 then (some ((-2), S0)) else ((t_Mo_isIn N a2 1 5).bind fun r2 => if r2 = 0 then (some ((-2), S0)) else ((some (ms_set_seed S0 a1)).bind fun S3 => (some (ms_set_figs S3 a2)).bind fun S4 => (t_Mo_drawAll N S4).bind fun r6 => (t_Mo_standing N r6).bind fun r8 => some (r8, r6)))
set_option maxHeartbeats 4000000 in
theorem u_Mo_draw {K : Nat → ClassId} {N : Nat} {a1 : Int32} {a2 : Int32} {h0 : fh_H} {S0 : MS} {res : Int32 × MS} {L : Nat → Nat → Nat} {hb : fh_H} (hL : ms_I L) (ht : t_Mo_draw N a1 a2 S0 = some res) (hC : ms_W K L hb h0 S0) : RO (fun z => z.1 = res.1 ∧ ms_W K L hb z.2 res.2) (f_Mo_draw K N (L 0 0) a1 a2 h0) := by
  unfold t_Mo_draw at ht
  unfold f_Mo_draw
  obtain ⟨r1, e_r1, ht⟩ := fh_b ht
  refine ro_c (u_Mo_isIn e_r1) (fun z hz => ?_)
  subst hz
  by_cases c2 : r1 = 0
  · replace ht := fh_t c2 ht
    refine ro_t c2 ?_
    obtain rfl := Option.some.inj ht
    exact ro_s ⟨rfl, hC⟩
  · replace ht := fh_f c2 ht
    refine ro_f c2 ?_
    obtain ⟨r2, e_r2, ht⟩ := fh_b ht
    refine ro_c (u_Mo_isIn e_r2) (fun z hz => ?_)
    subst hz
    by_cases c1 : r2 = 0
    · replace ht := fh_t c1 ht
      refine ro_t c1 ?_
      obtain rfl := Option.some.inj ht
      exact ro_s ⟨rfl, hC⟩
    · replace ht := fh_f c1 ht
      refine ro_f c1 ?_
      obtain ⟨S3, e_S3, ht⟩ := fh_b ht
      refine ro_c (G1 := (fun z => ms_W K L hb z S3)) ⟨_, oi_p (hC.1 0 0 (by decide)) (Nat.le_of_ble_eq_true rfl), by rw [← Option.some.inj e_S3]; exact ms_w_seed hL hC rfl⟩ (fun h hC => ?_)
      obtain ⟨S4, e_S4, ht⟩ := fh_b ht
      refine ro_c (G1 := (fun z => ms_W K L hb z S4)) ⟨_, oi_p (hC.1 0 0 (by decide)) (Nat.le_of_ble_eq_true rfl), by rw [← Option.some.inj e_S4]; exact ms_w_figs hL hC rfl⟩ (fun h hC => ?_)
      refine ro_b (oi_o (hC.1 0 0 (by decide))) ?_
      obtain ⟨r6, e_r6, ht⟩ := fh_b ht
      refine ro_c (u_Mo_drawAll hL e_r6 hC) (fun h hC => ?_)
      refine ro_b (oi_o (hC.1 0 0 (by decide))) ?_
      obtain ⟨r8, e_r8, ht⟩ := fh_b ht
      refine ro_c (u_Mo_standing hL e_r8 hC) (fun z hz => ?_)
      subst hz
      obtain rfl := Option.some.inj ht
      exact ro_s ⟨rfl, hC⟩
