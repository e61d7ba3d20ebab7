def tb_Fi_goOn_106 (N : Nat) (k5 : Option Nat → Int32 → Int32 → CS → Option (CS)) (i : Nat) (v1 : Option Nat) (v2 : Int32) (v3 : Int32) (S : CS) : Option (CS) :=
  (some (v3 + 1)).bind fun x1 => k5 v1 v2 x1 S
def tb_Fi_goOn_36 (N : Nat) (k5 : Option Nat → Int32 → Int32 → CS → Option (CS)) (i : Nat) (v1 : Option Nat) (v2 : Int32) (v3 : Int32) (w0 : Int32) (S : CS) : Option (CS) :=
  (tk 1 v1).bind fun j_o1 => (t_Pl_from N v3 0 S).bind fun r2 => (t_Pl_from N v3 1 S).bind fun r4 => (t_Pl_from N v3 2 S).bind fun r6 => (t_Pl_from N v3 3 S).bind fun r8 => (t_Fi_find N i w0 r2 r4 r6 r8 S).bind fun r10 => if r10.1 = 0 then ((some (cs_set_fallen r10.2 (va_up (cs_fallen r10.2) i v3))).bind fun S11 => tb_Fi_goOn_106 N k5 i (some 0) v2 v3 S11) else ((some (cs_foundX r10.2 i)).bind fun x13 => (twi 16 (cs_fx r10.2 i) v3 x13).bind fun F14 => (some (cs_set_fx r10.2 (va_up (cs_fx r10.2) i F14))).bind fun S14 => (some (cs_foundY S14 i)).bind fun x16 => (twi 16 (cs_fy S14 i) v3 x16).bind fun F17 => (some (cs_set_fy S14 (va_up (cs_fy S14) i F17))).bind fun S17 => (some (cs_set_made S17 (va_up (cs_made S17) i (v3 + 1)))).bind fun S18 => tb_Fi_goOn_106 N k5 i (some 0) v2 v3 S18)
def tb_Fi_goOn_5 (N : Nat) (k5 : Option Nat → Int32 → Int32 → CS → Option (CS)) (i : Nat) (v1 : Option Nat) (v2 : Int32) (v3 : Int32) (S : CS) : Option (CS) :=
  (tk 1 v1).bind fun j_x1 => (some (cs_psize S)).bind fun x1 => if x1 ≤ v3 then (some S) else ((some (cs_fallen S i)).bind fun x2 => if x2 = (-1) then (if v3 = v2 then (tb_Fi_goOn_36 N k5 i (some 0) v2 v3 0 S) else ((ta 10 (cs_kinds S) v3).bind fun x4 => tb_Fi_goOn_36 N k5 i (some 0) v2 v3 x4 S)) else (some S))
def tl_Fi_goOn_5 (N : Nat) (i : Nat) : Nat → Option Nat → Int32 → Int32 → CS → Option (CS)
  | 0, _, _, _, _ => none
  | n + 1, v1, v2, v3, S => tb_Fi_goOn_5 N (tl_Fi_goOn_5 N i n) i v1 v2 v3 S
def t_Fi_goOn (N : Nat) (i : Nat) (a1 : Option Nat) (a2 : Int32) (S0 : CS) : Option (CS) :=
  (some (cs_made S0 i)).bind fun x1 => tl_Fi_goOn_5 N i N a1 a2 x1 S0
set_option maxHeartbeats 4000000 in
theorem u_Fi_goOn {K : Nat → ClassId} {N : Nat} {i : Nat} {a1 : Option Nat} {a2 : Int32} {h0 : fh_H} {S0 : CS} {res : CS} {L : Nat → Nat → Nat} {hb : fh_H} (hL : cs_I L) (ht : t_Fi_goOn N i a1 a2 S0 = some res) (hC : cs_W K L hb h0 S0) (hi : i < 10) : RO (fun z => cs_W K L hb z res) (f_Fi_goOn K N (L 7 i) (Option.map (L 1) a1) a2 h0) := by
  have L5 : ∀ (n5 : Nat) (v1 : Option Nat) (v2 : Int32) (v3 : Int32) (S : CS) (h : fh_H), cs_W K L hb h S → tl_Fi_goOn_5 N i n5 v1 v2 v3 S = some res → RO (fun z => cs_W K L hb z res) (l_Fi_goOn_5 K N (L 7 i) n5 (Option.map (L 1) v1) v2 v3 h) := by
    intro n5
    induction n5 with
    | zero =>
      intro v1 v2 v3 S h hC ht
      exact fh_no ht
    | succ n5 ih5 =>
      have B106 : ∀ (v1 : Option Nat) (v2 : Int32) (v3 : Int32) (S : CS) (h : fh_H), cs_W K L hb h S → tb_Fi_goOn_106 N (tl_Fi_goOn_5 N i n5) i v1 v2 v3 S = some res → RO (fun z => cs_W K L hb z res) (b_Fi_goOn_106 K N (l_Fi_goOn_5 K N (L 7 i) n5) (L 7 i) (Option.map (L 1) v1) v2 v3 h) := by
        intro v1 v2 v3 S h hC ht
        unfold tb_Fi_goOn_106 at ht
        unfold b_Fi_goOn_106
        obtain ⟨x1, e_x1, ht⟩ := fh_b ht
        refine ro_b e_x1 ?_
        exact ih5 v1 v2 x1 S _ hC ht
      have B36 : ∀ (v1 : Option Nat) (v2 : Int32) (v3 : Int32) (w0 : Int32) (S : CS) (h : fh_H), cs_W K L hb h S → tb_Fi_goOn_36 N (tl_Fi_goOn_5 N i n5) i v1 v2 v3 w0 S = some res → RO (fun z => cs_W K L hb z res) (b_Fi_goOn_36 K N (l_Fi_goOn_5 K N (L 7 i) n5) (L 7 i) (Option.map (L 1) v1) v2 v3 w0 h) := by
        intro v1 v2 v3 w0 S h hC ht
        unfold tb_Fi_goOn_36 at ht
        unfold b_Fi_goOn_36
        obtain ⟨j_o1, e_j_o1, ht⟩ := fh_b ht
        obtain ⟨ey_j_o1, hj_j_o1⟩ := tk_s e_j_o1
        rw [ey_j_o1, Nat.lt_one_iff.mp hj_j_o1]
        refine ro_b (oi_o (hC.1 1 0 (by decide))) ?_
        obtain ⟨r2, e_r2, ht⟩ := fh_b ht
        refine ro_c (u_Pl_from hL e_r2 hC) (fun z hz => ?_)
        subst hz
        refine ro_b (oi_o (hC.1 1 0 (by decide))) ?_
        obtain ⟨r4, e_r4, ht⟩ := fh_b ht
        refine ro_c (u_Pl_from hL e_r4 hC) (fun z hz => ?_)
        subst hz
        refine ro_b (oi_o (hC.1 1 0 (by decide))) ?_
        obtain ⟨r6, e_r6, ht⟩ := fh_b ht
        refine ro_c (u_Pl_from hL e_r6 hC) (fun z hz => ?_)
        subst hz
        refine ro_b (oi_o (hC.1 1 0 (by decide))) ?_
        obtain ⟨r8, e_r8, ht⟩ := fh_b ht
        refine ro_c (u_Pl_from hL e_r8 hC) (fun z hz => ?_)
        subst hz
        refine ro_b (oi_o (hC.1 7 i hi)) ?_
        obtain ⟨r10, e_r10, ht⟩ := fh_b ht
        refine ro_c (u_Fi_find hL e_r10 hC hi) (fun z hz => ?_)
        obtain ⟨z1, h⟩ := z
        obtain ⟨ez, hC⟩ := hz
        dsimp only at ez hC
        subst ez
        by_cases c1 : r10.1 = 0
        · replace ht := fh_t c1 ht
          refine ro_t c1 ?_
          obtain ⟨S11, e_S11, ht⟩ := fh_b ht
          refine ro_c (G1 := (fun z => cs_W K L hb z S11)) ⟨_, oi_p (hC.1 7 i hi) (Nat.le_of_ble_eq_true rfl), by rw [← Option.some.inj e_S11]; exact cs_w_fallen hL hC hi rfl⟩ (fun h hC => ?_)
          exact B106 (some 0) v2 v3 S11 _ hC ht
        · replace ht := fh_f c1 ht
          refine ro_f c1 ?_
          refine ro_b (oi_a (hC.1 7 i hi) rfl) ?_
          obtain ⟨x13, e_x13, ht⟩ := fh_b ht
          refine ro_b ((oi_i (hC.1 7 i hi) rfl).trans e_x13) ?_
          obtain ⟨F14, e_F14, ht⟩ := fh_b ht
          obtain ⟨S14, e_S14, ht⟩ := fh_b ht
          refine ro_c (G1 := (fun z => cs_W K L hb z S14)) ⟨_, aw_i (hC.1 8 i hi) e_F14, by rw [← Option.some.inj e_S14]; exact cs_w_fx hL hC hi⟩ (fun h hC => ?_)
          refine ro_b (oi_a (hC.1 7 i hi) rfl) ?_
          obtain ⟨x16, e_x16, ht⟩ := fh_b ht
          refine ro_b ((oi_i (hC.1 7 i hi) rfl).trans e_x16) ?_
          obtain ⟨F17, e_F17, ht⟩ := fh_b ht
          obtain ⟨S17, e_S17, ht⟩ := fh_b ht
          refine ro_c (G1 := (fun z => cs_W K L hb z S17)) ⟨_, aw_i (hC.1 9 i hi) e_F17, by rw [← Option.some.inj e_S17]; exact cs_w_fy hL hC hi⟩ (fun h hC => ?_)
          obtain ⟨S18, e_S18, ht⟩ := fh_b ht
          refine ro_c (G1 := (fun z => cs_W K L hb z S18)) ⟨_, oi_p (hC.1 7 i hi) (Nat.le_of_ble_eq_true rfl), by rw [← Option.some.inj e_S18]; exact cs_w_made hL hC hi rfl⟩ (fun h hC => ?_)
          exact B106 (some 0) v2 v3 S18 _ hC ht
      intro v1 v2 v3 S h hC ht
      have ht : tb_Fi_goOn_5 N (tl_Fi_goOn_5 N i n5) i v1 v2 v3 S = some res := ht
      show RO _ (b_Fi_goOn_5 K N (l_Fi_goOn_5 K N (L 7 i) n5) (L 7 i) (Option.map (L 1) v1) v2 v3 h)
      unfold tb_Fi_goOn_5 at ht
      unfold b_Fi_goOn_5
      obtain ⟨j_x1, e_j_x1, ht⟩ := fh_b ht
      obtain ⟨ey_j_x1, hj_j_x1⟩ := tk_s e_j_x1
      rw [ey_j_x1, Nat.lt_one_iff.mp hj_j_x1]
      obtain ⟨x1, e_x1, ht⟩ := fh_b ht
      refine ro_b ((oi_i (hC.1 1 0 (by decide)) rfl).trans e_x1) ?_
      by_cases c3 : x1 ≤ v3
      · replace ht := fh_t c3 ht
        refine ro_t c3 ?_
        obtain rfl := Option.some.inj ht
        exact ro_s hC
      · replace ht := fh_f c3 ht
        refine ro_f c3 ?_
        obtain ⟨x2, e_x2, ht⟩ := fh_b ht
        refine ro_b ((oi_i (hC.1 7 i hi) rfl).trans e_x2) ?_
        by_cases c2 : x2 = (-1)
        · replace ht := fh_t c2 ht
          refine ro_t c2 ?_
          by_cases c1 : v3 = v2
          · replace ht := fh_t c1 ht
            refine ro_t c1 ?_
            exact B36 (some 0) v2 v3 0 S _ hC ht
          · replace ht := fh_f c1 ht
            refine ro_f c1 ?_
            refine ro_b (oi_a (hC.1 1 0 (by decide)) rfl) ?_
            obtain ⟨x4, e_x4, ht⟩ := fh_b ht
            refine ro_b ((ai_i (hC.1 2 0 (by decide))).trans e_x4) ?_
            exact B36 (some 0) v2 v3 x4 S _ hC ht
        · replace ht := fh_f c2 ht
          refine ro_f c2 ?_
          obtain rfl := Option.some.inj ht
          exact ro_s hC
  unfold t_Fi_goOn at ht
  unfold f_Fi_goOn
  obtain ⟨x1, e_x1, ht⟩ := fh_b ht
  refine ro_b ((oi_i (hC.1 7 i hi) rfl).trans e_x1) ?_
  exact L5 N a1 a2 x1 S0 _ hC ht
def tb_Dr_goOn_49 (N : Nat) (k7 : Option Nat → Int32 → Int32 → CS → Option (CS)) (i : Nat) (v1 : Option Nat) (v2 : Int32) (v3 : Int32) (S : CS) : Option (CS) :=
  (some (v3 + 1)).bind fun x1 => k7 v1 v2 x1 S
def tb_Dr_goOn_7 (N : Nat) (k7 : Option Nat → Int32 → Int32 → CS → Option (CS)) (i : Nat) (v1 : Option Nat) (v2 : Int32) (v3 : Int32) (S : CS) : Option (CS) :=
  (some (cs_dsize S i)).bind fun x1 => if x1 ≤ v3 then (some S) else ((ta 5 (fun z => 5 * i + z) v3).bind fun x3 => (t_Fi_goOn N x3 v1 v2 S).bind fun r5 => (ta 5 (fun z => 5 * i + z) v3).bind fun x7 => (some (cs_fallen r5 x7)).bind fun x8 => if x8 = (-1) then ((some (cs_stand r5 i)).bind fun x9 => (some (cs_set_stand r5 (va_up (cs_stand r5) i (x9 + 1)))).bind fun S10 => tb_Dr_goOn_49 N k7 i v1 v2 v3 S10) else (tb_Dr_goOn_49 N k7 i v1 v2 v3 r5))
def tl_Dr_goOn_7 (N : Nat) (i : Nat) : Nat → Option Nat → Int32 → Int32 → CS → Option (CS)
  | 0, _, _, _, _ => none
  | n + 1, v1, v2, v3, S => tb_Dr_goOn_7 N (tl_Dr_goOn_7 N i n) i v1 v2 v3 S
def t_Dr_goOn (N : Nat) (i : Nat) (a1 : Option Nat) (a2 : Int32) (S0 : CS) : Option (CS) :=
  (some (cs_set_stand S0 (va_up (cs_stand S0) i 0))).bind fun S1 => tl_Dr_goOn_7 N i N a1 a2 0 S1
set_option maxHeartbeats 4000000 in
theorem u_Dr_goOn {K : Nat → ClassId} {N : Nat} {i : Nat} {a1 : Option Nat} {a2 : Int32} {h0 : fh_H} {S0 : CS} {res : CS} {L : Nat → Nat → Nat} {hb : fh_H} (hL : cs_I L) (ht : t_Dr_goOn N i a1 a2 S0 = some res) (hC : cs_W K L hb h0 S0) (hi : i < 2) : RO (fun z => cs_W K L hb z res) (f_Dr_goOn K N (L 5 i) (Option.map (L 1) a1) a2 h0) := by
  have L7 : ∀ (n7 : Nat) (v1 : Option Nat) (v2 : Int32) (v3 : Int32) (S : CS) (h : fh_H), cs_W K L hb h S → tl_Dr_goOn_7 N i n7 v1 v2 v3 S = some res → RO (fun z => cs_W K L hb z res) (l_Dr_goOn_7 K N (L 5 i) n7 (Option.map (L 1) v1) v2 v3 h) := by
    intro n7
    induction n7 with
    | zero =>
      intro v1 v2 v3 S h hC ht
      exact fh_no ht
    | succ n7 ih7 =>
      have B49 : ∀ (v1 : Option Nat) (v2 : Int32) (v3 : Int32) (S : CS) (h : fh_H), cs_W K L hb h S → tb_Dr_goOn_49 N (tl_Dr_goOn_7 N i n7) i v1 v2 v3 S = some res → RO (fun z => cs_W K L hb z res) (b_Dr_goOn_49 K N (l_Dr_goOn_7 K N (L 5 i) n7) (L 5 i) (Option.map (L 1) v1) v2 v3 h) := by
        intro v1 v2 v3 S h hC ht
        unfold tb_Dr_goOn_49 at ht
        unfold b_Dr_goOn_49
        obtain ⟨x1, e_x1, ht⟩ := fh_b ht
        refine ro_b e_x1 ?_
        exact ih7 v1 v2 x1 S _ hC ht
      intro v1 v2 v3 S h hC ht
      have ht : tb_Dr_goOn_7 N (tl_Dr_goOn_7 N i n7) i v1 v2 v3 S = some res := ht
      show RO _ (b_Dr_goOn_7 K N (l_Dr_goOn_7 K N (L 5 i) n7) (L 5 i) (Option.map (L 1) v1) v2 v3 h)
      unfold tb_Dr_goOn_7 at ht
      unfold b_Dr_goOn_7
      obtain ⟨x1, e_x1, ht⟩ := fh_b ht
      refine ro_b ((oi_i (hC.1 5 i hi) rfl).trans e_x1) ?_
      by_cases c2 : x1 ≤ v3
      · replace ht := fh_t c2 ht
        refine ro_t c2 ?_
        obtain rfl := Option.some.inj ht
        exact ro_s hC
      · replace ht := fh_f c2 ht
        refine ro_f c2 ?_
        refine ro_b (oi_a (hC.1 5 i hi) rfl) ?_
        obtain ⟨x3, e_x3, ht⟩ := fh_b ht
        have hb_x3 : x3 < 10 := by obtain ⟨k, hk, q⟩ := ta_lt e_x3; have := hi; omega
        refine ro_b ((ai_a (hC.1 6 i hi)).trans (ai_m (g := fun z => some (L 7 z)) e_x3)) ?_
        refine ro_b (oi_o (hC.1 7 x3 hb_x3)) ?_
        obtain ⟨r5, e_r5, ht⟩ := fh_b ht
        refine ro_c (u_Fi_goOn hL e_r5 hC hb_x3) (fun h hC => ?_)
        refine ro_b (oi_a (hC.1 5 i hi) rfl) ?_
        obtain ⟨x7, e_x7, ht⟩ := fh_b ht
        have hb_x7 : x7 < 10 := by obtain ⟨k, hk, q⟩ := ta_lt e_x7; have := hi; omega
        refine ro_b ((ai_a (hC.1 6 i hi)).trans (ai_m (g := fun z => some (L 7 z)) e_x7)) ?_
        obtain ⟨x8, e_x8, ht⟩ := fh_b ht
        refine ro_b ((oi_i (hC.1 7 x7 hb_x7) rfl).trans e_x8) ?_
        by_cases c1 : x8 = (-1)
        · replace ht := fh_t c1 ht
          refine ro_t c1 ?_
          obtain ⟨x9, e_x9, ht⟩ := fh_b ht
          refine ro_b ((oi_i (hC.1 5 i hi) rfl).trans e_x9) ?_
          obtain ⟨S10, e_S10, ht⟩ := fh_b ht
          refine ro_c (G1 := (fun z => cs_W K L hb z S10)) ⟨_, oi_p (hC.1 5 i hi) (Nat.le_of_ble_eq_true rfl), by rw [← Option.some.inj e_S10]; exact cs_w_stand hL hC hi rfl⟩ (fun h hC => ?_)
          exact B49 v1 v2 v3 S10 _ hC ht
        · replace ht := fh_f c1 ht
          refine ro_f c1 ?_
          exact B49 v1 v2 v3 r5 _ hC ht
  unfold t_Dr_goOn at ht
  unfold f_Dr_goOn
  obtain ⟨S1, e_S1, ht⟩ := fh_b ht
  refine ro_c (G1 := (fun z => cs_W K L hb z S1)) ⟨_, oi_p (hC.1 5 i hi) (Nat.le_of_ble_eq_true rfl), by rw [← Option.some.inj e_S1]; exact cs_w_stand hL hC hi rfl⟩ (fun h hC => ?_)
  exact L7 N a1 a2 0 S1 _ hC ht
def t_Fs_forget (N : Nat) (a1 : Int32) (S0 : CS) : Option (CS) :=
  (some (cs_set_pts S0 a1)).bind fun S1 => (some (cs_set_known S1 0)).bind fun S2 => some S2
set_option maxHeartbeats 4000000 in
theorem u_Fs_forget {K : Nat → ClassId} {N : Nat} {a1 : Int32} {h0 : fh_H} {S0 : CS} {res : CS} {L : Nat → Nat → Nat} {hb : fh_H} (hL : cs_I L) (ht : t_Fs_forget N a1 S0 = some res) (hC : cs_W K L hb h0 S0) : RO (fun z => cs_W K L hb z res) (f_Fs_forget K N (L 4 0) a1 h0) := by
  unfold t_Fs_forget at ht
  unfold f_Fs_forget
  obtain ⟨S1, e_S1, ht⟩ := fh_b ht
  refine ro_c (G1 := (fun z => cs_W K L hb z S1)) ⟨_, oi_p (hC.1 4 0 (by decide)) (Nat.le_of_ble_eq_true rfl), by rw [← Option.some.inj e_S1]; exact cs_w_pts hL hC rfl⟩ (fun h hC => ?_)
  obtain ⟨S2, e_S2, ht⟩ := fh_b ht
  refine ro_c (G1 := (fun z => cs_W K L hb z S2)) ⟨_, oi_p (hC.1 4 0 (by decide)) (Nat.le_of_ble_eq_true rfl), by rw [← Option.some.inj e_S2]; exact cs_w_known hL hC rfl⟩ (fun h hC => ?_)
  obtain rfl := Option.some.inj ht
  exact ro_s hC
def t_FF_drawAll (N : Nat)  (S0 : CS) : Option (CS) :=
  (some (cs_seed S0)).bind fun x3 => (some (cs_figs S0)).bind fun x4 => (t_Dr_begin N 0 x3 x4 S0).bind fun r6 => (t_Dr_goOn N 0 (some 0) (-1) r6).bind fun r11 => (some (cs_psize r11)).bind fun x14 => (t_Fs_forget N x14 r11).bind fun r16 => some r16
set_option maxHeartbeats 4000000 in
theorem u_FF_drawAll {K : Nat → ClassId} {N : Nat} {h0 : fh_H} {S0 : CS} {res : CS} {L : Nat → Nat → Nat} {hb : fh_H} (hL : cs_I L) (ht : t_FF_drawAll N  S0 = some res) (hC : cs_W K L hb h0 S0) : RO (fun z => cs_W K L hb z res) (f_FF_drawAll K N (L 0 0)  h0) := by
  unfold t_FF_drawAll at ht
  unfold f_FF_drawAll
  refine ro_b (oi_a (hC.1 0 0 (by decide)) rfl) ?_
  refine ro_b (oi_a (hC.1 4 0 (by decide)) rfl) ?_
  obtain ⟨x3, e_x3, ht⟩ := fh_b ht
  refine ro_b ((oi_i (hC.1 0 0 (by decide)) rfl).trans e_x3) ?_
  obtain ⟨x4, e_x4, ht⟩ := fh_b ht
  refine ro_b ((oi_i (hC.1 0 0 (by decide)) rfl).trans e_x4) ?_
  refine ro_b (oi_o (hC.1 5 0 (by decide))) ?_
  obtain ⟨r6, e_r6, ht⟩ := fh_b ht
  refine ro_c (u_Dr_begin hL e_r6 hC (by decide)) (fun h hC => ?_)
  refine ro_b (oi_a (hC.1 0 0 (by decide)) rfl) ?_
  refine ro_b (oi_a (hC.1 4 0 (by decide)) rfl) ?_
  refine ro_b (oi_a (hC.1 0 0 (by decide)) rfl) ?_
  refine ro_b (oi_o (hC.1 5 0 (by decide))) ?_
  obtain ⟨r11, e_r11, ht⟩ := fh_b ht
  refine ro_c (u_Dr_goOn hL e_r11 hC (by decide)) (fun h hC => ?_)
  refine ro_b (oi_a (hC.1 0 0 (by decide)) rfl) ?_
  refine ro_b (oi_a (hC.1 0 0 (by decide)) rfl) ?_
  obtain ⟨x14, e_x14, ht⟩ := fh_b ht
  refine ro_b ((oi_i (hC.1 1 0 (by decide)) rfl).trans e_x14) ?_
  refine ro_b (oi_o (hC.1 4 0 (by decide))) ?_
  obtain ⟨r16, e_r16, ht⟩ := fh_b ht
  refine ro_c (u_Fs_forget hL e_r16 hC) (fun h hC => ?_)
  obtain rfl := Option.some.inj ht
  exact ro_s hC
def t_FF_clear (N : Nat)  (S0 : CS) : Option (Int32 × CS) :=
  (some (cs_psize S0)).bind fun x2 => (some (cs_set_psize S0 0)).bind fun S4 => (t_FF_drawAll N S4).bind fun r6 => some (x2, r6)
set_option maxHeartbeats 4000000 in
theorem u_FF_clear {K : Nat → ClassId} {N : Nat} {h0 : fh_H} {S0 : CS} {res : Int32 × CS} {L : Nat → Nat → Nat} {hb : fh_H} (hL : cs_I L) (ht : t_FF_clear N  S0 = some res) (hC : cs_W K L hb h0 S0) : RO (fun z => z.1 = res.1 ∧ cs_W K L hb z.2 res.2) (f_FF_clear K N (L 0 0)  h0) := by
  unfold t_FF_clear at ht
  unfold f_FF_clear
  refine ro_b (oi_a (hC.1 0 0 (by decide)) rfl) ?_
  obtain ⟨x2, e_x2, ht⟩ := fh_b ht
  refine ro_b ((oi_i (hC.1 1 0 (by decide)) rfl).trans e_x2) ?_
  refine ro_b (oi_a (hC.1 0 0 (by decide)) rfl) ?_
  obtain ⟨S4, e_S4, ht⟩ := fh_b ht
  refine ro_c (G1 := (fun z => cs_W K L hb z S4)) ⟨_, oi_p (hC.1 1 0 (by decide)) (Nat.le_of_ble_eq_true rfl), by rw [← Option.some.inj e_S4]; exact cs_w_psize hL hC rfl⟩ (fun h hC => ?_)
  refine ro_b (oi_o (hC.1 0 0 (by decide))) ?_
  obtain ⟨r6, e_r6, ht⟩ := fh_b ht
  refine ro_c (u_FF_drawAll hL e_r6 hC) (fun h hC => ?_)
  obtain rfl := Option.some.inj ht
  exact ro_s ⟨rfl, hC⟩
def tb_FF_isStep_69 (N : Nat) (v4 : Int32) (v5 : Int32) (v6 : Int32) : Option (Int32) :=
  if v6 < 4 then (some 1) else (if v4 < 0 then (some 0) else (if v5 ≤ v4 then (some 0) else (some 1)))
def tb_FF_isStep_53 (N : Nat) (v3 : Int32) (v4 : Int32) (v5 : Int32) (v6 : Int32) : Option (Int32) :=
  if v6 < 3 then (tb_FF_isStep_69 N v4 v5 v6) else (if v3 < 0 then (some 0) else (if v5 ≤ v3 then (some 0) else (tb_FF_isStep_69 N v4 v5 v6)))
def tb_FF_isStep_37 (N : Nat) (v2 : Int32) (v3 : Int32) (v4 : Int32) (v5 : Int32) (v6 : Int32) : Option (Int32) :=
  if v6 < 2 then (tb_FF_isStep_53 N v3 v4 v5 v6) else (if v2 < 0 then (some 0) else (if v5 ≤ v2 then (some 0) else (tb_FF_isStep_53 N v3 v4 v5 v6)))
def t_FF_isStep (N : Nat) (a0 : Int32) (a1 : Int32) (a2 : Int32) (a3 : Int32) (a4 : Int32) (a5 : Int32) : Option (Int32) :=
  if a0 < 0 then (some 0) else (if a0 < 14 then ((ft_i 14 tb_1 a0).bind fun x2 => if x2 < 1 then (tb_FF_isStep_37 N a2 a3 a4 a5 x2) else (if a1 < 0 then (some 0) else (if a5 ≤ a1 then (some 0) else (tb_FF_isStep_37 N a2 a3 a4 a5 x2)))) else (some 0))
set_option maxHeartbeats 4000000 in
theorem u_FF_isStep {K : Nat → ClassId} {N : Nat} {a0 : Int32} {a1 : Int32} {a2 : Int32} {a3 : Int32} {a4 : Int32} {a5 : Int32} {h0 : fh_H} {res : Int32} (ht : t_FF_isStep N a0 a1 a2 a3 a4 a5 = some res) : RO (fun z => (res, h0) = z) (f_FF_isStep K N a0 a1 a2 a3 a4 a5 h0) := by
  have B69 : ∀ (v4 : Int32) (v5 : Int32) (v6 : Int32), tb_FF_isStep_69 N v4 v5 v6 = some res → RO (fun z => (res, h0) = z) (b_FF_isStep_69 K N v4 v5 v6 h0) := by
    intro v4 v5 v6 ht
    unfold tb_FF_isStep_69 at ht
    unfold b_FF_isStep_69
    by_cases c3 : v6 < 4
    · replace ht := fh_t c3 ht
      refine ro_t c3 ?_
      obtain rfl := Option.some.inj ht
      exact ro_s rfl
    · replace ht := fh_f c3 ht
      refine ro_f c3 ?_
      by_cases c2 : v4 < 0
      · replace ht := fh_t c2 ht
        refine ro_t c2 ?_
        obtain rfl := Option.some.inj ht
        exact ro_s rfl
      · replace ht := fh_f c2 ht
        refine ro_f c2 ?_
        by_cases c1 : v5 ≤ v4
        · replace ht := fh_t c1 ht
          refine ro_t c1 ?_
          obtain rfl := Option.some.inj ht
          exact ro_s rfl
        · replace ht := fh_f c1 ht
          refine ro_f c1 ?_
          obtain rfl := Option.some.inj ht
          exact ro_s rfl
  have B53 : ∀ (v3 : Int32) (v4 : Int32) (v5 : Int32) (v6 : Int32), tb_FF_isStep_53 N v3 v4 v5 v6 = some res → RO (fun z => (res, h0) = z) (b_FF_isStep_53 K N v3 v4 v5 v6 h0) := by
    intro v3 v4 v5 v6 ht
    unfold tb_FF_isStep_53 at ht
    unfold b_FF_isStep_53
    by_cases c3 : v6 < 3
    · replace ht := fh_t c3 ht
      refine ro_t c3 ?_
      exact B69 v4 v5 v6 ht
    · replace ht := fh_f c3 ht
      refine ro_f c3 ?_
      by_cases c2 : v3 < 0
      · replace ht := fh_t c2 ht
        refine ro_t c2 ?_
        obtain rfl := Option.some.inj ht
        exact ro_s rfl
      · replace ht := fh_f c2 ht
        refine ro_f c2 ?_
        by_cases c1 : v5 ≤ v3
        · replace ht := fh_t c1 ht
          refine ro_t c1 ?_
          obtain rfl := Option.some.inj ht
          exact ro_s rfl
        · replace ht := fh_f c1 ht
          refine ro_f c1 ?_
          exact B69 v4 v5 v6 ht
  have B37 : ∀ (v2 : Int32) (v3 : Int32) (v4 : Int32) (v5 : Int32) (v6 : Int32), tb_FF_isStep_37 N v2 v3 v4 v5 v6 = some res → RO (fun z => (res, h0) = z) (b_FF_isStep_37 K N v2 v3 v4 v5 v6 h0) := by
    intro v2 v3 v4 v5 v6 ht
    unfold tb_FF_isStep_37 at ht
    unfold b_FF_isStep_37
    by_cases c3 : v6 < 2
    · replace ht := fh_t c3 ht
      refine ro_t c3 ?_
      exact B53 v3 v4 v5 v6 ht
    · replace ht := fh_f c3 ht
      refine ro_f c3 ?_
      by_cases c2 : v2 < 0
      · replace ht := fh_t c2 ht
        refine ro_t c2 ?_
        obtain rfl := Option.some.inj ht
        exact ro_s rfl
      · replace ht := fh_f c2 ht
        refine ro_f c2 ?_
        by_cases c1 : v5 ≤ v2
        · replace ht := fh_t c1 ht
          refine ro_t c1 ?_
          obtain rfl := Option.some.inj ht
          exact ro_s rfl
        · replace ht := fh_f c1 ht
          refine ro_f c1 ?_
          exact B53 v3 v4 v5 v6 ht
  unfold t_FF_isStep at ht
  unfold f_FF_isStep
  by_cases c5 : a0 < 0
  · replace ht := fh_t c5 ht
    refine ro_t c5 ?_
    obtain rfl := Option.some.inj ht
    exact ro_s rfl
  · replace ht := fh_f c5 ht
    refine ro_f c5 ?_
    by_cases c4 : a0 < 14
    · replace ht := fh_t c4 ht
      refine ro_t c4 ?_
      obtain ⟨x2, e_x2, ht⟩ := fh_b ht
      refine ro_b e_x2 ?_
      by_cases c3 : x2 < 1
      · replace ht := fh_t c3 ht
        refine ro_t c3 ?_
        exact B37 a2 a3 a4 a5 x2 ht
      · replace ht := fh_f c3 ht
        refine ro_f c3 ?_
        by_cases c2 : a1 < 0
        · replace ht := fh_t c2 ht
          refine ro_t c2 ?_
          obtain rfl := Option.some.inj ht
          exact ro_s rfl
        · replace ht := fh_f c2 ht
          refine ro_f c2 ?_
          by_cases c1 : a5 ≤ a1
          · replace ht := fh_t c1 ht
            refine ro_t c1 ?_
            obtain rfl := Option.some.inj ht
            exact ro_s rfl
          · replace ht := fh_f c1 ht
            refine ro_f c1 ?_
            exact B37 a2 a3 a4 a5 x2 ht
    · replace ht := fh_f c4 ht
      refine ro_f c4 ?_
      obtain rfl := Option.some.inj ht
      exact ro_s rfl
def tb_Pl_write_77 (N : Nat) (v6 : Int32) (v7 : Int32) (v8 : Int32) (w1 : Int32) (w2 : Int32) (S : CS) : Option (CS) :=
  (twi 40 (cs_srcs S) w1 w2).bind fun F1 => (some (cs_set_srcs S F1)).bind fun S1 => if v7 ≤ 3 then ((twi 40 (cs_srcs S1) (v8 + 3) 0).bind fun F3 => (some (cs_set_srcs S1 F3)).bind fun S3 => some S3) else ((twi 40 (cs_srcs S1) (v8 + 3) v6).bind fun F4 => (some (cs_set_srcs S1 F4)).bind fun S4 => some S4)
def tb_Pl_write_56 (N : Nat) (v5 : Int32) (v6 : Int32) (v7 : Int32) (v8 : Int32) (w1 : Int32) (w2 : Int32) (S : CS) : Option (CS) :=
  (twi 40 (cs_srcs S) w1 w2).bind fun F1 => (some (cs_set_srcs S F1)).bind fun S1 => if v7 ≤ 2 then (tb_Pl_write_77 N v6 v7 v8 (v8 + 2) 0 S1) else (tb_Pl_write_77 N v6 v7 v8 (v8 + 2) v5 S1)
def tb_Pl_write_35 (N : Nat) (v4 : Int32) (v5 : Int32) (v6 : Int32) (v7 : Int32) (v8 : Int32) (w1 : Int32) (w2 : Int32) (S : CS) : Option (CS) :=
  (twi 40 (cs_srcs S) w1 w2).bind fun F1 => (some (cs_set_srcs S F1)).bind fun S1 => if v7 ≤ 1 then (tb_Pl_write_56 N v5 v6 v7 v8 (v8 + 1) 0 S1) else (tb_Pl_write_56 N v5 v6 v7 v8 (v8 + 1) v4 S1)
def t_Pl_write (N : Nat) (a1 : Int32) (a2 : Int32) (a3 : Int32) (a4 : Int32) (a5 : Int32) (a6 : Int32) (S0 : CS) : Option (CS) :=
  (ft_i 14 tb_1 a2).bind fun x1 => (some (a1 * 4)).bind fun x2 => (twi 10 (cs_kinds S0) a1 a2).bind fun F4 => (some (cs_set_kinds S0 F4)).bind fun S4 => if x1 ≤ 0 then (tb_Pl_write_35 N a4 a5 a6 x1 x2 x2 0 S4) else (tb_Pl_write_35 N a4 a5 a6 x1 x2 x2 a3 S4)
set_option maxHeartbeats 4000000 in
theorem u_Pl_write {K : Nat → ClassId} {N : Nat} {a1 : Int32} {a2 : Int32} {a3 : Int32} {a4 : Int32} {a5 : Int32} {a6 : Int32} {h0 : fh_H} {S0 : CS} {res : CS} {L : Nat → Nat → Nat} {hb : fh_H} (hL : cs_I L) (ht : t_Pl_write N a1 a2 a3 a4 a5 a6 S0 = some res) (hC : cs_W K L hb h0 S0) : RO (fun z => cs_W K L hb z res) (f_Pl_write K N (L 1 0) a1 a2 a3 a4 a5 a6 h0) := by
  have B77 : ∀ (v6 : Int32) (v7 : Int32) (v8 : Int32) (w1 : Int32) (w2 : Int32) (S : CS) (h : fh_H), cs_W K L hb h S → tb_Pl_write_77 N v6 v7 v8 w1 w2 S = some res → RO (fun z => cs_W K L hb z res) (b_Pl_write_77 K N (L 1 0) v6 v7 v8 (some (L 3 0)) w1 w2 h) := by
    intro v6 v7 v8 w1 w2 S h hC ht
    unfold tb_Pl_write_77 at ht
    unfold b_Pl_write_77
    obtain ⟨F1, e_F1, ht⟩ := fh_b ht
    obtain ⟨S1, e_S1, ht⟩ := fh_b ht
    refine ro_c (G1 := (fun z => cs_W K L hb z S1)) ⟨_, aw_i (hC.1 3 0 (by decide)) e_F1, by rw [← Option.some.inj e_S1]; exact cs_w_srcs hL hC ⟩ (fun h hC => ?_)
    refine ro_b (oi_a (hC.1 1 0 (by decide)) rfl) ?_
    by_cases c1 : v7 ≤ 3
    · replace ht := fh_t c1 ht
      refine ro_t c1 ?_
      obtain ⟨F3, e_F3, ht⟩ := fh_b ht
      obtain ⟨S3, e_S3, ht⟩ := fh_b ht
      refine ro_c (G1 := (fun z => cs_W K L hb z S3)) ⟨_, aw_i (hC.1 3 0 (by decide)) e_F3, by rw [← Option.some.inj e_S3]; exact cs_w_srcs hL hC ⟩ (fun h hC => ?_)
      obtain rfl := Option.some.inj ht
      exact ro_s hC
    · replace ht := fh_f c1 ht
      refine ro_f c1 ?_
      obtain ⟨F4, e_F4, ht⟩ := fh_b ht
      obtain ⟨S4, e_S4, ht⟩ := fh_b ht
      refine ro_c (G1 := (fun z => cs_W K L hb z S4)) ⟨_, aw_i (hC.1 3 0 (by decide)) e_F4, by rw [← Option.some.inj e_S4]; exact cs_w_srcs hL hC ⟩ (fun h hC => ?_)
      obtain rfl := Option.some.inj ht
      exact ro_s hC
  have B56 : ∀ (v5 : Int32) (v6 : Int32) (v7 : Int32) (v8 : Int32) (w1 : Int32) (w2 : Int32) (S : CS) (h : fh_H), cs_W K L hb h S → tb_Pl_write_56 N v5 v6 v7 v8 w1 w2 S = some res → RO (fun z => cs_W K L hb z res) (b_Pl_write_56 K N (L 1 0) v5 v6 v7 v8 (some (L 3 0)) w1 w2 h) := by
    intro v5 v6 v7 v8 w1 w2 S h hC ht
    unfold tb_Pl_write_56 at ht
    unfold b_Pl_write_56
    obtain ⟨F1, e_F1, ht⟩ := fh_b ht
    obtain ⟨S1, e_S1, ht⟩ := fh_b ht
    refine ro_c (G1 := (fun z => cs_W K L hb z S1)) ⟨_, aw_i (hC.1 3 0 (by decide)) e_F1, by rw [← Option.some.inj e_S1]; exact cs_w_srcs hL hC ⟩ (fun h hC => ?_)
    refine ro_b (oi_a (hC.1 1 0 (by decide)) rfl) ?_
    by_cases c1 : v7 ≤ 2
    · replace ht := fh_t c1 ht
      refine ro_t c1 ?_
      exact B77 v6 v7 v8 (v8 + 2) 0 S1 _ hC ht
    · replace ht := fh_f c1 ht
      refine ro_f c1 ?_
      exact B77 v6 v7 v8 (v8 + 2) v5 S1 _ hC ht
  have B35 : ∀ (v4 : Int32) (v5 : Int32) (v6 : Int32) (v7 : Int32) (v8 : Int32) (w1 : Int32) (w2 : Int32) (S : CS) (h : fh_H), cs_W K L hb h S → tb_Pl_write_35 N v4 v5 v6 v7 v8 w1 w2 S = some res → RO (fun z => cs_W K L hb z res) (b_Pl_write_35 K N (L 1 0) v4 v5 v6 v7 v8 (some (L 3 0)) w1 w2 h) := by
    intro v4 v5 v6 v7 v8 w1 w2 S h hC ht
    unfold tb_Pl_write_35 at ht
    unfold b_Pl_write_35
    obtain ⟨F1, e_F1, ht⟩ := fh_b ht
    obtain ⟨S1, e_S1, ht⟩ := fh_b ht
    refine ro_c (G1 := (fun z => cs_W K L hb z S1)) ⟨_, aw_i (hC.1 3 0 (by decide)) e_F1, by rw [← Option.some.inj e_S1]; exact cs_w_srcs hL hC ⟩ (fun h hC => ?_)
    refine ro_b (oi_a (hC.1 1 0 (by decide)) rfl) ?_
    by_cases c1 : v7 ≤ 1
    · replace ht := fh_t c1 ht
      refine ro_t c1 ?_
      exact B56 v5 v6 v7 v8 (v8 + 1) 0 S1 _ hC ht
    · replace ht := fh_f c1 ht
      refine ro_f c1 ?_
      exact B56 v5 v6 v7 v8 (v8 + 1) v4 S1 _ hC ht
  unfold t_Pl_write at ht
  unfold f_Pl_write
  obtain ⟨x1, e_x1, ht⟩ := fh_b ht
  refine ro_b e_x1 ?_
  obtain ⟨x2, e_x2, ht⟩ := fh_b ht
  refine ro_b e_x2 ?_
  refine ro_b (oi_a (hC.1 1 0 (by decide)) rfl) ?_
  obtain ⟨F4, e_F4, ht⟩ := fh_b ht
  obtain ⟨S4, e_S4, ht⟩ := fh_b ht
  refine ro_c (G1 := (fun z => cs_W K L hb z S4)) ⟨_, aw_i (hC.1 2 0 (by decide)) e_F4, by rw [← Option.some.inj e_S4]; exact cs_w_kinds hL hC ⟩ (fun h hC => ?_)
  refine ro_b (oi_a (hC.1 1 0 (by decide)) rfl) ?_
  by_cases c1 : x1 ≤ 0
  · replace ht := fh_t c1 ht
    refine ro_t c1 ?_
    exact B35 a4 a5 a6 x1 x2 x2 0 S4 _ hC ht
  · replace ht := fh_f c1 ht
    refine ro_f c1 ?_
    exact B35 a4 a5 a6 x1 x2 x2 a3 S4 _ hC ht
def t_FF_step (N : Nat) (a1 : Int32) (a2 : Int32) (a3 : Int32) (a4 : Int32) (a5 : Int32) (S0 : CS) : Option (Int32 × CS) :=
  (some (cs_psize S0)).bind fun x2 => (t_FF_isStep N a1 a2 a3 a4 a5 x2).bind fun r3 => if r3 = 0 then (some ((-2), S0)) else ((some (cs_psize S0)).bind fun x5 => if x5 < 10 then ((some (cs_psize S0)).bind fun x7 => (t_Pl_write N x7 a1 a2 a3 a4 a5 S0).bind fun r10 => (some (cs_set_psize r10 (x7 + 1))).bind fun S12 => (t_Dr_goOn N 0 (some 0) (-1) S12).bind fun r17 => (some (cs_psize r17)).bind fun x20 => (t_Fs_forget N x20 r17).bind fun r22 => some (x7, r22)) else (some ((-3), S0)))
set_option maxHeartbeats 4000000 in
theorem u_FF_step {K : Nat → ClassId} {N : Nat} {a1 : Int32} {a2 : Int32} {a3 : Int32} {a4 : Int32} {a5 : Int32} {h0 : fh_H} {S0 : CS} {res : Int32 × CS} {L : Nat → Nat → Nat} {hb : fh_H} (hL : cs_I L) (ht : t_FF_step N a1 a2 a3 a4 a5 S0 = some res) (hC : cs_W K L hb h0 S0) : RO (fun z => z.1 = res.1 ∧ cs_W K L hb z.2 res.2) (f_FF_step K N (L 0 0) a1 a2 a3 a4 a5 h0) := by
  unfold t_FF_step at ht
  unfold f_FF_step
  refine ro_b (oi_a (hC.1 0 0 (by decide)) rfl) ?_
  obtain ⟨x2, e_x2, ht⟩ := fh_b ht
  refine ro_b ((oi_i (hC.1 1 0 (by decide)) rfl).trans e_x2) ?_
  obtain ⟨r3, e_r3, ht⟩ := fh_b ht
  refine ro_c (u_FF_isStep e_r3) (fun z hz => ?_)
  subst hz
  by_cases c2 : r3 = 0
  · replace ht := fh_t c2 ht
    refine ro_t c2 ?_
    obtain rfl := Option.some.inj ht
    exact ro_s ⟨rfl, hC⟩
  · replace ht := fh_f c2 ht
    refine ro_f c2 ?_
    refine ro_b (oi_a (hC.1 0 0 (by decide)) rfl) ?_
    obtain ⟨x5, e_x5, ht⟩ := fh_b ht
    refine ro_b ((oi_i (hC.1 1 0 (by decide)) rfl).trans e_x5) ?_
    by_cases c1 : x5 < 10
    · replace ht := fh_t c1 ht
      refine ro_t c1 ?_
      refine ro_b (oi_a (hC.1 0 0 (by decide)) rfl) ?_
      obtain ⟨x7, e_x7, ht⟩ := fh_b ht
      refine ro_b ((oi_i (hC.1 1 0 (by decide)) rfl).trans e_x7) ?_
      refine ro_b (oi_a (hC.1 0 0 (by decide)) rfl) ?_
      refine ro_b (oi_o (hC.1 1 0 (by decide))) ?_
      obtain ⟨r10, e_r10, ht⟩ := fh_b ht
      refine ro_c (u_Pl_write hL e_r10 hC) (fun h hC => ?_)
      refine ro_b (oi_a (hC.1 0 0 (by decide)) rfl) ?_
      obtain ⟨S12, e_S12, ht⟩ := fh_b ht
      refine ro_c (G1 := (fun z => cs_W K L hb z S12)) ⟨_, oi_p (hC.1 1 0 (by decide)) (Nat.le_of_ble_eq_true rfl), by rw [← Option.some.inj e_S12]; exact cs_w_psize hL hC rfl⟩ (fun h hC => ?_)
      refine ro_b (oi_a (hC.1 0 0 (by decide)) rfl) ?_
      refine ro_b (oi_a (hC.1 4 0 (by decide)) rfl) ?_
      refine ro_b (oi_a (hC.1 0 0 (by decide)) rfl) ?_
      refine ro_b (oi_o (hC.1 5 0 (by decide))) ?_
      obtain ⟨r17, e_r17, ht⟩ := fh_b ht
      refine ro_c (u_Dr_goOn hL e_r17 hC (by decide)) (fun h hC => ?_)
      refine ro_b (oi_a (hC.1 0 0 (by decide)) rfl) ?_
      refine ro_b (oi_a (hC.1 0 0 (by decide)) rfl) ?_
      obtain ⟨x20, e_x20, ht⟩ := fh_b ht
      refine ro_b ((oi_i (hC.1 1 0 (by decide)) rfl).trans e_x20) ?_
      refine ro_b (oi_o (hC.1 4 0 (by decide))) ?_
      obtain ⟨r22, e_r22, ht⟩ := fh_b ht
      refine ro_c (u_Fs_forget hL e_r22 hC) (fun h hC => ?_)
      obtain rfl := Option.some.inj ht
      exact ro_s ⟨rfl, hC⟩
    · replace ht := fh_f c1 ht
      refine ro_f c1 ?_
      obtain rfl := Option.some.inj ht
      exact ro_s ⟨rfl, hC⟩
def t_FF_isThere (N : Nat) (a1 : Int32) (S0 : CS) : Option (Int32) :=
  if a1 < 0 then (some 0) else ((some (cs_psize S0)).bind fun x2 => if x2 ≤ a1 then (some 0) else (some 1))
set_option maxHeartbeats 4000000 in
theorem u_FF_isThere {K : Nat → ClassId} {N : Nat} {a1 : Int32} {h0 : fh_H} {S0 : CS} {res : Int32} {L : Nat → Nat → Nat} {hb : fh_H} (hL : cs_I L) (ht : t_FF_isThere N a1 S0 = some res) (hC : cs_W K L hb h0 S0) : RO (fun z => (res, h0) = z) (f_FF_isThere K N (L 0 0) a1 h0) := by
  unfold t_FF_isThere at ht
  unfold f_FF_isThere
  by_cases c2 : a1 < 0
  · replace ht := fh_t c2 ht
    refine ro_t c2 ?_
    obtain rfl := Option.some.inj ht
    exact ro_s rfl
  · replace ht := fh_f c2 ht
    refine ro_f c2 ?_
    refine ro_b (oi_a (hC.1 0 0 (by decide)) rfl) ?_
    obtain ⟨x2, e_x2, ht⟩ := fh_b ht
    refine ro_b ((oi_i (hC.1 1 0 (by decide)) rfl).trans e_x2) ?_
    by_cases c1 : x2 ≤ a1
    · replace ht := fh_t c1 ht
      refine ro_t c1 ?_
      obtain rfl := Option.some.inj ht
      exact ro_s rfl
    · replace ht := fh_f c1 ht
      refine ro_f c1 ?_
      obtain rfl := Option.some.inj ht
      exact ro_s rfl
def t_FF_change (N : Nat) (a1 : Int32) (a2 : Int32) (a3 : Int32) (a4 : Int32) (a5 : Int32) (a6 : Int32) (S0 : CS) : Option (Int32 × CS) :=
  (t_FF_isThere N a1 S0).bind fun r2 => if r2 = 0 then (some ((-2), S0)) else ((t_FF_isStep N a2 a3 a4 a5 a6 a1).bind fun r3 => if r3 = 0 then (some ((-2), S0)) else ((ta 10 (cs_kinds S0) a1).bind fun x6 => (t_Pl_write N a1 a2 a3 a4 a5 a6 S0).bind fun r9 => (t_FF_drawAll N r9).bind fun r11 => some (x6, r11)))
set_option maxHeartbeats 4000000 in
theorem u_FF_change {K : Nat → ClassId} {N : Nat} {a1 : Int32} {a2 : Int32} {a3 : Int32} {a4 : Int32} {a5 : Int32} {a6 : Int32} {h0 : fh_H} {S0 : CS} {res : Int32 × CS} {L : Nat → Nat → Nat} {hb : fh_H} (hL : cs_I L) (ht : t_FF_change N a1 a2 a3 a4 a5 a6 S0 = some res) (hC : cs_W K L hb h0 S0) : RO (fun z => z.1 = res.1 ∧ cs_W K L hb z.2 res.2) (f_FF_change K N (L 0 0) a1 a2 a3 a4 a5 a6 h0) := by
  unfold t_FF_change at ht
  unfold f_FF_change
  refine ro_b (oi_o (hC.1 0 0 (by decide))) ?_
  obtain ⟨r2, e_r2, ht⟩ := fh_b ht
  refine ro_c (u_FF_isThere hL e_r2 hC) (fun z hz => ?_)
  subst hz
  by_cases c2 : r2 = 0
  · replace ht := fh_t c2 ht
    refine ro_t c2 ?_
    obtain rfl := Option.some.inj ht
    exact ro_s ⟨rfl, hC⟩
  · replace ht := fh_f c2 ht
    refine ro_f c2 ?_
    obtain ⟨r3, e_r3, ht⟩ := fh_b ht
    refine ro_c (u_FF_isStep e_r3) (fun z hz => ?_)
    subst hz
    by_cases c1 : r3 = 0
    · replace ht := fh_t c1 ht
      refine ro_t c1 ?_
      obtain rfl := Option.some.inj ht
      exact ro_s ⟨rfl, hC⟩
    · replace ht := fh_f c1 ht
      refine ro_f c1 ?_
      refine ro_b (oi_a (hC.1 0 0 (by decide)) rfl) ?_
      refine ro_b (oi_a (hC.1 1 0 (by decide)) rfl) ?_
      obtain ⟨x6, e_x6, ht⟩ := fh_b ht
      refine ro_b ((ai_i (hC.1 2 0 (by decide))).trans e_x6) ?_
      refine ro_b (oi_a (hC.1 0 0 (by decide)) rfl) ?_
      refine ro_b (oi_o (hC.1 1 0 (by decide))) ?_
      obtain ⟨r9, e_r9, ht⟩ := fh_b ht
      refine ro_c (u_Pl_write hL e_r9 hC) (fun h hC => ?_)
      refine ro_b (oi_o (hC.1 0 0 (by decide))) ?_
      obtain ⟨r11, e_r11, ht⟩ := fh_b ht
      refine ro_c (u_FF_drawAll hL e_r11 hC) (fun h hC => ?_)
      obtain rfl := Option.some.inj ht
      exact ro_s ⟨rfl, hC⟩
def t_FF_draw (N : Nat) (a1 : Int32) (a2 : Int32) (S0 : CS) : Option (Int32 × CS) :=
  if a1 < 1 then (some ((-2), S0)) else (if 1000000 < a1 then (some ((-2), S0)) else (if a2 < 1 then (some ((-2), S0)) else (if a2 ≤ 5 then ((some (cs_set_seed S0 a1)).bind fun S1 => (some (cs_set_figs S1 a2)).bind fun S2 => (t_FF_drawAll N S2).bind fun r4 => (some (cs_stand r4 0)).bind fun x7 => some (x7, r4)) else (some ((-2), S0)))))
set_option maxHeartbeats 4000000 in
theorem u_FF_draw {K : Nat → ClassId} {N : Nat} {a1 : Int32} {a2 : Int32} {h0 : fh_H} {S0 : CS} {res : Int32 × CS} {L : Nat → Nat → Nat} {hb : fh_H} (hL : cs_I L) (ht : t_FF_draw N a1 a2 S0 = some res) (hC : cs_W K L hb h0 S0) : RO (fun z => z.1 = res.1 ∧ cs_W K L hb z.2 res.2) (f_FF_draw K N (L 0 0) a1 a2 h0) := by
  unfold t_FF_draw at ht
  unfold f_FF_draw
  by_cases c4 : a1 < 1
  · replace ht := fh_t c4 ht
    refine ro_t c4 ?_
    obtain rfl := Option.some.inj ht
    exact ro_s ⟨rfl, hC⟩
  · replace ht := fh_f c4 ht
    refine ro_f c4 ?_
    by_cases c3 : 1000000 < a1
    · replace ht := fh_t c3 ht
      refine ro_t c3 ?_
      obtain rfl := Option.some.inj ht
      exact ro_s ⟨rfl, hC⟩
    · replace ht := fh_f c3 ht
      refine ro_f c3 ?_
      by_cases c2 : a2 < 1
      · replace ht := fh_t c2 ht
        refine ro_t c2 ?_
        obtain rfl := Option.some.inj ht
        exact ro_s ⟨rfl, hC⟩
      · replace ht := fh_f c2 ht
        refine ro_f c2 ?_
        by_cases c1 : a2 ≤ 5
        · replace ht := fh_t c1 ht
          refine ro_t c1 ?_
          obtain ⟨S1, e_S1, ht⟩ := fh_b ht
          refine ro_c (G1 := (fun z => cs_W K L hb z S1)) ⟨_, oi_p (hC.1 0 0 (by decide)) (Nat.le_of_ble_eq_true rfl), by rw [← Option.some.inj e_S1]; exact cs_w_seed hL hC rfl⟩ (fun h hC => ?_)
          obtain ⟨S2, e_S2, ht⟩ := fh_b ht
          refine ro_c (G1 := (fun z => cs_W K L hb z S2)) ⟨_, oi_p (hC.1 0 0 (by decide)) (Nat.le_of_ble_eq_true rfl), by rw [← Option.some.inj e_S2]; exact cs_w_figs hL hC rfl⟩ (fun h hC => ?_)
          refine ro_b (oi_o (hC.1 0 0 (by decide))) ?_
          obtain ⟨r4, e_r4, ht⟩ := fh_b ht
          refine ro_c (u_FF_drawAll hL e_r4 hC) (fun h hC => ?_)
          refine ro_b (oi_a (hC.1 0 0 (by decide)) rfl) ?_
          refine ro_b (oi_a (hC.1 4 0 (by decide)) rfl) ?_
          obtain ⟨x7, e_x7, ht⟩ := fh_b ht
          refine ro_b ((oi_i (hC.1 5 0 (by decide)) rfl).trans e_x7) ?_
          obtain rfl := Option.some.inj ht
          exact ro_s ⟨rfl, hC⟩
        · replace ht := fh_f c1 ht
          refine ro_f c1 ?_
          obtain rfl := Option.some.inj ht
          exact ro_s ⟨rfl, hC⟩
def tb_Fs_isNew_16 (N : Nat) (v1 : Int32) (w0 : Int32) (S : CS) : Option (Int32 × CS) :=
  (some (cs_known S)).bind fun x1 => (some (cs_set_known S (x1 ||| ((1 : Int32) <<< (v1 &&& 31))))).bind fun S2 => (tz w0).bind fun zz => some (zz, S2)
def t_Fs_isNew (N : Nat) (a1 : Int32) (S0 : CS) : Option (Int32 × CS) :=
  (some (cs_known S0)).bind fun x1 => if ((x1 >>> (a1 &&& 31)) &&& 1) = 0 then (tb_Fs_isNew_16 N a1 1 S0) else (tb_Fs_isNew_16 N a1 0 S0)
set_option maxHeartbeats 4000000 in
theorem u_Fs_isNew {K : Nat → ClassId} {N : Nat} {a1 : Int32} {h0 : fh_H} {S0 : CS} {res : Int32 × CS} {L : Nat → Nat → Nat} {hb : fh_H} (hL : cs_I L) (ht : t_Fs_isNew N a1 S0 = some res) (hC : cs_W K L hb h0 S0) : RO (fun z => z.1 = res.1 ∧ cs_W K L hb z.2 res.2) (f_Fs_isNew K N (L 4 0) a1 h0) := by
  have B16 : ∀ (v1 : Int32) (w0 : Int32) (S : CS) (h : fh_H), cs_W K L hb h S → tb_Fs_isNew_16 N v1 w0 S = some res → RO (fun z => z.1 = res.1 ∧ cs_W K L hb z.2 res.2) (b_Fs_isNew_16 K N (L 4 0) v1 w0 h) := by
    intro v1 w0 S h hC ht
    unfold tb_Fs_isNew_16 at ht
    unfold b_Fs_isNew_16
    obtain ⟨x1, e_x1, ht⟩ := fh_b ht
    refine ro_b ((oi_i (hC.1 4 0 (by decide)) rfl).trans e_x1) ?_
    obtain ⟨S2, e_S2, ht⟩ := fh_b ht
    refine ro_c (G1 := (fun z => cs_W K L hb z S2)) ⟨_, oi_p (hC.1 4 0 (by decide)) (Nat.le_of_ble_eq_true rfl), by rw [← Option.some.inj e_S2]; exact cs_w_known hL hC rfl⟩ (fun h hC => ?_)
    obtain ⟨zz, e_zz, ht⟩ := fh_b ht
    obtain ⟨hz, rfl⟩ := tz_s e_zz
    obtain rfl := Option.some.inj ht
    exact ro_z hz ⟨rfl, hC⟩
  unfold t_Fs_isNew at ht
  unfold f_Fs_isNew
  obtain ⟨x1, e_x1, ht⟩ := fh_b ht
  refine ro_b ((oi_i (hC.1 4 0 (by decide)) rfl).trans e_x1) ?_
  by_cases c1 : ((x1 >>> (a1 &&& 31)) &&& 1) = 0
  · replace ht := fh_t c1 ht
    refine ro_t c1 ?_
    exact B16 a1 1 S0 _ hC ht
  · replace ht := fh_f c1 ht
    refine ro_f c1 ?_
    exact B16 a1 0 S0 _ hC ht
def t_FF_pack (N : Nat) (a0 : Int32) (a1 : Int32) (a2 : Int32) : Option (Int32) :=
  (some ((a0 ||| (a1 <<< ((4 : Int32) &&& 31))) ||| (a2 <<< ((8 : Int32) &&& 31)))).bind fun x1 => some x1
set_option maxHeartbeats 4000000 in
theorem u_FF_pack {K : Nat → ClassId} {N : Nat} {a0 : Int32} {a1 : Int32} {a2 : Int32} {h0 : fh_H} {res : Int32} (ht : t_FF_pack N a0 a1 a2 = some res) : RO (fun z => (res, h0) = z) (f_FF_pack K N a0 a1 a2 h0) := by
  unfold t_FF_pack at ht
  unfold f_FF_pack
  obtain ⟨x1, e_x1, ht⟩ := fh_b ht
  refine ro_b e_x1 ?_
  obtain rfl := Option.some.inj ht
  exact ro_s rfl
def t_FF_unpack (N : Nat) (a0 : Int32) (a1 : Int32) : Option (Int32) :=
  some ((a0 >>> ((a1 * 4) &&& 31)) &&& 15)
set_option maxHeartbeats 4000000 in
theorem u_FF_unpack {K : Nat → ClassId} {N : Nat} {a0 : Int32} {a1 : Int32} {h0 : fh_H} {res : Int32} (ht : t_FF_unpack N a0 a1 = some res) : RO (fun z => (res, h0) = z) (f_FF_unpack K N a0 a1 h0) := by
  unfold t_FF_unpack at ht
  unfold f_FF_unpack
  obtain rfl := Option.some.inj ht
  exact ro_s rfl
def t_Fi_dot (N : Nat) (i : Nat) (a1 : Int32) (a2 : Int32) (a3 : Int32) (a4 : Int32) (S0 : CS) : Option (Int64) :=
  (ta 16 (cs_fx S0 i) a2).bind fun x2 => (ta 16 (cs_fx S0 i) a1).bind fun x4 => (ta 16 (cs_fx S0 i) a4).bind fun x6 => (ta 16 (cs_fx S0 i) a3).bind fun x8 => (ta 16 (cs_fy S0 i) a2).bind fun x10 => (ta 16 (cs_fy S0 i) a1).bind fun x12 => (ta 16 (cs_fy S0 i) a4).bind fun x14 => (ta 16 (cs_fy S0 i) a3).bind fun x16 => (some ((((x2 - x4).toInt64) * ((x6 - x8).toInt64)) + (((x10 - x12).toInt64) * ((x14 - x16).toInt64)))).bind fun x17 => some (fr_l x17 1000003)
set_option maxHeartbeats 4000000 in
theorem u_Fi_dot {K : Nat → ClassId} {N : Nat} {i : Nat} {a1 : Int32} {a2 : Int32} {a3 : Int32} {a4 : Int32} {h0 : fh_H} {S0 : CS} {res : Int64} {L : Nat → Nat → Nat} {hb : fh_H} (hL : cs_I L) (ht : t_Fi_dot N i a1 a2 a3 a4 S0 = some res) (hC : cs_W K L hb h0 S0) (hi : i < 10) : RO (fun z => (res, h0) = z) (f_Fi_dot K N (L 7 i) a1 a2 a3 a4 h0) := by
  unfold t_Fi_dot at ht
  unfold f_Fi_dot
  refine ro_b (oi_a (hC.1 7 i hi) rfl) ?_
  obtain ⟨x2, e_x2, ht⟩ := fh_b ht
  refine ro_b ((ai_i (hC.1 8 i hi)).trans e_x2) ?_
  refine ro_b (oi_a (hC.1 7 i hi) rfl) ?_
  obtain ⟨x4, e_x4, ht⟩ := fh_b ht
  refine ro_b ((ai_i (hC.1 8 i hi)).trans e_x4) ?_
  refine ro_b (oi_a (hC.1 7 i hi) rfl) ?_
  obtain ⟨x6, e_x6, ht⟩ := fh_b ht
  refine ro_b ((ai_i (hC.1 8 i hi)).trans e_x6) ?_
  refine ro_b (oi_a (hC.1 7 i hi) rfl) ?_
  obtain ⟨x8, e_x8, ht⟩ := fh_b ht
  refine ro_b ((ai_i (hC.1 8 i hi)).trans e_x8) ?_
  refine ro_b (oi_a (hC.1 7 i hi) rfl) ?_
  obtain ⟨x10, e_x10, ht⟩ := fh_b ht
  refine ro_b ((ai_i (hC.1 9 i hi)).trans e_x10) ?_
  refine ro_b (oi_a (hC.1 7 i hi) rfl) ?_
  obtain ⟨x12, e_x12, ht⟩ := fh_b ht
  refine ro_b ((ai_i (hC.1 9 i hi)).trans e_x12) ?_
  refine ro_b (oi_a (hC.1 7 i hi) rfl) ?_
  obtain ⟨x14, e_x14, ht⟩ := fh_b ht
  refine ro_b ((ai_i (hC.1 9 i hi)).trans e_x14) ?_
  refine ro_b (oi_a (hC.1 7 i hi) rfl) ?_
  obtain ⟨x16, e_x16, ht⟩ := fh_b ht
  refine ro_b ((ai_i (hC.1 9 i hi)).trans e_x16) ?_
  obtain ⟨x17, e_x17, ht⟩ := fh_b ht
  refine ro_b e_x17 ?_
  obtain rfl := Option.some.inj ht
  exact ro_s rfl
def t_Fi_showsCircle (N : Nat) (i : Nat) (a1 : Int32) (a2 : Int32) (a3 : Int32) (a4 : Int32) (S0 : CS) : Option (Int32) :=
  (t_Fi_length N i a1 a2 S0).bind fun r2 => (t_Fi_cross N i a1 a3 a1 a4 S0).bind fun r4 => (t_Fi_length N i a1 a3 S0).bind fun r6 => (t_Fi_cross N i a1 a2 a1 a4 S0).bind fun r8 => (t_Fi_length N i a1 a4 S0).bind fun r10 => (t_Fi_cross N i a1 a2 a1 a3 S0).bind fun r12 => (some (((r2 * r4) - (r6 * r8)) + (r10 * r12))).bind fun x13 => if (lg_cmp (fr_l x13 1000003) 0) = 0 then (some 1) else (some 0)
set_option maxHeartbeats 4000000 in
theorem u_Fi_showsCircle {K : Nat → ClassId} {N : Nat} {i : Nat} {a1 : Int32} {a2 : Int32} {a3 : Int32} {a4 : Int32} {h0 : fh_H} {S0 : CS} {res : Int32} {L : Nat → Nat → Nat} {hb : fh_H} (hL : cs_I L) (ht : t_Fi_showsCircle N i a1 a2 a3 a4 S0 = some res) (hC : cs_W K L hb h0 S0) (hi : i < 10) : RO (fun z => (res, h0) = z) (f_Fi_showsCircle K N (L 7 i) a1 a2 a3 a4 h0) := by
  unfold t_Fi_showsCircle at ht
  unfold f_Fi_showsCircle
  refine ro_b (oi_o (hC.1 7 i hi)) ?_
  obtain ⟨r2, e_r2, ht⟩ := fh_b ht
  refine ro_c (u_Fi_length hL e_r2 hC hi) (fun z hz => ?_)
  subst hz
  refine ro_b (oi_o (hC.1 7 i hi)) ?_
  obtain ⟨r4, e_r4, ht⟩ := fh_b ht
  refine ro_c (u_Fi_cross hL e_r4 hC hi) (fun z hz => ?_)
  subst hz
  refine ro_b (oi_o (hC.1 7 i hi)) ?_
  obtain ⟨r6, e_r6, ht⟩ := fh_b ht
  refine ro_c (u_Fi_length hL e_r6 hC hi) (fun z hz => ?_)
  subst hz
  refine ro_b (oi_o (hC.1 7 i hi)) ?_
  obtain ⟨r8, e_r8, ht⟩ := fh_b ht
  refine ro_c (u_Fi_cross hL e_r8 hC hi) (fun z hz => ?_)
  subst hz
  refine ro_b (oi_o (hC.1 7 i hi)) ?_
  obtain ⟨r10, e_r10, ht⟩ := fh_b ht
  refine ro_c (u_Fi_length hL e_r10 hC hi) (fun z hz => ?_)
  subst hz
  refine ro_b (oi_o (hC.1 7 i hi)) ?_
  obtain ⟨r12, e_r12, ht⟩ := fh_b ht
  refine ro_c (u_Fi_cross hL e_r12 hC hi) (fun z hz => ?_)
  subst hz
  obtain ⟨x13, e_x13, ht⟩ := fh_b ht
  refine ro_b e_x13 ?_
  by_cases c1 : (lg_cmp (fr_l x13 1000003) 0) = 0
  · replace ht := fh_t c1 ht
    refine ro_t c1 ?_
    obtain rfl := Option.some.inj ht
    exact ro_s rfl
  · replace ht := fh_f c1 ht
    refine ro_f c1 ?_
    obtain rfl := Option.some.inj ht
    exact ro_s rfl
def t_Fi_squaredArea (N : Nat) (i : Nat) (a1 : Int32) (a2 : Int32) (a3 : Int32) (S0 : CS) : Option (Int64) :=
  (t_Fi_cross N i a1 a2 a1 a3 S0).bind fun r2 => some (fr_l (r2 * r2) 1000003)
set_option maxHeartbeats 4000000 in
theorem u_Fi_squaredArea {K : Nat → ClassId} {N : Nat} {i : Nat} {a1 : Int32} {a2 : Int32} {a3 : Int32} {h0 : fh_H} {S0 : CS} {res : Int64} {L : Nat → Nat → Nat} {hb : fh_H} (hL : cs_I L) (ht : t_Fi_squaredArea N i a1 a2 a3 S0 = some res) (hC : cs_W K L hb h0 S0) (hi : i < 10) : RO (fun z => (res, h0) = z) (f_Fi_squaredArea K N (L 7 i) a1 a2 a3 h0) := by
  unfold t_Fi_squaredArea at ht
  unfold f_Fi_squaredArea
  refine ro_b (oi_o (hC.1 7 i hi)) ?_
  obtain ⟨r2, e_r2, ht⟩ := fh_b ht
  refine ro_c (u_Fi_cross hL e_r2 hC hi) (fun z hz => ?_)
  subst hz
  obtain rfl := Option.some.inj ht
  exact ro_s rfl
def t_Fi_shows (N : Nat) (i : Nat) (a1 : Int32) (a2 : Int32) (S0 : CS) : Option (Int32) :=
  (t_FF_unpack N a2 0).bind fun r1 => (t_FF_unpack N a2 1).bind fun r2 => (t_FF_unpack N a2 2).bind fun r3 => (t_FF_unpack N a2 3).bind fun r4 => (t_FF_unpack N a2 4).bind fun r5 => (t_FF_unpack N a2 5).bind fun r6 => if a1 = 0 then ((ta 16 (cs_fx S0 i) r1).bind fun x8 => (ta 16 (cs_fx S0 i) r2).bind fun x10 => if x8 = x10 then ((ta 16 (cs_fy S0 i) r1).bind fun x12 => (ta 16 (cs_fy S0 i) r2).bind fun x14 => if x12 = x14 then (some 1) else (some 0)) else (some 0)) else (if a1 = 1 then ((t_Fi_cross N i r1 r2 r1 r3 S0).bind fun r16 => if (lg_cmp r16 0) = 0 then (some 1) else (some 0)) else (if a1 = 2 then ((t_Fi_cross N i r1 r2 r3 r4 S0).bind fun r18 => if (lg_cmp r18 0) = 0 then (some 1) else (some 0)) else (if a1 = 3 then ((t_Fi_dot N i r1 r2 r3 r4 S0).bind fun r20 => if (lg_cmp r20 0) = 0 then (some 1) else (some 0)) else (if a1 = 4 then ((t_Fi_length N i r1 r2 S0).bind fun r22 => (t_Fi_length N i r3 r4 S0).bind fun r24 => if (lg_cmp r22 r24) = 0 then (some 1) else (some 0)) else (if a1 = 5 then ((t_Fi_showsCircle N i r1 r2 r3 r4 S0).bind fun r26 => (tz r26).bind fun zz => some zz) else (if a1 = 6 then ((ta 16 (cs_fx S0 i) r1).bind fun x28 => (ta 16 (cs_fx S0 i) r2).bind fun x30 => (ta 16 (cs_fx S0 i) r3).bind fun x32 => if (fr_i (((2 * x28) - x30) - x32) 1000003) = 0 then ((ta 16 (cs_fy S0 i) r1).bind fun x34 => (ta 16 (cs_fy S0 i) r2).bind fun x36 => (ta 16 (cs_fy S0 i) r3).bind fun x38 => if (fr_i (((2 * x34) - x36) - x38) 1000003) = 0 then (some 1) else (some 0)) else (some 0)) else (if a1 = 7 then ((t_Fi_squaredArea N i r1 r2 r3 S0).bind fun r40 => (t_Fi_squaredArea N i r4 r5 r6 S0).bind fun r42 => if (lg_cmp r40 r42) = 0 then (some 1) else (some 0)) else (if a1 = 8 then ((t_Fi_length N i r1 r2 S0).bind fun r44 => (t_Fi_length N i r3 r4 S0).bind fun r46 => if (lg_cmp (fr_l (r5.toInt64 * r44) 1000003) (fr_l (r6.toInt64 * r46) 1000003)) = 0 then (some 1) else (some 0)) else (some 0)))))))))
set_option maxHeartbeats 4000000 in
theorem u_Fi_shows {K : Nat → ClassId} {N : Nat} {i : Nat} {a1 : Int32} {a2 : Int32} {h0 : fh_H} {S0 : CS} {res : Int32} {L : Nat → Nat → Nat} {hb : fh_H} (hL : cs_I L) (ht : t_Fi_shows N i a1 a2 S0 = some res) (hC : cs_W K L hb h0 S0) (hi : i < 10) : RO (fun z => (res, h0) = z) (f_Fi_shows K N (L 7 i) a1 a2 h0) := by
  unfold t_Fi_shows at ht
  unfold f_Fi_shows
  obtain ⟨r1, e_r1, ht⟩ := fh_b ht
  refine ro_c (u_FF_unpack e_r1) (fun z hz => ?_)
  subst hz
  obtain ⟨r2, e_r2, ht⟩ := fh_b ht
  refine ro_c (u_FF_unpack e_r2) (fun z hz => ?_)
  subst hz
  obtain ⟨r3, e_r3, ht⟩ := fh_b ht
  refine ro_c (u_FF_unpack e_r3) (fun z hz => ?_)
  subst hz
  obtain ⟨r4, e_r4, ht⟩ := fh_b ht
  refine ro_c (u_FF_unpack e_r4) (fun z hz => ?_)
  subst hz
  obtain ⟨r5, e_r5, ht⟩ := fh_b ht
  refine ro_c (u_FF_unpack e_r5) (fun z hz => ?_)
  subst hz
  obtain ⟨r6, e_r6, ht⟩ := fh_b ht
  refine ro_c (u_FF_unpack e_r6) (fun z hz => ?_)
  subst hz
  by_cases c19 : a1 = 0
  · replace ht := fh_t c19 ht
    refine ro_t c19 ?_
    refine ro_b (oi_a (hC.1 7 i hi) rfl) ?_
    obtain ⟨x8, e_x8, ht⟩ := fh_b ht
    refine ro_b ((ai_i (hC.1 8 i hi)).trans e_x8) ?_
    refine ro_b (oi_a (hC.1 7 i hi) rfl) ?_
    obtain ⟨x10, e_x10, ht⟩ := fh_b ht
    refine ro_b ((ai_i (hC.1 8 i hi)).trans e_x10) ?_
    by_cases c2 : x8 = x10
    · replace ht := fh_t c2 ht
      refine ro_t c2 ?_
      refine ro_b (oi_a (hC.1 7 i hi) rfl) ?_
      obtain ⟨x12, e_x12, ht⟩ := fh_b ht
      refine ro_b ((ai_i (hC.1 9 i hi)).trans e_x12) ?_
      refine ro_b (oi_a (hC.1 7 i hi) rfl) ?_
      obtain ⟨x14, e_x14, ht⟩ := fh_b ht
      refine ro_b ((ai_i (hC.1 9 i hi)).trans e_x14) ?_
      by_cases c1 : x12 = x14
      · replace ht := fh_t c1 ht
        refine ro_t c1 ?_
        obtain rfl := Option.some.inj ht
        exact ro_s rfl
      · replace ht := fh_f c1 ht
        refine ro_f c1 ?_
        obtain rfl := Option.some.inj ht
        exact ro_s rfl
    · replace ht := fh_f c2 ht
      refine ro_f c2 ?_
      obtain rfl := Option.some.inj ht
      exact ro_s rfl
  · replace ht := fh_f c19 ht
    refine ro_f c19 ?_
    by_cases c18 : a1 = 1
    · replace ht := fh_t c18 ht
      refine ro_t c18 ?_
      refine ro_b (oi_o (hC.1 7 i hi)) ?_
      obtain ⟨r16, e_r16, ht⟩ := fh_b ht
      refine ro_c (u_Fi_cross hL e_r16 hC hi) (fun z hz => ?_)
      subst hz
      by_cases c3 : (lg_cmp r16 0) = 0
      · replace ht := fh_t c3 ht
        refine ro_t c3 ?_
        obtain rfl := Option.some.inj ht
        exact ro_s rfl
      · replace ht := fh_f c3 ht
        refine ro_f c3 ?_
        obtain rfl := Option.some.inj ht
        exact ro_s rfl
    · replace ht := fh_f c18 ht
      refine ro_f c18 ?_
      by_cases c17 : a1 = 2
      · replace ht := fh_t c17 ht
        refine ro_t c17 ?_
        refine ro_b (oi_o (hC.1 7 i hi)) ?_
        obtain ⟨r18, e_r18, ht⟩ := fh_b ht
        refine ro_c (u_Fi_cross hL e_r18 hC hi) (fun z hz => ?_)
        subst hz
        by_cases c4 : (lg_cmp r18 0) = 0
        · replace ht := fh_t c4 ht
          refine ro_t c4 ?_
          obtain rfl := Option.some.inj ht
          exact ro_s rfl
        · replace ht := fh_f c4 ht
          refine ro_f c4 ?_
          obtain rfl := Option.some.inj ht
          exact ro_s rfl
      · replace ht := fh_f c17 ht
        refine ro_f c17 ?_
        by_cases c16 : a1 = 3
        · replace ht := fh_t c16 ht
          refine ro_t c16 ?_
          refine ro_b (oi_o (hC.1 7 i hi)) ?_
          obtain ⟨r20, e_r20, ht⟩ := fh_b ht
          refine ro_c (u_Fi_dot hL e_r20 hC hi) (fun z hz => ?_)
          subst hz
          by_cases c5 : (lg_cmp r20 0) = 0
          · replace ht := fh_t c5 ht
            refine ro_t c5 ?_
            obtain rfl := Option.some.inj ht
            exact ro_s rfl
          · replace ht := fh_f c5 ht
            refine ro_f c5 ?_
            obtain rfl := Option.some.inj ht
            exact ro_s rfl
        · replace ht := fh_f c16 ht
          refine ro_f c16 ?_
          by_cases c15 : a1 = 4
          · replace ht := fh_t c15 ht
            refine ro_t c15 ?_
            refine ro_b (oi_o (hC.1 7 i hi)) ?_
            obtain ⟨r22, e_r22, ht⟩ := fh_b ht
            refine ro_c (u_Fi_length hL e_r22 hC hi) (fun z hz => ?_)
            subst hz
            refine ro_b (oi_o (hC.1 7 i hi)) ?_
            obtain ⟨r24, e_r24, ht⟩ := fh_b ht
            refine ro_c (u_Fi_length hL e_r24 hC hi) (fun z hz => ?_)
            subst hz
            by_cases c6 : (lg_cmp r22 r24) = 0
            · replace ht := fh_t c6 ht
              refine ro_t c6 ?_
              obtain rfl := Option.some.inj ht
              exact ro_s rfl
            · replace ht := fh_f c6 ht
              refine ro_f c6 ?_
              obtain rfl := Option.some.inj ht
              exact ro_s rfl
          · replace ht := fh_f c15 ht
            refine ro_f c15 ?_
            by_cases c14 : a1 = 5
            · replace ht := fh_t c14 ht
              refine ro_t c14 ?_
              refine ro_b (oi_o (hC.1 7 i hi)) ?_
              obtain ⟨r26, e_r26, ht⟩ := fh_b ht
              refine ro_c (u_Fi_showsCircle hL e_r26 hC hi) (fun z hz => ?_)
              subst hz
              obtain ⟨zz, e_zz, ht⟩ := fh_b ht
              obtain ⟨hz, rfl⟩ := tz_s e_zz
              obtain rfl := Option.some.inj ht
              exact ro_z hz rfl
            · replace ht := fh_f c14 ht
              refine ro_f c14 ?_
              by_cases c13 : a1 = 6
              · replace ht := fh_t c13 ht
                refine ro_t c13 ?_
                refine ro_b (oi_a (hC.1 7 i hi) rfl) ?_
                obtain ⟨x28, e_x28, ht⟩ := fh_b ht
                refine ro_b ((ai_i (hC.1 8 i hi)).trans e_x28) ?_
                refine ro_b (oi_a (hC.1 7 i hi) rfl) ?_
                obtain ⟨x30, e_x30, ht⟩ := fh_b ht
                refine ro_b ((ai_i (hC.1 8 i hi)).trans e_x30) ?_
                refine ro_b (oi_a (hC.1 7 i hi) rfl) ?_
                obtain ⟨x32, e_x32, ht⟩ := fh_b ht
                refine ro_b ((ai_i (hC.1 8 i hi)).trans e_x32) ?_
                by_cases c8 : (fr_i (((2 * x28) - x30) - x32) 1000003) = 0
                · replace ht := fh_t c8 ht
                  refine ro_t c8 ?_
                  refine ro_b (oi_a (hC.1 7 i hi) rfl) ?_
                  obtain ⟨x34, e_x34, ht⟩ := fh_b ht
                  refine ro_b ((ai_i (hC.1 9 i hi)).trans e_x34) ?_
                  refine ro_b (oi_a (hC.1 7 i hi) rfl) ?_
                  obtain ⟨x36, e_x36, ht⟩ := fh_b ht
                  refine ro_b ((ai_i (hC.1 9 i hi)).trans e_x36) ?_
                  refine ro_b (oi_a (hC.1 7 i hi) rfl) ?_
                  obtain ⟨x38, e_x38, ht⟩ := fh_b ht
                  refine ro_b ((ai_i (hC.1 9 i hi)).trans e_x38) ?_
                  by_cases c7 : (fr_i (((2 * x34) - x36) - x38) 1000003) = 0
                  · replace ht := fh_t c7 ht
                    refine ro_t c7 ?_
                    obtain rfl := Option.some.inj ht
                    exact ro_s rfl
                  · replace ht := fh_f c7 ht
                    refine ro_f c7 ?_
                    obtain rfl := Option.some.inj ht
                    exact ro_s rfl
                · replace ht := fh_f c8 ht
                  refine ro_f c8 ?_
                  obtain rfl := Option.some.inj ht
                  exact ro_s rfl
              · replace ht := fh_f c13 ht
                refine ro_f c13 ?_
                by_cases c12 : a1 = 7
                · replace ht := fh_t c12 ht
                  refine ro_t c12 ?_
                  refine ro_b (oi_o (hC.1 7 i hi)) ?_
                  obtain ⟨r40, e_r40, ht⟩ := fh_b ht
                  refine ro_c (u_Fi_squaredArea hL e_r40 hC hi) (fun z hz => ?_)
                  subst hz
                  refine ro_b (oi_o (hC.1 7 i hi)) ?_
                  obtain ⟨r42, e_r42, ht⟩ := fh_b ht
                  refine ro_c (u_Fi_squaredArea hL e_r42 hC hi) (fun z hz => ?_)
                  subst hz
                  by_cases c9 : (lg_cmp r40 r42) = 0
                  · replace ht := fh_t c9 ht
                    refine ro_t c9 ?_
                    obtain rfl := Option.some.inj ht
                    exact ro_s rfl
                  · replace ht := fh_f c9 ht
                    refine ro_f c9 ?_
                    obtain rfl := Option.some.inj ht
                    exact ro_s rfl
                · replace ht := fh_f c12 ht
                  refine ro_f c12 ?_
                  by_cases c11 : a1 = 8
                  · replace ht := fh_t c11 ht
                    refine ro_t c11 ?_
                    refine ro_b (oi_o (hC.1 7 i hi)) ?_
                    obtain ⟨r44, e_r44, ht⟩ := fh_b ht
                    refine ro_c (u_Fi_length hL e_r44 hC hi) (fun z hz => ?_)
                    subst hz
                    refine ro_b (oi_o (hC.1 7 i hi)) ?_
                    obtain ⟨r46, e_r46, ht⟩ := fh_b ht
                    refine ro_c (u_Fi_length hL e_r46 hC hi) (fun z hz => ?_)
                    subst hz
                    by_cases c10 : (lg_cmp (fr_l (r5.toInt64 * r44) 1000003) (fr_l (r6.toInt64 * r46) 1000003)) = 0
                    · replace ht := fh_t c10 ht
                      refine ro_t c10 ?_
                      obtain rfl := Option.some.inj ht
                      exact ro_s rfl
                    · replace ht := fh_f c10 ht
                      refine ro_f c10 ?_
                      obtain rfl := Option.some.inj ht
                      exact ro_s rfl
                  · replace ht := fh_f c11 ht
                    refine ro_f c11 ?_
                    obtain rfl := Option.some.inj ht
                    exact ro_s rfl
def tb_Dr_isShown_39 (N : Nat) (k2 : Int32 → Int32 → Int32 → CS → Option (Int32)) (i : Nat) (v1 : Int32) (v2 : Int32) (v3 : Int32) (S : CS) : Option (Int32) :=
  (some (v3 + 1)).bind fun x1 => k2 v1 v2 x1 S
def tb_Dr_isShown_2 (N : Nat) (k2 : Int32 → Int32 → Int32 → CS → Option (Int32)) (i : Nat) (v1 : Int32) (v2 : Int32) (v3 : Int32) (S : CS) : Option (Int32) :=
  (some (cs_dsize S i)).bind fun x1 => if x1 ≤ v3 then ((some (cs_stand S i)).bind fun x2 => if x2 ≤ 0 then (some 0) else (some 1)) else ((ta 5 (fun z => 5 * i + z) v3).bind fun x4 => (some (cs_fallen S x4)).bind fun x5 => if x5 = (-1) then ((ta 5 (fun z => 5 * i + z) v3).bind fun x7 => (t_Fi_shows N x7 v1 v2 S).bind fun r9 => if r9 = 0 then (some 0) else (tb_Dr_isShown_39 N k2 i v1 v2 v3 S)) else (tb_Dr_isShown_39 N k2 i v1 v2 v3 S))
def tl_Dr_isShown_2 (N : Nat) (i : Nat) : Nat → Int32 → Int32 → Int32 → CS → Option (Int32)
  | 0, _, _, _, _ => none
  | n + 1, v1, v2, v3, S => tb_Dr_isShown_2 N (tl_Dr_isShown_2 N i n) i v1 v2 v3 S
def t_Dr_isShown (N : Nat) (i : Nat) (a1 : Int32) (a2 : Int32) (S0 : CS) : Option (Int32) :=
  tl_Dr_isShown_2 N i N a1 a2 0 S0
set_option maxHeartbeats 4000000 in
theorem u_Dr_isShown {K : Nat → ClassId} {N : Nat} {i : Nat} {a1 : Int32} {a2 : Int32} {h0 : fh_H} {S0 : CS} {res : Int32} {L : Nat → Nat → Nat} {hb : fh_H} (hL : cs_I L) (ht : t_Dr_isShown N i a1 a2 S0 = some res) (hC : cs_W K L hb h0 S0) (hi : i < 2) : RO (fun z => (res, h0) = z) (f_Dr_isShown K N (L 5 i) a1 a2 h0) := by
  have L2 : ∀ (n2 : Nat) (v1 : Int32) (v2 : Int32) (v3 : Int32), tl_Dr_isShown_2 N i n2 v1 v2 v3 S0 = some res → RO (fun z => (res, h0) = z) (l_Dr_isShown_2 K N (L 5 i) n2 v1 v2 v3 h0) := by
    intro n2
    induction n2 with
    | zero =>
      intro v1 v2 v3 ht
      exact fh_no ht
    | succ n2 ih2 =>
      have B39 : ∀ (v1 : Int32) (v2 : Int32) (v3 : Int32), tb_Dr_isShown_39 N (tl_Dr_isShown_2 N i n2) i v1 v2 v3 S0 = some res → RO (fun z => (res, h0) = z) (b_Dr_isShown_39 K N (l_Dr_isShown_2 K N (L 5 i) n2) (L 5 i) v1 v2 v3 h0) := by
        intro v1 v2 v3 ht
        unfold tb_Dr_isShown_39 at ht
        unfold b_Dr_isShown_39
        obtain ⟨x1, e_x1, ht⟩ := fh_b ht
        refine ro_b e_x1 ?_
        exact ih2 v1 v2 x1 ht
      intro v1 v2 v3 ht
      have ht : tb_Dr_isShown_2 N (tl_Dr_isShown_2 N i n2) i v1 v2 v3 S0 = some res := ht
      show RO _ (b_Dr_isShown_2 K N (l_Dr_isShown_2 K N (L 5 i) n2) (L 5 i) v1 v2 v3 h0)
      unfold tb_Dr_isShown_2 at ht
      unfold b_Dr_isShown_2
      obtain ⟨x1, e_x1, ht⟩ := fh_b ht
      refine ro_b ((oi_i (hC.1 5 i hi) rfl).trans e_x1) ?_
      by_cases c4 : x1 ≤ v3
      · replace ht := fh_t c4 ht
        refine ro_t c4 ?_
        obtain ⟨x2, e_x2, ht⟩ := fh_b ht
        refine ro_b ((oi_i (hC.1 5 i hi) rfl).trans e_x2) ?_
        by_cases c1 : x2 ≤ 0
        · replace ht := fh_t c1 ht
          refine ro_t c1 ?_
          obtain rfl := Option.some.inj ht
          exact ro_s rfl
        · replace ht := fh_f c1 ht
          refine ro_f c1 ?_
          obtain rfl := Option.some.inj ht
          exact ro_s rfl
      · replace ht := fh_f c4 ht
        refine ro_f c4 ?_
        refine ro_b (oi_a (hC.1 5 i hi) rfl) ?_
        obtain ⟨x4, e_x4, ht⟩ := fh_b ht
        have hb_x4 : x4 < 10 := by obtain ⟨k, hk, q⟩ := ta_lt e_x4; have := hi; omega
        refine ro_b ((ai_a (hC.1 6 i hi)).trans (ai_m (g := fun z => some (L 7 z)) e_x4)) ?_
        obtain ⟨x5, e_x5, ht⟩ := fh_b ht
        refine ro_b ((oi_i (hC.1 7 x4 hb_x4) rfl).trans e_x5) ?_
        by_cases c3 : x5 = (-1)
        · replace ht := fh_t c3 ht
          refine ro_t c3 ?_
          refine ro_b (oi_a (hC.1 5 i hi) rfl) ?_
          obtain ⟨x7, e_x7, ht⟩ := fh_b ht
          have hb_x7 : x7 < 10 := by obtain ⟨k, hk, q⟩ := ta_lt e_x7; have := hi; omega
          refine ro_b ((ai_a (hC.1 6 i hi)).trans (ai_m (g := fun z => some (L 7 z)) e_x7)) ?_
          refine ro_b (oi_o (hC.1 7 x7 hb_x7)) ?_
          obtain ⟨r9, e_r9, ht⟩ := fh_b ht
          refine ro_c (u_Fi_shows hL e_r9 hC hb_x7) (fun z hz => ?_)
          subst hz
          by_cases c2 : r9 = 0
          · replace ht := fh_t c2 ht
            refine ro_t c2 ?_
            obtain rfl := Option.some.inj ht
            exact ro_s rfl
          · replace ht := fh_f c2 ht
            refine ro_f c2 ?_
            exact B39 v1 v2 v3 ht
        · replace ht := fh_f c3 ht
          refine ro_f c3 ?_
          exact B39 v1 v2 v3 ht
  unfold t_Dr_isShown at ht
  unfold f_Dr_isShown
  exact L2 N a1 a2 0 ht
def tb_Fs_findLeads_74 (N : Nat) (k12 : Int32 → CS → Option (CS)) (v1 : Int32) (S : CS) : Option (CS) :=
  (some (v1 + 1)).bind fun x1 => k12 x1 S
def tb_Fs_findLeads_68 (N : Nat) (k12 : Int32 → CS → Option (CS)) (k29 : Int32 → Int32 → CS → Option (CS)) (v1 : Int32) (v2 : Int32) (S : CS) : Option (CS) :=
  (some (v2 + 1)).bind fun x1 => k29 v1 x1 S
def tb_Fs_findLeads_29 (N : Nat) (k12 : Int32 → CS → Option (CS)) (k29 : Int32 → Int32 → CS → Option (CS)) (v1 : Int32) (v2 : Int32) (S : CS) : Option (CS) :=
  if v1 ≤ v2 then (tb_Fs_findLeads_74 N k12 v1 S) else ((ta 16 (cs_leads S) v1).bind fun x2 => if x2 = v1 then ((t_FF_pack N v2 v1 0).bind fun r4 => (t_Dr_isShown N 0 0 r4 S).bind fun r6 => if r6 = 0 then (tb_Fs_findLeads_68 N k12 k29 v1 v2 S) else ((twi 16 (cs_leads S) v1 v2).bind fun F8 => (some (cs_set_leads S F8)).bind fun S8 => tb_Fs_findLeads_68 N k12 k29 v1 v2 S8)) else (tb_Fs_findLeads_74 N k12 v1 S))
def tl_Fs_findLeads_29 (N : Nat) (k12 : Int32 → CS → Option (CS)) : Nat → Int32 → Int32 → CS → Option (CS)
  | 0, _, _, _ => none
  | n + 1, v1, v2, S => tb_Fs_findLeads_29 N k12 (tl_Fs_findLeads_29 N k12 n) v1 v2 S
def tb_Fs_findLeads_12 (N : Nat) (k12 : Int32 → CS → Option (CS)) (v1 : Int32) (S : CS) : Option (CS) :=
  (some (cs_pts S)).bind fun x1 => if x1 ≤ v1 then (some S) else ((twi 16 (cs_leads S) v1 v1).bind fun F3 => (some (cs_set_leads S F3)).bind fun S3 => tl_Fs_findLeads_29 N k12 N v1 0 S3)
def tl_Fs_findLeads_12 (N : Nat) : Nat → Int32 → CS → Option (CS)
  | 0, _, _ => none
  | n + 1, v1, S => tb_Fs_findLeads_12 N (tl_Fs_findLeads_12 N n) v1 S
def t_Fs_findLeads (N : Nat)  (S0 : CS) : Option (CS) :=
  (t_Fs_isNew N 9 S0).bind fun r2 => if r2.1 = 0 then (some r2.2) else (tl_Fs_findLeads_12 N N 0 r2.2)
set_option maxHeartbeats 4000000 in
theorem u_Fs_findLeads {K : Nat → ClassId} {N : Nat} {h0 : fh_H} {S0 : CS} {res : CS} {L : Nat → Nat → Nat} {hb : fh_H} (hL : cs_I L) (ht : t_Fs_findLeads N  S0 = some res) (hC : cs_W K L hb h0 S0) : RO (fun z => cs_W K L hb z res) (f_Fs_findLeads K N (L 4 0)  h0) := by
  have L12 : ∀ (n12 : Nat) (v1 : Int32) (S : CS) (h : fh_H), cs_W K L hb h S → tl_Fs_findLeads_12 N n12 v1 S = some res → RO (fun z => cs_W K L hb z res) (l_Fs_findLeads_12 K N (L 4 0) n12 v1 h) := by
    intro n12
    induction n12 with
    | zero =>
      intro v1 S h hC ht
      exact fh_no ht
    | succ n12 ih12 =>
      have B74 : ∀ (v1 : Int32) (S : CS) (h : fh_H), cs_W K L hb h S → tb_Fs_findLeads_74 N (tl_Fs_findLeads_12 N n12) v1 S = some res → RO (fun z => cs_W K L hb z res) (b_Fs_findLeads_74 K N (l_Fs_findLeads_12 K N (L 4 0) n12) (L 4 0) v1 h) := by
        intro v1 S h hC ht
        unfold tb_Fs_findLeads_74 at ht
        unfold b_Fs_findLeads_74
        obtain ⟨x1, e_x1, ht⟩ := fh_b ht
        refine ro_b e_x1 ?_
        exact ih12 x1 S _ hC ht
      have L29 : ∀ (n29 : Nat) (v1 : Int32) (v2 : Int32) (S : CS) (h : fh_H), cs_W K L hb h S → tl_Fs_findLeads_29 N (tl_Fs_findLeads_12 N n12) n29 v1 v2 S = some res → RO (fun z => cs_W K L hb z res) (l_Fs_findLeads_29 K N (l_Fs_findLeads_12 K N (L 4 0) n12) (L 4 0) n29 v1 v2 h) := by
        intro n29
        induction n29 with
        | zero =>
          intro v1 v2 S h hC ht
          exact fh_no ht
        | succ n29 ih29 =>
          have B68 : ∀ (v1 : Int32) (v2 : Int32) (S : CS) (h : fh_H), cs_W K L hb h S → tb_Fs_findLeads_68 N (tl_Fs_findLeads_12 N n12) (tl_Fs_findLeads_29 N (tl_Fs_findLeads_12 N n12) n29) v1 v2 S = some res → RO (fun z => cs_W K L hb z res) (b_Fs_findLeads_68 K N (l_Fs_findLeads_12 K N (L 4 0) n12) (l_Fs_findLeads_29 K N (l_Fs_findLeads_12 K N (L 4 0) n12) (L 4 0) n29) (L 4 0) v1 v2 h) := by
            intro v1 v2 S h hC ht
            unfold tb_Fs_findLeads_68 at ht
            unfold b_Fs_findLeads_68
            obtain ⟨x1, e_x1, ht⟩ := fh_b ht
            refine ro_b e_x1 ?_
            exact ih29 v1 x1 S _ hC ht
          intro v1 v2 S h hC ht
          have ht : tb_Fs_findLeads_29 N (tl_Fs_findLeads_12 N n12) (tl_Fs_findLeads_29 N (tl_Fs_findLeads_12 N n12) n29) v1 v2 S = some res := ht
          show RO _ (b_Fs_findLeads_29 K N (l_Fs_findLeads_12 K N (L 4 0) n12) (l_Fs_findLeads_29 K N (l_Fs_findLeads_12 K N (L 4 0) n12) (L 4 0) n29) (L 4 0) v1 v2 h)
          unfold tb_Fs_findLeads_29 at ht
          unfold b_Fs_findLeads_29
          by_cases c3 : v1 ≤ v2
          · replace ht := fh_t c3 ht
            refine ro_t c3 ?_
            exact B74 v1 S _ hC ht
          · replace ht := fh_f c3 ht
            refine ro_f c3 ?_
            refine ro_b (oi_a (hC.1 4 0 (by decide)) rfl) ?_
            obtain ⟨x2, e_x2, ht⟩ := fh_b ht
            refine ro_b ((ai_i (hC.1 13 0 (by decide))).trans e_x2) ?_
            by_cases c2 : x2 = v1
            · replace ht := fh_t c2 ht
              refine ro_t c2 ?_
              refine ro_b (oi_a (hC.1 4 0 (by decide)) rfl) ?_
              obtain ⟨r4, e_r4, ht⟩ := fh_b ht
              refine ro_c (u_FF_pack e_r4) (fun z hz => ?_)
              subst hz
              refine ro_b (oi_o (hC.1 5 0 (by decide))) ?_
              obtain ⟨r6, e_r6, ht⟩ := fh_b ht
              refine ro_c (u_Dr_isShown hL e_r6 hC (by decide)) (fun z hz => ?_)
              subst hz
              by_cases c1 : r6 = 0
              · replace ht := fh_t c1 ht
                refine ro_t c1 ?_
                exact B68 v1 v2 S _ hC ht
              · replace ht := fh_f c1 ht
                refine ro_f c1 ?_
                refine ro_b (oi_a (hC.1 4 0 (by decide)) rfl) ?_
                obtain ⟨F8, e_F8, ht⟩ := fh_b ht
                obtain ⟨S8, e_S8, ht⟩ := fh_b ht
                refine ro_c (G1 := (fun z => cs_W K L hb z S8)) ⟨_, aw_i (hC.1 13 0 (by decide)) e_F8, by rw [← Option.some.inj e_S8]; exact cs_w_leads hL hC ⟩ (fun h hC => ?_)
                exact B68 v1 v2 S8 _ hC ht
            · replace ht := fh_f c2 ht
              refine ro_f c2 ?_
              exact B74 v1 S _ hC ht
      intro v1 S h hC ht
      have ht : tb_Fs_findLeads_12 N (tl_Fs_findLeads_12 N n12) v1 S = some res := ht
      show RO _ (b_Fs_findLeads_12 K N (l_Fs_findLeads_12 K N (L 4 0) n12) (L 4 0) v1 h)
      unfold tb_Fs_findLeads_12 at ht
      unfold b_Fs_findLeads_12
      obtain ⟨x1, e_x1, ht⟩ := fh_b ht
      refine ro_b ((oi_i (hC.1 4 0 (by decide)) rfl).trans e_x1) ?_
      by_cases c1 : x1 ≤ v1
      · replace ht := fh_t c1 ht
        refine ro_t c1 ?_
        obtain rfl := Option.some.inj ht
        exact ro_s hC
      · replace ht := fh_f c1 ht
        refine ro_f c1 ?_
        refine ro_b (oi_a (hC.1 4 0 (by decide)) rfl) ?_
        obtain ⟨F3, e_F3, ht⟩ := fh_b ht
        obtain ⟨S3, e_S3, ht⟩ := fh_b ht
        refine ro_c (G1 := (fun z => cs_W K L hb z S3)) ⟨_, aw_i (hC.1 13 0 (by decide)) e_F3, by rw [← Option.some.inj e_S3]; exact cs_w_leads hL hC ⟩ (fun h hC => ?_)
        exact L29 N v1 0 S3 _ hC ht
  unfold t_Fs_findLeads at ht
  unfold f_Fs_findLeads
  refine ro_b (oi_o (hC.1 4 0 (by decide))) ?_
  obtain ⟨r2, e_r2, ht⟩ := fh_b ht
  refine ro_c (u_Fs_isNew hL e_r2 hC) (fun z hz => ?_)
  obtain ⟨z1, h⟩ := z
  obtain ⟨ez, hC⟩ := hz
  dsimp only at ez hC
  subst ez
  by_cases c1 : r2.1 = 0
  · replace ht := fh_t c1 ht
    refine ro_t c1 ?_
    obtain rfl := Option.some.inj ht
    exact ro_s hC
  · replace ht := fh_f c1 ht
    refine ro_f c1 ?_
    exact L12 N 0 r2.2 _ hC ht
def t_In_bitCount (N : Nat) (a0 : Int32) : Option (Int32) :=
  (some ((a0.toUInt32 >>> ((1 : Int32).toUInt32 &&& Int32.toUInt32 31)).toInt32)).bind fun x1 => (some (a0 - (x1 &&& 1431655765))).bind fun x2 => (some ((x2.toUInt32 >>> ((2 : Int32).toUInt32 &&& Int32.toUInt32 31)).toInt32)).bind fun x3 => (some ((x2 &&& 858993459) + (x3 &&& 858993459))).bind fun x4 => (some ((x4.toUInt32 >>> ((4 : Int32).toUInt32 &&& Int32.toUInt32 31)).toInt32)).bind fun x5 => (some ((x4 + x5) &&& 252645135)).bind fun x6 => (some ((x6.toUInt32 >>> ((8 : Int32).toUInt32 &&& Int32.toUInt32 31)).toInt32)).bind fun x7 => (some (x6 + x7)).bind fun x8 => (some ((x8.toUInt32 >>> ((16 : Int32).toUInt32 &&& Int32.toUInt32 31)).toInt32)).bind fun x9 => (some (x8 + x9)).bind fun x10 => some (x10 &&& 63)
set_option maxHeartbeats 4000000 in
theorem u_In_bitCount {K : Nat → ClassId} {N : Nat} {a0 : Int32} {h0 : fh_H} {res : Int32} (ht : t_In_bitCount N a0 = some res) : RO (fun z => (res, h0) = z) (f_In_bitCount K N a0 h0) := by
  unfold t_In_bitCount at ht
  unfold f_In_bitCount
  obtain ⟨x1, e_x1, ht⟩ := fh_b ht
  refine ro_b e_x1 ?_
  obtain ⟨x2, e_x2, ht⟩ := fh_b ht
  refine ro_b e_x2 ?_
  obtain ⟨x3, e_x3, ht⟩ := fh_b ht
  refine ro_b e_x3 ?_
  obtain ⟨x4, e_x4, ht⟩ := fh_b ht
  refine ro_b e_x4 ?_
  obtain ⟨x5, e_x5, ht⟩ := fh_b ht
  refine ro_b e_x5 ?_
  obtain ⟨x6, e_x6, ht⟩ := fh_b ht
  refine ro_b e_x6 ?_
  obtain ⟨x7, e_x7, ht⟩ := fh_b ht
  refine ro_b e_x7 ?_
  obtain ⟨x8, e_x8, ht⟩ := fh_b ht
  refine ro_b e_x8 ?_
  obtain ⟨x9, e_x9, ht⟩ := fh_b ht
  refine ro_b e_x9 ?_
  obtain ⟨x10, e_x10, ht⟩ := fh_b ht
  refine ro_b e_x10 ?_
  obtain rfl := Option.some.inj ht
  exact ro_s rfl
def tb_Fs_placesOf_32 (N : Nat) (k4 : Int32 → Int32 → Int32 → CS → Option (Int32)) (v1 : Int32) (v2 : Int32) (v3 : Int32) (S : CS) : Option (Int32) :=
  (some (v3 + 1)).bind fun x1 => k4 v1 v2 x1 S
def tb_Fs_placesOf_4 (N : Nat) (k4 : Int32 → Int32 → Int32 → CS → Option (Int32)) (v1 : Int32) (v2 : Int32) (v3 : Int32) (S : CS) : Option (Int32) :=
  (some (cs_pts S)).bind fun x1 => if x1 ≤ v3 then ((t_In_bitCount N v2).bind fun r2 => some r2) else (if ((v1 >>> (v3 &&& 31)) &&& 1) = 1 then ((ta 16 (cs_leads S) v3).bind fun x4 => (some (v2 ||| ((1 : Int32) <<< (x4 &&& 31)))).bind fun x5 => tb_Fs_placesOf_32 N k4 v1 x5 v3 S) else (tb_Fs_placesOf_32 N k4 v1 v2 v3 S))
def tl_Fs_placesOf_4 (N : Nat) : Nat → Int32 → Int32 → Int32 → CS → Option (Int32)
  | 0, _, _, _, _ => none
  | n + 1, v1, v2, v3, S => tb_Fs_placesOf_4 N (tl_Fs_placesOf_4 N n) v1 v2 v3 S
def t_Fs_placesOf (N : Nat) (a1 : Int32) (S0 : CS) : Option (Int32) :=
  tl_Fs_placesOf_4 N N a1 0 0 S0
set_option maxHeartbeats 4000000 in
theorem u_Fs_placesOf {K : Nat → ClassId} {N : Nat} {a1 : Int32} {h0 : fh_H} {S0 : CS} {res : Int32} {L : Nat → Nat → Nat} {hb : fh_H} (hL : cs_I L) (ht : t_Fs_placesOf N a1 S0 = some res) (hC : cs_W K L hb h0 S0) : RO (fun z => (res, h0) = z) (f_Fs_placesOf K N (L 4 0) a1 h0) := by
  have L4 : ∀ (n4 : Nat) (v1 : Int32) (v2 : Int32) (v3 : Int32), tl_Fs_placesOf_4 N n4 v1 v2 v3 S0 = some res → RO (fun z => (res, h0) = z) (l_Fs_placesOf_4 K N (L 4 0) n4 v1 v2 v3 h0) := by
    intro n4
    induction n4 with
    | zero =>
      intro v1 v2 v3 ht
      exact fh_no ht
    | succ n4 ih4 =>
      have B32 : ∀ (v1 : Int32) (v2 : Int32) (v3 : Int32), tb_Fs_placesOf_32 N (tl_Fs_placesOf_4 N n4) v1 v2 v3 S0 = some res → RO (fun z => (res, h0) = z) (b_Fs_placesOf_32 K N (l_Fs_placesOf_4 K N (L 4 0) n4) (L 4 0) v1 v2 v3 h0) := by
        intro v1 v2 v3 ht
        unfold tb_Fs_placesOf_32 at ht
        unfold b_Fs_placesOf_32
        obtain ⟨x1, e_x1, ht⟩ := fh_b ht
        refine ro_b e_x1 ?_
        exact ih4 v1 v2 x1 ht
      intro v1 v2 v3 ht
      have ht : tb_Fs_placesOf_4 N (tl_Fs_placesOf_4 N n4) v1 v2 v3 S0 = some res := ht
      show RO _ (b_Fs_placesOf_4 K N (l_Fs_placesOf_4 K N (L 4 0) n4) (L 4 0) v1 v2 v3 h0)
      unfold tb_Fs_placesOf_4 at ht
      unfold b_Fs_placesOf_4
      obtain ⟨x1, e_x1, ht⟩ := fh_b ht
      refine ro_b ((oi_i (hC.1 4 0 (by decide)) rfl).trans e_x1) ?_
      by_cases c2 : x1 ≤ v3
      · replace ht := fh_t c2 ht
        refine ro_t c2 ?_
        obtain ⟨r2, e_r2, ht⟩ := fh_b ht
        refine ro_c (u_In_bitCount e_r2) (fun z hz => ?_)
        subst hz
        obtain rfl := Option.some.inj ht
        exact ro_s rfl
      · replace ht := fh_f c2 ht
        refine ro_f c2 ?_
        by_cases c1 : ((v1 >>> (v3 &&& 31)) &&& 1) = 1
        · replace ht := fh_t c1 ht
          refine ro_t c1 ?_
          refine ro_b (oi_a (hC.1 4 0 (by decide)) rfl) ?_
          obtain ⟨x4, e_x4, ht⟩ := fh_b ht
          refine ro_b ((ai_i (hC.1 13 0 (by decide))).trans e_x4) ?_
          obtain ⟨x5, e_x5, ht⟩ := fh_b ht
          refine ro_b e_x5 ?_
          exact B32 v1 x5 v3 ht
        · replace ht := fh_f c1 ht
          refine ro_f c1 ?_
          exact B32 v1 v2 v3 ht
  unfold t_Fs_placesOf at ht
  unfold f_Fs_placesOf
  exact L4 N a1 0 0 ht
def t_Fs_countPlaces (N : Nat)  (S0 : CS) : Option (Int32 × CS) :=
  (t_Fs_findLeads N S0).bind fun r2 => (some (cs_pts r2)).bind fun x3 => (t_Fs_placesOf N (((1 : Int32) <<< (x3 &&& 31)) - 1) r2).bind fun r5 => some (r5, r2)
set_option maxHeartbeats 4000000 in
theorem u_Fs_countPlaces {K : Nat → ClassId} {N : Nat} {h0 : fh_H} {S0 : CS} {res : Int32 × CS} {L : Nat → Nat → Nat} {hb : fh_H} (hL : cs_I L) (ht : t_Fs_countPlaces N  S0 = some res) (hC : cs_W K L hb h0 S0) : RO (fun z => z.1 = res.1 ∧ cs_W K L hb z.2 res.2) (f_Fs_countPlaces K N (L 4 0)  h0) := by
  unfold t_Fs_countPlaces at ht
  unfold f_Fs_countPlaces
  refine ro_b (oi_o (hC.1 4 0 (by decide))) ?_
  obtain ⟨r2, e_r2, ht⟩ := fh_b ht
  refine ro_c (u_Fs_findLeads hL e_r2 hC) (fun h hC => ?_)
  obtain ⟨x3, e_x3, ht⟩ := fh_b ht
  refine ro_b ((oi_i (hC.1 4 0 (by decide)) rfl).trans e_x3) ?_
  refine ro_b (oi_o (hC.1 4 0 (by decide))) ?_
  obtain ⟨r5, e_r5, ht⟩ := fh_b ht
  refine ro_c (u_Fs_placesOf hL e_r5 hC) (fun z hz => ?_)
  subst hz
  obtain rfl := Option.some.inj ht
  exact ro_s ⟨rfl, hC⟩
def t_FF_count (N : Nat) (a1 : Int32) (S0 : CS) : Option (Int32 × CS) :=
  if a1 = 0 then ((some (cs_psize S0)).bind fun x2 => some (x2, S0)) else (if a1 = 1 then ((some (cs_figs S0)).bind fun x3 => some (x3, S0)) else (if a1 = 2 then ((some (cs_stand S0 0)).bind fun x6 => some (x6, S0)) else (if a1 = 3 then ((some (cs_seed S0)).bind fun x7 => some (x7, S0)) else (if a1 = 4 then ((t_Fs_countPlaces N S0).bind fun r10 => some (r10.1, r10.2)) else (some ((-2), S0))))))
set_option maxHeartbeats 4000000 in
theorem u_FF_count {K : Nat → ClassId} {N : Nat} {a1 : Int32} {h0 : fh_H} {S0 : CS} {res : Int32 × CS} {L : Nat → Nat → Nat} {hb : fh_H} (hL : cs_I L) (ht : t_FF_count N a1 S0 = some res) (hC : cs_W K L hb h0 S0) : RO (fun z => z.1 = res.1 ∧ cs_W K L hb z.2 res.2) (f_FF_count K N (L 0 0) a1 h0) := by
  unfold t_FF_count at ht
  unfold f_FF_count
  by_cases c5 : a1 = 0
  · replace ht := fh_t c5 ht
    refine ro_t c5 ?_
    refine ro_b (oi_a (hC.1 0 0 (by decide)) rfl) ?_
    obtain ⟨x2, e_x2, ht⟩ := fh_b ht
    refine ro_b ((oi_i (hC.1 1 0 (by decide)) rfl).trans e_x2) ?_
    obtain rfl := Option.some.inj ht
    exact ro_s ⟨rfl, hC⟩
  · replace ht := fh_f c5 ht
    refine ro_f c5 ?_
    by_cases c4 : a1 = 1
    · replace ht := fh_t c4 ht
      refine ro_t c4 ?_
      obtain ⟨x3, e_x3, ht⟩ := fh_b ht
      refine ro_b ((oi_i (hC.1 0 0 (by decide)) rfl).trans e_x3) ?_
      obtain rfl := Option.some.inj ht
      exact ro_s ⟨rfl, hC⟩
    · replace ht := fh_f c4 ht
      refine ro_f c4 ?_
      by_cases c3 : a1 = 2
      · replace ht := fh_t c3 ht
        refine ro_t c3 ?_
        refine ro_b (oi_a (hC.1 0 0 (by decide)) rfl) ?_
        refine ro_b (oi_a (hC.1 4 0 (by decide)) rfl) ?_
        obtain ⟨x6, e_x6, ht⟩ := fh_b ht
        refine ro_b ((oi_i (hC.1 5 0 (by decide)) rfl).trans e_x6) ?_
        obtain rfl := Option.some.inj ht
        exact ro_s ⟨rfl, hC⟩
      · replace ht := fh_f c3 ht
        refine ro_f c3 ?_
        by_cases c2 : a1 = 3
        · replace ht := fh_t c2 ht
          refine ro_t c2 ?_
          obtain ⟨x7, e_x7, ht⟩ := fh_b ht
          refine ro_b ((oi_i (hC.1 0 0 (by decide)) rfl).trans e_x7) ?_
          obtain rfl := Option.some.inj ht
          exact ro_s ⟨rfl, hC⟩
        · replace ht := fh_f c2 ht
          refine ro_f c2 ?_
          by_cases c1 : a1 = 4
          · replace ht := fh_t c1 ht
            refine ro_t c1 ?_
            refine ro_b (oi_a (hC.1 0 0 (by decide)) rfl) ?_
            refine ro_b (oi_o (hC.1 4 0 (by decide))) ?_
            obtain ⟨r10, e_r10, ht⟩ := fh_b ht
            refine ro_c (u_Fs_countPlaces hL e_r10 hC) (fun z hz => ?_)
            obtain ⟨z1, h⟩ := z
            obtain ⟨ez, hC⟩ := hz
            dsimp only at ez hC
            subst ez
            obtain rfl := Option.some.inj ht
            exact ro_s ⟨rfl, hC⟩
          · replace ht := fh_f c1 ht
            refine ro_f c1 ?_
            obtain rfl := Option.some.inj ht
            exact ro_s ⟨rfl, hC⟩
