def t_Fi_begin (N : Nat) (i : Nat) (a1 : Int32) (S0 : CS) : Option (CS) :=
  (some (cs_set_rnd S0 (va_up (cs_rnd S0) i a1.toInt64))).bind fun S1 => (some (cs_set_made S1 (va_up (cs_made S1) i 0))).bind fun S2 => (some (cs_set_fallen S2 (va_up (cs_fallen S2) i (-1)))).bind fun S3 => some S3
set_option maxHeartbeats 4000000 in
theorem u_Fi_begin {K : Nat → ClassId} {N : Nat} {i : Nat} {a1 : Int32} {h0 : fh_H} {S0 : CS} {res : CS} {L : Nat → Nat → Nat} {hb : fh_H} (hL : cs_I L) (ht : t_Fi_begin N i a1 S0 = some res) (hC : cs_W K L hb h0 S0) (hi : i < 10) : RO (fun z => cs_W K L hb z res) (f_Fi_begin K N (L 7 i) a1 h0) := by
  unfold t_Fi_begin at ht
  unfold f_Fi_begin
  obtain ⟨S1, e_S1, ht⟩ := fh_b ht
  refine ro_c (G1 := (fun z => cs_W K L hb z S1)) ⟨_, oi_p (hC.1 7 i hi) (Nat.le_of_ble_eq_true rfl), by rw [← Option.some.inj e_S1]; exact cs_w_rnd hL hC hi rfl⟩ (fun h hC => ?_)
  obtain ⟨S2, e_S2, ht⟩ := fh_b ht
  refine ro_c (G1 := (fun z => cs_W K L hb z S2)) ⟨_, oi_p (hC.1 7 i hi) (Nat.le_of_ble_eq_true rfl), by rw [← Option.some.inj e_S2]; exact cs_w_made hL hC hi rfl⟩ (fun h hC => ?_)
  obtain ⟨S3, e_S3, ht⟩ := fh_b ht
  refine ro_c (G1 := (fun z => cs_W K L hb z S3)) ⟨_, oi_p (hC.1 7 i hi) (Nat.le_of_ble_eq_true rfl), by rw [← Option.some.inj e_S3]; exact cs_w_fallen hL hC hi rfl⟩ (fun h hC => ?_)
  obtain rfl := Option.some.inj ht
  exact ro_s hC
def tb_Dr_begin_7 (N : Nat) (k7 : Int32 → Int32 → CS → Option (CS)) (i : Nat) (v1 : Int32) (v3 : Int32) (S : CS) : Option (CS) :=
  (some (cs_dsize S i)).bind fun x1 => if x1 ≤ v3 then (some S) else ((ta 5 (fun z => 5 * i + z) v3).bind fun x3 => (t_Fi_begin N x3 (v1 + (1000 * v3)) S).bind fun r5 => (some (v3 + 1)).bind fun x6 => k7 v1 x6 r5)
def tl_Dr_begin_7 (N : Nat) (i : Nat) : Nat → Int32 → Int32 → CS → Option (CS)
  | 0, _, _, _ => none
  | n + 1, v1, v3, S => tb_Dr_begin_7 N (tl_Dr_begin_7 N i n) i v1 v3 S
def t_Dr_begin (N : Nat) (i : Nat) (a1 : Int32) (a2 : Int32) (S0 : CS) : Option (CS) :=
  (some (cs_set_dsize S0 (va_up (cs_dsize S0) i a2))).bind fun S1 => tl_Dr_begin_7 N i N a1 0 S1
set_option maxHeartbeats 4000000 in
theorem u_Dr_begin {K : Nat → ClassId} {N : Nat} {i : Nat} {a1 : Int32} {a2 : Int32} {h0 : fh_H} {S0 : CS} {res : CS} {L : Nat → Nat → Nat} {hb : fh_H} (hL : cs_I L) (ht : t_Dr_begin N i a1 a2 S0 = some res) (hC : cs_W K L hb h0 S0) (hi : i < 2) : RO (fun z => cs_W K L hb z res) (f_Dr_begin K N (L 5 i) a1 a2 h0) := by
  have L7 : ∀ (n7 : Nat) (v1 : Int32) (v3 : Int32) (S : CS) (h : fh_H), cs_W K L hb h S → tl_Dr_begin_7 N i n7 v1 v3 S = some res → RO (fun z => cs_W K L hb z res) (l_Dr_begin_7 K N (L 5 i) n7 v1 v3 h) := by
    intro n7
    induction n7 with
    | zero =>
      intro v1 v3 S h hC ht
      exact fh_no ht
    | succ n7 ih7 =>
      intro v1 v3 S h hC ht
      have ht : tb_Dr_begin_7 N (tl_Dr_begin_7 N i n7) i v1 v3 S = some res := ht
      show RO _ (b_Dr_begin_7 K N (l_Dr_begin_7 K N (L 5 i) n7) (L 5 i) v1 v3 h)
      unfold tb_Dr_begin_7 at ht
      unfold b_Dr_begin_7
      obtain ⟨x1, e_x1, ht⟩ := fh_b ht
      refine ro_b ((oi_i (hC.1 5 i hi) rfl).trans e_x1) ?_
      by_cases c1 : x1 ≤ v3
      · replace ht := fh_t c1 ht
        refine ro_t c1 ?_
        obtain rfl := Option.some.inj ht
        exact ro_s hC
      · replace ht := fh_f c1 ht
        refine ro_f c1 ?_
        refine ro_b (oi_a (hC.1 5 i hi) rfl) ?_
        obtain ⟨x3, e_x3, ht⟩ := fh_b ht
        have hb_x3 : x3 < 10 := by obtain ⟨k, hk, q⟩ := ta_lt e_x3; have := hi; omega
        refine ro_b ((ai_a (hC.1 6 i hi)).trans (ai_m (g := fun z => some (L 7 z)) e_x3)) ?_
        refine ro_b (oi_o (hC.1 7 x3 hb_x3)) ?_
        obtain ⟨r5, e_r5, ht⟩ := fh_b ht
        refine ro_c (u_Fi_begin hL e_r5 hC hb_x3) (fun h hC => ?_)
        obtain ⟨x6, e_x6, ht⟩ := fh_b ht
        refine ro_b e_x6 ?_
        exact ih7 v1 x6 r5 _ hC ht
  unfold t_Dr_begin at ht
  unfold f_Dr_begin
  obtain ⟨S1, e_S1, ht⟩ := fh_b ht
  refine ro_c (G1 := (fun z => cs_W K L hb z S1)) ⟨_, oi_p (hC.1 5 i hi) (Nat.le_of_ble_eq_true rfl), by rw [← Option.some.inj e_S1]; exact cs_w_dsize hL hC hi rfl⟩ (fun h hC => ?_)
  exact L7 N a1 0 S1 _ hC ht
def t_Pl_from (N : Nat) (a1 : Int32) (a2 : Int32) (S0 : CS) : Option (Int32) :=
  (ta 40 (cs_srcs S0) ((a1 * 4) + a2)).bind fun x2 => some x2
set_option maxHeartbeats 4000000 in
theorem u_Pl_from {K : Nat → ClassId} {N : Nat} {a1 : Int32} {a2 : Int32} {h0 : fh_H} {S0 : CS} {res : Int32} {L : Nat → Nat → Nat} {hb : fh_H} (hL : cs_I L) (ht : t_Pl_from N a1 a2 S0 = some res) (hC : cs_W K L hb h0 S0) : RO (fun z => (res, h0) = z) (f_Pl_from K N (L 1 0) a1 a2 h0) := by
  unfold t_Pl_from at ht
  unfold f_Pl_from
  refine ro_b (oi_a (hC.1 1 0 (by decide)) rfl) ?_
  obtain ⟨x2, e_x2, ht⟩ := fh_b ht
  refine ro_b ((ai_i (hC.1 3 0 (by decide))).trans e_x2) ?_
  obtain rfl := Option.some.inj ht
  exact ro_s rfl
def t_Fi_nextNumber (N : Nat) (i : Nat)  (S0 : CS) : Option (Int64 × CS) :=
  (some (cs_rnd S0 i)).bind fun x1 => (some (cs_set_rnd S0 (va_up (cs_rnd S0) i (fr_l (x1 * 48271) 2147483647)))).bind fun S2 => (some (cs_rnd S2 i)).bind fun x3 => some (fr_l x3 1000003, S2)
set_option maxHeartbeats 4000000 in
theorem u_Fi_nextNumber {K : Nat → ClassId} {N : Nat} {i : Nat} {h0 : fh_H} {S0 : CS} {res : Int64 × CS} {L : Nat → Nat → Nat} {hb : fh_H} (hL : cs_I L) (ht : t_Fi_nextNumber N i  S0 = some res) (hC : cs_W K L hb h0 S0) (hi : i < 10) : RO (fun z => z.1 = res.1 ∧ cs_W K L hb z.2 res.2) (f_Fi_nextNumber K N (L 7 i)  h0) := by
  unfold t_Fi_nextNumber at ht
  unfold f_Fi_nextNumber
  obtain ⟨x1, e_x1, ht⟩ := fh_b ht
  refine ro_b ((oi_l (hC.1 7 i hi) rfl).trans e_x1) ?_
  obtain ⟨S2, e_S2, ht⟩ := fh_b ht
  refine ro_c (G1 := (fun z => cs_W K L hb z S2)) ⟨_, oi_p (hC.1 7 i hi) (Nat.le_of_ble_eq_true rfl), by rw [← Option.some.inj e_S2]; exact cs_w_rnd hL hC hi rfl⟩ (fun h hC => ?_)
  obtain ⟨x3, e_x3, ht⟩ := fh_b ht
  refine ro_b ((oi_l (hC.1 7 i hi) rfl).trans e_x3) ?_
  obtain rfl := Option.some.inj ht
  exact ro_s ⟨rfl, hC⟩
def tb_Fi_found_32 (N : Nat) (i : Nat) (v6 : Int32) (w1 : Int32) (S : CS) : Option (Int32 × CS) :=
  (some (cs_set_foundX S (va_up (cs_foundX S) i w1))).bind fun S1 => if 0 ≤ v6 then ((some (cs_set_foundY S1 (va_up (cs_foundY S1) i v6))).bind fun S2 => some (1, S2)) else ((some (cs_set_foundY S1 (va_up (cs_foundY S1) i (v6 + 1000003)))).bind fun S3 => some (1, S3))
def t_Fi_found (N : Nat) (i : Nat) (a1 : Int64) (a3 : Int64) (S0 : CS) : Option (Int32 × CS) :=
  (some ((fr_l a1 1000003).toInt32)).bind fun x1 => (some ((fr_l a3 1000003).toInt32)).bind fun x2 => if 0 ≤ x1 then (tb_Fi_found_32 N i x2 x1 S0) else (tb_Fi_found_32 N i x2 (x1 + 1000003) S0)
set_option maxHeartbeats 4000000 in
theorem u_Fi_found {K : Nat → ClassId} {N : Nat} {i : Nat} {a1 : Int64} {a3 : Int64} {h0 : fh_H} {S0 : CS} {res : Int32 × CS} {L : Nat → Nat → Nat} {hb : fh_H} (hL : cs_I L) (ht : t_Fi_found N i a1 a3 S0 = some res) (hC : cs_W K L hb h0 S0) (hi : i < 10) : RO (fun z => z.1 = res.1 ∧ cs_W K L hb z.2 res.2) (f_Fi_found K N (L 7 i) a1 a3 h0) := by
  have B32 : ∀ (v6 : Int32) (w1 : Int32) (S : CS) (h : fh_H), cs_W K L hb h S → tb_Fi_found_32 N i v6 w1 S = some res → RO (fun z => z.1 = res.1 ∧ cs_W K L hb z.2 res.2) (b_Fi_found_32 K N (L 7 i) v6 (some (L 7 i)) w1 h) := by
    intro v6 w1 S h hC ht
    unfold tb_Fi_found_32 at ht
    unfold b_Fi_found_32
    obtain ⟨S1, e_S1, ht⟩ := fh_b ht
    refine ro_c (G1 := (fun z => cs_W K L hb z S1)) ⟨_, oi_p (hC.1 7 i hi) (Nat.le_of_ble_eq_true rfl), by rw [← Option.some.inj e_S1]; exact cs_w_foundX hL hC hi rfl⟩ (fun h hC => ?_)
    by_cases c1 : 0 ≤ v6
    · replace ht := fh_t c1 ht
      refine ro_t c1 ?_
      obtain ⟨S2, e_S2, ht⟩ := fh_b ht
      refine ro_c (G1 := (fun z => cs_W K L hb z S2)) ⟨_, oi_p (hC.1 7 i hi) (Nat.le_of_ble_eq_true rfl), by rw [← Option.some.inj e_S2]; exact cs_w_foundY hL hC hi rfl⟩ (fun h hC => ?_)
      obtain rfl := Option.some.inj ht
      exact ro_s ⟨rfl, hC⟩
    · replace ht := fh_f c1 ht
      refine ro_f c1 ?_
      obtain ⟨S3, e_S3, ht⟩ := fh_b ht
      refine ro_c (G1 := (fun z => cs_W K L hb z S3)) ⟨_, oi_p (hC.1 7 i hi) (Nat.le_of_ble_eq_true rfl), by rw [← Option.some.inj e_S3]; exact cs_w_foundY hL hC hi rfl⟩ (fun h hC => ?_)
      obtain rfl := Option.some.inj ht
      exact ro_s ⟨rfl, hC⟩
  unfold t_Fi_found at ht
  unfold f_Fi_found
  obtain ⟨x1, e_x1, ht⟩ := fh_b ht
  refine ro_b e_x1 ?_
  obtain ⟨x2, e_x2, ht⟩ := fh_b ht
  refine ro_b e_x2 ?_
  by_cases c1 : 0 ≤ x1
  · replace ht := fh_t c1 ht
    refine ro_t c1 ?_
    exact B32 x2 x1 S0 _ hC ht
  · replace ht := fh_f c1 ht
    refine ro_f c1 ?_
    exact B32 x2 (x1 + 1000003) S0 _ hC ht
def t_Fi_findFree (N : Nat) (i : Nat)  (S0 : CS) : Option (Int32 × CS) :=
  (t_Fi_nextNumber N i S0).bind fun r2 => (t_Fi_nextNumber N i r2.2).bind fun r4 => (t_Fi_found N i r2.1 r4.1 r4.2).bind fun r6 => (tz r6.1).bind fun zz => some (zz, r6.2)
set_option maxHeartbeats 4000000 in
theorem u_Fi_findFree {K : Nat → ClassId} {N : Nat} {i : Nat} {h0 : fh_H} {S0 : CS} {res : Int32 × CS} {L : Nat → Nat → Nat} {hb : fh_H} (hL : cs_I L) (ht : t_Fi_findFree N i  S0 = some res) (hC : cs_W K L hb h0 S0) (hi : i < 10) : RO (fun z => z.1 = res.1 ∧ cs_W K L hb z.2 res.2) (f_Fi_findFree K N (L 7 i)  h0) := by
  unfold t_Fi_findFree at ht
  unfold f_Fi_findFree
  refine ro_b (oi_o (hC.1 7 i hi)) ?_
  obtain ⟨r2, e_r2, ht⟩ := fh_b ht
  refine ro_c (u_Fi_nextNumber hL e_r2 hC hi) (fun z hz => ?_)
  obtain ⟨z1, h⟩ := z
  obtain ⟨ez, hC⟩ := hz
  dsimp only at ez hC
  subst ez
  refine ro_b (oi_o (hC.1 7 i hi)) ?_
  obtain ⟨r4, e_r4, ht⟩ := fh_b ht
  refine ro_c (u_Fi_nextNumber hL e_r4 hC hi) (fun z hz => ?_)
  obtain ⟨z1, h⟩ := z
  obtain ⟨ez, hC⟩ := hz
  dsimp only at ez hC
  subst ez
  refine ro_b (oi_o (hC.1 7 i hi)) ?_
  obtain ⟨r6, e_r6, ht⟩ := fh_b ht
  refine ro_c (u_Fi_found hL e_r6 hC hi) (fun z hz => ?_)
  obtain ⟨z1, h⟩ := z
  obtain ⟨ez, hC⟩ := hz
  dsimp only at ez hC
  subst ez
  obtain ⟨zz, e_zz, ht⟩ := fh_b ht
  obtain ⟨hz, rfl⟩ := tz_s e_zz
  obtain rfl := Option.some.inj ht
  exact ro_z hz ⟨rfl, hC⟩
def t_Fi_length (N : Nat) (i : Nat) (a1 : Int32) (a2 : Int32) (S0 : CS) : Option (Int64) :=
  (ta 16 (cs_fx S0 i) a2).bind fun x2 => (ta 16 (cs_fx S0 i) a1).bind fun x4 => (some ((x2 - x4).toInt64)).bind fun x5 => (ta 16 (cs_fy S0 i) a2).bind fun x7 => (ta 16 (cs_fy S0 i) a1).bind fun x9 => (some ((x7 - x9).toInt64)).bind fun x10 => some (fr_l ((x5 * x5) + (x10 * x10)) 1000003)
set_option maxHeartbeats 4000000 in
theorem u_Fi_length {K : Nat → ClassId} {N : Nat} {i : Nat} {a1 : Int32} {a2 : Int32} {h0 : fh_H} {S0 : CS} {res : Int64} {L : Nat → Nat → Nat} {hb : fh_H} (hL : cs_I L) (ht : t_Fi_length N i a1 a2 S0 = some res) (hC : cs_W K L hb h0 S0) (hi : i < 10) : RO (fun z => (res, h0) = z) (f_Fi_length K N (L 7 i) a1 a2 h0) := by
  unfold t_Fi_length at ht
  unfold f_Fi_length
  refine ro_b (oi_a (hC.1 7 i hi) rfl) ?_
  obtain ⟨x2, e_x2, ht⟩ := fh_b ht
  refine ro_b ((ai_i (hC.1 8 i hi)).trans e_x2) ?_
  refine ro_b (oi_a (hC.1 7 i hi) rfl) ?_
  obtain ⟨x4, e_x4, ht⟩ := fh_b ht
  refine ro_b ((ai_i (hC.1 8 i hi)).trans e_x4) ?_
  obtain ⟨x5, e_x5, ht⟩ := fh_b ht
  refine ro_b e_x5 ?_
  refine ro_b (oi_a (hC.1 7 i hi) rfl) ?_
  obtain ⟨x7, e_x7, ht⟩ := fh_b ht
  refine ro_b ((ai_i (hC.1 9 i hi)).trans e_x7) ?_
  refine ro_b (oi_a (hC.1 7 i hi) rfl) ?_
  obtain ⟨x9, e_x9, ht⟩ := fh_b ht
  refine ro_b ((ai_i (hC.1 9 i hi)).trans e_x9) ?_
  obtain ⟨x10, e_x10, ht⟩ := fh_b ht
  refine ro_b e_x10 ?_
  obtain rfl := Option.some.inj ht
  exact ro_s rfl
def tb_FF_invert_35 (N : Nat) (k13 : Int64 → Int64 → Int32 → Option (Int64)) (v2 : Int64) (v4 : Int64) (v6 : Int32) : Option (Int64) :=
  (some (fr_l (v4 * v4) 1000003)).bind fun x1 => (some (v6 >>> ((1 : Int32) &&& 31))).bind fun x2 => k13 v2 x1 x2
def tb_FF_invert_13 (N : Nat) (k13 : Int64 → Int64 → Int32 → Option (Int64)) (v2 : Int64) (v4 : Int64) (v6 : Int32) : Option (Int64) :=
  if v6 ≤ 0 then (some v2) else (if (v6 &&& 1) = 1 then ((some (fr_l (v2 * v4) 1000003)).bind fun x1 => tb_FF_invert_35 N k13 x1 v4 v6) else (tb_FF_invert_35 N k13 v2 v4 v6))
def tl_FF_invert_13 (N : Nat) : Nat → Int64 → Int64 → Int32 → Option (Int64)
  | 0, _, _, _ => none
  | n + 1, v2, v4, v6 => tb_FF_invert_13 N (tl_FF_invert_13 N n) v2 v4 v6
def t_FF_invert (N : Nat) (a0 : Int64) : Option (Int64) :=
  (some (fr_l a0 1000003)).bind fun x1 => tl_FF_invert_13 N N 1 x1 1000001
set_option maxHeartbeats 4000000 in
theorem u_FF_invert {K : Nat → ClassId} {N : Nat} {a0 : Int64} {h0 : fh_H} {res : Int64} (ht : t_FF_invert N a0 = some res) : RO (fun z => (res, h0) = z) (f_FF_invert K N a0 h0) := by
  have L13 : ∀ (n13 : Nat) (v2 : Int64) (v4 : Int64) (v6 : Int32), tl_FF_invert_13 N n13 v2 v4 v6 = some res → RO (fun z => (res, h0) = z) (l_FF_invert_13 K N n13 v2 v4 v6 h0) := by
    intro n13
    induction n13 with
    | zero =>
      intro v2 v4 v6 ht
      exact fh_no ht
    | succ n13 ih13 =>
      have B35 : ∀ (v2 : Int64) (v4 : Int64) (v6 : Int32), tb_FF_invert_35 N (tl_FF_invert_13 N n13) v2 v4 v6 = some res → RO (fun z => (res, h0) = z) (b_FF_invert_35 K N (l_FF_invert_13 K N n13) v2 v4 v6 h0) := by
        intro v2 v4 v6 ht
        unfold tb_FF_invert_35 at ht
        unfold b_FF_invert_35
        obtain ⟨x1, e_x1, ht⟩ := fh_b ht
        refine ro_b e_x1 ?_
        obtain ⟨x2, e_x2, ht⟩ := fh_b ht
        refine ro_b e_x2 ?_
        exact ih13 v2 x1 x2 ht
      intro v2 v4 v6 ht
      have ht : tb_FF_invert_13 N (tl_FF_invert_13 N n13) v2 v4 v6 = some res := ht
      show RO _ (b_FF_invert_13 K N (l_FF_invert_13 K N n13) v2 v4 v6 h0)
      unfold tb_FF_invert_13 at ht
      unfold b_FF_invert_13
      by_cases c2 : v6 ≤ 0
      · replace ht := fh_t c2 ht
        refine ro_t c2 ?_
        obtain rfl := Option.some.inj ht
        exact ro_s rfl
      · replace ht := fh_f c2 ht
        refine ro_f c2 ?_
        by_cases c1 : (v6 &&& 1) = 1
        · replace ht := fh_t c1 ht
          refine ro_t c1 ?_
          obtain ⟨x1, e_x1, ht⟩ := fh_b ht
          refine ro_b e_x1 ?_
          exact B35 x1 v4 v6 ht
        · replace ht := fh_f c1 ht
          refine ro_f c1 ?_
          exact B35 v2 v4 v6 ht
  unfold t_FF_invert at ht
  unfold f_FF_invert
  obtain ⟨x1, e_x1, ht⟩ := fh_b ht
  refine ro_b e_x1 ?_
  exact L13 N 1 x1 1000001 ht
def t_Fi_findAlong (N : Nat) (i : Nat) (a1 : Int32) (a2 : Int32) (a3 : Int64) (S0 : CS) : Option (Int32 × CS) :=
  (ta 16 (cs_fx S0 i) a1).bind fun x2 => (ta 16 (cs_fx S0 i) a2).bind fun x4 => (ta 16 (cs_fx S0 i) a1).bind fun x6 => (ta 16 (cs_fy S0 i) a1).bind fun x8 => (ta 16 (cs_fy S0 i) a2).bind fun x10 => (ta 16 (cs_fy S0 i) a1).bind fun x12 => (t_Fi_found N i (x2.toInt64 + (a3 * ((x4 - x6).toInt64))) (x8.toInt64 + (a3 * ((x10 - x12).toInt64))) S0).bind fun r14 => (tz r14.1).bind fun zz => some (zz, r14.2)
set_option maxHeartbeats 4000000 in
theorem u_Fi_findAlong {K : Nat → ClassId} {N : Nat} {i : Nat} {a1 : Int32} {a2 : Int32} {a3 : Int64} {h0 : fh_H} {S0 : CS} {res : Int32 × CS} {L : Nat → Nat → Nat} {hb : fh_H} (hL : cs_I L) (ht : t_Fi_findAlong N i a1 a2 a3 S0 = some res) (hC : cs_W K L hb h0 S0) (hi : i < 10) : RO (fun z => z.1 = res.1 ∧ cs_W K L hb z.2 res.2) (f_Fi_findAlong K N (L 7 i) a1 a2 a3 h0) := by
  unfold t_Fi_findAlong at ht
  unfold f_Fi_findAlong
  refine ro_b (oi_a (hC.1 7 i hi) rfl) ?_
  obtain ⟨x2, e_x2, ht⟩ := fh_b ht
  refine ro_b ((ai_i (hC.1 8 i hi)).trans e_x2) ?_
  refine ro_b (oi_a (hC.1 7 i hi) rfl) ?_
  obtain ⟨x4, e_x4, ht⟩ := fh_b ht
  refine ro_b ((ai_i (hC.1 8 i hi)).trans e_x4) ?_
  refine ro_b (oi_a (hC.1 7 i hi) rfl) ?_
  obtain ⟨x6, e_x6, ht⟩ := fh_b ht
  refine ro_b ((ai_i (hC.1 8 i hi)).trans e_x6) ?_
  refine ro_b (oi_a (hC.1 7 i hi) rfl) ?_
  obtain ⟨x8, e_x8, ht⟩ := fh_b ht
  refine ro_b ((ai_i (hC.1 9 i hi)).trans e_x8) ?_
  refine ro_b (oi_a (hC.1 7 i hi) rfl) ?_
  obtain ⟨x10, e_x10, ht⟩ := fh_b ht
  refine ro_b ((ai_i (hC.1 9 i hi)).trans e_x10) ?_
  refine ro_b (oi_a (hC.1 7 i hi) rfl) ?_
  obtain ⟨x12, e_x12, ht⟩ := fh_b ht
  refine ro_b ((ai_i (hC.1 9 i hi)).trans e_x12) ?_
  refine ro_b (oi_o (hC.1 7 i hi)) ?_
  obtain ⟨r14, e_r14, ht⟩ := fh_b ht
  refine ro_c (u_Fi_found hL e_r14 hC hi) (fun z hz => ?_)
  obtain ⟨z1, h⟩ := z
  obtain ⟨ez, hC⟩ := hz
  dsimp only at ez hC
  subst ez
  obtain ⟨zz, e_zz, ht⟩ := fh_b ht
  obtain ⟨hz, rfl⟩ := tz_s e_zz
  obtain rfl := Option.some.inj ht
  exact ro_z hz ⟨rfl, hC⟩
def t_Fi_findFoot (N : Nat) (i : Nat) (a1 : Int32) (a2 : Int32) (a3 : Int32) (a4 : Int32) (S0 : CS) : Option (Int32 × CS) :=
  (t_Fi_length N i a3 a4 S0).bind fun r2 => if (lg_cmp r2 0) = 0 then (some (0, S0)) else ((ta 16 (cs_fx S0 i) a3).bind fun x4 => (ta 16 (cs_fx S0 i) a4).bind fun x6 => (ta 16 (cs_fx S0 i) a3).bind fun x8 => (ta 16 (cs_fy S0 i) a3).bind fun x10 => (ta 16 (cs_fy S0 i) a4).bind fun x12 => (ta 16 (cs_fy S0 i) a3).bind fun x14 => (some ((((a1 - x4).toInt64) * ((x6 - x8).toInt64)) + (((a2 - x10).toInt64) * ((x12 - x14).toInt64)))).bind fun x15 => (t_FF_invert N r2).bind fun r16 => (t_Fi_findAlong N i a3 a4 (fr_l ((fr_l x15 1000003) * r16) 1000003) S0).bind fun r18 => (tz r18.1).bind fun zz => some (zz, r18.2))
set_option maxHeartbeats 4000000 in
theorem u_Fi_findFoot {K : Nat → ClassId} {N : Nat} {i : Nat} {a1 : Int32} {a2 : Int32} {a3 : Int32} {a4 : Int32} {h0 : fh_H} {S0 : CS} {res : Int32 × CS} {L : Nat → Nat → Nat} {hb : fh_H} (hL : cs_I L) (ht : t_Fi_findFoot N i a1 a2 a3 a4 S0 = some res) (hC : cs_W K L hb h0 S0) (hi : i < 10) : RO (fun z => z.1 = res.1 ∧ cs_W K L hb z.2 res.2) (f_Fi_findFoot K N (L 7 i) a1 a2 a3 a4 h0) := by
  unfold t_Fi_findFoot at ht
  unfold f_Fi_findFoot
  refine ro_b (oi_o (hC.1 7 i hi)) ?_
  obtain ⟨r2, e_r2, ht⟩ := fh_b ht
  refine ro_c (u_Fi_length hL e_r2 hC hi) (fun z hz => ?_)
  subst hz
  by_cases c1 : (lg_cmp r2 0) = 0
  · replace ht := fh_t c1 ht
    refine ro_t c1 ?_
    obtain rfl := Option.some.inj ht
    exact ro_s ⟨rfl, hC⟩
  · replace ht := fh_f c1 ht
    refine ro_f c1 ?_
    refine ro_b (oi_a (hC.1 7 i hi) rfl) ?_
    obtain ⟨x4, e_x4, ht⟩ := fh_b ht
    refine ro_b ((ai_i (hC.1 8 i hi)).trans e_x4) ?_
    refine ro_b (oi_a (hC.1 7 i hi) rfl) ?_
    obtain ⟨x6, e_x6, ht⟩ := fh_b ht
    refine ro_b ((ai_i (hC.1 8 i hi)).trans e_x6) ?_
    refine ro_b (oi_a (hC.1 7 i hi) rfl) ?_
    obtain ⟨x8, e_x8, ht⟩ := fh_b ht
    refine ro_b ((ai_i (hC.1 8 i hi)).trans e_x8) ?_
    refine ro_b (oi_a (hC.1 7 i hi) rfl) ?_
    obtain ⟨x10, e_x10, ht⟩ := fh_b ht
    refine ro_b ((ai_i (hC.1 9 i hi)).trans e_x10) ?_
    refine ro_b (oi_a (hC.1 7 i hi) rfl) ?_
    obtain ⟨x12, e_x12, ht⟩ := fh_b ht
    refine ro_b ((ai_i (hC.1 9 i hi)).trans e_x12) ?_
    refine ro_b (oi_a (hC.1 7 i hi) rfl) ?_
    obtain ⟨x14, e_x14, ht⟩ := fh_b ht
    refine ro_b ((ai_i (hC.1 9 i hi)).trans e_x14) ?_
    obtain ⟨x15, e_x15, ht⟩ := fh_b ht
    refine ro_b e_x15 ?_
    obtain ⟨r16, e_r16, ht⟩ := fh_b ht
    refine ro_c (u_FF_invert e_r16) (fun z hz => ?_)
    subst hz
    refine ro_b (oi_o (hC.1 7 i hi)) ?_
    obtain ⟨r18, e_r18, ht⟩ := fh_b ht
    refine ro_c (u_Fi_findAlong hL e_r18 hC hi) (fun z hz => ?_)
    obtain ⟨z1, h⟩ := z
    obtain ⟨ez, hC⟩ := hz
    dsimp only at ez hC
    subst ez
    obtain ⟨zz, e_zz, ht⟩ := fh_b ht
    obtain ⟨hz, rfl⟩ := tz_s e_zz
    obtain rfl := Option.some.inj ht
    exact ro_z hz ⟨rfl, hC⟩
def t_Fi_cross (N : Nat) (i : Nat) (a1 : Int32) (a2 : Int32) (a3 : Int32) (a4 : Int32) (S0 : CS) : Option (Int64) :=
  (ta 16 (cs_fx S0 i) a2).bind fun x2 => (ta 16 (cs_fx S0 i) a1).bind fun x4 => (ta 16 (cs_fy S0 i) a4).bind fun x6 => (ta 16 (cs_fy S0 i) a3).bind fun x8 => (ta 16 (cs_fy S0 i) a2).bind fun x10 => (ta 16 (cs_fy S0 i) a1).bind fun x12 => (ta 16 (cs_fx S0 i) a4).bind fun x14 => (ta 16 (cs_fx S0 i) a3).bind fun x16 => (some ((((x2 - x4).toInt64) * ((x6 - x8).toInt64)) - (((x10 - x12).toInt64) * ((x14 - x16).toInt64)))).bind fun x17 => some (fr_l x17 1000003)
set_option maxHeartbeats 4000000 in
theorem u_Fi_cross {K : Nat → ClassId} {N : Nat} {i : Nat} {a1 : Int32} {a2 : Int32} {a3 : Int32} {a4 : Int32} {h0 : fh_H} {S0 : CS} {res : Int64} {L : Nat → Nat → Nat} {hb : fh_H} (hL : cs_I L) (ht : t_Fi_cross N i a1 a2 a3 a4 S0 = some res) (hC : cs_W K L hb h0 S0) (hi : i < 10) : RO (fun z => (res, h0) = z) (f_Fi_cross K N (L 7 i) a1 a2 a3 a4 h0) := by
  unfold t_Fi_cross at ht
  unfold f_Fi_cross
  refine ro_b (oi_a (hC.1 7 i hi) rfl) ?_
  obtain ⟨x2, e_x2, ht⟩ := fh_b ht
  refine ro_b ((ai_i (hC.1 8 i hi)).trans e_x2) ?_
  refine ro_b (oi_a (hC.1 7 i hi) rfl) ?_
  obtain ⟨x4, e_x4, ht⟩ := fh_b ht
  refine ro_b ((ai_i (hC.1 8 i hi)).trans e_x4) ?_
  refine ro_b (oi_a (hC.1 7 i hi) rfl) ?_
  obtain ⟨x6, e_x6, ht⟩ := fh_b ht
  refine ro_b ((ai_i (hC.1 9 i hi)).trans e_x6) ?_
  refine ro_b (oi_a (hC.1 7 i hi) rfl) ?_
  obtain ⟨x8, e_x8, ht⟩ := fh_b ht
  refine ro_b ((ai_i (hC.1 9 i hi)).trans e_x8) ?_
  refine ro_b (oi_a (hC.1 7 i hi) rfl) ?_
  obtain ⟨x10, e_x10, ht⟩ := fh_b ht
  refine ro_b ((ai_i (hC.1 9 i hi)).trans e_x10) ?_
  refine ro_b (oi_a (hC.1 7 i hi) rfl) ?_
  obtain ⟨x12, e_x12, ht⟩ := fh_b ht
  refine ro_b ((ai_i (hC.1 9 i hi)).trans e_x12) ?_
  refine ro_b (oi_a (hC.1 7 i hi) rfl) ?_
  obtain ⟨x14, e_x14, ht⟩ := fh_b ht
  refine ro_b ((ai_i (hC.1 8 i hi)).trans e_x14) ?_
  refine ro_b (oi_a (hC.1 7 i hi) rfl) ?_
  obtain ⟨x16, e_x16, ht⟩ := fh_b ht
  refine ro_b ((ai_i (hC.1 8 i hi)).trans e_x16) ?_
  obtain ⟨x17, e_x17, ht⟩ := fh_b ht
  refine ro_b e_x17 ?_
  obtain rfl := Option.some.inj ht
  exact ro_s rfl
def t_Fi_findMeet (N : Nat) (i : Nat) (a1 : Int32) (a2 : Int32) (a3 : Int32) (a4 : Int32) (S0 : CS) : Option (Int32 × CS) :=
  (t_Fi_cross N i a1 a2 a3 a4 S0).bind fun r2 => if (lg_cmp r2 0) = 0 then (some (0, S0)) else ((t_Fi_cross N i a1 a3 a3 a4 S0).bind fun r4 => (t_FF_invert N r2).bind fun r5 => (t_Fi_findAlong N i a1 a2 (fr_l (r4 * r5) 1000003) S0).bind fun r7 => (tz r7.1).bind fun zz => some (zz, r7.2))
set_option maxHeartbeats 4000000 in
theorem u_Fi_findMeet {K : Nat → ClassId} {N : Nat} {i : Nat} {a1 : Int32} {a2 : Int32} {a3 : Int32} {a4 : Int32} {h0 : fh_H} {S0 : CS} {res : Int32 × CS} {L : Nat → Nat → Nat} {hb : fh_H} (hL : cs_I L) (ht : t_Fi_findMeet N i a1 a2 a3 a4 S0 = some res) (hC : cs_W K L hb h0 S0) (hi : i < 10) : RO (fun z => z.1 = res.1 ∧ cs_W K L hb z.2 res.2) (f_Fi_findMeet K N (L 7 i) a1 a2 a3 a4 h0) := by
  unfold t_Fi_findMeet at ht
  unfold f_Fi_findMeet
  refine ro_b (oi_o (hC.1 7 i hi)) ?_
  obtain ⟨r2, e_r2, ht⟩ := fh_b ht
  refine ro_c (u_Fi_cross hL e_r2 hC hi) (fun z hz => ?_)
  subst hz
  by_cases c1 : (lg_cmp r2 0) = 0
  · replace ht := fh_t c1 ht
    refine ro_t c1 ?_
    obtain rfl := Option.some.inj ht
    exact ro_s ⟨rfl, hC⟩
  · replace ht := fh_f c1 ht
    refine ro_f c1 ?_
    refine ro_b (oi_o (hC.1 7 i hi)) ?_
    obtain ⟨r4, e_r4, ht⟩ := fh_b ht
    refine ro_c (u_Fi_cross hL e_r4 hC hi) (fun z hz => ?_)
    subst hz
    obtain ⟨r5, e_r5, ht⟩ := fh_b ht
    refine ro_c (u_FF_invert e_r5) (fun z hz => ?_)
    subst hz
    refine ro_b (oi_o (hC.1 7 i hi)) ?_
    obtain ⟨r7, e_r7, ht⟩ := fh_b ht
    refine ro_c (u_Fi_findAlong hL e_r7 hC hi) (fun z hz => ?_)
    obtain ⟨z1, h⟩ := z
    obtain ⟨ez, hC⟩ := hz
    dsimp only at ez hC
    subst ez
    obtain ⟨zz, e_zz, ht⟩ := fh_b ht
    obtain ⟨hz, rfl⟩ := tz_s e_zz
    obtain rfl := Option.some.inj ht
    exact ro_z hz ⟨rfl, hC⟩
def t_Fi_findCentre (N : Nat) (i : Nat) (a1 : Int32) (a2 : Int32) (a3 : Int32) (S0 : CS) : Option (Int32 × CS) :=
  (t_Fi_cross N i a1 a2 a1 a3 S0).bind fun r2 => if (lg_cmp r2 0) = 0 then (some (0, S0)) else ((t_FF_invert N (2 * r2)).bind fun r3 => (t_Fi_length N i a1 a2 S0).bind fun r5 => (t_Fi_length N i a1 a3 S0).bind fun r7 => (ta 16 (cs_fy S0 i) a3).bind fun x9 => (ta 16 (cs_fy S0 i) a1).bind fun x11 => (ta 16 (cs_fy S0 i) a2).bind fun x13 => (ta 16 (cs_fy S0 i) a1).bind fun x15 => (some ((r5 * ((x9 - x11).toInt64)) - (r7 * ((x13 - x15).toInt64)))).bind fun x16 => (some (fr_l x16 1000003)).bind fun x17 => (ta 16 (cs_fx S0 i) a2).bind fun x19 => (ta 16 (cs_fx S0 i) a1).bind fun x21 => (ta 16 (cs_fx S0 i) a3).bind fun x23 => (ta 16 (cs_fx S0 i) a1).bind fun x25 => (some ((r7 * ((x19 - x21).toInt64)) - (r5 * ((x23 - x25).toInt64)))).bind fun x26 => (some (fr_l x26 1000003)).bind fun x27 => (ta 16 (cs_fx S0 i) a1).bind fun x29 => (ta 16 (cs_fy S0 i) a1).bind fun x31 => (t_Fi_found N i (x29.toInt64 + (x17 * r3)) (x31.toInt64 + (x27 * r3)) S0).bind fun r33 => (tz r33.1).bind fun zz => some (zz, r33.2))
set_option maxHeartbeats 4000000 in
theorem u_Fi_findCentre {K : Nat → ClassId} {N : Nat} {i : Nat} {a1 : Int32} {a2 : Int32} {a3 : Int32} {h0 : fh_H} {S0 : CS} {res : Int32 × CS} {L : Nat → Nat → Nat} {hb : fh_H} (hL : cs_I L) (ht : t_Fi_findCentre N i a1 a2 a3 S0 = some res) (hC : cs_W K L hb h0 S0) (hi : i < 10) : RO (fun z => z.1 = res.1 ∧ cs_W K L hb z.2 res.2) (f_Fi_findCentre K N (L 7 i) a1 a2 a3 h0) := by
  unfold t_Fi_findCentre at ht
  unfold f_Fi_findCentre
  refine ro_b (oi_o (hC.1 7 i hi)) ?_
  obtain ⟨r2, e_r2, ht⟩ := fh_b ht
  refine ro_c (u_Fi_cross hL e_r2 hC hi) (fun z hz => ?_)
  subst hz
  by_cases c1 : (lg_cmp r2 0) = 0
  · replace ht := fh_t c1 ht
    refine ro_t c1 ?_
    obtain rfl := Option.some.inj ht
    exact ro_s ⟨rfl, hC⟩
  · replace ht := fh_f c1 ht
    refine ro_f c1 ?_
    obtain ⟨r3, e_r3, ht⟩ := fh_b ht
    refine ro_c (u_FF_invert e_r3) (fun z hz => ?_)
    subst hz
    refine ro_b (oi_o (hC.1 7 i hi)) ?_
    obtain ⟨r5, e_r5, ht⟩ := fh_b ht
    refine ro_c (u_Fi_length hL e_r5 hC hi) (fun z hz => ?_)
    subst hz
    refine ro_b (oi_o (hC.1 7 i hi)) ?_
    obtain ⟨r7, e_r7, ht⟩ := fh_b ht
    refine ro_c (u_Fi_length hL e_r7 hC hi) (fun z hz => ?_)
    subst hz
    refine ro_b (oi_a (hC.1 7 i hi) rfl) ?_
    obtain ⟨x9, e_x9, ht⟩ := fh_b ht
    refine ro_b ((ai_i (hC.1 9 i hi)).trans e_x9) ?_
    refine ro_b (oi_a (hC.1 7 i hi) rfl) ?_
    obtain ⟨x11, e_x11, ht⟩ := fh_b ht
    refine ro_b ((ai_i (hC.1 9 i hi)).trans e_x11) ?_
    refine ro_b (oi_a (hC.1 7 i hi) rfl) ?_
    obtain ⟨x13, e_x13, ht⟩ := fh_b ht
    refine ro_b ((ai_i (hC.1 9 i hi)).trans e_x13) ?_
    refine ro_b (oi_a (hC.1 7 i hi) rfl) ?_
    obtain ⟨x15, e_x15, ht⟩ := fh_b ht
    refine ro_b ((ai_i (hC.1 9 i hi)).trans e_x15) ?_
    obtain ⟨x16, e_x16, ht⟩ := fh_b ht
    refine ro_b e_x16 ?_
    obtain ⟨x17, e_x17, ht⟩ := fh_b ht
    refine ro_b e_x17 ?_
    refine ro_b (oi_a (hC.1 7 i hi) rfl) ?_
    obtain ⟨x19, e_x19, ht⟩ := fh_b ht
    refine ro_b ((ai_i (hC.1 8 i hi)).trans e_x19) ?_
    refine ro_b (oi_a (hC.1 7 i hi) rfl) ?_
    obtain ⟨x21, e_x21, ht⟩ := fh_b ht
    refine ro_b ((ai_i (hC.1 8 i hi)).trans e_x21) ?_
    refine ro_b (oi_a (hC.1 7 i hi) rfl) ?_
    obtain ⟨x23, e_x23, ht⟩ := fh_b ht
    refine ro_b ((ai_i (hC.1 8 i hi)).trans e_x23) ?_
    refine ro_b (oi_a (hC.1 7 i hi) rfl) ?_
    obtain ⟨x25, e_x25, ht⟩ := fh_b ht
    refine ro_b ((ai_i (hC.1 8 i hi)).trans e_x25) ?_
    obtain ⟨x26, e_x26, ht⟩ := fh_b ht
    refine ro_b e_x26 ?_
    obtain ⟨x27, e_x27, ht⟩ := fh_b ht
    refine ro_b e_x27 ?_
    refine ro_b (oi_a (hC.1 7 i hi) rfl) ?_
    obtain ⟨x29, e_x29, ht⟩ := fh_b ht
    refine ro_b ((ai_i (hC.1 8 i hi)).trans e_x29) ?_
    refine ro_b (oi_a (hC.1 7 i hi) rfl) ?_
    obtain ⟨x31, e_x31, ht⟩ := fh_b ht
    refine ro_b ((ai_i (hC.1 9 i hi)).trans e_x31) ?_
    refine ro_b (oi_o (hC.1 7 i hi)) ?_
    obtain ⟨r33, e_r33, ht⟩ := fh_b ht
    refine ro_c (u_Fi_found hL e_r33 hC hi) (fun z hz => ?_)
    obtain ⟨z1, h⟩ := z
    obtain ⟨ez, hC⟩ := hz
    dsimp only at ez hC
    subst ez
    obtain ⟨zz, e_zz, ht⟩ := fh_b ht
    obtain ⟨hz, rfl⟩ := tz_s e_zz
    obtain rfl := Option.some.inj ht
    exact ro_z hz ⟨rfl, hC⟩
def t_Fi_findOnCircle (N : Nat) (i : Nat) (a1 : Int32) (a2 : Int32) (a3 : Int64) (S0 : CS) : Option (Int32 × CS) :=
  (some (fr_l (1 + (a3 * a3)) 1000003)).bind fun x1 => if (lg_cmp x1 0) = 0 then (some (0, S0)) else ((ta 16 (cs_fx S0 i) a2).bind fun x3 => (ta 16 (cs_fx S0 i) a1).bind fun x5 => (ta 16 (cs_fy S0 i) a2).bind fun x7 => (ta 16 (cs_fy S0 i) a1).bind fun x9 => (some (fr_l (((x3 - x5).toInt64) + (a3 * ((x7 - x9).toInt64))) 1000003)).bind fun x10 => (t_FF_invert N x1).bind fun r11 => (some (fr_l (x10 * r11) 1000003)).bind fun x12 => (ta 16 (cs_fx S0 i) a2).bind fun x14 => (ta 16 (cs_fy S0 i) a2).bind fun x16 => (t_Fi_found N i (x14.toInt64 - (2 * x12)) (x16.toInt64 - ((2 * x12) * a3)) S0).bind fun r18 => (tz r18.1).bind fun zz => some (zz, r18.2))
set_option maxHeartbeats 4000000 in
theorem u_Fi_findOnCircle {K : Nat → ClassId} {N : Nat} {i : Nat} {a1 : Int32} {a2 : Int32} {a3 : Int64} {h0 : fh_H} {S0 : CS} {res : Int32 × CS} {L : Nat → Nat → Nat} {hb : fh_H} (hL : cs_I L) (ht : t_Fi_findOnCircle N i a1 a2 a3 S0 = some res) (hC : cs_W K L hb h0 S0) (hi : i < 10) : RO (fun z => z.1 = res.1 ∧ cs_W K L hb z.2 res.2) (f_Fi_findOnCircle K N (L 7 i) a1 a2 a3 h0) := by
  unfold t_Fi_findOnCircle at ht
  unfold f_Fi_findOnCircle
  obtain ⟨x1, e_x1, ht⟩ := fh_b ht
  refine ro_b e_x1 ?_
  by_cases c1 : (lg_cmp x1 0) = 0
  · replace ht := fh_t c1 ht
    refine ro_t c1 ?_
    obtain rfl := Option.some.inj ht
    exact ro_s ⟨rfl, hC⟩
  · replace ht := fh_f c1 ht
    refine ro_f c1 ?_
    refine ro_b (oi_a (hC.1 7 i hi) rfl) ?_
    obtain ⟨x3, e_x3, ht⟩ := fh_b ht
    refine ro_b ((ai_i (hC.1 8 i hi)).trans e_x3) ?_
    refine ro_b (oi_a (hC.1 7 i hi) rfl) ?_
    obtain ⟨x5, e_x5, ht⟩ := fh_b ht
    refine ro_b ((ai_i (hC.1 8 i hi)).trans e_x5) ?_
    refine ro_b (oi_a (hC.1 7 i hi) rfl) ?_
    obtain ⟨x7, e_x7, ht⟩ := fh_b ht
    refine ro_b ((ai_i (hC.1 9 i hi)).trans e_x7) ?_
    refine ro_b (oi_a (hC.1 7 i hi) rfl) ?_
    obtain ⟨x9, e_x9, ht⟩ := fh_b ht
    refine ro_b ((ai_i (hC.1 9 i hi)).trans e_x9) ?_
    obtain ⟨x10, e_x10, ht⟩ := fh_b ht
    refine ro_b e_x10 ?_
    obtain ⟨r11, e_r11, ht⟩ := fh_b ht
    refine ro_c (u_FF_invert e_r11) (fun z hz => ?_)
    subst hz
    obtain ⟨x12, e_x12, ht⟩ := fh_b ht
    refine ro_b e_x12 ?_
    refine ro_b (oi_a (hC.1 7 i hi) rfl) ?_
    obtain ⟨x14, e_x14, ht⟩ := fh_b ht
    refine ro_b ((ai_i (hC.1 8 i hi)).trans e_x14) ?_
    refine ro_b (oi_a (hC.1 7 i hi) rfl) ?_
    obtain ⟨x16, e_x16, ht⟩ := fh_b ht
    refine ro_b ((ai_i (hC.1 9 i hi)).trans e_x16) ?_
    refine ro_b (oi_o (hC.1 7 i hi)) ?_
    obtain ⟨r18, e_r18, ht⟩ := fh_b ht
    refine ro_c (u_Fi_found hL e_r18 hC hi) (fun z hz => ?_)
    obtain ⟨z1, h⟩ := z
    obtain ⟨ez, hC⟩ := hz
    dsimp only at ez hC
    subst ez
    obtain ⟨zz, e_zz, ht⟩ := fh_b ht
    obtain ⟨hz, rfl⟩ := tz_s e_zz
    obtain rfl := Option.some.inj ht
    exact ro_z hz ⟨rfl, hC⟩
def t_Fi_findTurnedOut (N : Nat) (i : Nat) (a1 : Int32) (a2 : Int32) (a3 : Int32) (S0 : CS) : Option (Int32 × CS) :=
  (t_Fi_length N i a2 a1 S0).bind fun r2 => if (lg_cmp r2 0) = 0 then (some (0, S0)) else ((t_Fi_length N i a2 a3 S0).bind fun r4 => (t_FF_invert N r2).bind fun r5 => (t_Fi_findAlong N i a2 a1 (fr_l (r4 * r5) 1000003) S0).bind fun r7 => (tz r7.1).bind fun zz => some (zz, r7.2))
set_option maxHeartbeats 4000000 in
theorem u_Fi_findTurnedOut {K : Nat → ClassId} {N : Nat} {i : Nat} {a1 : Int32} {a2 : Int32} {a3 : Int32} {h0 : fh_H} {S0 : CS} {res : Int32 × CS} {L : Nat → Nat → Nat} {hb : fh_H} (hL : cs_I L) (ht : t_Fi_findTurnedOut N i a1 a2 a3 S0 = some res) (hC : cs_W K L hb h0 S0) (hi : i < 10) : RO (fun z => z.1 = res.1 ∧ cs_W K L hb z.2 res.2) (f_Fi_findTurnedOut K N (L 7 i) a1 a2 a3 h0) := by
  unfold t_Fi_findTurnedOut at ht
  unfold f_Fi_findTurnedOut
  refine ro_b (oi_o (hC.1 7 i hi)) ?_
  obtain ⟨r2, e_r2, ht⟩ := fh_b ht
  refine ro_c (u_Fi_length hL e_r2 hC hi) (fun z hz => ?_)
  subst hz
  by_cases c1 : (lg_cmp r2 0) = 0
  · replace ht := fh_t c1 ht
    refine ro_t c1 ?_
    obtain rfl := Option.some.inj ht
    exact ro_s ⟨rfl, hC⟩
  · replace ht := fh_f c1 ht
    refine ro_f c1 ?_
    refine ro_b (oi_o (hC.1 7 i hi)) ?_
    obtain ⟨r4, e_r4, ht⟩ := fh_b ht
    refine ro_c (u_Fi_length hL e_r4 hC hi) (fun z hz => ?_)
    subst hz
    obtain ⟨r5, e_r5, ht⟩ := fh_b ht
    refine ro_c (u_FF_invert e_r5) (fun z hz => ?_)
    subst hz
    refine ro_b (oi_o (hC.1 7 i hi)) ?_
    obtain ⟨r7, e_r7, ht⟩ := fh_b ht
    refine ro_c (u_Fi_findAlong hL e_r7 hC hi) (fun z hz => ?_)
    obtain ⟨z1, h⟩ := z
    obtain ⟨ez, hC⟩ := hz
    dsimp only at ez hC
    subst ez
    obtain ⟨zz, e_zz, ht⟩ := fh_b ht
    obtain ⟨hz, rfl⟩ := tz_s e_zz
    obtain rfl := Option.some.inj ht
    exact ro_z hz ⟨rfl, hC⟩
def t_Fi_find (N : Nat) (i : Nat) (a1 : Int32) (a2 : Int32) (a3 : Int32) (a4 : Int32) (a5 : Int32) (S0 : CS) : Option (Int32 × CS) :=
  if a1 = 0 then ((t_Fi_findFree N i S0).bind fun r2 => (tz r2.1).bind fun zz => some (zz, r2.2)) else (if a1 = 1 then ((ta 16 (cs_fx S0 i) a2).bind fun x4 => (ta 16 (cs_fx S0 i) a3).bind fun x6 => (ta 16 (cs_fy S0 i) a2).bind fun x8 => (ta 16 (cs_fy S0 i) a3).bind fun x10 => (t_Fi_found N i (((x4 + x6).toInt64) * 500002) (((x8 + x10).toInt64) * 500002) S0).bind fun r12 => (tz r12.1).bind fun zz => some (zz, r12.2)) else (if a1 = 2 then ((ta 16 (cs_fx S0 i) a2).bind fun x14 => (ta 16 (cs_fy S0 i) a2).bind fun x16 => (t_Fi_findFoot N i x14 x16 a3 a4 S0).bind fun r18 => (tz r18.1).bind fun zz => some (zz, r18.2)) else (if a1 = 3 then ((t_Fi_findMeet N i a2 a3 a4 a5 S0).bind fun r20 => (tz r20.1).bind fun zz => some (zz, r20.2)) else (if a1 = 4 then ((t_Fi_findCentre N i a2 a3 a4 S0).bind fun r22 => (tz r22.1).bind fun zz => some (zz, r22.2)) else (if a1 = 5 then ((t_Fi_findCentre N i a2 a3 a4 S0).bind fun r24 => if r24.1 = 0 then (some (0, r24.2)) else ((ta 16 (cs_fx r24.2 i) a2).bind fun x26 => (ta 16 (cs_fx r24.2 i) a3).bind fun x28 => (ta 16 (cs_fx r24.2 i) a4).bind fun x30 => (some (cs_foundX r24.2 i)).bind fun x31 => (ta 16 (cs_fy r24.2 i) a2).bind fun x33 => (ta 16 (cs_fy r24.2 i) a3).bind fun x35 => (ta 16 (cs_fy r24.2 i) a4).bind fun x37 => (some (cs_foundY r24.2 i)).bind fun x38 => (t_Fi_found N i ((((x26 + x28) + x30) - (2 * x31)).toInt64) ((((x33 + x35) + x37) - (2 * x38)).toInt64) r24.2).bind fun r40 => if r40.1 = 0 then (some (0, r40.2)) else (some (1, r40.2)))) else (if a1 = 6 then ((ta 16 (cs_fx S0 i) a2).bind fun x42 => (ta 16 (cs_fy S0 i) a2).bind fun x44 => (t_Fi_findFoot N i x42 x44 a3 a4 S0).bind fun r46 => if r46.1 = 0 then (some (0, r46.2)) else ((some (cs_foundX r46.2 i)).bind fun x47 => (ta 16 (cs_fx r46.2 i) a2).bind fun x49 => (some (cs_foundY r46.2 i)).bind fun x50 => (ta 16 (cs_fy r46.2 i) a2).bind fun x52 => (t_Fi_found N i (((2 * x47) - x49).toInt64) (((2 * x50) - x52).toInt64) r46.2).bind fun r54 => if r54.1 = 0 then (some (0, r54.2)) else (some (1, r54.2)))) else (if a1 = 7 then ((ta 16 (cs_fx S0 i) a3).bind fun x56 => (ta 16 (cs_fy S0 i) a2).bind fun x58 => (ta 16 (cs_fy S0 i) a3).bind fun x60 => (ta 16 (cs_fy S0 i) a3).bind fun x62 => (ta 16 (cs_fx S0 i) a2).bind fun x64 => (ta 16 (cs_fx S0 i) a3).bind fun x66 => (t_Fi_found N i ((x56 - (x58 - x60)).toInt64) ((x62 + (x64 - x66)).toInt64) S0).bind fun r68 => (tz r68.1).bind fun zz => some (zz, r68.2)) else (if a1 = 8 then ((ta 16 (cs_fx S0 i) a2).bind fun x70 => (ta 16 (cs_fx S0 i) a4).bind fun x72 => (ta 16 (cs_fx S0 i) a3).bind fun x74 => (ta 16 (cs_fy S0 i) a2).bind fun x76 => (ta 16 (cs_fy S0 i) a4).bind fun x78 => (ta 16 (cs_fy S0 i) a3).bind fun x80 => (t_Fi_found N i (((x70 + x72) - x74).toInt64) (((x76 + x78) - x80).toInt64) S0).bind fun r82 => (tz r82.1).bind fun zz => some (zz, r82.2)) else (if a1 = 9 then ((t_Fi_nextNumber N i S0).bind fun r84 => (t_Fi_findAlong N i a2 a3 r84.1 r84.2).bind fun r86 => (tz r86.1).bind fun zz => some (zz, r86.2)) else (if a1 = 10 then ((t_Fi_nextNumber N i S0).bind fun r88 => (t_Fi_findOnCircle N i a2 a3 r88.1 r88.2).bind fun r90 => (tz r90.1).bind fun zz => some (zz, r90.2)) else (if a1 = 11 then ((t_Fi_findCentre N i a2 a4 a5 S0).bind fun r92 => if r92.1 = 0 then (some (0, r92.2)) else ((some (cs_foundX r92.2 i)).bind fun x93 => (some (cs_foundY r92.2 i)).bind fun x94 => (t_Fi_findFoot N i x93 x94 a2 a3 r92.2).bind fun r96 => if r96.1 = 0 then (some (0, r96.2)) else ((some (cs_foundX r96.2 i)).bind fun x97 => (ta 16 (cs_fx r96.2 i) a2).bind fun x99 => (some (cs_foundY r96.2 i)).bind fun x100 => (ta 16 (cs_fy r96.2 i) a2).bind fun x102 => (t_Fi_found N i (((2 * x97) - x99).toInt64) (((2 * x100) - x102).toInt64) r96.2).bind fun r104 => if r104.1 = 0 then (some (0, r104.2)) else (some (1, r104.2))))) else (if a1 = 12 then ((ta 16 (cs_fx S0 i) a2).bind fun x106 => (ta 16 (cs_fx S0 i) a3).bind fun x108 => (ta 16 (cs_fx S0 i) a4).bind fun x110 => (ta 16 (cs_fy S0 i) a2).bind fun x112 => (ta 16 (cs_fy S0 i) a3).bind fun x114 => (ta 16 (cs_fy S0 i) a4).bind fun x116 => (t_Fi_found N i ((((x106 + x108) + x110).toInt64) * 666669) ((((x112 + x114) + x116).toInt64) * 666669) S0).bind fun r118 => (tz r118.1).bind fun zz => some (zz, r118.2)) else (if a1 = 13 then ((t_Fi_findTurnedOut N i a2 a3 a4 S0).bind fun r120 => (tz r120.1).bind fun zz => some (zz, r120.2)) else (some (0, S0)))))))))))))))
set_option maxHeartbeats 4000000 in
theorem u_Fi_find {K : Nat → ClassId} {N : Nat} {i : Nat} {a1 : Int32} {a2 : Int32} {a3 : Int32} {a4 : Int32} {a5 : Int32} {h0 : fh_H} {S0 : CS} {res : Int32 × CS} {L : Nat → Nat → Nat} {hb : fh_H} (hL : cs_I L) (ht : t_Fi_find N i a1 a2 a3 a4 a5 S0 = some res) (hC : cs_W K L hb h0 S0) (hi : i < 10) : RO (fun z => z.1 = res.1 ∧ cs_W K L hb z.2 res.2) (f_Fi_find K N (L 7 i) a1 a2 a3 a4 a5 h0) := by
  unfold t_Fi_find at ht
  unfold f_Fi_find
  by_cases c21 : a1 = 0
  · replace ht := fh_t c21 ht
    refine ro_t c21 ?_
    refine ro_b (oi_o (hC.1 7 i hi)) ?_
    obtain ⟨r2, e_r2, ht⟩ := fh_b ht
    refine ro_c (u_Fi_findFree hL e_r2 hC hi) (fun z hz => ?_)
    obtain ⟨z1, h⟩ := z
    obtain ⟨ez, hC⟩ := hz
    dsimp only at ez hC
    subst ez
    obtain ⟨zz, e_zz, ht⟩ := fh_b ht
    obtain ⟨hz, rfl⟩ := tz_s e_zz
    obtain rfl := Option.some.inj ht
    exact ro_z hz ⟨rfl, hC⟩
  · replace ht := fh_f c21 ht
    refine ro_f c21 ?_
    by_cases c20 : a1 = 1
    · replace ht := fh_t c20 ht
      refine ro_t c20 ?_
      refine ro_b (oi_a (hC.1 7 i hi) rfl) ?_
      obtain ⟨x4, e_x4, ht⟩ := fh_b ht
      refine ro_b ((ai_i (hC.1 8 i hi)).trans e_x4) ?_
      refine ro_b (oi_a (hC.1 7 i hi) rfl) ?_
      obtain ⟨x6, e_x6, ht⟩ := fh_b ht
      refine ro_b ((ai_i (hC.1 8 i hi)).trans e_x6) ?_
      refine ro_b (oi_a (hC.1 7 i hi) rfl) ?_
      obtain ⟨x8, e_x8, ht⟩ := fh_b ht
      refine ro_b ((ai_i (hC.1 9 i hi)).trans e_x8) ?_
      refine ro_b (oi_a (hC.1 7 i hi) rfl) ?_
      obtain ⟨x10, e_x10, ht⟩ := fh_b ht
      refine ro_b ((ai_i (hC.1 9 i hi)).trans e_x10) ?_
      refine ro_b (oi_o (hC.1 7 i hi)) ?_
      obtain ⟨r12, e_r12, ht⟩ := fh_b ht
      refine ro_c (u_Fi_found hL e_r12 hC hi) (fun z hz => ?_)
      obtain ⟨z1, h⟩ := z
      obtain ⟨ez, hC⟩ := hz
      dsimp only at ez hC
      subst ez
      obtain ⟨zz, e_zz, ht⟩ := fh_b ht
      obtain ⟨hz, rfl⟩ := tz_s e_zz
      obtain rfl := Option.some.inj ht
      exact ro_z hz ⟨rfl, hC⟩
    · replace ht := fh_f c20 ht
      refine ro_f c20 ?_
      by_cases c19 : a1 = 2
      · replace ht := fh_t c19 ht
        refine ro_t c19 ?_
        refine ro_b (oi_a (hC.1 7 i hi) rfl) ?_
        obtain ⟨x14, e_x14, ht⟩ := fh_b ht
        refine ro_b ((ai_i (hC.1 8 i hi)).trans e_x14) ?_
        refine ro_b (oi_a (hC.1 7 i hi) rfl) ?_
        obtain ⟨x16, e_x16, ht⟩ := fh_b ht
        refine ro_b ((ai_i (hC.1 9 i hi)).trans e_x16) ?_
        refine ro_b (oi_o (hC.1 7 i hi)) ?_
        obtain ⟨r18, e_r18, ht⟩ := fh_b ht
        refine ro_c (u_Fi_findFoot hL e_r18 hC hi) (fun z hz => ?_)
        obtain ⟨z1, h⟩ := z
        obtain ⟨ez, hC⟩ := hz
        dsimp only at ez hC
        subst ez
        obtain ⟨zz, e_zz, ht⟩ := fh_b ht
        obtain ⟨hz, rfl⟩ := tz_s e_zz
        obtain rfl := Option.some.inj ht
        exact ro_z hz ⟨rfl, hC⟩
      · replace ht := fh_f c19 ht
        refine ro_f c19 ?_
        by_cases c18 : a1 = 3
        · replace ht := fh_t c18 ht
          refine ro_t c18 ?_
          refine ro_b (oi_o (hC.1 7 i hi)) ?_
          obtain ⟨r20, e_r20, ht⟩ := fh_b ht
          refine ro_c (u_Fi_findMeet hL e_r20 hC hi) (fun z hz => ?_)
          obtain ⟨z1, h⟩ := z
          obtain ⟨ez, hC⟩ := hz
          dsimp only at ez hC
          subst ez
          obtain ⟨zz, e_zz, ht⟩ := fh_b ht
          obtain ⟨hz, rfl⟩ := tz_s e_zz
          obtain rfl := Option.some.inj ht
          exact ro_z hz ⟨rfl, hC⟩
        · replace ht := fh_f c18 ht
          refine ro_f c18 ?_
          by_cases c17 : a1 = 4
          · replace ht := fh_t c17 ht
            refine ro_t c17 ?_
            refine ro_b (oi_o (hC.1 7 i hi)) ?_
            obtain ⟨r22, e_r22, ht⟩ := fh_b ht
            refine ro_c (u_Fi_findCentre hL e_r22 hC hi) (fun z hz => ?_)
            obtain ⟨z1, h⟩ := z
            obtain ⟨ez, hC⟩ := hz
            dsimp only at ez hC
            subst ez
            obtain ⟨zz, e_zz, ht⟩ := fh_b ht
            obtain ⟨hz, rfl⟩ := tz_s e_zz
            obtain rfl := Option.some.inj ht
            exact ro_z hz ⟨rfl, hC⟩
          · replace ht := fh_f c17 ht
            refine ro_f c17 ?_
            by_cases c16 : a1 = 5
            · replace ht := fh_t c16 ht
              refine ro_t c16 ?_
              refine ro_b (oi_o (hC.1 7 i hi)) ?_
              obtain ⟨r24, e_r24, ht⟩ := fh_b ht
              refine ro_c (u_Fi_findCentre hL e_r24 hC hi) (fun z hz => ?_)
              obtain ⟨z1, h⟩ := z
              obtain ⟨ez, hC⟩ := hz
              dsimp only at ez hC
              subst ez
              by_cases c2 : r24.1 = 0
              · replace ht := fh_t c2 ht
                refine ro_t c2 ?_
                obtain rfl := Option.some.inj ht
                exact ro_s ⟨rfl, hC⟩
              · replace ht := fh_f c2 ht
                refine ro_f c2 ?_
                refine ro_b (oi_a (hC.1 7 i hi) rfl) ?_
                obtain ⟨x26, e_x26, ht⟩ := fh_b ht
                refine ro_b ((ai_i (hC.1 8 i hi)).trans e_x26) ?_
                refine ro_b (oi_a (hC.1 7 i hi) rfl) ?_
                obtain ⟨x28, e_x28, ht⟩ := fh_b ht
                refine ro_b ((ai_i (hC.1 8 i hi)).trans e_x28) ?_
                refine ro_b (oi_a (hC.1 7 i hi) rfl) ?_
                obtain ⟨x30, e_x30, ht⟩ := fh_b ht
                refine ro_b ((ai_i (hC.1 8 i hi)).trans e_x30) ?_
                obtain ⟨x31, e_x31, ht⟩ := fh_b ht
                refine ro_b ((oi_i (hC.1 7 i hi) rfl).trans e_x31) ?_
                refine ro_b (oi_a (hC.1 7 i hi) rfl) ?_
                obtain ⟨x33, e_x33, ht⟩ := fh_b ht
                refine ro_b ((ai_i (hC.1 9 i hi)).trans e_x33) ?_
                refine ro_b (oi_a (hC.1 7 i hi) rfl) ?_
                obtain ⟨x35, e_x35, ht⟩ := fh_b ht
                refine ro_b ((ai_i (hC.1 9 i hi)).trans e_x35) ?_
                refine ro_b (oi_a (hC.1 7 i hi) rfl) ?_
                obtain ⟨x37, e_x37, ht⟩ := fh_b ht
                refine ro_b ((ai_i (hC.1 9 i hi)).trans e_x37) ?_
                obtain ⟨x38, e_x38, ht⟩ := fh_b ht
                refine ro_b ((oi_i (hC.1 7 i hi) rfl).trans e_x38) ?_
                refine ro_b (oi_o (hC.1 7 i hi)) ?_
                obtain ⟨r40, e_r40, ht⟩ := fh_b ht
                refine ro_c (u_Fi_found hL e_r40 hC hi) (fun z hz => ?_)
                obtain ⟨z1, h⟩ := z
                obtain ⟨ez, hC⟩ := hz
                dsimp only at ez hC
                subst ez
                by_cases c1 : r40.1 = 0
                · replace ht := fh_t c1 ht
                  refine ro_t c1 ?_
                  obtain rfl := Option.some.inj ht
                  exact ro_s ⟨rfl, hC⟩
                · replace ht := fh_f c1 ht
                  refine ro_f c1 ?_
                  obtain rfl := Option.some.inj ht
                  exact ro_s ⟨rfl, hC⟩
            · replace ht := fh_f c16 ht
              refine ro_f c16 ?_
              by_cases c15 : a1 = 6
              · replace ht := fh_t c15 ht
                refine ro_t c15 ?_
                refine ro_b (oi_a (hC.1 7 i hi) rfl) ?_
                obtain ⟨x42, e_x42, ht⟩ := fh_b ht
                refine ro_b ((ai_i (hC.1 8 i hi)).trans e_x42) ?_
                refine ro_b (oi_a (hC.1 7 i hi) rfl) ?_
                obtain ⟨x44, e_x44, ht⟩ := fh_b ht
                refine ro_b ((ai_i (hC.1 9 i hi)).trans e_x44) ?_
                refine ro_b (oi_o (hC.1 7 i hi)) ?_
                obtain ⟨r46, e_r46, ht⟩ := fh_b ht
                refine ro_c (u_Fi_findFoot hL e_r46 hC hi) (fun z hz => ?_)
                obtain ⟨z1, h⟩ := z
                obtain ⟨ez, hC⟩ := hz
                dsimp only at ez hC
                subst ez
                by_cases c4 : r46.1 = 0
                · replace ht := fh_t c4 ht
                  refine ro_t c4 ?_
                  obtain rfl := Option.some.inj ht
                  exact ro_s ⟨rfl, hC⟩
                · replace ht := fh_f c4 ht
                  refine ro_f c4 ?_
                  obtain ⟨x47, e_x47, ht⟩ := fh_b ht
                  refine ro_b ((oi_i (hC.1 7 i hi) rfl).trans e_x47) ?_
                  refine ro_b (oi_a (hC.1 7 i hi) rfl) ?_
                  obtain ⟨x49, e_x49, ht⟩ := fh_b ht
                  refine ro_b ((ai_i (hC.1 8 i hi)).trans e_x49) ?_
                  obtain ⟨x50, e_x50, ht⟩ := fh_b ht
                  refine ro_b ((oi_i (hC.1 7 i hi) rfl).trans e_x50) ?_
                  refine ro_b (oi_a (hC.1 7 i hi) rfl) ?_
                  obtain ⟨x52, e_x52, ht⟩ := fh_b ht
                  refine ro_b ((ai_i (hC.1 9 i hi)).trans e_x52) ?_
                  refine ro_b (oi_o (hC.1 7 i hi)) ?_
                  obtain ⟨r54, e_r54, ht⟩ := fh_b ht
                  refine ro_c (u_Fi_found hL e_r54 hC hi) (fun z hz => ?_)
                  obtain ⟨z1, h⟩ := z
                  obtain ⟨ez, hC⟩ := hz
                  dsimp only at ez hC
                  subst ez
                  by_cases c3 : r54.1 = 0
                  · replace ht := fh_t c3 ht
                    refine ro_t c3 ?_
                    obtain rfl := Option.some.inj ht
                    exact ro_s ⟨rfl, hC⟩
                  · replace ht := fh_f c3 ht
                    refine ro_f c3 ?_
                    obtain rfl := Option.some.inj ht
                    exact ro_s ⟨rfl, hC⟩
              · replace ht := fh_f c15 ht
                refine ro_f c15 ?_
                by_cases c14 : a1 = 7
                · replace ht := fh_t c14 ht
                  refine ro_t c14 ?_
                  refine ro_b (oi_a (hC.1 7 i hi) rfl) ?_
                  obtain ⟨x56, e_x56, ht⟩ := fh_b ht
                  refine ro_b ((ai_i (hC.1 8 i hi)).trans e_x56) ?_
                  refine ro_b (oi_a (hC.1 7 i hi) rfl) ?_
                  obtain ⟨x58, e_x58, ht⟩ := fh_b ht
                  refine ro_b ((ai_i (hC.1 9 i hi)).trans e_x58) ?_
                  refine ro_b (oi_a (hC.1 7 i hi) rfl) ?_
                  obtain ⟨x60, e_x60, ht⟩ := fh_b ht
                  refine ro_b ((ai_i (hC.1 9 i hi)).trans e_x60) ?_
                  refine ro_b (oi_a (hC.1 7 i hi) rfl) ?_
                  obtain ⟨x62, e_x62, ht⟩ := fh_b ht
                  refine ro_b ((ai_i (hC.1 9 i hi)).trans e_x62) ?_
                  refine ro_b (oi_a (hC.1 7 i hi) rfl) ?_
                  obtain ⟨x64, e_x64, ht⟩ := fh_b ht
                  refine ro_b ((ai_i (hC.1 8 i hi)).trans e_x64) ?_
                  refine ro_b (oi_a (hC.1 7 i hi) rfl) ?_
                  obtain ⟨x66, e_x66, ht⟩ := fh_b ht
                  refine ro_b ((ai_i (hC.1 8 i hi)).trans e_x66) ?_
                  refine ro_b (oi_o (hC.1 7 i hi)) ?_
                  obtain ⟨r68, e_r68, ht⟩ := fh_b ht
                  refine ro_c (u_Fi_found hL e_r68 hC hi) (fun z hz => ?_)
                  obtain ⟨z1, h⟩ := z
                  obtain ⟨ez, hC⟩ := hz
                  dsimp only at ez hC
                  subst ez
                  obtain ⟨zz, e_zz, ht⟩ := fh_b ht
                  obtain ⟨hz, rfl⟩ := tz_s e_zz
                  obtain rfl := Option.some.inj ht
                  exact ro_z hz ⟨rfl, hC⟩
                · replace ht := fh_f c14 ht
                  refine ro_f c14 ?_
                  by_cases c13 : a1 = 8
                  · replace ht := fh_t c13 ht
                    refine ro_t c13 ?_
                    refine ro_b (oi_a (hC.1 7 i hi) rfl) ?_
                    obtain ⟨x70, e_x70, ht⟩ := fh_b ht
                    refine ro_b ((ai_i (hC.1 8 i hi)).trans e_x70) ?_
                    refine ro_b (oi_a (hC.1 7 i hi) rfl) ?_
                    obtain ⟨x72, e_x72, ht⟩ := fh_b ht
                    refine ro_b ((ai_i (hC.1 8 i hi)).trans e_x72) ?_
                    refine ro_b (oi_a (hC.1 7 i hi) rfl) ?_
                    obtain ⟨x74, e_x74, ht⟩ := fh_b ht
                    refine ro_b ((ai_i (hC.1 8 i hi)).trans e_x74) ?_
                    refine ro_b (oi_a (hC.1 7 i hi) rfl) ?_
                    obtain ⟨x76, e_x76, ht⟩ := fh_b ht
                    refine ro_b ((ai_i (hC.1 9 i hi)).trans e_x76) ?_
                    refine ro_b (oi_a (hC.1 7 i hi) rfl) ?_
                    obtain ⟨x78, e_x78, ht⟩ := fh_b ht
                    refine ro_b ((ai_i (hC.1 9 i hi)).trans e_x78) ?_
                    refine ro_b (oi_a (hC.1 7 i hi) rfl) ?_
                    obtain ⟨x80, e_x80, ht⟩ := fh_b ht
                    refine ro_b ((ai_i (hC.1 9 i hi)).trans e_x80) ?_
                    refine ro_b (oi_o (hC.1 7 i hi)) ?_
                    obtain ⟨r82, e_r82, ht⟩ := fh_b ht
                    refine ro_c (u_Fi_found hL e_r82 hC hi) (fun z hz => ?_)
                    obtain ⟨z1, h⟩ := z
                    obtain ⟨ez, hC⟩ := hz
                    dsimp only at ez hC
                    subst ez
                    obtain ⟨zz, e_zz, ht⟩ := fh_b ht
                    obtain ⟨hz, rfl⟩ := tz_s e_zz
                    obtain rfl := Option.some.inj ht
                    exact ro_z hz ⟨rfl, hC⟩
                  · replace ht := fh_f c13 ht
                    refine ro_f c13 ?_
                    by_cases c12 : a1 = 9
                    · replace ht := fh_t c12 ht
                      refine ro_t c12 ?_
                      refine ro_b (oi_o (hC.1 7 i hi)) ?_
                      obtain ⟨r84, e_r84, ht⟩ := fh_b ht
                      refine ro_c (u_Fi_nextNumber hL e_r84 hC hi) (fun z hz => ?_)
                      obtain ⟨z1, h⟩ := z
                      obtain ⟨ez, hC⟩ := hz
                      dsimp only at ez hC
                      subst ez
                      refine ro_b (oi_o (hC.1 7 i hi)) ?_
                      obtain ⟨r86, e_r86, ht⟩ := fh_b ht
                      refine ro_c (u_Fi_findAlong hL e_r86 hC hi) (fun z hz => ?_)
                      obtain ⟨z1, h⟩ := z
                      obtain ⟨ez, hC⟩ := hz
                      dsimp only at ez hC
                      subst ez
                      obtain ⟨zz, e_zz, ht⟩ := fh_b ht
                      obtain ⟨hz, rfl⟩ := tz_s e_zz
                      obtain rfl := Option.some.inj ht
                      exact ro_z hz ⟨rfl, hC⟩
                    · replace ht := fh_f c12 ht
                      refine ro_f c12 ?_
                      by_cases c11 : a1 = 10
                      · replace ht := fh_t c11 ht
                        refine ro_t c11 ?_
                        refine ro_b (oi_o (hC.1 7 i hi)) ?_
                        obtain ⟨r88, e_r88, ht⟩ := fh_b ht
                        refine ro_c (u_Fi_nextNumber hL e_r88 hC hi) (fun z hz => ?_)
                        obtain ⟨z1, h⟩ := z
                        obtain ⟨ez, hC⟩ := hz
                        dsimp only at ez hC
                        subst ez
                        refine ro_b (oi_o (hC.1 7 i hi)) ?_
                        obtain ⟨r90, e_r90, ht⟩ := fh_b ht
                        refine ro_c (u_Fi_findOnCircle hL e_r90 hC hi) (fun z hz => ?_)
                        obtain ⟨z1, h⟩ := z
                        obtain ⟨ez, hC⟩ := hz
                        dsimp only at ez hC
                        subst ez
                        obtain ⟨zz, e_zz, ht⟩ := fh_b ht
                        obtain ⟨hz, rfl⟩ := tz_s e_zz
                        obtain rfl := Option.some.inj ht
                        exact ro_z hz ⟨rfl, hC⟩
                      · replace ht := fh_f c11 ht
                        refine ro_f c11 ?_
                        by_cases c10 : a1 = 11
                        · replace ht := fh_t c10 ht
                          refine ro_t c10 ?_
                          refine ro_b (oi_o (hC.1 7 i hi)) ?_
                          obtain ⟨r92, e_r92, ht⟩ := fh_b ht
                          refine ro_c (u_Fi_findCentre hL e_r92 hC hi) (fun z hz => ?_)
                          obtain ⟨z1, h⟩ := z
                          obtain ⟨ez, hC⟩ := hz
                          dsimp only at ez hC
                          subst ez
                          by_cases c7 : r92.1 = 0
                          · replace ht := fh_t c7 ht
                            refine ro_t c7 ?_
                            obtain rfl := Option.some.inj ht
                            exact ro_s ⟨rfl, hC⟩
                          · replace ht := fh_f c7 ht
                            refine ro_f c7 ?_
                            obtain ⟨x93, e_x93, ht⟩ := fh_b ht
                            refine ro_b ((oi_i (hC.1 7 i hi) rfl).trans e_x93) ?_
                            obtain ⟨x94, e_x94, ht⟩ := fh_b ht
                            refine ro_b ((oi_i (hC.1 7 i hi) rfl).trans e_x94) ?_
                            refine ro_b (oi_o (hC.1 7 i hi)) ?_
                            obtain ⟨r96, e_r96, ht⟩ := fh_b ht
                            refine ro_c (u_Fi_findFoot hL e_r96 hC hi) (fun z hz => ?_)
                            obtain ⟨z1, h⟩ := z
                            obtain ⟨ez, hC⟩ := hz
                            dsimp only at ez hC
                            subst ez
                            by_cases c6 : r96.1 = 0
                            · replace ht := fh_t c6 ht
                              refine ro_t c6 ?_
                              obtain rfl := Option.some.inj ht
                              exact ro_s ⟨rfl, hC⟩
                            · replace ht := fh_f c6 ht
                              refine ro_f c6 ?_
                              obtain ⟨x97, e_x97, ht⟩ := fh_b ht
                              refine ro_b ((oi_i (hC.1 7 i hi) rfl).trans e_x97) ?_
                              refine ro_b (oi_a (hC.1 7 i hi) rfl) ?_
                              obtain ⟨x99, e_x99, ht⟩ := fh_b ht
                              refine ro_b ((ai_i (hC.1 8 i hi)).trans e_x99) ?_
                              obtain ⟨x100, e_x100, ht⟩ := fh_b ht
                              refine ro_b ((oi_i (hC.1 7 i hi) rfl).trans e_x100) ?_
                              refine ro_b (oi_a (hC.1 7 i hi) rfl) ?_
                              obtain ⟨x102, e_x102, ht⟩ := fh_b ht
                              refine ro_b ((ai_i (hC.1 9 i hi)).trans e_x102) ?_
                              refine ro_b (oi_o (hC.1 7 i hi)) ?_
                              obtain ⟨r104, e_r104, ht⟩ := fh_b ht
                              refine ro_c (u_Fi_found hL e_r104 hC hi) (fun z hz => ?_)
                              obtain ⟨z1, h⟩ := z
                              obtain ⟨ez, hC⟩ := hz
                              dsimp only at ez hC
                              subst ez
                              by_cases c5 : r104.1 = 0
                              · replace ht := fh_t c5 ht
                                refine ro_t c5 ?_
                                obtain rfl := Option.some.inj ht
                                exact ro_s ⟨rfl, hC⟩
                              · replace ht := fh_f c5 ht
                                refine ro_f c5 ?_
                                obtain rfl := Option.some.inj ht
                                exact ro_s ⟨rfl, hC⟩
                        · replace ht := fh_f c10 ht
                          refine ro_f c10 ?_
                          by_cases c9 : a1 = 12
                          · replace ht := fh_t c9 ht
                            refine ro_t c9 ?_
                            refine ro_b (oi_a (hC.1 7 i hi) rfl) ?_
                            obtain ⟨x106, e_x106, ht⟩ := fh_b ht
                            refine ro_b ((ai_i (hC.1 8 i hi)).trans e_x106) ?_
                            refine ro_b (oi_a (hC.1 7 i hi) rfl) ?_
                            obtain ⟨x108, e_x108, ht⟩ := fh_b ht
                            refine ro_b ((ai_i (hC.1 8 i hi)).trans e_x108) ?_
                            refine ro_b (oi_a (hC.1 7 i hi) rfl) ?_
                            obtain ⟨x110, e_x110, ht⟩ := fh_b ht
                            refine ro_b ((ai_i (hC.1 8 i hi)).trans e_x110) ?_
                            refine ro_b (oi_a (hC.1 7 i hi) rfl) ?_
                            obtain ⟨x112, e_x112, ht⟩ := fh_b ht
                            refine ro_b ((ai_i (hC.1 9 i hi)).trans e_x112) ?_
                            refine ro_b (oi_a (hC.1 7 i hi) rfl) ?_
                            obtain ⟨x114, e_x114, ht⟩ := fh_b ht
                            refine ro_b ((ai_i (hC.1 9 i hi)).trans e_x114) ?_
                            refine ro_b (oi_a (hC.1 7 i hi) rfl) ?_
                            obtain ⟨x116, e_x116, ht⟩ := fh_b ht
                            refine ro_b ((ai_i (hC.1 9 i hi)).trans e_x116) ?_
                            refine ro_b (oi_o (hC.1 7 i hi)) ?_
                            obtain ⟨r118, e_r118, ht⟩ := fh_b ht
                            refine ro_c (u_Fi_found hL e_r118 hC hi) (fun z hz => ?_)
                            obtain ⟨z1, h⟩ := z
                            obtain ⟨ez, hC⟩ := hz
                            dsimp only at ez hC
                            subst ez
                            obtain ⟨zz, e_zz, ht⟩ := fh_b ht
                            obtain ⟨hz, rfl⟩ := tz_s e_zz
                            obtain rfl := Option.some.inj ht
                            exact ro_z hz ⟨rfl, hC⟩
                          · replace ht := fh_f c9 ht
                            refine ro_f c9 ?_
                            by_cases c8 : a1 = 13
                            · replace ht := fh_t c8 ht
                              refine ro_t c8 ?_
                              refine ro_b (oi_o (hC.1 7 i hi)) ?_
                              obtain ⟨r120, e_r120, ht⟩ := fh_b ht
                              refine ro_c (u_Fi_findTurnedOut hL e_r120 hC hi) (fun z hz => ?_)
                              obtain ⟨z1, h⟩ := z
                              obtain ⟨ez, hC⟩ := hz
                              dsimp only at ez hC
                              subst ez
                              obtain ⟨zz, e_zz, ht⟩ := fh_b ht
                              obtain ⟨hz, rfl⟩ := tz_s e_zz
                              obtain rfl := Option.some.inj ht
                              exact ro_z hz ⟨rfl, hC⟩
                            · replace ht := fh_f c8 ht
                              refine ro_f c8 ?_
                              obtain rfl := Option.some.inj ht
                              exact ro_s ⟨rfl, hC⟩
