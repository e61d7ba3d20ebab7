def tb_Fs_listAreas_89 (N : Nat) (k20 : Int32 → CS → Option (CS)) (k35 : Int32 → Int32 → CS → Option (CS)) (v2 : Int32) (v3 : Int32) (S : CS) : Option (CS) :=
  (some (v3 + 1)).bind fun x1 => k35 v2 x1 S
def tb_Fs_listAreas_35 (N : Nat) (k20 : Int32 → CS → Option (CS)) (k35 : Int32 → Int32 → CS → Option (CS)) (v2 : Int32) (v3 : Int32) (S : CS) : Option (CS) :=
  (some (cs_lsize S 11)).bind fun x2 => if x2 ≤ v3 then ((some (v2 + 1)).bind fun x3 => k20 x3 S) else ((ta 120 (cs_areas S) v2).bind fun x5 => (ta 120 (cs_areas S) v3).bind fun x7 => if (lg_cmp x5 x7) = 0 then ((ta (il_len 11) (cs_items S 11) v2).bind fun x10 => (ta (il_len 11) (cs_items S 11) v3).bind fun x13 => (t_FF_join N x10 x13).bind fun r14 => (t_Fs_consider N 7 r14 S).bind fun r16 => tb_Fs_listAreas_89 N k20 k35 v2 v3 r16) else (tb_Fs_listAreas_89 N k20 k35 v2 v3 S))
def tl_Fs_listAreas_35 (N : Nat) (k20 : Int32 → CS → Option (CS)) : Nat → Int32 → Int32 → CS → Option (CS)
  | 0, _, _, _ => none
  | n + 1, v2, v3, S => tb_Fs_listAreas_35 N k20 (tl_Fs_listAreas_35 N k20 n) v2 v3 S
def tb_Fs_listAreas_20 (N : Nat) (k20 : Int32 → CS → Option (CS)) (v2 : Int32) (S : CS) : Option (CS) :=
  (some (cs_lsize S 11)).bind fun x2 => if x2 ≤ v2 then (some S) else ((some (v2 + 1)).bind fun x3 => tl_Fs_listAreas_35 N k20 N v2 x3 S)
def tl_Fs_listAreas_20 (N : Nat) : Nat → Int32 → CS → Option (CS)
  | 0, _, _ => none
  | n + 1, v2, S => tb_Fs_listAreas_20 N (tl_Fs_listAreas_20 N n) v2 S
def t_Fs_listAreas (N : Nat)  (S0 : CS) : Option (CS) :=
  (t_Dr_firstStanding N 0 S0).bind fun r3 => if r3 = none then (some S0) else ((t_Fs_findTriples N r3 S0).bind fun r5 => tl_Fs_listAreas_20 N N 0 r5)
set_option maxHeartbeats 4000000 in
theorem u_Fs_listAreas {K : Nat → ClassId} {N : Nat} {h0 : fh_H} {S0 : CS} {res : CS} {L : Nat → Nat → Nat} {hb : fh_H} (hL : cs_I L) (ht : t_Fs_listAreas N  S0 = some res) (hC : cs_W K L hb h0 S0) : RO (fun z => cs_W K L hb z res) (f_Fs_listAreas K N (L 4 0)  h0) := by
  have L20 : ∀ (n20 : Nat) (v2 : Int32) (S : CS) (h : fh_H), cs_W K L hb h S → tl_Fs_listAreas_20 N n20 v2 S = some res → RO (fun z => cs_W K L hb z res) (l_Fs_listAreas_20 K N (L 4 0) n20 v2 h) := by
    intro n20
    induction n20 with
    | zero =>
      intro v2 S h hC ht
      exact fh_no ht
    | succ n20 ih20 =>
      have L35 : ∀ (n35 : Nat) (v2 : Int32) (v3 : Int32) (S : CS) (h : fh_H), cs_W K L hb h S → tl_Fs_listAreas_35 N (tl_Fs_listAreas_20 N n20) n35 v2 v3 S = some res → RO (fun z => cs_W K L hb z res) (l_Fs_listAreas_35 K N (l_Fs_listAreas_20 K N (L 4 0) n20) (L 4 0) n35 v2 v3 h) := by
        intro n35
        induction n35 with
        | zero =>
          intro v2 v3 S h hC ht
          exact fh_no ht
        | succ n35 ih35 =>
          have B89 : ∀ (v2 : Int32) (v3 : Int32) (S : CS) (h : fh_H), cs_W K L hb h S → tb_Fs_listAreas_89 N (tl_Fs_listAreas_20 N n20) (tl_Fs_listAreas_35 N (tl_Fs_listAreas_20 N n20) n35) v2 v3 S = some res → RO (fun z => cs_W K L hb z res) (b_Fs_listAreas_89 K N (l_Fs_listAreas_20 K N (L 4 0) n20) (l_Fs_listAreas_35 K N (l_Fs_listAreas_20 K N (L 4 0) n20) (L 4 0) n35) (L 4 0) v2 v3 h) := by
            intro v2 v3 S h hC ht
            unfold tb_Fs_listAreas_89 at ht
            unfold b_Fs_listAreas_89
            obtain ⟨x1, e_x1, ht⟩ := fh_b ht
            refine ro_b e_x1 ?_
            exact ih35 v2 x1 S _ hC ht
          intro v2 v3 S h hC ht
          have ht : tb_Fs_listAreas_35 N (tl_Fs_listAreas_20 N n20) (tl_Fs_listAreas_35 N (tl_Fs_listAreas_20 N n20) n35) v2 v3 S = some res := ht
          show RO _ (b_Fs_listAreas_35 K N (l_Fs_listAreas_20 K N (L 4 0) n20) (l_Fs_listAreas_35 K N (l_Fs_listAreas_20 K N (L 4 0) n20) (L 4 0) n35) (L 4 0) v2 v3 h)
          unfold tb_Fs_listAreas_35 at ht
          unfold b_Fs_listAreas_35
          refine ro_b (oi_a (hC.1 4 0 (by decide)) rfl) ?_
          obtain ⟨x2, e_x2, ht⟩ := fh_b ht
          refine ro_b ((oi_i (hC.1 10 11 (by decide)) rfl).trans e_x2) ?_
          by_cases c2 : x2 ≤ v3
          · replace ht := fh_t c2 ht
            refine ro_t c2 ?_
            obtain ⟨x3, e_x3, ht⟩ := fh_b ht
            refine ro_b e_x3 ?_
            exact ih20 x3 S _ hC ht
          · replace ht := fh_f c2 ht
            refine ro_f c2 ?_
            refine ro_b (oi_a (hC.1 4 0 (by decide)) rfl) ?_
            obtain ⟨x5, e_x5, ht⟩ := fh_b ht
            refine ro_b ((ai_l (hC.1 14 0 (by decide))).trans e_x5) ?_
            refine ro_b (oi_a (hC.1 4 0 (by decide)) rfl) ?_
            obtain ⟨x7, e_x7, ht⟩ := fh_b ht
            refine ro_b ((ai_l (hC.1 14 0 (by decide))).trans e_x7) ?_
            by_cases c1 : (lg_cmp x5 x7) = 0
            · replace ht := fh_t c1 ht
              refine ro_t c1 ?_
              refine ro_b (oi_a (hC.1 4 0 (by decide)) rfl) ?_
              refine ro_b (oi_a (hC.1 10 11 (by decide)) rfl) ?_
              obtain ⟨x10, e_x10, ht⟩ := fh_b ht
              refine ro_b ((ai_i (hC.1 11 11 (by decide))).trans e_x10) ?_
              refine ro_b (oi_a (hC.1 4 0 (by decide)) rfl) ?_
              refine ro_b (oi_a (hC.1 10 11 (by decide)) rfl) ?_
              obtain ⟨x13, e_x13, ht⟩ := fh_b ht
              refine ro_b ((ai_i (hC.1 11 11 (by decide))).trans e_x13) ?_
              obtain ⟨r14, e_r14, ht⟩ := fh_b ht
              refine ro_c (u_FF_join e_r14) (fun z hz => ?_)
              subst hz
              refine ro_b (oi_o (hC.1 4 0 (by decide))) ?_
              obtain ⟨r16, e_r16, ht⟩ := fh_b ht
              refine ro_c (u_Fs_consider hL e_r16 hC) (fun h hC => ?_)
              exact B89 v2 v3 r16 _ hC ht
            · replace ht := fh_f c1 ht
              refine ro_f c1 ?_
              exact B89 v2 v3 S _ hC ht
      intro v2 S h hC ht
      have ht : tb_Fs_listAreas_20 N (tl_Fs_listAreas_20 N n20) v2 S = some res := ht
      show RO _ (b_Fs_listAreas_20 K N (l_Fs_listAreas_20 K N (L 4 0) n20) (L 4 0) v2 h)
      unfold tb_Fs_listAreas_20 at ht
      unfold b_Fs_listAreas_20
      refine ro_b (oi_a (hC.1 4 0 (by decide)) rfl) ?_
      obtain ⟨x2, e_x2, ht⟩ := fh_b ht
      refine ro_b ((oi_i (hC.1 10 11 (by decide)) rfl).trans e_x2) ?_
      by_cases c1 : x2 ≤ v2
      · replace ht := fh_t c1 ht
        refine ro_t c1 ?_
        obtain rfl := Option.some.inj ht
        exact ro_s hC
      · replace ht := fh_f c1 ht
        refine ro_f c1 ?_
        obtain ⟨x3, e_x3, ht⟩ := fh_b ht
        refine ro_b e_x3 ?_
        exact L35 N v2 x3 S _ hC ht
  unfold t_Fs_listAreas at ht
  unfold f_Fs_listAreas
  refine ro_b (oi_a (hC.1 4 0 (by decide)) rfl) ?_
  refine ro_b (oi_o (hC.1 5 0 (by decide))) ?_
  obtain ⟨r3, e_r3, ht⟩ := fh_b ht
  refine ro_c (u_Dr_firstStanding hL e_r3 hC (by decide)) (fun z hz => ?_)
  subst hz
  by_cases c1 : r3 = none
  · replace ht := fh_t c1 ht
    refine ro_t (by rw [c1]; rfl) ?_
    obtain rfl := Option.some.inj ht
    exact ro_s hC
  · replace ht := fh_f c1 ht
    refine ro_f (fun q => c1 (Option.map_eq_none_iff.mp q)) ?_
    refine ro_b (oi_o (hC.1 4 0 (by decide))) ?_
    obtain ⟨r5, e_r5, ht⟩ := fh_b ht
    refine ro_c (u_Fs_findTriples hL e_r5 hC) (fun h hC => ?_)
    exact L20 N 0 r5 _ hC ht
def tb_Fs_listRatios_105 (N : Nat) (k2 : Int32 → CS → Option (CS)) (k14 : Int32 → Int32 → CS → Option (CS)) (k24 : Int32 → Int32 → Int32 → CS → Option (CS)) (k48 : Int32 → Int32 → Int32 → Int32 → CS → Option (CS)) (v1 : Int32) (v2 : Int32) (v3 : Int32) (v4 : Int32) (S : CS) : Option (CS) :=
  (some (v4 + 1)).bind fun x1 => k48 v1 v2 v3 x1 S
def tb_Fs_listRatios_48 (N : Nat) (k2 : Int32 → CS → Option (CS)) (k14 : Int32 → Int32 → CS → Option (CS)) (k24 : Int32 → Int32 → Int32 → CS → Option (CS)) (k48 : Int32 → Int32 → Int32 → Int32 → CS → Option (CS)) (v1 : Int32) (v2 : Int32) (v3 : Int32) (v4 : Int32) (S : CS) : Option (CS) :=
  (some (cs_pts S)).bind fun x1 => if x1 ≤ v4 then ((some (v3 + 1)).bind fun x2 => k24 v1 v2 x2 S) else ((t_FF_pack N v1 v2 v3).bind fun r4 => (t_FF_join N r4 v4).bind fun r5 => (t_Dr_giveNumbers N 0 r5 S).bind fun r7 => if r7.1 = 0 then (tb_Fs_listRatios_105 N k2 k14 k24 k48 v1 v2 v3 v4 r7.2) else ((t_Fs_isApart N 8 r7.1 r7.2).bind fun r9 => if r9 = 0 then (tb_Fs_listRatios_105 N k2 k14 k24 k48 v1 v2 v3 v4 r7.2) else ((ta 9 (fun z => z) 8).bind fun x11 => (t_IL_add N x11 r7.1 r7.2).bind fun r13 => tb_Fs_listRatios_105 N k2 k14 k24 k48 v1 v2 v3 v4 r13)))
def tl_Fs_listRatios_48 (N : Nat) (k2 : Int32 → CS → Option (CS)) (k14 : Int32 → Int32 → CS → Option (CS)) (k24 : Int32 → Int32 → Int32 → CS → Option (CS)) : Nat → Int32 → Int32 → Int32 → Int32 → CS → Option (CS)
  | 0, _, _, _, _, _ => none
  | n + 1, v1, v2, v3, v4, S => tb_Fs_listRatios_48 N k2 k14 k24 (tl_Fs_listRatios_48 N k2 k14 k24 n) v1 v2 v3 v4 S
def tb_Fs_listRatios_46 (N : Nat) (k2 : Int32 → CS → Option (CS)) (k14 : Int32 → Int32 → CS → Option (CS)) (k24 : Int32 → Int32 → Int32 → CS → Option (CS)) (v1 : Int32) (v2 : Int32) (v3 : Int32) (w0 : Int32) (S : CS) : Option (CS) :=
  tl_Fs_listRatios_48 N k2 k14 k24 N v1 v2 v3 w0 S
def tb_Fs_listRatios_24 (N : Nat) (k2 : Int32 → CS → Option (CS)) (k14 : Int32 → Int32 → CS → Option (CS)) (k24 : Int32 → Int32 → Int32 → CS → Option (CS)) (v1 : Int32) (v2 : Int32) (v3 : Int32) (S : CS) : Option (CS) :=
  (some (cs_pts S)).bind fun x1 => if x1 ≤ v3 then ((some (v2 + 1)).bind fun x2 => k14 v1 x2 S) else (if v3 = v1 then (tb_Fs_listRatios_46 N k2 k14 k24 v1 v2 v3 (v2 + 1) S) else (tb_Fs_listRatios_46 N k2 k14 k24 v1 v2 v3 (v3 + 1) S))
def tl_Fs_listRatios_24 (N : Nat) (k2 : Int32 → CS → Option (CS)) (k14 : Int32 → Int32 → CS → Option (CS)) : Nat → Int32 → Int32 → Int32 → CS → Option (CS)
  | 0, _, _, _, _ => none
  | n + 1, v1, v2, v3, S => tb_Fs_listRatios_24 N k2 k14 (tl_Fs_listRatios_24 N k2 k14 n) v1 v2 v3 S
def tb_Fs_listRatios_14 (N : Nat) (k2 : Int32 → CS → Option (CS)) (k14 : Int32 → Int32 → CS → Option (CS)) (v1 : Int32) (v2 : Int32) (S : CS) : Option (CS) :=
  (some (cs_pts S)).bind fun x1 => if x1 ≤ v2 then ((some (v1 + 1)).bind fun x2 => k2 x2 S) else (tl_Fs_listRatios_24 N k2 k14 N v1 v2 v1 S)
def tl_Fs_listRatios_14 (N : Nat) (k2 : Int32 → CS → Option (CS)) : Nat → Int32 → Int32 → CS → Option (CS)
  | 0, _, _, _ => none
  | n + 1, v1, v2, S => tb_Fs_listRatios_14 N k2 (tl_Fs_listRatios_14 N k2 n) v1 v2 S
def tb_Fs_listRatios_2 (N : Nat) (k2 : Int32 → CS → Option (CS)) (v1 : Int32) (S : CS) : Option (CS) :=
  (some (cs_pts S)).bind fun x1 => if x1 ≤ v1 then (some S) else ((some (v1 + 1)).bind fun x2 => tl_Fs_listRatios_14 N k2 N v1 x2 S)
def tl_Fs_listRatios_2 (N : Nat) : Nat → Int32 → CS → Option (CS)
  | 0, _, _ => none
  | n + 1, v1, S => tb_Fs_listRatios_2 N (tl_Fs_listRatios_2 N n) v1 S
def t_Fs_listRatios (N : Nat)  (S0 : CS) : Option (CS) :=
  tl_Fs_listRatios_2 N N 0 S0
set_option maxHeartbeats 4000000 in
theorem u_Fs_listRatios {K : Nat → ClassId} {N : Nat} {h0 : fh_H} {S0 : CS} {res : CS} {L : Nat → Nat → Nat} {hb : fh_H} (hL : cs_I L) (ht : t_Fs_listRatios N  S0 = some res) (hC : cs_W K L hb h0 S0) : RO (fun z => cs_W K L hb z res) (f_Fs_listRatios K N (L 4 0)  h0) := by
  have L2 : ∀ (n2 : Nat) (v1 : Int32) (S : CS) (h : fh_H), cs_W K L hb h S → tl_Fs_listRatios_2 N n2 v1 S = some res → RO (fun z => cs_W K L hb z res) (l_Fs_listRatios_2 K N (L 4 0) n2 v1 h) := by
    intro n2
    induction n2 with
    | zero =>
      intro v1 S h hC ht
      exact fh_no ht
    | succ n2 ih2 =>
      have L14 : ∀ (n14 : Nat) (v1 : Int32) (v2 : Int32) (S : CS) (h : fh_H), cs_W K L hb h S → tl_Fs_listRatios_14 N (tl_Fs_listRatios_2 N n2) n14 v1 v2 S = some res → RO (fun z => cs_W K L hb z res) (l_Fs_listRatios_14 K N (l_Fs_listRatios_2 K N (L 4 0) n2) (L 4 0) n14 v1 v2 h) := by
        intro n14
        induction n14 with
        | zero =>
          intro v1 v2 S h hC ht
          exact fh_no ht
        | succ n14 ih14 =>
          have L24 : ∀ (n24 : Nat) (v1 : Int32) (v2 : Int32) (v3 : Int32) (S : CS) (h : fh_H), cs_W K L hb h S → tl_Fs_listRatios_24 N (tl_Fs_listRatios_2 N n2) (tl_Fs_listRatios_14 N (tl_Fs_listRatios_2 N n2) n14) n24 v1 v2 v3 S = some res → RO (fun z => cs_W K L hb z res) (l_Fs_listRatios_24 K N (l_Fs_listRatios_2 K N (L 4 0) n2) (l_Fs_listRatios_14 K N (l_Fs_listRatios_2 K N (L 4 0) n2) (L 4 0) n14) (L 4 0) n24 v1 v2 v3 h) := by
            intro n24
            induction n24 with
            | zero =>
              intro v1 v2 v3 S h hC ht
              exact fh_no ht
            | succ n24 ih24 =>
              have L48 : ∀ (n48 : Nat) (v1 : Int32) (v2 : Int32) (v3 : Int32) (v4 : Int32) (S : CS) (h : fh_H), cs_W K L hb h S → tl_Fs_listRatios_48 N (tl_Fs_listRatios_2 N n2) (tl_Fs_listRatios_14 N (tl_Fs_listRatios_2 N n2) n14) (tl_Fs_listRatios_24 N (tl_Fs_listRatios_2 N n2) (tl_Fs_listRatios_14 N (tl_Fs_listRatios_2 N n2) n14) n24) n48 v1 v2 v3 v4 S = some res → RO (fun z => cs_W K L hb z res) (l_Fs_listRatios_48 K N (l_Fs_listRatios_2 K N (L 4 0) n2) (l_Fs_listRatios_14 K N (l_Fs_listRatios_2 K N (L 4 0) n2) (L 4 0) n14) (l_Fs_listRatios_24 K N (l_Fs_listRatios_2 K N (L 4 0) n2) (l_Fs_listRatios_14 K N (l_Fs_listRatios_2 K N (L 4 0) n2) (L 4 0) n14) (L 4 0) n24) (L 4 0) n48 v1 v2 v3 v4 h) := by
                intro n48
                induction n48 with
                | zero =>
                  intro v1 v2 v3 v4 S h hC ht
                  exact fh_no ht
                | succ n48 ih48 =>
                  have B105 : ∀ (v1 : Int32) (v2 : Int32) (v3 : Int32) (v4 : Int32) (S : CS) (h : fh_H), cs_W K L hb h S → tb_Fs_listRatios_105 N (tl_Fs_listRatios_2 N n2) (tl_Fs_listRatios_14 N (tl_Fs_listRatios_2 N n2) n14) (tl_Fs_listRatios_24 N (tl_Fs_listRatios_2 N n2) (tl_Fs_listRatios_14 N (tl_Fs_listRatios_2 N n2) n14) n24) (tl_Fs_listRatios_48 N (tl_Fs_listRatios_2 N n2) (tl_Fs_listRatios_14 N (tl_Fs_listRatios_2 N n2) n14) (tl_Fs_listRatios_24 N (tl_Fs_listRatios_2 N n2) (tl_Fs_listRatios_14 N (tl_Fs_listRatios_2 N n2) n14) n24) n48) v1 v2 v3 v4 S = some res → RO (fun z => cs_W K L hb z res) (b_Fs_listRatios_105 K N (l_Fs_listRatios_2 K N (L 4 0) n2) (l_Fs_listRatios_14 K N (l_Fs_listRatios_2 K N (L 4 0) n2) (L 4 0) n14) (l_Fs_listRatios_24 K N (l_Fs_listRatios_2 K N (L 4 0) n2) (l_Fs_listRatios_14 K N (l_Fs_listRatios_2 K N (L 4 0) n2) (L 4 0) n14) (L 4 0) n24) (l_Fs_listRatios_48 K N (l_Fs_listRatios_2 K N (L 4 0) n2) (l_Fs_listRatios_14 K N (l_Fs_listRatios_2 K N (L 4 0) n2) (L 4 0) n14) (l_Fs_listRatios_24 K N (l_Fs_listRatios_2 K N (L 4 0) n2) (l_Fs_listRatios_14 K N (l_Fs_listRatios_2 K N (L 4 0) n2) (L 4 0) n14) (L 4 0) n24) (L 4 0) n48) (L 4 0) v1 v2 v3 v4 h) := by
                    intro v1 v2 v3 v4 S h hC ht
                    unfold tb_Fs_listRatios_105 at ht
                    unfold b_Fs_listRatios_105
                    obtain ⟨x1, e_x1, ht⟩ := fh_b ht
                    refine ro_b e_x1 ?_
                    exact ih48 v1 v2 v3 x1 S _ hC ht
                  intro v1 v2 v3 v4 S h hC ht
                  have ht : tb_Fs_listRatios_48 N (tl_Fs_listRatios_2 N n2) (tl_Fs_listRatios_14 N (tl_Fs_listRatios_2 N n2) n14) (tl_Fs_listRatios_24 N (tl_Fs_listRatios_2 N n2) (tl_Fs_listRatios_14 N (tl_Fs_listRatios_2 N n2) n14) n24) (tl_Fs_listRatios_48 N (tl_Fs_listRatios_2 N n2) (tl_Fs_listRatios_14 N (tl_Fs_listRatios_2 N n2) n14) (tl_Fs_listRatios_24 N (tl_Fs_listRatios_2 N n2) (tl_Fs_listRatios_14 N (tl_Fs_listRatios_2 N n2) n14) n24) n48) v1 v2 v3 v4 S = some res := ht
                  show RO _ (b_Fs_listRatios_48 K N (l_Fs_listRatios_2 K N (L 4 0) n2) (l_Fs_listRatios_14 K N (l_Fs_listRatios_2 K N (L 4 0) n2) (L 4 0) n14) (l_Fs_listRatios_24 K N (l_Fs_listRatios_2 K N (L 4 0) n2) (l_Fs_listRatios_14 K N (l_Fs_listRatios_2 K N (L 4 0) n2) (L 4 0) n14) (L 4 0) n24) (l_Fs_listRatios_48 K N (l_Fs_listRatios_2 K N (L 4 0) n2) (l_Fs_listRatios_14 K N (l_Fs_listRatios_2 K N (L 4 0) n2) (L 4 0) n14) (l_Fs_listRatios_24 K N (l_Fs_listRatios_2 K N (L 4 0) n2) (l_Fs_listRatios_14 K N (l_Fs_listRatios_2 K N (L 4 0) n2) (L 4 0) n14) (L 4 0) n24) (L 4 0) n48) (L 4 0) v1 v2 v3 v4 h)
                  unfold tb_Fs_listRatios_48 at ht
                  unfold b_Fs_listRatios_48
                  obtain ⟨x1, e_x1, ht⟩ := fh_b ht
                  refine ro_b ((oi_i (hC.1 4 0 (by decide)) rfl).trans e_x1) ?_
                  by_cases c3 : x1 ≤ v4
                  · replace ht := fh_t c3 ht
                    refine ro_t c3 ?_
                    obtain ⟨x2, e_x2, ht⟩ := fh_b ht
                    refine ro_b e_x2 ?_
                    exact ih24 v1 v2 x2 S _ hC ht
                  · replace ht := fh_f c3 ht
                    refine ro_f c3 ?_
                    refine ro_b (oi_a (hC.1 4 0 (by decide)) rfl) ?_
                    obtain ⟨r4, e_r4, ht⟩ := fh_b ht
                    refine ro_c (u_FF_pack e_r4) (fun z hz => ?_)
                    subst hz
                    obtain ⟨r5, e_r5, ht⟩ := fh_b ht
                    refine ro_c (u_FF_join e_r5) (fun z hz => ?_)
                    subst hz
                    refine ro_b (oi_o (hC.1 5 0 (by decide))) ?_
                    obtain ⟨r7, e_r7, ht⟩ := fh_b ht
                    refine ro_c (u_Dr_giveNumbers hL e_r7 hC (by decide)) (fun z hz => ?_)
                    obtain ⟨z1, h⟩ := z
                    obtain ⟨ez, hC⟩ := hz
                    dsimp only at ez hC
                    subst ez
                    by_cases c2 : r7.1 = 0
                    · replace ht := fh_t c2 ht
                      refine ro_t c2 ?_
                      exact B105 v1 v2 v3 v4 r7.2 _ hC ht
                    · replace ht := fh_f c2 ht
                      refine ro_f c2 ?_
                      refine ro_b (oi_o (hC.1 4 0 (by decide))) ?_
                      obtain ⟨r9, e_r9, ht⟩ := fh_b ht
                      refine ro_c (u_Fs_isApart hL e_r9 hC) (fun z hz => ?_)
                      subst hz
                      by_cases c1 : r9 = 0
                      · replace ht := fh_t c1 ht
                        refine ro_t c1 ?_
                        exact B105 v1 v2 v3 v4 r7.2 _ hC ht
                      · replace ht := fh_f c1 ht
                        refine ro_f c1 ?_
                        refine ro_b (oi_a (hC.1 4 0 (by decide)) rfl) ?_
                        obtain ⟨x11, e_x11, ht⟩ := fh_b ht
                        have hb_x11 : x11 < 12 := by obtain ⟨k, hk, q⟩ := ta_lt e_x11; have := hk; omega
                        refine ro_b ((ai_a (hC.1 12 0 (by decide))).trans (ai_m (g := fun z => some (L 10 z)) e_x11)) ?_
                        refine ro_b (oi_o (hC.1 10 x11 hb_x11)) ?_
                        obtain ⟨r13, e_r13, ht⟩ := fh_b ht
                        refine ro_c (u_IL_add hL e_r13 hC hb_x11) (fun h hC => ?_)
                        exact B105 v1 v2 v3 v4 r13 _ hC ht
              have B46 : ∀ (v1 : Int32) (v2 : Int32) (v3 : Int32) (w0 : Int32) (S : CS) (h : fh_H), cs_W K L hb h S → tb_Fs_listRatios_46 N (tl_Fs_listRatios_2 N n2) (tl_Fs_listRatios_14 N (tl_Fs_listRatios_2 N n2) n14) (tl_Fs_listRatios_24 N (tl_Fs_listRatios_2 N n2) (tl_Fs_listRatios_14 N (tl_Fs_listRatios_2 N n2) n14) n24) v1 v2 v3 w0 S = some res → RO (fun z => cs_W K L hb z res) (b_Fs_listRatios_46 K N (l_Fs_listRatios_2 K N (L 4 0) n2) (l_Fs_listRatios_14 K N (l_Fs_listRatios_2 K N (L 4 0) n2) (L 4 0) n14) (l_Fs_listRatios_24 K N (l_Fs_listRatios_2 K N (L 4 0) n2) (l_Fs_listRatios_14 K N (l_Fs_listRatios_2 K N (L 4 0) n2) (L 4 0) n14) (L 4 0) n24) (L 4 0) v1 v2 v3 w0 h) := by
                intro v1 v2 v3 w0 S h hC ht
                unfold tb_Fs_listRatios_46 at ht
                unfold b_Fs_listRatios_46
                exact L48 N v1 v2 v3 w0 S _ hC ht
              intro v1 v2 v3 S h hC ht
              have ht : tb_Fs_listRatios_24 N (tl_Fs_listRatios_2 N n2) (tl_Fs_listRatios_14 N (tl_Fs_listRatios_2 N n2) n14) (tl_Fs_listRatios_24 N (tl_Fs_listRatios_2 N n2) (tl_Fs_listRatios_14 N (tl_Fs_listRatios_2 N n2) n14) n24) v1 v2 v3 S = some res := ht
              show RO _ (b_Fs_listRatios_24 K N (l_Fs_listRatios_2 K N (L 4 0) n2) (l_Fs_listRatios_14 K N (l_Fs_listRatios_2 K N (L 4 0) n2) (L 4 0) n14) (l_Fs_listRatios_24 K N (l_Fs_listRatios_2 K N (L 4 0) n2) (l_Fs_listRatios_14 K N (l_Fs_listRatios_2 K N (L 4 0) n2) (L 4 0) n14) (L 4 0) n24) (L 4 0) v1 v2 v3 h)
              unfold tb_Fs_listRatios_24 at ht
              unfold b_Fs_listRatios_24
              obtain ⟨x1, e_x1, ht⟩ := fh_b ht
              refine ro_b ((oi_i (hC.1 4 0 (by decide)) rfl).trans e_x1) ?_
              by_cases c2 : x1 ≤ v3
              · replace ht := fh_t c2 ht
                refine ro_t c2 ?_
                obtain ⟨x2, e_x2, ht⟩ := fh_b ht
                refine ro_b e_x2 ?_
                exact ih14 v1 x2 S _ hC ht
              · replace ht := fh_f c2 ht
                refine ro_f c2 ?_
                by_cases c1 : v3 = v1
                · replace ht := fh_t c1 ht
                  refine ro_t c1 ?_
                  exact B46 v1 v2 v3 (v2 + 1) S _ hC ht
                · replace ht := fh_f c1 ht
                  refine ro_f c1 ?_
                  exact B46 v1 v2 v3 (v3 + 1) S _ hC ht
          intro v1 v2 S h hC ht
          have ht : tb_Fs_listRatios_14 N (tl_Fs_listRatios_2 N n2) (tl_Fs_listRatios_14 N (tl_Fs_listRatios_2 N n2) n14) v1 v2 S = some res := ht
          show RO _ (b_Fs_listRatios_14 K N (l_Fs_listRatios_2 K N (L 4 0) n2) (l_Fs_listRatios_14 K N (l_Fs_listRatios_2 K N (L 4 0) n2) (L 4 0) n14) (L 4 0) v1 v2 h)
          unfold tb_Fs_listRatios_14 at ht
          unfold b_Fs_listRatios_14
          obtain ⟨x1, e_x1, ht⟩ := fh_b ht
          refine ro_b ((oi_i (hC.1 4 0 (by decide)) rfl).trans e_x1) ?_
          by_cases c1 : x1 ≤ v2
          · replace ht := fh_t c1 ht
            refine ro_t c1 ?_
            obtain ⟨x2, e_x2, ht⟩ := fh_b ht
            refine ro_b e_x2 ?_
            exact ih2 x2 S _ hC ht
          · replace ht := fh_f c1 ht
            refine ro_f c1 ?_
            exact L24 N v1 v2 v1 S _ hC ht
      intro v1 S h hC ht
      have ht : tb_Fs_listRatios_2 N (tl_Fs_listRatios_2 N n2) v1 S = some res := ht
      show RO _ (b_Fs_listRatios_2 K N (l_Fs_listRatios_2 K N (L 4 0) n2) (L 4 0) v1 h)
      unfold tb_Fs_listRatios_2 at ht
      unfold b_Fs_listRatios_2
      obtain ⟨x1, e_x1, ht⟩ := fh_b ht
      refine ro_b ((oi_i (hC.1 4 0 (by decide)) rfl).trans e_x1) ?_
      by_cases c1 : x1 ≤ v1
      · replace ht := fh_t c1 ht
        refine ro_t c1 ?_
        obtain rfl := Option.some.inj ht
        exact ro_s hC
      · replace ht := fh_f c1 ht
        refine ro_f c1 ?_
        obtain ⟨x2, e_x2, ht⟩ := fh_b ht
        refine ro_b e_x2 ?_
        exact L14 N v1 x2 S _ hC ht
  unfold t_Fs_listRatios at ht
  unfold f_Fs_listRatios
  exact L2 N 0 S0 _ hC ht
def tb_Fs_listTwoPairs_95 (N : Nat) (k2 : Int32 → Int32 → CS → Option (CS)) (k14 : Int32 → Int32 → Int32 → CS → Option (CS)) (k25 : Int32 → Int32 → Int32 → Int32 → CS → Option (CS)) (k52 : Int32 → Int32 → Int32 → Int32 → Int32 → CS → Option (CS)) (v1 : Int32) (v2 : Int32) (v3 : Int32) (v4 : Int32) (v5 : Int32) (S : CS) : Option (CS) :=
  (some (v5 + 1)).bind fun x1 => k52 v1 v2 v3 v4 x1 S
def tb_Fs_listTwoPairs_78 (N : Nat) (k2 : Int32 → Int32 → CS → Option (CS)) (k14 : Int32 → Int32 → Int32 → CS → Option (CS)) (k25 : Int32 → Int32 → Int32 → Int32 → CS → Option (CS)) (k52 : Int32 → Int32 → Int32 → Int32 → Int32 → CS → Option (CS)) (v1 : Int32) (v2 : Int32) (v3 : Int32) (v4 : Int32) (v5 : Int32) (S : CS) : Option (CS) :=
  (t_FF_pack N v2 v3 v4).bind fun r1 => (t_FF_join N r1 v5).bind fun r2 => (t_Fs_consider N v1 r2 S).bind fun r4 => tb_Fs_listTwoPairs_95 N k2 k14 k25 k52 v1 v2 v3 v4 v5 r4
def tb_Fs_listTwoPairs_52 (N : Nat) (k2 : Int32 → Int32 → CS → Option (CS)) (k14 : Int32 → Int32 → Int32 → CS → Option (CS)) (k25 : Int32 → Int32 → Int32 → Int32 → CS → Option (CS)) (k52 : Int32 → Int32 → Int32 → Int32 → Int32 → CS → Option (CS)) (v1 : Int32) (v2 : Int32) (v3 : Int32) (v4 : Int32) (v5 : Int32) (S : CS) : Option (CS) :=
  (some (cs_pts S)).bind fun x1 => if x1 ≤ v5 then ((some (v4 + 1)).bind fun x2 => k25 v1 v2 v3 x2 S) else (if v1 = 2 then ((t_FF_areApartPairs N v2 v3 v4 v5).bind fun r3 => if r3 = 0 then (tb_Fs_listTwoPairs_95 N k2 k14 k25 k52 v1 v2 v3 v4 v5 S) else (tb_Fs_listTwoPairs_78 N k2 k14 k25 k52 v1 v2 v3 v4 v5 S)) else (tb_Fs_listTwoPairs_78 N k2 k14 k25 k52 v1 v2 v3 v4 v5 S))
def tl_Fs_listTwoPairs_52 (N : Nat) (k2 : Int32 → Int32 → CS → Option (CS)) (k14 : Int32 → Int32 → Int32 → CS → Option (CS)) (k25 : Int32 → Int32 → Int32 → Int32 → CS → Option (CS)) : Nat → Int32 → Int32 → Int32 → Int32 → Int32 → CS → Option (CS)
  | 0, _, _, _, _, _, _ => none
  | n + 1, v1, v2, v3, v4, v5, S => tb_Fs_listTwoPairs_52 N k2 k14 k25 (tl_Fs_listTwoPairs_52 N k2 k14 k25 n) v1 v2 v3 v4 v5 S
def tb_Fs_listTwoPairs_50 (N : Nat) (k2 : Int32 → Int32 → CS → Option (CS)) (k14 : Int32 → Int32 → Int32 → CS → Option (CS)) (k25 : Int32 → Int32 → Int32 → Int32 → CS → Option (CS)) (v1 : Int32) (v2 : Int32) (v3 : Int32) (v4 : Int32) (w0 : Int32) (S : CS) : Option (CS) :=
  tl_Fs_listTwoPairs_52 N k2 k14 k25 N v1 v2 v3 v4 w0 S
def tb_Fs_listTwoPairs_25 (N : Nat) (k2 : Int32 → Int32 → CS → Option (CS)) (k14 : Int32 → Int32 → Int32 → CS → Option (CS)) (k25 : Int32 → Int32 → Int32 → Int32 → CS → Option (CS)) (v1 : Int32) (v2 : Int32) (v3 : Int32) (v4 : Int32) (S : CS) : Option (CS) :=
  (some (cs_pts S)).bind fun x1 => if x1 ≤ v4 then ((some (v3 + 1)).bind fun x2 => k14 v1 v2 x2 S) else (if v4 = v2 then (tb_Fs_listTwoPairs_50 N k2 k14 k25 v1 v2 v3 v4 (v3 + 1) S) else (tb_Fs_listTwoPairs_50 N k2 k14 k25 v1 v2 v3 v4 (v4 + 1) S))
def tl_Fs_listTwoPairs_25 (N : Nat) (k2 : Int32 → Int32 → CS → Option (CS)) (k14 : Int32 → Int32 → Int32 → CS → Option (CS)) : Nat → Int32 → Int32 → Int32 → Int32 → CS → Option (CS)
  | 0, _, _, _, _, _ => none
  | n + 1, v1, v2, v3, v4, S => tb_Fs_listTwoPairs_25 N k2 k14 (tl_Fs_listTwoPairs_25 N k2 k14 n) v1 v2 v3 v4 S
def tb_Fs_listTwoPairs_14 (N : Nat) (k2 : Int32 → Int32 → CS → Option (CS)) (k14 : Int32 → Int32 → Int32 → CS → Option (CS)) (v1 : Int32) (v2 : Int32) (v3 : Int32) (S : CS) : Option (CS) :=
  (some (cs_pts S)).bind fun x1 => if x1 ≤ v3 then ((some (v2 + 1)).bind fun x2 => k2 v1 x2 S) else (tl_Fs_listTwoPairs_25 N k2 k14 N v1 v2 v3 v2 S)
def tl_Fs_listTwoPairs_14 (N : Nat) (k2 : Int32 → Int32 → CS → Option (CS)) : Nat → Int32 → Int32 → Int32 → CS → Option (CS)
  | 0, _, _, _, _ => none
  | n + 1, v1, v2, v3, S => tb_Fs_listTwoPairs_14 N k2 (tl_Fs_listTwoPairs_14 N k2 n) v1 v2 v3 S
def tb_Fs_listTwoPairs_2 (N : Nat) (k2 : Int32 → Int32 → CS → Option (CS)) (v1 : Int32) (v2 : Int32) (S : CS) : Option (CS) :=
  (some (cs_pts S)).bind fun x1 => if x1 ≤ v2 then (some S) else ((some (v2 + 1)).bind fun x2 => tl_Fs_listTwoPairs_14 N k2 N v1 v2 x2 S)
def tl_Fs_listTwoPairs_2 (N : Nat) : Nat → Int32 → Int32 → CS → Option (CS)
  | 0, _, _, _ => none
  | n + 1, v1, v2, S => tb_Fs_listTwoPairs_2 N (tl_Fs_listTwoPairs_2 N n) v1 v2 S
def t_Fs_listTwoPairs (N : Nat) (a1 : Int32) (S0 : CS) : Option (CS) :=
  tl_Fs_listTwoPairs_2 N N a1 0 S0
set_option maxHeartbeats 4000000 in
theorem u_Fs_listTwoPairs {K : Nat → ClassId} {N : Nat} {a1 : Int32} {h0 : fh_H} {S0 : CS} {res : CS} {L : Nat → Nat → Nat} {hb : fh_H} (hL : cs_I L) (ht : t_Fs_listTwoPairs N a1 S0 = some res) (hC : cs_W K L hb h0 S0) : RO (fun z => cs_W K L hb z res) (f_Fs_listTwoPairs K N (L 4 0) a1 h0) := by
  have L2 : ∀ (n2 : Nat) (v1 : Int32) (v2 : Int32) (S : CS) (h : fh_H), cs_W K L hb h S → tl_Fs_listTwoPairs_2 N n2 v1 v2 S = some res → RO (fun z => cs_W K L hb z res) (l_Fs_listTwoPairs_2 K N (L 4 0) n2 v1 v2 h) := by
    intro n2
    induction n2 with
    | zero =>
      intro v1 v2 S h hC ht
      exact fh_no ht
    | succ n2 ih2 =>
      have L14 : ∀ (n14 : Nat) (v1 : Int32) (v2 : Int32) (v3 : Int32) (S : CS) (h : fh_H), cs_W K L hb h S → tl_Fs_listTwoPairs_14 N (tl_Fs_listTwoPairs_2 N n2) n14 v1 v2 v3 S = some res → RO (fun z => cs_W K L hb z res) (l_Fs_listTwoPairs_14 K N (l_Fs_listTwoPairs_2 K N (L 4 0) n2) (L 4 0) n14 v1 v2 v3 h) := by
        intro n14
        induction n14 with
        | zero =>
          intro v1 v2 v3 S h hC ht
          exact fh_no ht
        | succ n14 ih14 =>
          have L25 : ∀ (n25 : Nat) (v1 : Int32) (v2 : Int32) (v3 : Int32) (v4 : Int32) (S : CS) (h : fh_H), cs_W K L hb h S → tl_Fs_listTwoPairs_25 N (tl_Fs_listTwoPairs_2 N n2) (tl_Fs_listTwoPairs_14 N (tl_Fs_listTwoPairs_2 N n2) n14) n25 v1 v2 v3 v4 S = some res → RO (fun z => cs_W K L hb z res) (l_Fs_listTwoPairs_25 K N (l_Fs_listTwoPairs_2 K N (L 4 0) n2) (l_Fs_listTwoPairs_14 K N (l_Fs_listTwoPairs_2 K N (L 4 0) n2) (L 4 0) n14) (L 4 0) n25 v1 v2 v3 v4 h) := by
            intro n25
            induction n25 with
            | zero =>
              intro v1 v2 v3 v4 S h hC ht
              exact fh_no ht
            | succ n25 ih25 =>
              have L52 : ∀ (n52 : Nat) (v1 : Int32) (v2 : Int32) (v3 : Int32) (v4 : Int32) (v5 : Int32) (S : CS) (h : fh_H), cs_W K L hb h S → tl_Fs_listTwoPairs_52 N (tl_Fs_listTwoPairs_2 N n2) (tl_Fs_listTwoPairs_14 N (tl_Fs_listTwoPairs_2 N n2) n14) (tl_Fs_listTwoPairs_25 N (tl_Fs_listTwoPairs_2 N n2) (tl_Fs_listTwoPairs_14 N (tl_Fs_listTwoPairs_2 N n2) n14) n25) n52 v1 v2 v3 v4 v5 S = some res → RO (fun z => cs_W K L hb z res) (l_Fs_listTwoPairs_52 K N (l_Fs_listTwoPairs_2 K N (L 4 0) n2) (l_Fs_listTwoPairs_14 K N (l_Fs_listTwoPairs_2 K N (L 4 0) n2) (L 4 0) n14) (l_Fs_listTwoPairs_25 K N (l_Fs_listTwoPairs_2 K N (L 4 0) n2) (l_Fs_listTwoPairs_14 K N (l_Fs_listTwoPairs_2 K N (L 4 0) n2) (L 4 0) n14) (L 4 0) n25) (L 4 0) n52 v1 v2 v3 v4 v5 h) := by
                intro n52
                induction n52 with
                | zero =>
                  intro v1 v2 v3 v4 v5 S h hC ht
                  exact fh_no ht
                | succ n52 ih52 =>
                  have B95 : ∀ (v1 : Int32) (v2 : Int32) (v3 : Int32) (v4 : Int32) (v5 : Int32) (S : CS) (h : fh_H), cs_W K L hb h S → tb_Fs_listTwoPairs_95 N (tl_Fs_listTwoPairs_2 N n2) (tl_Fs_listTwoPairs_14 N (tl_Fs_listTwoPairs_2 N n2) n14) (tl_Fs_listTwoPairs_25 N (tl_Fs_listTwoPairs_2 N n2) (tl_Fs_listTwoPairs_14 N (tl_Fs_listTwoPairs_2 N n2) n14) n25) (tl_Fs_listTwoPairs_52 N (tl_Fs_listTwoPairs_2 N n2) (tl_Fs_listTwoPairs_14 N (tl_Fs_listTwoPairs_2 N n2) n14) (tl_Fs_listTwoPairs_25 N (tl_Fs_listTwoPairs_2 N n2) (tl_Fs_listTwoPairs_14 N (tl_Fs_listTwoPairs_2 N n2) n14) n25) n52) v1 v2 v3 v4 v5 S = some res → RO (fun z => cs_W K L hb z res) (b_Fs_listTwoPairs_95 K N (l_Fs_listTwoPairs_2 K N (L 4 0) n2) (l_Fs_listTwoPairs_14 K N (l_Fs_listTwoPairs_2 K N (L 4 0) n2) (L 4 0) n14) (l_Fs_listTwoPairs_25 K N (l_Fs_listTwoPairs_2 K N (L 4 0) n2) (l_Fs_listTwoPairs_14 K N (l_Fs_listTwoPairs_2 K N (L 4 0) n2) (L 4 0) n14) (L 4 0) n25) (l_Fs_listTwoPairs_52 K N (l_Fs_listTwoPairs_2 K N (L 4 0) n2) (l_Fs_listTwoPairs_14 K N (l_Fs_listTwoPairs_2 K N (L 4 0) n2) (L 4 0) n14) (l_Fs_listTwoPairs_25 K N (l_Fs_listTwoPairs_2 K N (L 4 0) n2) (l_Fs_listTwoPairs_14 K N (l_Fs_listTwoPairs_2 K N (L 4 0) n2) (L 4 0) n14) (L 4 0) n25) (L 4 0) n52) (L 4 0) v1 v2 v3 v4 v5 h) := by
                    intro v1 v2 v3 v4 v5 S h hC ht
                    unfold tb_Fs_listTwoPairs_95 at ht
                    unfold b_Fs_listTwoPairs_95
                    obtain ⟨x1, e_x1, ht⟩ := fh_b ht
                    refine ro_b e_x1 ?_
                    exact ih52 v1 v2 v3 v4 x1 S _ hC ht
                  have B78 : ∀ (v1 : Int32) (v2 : Int32) (v3 : Int32) (v4 : Int32) (v5 : Int32) (S : CS) (h : fh_H), cs_W K L hb h S → tb_Fs_listTwoPairs_78 N (tl_Fs_listTwoPairs_2 N n2) (tl_Fs_listTwoPairs_14 N (tl_Fs_listTwoPairs_2 N n2) n14) (tl_Fs_listTwoPairs_25 N (tl_Fs_listTwoPairs_2 N n2) (tl_Fs_listTwoPairs_14 N (tl_Fs_listTwoPairs_2 N n2) n14) n25) (tl_Fs_listTwoPairs_52 N (tl_Fs_listTwoPairs_2 N n2) (tl_Fs_listTwoPairs_14 N (tl_Fs_listTwoPairs_2 N n2) n14) (tl_Fs_listTwoPairs_25 N (tl_Fs_listTwoPairs_2 N n2) (tl_Fs_listTwoPairs_14 N (tl_Fs_listTwoPairs_2 N n2) n14) n25) n52) v1 v2 v3 v4 v5 S = some res → RO (fun z => cs_W K L hb z res) (b_Fs_listTwoPairs_78 K N (l_Fs_listTwoPairs_2 K N (L 4 0) n2) (l_Fs_listTwoPairs_14 K N (l_Fs_listTwoPairs_2 K N (L 4 0) n2) (L 4 0) n14) (l_Fs_listTwoPairs_25 K N (l_Fs_listTwoPairs_2 K N (L 4 0) n2) (l_Fs_listTwoPairs_14 K N (l_Fs_listTwoPairs_2 K N (L 4 0) n2) (L 4 0) n14) (L 4 0) n25) (l_Fs_listTwoPairs_52 K N (l_Fs_listTwoPairs_2 K N (L 4 0) n2) (l_Fs_listTwoPairs_14 K N (l_Fs_listTwoPairs_2 K N (L 4 0) n2) (L 4 0) n14) (l_Fs_listTwoPairs_25 K N (l_Fs_listTwoPairs_2 K N (L 4 0) n2) (l_Fs_listTwoPairs_14 K N (l_Fs_listTwoPairs_2 K N (L 4 0) n2) (L 4 0) n14) (L 4 0) n25) (L 4 0) n52) (L 4 0) v1 v2 v3 v4 v5 h) := by
                    intro v1 v2 v3 v4 v5 S h hC ht
                    unfold tb_Fs_listTwoPairs_78 at ht
                    unfold b_Fs_listTwoPairs_78
                    obtain ⟨r1, e_r1, ht⟩ := fh_b ht
                    refine ro_c (u_FF_pack e_r1) (fun z hz => ?_)
                    subst hz
                    obtain ⟨r2, e_r2, ht⟩ := fh_b ht
                    refine ro_c (u_FF_join e_r2) (fun z hz => ?_)
                    subst hz
                    refine ro_b (oi_o (hC.1 4 0 (by decide))) ?_
                    obtain ⟨r4, e_r4, ht⟩ := fh_b ht
                    refine ro_c (u_Fs_consider hL e_r4 hC) (fun h hC => ?_)
                    exact B95 v1 v2 v3 v4 v5 r4 _ hC ht
                  intro v1 v2 v3 v4 v5 S h hC ht
                  have ht : tb_Fs_listTwoPairs_52 N (tl_Fs_listTwoPairs_2 N n2) (tl_Fs_listTwoPairs_14 N (tl_Fs_listTwoPairs_2 N n2) n14) (tl_Fs_listTwoPairs_25 N (tl_Fs_listTwoPairs_2 N n2) (tl_Fs_listTwoPairs_14 N (tl_Fs_listTwoPairs_2 N n2) n14) n25) (tl_Fs_listTwoPairs_52 N (tl_Fs_listTwoPairs_2 N n2) (tl_Fs_listTwoPairs_14 N (tl_Fs_listTwoPairs_2 N n2) n14) (tl_Fs_listTwoPairs_25 N (tl_Fs_listTwoPairs_2 N n2) (tl_Fs_listTwoPairs_14 N (tl_Fs_listTwoPairs_2 N n2) n14) n25) n52) v1 v2 v3 v4 v5 S = some res := ht
                  show RO _ (b_Fs_listTwoPairs_52 K N (l_Fs_listTwoPairs_2 K N (L 4 0) n2) (l_Fs_listTwoPairs_14 K N (l_Fs_listTwoPairs_2 K N (L 4 0) n2) (L 4 0) n14) (l_Fs_listTwoPairs_25 K N (l_Fs_listTwoPairs_2 K N (L 4 0) n2) (l_Fs_listTwoPairs_14 K N (l_Fs_listTwoPairs_2 K N (L 4 0) n2) (L 4 0) n14) (L 4 0) n25) (l_Fs_listTwoPairs_52 K N (l_Fs_listTwoPairs_2 K N (L 4 0) n2) (l_Fs_listTwoPairs_14 K N (l_Fs_listTwoPairs_2 K N (L 4 0) n2) (L 4 0) n14) (l_Fs_listTwoPairs_25 K N (l_Fs_listTwoPairs_2 K N (L 4 0) n2) (l_Fs_listTwoPairs_14 K N (l_Fs_listTwoPairs_2 K N (L 4 0) n2) (L 4 0) n14) (L 4 0) n25) (L 4 0) n52) (L 4 0) v1 v2 v3 v4 v5 h)
                  unfold tb_Fs_listTwoPairs_52 at ht
                  unfold b_Fs_listTwoPairs_52
                  obtain ⟨x1, e_x1, ht⟩ := fh_b ht
                  refine ro_b ((oi_i (hC.1 4 0 (by decide)) rfl).trans e_x1) ?_
                  by_cases c3 : x1 ≤ v5
                  · replace ht := fh_t c3 ht
                    refine ro_t c3 ?_
                    obtain ⟨x2, e_x2, ht⟩ := fh_b ht
                    refine ro_b e_x2 ?_
                    exact ih25 v1 v2 v3 x2 S _ hC ht
                  · replace ht := fh_f c3 ht
                    refine ro_f c3 ?_
                    by_cases c2 : v1 = 2
                    · replace ht := fh_t c2 ht
                      refine ro_t c2 ?_
                      obtain ⟨r3, e_r3, ht⟩ := fh_b ht
                      refine ro_c (u_FF_areApartPairs e_r3) (fun z hz => ?_)
                      subst hz
                      by_cases c1 : r3 = 0
                      · replace ht := fh_t c1 ht
                        refine ro_t c1 ?_
                        exact B95 v1 v2 v3 v4 v5 S _ hC ht
                      · replace ht := fh_f c1 ht
                        refine ro_f c1 ?_
                        exact B78 v1 v2 v3 v4 v5 S _ hC ht
                    · replace ht := fh_f c2 ht
                      refine ro_f c2 ?_
                      exact B78 v1 v2 v3 v4 v5 S _ hC ht
              have B50 : ∀ (v1 : Int32) (v2 : Int32) (v3 : Int32) (v4 : Int32) (w0 : Int32) (S : CS) (h : fh_H), cs_W K L hb h S → tb_Fs_listTwoPairs_50 N (tl_Fs_listTwoPairs_2 N n2) (tl_Fs_listTwoPairs_14 N (tl_Fs_listTwoPairs_2 N n2) n14) (tl_Fs_listTwoPairs_25 N (tl_Fs_listTwoPairs_2 N n2) (tl_Fs_listTwoPairs_14 N (tl_Fs_listTwoPairs_2 N n2) n14) n25) v1 v2 v3 v4 w0 S = some res → RO (fun z => cs_W K L hb z res) (b_Fs_listTwoPairs_50 K N (l_Fs_listTwoPairs_2 K N (L 4 0) n2) (l_Fs_listTwoPairs_14 K N (l_Fs_listTwoPairs_2 K N (L 4 0) n2) (L 4 0) n14) (l_Fs_listTwoPairs_25 K N (l_Fs_listTwoPairs_2 K N (L 4 0) n2) (l_Fs_listTwoPairs_14 K N (l_Fs_listTwoPairs_2 K N (L 4 0) n2) (L 4 0) n14) (L 4 0) n25) (L 4 0) v1 v2 v3 v4 w0 h) := by
                intro v1 v2 v3 v4 w0 S h hC ht
                unfold tb_Fs_listTwoPairs_50 at ht
                unfold b_Fs_listTwoPairs_50
                exact L52 N v1 v2 v3 v4 w0 S _ hC ht
              intro v1 v2 v3 v4 S h hC ht
              have ht : tb_Fs_listTwoPairs_25 N (tl_Fs_listTwoPairs_2 N n2) (tl_Fs_listTwoPairs_14 N (tl_Fs_listTwoPairs_2 N n2) n14) (tl_Fs_listTwoPairs_25 N (tl_Fs_listTwoPairs_2 N n2) (tl_Fs_listTwoPairs_14 N (tl_Fs_listTwoPairs_2 N n2) n14) n25) v1 v2 v3 v4 S = some res := ht
              show RO _ (b_Fs_listTwoPairs_25 K N (l_Fs_listTwoPairs_2 K N (L 4 0) n2) (l_Fs_listTwoPairs_14 K N (l_Fs_listTwoPairs_2 K N (L 4 0) n2) (L 4 0) n14) (l_Fs_listTwoPairs_25 K N (l_Fs_listTwoPairs_2 K N (L 4 0) n2) (l_Fs_listTwoPairs_14 K N (l_Fs_listTwoPairs_2 K N (L 4 0) n2) (L 4 0) n14) (L 4 0) n25) (L 4 0) v1 v2 v3 v4 h)
              unfold tb_Fs_listTwoPairs_25 at ht
              unfold b_Fs_listTwoPairs_25
              obtain ⟨x1, e_x1, ht⟩ := fh_b ht
              refine ro_b ((oi_i (hC.1 4 0 (by decide)) rfl).trans e_x1) ?_
              by_cases c2 : x1 ≤ v4
              · replace ht := fh_t c2 ht
                refine ro_t c2 ?_
                obtain ⟨x2, e_x2, ht⟩ := fh_b ht
                refine ro_b e_x2 ?_
                exact ih14 v1 v2 x2 S _ hC ht
              · replace ht := fh_f c2 ht
                refine ro_f c2 ?_
                by_cases c1 : v4 = v2
                · replace ht := fh_t c1 ht
                  refine ro_t c1 ?_
                  exact B50 v1 v2 v3 v4 (v3 + 1) S _ hC ht
                · replace ht := fh_f c1 ht
                  refine ro_f c1 ?_
                  exact B50 v1 v2 v3 v4 (v4 + 1) S _ hC ht
          intro v1 v2 v3 S h hC ht
          have ht : tb_Fs_listTwoPairs_14 N (tl_Fs_listTwoPairs_2 N n2) (tl_Fs_listTwoPairs_14 N (tl_Fs_listTwoPairs_2 N n2) n14) v1 v2 v3 S = some res := ht
          show RO _ (b_Fs_listTwoPairs_14 K N (l_Fs_listTwoPairs_2 K N (L 4 0) n2) (l_Fs_listTwoPairs_14 K N (l_Fs_listTwoPairs_2 K N (L 4 0) n2) (L 4 0) n14) (L 4 0) v1 v2 v3 h)
          unfold tb_Fs_listTwoPairs_14 at ht
          unfold b_Fs_listTwoPairs_14
          obtain ⟨x1, e_x1, ht⟩ := fh_b ht
          refine ro_b ((oi_i (hC.1 4 0 (by decide)) rfl).trans e_x1) ?_
          by_cases c1 : x1 ≤ v3
          · replace ht := fh_t c1 ht
            refine ro_t c1 ?_
            obtain ⟨x2, e_x2, ht⟩ := fh_b ht
            refine ro_b e_x2 ?_
            exact ih2 v1 x2 S _ hC ht
          · replace ht := fh_f c1 ht
            refine ro_f c1 ?_
            exact L25 N v1 v2 v3 v2 S _ hC ht
      intro v1 v2 S h hC ht
      have ht : tb_Fs_listTwoPairs_2 N (tl_Fs_listTwoPairs_2 N n2) v1 v2 S = some res := ht
      show RO _ (b_Fs_listTwoPairs_2 K N (l_Fs_listTwoPairs_2 K N (L 4 0) n2) (L 4 0) v1 v2 h)
      unfold tb_Fs_listTwoPairs_2 at ht
      unfold b_Fs_listTwoPairs_2
      obtain ⟨x1, e_x1, ht⟩ := fh_b ht
      refine ro_b ((oi_i (hC.1 4 0 (by decide)) rfl).trans e_x1) ?_
      by_cases c1 : x1 ≤ v2
      · replace ht := fh_t c1 ht
        refine ro_t c1 ?_
        obtain rfl := Option.some.inj ht
        exact ro_s hC
      · replace ht := fh_f c1 ht
        refine ro_f c1 ?_
        obtain ⟨x2, e_x2, ht⟩ := fh_b ht
        refine ro_b e_x2 ?_
        exact L14 N v1 v2 x2 S _ hC ht
  unfold t_Fs_listTwoPairs at ht
  unfold f_Fs_listTwoPairs
  exact L2 N a1 0 S0 _ hC ht
def tb_Fs_list_119 (N : Nat) (v1 : Int32) (S : CS) : Option (Option Nat × CS) :=
  (ta 9 (fun z => z) v1).bind fun x2 => some ((some x2), S)
def t_Fs_list (N : Nat) (a1 : Int32) (S0 : CS) : Option (Option Nat × CS) :=
  (t_Fs_isNew N a1 S0).bind fun r2 => if r2.1 = 0 then (tb_Fs_list_119 N a1 r2.2) else ((t_Fs_findLeads N r2.2).bind fun r4 => (ta 9 (fun z => z) a1).bind fun x6 => (some (cs_set_lsize r4 (va_up (cs_lsize r4) x6 0))).bind fun S7 => if a1 = 0 then ((t_Fs_listPairs N S7).bind fun r11 => tb_Fs_list_119 N a1 r11) else (if a1 = 1 then ((t_Fs_listTriples N S7).bind fun r13 => tb_Fs_list_119 N a1 r13) else (if a1 = 2 then ((t_Fs_listTwoPairs N a1 S7).bind fun r15 => tb_Fs_list_119 N a1 r15) else (if a1 = 3 then ((t_Fs_listTwoPairs N a1 S7).bind fun r17 => tb_Fs_list_119 N a1 r17) else (if a1 = 4 then ((t_Fs_listTwoPairs N a1 S7).bind fun r19 => tb_Fs_list_119 N a1 r19) else (if a1 = 5 then ((t_Fs_listFours N S7).bind fun r21 => tb_Fs_list_119 N a1 r21) else (if a1 = 6 then ((t_Fs_listMiddles N S7).bind fun r23 => tb_Fs_list_119 N a1 r23) else (if a1 = 7 then ((t_Fs_listAreas N S7).bind fun r25 => tb_Fs_list_119 N a1 r25) else (if a1 = 8 then ((t_Fs_listRatios N S7).bind fun r27 => tb_Fs_list_119 N a1 r27) else ((t_Fs_listTwoPairs N a1 S7).bind fun r9 => tb_Fs_list_119 N a1 r9))))))))))
set_option maxHeartbeats 4000000 in
theorem u_Fs_list {K : Nat → ClassId} {N : Nat} {a1 : Int32} {h0 : fh_H} {S0 : CS} {res : Option Nat × CS} {L : Nat → Nat → Nat} {hb : fh_H} (hL : cs_I L) (ht : t_Fs_list N a1 S0 = some res) (hC : cs_W K L hb h0 S0) : RO (fun z => z.1 = Option.map (L 10) res.1 ∧ cs_W K L hb z.2 res.2) (f_Fs_list K N (L 4 0) a1 h0) := by
  have B119 : ∀ (v1 : Int32) (S : CS) (h : fh_H), cs_W K L hb h S → tb_Fs_list_119 N v1 S = some res → RO (fun z => z.1 = Option.map (L 10) res.1 ∧ cs_W K L hb z.2 res.2) (b_Fs_list_119 K N (L 4 0) v1 h) := by
    intro v1 S h hC ht
    unfold tb_Fs_list_119 at ht
    unfold b_Fs_list_119
    refine ro_b (oi_a (hC.1 4 0 (by decide)) rfl) ?_
    obtain ⟨x2, e_x2, ht⟩ := fh_b ht
    have hb_x2 : x2 < 12 := by obtain ⟨k, hk, q⟩ := ta_lt e_x2; have := hk; omega
    refine ro_b ((ai_a (hC.1 12 0 (by decide))).trans (ai_m (g := fun z => some (L 10 z)) e_x2)) ?_
    obtain rfl := Option.some.inj ht
    exact ro_s ⟨rfl, hC⟩
  unfold t_Fs_list at ht
  unfold f_Fs_list
  refine ro_b (oi_o (hC.1 4 0 (by decide))) ?_
  obtain ⟨r2, e_r2, ht⟩ := fh_b ht
  refine ro_c (u_Fs_isNew hL e_r2 hC) (fun z hz => ?_)
  obtain ⟨z1, h⟩ := z
  obtain ⟨ez, hC⟩ := hz
  dsimp only at ez hC
  subst ez
  by_cases c10 : r2.1 = 0
  · replace ht := fh_t c10 ht
    refine ro_t c10 ?_
    exact B119 a1 r2.2 _ hC ht
  · replace ht := fh_f c10 ht
    refine ro_f c10 ?_
    refine ro_b (oi_o (hC.1 4 0 (by decide))) ?_
    obtain ⟨r4, e_r4, ht⟩ := fh_b ht
    refine ro_c (u_Fs_findLeads hL e_r4 hC) (fun h hC => ?_)
    refine ro_b (oi_a (hC.1 4 0 (by decide)) rfl) ?_
    obtain ⟨x6, e_x6, ht⟩ := fh_b ht
    have hb_x6 : x6 < 12 := by obtain ⟨k, hk, q⟩ := ta_lt e_x6; have := hk; omega
    refine ro_b ((ai_a (hC.1 12 0 (by decide))).trans (ai_m (g := fun z => some (L 10 z)) e_x6)) ?_
    obtain ⟨S7, e_S7, ht⟩ := fh_b ht
    refine ro_c (G1 := (fun z => cs_W K L hb z S7)) ⟨_, oi_p (hC.1 10 x6 hb_x6) (Nat.le_of_ble_eq_true rfl), by rw [← Option.some.inj e_S7]; exact cs_w_lsize hL hC hb_x6 rfl⟩ (fun h hC => ?_)
    by_cases c9 : a1 = 0
    · replace ht := fh_t c9 ht
      refine ro_t c9 ?_
      refine ro_b (oi_o (hC.1 4 0 (by decide))) ?_
      obtain ⟨r11, e_r11, ht⟩ := fh_b ht
      refine ro_c (u_Fs_listPairs hL e_r11 hC) (fun h hC => ?_)
      exact B119 a1 r11 _ hC ht
    · replace ht := fh_f c9 ht
      refine ro_f c9 ?_
      by_cases c8 : a1 = 1
      · replace ht := fh_t c8 ht
        refine ro_t c8 ?_
        refine ro_b (oi_o (hC.1 4 0 (by decide))) ?_
        obtain ⟨r13, e_r13, ht⟩ := fh_b ht
        refine ro_c (u_Fs_listTriples hL e_r13 hC) (fun h hC => ?_)
        exact B119 a1 r13 _ hC ht
      · replace ht := fh_f c8 ht
        refine ro_f c8 ?_
        by_cases c7 : a1 = 2
        · replace ht := fh_t c7 ht
          refine ro_t c7 ?_
          refine ro_b (oi_o (hC.1 4 0 (by decide))) ?_
          obtain ⟨r15, e_r15, ht⟩ := fh_b ht
          refine ro_c (u_Fs_listTwoPairs hL e_r15 hC) (fun h hC => ?_)
          exact B119 a1 r15 _ hC ht
        · replace ht := fh_f c7 ht
          refine ro_f c7 ?_
          by_cases c6 : a1 = 3
          · replace ht := fh_t c6 ht
            refine ro_t c6 ?_
            refine ro_b (oi_o (hC.1 4 0 (by decide))) ?_
            obtain ⟨r17, e_r17, ht⟩ := fh_b ht
            refine ro_c (u_Fs_listTwoPairs hL e_r17 hC) (fun h hC => ?_)
            exact B119 a1 r17 _ hC ht
          · replace ht := fh_f c6 ht
            refine ro_f c6 ?_
            by_cases c5 : a1 = 4
            · replace ht := fh_t c5 ht
              refine ro_t c5 ?_
              refine ro_b (oi_o (hC.1 4 0 (by decide))) ?_
              obtain ⟨r19, e_r19, ht⟩ := fh_b ht
              refine ro_c (u_Fs_listTwoPairs hL e_r19 hC) (fun h hC => ?_)
              exact B119 a1 r19 _ hC ht
            · replace ht := fh_f c5 ht
              refine ro_f c5 ?_
              by_cases c4 : a1 = 5
              · replace ht := fh_t c4 ht
                refine ro_t c4 ?_
                refine ro_b (oi_o (hC.1 4 0 (by decide))) ?_
                obtain ⟨r21, e_r21, ht⟩ := fh_b ht
                refine ro_c (u_Fs_listFours hL e_r21 hC) (fun h hC => ?_)
                exact B119 a1 r21 _ hC ht
              · replace ht := fh_f c4 ht
                refine ro_f c4 ?_
                by_cases c3 : a1 = 6
                · replace ht := fh_t c3 ht
                  refine ro_t c3 ?_
                  refine ro_b (oi_o (hC.1 4 0 (by decide))) ?_
                  obtain ⟨r23, e_r23, ht⟩ := fh_b ht
                  refine ro_c (u_Fs_listMiddles hL e_r23 hC) (fun h hC => ?_)
                  exact B119 a1 r23 _ hC ht
                · replace ht := fh_f c3 ht
                  refine ro_f c3 ?_
                  by_cases c2 : a1 = 7
                  · replace ht := fh_t c2 ht
                    refine ro_t c2 ?_
                    refine ro_b (oi_o (hC.1 4 0 (by decide))) ?_
                    obtain ⟨r25, e_r25, ht⟩ := fh_b ht
                    refine ro_c (u_Fs_listAreas hL e_r25 hC) (fun h hC => ?_)
                    exact B119 a1 r25 _ hC ht
                  · replace ht := fh_f c2 ht
                    refine ro_f c2 ?_
                    by_cases c1 : a1 = 8
                    · replace ht := fh_t c1 ht
                      refine ro_t c1 ?_
                      refine ro_b (oi_o (hC.1 4 0 (by decide))) ?_
                      obtain ⟨r27, e_r27, ht⟩ := fh_b ht
                      refine ro_c (u_Fs_listRatios hL e_r27 hC) (fun h hC => ?_)
                      exact B119 a1 r27 _ hC ht
                    · replace ht := fh_f c1 ht
                      refine ro_f c1 ?_
                      refine ro_b (oi_o (hC.1 4 0 (by decide))) ?_
                      obtain ⟨r9, e_r9, ht⟩ := fh_b ht
                      refine ro_c (u_Fs_listTwoPairs hL e_r9 hC) (fun h hC => ?_)
                      exact B119 a1 r9 _ hC ht
def t_FF_facts (N : Nat) (a1 : Int32) (S0 : CS) : Option (Int32 × CS) :=
  (t_FF_isFactKind N a1).bind fun r1 => if r1 = 0 then (some ((-2), S0)) else ((t_Fs_list N a1 S0).bind fun r4 => (tk 12 r4.1).bind fun j_x5 => (some (cs_lsize r4.2 j_x5)).bind fun x5 => some (x5, r4.2))
set_option maxHeartbeats 4000000 in
theorem u_FF_facts {K : Nat → ClassId} {N : Nat} {a1 : Int32} {h0 : fh_H} {S0 : CS} {res : Int32 × CS} {L : Nat → Nat → Nat} {hb : fh_H} (hL : cs_I L) (ht : t_FF_facts N a1 S0 = some res) (hC : cs_W K L hb h0 S0) : RO (fun z => z.1 = res.1 ∧ cs_W K L hb z.2 res.2) (f_FF_facts K N (L 0 0) a1 h0) := by
  unfold t_FF_facts at ht
  unfold f_FF_facts
  obtain ⟨r1, e_r1, ht⟩ := fh_b ht
  refine ro_c (u_FF_isFactKind e_r1) (fun z hz => ?_)
  subst hz
  by_cases c1 : r1 = 0
  · replace ht := fh_t c1 ht
    refine ro_t c1 ?_
    obtain rfl := Option.some.inj ht
    exact ro_s ⟨rfl, hC⟩
  · replace ht := fh_f c1 ht
    refine ro_f c1 ?_
    refine ro_b (oi_a (hC.1 0 0 (by decide)) rfl) ?_
    refine ro_b (oi_o (hC.1 4 0 (by decide))) ?_
    obtain ⟨r4, e_r4, ht⟩ := fh_b ht
    refine ro_c (u_Fs_list hL e_r4 hC) (fun z hz => ?_)
    obtain ⟨z1, h⟩ := z
    obtain ⟨ez, hC⟩ := hz
    dsimp only at ez hC
    subst ez
    obtain ⟨j_x5, e_j_x5, ht⟩ := fh_b ht
    obtain ⟨ey_j_x5, hj_j_x5⟩ := tk_s e_j_x5
    rw [ey_j_x5]
    obtain ⟨x5, e_x5, ht⟩ := fh_b ht
    refine ro_b ((oi_i (hC.1 10 j_x5 hj_j_x5) rfl).trans e_x5) ?_
    obtain rfl := Option.some.inj ht
    exact ro_s ⟨rfl, hC⟩
def t_IL_has (N : Nat) (i : Nat) (a1 : Int32) (S0 : CS) : Option (Int32) :=
  if a1 < 0 then (some 0) else ((some (cs_lsize S0 i)).bind fun x1 => if x1 ≤ a1 then (some 0) else (some 1))
set_option maxHeartbeats 4000000 in
theorem u_IL_has {K : Nat → ClassId} {N : Nat} {i : Nat} {a1 : Int32} {h0 : fh_H} {S0 : CS} {res : Int32} {L : Nat → Nat → Nat} {hb : fh_H} (hL : cs_I L) (ht : t_IL_has N i a1 S0 = some res) (hC : cs_W K L hb h0 S0) (hi : i < 12) : RO (fun z => (res, h0) = z) (f_IL_has K N (L 10 i) a1 h0) := by
  unfold t_IL_has at ht
  unfold f_IL_has
  by_cases c2 : a1 < 0
  · replace ht := fh_t c2 ht
    refine ro_t c2 ?_
    obtain rfl := Option.some.inj ht
    exact ro_s rfl
  · replace ht := fh_f c2 ht
    refine ro_f c2 ?_
    obtain ⟨x1, e_x1, ht⟩ := fh_b ht
    refine ro_b ((oi_i (hC.1 10 i hi) rfl).trans e_x1) ?_
    by_cases c1 : x1 ≤ a1
    · replace ht := fh_t c1 ht
      refine ro_t c1 ?_
      obtain rfl := Option.some.inj ht
      exact ro_s rfl
    · replace ht := fh_f c1 ht
      refine ro_f c1 ?_
      obtain rfl := Option.some.inj ht
      exact ro_s rfl
def t_FF_fact (N : Nat) (a1 : Int32) (a2 : Int32) (a3 : Int32) (S0 : CS) : Option (Int32 × CS) :=
  (t_FF_isFactKind N a1).bind fun r1 => if r1 = 0 then (some ((-2), S0)) else ((t_Fs_list N a1 S0).bind fun r4 => (tk 12 r4.1).bind fun j_o5 => (t_IL_has N j_o5 a2 r4.2).bind fun r6 => if r6 = 0 then (some ((-1), r4.2)) else (if a3 < 0 then (some ((-1), r4.2)) else ((ft_i 9 tb_3 a1).bind fun x7 => if a3 < x7 then ((ta (il_len j_o5) (cs_items r4.2 j_o5) a2).bind fun x9 => (t_FF_unpack N x9 a3).bind fun r10 => some (r10, r4.2)) else (some ((-1), r4.2)))))
set_option maxHeartbeats 4000000 in
theorem u_FF_fact {K : Nat → ClassId} {N : Nat} {a1 : Int32} {a2 : Int32} {a3 : Int32} {h0 : fh_H} {S0 : CS} {res : Int32 × CS} {L : Nat → Nat → Nat} {hb : fh_H} (hL : cs_I L) (ht : t_FF_fact N a1 a2 a3 S0 = some res) (hC : cs_W K L hb h0 S0) : RO (fun z => z.1 = res.1 ∧ cs_W K L hb z.2 res.2) (f_FF_fact K N (L 0 0) a1 a2 a3 h0) := by
  unfold t_FF_fact at ht
  unfold f_FF_fact
  obtain ⟨r1, e_r1, ht⟩ := fh_b ht
  refine ro_c (u_FF_isFactKind e_r1) (fun z hz => ?_)
  subst hz
  by_cases c4 : r1 = 0
  · replace ht := fh_t c4 ht
    refine ro_t c4 ?_
    obtain rfl := Option.some.inj ht
    exact ro_s ⟨rfl, hC⟩
  · replace ht := fh_f c4 ht
    refine ro_f c4 ?_
    refine ro_b (oi_a (hC.1 0 0 (by decide)) rfl) ?_
    refine ro_b (oi_o (hC.1 4 0 (by decide))) ?_
    obtain ⟨r4, e_r4, ht⟩ := fh_b ht
    refine ro_c (u_Fs_list hL e_r4 hC) (fun z hz => ?_)
    obtain ⟨z1, h⟩ := z
    obtain ⟨ez, hC⟩ := hz
    dsimp only at ez hC
    subst ez
    obtain ⟨j_o5, e_j_o5, ht⟩ := fh_b ht
    obtain ⟨ey_j_o5, hj_j_o5⟩ := tk_s e_j_o5
    rw [ey_j_o5]
    refine ro_b (oi_o (hC.1 10 j_o5 hj_j_o5)) ?_
    obtain ⟨r6, e_r6, ht⟩ := fh_b ht
    refine ro_c (u_IL_has hL e_r6 hC hj_j_o5) (fun z hz => ?_)
    subst hz
    by_cases c3 : r6 = 0
    · replace ht := fh_t c3 ht
      refine ro_t c3 ?_
      obtain rfl := Option.some.inj ht
      exact ro_s ⟨rfl, hC⟩
    · replace ht := fh_f c3 ht
      refine ro_f c3 ?_
      by_cases c2 : a3 < 0
      · replace ht := fh_t c2 ht
        refine ro_t c2 ?_
        obtain rfl := Option.some.inj ht
        exact ro_s ⟨rfl, hC⟩
      · replace ht := fh_f c2 ht
        refine ro_f c2 ?_
        obtain ⟨x7, e_x7, ht⟩ := fh_b ht
        refine ro_b e_x7 ?_
        by_cases c1 : a3 < x7
        · replace ht := fh_t c1 ht
          refine ro_t c1 ?_
          refine ro_b (oi_a (hC.1 10 j_o5 hj_j_o5) rfl) ?_
          obtain ⟨x9, e_x9, ht⟩ := fh_b ht
          refine ro_b ((ai_i (hC.1 11 j_o5 hj_j_o5)).trans e_x9) ?_
          obtain ⟨r10, e_r10, ht⟩ := fh_b ht
          refine ro_c (u_FF_unpack e_r10) (fun z hz => ?_)
          subst hz
          obtain rfl := Option.some.inj ht
          exact ro_s ⟨rfl, hC⟩
        · replace ht := fh_f c1 ht
          refine ro_f c1 ?_
          obtain rfl := Option.some.inj ht
          exact ro_s ⟨rfl, hC⟩
def t_FF_needs (N : Nat) (a1 : Int32) (a2 : Int32) (a3 : Int32) (S0 : CS) : Option (Int32 × CS) :=
  (t_FF_isFactKind N a1).bind fun r1 => if r1 = 0 then (some ((-2), S0)) else ((t_FF_isThere N a3 S0).bind fun r3 => if r3 = 0 then (some ((-2), S0)) else ((t_Fs_list N a1 S0).bind fun r6 => (tk 12 r6.1).bind fun j_o7 => (t_IL_has N j_o7 a2 r6.2).bind fun r8 => if r8 = 0 then (some ((-1), r6.2)) else ((some (cs_seed r6.2)).bind fun x10 => (some (cs_figs r6.2)).bind fun x11 => (t_Dr_begin N 1 x10 x11 r6.2).bind fun r13 => (t_Dr_goOn N 1 (some 0) a3 r13).bind fun r17 => (ta (il_len j_o7) (cs_items r17 j_o7) a2).bind fun x20 => (t_Dr_bears N 1 a1 x20 r17).bind fun r22 => if r22.1 = 0 then (some (1, r22.2)) else (some (0, r22.2)))))
set_option maxHeartbeats 4000000 in
theorem u_FF_needs {K : Nat → ClassId} {N : Nat} {a1 : Int32} {a2 : Int32} {a3 : Int32} {h0 : fh_H} {S0 : CS} {res : Int32 × CS} {L : Nat → Nat → Nat} {hb : fh_H} (hL : cs_I L) (ht : t_FF_needs N a1 a2 a3 S0 = some res) (hC : cs_W K L hb h0 S0) : RO (fun z => z.1 = res.1 ∧ cs_W K L hb z.2 res.2) (f_FF_needs K N (L 0 0) a1 a2 a3 h0) := by
  unfold t_FF_needs at ht
  unfold f_FF_needs
  obtain ⟨r1, e_r1, ht⟩ := fh_b ht
  refine ro_c (u_FF_isFactKind e_r1) (fun z hz => ?_)
  subst hz
  by_cases c4 : r1 = 0
  · replace ht := fh_t c4 ht
    refine ro_t c4 ?_
    obtain rfl := Option.some.inj ht
    exact ro_s ⟨rfl, hC⟩
  · replace ht := fh_f c4 ht
    refine ro_f c4 ?_
    refine ro_b (oi_o (hC.1 0 0 (by decide))) ?_
    obtain ⟨r3, e_r3, ht⟩ := fh_b ht
    refine ro_c (u_FF_isThere hL e_r3 hC) (fun z hz => ?_)
    subst hz
    by_cases c3 : r3 = 0
    · replace ht := fh_t c3 ht
      refine ro_t c3 ?_
      obtain rfl := Option.some.inj ht
      exact ro_s ⟨rfl, hC⟩
    · replace ht := fh_f c3 ht
      refine ro_f c3 ?_
      refine ro_b (oi_a (hC.1 0 0 (by decide)) rfl) ?_
      refine ro_b (oi_o (hC.1 4 0 (by decide))) ?_
      obtain ⟨r6, e_r6, ht⟩ := fh_b ht
      refine ro_c (u_Fs_list hL e_r6 hC) (fun z hz => ?_)
      obtain ⟨z1, h⟩ := z
      obtain ⟨ez, hC⟩ := hz
      dsimp only at ez hC
      subst ez
      obtain ⟨j_o7, e_j_o7, ht⟩ := fh_b ht
      obtain ⟨ey_j_o7, hj_j_o7⟩ := tk_s e_j_o7
      rw [ey_j_o7]
      refine ro_b (oi_o (hC.1 10 j_o7 hj_j_o7)) ?_
      obtain ⟨r8, e_r8, ht⟩ := fh_b ht
      refine ro_c (u_IL_has hL e_r8 hC hj_j_o7) (fun z hz => ?_)
      subst hz
      by_cases c2 : r8 = 0
      · replace ht := fh_t c2 ht
        refine ro_t c2 ?_
        obtain rfl := Option.some.inj ht
        exact ro_s ⟨rfl, hC⟩
      · replace ht := fh_f c2 ht
        refine ro_f c2 ?_
        refine ro_b (oi_a (hC.1 0 0 (by decide)) rfl) ?_
        obtain ⟨x10, e_x10, ht⟩ := fh_b ht
        refine ro_b ((oi_i (hC.1 0 0 (by decide)) rfl).trans e_x10) ?_
        obtain ⟨x11, e_x11, ht⟩ := fh_b ht
        refine ro_b ((oi_i (hC.1 0 0 (by decide)) rfl).trans e_x11) ?_
        refine ro_b (oi_o (hC.1 5 1 (by decide))) ?_
        obtain ⟨r13, e_r13, ht⟩ := fh_b ht
        refine ro_c (u_Dr_begin hL e_r13 hC (by decide)) (fun h hC => ?_)
        refine ro_b (oi_a (hC.1 0 0 (by decide)) rfl) ?_
        refine ro_b (oi_a (hC.1 0 0 (by decide)) rfl) ?_
        refine ro_b (oi_o (hC.1 5 1 (by decide))) ?_
        obtain ⟨r17, e_r17, ht⟩ := fh_b ht
        refine ro_c (u_Dr_goOn hL e_r17 hC (by decide)) (fun h hC => ?_)
        refine ro_b (oi_a (hC.1 0 0 (by decide)) rfl) ?_
        refine ro_b (oi_a (hC.1 10 j_o7 hj_j_o7) rfl) ?_
        obtain ⟨x20, e_x20, ht⟩ := fh_b ht
        refine ro_b ((ai_i (hC.1 11 j_o7 hj_j_o7)).trans e_x20) ?_
        refine ro_b (oi_o (hC.1 5 1 (by decide))) ?_
        obtain ⟨r22, e_r22, ht⟩ := fh_b ht
        refine ro_c (u_Dr_bears hL e_r22 hC (by decide)) (fun z hz => ?_)
        obtain ⟨z1, h⟩ := z
        obtain ⟨ez, hC⟩ := hz
        dsimp only at ez hC
        subst ez
        by_cases c1 : r22.1 = 0
        · replace ht := fh_t c1 ht
          refine ro_t c1 ?_
          obtain rfl := Option.some.inj ht
          exact ro_s ⟨rfl, hC⟩
        · replace ht := fh_f c1 ht
          refine ro_f c1 ?_
          obtain rfl := Option.some.inj ht
          exact ro_s ⟨rfl, hC⟩
def tb_IL_addRising_62 (N : Nat) (k62 : Int32 → Int32 → Int32 → CS → Option (CS)) (i : Nat) (v1 : Int32) (v2 : Int32) (v3 : Int32) (S : CS) : Option (CS) :=
  if v3 ≤ v2 then ((twi (il_len i) (cs_items S i) v2 v1).bind fun F2 => (some (cs_set_items S (va_up (cs_items S) i F2))).bind fun S2 => (some (cs_lsize S2 i)).bind fun x3 => (some (cs_set_lsize S2 (va_up (cs_lsize S2) i (x3 + 1)))).bind fun S4 => some S4) else ((ta (il_len i) (cs_items S i) (v3 - 1)).bind fun x7 => (twi (il_len i) (cs_items S i) v3 x7).bind fun F8 => (some (cs_set_items S (va_up (cs_items S) i F8))).bind fun S8 => (some (v3 + (-1))).bind fun x9 => k62 v1 v2 x9 S8)
def tl_IL_addRising_62 (N : Nat) (i : Nat) : Nat → Int32 → Int32 → Int32 → CS → Option (CS)
  | 0, _, _, _, _ => none
  | n + 1, v1, v2, v3, S => tb_IL_addRising_62 N (tl_IL_addRising_62 N i n) i v1 v2 v3 S
def tb_IL_addRising_44 (N : Nat) (i : Nat) (v1 : Int32) (v2 : Int32) (S : CS) : Option (CS) :=
  (some (cs_lsize S i)).bind fun x1 => (some (Int32.ofNat (il_len i))).bind fun x3 => if x1 < x3 then ((some (cs_lsize S i)).bind fun x4 => tl_IL_addRising_62 N i N v1 v2 x4 S) else (some S)
def tb_IL_addRising_26 (N : Nat) (i : Nat) (v1 : Int32) (v2 : Int32) (S : CS) : Option (CS) :=
  (some (cs_lsize S i)).bind fun x1 => if x1 ≤ v2 then (tb_IL_addRising_44 N i v1 v2 S) else ((ta (il_len i) (cs_items S i) v2).bind fun x3 => if x3 = v1 then (some S) else (tb_IL_addRising_44 N i v1 v2 S))
def tb_IL_addRising_2 (N : Nat) (k2 : Int32 → Int32 → CS → Option (CS)) (i : Nat) (v1 : Int32) (v2 : Int32) (S : CS) : Option (CS) :=
  (some (cs_lsize S i)).bind fun x1 => if x1 ≤ v2 then (tb_IL_addRising_26 N i v1 v2 S) else ((ta (il_len i) (cs_items S i) v2).bind fun x3 => if v1 ≤ x3 then (tb_IL_addRising_26 N i v1 v2 S) else ((some (v2 + 1)).bind fun x4 => k2 v1 x4 S))
def tl_IL_addRising_2 (N : Nat) (i : Nat) : Nat → Int32 → Int32 → CS → Option (CS)
  | 0, _, _, _ => none
  | n + 1, v1, v2, S => tb_IL_addRising_2 N (tl_IL_addRising_2 N i n) i v1 v2 S
def t_IL_addRising (N : Nat) (i : Nat) (a1 : Int32) (S0 : CS) : Option (CS) :=
  tl_IL_addRising_2 N i N a1 0 S0
set_option maxHeartbeats 4000000 in
theorem u_IL_addRising {K : Nat → ClassId} {N : Nat} {i : Nat} {a1 : Int32} {h0 : fh_H} {S0 : CS} {res : CS} {L : Nat → Nat → Nat} {hb : fh_H} (hL : cs_I L) (ht : t_IL_addRising N i a1 S0 = some res) (hC : cs_W K L hb h0 S0) (hi : i < 12) : RO (fun z => cs_W K L hb z res) (f_IL_addRising K N (L 10 i) a1 h0) := by
  have L62 : ∀ (n62 : Nat) (v1 : Int32) (v2 : Int32) (v3 : Int32) (S : CS) (h : fh_H), cs_W K L hb h S → tl_IL_addRising_62 N i n62 v1 v2 v3 S = some res → RO (fun z => cs_W K L hb z res) (l_IL_addRising_62 K N (L 10 i) n62 v1 v2 v3 h) := by
    intro n62
    induction n62 with
    | zero =>
      intro v1 v2 v3 S h hC ht
      exact fh_no ht
    | succ n62 ih62 =>
      intro v1 v2 v3 S h hC ht
      have ht : tb_IL_addRising_62 N (tl_IL_addRising_62 N i n62) i v1 v2 v3 S = some res := ht
      show RO _ (b_IL_addRising_62 K N (l_IL_addRising_62 K N (L 10 i) n62) (L 10 i) v1 v2 v3 h)
      unfold tb_IL_addRising_62 at ht
      unfold b_IL_addRising_62
      by_cases c1 : v3 ≤ v2
      · replace ht := fh_t c1 ht
        refine ro_t c1 ?_
        refine ro_b (oi_a (hC.1 10 i hi) rfl) ?_
        obtain ⟨F2, e_F2, ht⟩ := fh_b ht
        obtain ⟨S2, e_S2, ht⟩ := fh_b ht
        refine ro_c (G1 := (fun z => cs_W K L hb z S2)) ⟨_, aw_i (hC.1 11 i hi) e_F2, by rw [← Option.some.inj e_S2]; exact cs_w_items hL hC hi⟩ (fun h hC => ?_)
        obtain ⟨x3, e_x3, ht⟩ := fh_b ht
        refine ro_b ((oi_i (hC.1 10 i hi) rfl).trans e_x3) ?_
        obtain ⟨S4, e_S4, ht⟩ := fh_b ht
        refine ro_c (G1 := (fun z => cs_W K L hb z S4)) ⟨_, oi_p (hC.1 10 i hi) (Nat.le_of_ble_eq_true rfl), by rw [← Option.some.inj e_S4]; exact cs_w_lsize hL hC hi rfl⟩ (fun h hC => ?_)
        obtain rfl := Option.some.inj ht
        exact ro_s hC
      · replace ht := fh_f c1 ht
        refine ro_f c1 ?_
        refine ro_b (oi_a (hC.1 10 i hi) rfl) ?_
        refine ro_b (oi_a (hC.1 10 i hi) rfl) ?_
        obtain ⟨x7, e_x7, ht⟩ := fh_b ht
        refine ro_b ((ai_i (hC.1 11 i hi)).trans e_x7) ?_
        obtain ⟨F8, e_F8, ht⟩ := fh_b ht
        obtain ⟨S8, e_S8, ht⟩ := fh_b ht
        refine ro_c (G1 := (fun z => cs_W K L hb z S8)) ⟨_, aw_i (hC.1 11 i hi) e_F8, by rw [← Option.some.inj e_S8]; exact cs_w_items hL hC hi⟩ (fun h hC => ?_)
        obtain ⟨x9, e_x9, ht⟩ := fh_b ht
        refine ro_b e_x9 ?_
        exact ih62 v1 v2 x9 S8 _ hC ht
  have B44 : ∀ (v1 : Int32) (v2 : Int32) (S : CS) (h : fh_H), cs_W K L hb h S → tb_IL_addRising_44 N i v1 v2 S = some res → RO (fun z => cs_W K L hb z res) (b_IL_addRising_44 K N (L 10 i) v1 v2 h) := by
    intro v1 v2 S h hC ht
    unfold tb_IL_addRising_44 at ht
    unfold b_IL_addRising_44
    obtain ⟨x1, e_x1, ht⟩ := fh_b ht
    refine ro_b ((oi_i (hC.1 10 i hi) rfl).trans e_x1) ?_
    refine ro_b (oi_a (hC.1 10 i hi) rfl) ?_
    obtain ⟨x3, e_x3, ht⟩ := fh_b ht
    refine ro_b ((ai_n (hC.1 11 i hi)).trans e_x3) ?_
    by_cases c1 : x1 < x3
    · replace ht := fh_t c1 ht
      refine ro_t c1 ?_
      obtain ⟨x4, e_x4, ht⟩ := fh_b ht
      refine ro_b ((oi_i (hC.1 10 i hi) rfl).trans e_x4) ?_
      exact L62 N v1 v2 x4 S _ hC ht
    · replace ht := fh_f c1 ht
      refine ro_f c1 ?_
      obtain rfl := Option.some.inj ht
      exact ro_s hC
  have B26 : ∀ (v1 : Int32) (v2 : Int32) (S : CS) (h : fh_H), cs_W K L hb h S → tb_IL_addRising_26 N i v1 v2 S = some res → RO (fun z => cs_W K L hb z res) (b_IL_addRising_26 K N (L 10 i) v1 v2 h) := by
    intro v1 v2 S h hC ht
    unfold tb_IL_addRising_26 at ht
    unfold b_IL_addRising_26
    obtain ⟨x1, e_x1, ht⟩ := fh_b ht
    refine ro_b ((oi_i (hC.1 10 i hi) rfl).trans e_x1) ?_
    by_cases c2 : x1 ≤ v2
    · replace ht := fh_t c2 ht
      refine ro_t c2 ?_
      exact B44 v1 v2 S _ hC ht
    · replace ht := fh_f c2 ht
      refine ro_f c2 ?_
      refine ro_b (oi_a (hC.1 10 i hi) rfl) ?_
      obtain ⟨x3, e_x3, ht⟩ := fh_b ht
      refine ro_b ((ai_i (hC.1 11 i hi)).trans e_x3) ?_
      by_cases c1 : x3 = v1
      · replace ht := fh_t c1 ht
        refine ro_t c1 ?_
        obtain rfl := Option.some.inj ht
        exact ro_s hC
      · replace ht := fh_f c1 ht
        refine ro_f c1 ?_
        exact B44 v1 v2 S _ hC ht
  have L2 : ∀ (n2 : Nat) (v1 : Int32) (v2 : Int32) (S : CS) (h : fh_H), cs_W K L hb h S → tl_IL_addRising_2 N i n2 v1 v2 S = some res → RO (fun z => cs_W K L hb z res) (l_IL_addRising_2 K N (L 10 i) n2 v1 v2 h) := by
    intro n2
    induction n2 with
    | zero =>
      intro v1 v2 S h hC ht
      exact fh_no ht
    | succ n2 ih2 =>
      intro v1 v2 S h hC ht
      have ht : tb_IL_addRising_2 N (tl_IL_addRising_2 N i n2) i v1 v2 S = some res := ht
      show RO _ (b_IL_addRising_2 K N (l_IL_addRising_2 K N (L 10 i) n2) (L 10 i) v1 v2 h)
      unfold tb_IL_addRising_2 at ht
      unfold b_IL_addRising_2
      obtain ⟨x1, e_x1, ht⟩ := fh_b ht
      refine ro_b ((oi_i (hC.1 10 i hi) rfl).trans e_x1) ?_
      by_cases c2 : x1 ≤ v2
      · replace ht := fh_t c2 ht
        refine ro_t c2 ?_
        exact B26 v1 v2 S _ hC ht
      · replace ht := fh_f c2 ht
        refine ro_f c2 ?_
        refine ro_b (oi_a (hC.1 10 i hi) rfl) ?_
        obtain ⟨x3, e_x3, ht⟩ := fh_b ht
        refine ro_b ((ai_i (hC.1 11 i hi)).trans e_x3) ?_
        by_cases c1 : v1 ≤ x3
        · replace ht := fh_t c1 ht
          refine ro_t c1 ?_
          exact B26 v1 v2 S _ hC ht
        · replace ht := fh_f c1 ht
          refine ro_f c1 ?_
          obtain ⟨x4, e_x4, ht⟩ := fh_b ht
          refine ro_b e_x4 ?_
          exact ih2 v1 x4 S _ hC ht
  unfold t_IL_addRising at ht
  unfold f_IL_addRising
  exact L2 N a1 0 S0 _ hC ht
def tb_Fs_addRow_61 (N : Nat) (k27 : Int32 → Int32 → Int32 → Int32 → CS → Option (CS)) (v1 : Int32) (v2 : Int32) (v3 : Int32) (v4 : Int32) (S : CS) : Option (CS) :=
  (some (v4 + 1)).bind fun x1 => k27 v1 v2 v3 x1 S
def tb_Fs_addRow_27 (N : Nat) (k27 : Int32 → Int32 → Int32 → Int32 → CS → Option (CS)) (v1 : Int32) (v2 : Int32) (v3 : Int32) (v4 : Int32) (S : CS) : Option (CS) :=
  (some (cs_pts S)).bind fun x1 => if x1 ≤ v4 then ((t_Fs_placesOf N v3 S).bind fun r3 => if r3 < 3 then (some S) else ((t_IL_addRising N 9 v3 S).bind fun r6 => some r6)) else ((t_FF_pack N v1 v2 v4).bind fun r8 => (t_Dr_isShown N 0 1 r8 S).bind fun r10 => if r10 = 0 then (tb_Fs_addRow_61 N k27 v1 v2 v3 v4 S) else ((some (v3 ||| ((1 : Int32) <<< (v4 &&& 31)))).bind fun x11 => tb_Fs_addRow_61 N k27 v1 v2 x11 v4 S))
def tl_Fs_addRow_27 (N : Nat) : Nat → Int32 → Int32 → Int32 → Int32 → CS → Option (CS)
  | 0, _, _, _, _, _ => none
  | n + 1, v1, v2, v3, v4, S => tb_Fs_addRow_27 N (tl_Fs_addRow_27 N n) v1 v2 v3 v4 S
def t_Fs_addRow (N : Nat) (a1 : Int32) (a2 : Int32) (S0 : CS) : Option (CS) :=
  (ta 16 (cs_leads S0) a1).bind fun x2 => (ta 16 (cs_leads S0) a2).bind fun x4 => if x2 = x4 then (some S0) else ((some (((1 : Int32) <<< (a1 &&& 31)) ||| ((1 : Int32) <<< (a2 &&& 31)))).bind fun x5 => tl_Fs_addRow_27 N N a1 a2 x5 0 S0)
set_option maxHeartbeats 4000000 in
theorem u_Fs_addRow {K : Nat → ClassId} {N : Nat} {a1 : Int32} {a2 : Int32} {h0 : fh_H} {S0 : CS} {res : CS} {L : Nat → Nat → Nat} {hb : fh_H} (hL : cs_I L) (ht : t_Fs_addRow N a1 a2 S0 = some res) (hC : cs_W K L hb h0 S0) : RO (fun z => cs_W K L hb z res) (f_Fs_addRow K N (L 4 0) a1 a2 h0) := by
  have L27 : ∀ (n27 : Nat) (v1 : Int32) (v2 : Int32) (v3 : Int32) (v4 : Int32) (S : CS) (h : fh_H), cs_W K L hb h S → tl_Fs_addRow_27 N n27 v1 v2 v3 v4 S = some res → RO (fun z => cs_W K L hb z res) (l_Fs_addRow_27 K N (L 4 0) n27 v1 v2 v3 v4 h) := by
    intro n27
    induction n27 with
    | zero =>
      intro v1 v2 v3 v4 S h hC ht
      exact fh_no ht
    | succ n27 ih27 =>
      have B61 : ∀ (v1 : Int32) (v2 : Int32) (v3 : Int32) (v4 : Int32) (S : CS) (h : fh_H), cs_W K L hb h S → tb_Fs_addRow_61 N (tl_Fs_addRow_27 N n27) v1 v2 v3 v4 S = some res → RO (fun z => cs_W K L hb z res) (b_Fs_addRow_61 K N (l_Fs_addRow_27 K N (L 4 0) n27) (L 4 0) v1 v2 v3 v4 h) := by
        intro v1 v2 v3 v4 S h hC ht
        unfold tb_Fs_addRow_61 at ht
        unfold b_Fs_addRow_61
        obtain ⟨x1, e_x1, ht⟩ := fh_b ht
        refine ro_b e_x1 ?_
        exact ih27 v1 v2 v3 x1 S _ hC ht
      intro v1 v2 v3 v4 S h hC ht
      have ht : tb_Fs_addRow_27 N (tl_Fs_addRow_27 N n27) v1 v2 v3 v4 S = some res := ht
      show RO _ (b_Fs_addRow_27 K N (l_Fs_addRow_27 K N (L 4 0) n27) (L 4 0) v1 v2 v3 v4 h)
      unfold tb_Fs_addRow_27 at ht
      unfold b_Fs_addRow_27
      obtain ⟨x1, e_x1, ht⟩ := fh_b ht
      refine ro_b ((oi_i (hC.1 4 0 (by decide)) rfl).trans e_x1) ?_
      by_cases c3 : x1 ≤ v4
      · replace ht := fh_t c3 ht
        refine ro_t c3 ?_
        refine ro_b (oi_o (hC.1 4 0 (by decide))) ?_
        obtain ⟨r3, e_r3, ht⟩ := fh_b ht
        refine ro_c (u_Fs_placesOf hL e_r3 hC) (fun z hz => ?_)
        subst hz
        by_cases c1 : r3 < 3
        · replace ht := fh_t c1 ht
          refine ro_t c1 ?_
          obtain rfl := Option.some.inj ht
          exact ro_s hC
        · replace ht := fh_f c1 ht
          refine ro_f c1 ?_
          refine ro_b (oi_a (hC.1 4 0 (by decide)) rfl) ?_
          refine ro_b (oi_o (hC.1 10 9 (by decide))) ?_
          obtain ⟨r6, e_r6, ht⟩ := fh_b ht
          refine ro_c (u_IL_addRising hL e_r6 hC (by decide)) (fun h hC => ?_)
          obtain rfl := Option.some.inj ht
          exact ro_s hC
      · replace ht := fh_f c3 ht
        refine ro_f c3 ?_
        refine ro_b (oi_a (hC.1 4 0 (by decide)) rfl) ?_
        obtain ⟨r8, e_r8, ht⟩ := fh_b ht
        refine ro_c (u_FF_pack e_r8) (fun z hz => ?_)
        subst hz
        refine ro_b (oi_o (hC.1 5 0 (by decide))) ?_
        obtain ⟨r10, e_r10, ht⟩ := fh_b ht
        refine ro_c (u_Dr_isShown hL e_r10 hC (by decide)) (fun z hz => ?_)
        subst hz
        by_cases c2 : r10 = 0
        · replace ht := fh_t c2 ht
          refine ro_t c2 ?_
          exact B61 v1 v2 v3 v4 S _ hC ht
        · replace ht := fh_f c2 ht
          refine ro_f c2 ?_
          obtain ⟨x11, e_x11, ht⟩ := fh_b ht
          refine ro_b e_x11 ?_
          exact B61 v1 v2 x11 v4 S _ hC ht
  unfold t_Fs_addRow at ht
  unfold f_Fs_addRow
  refine ro_b (oi_a (hC.1 4 0 (by decide)) rfl) ?_
  obtain ⟨x2, e_x2, ht⟩ := fh_b ht
  refine ro_b ((ai_i (hC.1 13 0 (by decide))).trans e_x2) ?_
  refine ro_b (oi_a (hC.1 4 0 (by decide)) rfl) ?_
  obtain ⟨x4, e_x4, ht⟩ := fh_b ht
  refine ro_b ((ai_i (hC.1 13 0 (by decide))).trans e_x4) ?_
  by_cases c1 : x2 = x4
  · replace ht := fh_t c1 ht
    refine ro_t c1 ?_
    obtain rfl := Option.some.inj ht
    exact ro_s hC
  · replace ht := fh_f c1 ht
    refine ro_f c1 ?_
    obtain ⟨x5, e_x5, ht⟩ := fh_b ht
    refine ro_b e_x5 ?_
    exact L27 N a1 a2 x5 0 S0 _ hC ht
def tb_Fs_allRows_35 (N : Nat) (k23 : Int32 → CS → Option (Option Nat × CS)) (k35 : Int32 → Int32 → CS → Option (Option Nat × CS)) (v1 : Int32) (v2 : Int32) (S : CS) : Option (Option Nat × CS) :=
  (some (cs_pts S)).bind fun x1 => if x1 ≤ v2 then ((some (v1 + 1)).bind fun x2 => k23 x2 S) else ((t_Fs_addRow N v1 v2 S).bind fun r4 => (some (v2 + 1)).bind fun x5 => k35 v1 x5 r4)
def tl_Fs_allRows_35 (N : Nat) (k23 : Int32 → CS → Option (Option Nat × CS)) : Nat → Int32 → Int32 → CS → Option (Option Nat × CS)
  | 0, _, _, _ => none
  | n + 1, v1, v2, S => tb_Fs_allRows_35 N k23 (tl_Fs_allRows_35 N k23 n) v1 v2 S
def tb_Fs_allRows_23 (N : Nat) (k23 : Int32 → CS → Option (Option Nat × CS)) (v1 : Int32) (S : CS) : Option (Option Nat × CS) :=
  (some (cs_pts S)).bind fun x1 => if x1 ≤ v1 then (some ((some 9), S)) else ((some (v1 + 1)).bind fun x3 => tl_Fs_allRows_35 N k23 N v1 x3 S)
def tl_Fs_allRows_23 (N : Nat) : Nat → Int32 → CS → Option (Option Nat × CS)
  | 0, _, _ => none
  | n + 1, v1, S => tb_Fs_allRows_23 N (tl_Fs_allRows_23 N n) v1 S
def t_Fs_allRows (N : Nat)  (S0 : CS) : Option (Option Nat × CS) :=
  (t_Fs_isNew N 10 S0).bind fun r2 => if r2.1 = 0 then (some ((some 9), r2.2)) else ((t_Fs_findLeads N r2.2).bind fun r5 => (some (cs_set_lsize r5 (va_up (cs_lsize r5) 9 0))).bind fun S7 => tl_Fs_allRows_23 N N 0 S7)
set_option maxHeartbeats 4000000 in
theorem u_Fs_allRows {K : Nat → ClassId} {N : Nat} {h0 : fh_H} {S0 : CS} {res : Option Nat × CS} {L : Nat → Nat → Nat} {hb : fh_H} (hL : cs_I L) (ht : t_Fs_allRows N  S0 = some res) (hC : cs_W K L hb h0 S0) : RO (fun z => z.1 = Option.map (L 10) res.1 ∧ cs_W K L hb z.2 res.2) (f_Fs_allRows K N (L 4 0)  h0) := by
  have L23 : ∀ (n23 : Nat) (v1 : Int32) (S : CS) (h : fh_H), cs_W K L hb h S → tl_Fs_allRows_23 N n23 v1 S = some res → RO (fun z => z.1 = Option.map (L 10) res.1 ∧ cs_W K L hb z.2 res.2) (l_Fs_allRows_23 K N (L 4 0) n23 v1 h) := by
    intro n23
    induction n23 with
    | zero =>
      intro v1 S h hC ht
      exact fh_no ht
    | succ n23 ih23 =>
      have L35 : ∀ (n35 : Nat) (v1 : Int32) (v2 : Int32) (S : CS) (h : fh_H), cs_W K L hb h S → tl_Fs_allRows_35 N (tl_Fs_allRows_23 N n23) n35 v1 v2 S = some res → RO (fun z => z.1 = Option.map (L 10) res.1 ∧ cs_W K L hb z.2 res.2) (l_Fs_allRows_35 K N (l_Fs_allRows_23 K N (L 4 0) n23) (L 4 0) n35 v1 v2 h) := by
        intro n35
        induction n35 with
        | zero =>
          intro v1 v2 S h hC ht
          exact fh_no ht
        | succ n35 ih35 =>
          intro v1 v2 S h hC ht
          have ht : tb_Fs_allRows_35 N (tl_Fs_allRows_23 N n23) (tl_Fs_allRows_35 N (tl_Fs_allRows_23 N n23) n35) v1 v2 S = some res := ht
          show RO _ (b_Fs_allRows_35 K N (l_Fs_allRows_23 K N (L 4 0) n23) (l_Fs_allRows_35 K N (l_Fs_allRows_23 K N (L 4 0) n23) (L 4 0) n35) (L 4 0) v1 v2 h)
          unfold tb_Fs_allRows_35 at ht
          unfold b_Fs_allRows_35
          obtain ⟨x1, e_x1, ht⟩ := fh_b ht
          refine ro_b ((oi_i (hC.1 4 0 (by decide)) rfl).trans e_x1) ?_
          by_cases c1 : x1 ≤ v2
          · replace ht := fh_t c1 ht
            refine ro_t c1 ?_
            obtain ⟨x2, e_x2, ht⟩ := fh_b ht
            refine ro_b e_x2 ?_
            exact ih23 x2 S _ hC ht
          · replace ht := fh_f c1 ht
            refine ro_f c1 ?_
            refine ro_b (oi_o (hC.1 4 0 (by decide))) ?_
            obtain ⟨r4, e_r4, ht⟩ := fh_b ht
            refine ro_c (u_Fs_addRow hL e_r4 hC) (fun h hC => ?_)
            obtain ⟨x5, e_x5, ht⟩ := fh_b ht
            refine ro_b e_x5 ?_
            exact ih35 v1 x5 r4 _ hC ht
      intro v1 S h hC ht
      have ht : tb_Fs_allRows_23 N (tl_Fs_allRows_23 N n23) v1 S = some res := ht
      show RO _ (b_Fs_allRows_23 K N (l_Fs_allRows_23 K N (L 4 0) n23) (L 4 0) v1 h)
      unfold tb_Fs_allRows_23 at ht
      unfold b_Fs_allRows_23
      obtain ⟨x1, e_x1, ht⟩ := fh_b ht
      refine ro_b ((oi_i (hC.1 4 0 (by decide)) rfl).trans e_x1) ?_
      by_cases c1 : x1 ≤ v1
      · replace ht := fh_t c1 ht
        refine ro_t c1 ?_
        refine ro_b (oi_a (hC.1 4 0 (by decide)) rfl) ?_
        obtain rfl := Option.some.inj ht
        exact ro_s ⟨rfl, hC⟩
      · replace ht := fh_f c1 ht
        refine ro_f c1 ?_
        obtain ⟨x3, e_x3, ht⟩ := fh_b ht
        refine ro_b e_x3 ?_
        exact L35 N v1 x3 S _ hC ht
  unfold t_Fs_allRows at ht
  unfold f_Fs_allRows
  refine ro_b (oi_o (hC.1 4 0 (by decide))) ?_
  obtain ⟨r2, e_r2, ht⟩ := fh_b ht
  refine ro_c (u_Fs_isNew hL e_r2 hC) (fun z hz => ?_)
  obtain ⟨z1, h⟩ := z
  obtain ⟨ez, hC⟩ := hz
  dsimp only at ez hC
  subst ez
  by_cases c1 : r2.1 = 0
  · replace ht := fh_t c1 ht
    refine ro_t c1 ?_
    refine ro_b (oi_a (hC.1 4 0 (by decide)) rfl) ?_
    obtain rfl := Option.some.inj ht
    exact ro_s ⟨rfl, hC⟩
  · replace ht := fh_f c1 ht
    refine ro_f c1 ?_
    refine ro_b (oi_o (hC.1 4 0 (by decide))) ?_
    obtain ⟨r5, e_r5, ht⟩ := fh_b ht
    refine ro_c (u_Fs_findLeads hL e_r5 hC) (fun h hC => ?_)
    refine ro_b (oi_a (hC.1 4 0 (by decide)) rfl) ?_
    obtain ⟨S7, e_S7, ht⟩ := fh_b ht
    refine ro_c (G1 := (fun z => cs_W K L hb z S7)) ⟨_, oi_p (hC.1 10 9 (by decide)) (Nat.le_of_ble_eq_true rfl), by rw [← Option.some.inj e_S7]; exact cs_w_lsize hL hC (by decide) rfl⟩ (fun h hC => ?_)
    exact L23 N 0 S7 _ hC ht
def t_FF_row (N : Nat) (a1 : Int32) (S0 : CS) : Option (Int32 × CS) :=
  (t_Fs_allRows N S0).bind fun r3 => (tk 12 r3.1).bind fun j_o4 => (t_IL_has N j_o4 a1 r3.2).bind fun r5 => if r5 = 0 then (some ((-1), r3.2)) else ((ta (il_len j_o4) (cs_items r3.2 j_o4) a1).bind fun x7 => some (x7, r3.2))
set_option maxHeartbeats 4000000 in
theorem u_FF_row {K : Nat → ClassId} {N : Nat} {a1 : Int32} {h0 : fh_H} {S0 : CS} {res : Int32 × CS} {L : Nat → Nat → Nat} {hb : fh_H} (hL : cs_I L) (ht : t_FF_row N a1 S0 = some res) (hC : cs_W K L hb h0 S0) : RO (fun z => z.1 = res.1 ∧ cs_W K L hb z.2 res.2) (f_FF_row K N (L 0 0) a1 h0) := by
  unfold t_FF_row at ht
  unfold f_FF_row
  refine ro_b (oi_a (hC.1 0 0 (by decide)) rfl) ?_
  refine ro_b (oi_o (hC.1 4 0 (by decide))) ?_
  obtain ⟨r3, e_r3, ht⟩ := fh_b ht
  refine ro_c (u_Fs_allRows hL e_r3 hC) (fun z hz => ?_)
  obtain ⟨z1, h⟩ := z
  obtain ⟨ez, hC⟩ := hz
  dsimp only at ez hC
  subst ez
  obtain ⟨j_o4, e_j_o4, ht⟩ := fh_b ht
  obtain ⟨ey_j_o4, hj_j_o4⟩ := tk_s e_j_o4
  rw [ey_j_o4]
  refine ro_b (oi_o (hC.1 10 j_o4 hj_j_o4)) ?_
  obtain ⟨r5, e_r5, ht⟩ := fh_b ht
  refine ro_c (u_IL_has hL e_r5 hC hj_j_o4) (fun z hz => ?_)
  subst hz
  by_cases c1 : r5 = 0
  · replace ht := fh_t c1 ht
    refine ro_t c1 ?_
    obtain rfl := Option.some.inj ht
    exact ro_s ⟨rfl, hC⟩
  · replace ht := fh_f c1 ht
    refine ro_f c1 ?_
    refine ro_b (oi_a (hC.1 10 j_o4 hj_j_o4) rfl) ?_
    obtain ⟨x7, e_x7, ht⟩ := fh_b ht
    refine ro_b ((ai_i (hC.1 11 j_o4 hj_j_o4)).trans e_x7) ?_
    obtain rfl := Option.some.inj ht
    exact ro_s ⟨rfl, hC⟩
def tb_Fs_addRing_88 (N : Nat) (k48 : Int32 → Int32 → Int32 → Int32 → Int32 → CS → Option (CS)) (v1 : Int32) (v2 : Int32) (v3 : Int32) (v5 : Int32) (v6 : Int32) (S : CS) : Option (CS) :=
  (some (v6 + 1)).bind fun x1 => k48 v1 v2 v3 v5 x1 S
def tb_Fs_addRing_48 (N : Nat) (k48 : Int32 → Int32 → Int32 → Int32 → Int32 → CS → Option (CS)) (v1 : Int32) (v2 : Int32) (v3 : Int32) (v5 : Int32) (v6 : Int32) (S : CS) : Option (CS) :=
  (some (cs_pts S)).bind fun x1 => if x1 ≤ v6 then ((t_Fs_placesOf N v5 S).bind fun r3 => if r3 < 4 then (some S) else ((t_IL_addRising N 10 v5 S).bind fun r6 => some r6)) else ((t_FF_pack N v1 v2 v3).bind fun r8 => (t_FF_join N r8 v6).bind fun r9 => (t_Dr_isShown N 0 5 r9 S).bind fun r11 => if r11 = 0 then (tb_Fs_addRing_88 N k48 v1 v2 v3 v5 v6 S) else ((some (v5 ||| ((1 : Int32) <<< (v6 &&& 31)))).bind fun x12 => tb_Fs_addRing_88 N k48 v1 v2 v3 x12 v6 S))
def tl_Fs_addRing_48 (N : Nat) : Nat → Int32 → Int32 → Int32 → Int32 → Int32 → CS → Option (CS)
  | 0, _, _, _, _, _, _ => none
  | n + 1, v1, v2, v3, v5, v6, S => tb_Fs_addRing_48 N (tl_Fs_addRing_48 N n) v1 v2 v3 v5 v6 S
def t_Fs_addRing (N : Nat) (a1 : Int32) (a2 : Int32) (a3 : Int32) (S0 : CS) : Option (CS) :=
  (some (((1 : Int32) <<< (a1 &&& 31)) ||| ((1 : Int32) <<< (a2 &&& 31)))).bind fun x1 => (some (x1 ||| ((1 : Int32) <<< (a3 &&& 31)))).bind fun x2 => (t_Fs_placesOf N x2 S0).bind fun r4 => if r4 < 3 then (some S0) else ((t_FF_pack N a1 a2 a3).bind fun r6 => (t_Dr_isShown N 0 1 r6 S0).bind fun r8 => if r8 = 0 then (tl_Fs_addRing_48 N N a1 a2 a3 x2 0 S0) else (some S0))
set_option maxHeartbeats 4000000 in
theorem u_Fs_addRing {K : Nat → ClassId} {N : Nat} {a1 : Int32} {a2 : Int32} {a3 : Int32} {h0 : fh_H} {S0 : CS} {res : CS} {L : Nat → Nat → Nat} {hb : fh_H} (hL : cs_I L) (ht : t_Fs_addRing N a1 a2 a3 S0 = some res) (hC : cs_W K L hb h0 S0) : RO (fun z => cs_W K L hb z res) (f_Fs_addRing K N (L 4 0) a1 a2 a3 h0) := by
  have L48 : ∀ (n48 : Nat) (v1 : Int32) (v2 : Int32) (v3 : Int32) (v5 : Int32) (v6 : Int32) (S : CS) (h : fh_H), cs_W K L hb h S → tl_Fs_addRing_48 N n48 v1 v2 v3 v5 v6 S = some res → RO (fun z => cs_W K L hb z res) (l_Fs_addRing_48 K N (L 4 0) n48 v1 v2 v3 v5 v6 h) := by
    intro n48
    induction n48 with
    | zero =>
      intro v1 v2 v3 v5 v6 S h hC ht
      exact fh_no ht
    | succ n48 ih48 =>
      have B88 : ∀ (v1 : Int32) (v2 : Int32) (v3 : Int32) (v5 : Int32) (v6 : Int32) (S : CS) (h : fh_H), cs_W K L hb h S → tb_Fs_addRing_88 N (tl_Fs_addRing_48 N n48) v1 v2 v3 v5 v6 S = some res → RO (fun z => cs_W K L hb z res) (b_Fs_addRing_88 K N (l_Fs_addRing_48 K N (L 4 0) n48) (L 4 0) v1 v2 v3 v5 v6 h) := by
        intro v1 v2 v3 v5 v6 S h hC ht
        unfold tb_Fs_addRing_88 at ht
        unfold b_Fs_addRing_88
        obtain ⟨x1, e_x1, ht⟩ := fh_b ht
        refine ro_b e_x1 ?_
        exact ih48 v1 v2 v3 v5 x1 S _ hC ht
      intro v1 v2 v3 v5 v6 S h hC ht
      have ht : tb_Fs_addRing_48 N (tl_Fs_addRing_48 N n48) v1 v2 v3 v5 v6 S = some res := ht
      show RO _ (b_Fs_addRing_48 K N (l_Fs_addRing_48 K N (L 4 0) n48) (L 4 0) v1 v2 v3 v5 v6 h)
      unfold tb_Fs_addRing_48 at ht
      unfold b_Fs_addRing_48
      obtain ⟨x1, e_x1, ht⟩ := fh_b ht
      refine ro_b ((oi_i (hC.1 4 0 (by decide)) rfl).trans e_x1) ?_
      by_cases c3 : x1 ≤ v6
      · replace ht := fh_t c3 ht
        refine ro_t c3 ?_
        refine ro_b (oi_o (hC.1 4 0 (by decide))) ?_
        obtain ⟨r3, e_r3, ht⟩ := fh_b ht
        refine ro_c (u_Fs_placesOf hL e_r3 hC) (fun z hz => ?_)
        subst hz
        by_cases c1 : r3 < 4
        · replace ht := fh_t c1 ht
          refine ro_t c1 ?_
          obtain rfl := Option.some.inj ht
          exact ro_s hC
        · replace ht := fh_f c1 ht
          refine ro_f c1 ?_
          refine ro_b (oi_a (hC.1 4 0 (by decide)) rfl) ?_
          refine ro_b (oi_o (hC.1 10 10 (by decide))) ?_
          obtain ⟨r6, e_r6, ht⟩ := fh_b ht
          refine ro_c (u_IL_addRising hL e_r6 hC (by decide)) (fun h hC => ?_)
          obtain rfl := Option.some.inj ht
          exact ro_s hC
      · replace ht := fh_f c3 ht
        refine ro_f c3 ?_
        refine ro_b (oi_a (hC.1 4 0 (by decide)) rfl) ?_
        obtain ⟨r8, e_r8, ht⟩ := fh_b ht
        refine ro_c (u_FF_pack e_r8) (fun z hz => ?_)
        subst hz
        obtain ⟨r9, e_r9, ht⟩ := fh_b ht
        refine ro_c (u_FF_join e_r9) (fun z hz => ?_)
        subst hz
        refine ro_b (oi_o (hC.1 5 0 (by decide))) ?_
        obtain ⟨r11, e_r11, ht⟩ := fh_b ht
        refine ro_c (u_Dr_isShown hL e_r11 hC (by decide)) (fun z hz => ?_)
        subst hz
        by_cases c2 : r11 = 0
        · replace ht := fh_t c2 ht
          refine ro_t c2 ?_
          exact B88 v1 v2 v3 v5 v6 S _ hC ht
        · replace ht := fh_f c2 ht
          refine ro_f c2 ?_
          obtain ⟨x12, e_x12, ht⟩ := fh_b ht
          refine ro_b e_x12 ?_
          exact B88 v1 v2 v3 x12 v6 S _ hC ht
  unfold t_Fs_addRing at ht
  unfold f_Fs_addRing
  obtain ⟨x1, e_x1, ht⟩ := fh_b ht
  refine ro_b e_x1 ?_
  obtain ⟨x2, e_x2, ht⟩ := fh_b ht
  refine ro_b e_x2 ?_
  refine ro_b (oi_o (hC.1 4 0 (by decide))) ?_
  obtain ⟨r4, e_r4, ht⟩ := fh_b ht
  refine ro_c (u_Fs_placesOf hL e_r4 hC) (fun z hz => ?_)
  subst hz
  by_cases c2 : r4 < 3
  · replace ht := fh_t c2 ht
    refine ro_t c2 ?_
    obtain rfl := Option.some.inj ht
    exact ro_s hC
  · replace ht := fh_f c2 ht
    refine ro_f c2 ?_
    refine ro_b (oi_a (hC.1 4 0 (by decide)) rfl) ?_
    obtain ⟨r6, e_r6, ht⟩ := fh_b ht
    refine ro_c (u_FF_pack e_r6) (fun z hz => ?_)
    subst hz
    refine ro_b (oi_o (hC.1 5 0 (by decide))) ?_
    obtain ⟨r8, e_r8, ht⟩ := fh_b ht
    refine ro_c (u_Dr_isShown hL e_r8 hC (by decide)) (fun z hz => ?_)
    subst hz
    by_cases c1 : r8 = 0
    · replace ht := fh_t c1 ht
      refine ro_t c1 ?_
      exact L48 N a1 a2 a3 x2 0 S0 _ hC ht
    · replace ht := fh_f c1 ht
      refine ro_f c1 ?_
      obtain rfl := Option.some.inj ht
      exact ro_s hC
def tb_Fs_allRings_47 (N : Nat) (k23 : Int32 → CS → Option (Option Nat × CS)) (k35 : Int32 → Int32 → CS → Option (Option Nat × CS)) (k47 : Int32 → Int32 → Int32 → CS → Option (Option Nat × CS)) (v1 : Int32) (v2 : Int32) (v3 : Int32) (S : CS) : Option (Option Nat × CS) :=
  (some (cs_pts S)).bind fun x1 => if x1 ≤ v3 then ((some (v2 + 1)).bind fun x2 => k35 v1 x2 S) else ((t_Fs_addRing N v1 v2 v3 S).bind fun r4 => (some (v3 + 1)).bind fun x5 => k47 v1 v2 x5 r4)
def tl_Fs_allRings_47 (N : Nat) (k23 : Int32 → CS → Option (Option Nat × CS)) (k35 : Int32 → Int32 → CS → Option (Option Nat × CS)) : Nat → Int32 → Int32 → Int32 → CS → Option (Option Nat × CS)
  | 0, _, _, _, _ => none
  | n + 1, v1, v2, v3, S => tb_Fs_allRings_47 N k23 k35 (tl_Fs_allRings_47 N k23 k35 n) v1 v2 v3 S
def tb_Fs_allRings_35 (N : Nat) (k23 : Int32 → CS → Option (Option Nat × CS)) (k35 : Int32 → Int32 → CS → Option (Option Nat × CS)) (v1 : Int32) (v2 : Int32) (S : CS) : Option (Option Nat × CS) :=
  (some (cs_pts S)).bind fun x1 => if x1 ≤ v2 then ((some (v1 + 1)).bind fun x2 => k23 x2 S) else ((some (v2 + 1)).bind fun x3 => tl_Fs_allRings_47 N k23 k35 N v1 v2 x3 S)
def tl_Fs_allRings_35 (N : Nat) (k23 : Int32 → CS → Option (Option Nat × CS)) : Nat → Int32 → Int32 → CS → Option (Option Nat × CS)
  | 0, _, _, _ => none
  | n + 1, v1, v2, S => tb_Fs_allRings_35 N k23 (tl_Fs_allRings_35 N k23 n) v1 v2 S
def tb_Fs_allRings_23 (N : Nat) (k23 : Int32 → CS → Option (Option Nat × CS)) (v1 : Int32) (S : CS) : Option (Option Nat × CS) :=
  (some (cs_pts S)).bind fun x1 => if x1 ≤ v1 then (some ((some 10), S)) else ((some (v1 + 1)).bind fun x3 => tl_Fs_allRings_35 N k23 N v1 x3 S)
def tl_Fs_allRings_23 (N : Nat) : Nat → Int32 → CS → Option (Option Nat × CS)
  | 0, _, _ => none
  | n + 1, v1, S => tb_Fs_allRings_23 N (tl_Fs_allRings_23 N n) v1 S
def t_Fs_allRings (N : Nat)  (S0 : CS) : Option (Option Nat × CS) :=
  (t_Fs_isNew N 11 S0).bind fun r2 => if r2.1 = 0 then (some ((some 10), r2.2)) else ((t_Fs_findLeads N r2.2).bind fun r5 => (some (cs_set_lsize r5 (va_up (cs_lsize r5) 10 0))).bind fun S7 => tl_Fs_allRings_23 N N 0 S7)
set_option maxHeartbeats 4000000 in
theorem u_Fs_allRings {K : Nat → ClassId} {N : Nat} {h0 : fh_H} {S0 : CS} {res : Option Nat × CS} {L : Nat → Nat → Nat} {hb : fh_H} (hL : cs_I L) (ht : t_Fs_allRings N  S0 = some res) (hC : cs_W K L hb h0 S0) : RO (fun z => z.1 = Option.map (L 10) res.1 ∧ cs_W K L hb z.2 res.2) (f_Fs_allRings K N (L 4 0)  h0) := by
  have L23 : ∀ (n23 : Nat) (v1 : Int32) (S : CS) (h : fh_H), cs_W K L hb h S → tl_Fs_allRings_23 N n23 v1 S = some res → RO (fun z => z.1 = Option.map (L 10) res.1 ∧ cs_W K L hb z.2 res.2) (l_Fs_allRings_23 K N (L 4 0) n23 v1 h) := by
    intro n23
    induction n23 with
    | zero =>
      intro v1 S h hC ht
      exact fh_no ht
    | succ n23 ih23 =>
      have L35 : ∀ (n35 : Nat) (v1 : Int32) (v2 : Int32) (S : CS) (h : fh_H), cs_W K L hb h S → tl_Fs_allRings_35 N (tl_Fs_allRings_23 N n23) n35 v1 v2 S = some res → RO (fun z => z.1 = Option.map (L 10) res.1 ∧ cs_W K L hb z.2 res.2) (l_Fs_allRings_35 K N (l_Fs_allRings_23 K N (L 4 0) n23) (L 4 0) n35 v1 v2 h) := by
        intro n35
        induction n35 with
        | zero =>
          intro v1 v2 S h hC ht
          exact fh_no ht
        | succ n35 ih35 =>
          have L47 : ∀ (n47 : Nat) (v1 : Int32) (v2 : Int32) (v3 : Int32) (S : CS) (h : fh_H), cs_W K L hb h S → tl_Fs_allRings_47 N (tl_Fs_allRings_23 N n23) (tl_Fs_allRings_35 N (tl_Fs_allRings_23 N n23) n35) n47 v1 v2 v3 S = some res → RO (fun z => z.1 = Option.map (L 10) res.1 ∧ cs_W K L hb z.2 res.2) (l_Fs_allRings_47 K N (l_Fs_allRings_23 K N (L 4 0) n23) (l_Fs_allRings_35 K N (l_Fs_allRings_23 K N (L 4 0) n23) (L 4 0) n35) (L 4 0) n47 v1 v2 v3 h) := by
            intro n47
            induction n47 with
            | zero =>
              intro v1 v2 v3 S h hC ht
              exact fh_no ht
            | succ n47 ih47 =>
              intro v1 v2 v3 S h hC ht
              have ht : tb_Fs_allRings_47 N (tl_Fs_allRings_23 N n23) (tl_Fs_allRings_35 N (tl_Fs_allRings_23 N n23) n35) (tl_Fs_allRings_47 N (tl_Fs_allRings_23 N n23) (tl_Fs_allRings_35 N (tl_Fs_allRings_23 N n23) n35) n47) v1 v2 v3 S = some res := ht
              show RO _ (b_Fs_allRings_47 K N (l_Fs_allRings_23 K N (L 4 0) n23) (l_Fs_allRings_35 K N (l_Fs_allRings_23 K N (L 4 0) n23) (L 4 0) n35) (l_Fs_allRings_47 K N (l_Fs_allRings_23 K N (L 4 0) n23) (l_Fs_allRings_35 K N (l_Fs_allRings_23 K N (L 4 0) n23) (L 4 0) n35) (L 4 0) n47) (L 4 0) v1 v2 v3 h)
              unfold tb_Fs_allRings_47 at ht
              unfold b_Fs_allRings_47
              obtain ⟨x1, e_x1, ht⟩ := fh_b ht
              refine ro_b ((oi_i (hC.1 4 0 (by decide)) rfl).trans e_x1) ?_
              by_cases c1 : x1 ≤ v3
              · replace ht := fh_t c1 ht
                refine ro_t c1 ?_
                obtain ⟨x2, e_x2, ht⟩ := fh_b ht
                refine ro_b e_x2 ?_
                exact ih35 v1 x2 S _ hC ht
              · replace ht := fh_f c1 ht
                refine ro_f c1 ?_
                refine ro_b (oi_o (hC.1 4 0 (by decide))) ?_
                obtain ⟨r4, e_r4, ht⟩ := fh_b ht
                refine ro_c (u_Fs_addRing hL e_r4 hC) (fun h hC => ?_)
                obtain ⟨x5, e_x5, ht⟩ := fh_b ht
                refine ro_b e_x5 ?_
                exact ih47 v1 v2 x5 r4 _ hC ht
          intro v1 v2 S h hC ht
          have ht : tb_Fs_allRings_35 N (tl_Fs_allRings_23 N n23) (tl_Fs_allRings_35 N (tl_Fs_allRings_23 N n23) n35) v1 v2 S = some res := ht
          show RO _ (b_Fs_allRings_35 K N (l_Fs_allRings_23 K N (L 4 0) n23) (l_Fs_allRings_35 K N (l_Fs_allRings_23 K N (L 4 0) n23) (L 4 0) n35) (L 4 0) v1 v2 h)
          unfold tb_Fs_allRings_35 at ht
          unfold b_Fs_allRings_35
          obtain ⟨x1, e_x1, ht⟩ := fh_b ht
          refine ro_b ((oi_i (hC.1 4 0 (by decide)) rfl).trans e_x1) ?_
          by_cases c1 : x1 ≤ v2
          · replace ht := fh_t c1 ht
            refine ro_t c1 ?_
            obtain ⟨x2, e_x2, ht⟩ := fh_b ht
            refine ro_b e_x2 ?_
            exact ih23 x2 S _ hC ht
          · replace ht := fh_f c1 ht
            refine ro_f c1 ?_
            obtain ⟨x3, e_x3, ht⟩ := fh_b ht
            refine ro_b e_x3 ?_
            exact L47 N v1 v2 x3 S _ hC ht
      intro v1 S h hC ht
      have ht : tb_Fs_allRings_23 N (tl_Fs_allRings_23 N n23) v1 S = some res := ht
      show RO _ (b_Fs_allRings_23 K N (l_Fs_allRings_23 K N (L 4 0) n23) (L 4 0) v1 h)
      unfold tb_Fs_allRings_23 at ht
      unfold b_Fs_allRings_23
      obtain ⟨x1, e_x1, ht⟩ := fh_b ht
      refine ro_b ((oi_i (hC.1 4 0 (by decide)) rfl).trans e_x1) ?_
      by_cases c1 : x1 ≤ v1
      · replace ht := fh_t c1 ht
        refine ro_t c1 ?_
        refine ro_b (oi_a (hC.1 4 0 (by decide)) rfl) ?_
        obtain rfl := Option.some.inj ht
        exact ro_s ⟨rfl, hC⟩
      · replace ht := fh_f c1 ht
        refine ro_f c1 ?_
        obtain ⟨x3, e_x3, ht⟩ := fh_b ht
        refine ro_b e_x3 ?_
        exact L35 N v1 x3 S _ hC ht
  unfold t_Fs_allRings at ht
  unfold f_Fs_allRings
  refine ro_b (oi_o (hC.1 4 0 (by decide))) ?_
  obtain ⟨r2, e_r2, ht⟩ := fh_b ht
  refine ro_c (u_Fs_isNew hL e_r2 hC) (fun z hz => ?_)
  obtain ⟨z1, h⟩ := z
  obtain ⟨ez, hC⟩ := hz
  dsimp only at ez hC
  subst ez
  by_cases c1 : r2.1 = 0
  · replace ht := fh_t c1 ht
    refine ro_t c1 ?_
    refine ro_b (oi_a (hC.1 4 0 (by decide)) rfl) ?_
    obtain rfl := Option.some.inj ht
    exact ro_s ⟨rfl, hC⟩
  · replace ht := fh_f c1 ht
    refine ro_f c1 ?_
    refine ro_b (oi_o (hC.1 4 0 (by decide))) ?_
    obtain ⟨r5, e_r5, ht⟩ := fh_b ht
    refine ro_c (u_Fs_findLeads hL e_r5 hC) (fun h hC => ?_)
    refine ro_b (oi_a (hC.1 4 0 (by decide)) rfl) ?_
    obtain ⟨S7, e_S7, ht⟩ := fh_b ht
    refine ro_c (G1 := (fun z => cs_W K L hb z S7)) ⟨_, oi_p (hC.1 10 10 (by decide)) (Nat.le_of_ble_eq_true rfl), by rw [← Option.some.inj e_S7]; exact cs_w_lsize hL hC (by decide) rfl⟩ (fun h hC => ?_)
    exact L23 N 0 S7 _ hC ht
def t_FF_ring (N : Nat) (a1 : Int32) (S0 : CS) : Option (Int32 × CS) :=
  (t_Fs_allRings N S0).bind fun r3 => (tk 12 r3.1).bind fun j_o4 => (t_IL_has N j_o4 a1 r3.2).bind fun r5 => if r5 = 0 then (some ((-1), r3.2)) else ((ta (il_len j_o4) (cs_items r3.2 j_o4) a1).bind fun x7 => some (x7, r3.2))
set_option maxHeartbeats 4000000 in
theorem u_FF_ring {K : Nat → ClassId} {N : Nat} {a1 : Int32} {h0 : fh_H} {S0 : CS} {res : Int32 × CS} {L : Nat → Nat → Nat} {hb : fh_H} (hL : cs_I L) (ht : t_FF_ring N a1 S0 = some res) (hC : cs_W K L hb h0 S0) : RO (fun z => z.1 = res.1 ∧ cs_W K L hb z.2 res.2) (f_FF_ring K N (L 0 0) a1 h0) := by
  unfold t_FF_ring at ht
  unfold f_FF_ring
  refine ro_b (oi_a (hC.1 0 0 (by decide)) rfl) ?_
  refine ro_b (oi_o (hC.1 4 0 (by decide))) ?_
  obtain ⟨r3, e_r3, ht⟩ := fh_b ht
  refine ro_c (u_Fs_allRings hL e_r3 hC) (fun z hz => ?_)
  obtain ⟨z1, h⟩ := z
  obtain ⟨ez, hC⟩ := hz
  dsimp only at ez hC
  subst ez
  obtain ⟨j_o4, e_j_o4, ht⟩ := fh_b ht
  obtain ⟨ey_j_o4, hj_j_o4⟩ := tk_s e_j_o4
  rw [ey_j_o4]
  refine ro_b (oi_o (hC.1 10 j_o4 hj_j_o4)) ?_
  obtain ⟨r5, e_r5, ht⟩ := fh_b ht
  refine ro_c (u_IL_has hL e_r5 hC hj_j_o4) (fun z hz => ?_)
  subst hz
  by_cases c1 : r5 = 0
  · replace ht := fh_t c1 ht
    refine ro_t c1 ?_
    obtain rfl := Option.some.inj ht
    exact ro_s ⟨rfl, hC⟩
  · replace ht := fh_f c1 ht
    refine ro_f c1 ?_
    refine ro_b (oi_a (hC.1 10 j_o4 hj_j_o4) rfl) ?_
    obtain ⟨x7, e_x7, ht⟩ := fh_b ht
    refine ro_b ((ai_i (hC.1 11 j_o4 hj_j_o4)).trans e_x7) ?_
    obtain rfl := Option.some.inj ht
    exact ro_s ⟨rfl, hC⟩
def t_Mo_isIn (N : Nat) (a0 : Int32) (a1 : Int32) (a2 : Int32) : Option (Int32) :=
  if a0 < a1 then (some 0) else (if a2 < a0 then (some 0) else (some 1))
set_option maxHeartbeats 4000000 in
theorem u_Mo_isIn {K : Nat → ClassId} {N : Nat} {a0 : Int32} {a1 : Int32} {a2 : Int32} {h0 : fh_H} {res : Int32} (ht : t_Mo_isIn N a0 a1 a2 = some res) : RO (fun z => (res, h0) = z) (f_Mo_isIn K N a0 a1 a2 h0) := by
  unfold t_Mo_isIn at ht
  unfold f_Mo_isIn
  by_cases c2 : a0 < a1
  · replace ht := fh_t c2 ht
    refine ro_t c2 ?_
    obtain rfl := Option.some.inj ht
    exact ro_s rfl
  · replace ht := fh_f c2 ht
    refine ro_f c2 ?_
    by_cases c1 : a2 < a0
    · replace ht := fh_t c1 ht
      refine ro_t c1 ?_
      obtain rfl := Option.some.inj ht
      exact ro_s rfl
    · replace ht := fh_f c1 ht
      refine ro_f c1 ?_
      obtain rfl := Option.some.inj ht
      exact ro_s rfl
def t_Mo_mod (N : Nat) (a0 : Int64) : Option (Int64) :=
  (some (fr_l a0 1000003)).bind fun x1 => if 0 ≤ (lg_cmp x1 0) then (some x1) else (some (x1 + 1000003))
set_option maxHeartbeats 4000000 in
theorem u_Mo_mod {K : Nat → ClassId} {N : Nat} {a0 : Int64} {h0 : fh_H} {res : Int64} (ht : t_Mo_mod N a0 = some res) : RO (fun z => (res, h0) = z) (f_Mo_mod K N a0 h0) := by
  unfold t_Mo_mod at ht
  unfold f_Mo_mod
  obtain ⟨x1, e_x1, ht⟩ := fh_b ht
  refine ro_b e_x1 ?_
  by_cases c1 : 0 ≤ (lg_cmp x1 0)
  · replace ht := fh_t c1 ht
    refine ro_t c1 ?_
    obtain rfl := Option.some.inj ht
    exact ro_s rfl
  · replace ht := fh_f c1 ht
    refine ro_f c1 ?_
    obtain rfl := Option.some.inj ht
    exact ro_s rfl
def tb_Mo_inverse_41 (N : Nat) (k13 : Int64 → Int64 → Int64 → Option (Int64)) (v4 : Int64) (v6 : Int64) (w0 : Int64) : Option (Int64) :=
  (some (fr_l (v4 * v4) 1000003)).bind fun x1 => (some (v6 >>> ((1 : Int32).toInt64 &&& 63))).bind fun x2 => k13 w0 x1 x2
def tb_Mo_inverse_13 (N : Nat) (k13 : Int64 → Int64 → Int64 → Option (Int64)) (v2 : Int64) (v4 : Int64) (v6 : Int64) : Option (Int64) :=
  if (lg_cmp v6 0) ≤ 0 then (some v2) else (if (lg_cmp (v6 &&& 1) 1) = 0 then (tb_Mo_inverse_41 N k13 v4 v6 (fr_l (v2 * v4) 1000003)) else (tb_Mo_inverse_41 N k13 v4 v6 v2))
def tl_Mo_inverse_13 (N : Nat) : Nat → Int64 → Int64 → Int64 → Option (Int64)
  | 0, _, _, _ => none
  | n + 1, v2, v4, v6 => tb_Mo_inverse_13 N (tl_Mo_inverse_13 N n) v2 v4 v6
def t_Mo_inverse (N : Nat) (a0 : Int64) : Option (Int64) :=
  (t_Mo_mod N a0).bind fun r1 => tl_Mo_inverse_13 N N 1 r1 1000001
set_option maxHeartbeats 4000000 in
theorem u_Mo_inverse {K : Nat → ClassId} {N : Nat} {a0 : Int64} {h0 : fh_H} {res : Int64} (ht : t_Mo_inverse N a0 = some res) : RO (fun z => (res, h0) = z) (f_Mo_inverse K N a0 h0) := by
  have L13 : ∀ (n13 : Nat) (v2 : Int64) (v4 : Int64) (v6 : Int64), tl_Mo_inverse_13 N n13 v2 v4 v6 = some res → RO (fun z => (res, h0) = z) (l_Mo_inverse_13 K N n13 v2 v4 v6 h0) := by
    intro n13
    induction n13 with
    | zero =>
      intro v2 v4 v6 ht
      exact fh_no ht
    | succ n13 ih13 =>
      have B41 : ∀ (v4 : Int64) (v6 : Int64) (w0 : Int64), tb_Mo_inverse_41 N (tl_Mo_inverse_13 N n13) v4 v6 w0 = some res → RO (fun z => (res, h0) = z) (b_Mo_inverse_41 K N (l_Mo_inverse_13 K N n13) v4 v6 w0 h0) := by
        intro v4 v6 w0 ht
        unfold tb_Mo_inverse_41 at ht
        unfold b_Mo_inverse_41
        obtain ⟨x1, e_x1, ht⟩ := fh_b ht
        refine ro_b e_x1 ?_
        obtain ⟨x2, e_x2, ht⟩ := fh_b ht
        refine ro_b e_x2 ?_
        exact ih13 w0 x1 x2 ht
      intro v2 v4 v6 ht
      have ht : tb_Mo_inverse_13 N (tl_Mo_inverse_13 N n13) v2 v4 v6 = some res := ht
      show RO _ (b_Mo_inverse_13 K N (l_Mo_inverse_13 K N n13) v2 v4 v6 h0)
      unfold tb_Mo_inverse_13 at ht
      unfold b_Mo_inverse_13
      by_cases c2 : (lg_cmp v6 0) ≤ 0
      · replace ht := fh_t c2 ht
        refine ro_t c2 ?_
        obtain rfl := Option.some.inj ht
        exact ro_s rfl
      · replace ht := fh_f c2 ht
        refine ro_f c2 ?_
        by_cases c1 : (lg_cmp (v6 &&& 1) 1) = 0
        · replace ht := fh_t c1 ht
          refine ro_t c1 ?_
          exact B41 v4 v6 (fr_l (v2 * v4) 1000003) ht
        · replace ht := fh_f c1 ht
          refine ro_f c1 ?_
          exact B41 v4 v6 v2 ht
  unfold t_Mo_inverse at ht
  unfold f_Mo_inverse
  obtain ⟨r1, e_r1, ht⟩ := fh_b ht
  refine ro_c (u_Mo_mod e_r1) (fun z hz => ?_)
  subst hz
  exact L13 N 1 r1 1000001 ht
def t_Mo_needs1 (N : Nat) (a0 : Int32) : Option (Int32) :=
  if a0 = 0 then (some 0) else (if a0 = 1 then (some 2) else (if a0 = 2 then (some 3) else (if a0 = 3 then (some 4) else (if a0 = 4 then (some 3) else (if a0 = 5 then (some 3) else (if a0 = 6 then (some 3) else (if a0 = 7 then (some 2) else (if a0 = 8 then (some 3) else (if a0 = 9 then (some 2) else (if a0 = 10 then (some 2) else (if a0 = 11 then (some 4) else (some 3))))))))))))
set_option maxHeartbeats 4000000 in
theorem u_Mo_needs1 {K : Nat → ClassId} {N : Nat} {a0 : Int32} {h0 : fh_H} {res : Int32} (ht : t_Mo_needs1 N a0 = some res) : RO (fun z => (res, h0) = z) (f_Mo_needs1 K N a0 h0) := by
  unfold t_Mo_needs1 at ht
  unfold f_Mo_needs1
  by_cases c12 : a0 = 0
  · replace ht := fh_t c12 ht
    refine ro_t c12 ?_
    obtain rfl := Option.some.inj ht
    exact ro_s rfl
  · replace ht := fh_f c12 ht
    refine ro_f c12 ?_
    by_cases c11 : a0 = 1
    · replace ht := fh_t c11 ht
      refine ro_t c11 ?_
      obtain rfl := Option.some.inj ht
      exact ro_s rfl
    · replace ht := fh_f c11 ht
      refine ro_f c11 ?_
      by_cases c10 : a0 = 2
      · replace ht := fh_t c10 ht
        refine ro_t c10 ?_
        obtain rfl := Option.some.inj ht
        exact ro_s rfl
      · replace ht := fh_f c10 ht
        refine ro_f c10 ?_
        by_cases c9 : a0 = 3
        · replace ht := fh_t c9 ht
          refine ro_t c9 ?_
          obtain rfl := Option.some.inj ht
          exact ro_s rfl
        · replace ht := fh_f c9 ht
          refine ro_f c9 ?_
          by_cases c8 : a0 = 4
          · replace ht := fh_t c8 ht
            refine ro_t c8 ?_
            obtain rfl := Option.some.inj ht
            exact ro_s rfl
          · replace ht := fh_f c8 ht
            refine ro_f c8 ?_
            by_cases c7 : a0 = 5
            · replace ht := fh_t c7 ht
              refine ro_t c7 ?_
              obtain rfl := Option.some.inj ht
              exact ro_s rfl
            · replace ht := fh_f c7 ht
              refine ro_f c7 ?_
              by_cases c6 : a0 = 6
              · replace ht := fh_t c6 ht
                refine ro_t c6 ?_
                obtain rfl := Option.some.inj ht
                exact ro_s rfl
              · replace ht := fh_f c6 ht
                refine ro_f c6 ?_
                by_cases c5 : a0 = 7
                · replace ht := fh_t c5 ht
                  refine ro_t c5 ?_
                  obtain rfl := Option.some.inj ht
                  exact ro_s rfl
                · replace ht := fh_f c5 ht
                  refine ro_f c5 ?_
                  by_cases c4 : a0 = 8
                  · replace ht := fh_t c4 ht
                    refine ro_t c4 ?_
                    obtain rfl := Option.some.inj ht
                    exact ro_s rfl
                  · replace ht := fh_f c4 ht
                    refine ro_f c4 ?_
                    by_cases c3 : a0 = 9
                    · replace ht := fh_t c3 ht
                      refine ro_t c3 ?_
                      obtain rfl := Option.some.inj ht
                      exact ro_s rfl
                    · replace ht := fh_f c3 ht
                      refine ro_f c3 ?_
                      by_cases c2 : a0 = 10
                      · replace ht := fh_t c2 ht
                        refine ro_t c2 ?_
                        obtain rfl := Option.some.inj ht
                        exact ro_s rfl
                      · replace ht := fh_f c2 ht
                        refine ro_f c2 ?_
                        by_cases c1 : a0 = 11
                        · replace ht := fh_t c1 ht
                          refine ro_t c1 ?_
                          obtain rfl := Option.some.inj ht
                          exact ro_s rfl
                        · replace ht := fh_f c1 ht
                          refine ro_f c1 ?_
                          obtain rfl := Option.some.inj ht
                          exact ro_s rfl
def t_Mo_drawn (N : Nat)  (S0 : MS) : Option (Int64 × MS) :=
  (some (ms_rnd S0)).bind fun x1 => (some (ms_set_rnd S0 (fr_l (x1 * 48271) 2147483647))).bind fun S2 => (some (ms_rnd S2)).bind fun x3 => some (fr_l x3 1000003, S2)
set_option maxHeartbeats 4000000 in
theorem u_Mo_drawn {K : Nat → ClassId} {N : Nat} {h0 : fh_H} {S0 : MS} {res : Int64 × MS} {L : Nat → Nat → Nat} {hb : fh_H} (hL : ms_I L) (ht : t_Mo_drawn N  S0 = some res) (hC : ms_W K L hb h0 S0) : RO (fun z => z.1 = res.1 ∧ ms_W K L hb z.2 res.2) (f_Mo_drawn K N (L 0 0)  h0) := by
  unfold t_Mo_drawn at ht
  unfold f_Mo_drawn
  obtain ⟨x1, e_x1, ht⟩ := fh_b ht
  refine ro_b ((oi_l (hC.1 0 0 (by decide)) rfl).trans e_x1) ?_
  obtain ⟨S2, e_S2, ht⟩ := fh_b ht
  refine ro_c (G1 := (fun z => ms_W K L hb z S2)) ⟨_, oi_p (hC.1 0 0 (by decide)) (Nat.le_of_ble_eq_true rfl), by rw [← Option.some.inj e_S2]; exact ms_w_rnd hL hC rfl⟩ (fun h hC => ?_)
  obtain ⟨x3, e_x3, ht⟩ := fh_b ht
  refine ro_b ((oi_l (hC.1 0 0 (by decide)) rfl).trans e_x3) ?_
  obtain rfl := Option.some.inj ht
  exact ro_s ⟨rfl, hC⟩
def t_Mo_px (N : Nat) (a1 : Int32) (S0 : MS) : Option (Int64) :=
  (some (ms_figure S0)).bind fun x2 => (ta 50 (ms_xs S0) ((10 * x2) + a1)).bind fun x3 => some x3
set_option maxHeartbeats 4000000 in
theorem u_Mo_px {K : Nat → ClassId} {N : Nat} {a1 : Int32} {h0 : fh_H} {S0 : MS} {res : Int64} {L : Nat → Nat → Nat} {hb : fh_H} (hL : ms_I L) (ht : t_Mo_px N a1 S0 = some res) (hC : ms_W K L hb h0 S0) : RO (fun z => (res, h0) = z) (f_Mo_px K N (L 0 0) a1 h0) := by
  unfold t_Mo_px at ht
  unfold f_Mo_px
  refine ro_b (oi_a (hC.1 0 0 (by decide)) rfl) ?_
  obtain ⟨x2, e_x2, ht⟩ := fh_b ht
  refine ro_b ((oi_i (hC.1 0 0 (by decide)) rfl).trans e_x2) ?_
  obtain ⟨x3, e_x3, ht⟩ := fh_b ht
  refine ro_b ((ai_l (hC.1 3 0 (by decide))).trans e_x3) ?_
  obtain rfl := Option.some.inj ht
  exact ro_s rfl
def t_Mo_py (N : Nat) (a1 : Int32) (S0 : MS) : Option (Int64) :=
  (some (ms_figure S0)).bind fun x2 => (ta 50 (ms_ys S0) ((10 * x2) + a1)).bind fun x3 => some x3
set_option maxHeartbeats 4000000 in
theorem u_Mo_py {K : Nat → ClassId} {N : Nat} {a1 : Int32} {h0 : fh_H} {S0 : MS} {res : Int64} {L : Nat → Nat → Nat} {hb : fh_H} (hL : ms_I L) (ht : t_Mo_py N a1 S0 = some res) (hC : ms_W K L hb h0 S0) : RO (fun z => (res, h0) = z) (f_Mo_py K N (L 0 0) a1 h0) := by
  unfold t_Mo_py at ht
  unfold f_Mo_py
  refine ro_b (oi_a (hC.1 0 0 (by decide)) rfl) ?_
  obtain ⟨x2, e_x2, ht⟩ := fh_b ht
  refine ro_b ((oi_i (hC.1 0 0 (by decide)) rfl).trans e_x2) ?_
  obtain ⟨x3, e_x3, ht⟩ := fh_b ht
  refine ro_b ((ai_l (hC.1 4 0 (by decide))).trans e_x3) ?_
  obtain rfl := Option.some.inj ht
  exact ro_s rfl
def t_Mo_cross (N : Nat) (a1 : Int32) (a2 : Int32) (a3 : Int32) (a4 : Int32) (S0 : MS) : Option (Int64) :=
  (t_Mo_px N a2 S0).bind fun r2 => (t_Mo_px N a1 S0).bind fun r4 => (t_Mo_py N a4 S0).bind fun r6 => (t_Mo_py N a3 S0).bind fun r8 => (t_Mo_py N a2 S0).bind fun r10 => (t_Mo_py N a1 S0).bind fun r12 => (t_Mo_px N a4 S0).bind fun r14 => (t_Mo_px N a3 S0).bind fun r16 => (some (((r2 - r4) * (r6 - r8)) - ((r10 - r12) * (r14 - r16)))).bind fun x17 => (t_Mo_mod N x17).bind fun r18 => some r18
set_option maxHeartbeats 4000000 in
theorem u_Mo_cross {K : Nat → ClassId} {N : Nat} {a1 : Int32} {a2 : Int32} {a3 : Int32} {a4 : Int32} {h0 : fh_H} {S0 : MS} {res : Int64} {L : Nat → Nat → Nat} {hb : fh_H} (hL : ms_I L) (ht : t_Mo_cross N a1 a2 a3 a4 S0 = some res) (hC : ms_W K L hb h0 S0) : RO (fun z => (res, h0) = z) (f_Mo_cross K N (L 0 0) a1 a2 a3 a4 h0) := by
  unfold t_Mo_cross at ht
  unfold f_Mo_cross
  refine ro_b (oi_o (hC.1 0 0 (by decide))) ?_
  obtain ⟨r2, e_r2, ht⟩ := fh_b ht
  refine ro_c (u_Mo_px hL e_r2 hC) (fun z hz => ?_)
  subst hz
  refine ro_b (oi_o (hC.1 0 0 (by decide))) ?_
  obtain ⟨r4, e_r4, ht⟩ := fh_b ht
  refine ro_c (u_Mo_px hL e_r4 hC) (fun z hz => ?_)
  subst hz
  refine ro_b (oi_o (hC.1 0 0 (by decide))) ?_
  obtain ⟨r6, e_r6, ht⟩ := fh_b ht
  refine ro_c (u_Mo_py hL e_r6 hC) (fun z hz => ?_)
  subst hz
  refine ro_b (oi_o (hC.1 0 0 (by decide))) ?_
  obtain ⟨r8, e_r8, ht⟩ := fh_b ht
  refine ro_c (u_Mo_py hL e_r8 hC) (fun z hz => ?_)
  subst hz
  refine ro_b (oi_o (hC.1 0 0 (by decide))) ?_
  obtain ⟨r10, e_r10, ht⟩ := fh_b ht
  refine ro_c (u_Mo_py hL e_r10 hC) (fun z hz => ?_)
  subst hz
  refine ro_b (oi_o (hC.1 0 0 (by decide))) ?_
  obtain ⟨r12, e_r12, ht⟩ := fh_b ht
  refine ro_c (u_Mo_py hL e_r12 hC) (fun z hz => ?_)
  subst hz
  refine ro_b (oi_o (hC.1 0 0 (by decide))) ?_
  obtain ⟨r14, e_r14, ht⟩ := fh_b ht
  refine ro_c (u_Mo_px hL e_r14 hC) (fun z hz => ?_)
  subst hz
  refine ro_b (oi_o (hC.1 0 0 (by decide))) ?_
  obtain ⟨r16, e_r16, ht⟩ := fh_b ht
  refine ro_c (u_Mo_px hL e_r16 hC) (fun z hz => ?_)
  subst hz
  obtain ⟨x17, e_x17, ht⟩ := fh_b ht
  refine ro_b e_x17 ?_
  obtain ⟨r18, e_r18, ht⟩ := fh_b ht
  refine ro_c (u_Mo_mod e_r18) (fun z hz => ?_)
  subst hz
  obtain rfl := Option.some.inj ht
  exact ro_s rfl
def t_Mo_dot (N : Nat) (a1 : Int32) (a2 : Int32) (a3 : Int32) (a4 : Int32) (S0 : MS) : Option (Int64) :=
  (t_Mo_px N a2 S0).bind fun r2 => (t_Mo_px N a1 S0).bind fun r4 => (t_Mo_px N a4 S0).bind fun r6 => (t_Mo_px N a3 S0).bind fun r8 => (t_Mo_py N a2 S0).bind fun r10 => (t_Mo_py N a1 S0).bind fun r12 => (t_Mo_py N a4 S0).bind fun r14 => (t_Mo_py N a3 S0).bind fun r16 => (some (((r2 - r4) * (r6 - r8)) + ((r10 - r12) * (r14 - r16)))).bind fun x17 => (t_Mo_mod N x17).bind fun r18 => some r18
set_option maxHeartbeats 4000000 in
theorem u_Mo_dot {K : Nat → ClassId} {N : Nat} {a1 : Int32} {a2 : Int32} {a3 : Int32} {a4 : Int32} {h0 : fh_H} {S0 : MS} {res : Int64} {L : Nat → Nat → Nat} {hb : fh_H} (hL : ms_I L) (ht : t_Mo_dot N a1 a2 a3 a4 S0 = some res) (hC : ms_W K L hb h0 S0) : RO (fun z => (res, h0) = z) (f_Mo_dot K N (L 0 0) a1 a2 a3 a4 h0) := by
  unfold t_Mo_dot at ht
  unfold f_Mo_dot
  refine ro_b (oi_o (hC.1 0 0 (by decide))) ?_
  obtain ⟨r2, e_r2, ht⟩ := fh_b ht
  refine ro_c (u_Mo_px hL e_r2 hC) (fun z hz => ?_)
  subst hz
  refine ro_b (oi_o (hC.1 0 0 (by decide))) ?_
  obtain ⟨r4, e_r4, ht⟩ := fh_b ht
  refine ro_c (u_Mo_px hL e_r4 hC) (fun z hz => ?_)
  subst hz
  refine ro_b (oi_o (hC.1 0 0 (by decide))) ?_
  obtain ⟨r6, e_r6, ht⟩ := fh_b ht
  refine ro_c (u_Mo_px hL e_r6 hC) (fun z hz => ?_)
  subst hz
  refine ro_b (oi_o (hC.1 0 0 (by decide))) ?_
  obtain ⟨r8, e_r8, ht⟩ := fh_b ht
  refine ro_c (u_Mo_px hL e_r8 hC) (fun z hz => ?_)
  subst hz
  refine ro_b (oi_o (hC.1 0 0 (by decide))) ?_
  obtain ⟨r10, e_r10, ht⟩ := fh_b ht
  refine ro_c (u_Mo_py hL e_r10 hC) (fun z hz => ?_)
  subst hz
  refine ro_b (oi_o (hC.1 0 0 (by decide))) ?_
  obtain ⟨r12, e_r12, ht⟩ := fh_b ht
  refine ro_c (u_Mo_py hL e_r12 hC) (fun z hz => ?_)
  subst hz
  refine ro_b (oi_o (hC.1 0 0 (by decide))) ?_
  obtain ⟨r14, e_r14, ht⟩ := fh_b ht
  refine ro_c (u_Mo_py hL e_r14 hC) (fun z hz => ?_)
  subst hz
  refine ro_b (oi_o (hC.1 0 0 (by decide))) ?_
  obtain ⟨r16, e_r16, ht⟩ := fh_b ht
  refine ro_c (u_Mo_py hL e_r16 hC) (fun z hz => ?_)
  subst hz
  obtain ⟨x17, e_x17, ht⟩ := fh_b ht
  refine ro_b e_x17 ?_
  obtain ⟨r18, e_r18, ht⟩ := fh_b ht
  refine ro_c (u_Mo_mod e_r18) (fun z hz => ?_)
  subst hz
  obtain rfl := Option.some.inj ht
  exact ro_s rfl
def t_Mo_along (N : Nat) (a1 : Int32) (a2 : Int32) (a3 : Int64) (S0 : MS) : Option (MS) :=
  (t_Mo_px N a1 S0).bind fun r2 => (t_Mo_px N a2 S0).bind fun r4 => (t_Mo_px N a1 S0).bind fun r6 => (t_Mo_mod N (r2 + ((r4 - r6) * a3))).bind fun r7 => (some (ms_set_px S0 r7)).bind fun S8 => (t_Mo_py N a1 S8).bind fun r10 => (t_Mo_py N a2 S8).bind fun r12 => (t_Mo_py N a1 S8).bind fun r14 => (t_Mo_mod N (r10 + ((r12 - r14) * a3))).bind fun r15 => (some (ms_set_py S8 r15)).bind fun S16 => some S16
set_option maxHeartbeats 4000000 in
theorem u_Mo_along {K : Nat → ClassId} {N : Nat} {a1 : Int32} {a2 : Int32} {a3 : Int64} {h0 : fh_H} {S0 : MS} {res : MS} {L : Nat → Nat → Nat} {hb : fh_H} (hL : ms_I L) (ht : t_Mo_along N a1 a2 a3 S0 = some res) (hC : ms_W K L hb h0 S0) : RO (fun z => ms_W K L hb z res) (f_Mo_along K N (L 0 0) a1 a2 a3 h0) := by
  unfold t_Mo_along at ht
  unfold f_Mo_along
  refine ro_b (oi_o (hC.1 0 0 (by decide))) ?_
  obtain ⟨r2, e_r2, ht⟩ := fh_b ht
  refine ro_c (u_Mo_px hL e_r2 hC) (fun z hz => ?_)
  subst hz
  refine ro_b (oi_o (hC.1 0 0 (by decide))) ?_
  obtain ⟨r4, e_r4, ht⟩ := fh_b ht
  refine ro_c (u_Mo_px hL e_r4 hC) (fun z hz => ?_)
  subst hz
  refine ro_b (oi_o (hC.1 0 0 (by decide))) ?_
  obtain ⟨r6, e_r6, ht⟩ := fh_b ht
  refine ro_c (u_Mo_px hL e_r6 hC) (fun z hz => ?_)
  subst hz
  obtain ⟨r7, e_r7, ht⟩ := fh_b ht
  refine ro_c (u_Mo_mod e_r7) (fun z hz => ?_)
  subst hz
  obtain ⟨S8, e_S8, ht⟩ := fh_b ht
  refine ro_c (G1 := (fun z => ms_W K L hb z S8)) ⟨_, oi_p (hC.1 0 0 (by decide)) (Nat.le_of_ble_eq_true rfl), by rw [← Option.some.inj e_S8]; exact ms_w_px hL hC rfl⟩ (fun h hC => ?_)
  refine ro_b (oi_o (hC.1 0 0 (by decide))) ?_
  obtain ⟨r10, e_r10, ht⟩ := fh_b ht
  refine ro_c (u_Mo_py hL e_r10 hC) (fun z hz => ?_)
  subst hz
  refine ro_b (oi_o (hC.1 0 0 (by decide))) ?_
  obtain ⟨r12, e_r12, ht⟩ := fh_b ht
  refine ro_c (u_Mo_py hL e_r12 hC) (fun z hz => ?_)
  subst hz
  refine ro_b (oi_o (hC.1 0 0 (by decide))) ?_
  obtain ⟨r14, e_r14, ht⟩ := fh_b ht
  refine ro_c (u_Mo_py hL e_r14 hC) (fun z hz => ?_)
  subst hz
  obtain ⟨r15, e_r15, ht⟩ := fh_b ht
  refine ro_c (u_Mo_mod e_r15) (fun z hz => ?_)
  subst hz
  obtain ⟨S16, e_S16, ht⟩ := fh_b ht
  refine ro_c (G1 := (fun z => ms_W K L hb z S16)) ⟨_, oi_p (hC.1 0 0 (by decide)) (Nat.le_of_ble_eq_true rfl), by rw [← Option.some.inj e_S16]; exact ms_w_py hL hC rfl⟩ (fun h hC => ?_)
  obtain rfl := Option.some.inj ht
  exact ro_s hC
def t_Mo_foot (N : Nat) (a1 : Int64) (a3 : Int64) (a5 : Int32) (a6 : Int32) (S0 : MS) : Option (MS) :=
  (t_Mo_dot N a5 a6 a5 a6 S0).bind fun r2 => if (lg_cmp r2 0) = 0 then ((tz 1).bind fun z24 => (some (ms_set_isFallen S0 z24)).bind fun S24 => some S24) else ((t_Mo_px N a5 S0).bind fun r4 => (t_Mo_mod N (a1 - r4)).bind fun r5 => (t_Mo_px N a6 S0).bind fun r7 => (t_Mo_px N a5 S0).bind fun r9 => (t_Mo_mod N (r7 - r9)).bind fun r10 => (t_Mo_py N a5 S0).bind fun r12 => (t_Mo_mod N (a3 - r12)).bind fun r13 => (t_Mo_py N a6 S0).bind fun r15 => (t_Mo_py N a5 S0).bind fun r17 => (t_Mo_mod N (r15 - r17)).bind fun r18 => (some ((fr_l (r5 * r10) 1000003) + (fr_l (r13 * r18) 1000003))).bind fun x19 => (t_Mo_mod N x19).bind fun r20 => (t_Mo_inverse N r2).bind fun r21 => (t_Mo_along N a5 a6 (fr_l (r20 * r21) 1000003) S0).bind fun r23 => some r23)
set_option maxHeartbeats 4000000 in
theorem u_Mo_foot {K : Nat → ClassId} {N : Nat} {a1 : Int64} {a3 : Int64} {a5 : Int32} {a6 : Int32} {h0 : fh_H} {S0 : MS} {res : MS} {L : Nat → Nat → Nat} {hb : fh_H} (hL : ms_I L) (ht : t_Mo_foot N a1 a3 a5 a6 S0 = some res) (hC : ms_W K L hb h0 S0) : RO (fun z => ms_W K L hb z res) (f_Mo_foot K N (L 0 0) a1 a3 a5 a6 h0) := by
  unfold t_Mo_foot at ht
  unfold f_Mo_foot
  refine ro_b (oi_o (hC.1 0 0 (by decide))) ?_
  obtain ⟨r2, e_r2, ht⟩ := fh_b ht
  refine ro_c (u_Mo_dot hL e_r2 hC) (fun z hz => ?_)
  subst hz
  by_cases c1 : (lg_cmp r2 0) = 0
  · replace ht := fh_t c1 ht
    refine ro_t c1 ?_
    obtain ⟨z24, e_z24, ht⟩ := fh_b ht
    obtain ⟨hz_z24, ez_z24⟩ := tz_s e_z24
    obtain ⟨S24, e_S24, ht⟩ := fh_b ht
    refine ro_c (G1 := (fun z => ms_W K L hb z S24)) ⟨_, oi_z (hC.1 0 0 (by decide)) (Nat.le_of_ble_eq_true rfl) hz_z24, by rw [← Option.some.inj e_S24, ← ez_z24]; exact ms_w_isFallen hL hC rfl⟩ (fun h hC => ?_)
    obtain rfl := Option.some.inj ht
    exact ro_s hC
  · replace ht := fh_f c1 ht
    refine ro_f c1 ?_
    refine ro_b (oi_o (hC.1 0 0 (by decide))) ?_
    obtain ⟨r4, e_r4, ht⟩ := fh_b ht
    refine ro_c (u_Mo_px hL e_r4 hC) (fun z hz => ?_)
    subst hz
    obtain ⟨r5, e_r5, ht⟩ := fh_b ht
    refine ro_c (u_Mo_mod e_r5) (fun z hz => ?_)
    subst hz
    refine ro_b (oi_o (hC.1 0 0 (by decide))) ?_
    obtain ⟨r7, e_r7, ht⟩ := fh_b ht
    refine ro_c (u_Mo_px hL e_r7 hC) (fun z hz => ?_)
    subst hz
    refine ro_b (oi_o (hC.1 0 0 (by decide))) ?_
    obtain ⟨r9, e_r9, ht⟩ := fh_b ht
    refine ro_c (u_Mo_px hL e_r9 hC) (fun z hz => ?_)
    subst hz
    obtain ⟨r10, e_r10, ht⟩ := fh_b ht
    refine ro_c (u_Mo_mod e_r10) (fun z hz => ?_)
    subst hz
    refine ro_b (oi_o (hC.1 0 0 (by decide))) ?_
    obtain ⟨r12, e_r12, ht⟩ := fh_b ht
    refine ro_c (u_Mo_py hL e_r12 hC) (fun z hz => ?_)
    subst hz
    obtain ⟨r13, e_r13, ht⟩ := fh_b ht
    refine ro_c (u_Mo_mod e_r13) (fun z hz => ?_)
    subst hz
    refine ro_b (oi_o (hC.1 0 0 (by decide))) ?_
    obtain ⟨r15, e_r15, ht⟩ := fh_b ht
    refine ro_c (u_Mo_py hL e_r15 hC) (fun z hz => ?_)
    subst hz
    refine ro_b (oi_o (hC.1 0 0 (by decide))) ?_
    obtain ⟨r17, e_r17, ht⟩ := fh_b ht
    refine ro_c (u_Mo_py hL e_r17 hC) (fun z hz => ?_)
    subst hz
    obtain ⟨r18, e_r18, ht⟩ := fh_b ht
    refine ro_c (u_Mo_mod e_r18) (fun z hz => ?_)
    subst hz
    obtain ⟨x19, e_x19, ht⟩ := fh_b ht
    refine ro_b e_x19 ?_
    obtain ⟨r20, e_r20, ht⟩ := fh_b ht
    refine ro_c (u_Mo_mod e_r20) (fun z hz => ?_)
    subst hz
    obtain ⟨r21, e_r21, ht⟩ := fh_b ht
    refine ro_c (u_Mo_inverse e_r21) (fun z hz => ?_)
    subst hz
    refine ro_b (oi_o (hC.1 0 0 (by decide))) ?_
    obtain ⟨r23, e_r23, ht⟩ := fh_b ht
    refine ro_c (u_Mo_along hL e_r23 hC) (fun h hC => ?_)
    obtain rfl := Option.some.inj ht
    exact ro_s hC
