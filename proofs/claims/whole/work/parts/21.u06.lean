def tb_Mo_isOrdered_360 (N : Nat) (v1 : Int32) (w0 : Int32) (S : MS) : Option (Int32) :=
  if w0 = 0 then (some 0) else (if v1 = 2 then ((ta 6 (ms_row S) 0).bind fun x2 => (ta 6 (ms_row S) 2).bind fun x4 => if x2 = x4 then (some 0) else ((ta 6 (ms_row S) 1).bind fun x6 => (ta 6 (ms_row S) 2).bind fun x8 => if x6 = x8 then (some 0) else ((ta 6 (ms_row S) 1).bind fun x10 => (ta 6 (ms_row S) 3).bind fun x12 => if x10 = x12 then (some 0) else ((ta 6 (ms_row S) 0).bind fun x14 => (ta 6 (ms_row S) 3).bind fun x16 => if x14 = x16 then (some 0) else (some 1))))) else (some 1))
def tb_Mo_isOrdered_355 (N : Nat) (v1 : Int32) (S : MS) : Option (Int32) :=
  tb_Mo_isOrdered_360 N v1 1 S
def tb_Mo_isOrdered_359 (N : Nat) (v1 : Int32) (S : MS) : Option (Int32) :=
  tb_Mo_isOrdered_360 N v1 0 S
def t_Mo_isOrdered (N : Nat) (a1 : Int32) (S0 : MS) : Option (Int32) :=
  if a1 = 0 then ((ta 6 (ms_row S0) 0).bind fun x22 => (ta 6 (ms_row S0) 1).bind fun x24 => if x24 ≤ x22 then (some 0) else (some 1)) else (if a1 = 1 then ((ta 6 (ms_row S0) 0).bind fun x26 => (ta 6 (ms_row S0) 1).bind fun x28 => if x28 ≤ x26 then (some 0) else ((ta 6 (ms_row S0) 1).bind fun x30 => (ta 6 (ms_row S0) 2).bind fun x32 => if x32 ≤ x30 then (some 0) else (some 1))) else (if a1 = 2 then ((ta 6 (ms_row S0) 0).bind fun x34 => (ta 6 (ms_row S0) 1).bind fun x36 => if x36 ≤ x34 then (tb_Mo_isOrdered_359 N a1 S0) else ((ta 6 (ms_row S0) 2).bind fun x38 => (ta 6 (ms_row S0) 3).bind fun x40 => if x40 ≤ x38 then (tb_Mo_isOrdered_359 N a1 S0) else ((ta 6 (ms_row S0) 0).bind fun x42 => (ta 6 (ms_row S0) 2).bind fun x44 => if x42 < x44 then (tb_Mo_isOrdered_355 N a1 S0) else ((ta 6 (ms_row S0) 0).bind fun x46 => (ta 6 (ms_row S0) 2).bind fun x48 => if x46 = x48 then ((ta 6 (ms_row S0) 1).bind fun x50 => (ta 6 (ms_row S0) 3).bind fun x52 => if x52 ≤ x50 then (tb_Mo_isOrdered_359 N a1 S0) else (tb_Mo_isOrdered_355 N a1 S0)) else (tb_Mo_isOrdered_359 N a1 S0))))) else (if a1 = 3 then ((ta 6 (ms_row S0) 0).bind fun x54 => (ta 6 (ms_row S0) 1).bind fun x56 => if x56 ≤ x54 then (tb_Mo_isOrdered_359 N a1 S0) else ((ta 6 (ms_row S0) 2).bind fun x58 => (ta 6 (ms_row S0) 3).bind fun x60 => if x60 ≤ x58 then (tb_Mo_isOrdered_359 N a1 S0) else ((ta 6 (ms_row S0) 0).bind fun x62 => (ta 6 (ms_row S0) 2).bind fun x64 => if x62 < x64 then (tb_Mo_isOrdered_355 N a1 S0) else ((ta 6 (ms_row S0) 0).bind fun x66 => (ta 6 (ms_row S0) 2).bind fun x68 => if x66 = x68 then ((ta 6 (ms_row S0) 1).bind fun x70 => (ta 6 (ms_row S0) 3).bind fun x72 => if x72 ≤ x70 then (tb_Mo_isOrdered_359 N a1 S0) else (tb_Mo_isOrdered_355 N a1 S0)) else (tb_Mo_isOrdered_359 N a1 S0))))) else (if a1 = 4 then ((ta 6 (ms_row S0) 0).bind fun x74 => (ta 6 (ms_row S0) 1).bind fun x76 => if x76 ≤ x74 then (tb_Mo_isOrdered_359 N a1 S0) else ((ta 6 (ms_row S0) 2).bind fun x78 => (ta 6 (ms_row S0) 3).bind fun x80 => if x80 ≤ x78 then (tb_Mo_isOrdered_359 N a1 S0) else ((ta 6 (ms_row S0) 0).bind fun x82 => (ta 6 (ms_row S0) 2).bind fun x84 => if x82 < x84 then (tb_Mo_isOrdered_355 N a1 S0) else ((ta 6 (ms_row S0) 0).bind fun x86 => (ta 6 (ms_row S0) 2).bind fun x88 => if x86 = x88 then ((ta 6 (ms_row S0) 1).bind fun x90 => (ta 6 (ms_row S0) 3).bind fun x92 => if x92 ≤ x90 then (tb_Mo_isOrdered_359 N a1 S0) else (tb_Mo_isOrdered_355 N a1 S0)) else (tb_Mo_isOrdered_359 N a1 S0))))) else (if a1 = 5 then ((ta 6 (ms_row S0) 0).bind fun x94 => (ta 6 (ms_row S0) 1).bind fun x96 => if x96 ≤ x94 then (some 0) else ((ta 6 (ms_row S0) 1).bind fun x98 => (ta 6 (ms_row S0) 2).bind fun x100 => if x100 ≤ x98 then (some 0) else ((ta 6 (ms_row S0) 2).bind fun x102 => (ta 6 (ms_row S0) 3).bind fun x104 => if x104 ≤ x102 then (some 0) else (some 1)))) else (if a1 = 6 then ((ta 6 (ms_row S0) 1).bind fun x106 => (ta 6 (ms_row S0) 2).bind fun x108 => if x108 ≤ x106 then (some 0) else ((ta 6 (ms_row S0) 0).bind fun x110 => (ta 6 (ms_row S0) 1).bind fun x112 => if x110 = x112 then (some 0) else ((ta 6 (ms_row S0) 0).bind fun x114 => (ta 6 (ms_row S0) 2).bind fun x116 => if x114 = x116 then (some 0) else (some 1)))) else (if a1 = 7 then ((ta 6 (ms_row S0) 0).bind fun x118 => (ta 6 (ms_row S0) 1).bind fun x120 => if x120 ≤ x118 then (some 0) else ((ta 6 (ms_row S0) 1).bind fun x122 => (ta 6 (ms_row S0) 2).bind fun x124 => if x124 ≤ x122 then (some 0) else ((ta 6 (ms_row S0) 3).bind fun x126 => (ta 6 (ms_row S0) 4).bind fun x128 => if x128 ≤ x126 then (some 0) else ((ta 6 (ms_row S0) 4).bind fun x130 => (ta 6 (ms_row S0) 5).bind fun x132 => if x132 ≤ x130 then (some 0) else ((t_Mo_isBefore N S0).bind fun r134 => if r134 = 0 then (some 0) else (some 1)))))) else ((ta 6 (ms_row S0) 0).bind fun x2 => (ta 6 (ms_row S0) 1).bind fun x4 => if x4 ≤ x2 then (tb_Mo_isOrdered_359 N a1 S0) else ((ta 6 (ms_row S0) 2).bind fun x6 => (ta 6 (ms_row S0) 3).bind fun x8 => if x8 ≤ x6 then (tb_Mo_isOrdered_359 N a1 S0) else ((ta 6 (ms_row S0) 0).bind fun x10 => (ta 6 (ms_row S0) 2).bind fun x12 => if x10 < x12 then (tb_Mo_isOrdered_355 N a1 S0) else ((ta 6 (ms_row S0) 0).bind fun x14 => (ta 6 (ms_row S0) 2).bind fun x16 => if x14 = x16 then ((ta 6 (ms_row S0) 1).bind fun x18 => (ta 6 (ms_row S0) 3).bind fun x20 => if x20 ≤ x18 then (tb_Mo_isOrdered_359 N a1 S0) else (tb_Mo_isOrdered_355 N a1 S0)) else (tb_Mo_isOrdered_359 N a1 S0))))))))))))
set_option maxHeartbeats 4000000 in
theorem u_Mo_isOrdered {K : Nat → ClassId} {N : Nat} {a1 : Int32} {h0 : fh_H} {S0 : MS} {res : Int32} {L : Nat → Nat → Nat} {hb : fh_H} (hL : ms_I L) (ht : t_Mo_isOrdered N a1 S0 = some res) (hC : ms_W K L hb h0 S0) : RO (fun z => (res, h0) = z) (f_Mo_isOrdered K N (L 0 0) a1 h0) := by
  have B360 : ∀ (v1 : Int32) (w0 : Int32), tb_Mo_isOrdered_360 N v1 w0 S0 = some res → RO (fun z => (res, h0) = z) (b_Mo_isOrdered_360 K N (L 0 0) v1 w0 h0) := by
    intro v1 w0 ht
    unfold tb_Mo_isOrdered_360 at ht
    unfold b_Mo_isOrdered_360
    by_cases c6 : w0 = 0
    · replace ht := fh_t c6 ht
      refine ro_t c6 ?_
      obtain rfl := Option.some.inj ht
      exact ro_s rfl
    · replace ht := fh_f c6 ht
      refine ro_f c6 ?_
      by_cases c5 : v1 = 2
      · replace ht := fh_t c5 ht
        refine ro_t c5 ?_
        refine ro_b (oi_a (hC.1 0 0 (by decide)) rfl) ?_
        obtain ⟨x2, e_x2, ht⟩ := fh_b ht
        refine ro_b ((ai_i (hC.1 6 0 (by decide))).trans e_x2) ?_
        refine ro_b (oi_a (hC.1 0 0 (by decide)) rfl) ?_
        obtain ⟨x4, e_x4, ht⟩ := fh_b ht
        refine ro_b ((ai_i (hC.1 6 0 (by decide))).trans e_x4) ?_
        by_cases c4 : x2 = x4
        · replace ht := fh_t c4 ht
          refine ro_t c4 ?_
          obtain rfl := Option.some.inj ht
          exact ro_s rfl
        · replace ht := fh_f c4 ht
          refine ro_f c4 ?_
          refine ro_b (oi_a (hC.1 0 0 (by decide)) rfl) ?_
          obtain ⟨x6, e_x6, ht⟩ := fh_b ht
          refine ro_b ((ai_i (hC.1 6 0 (by decide))).trans e_x6) ?_
          refine ro_b (oi_a (hC.1 0 0 (by decide)) rfl) ?_
          obtain ⟨x8, e_x8, ht⟩ := fh_b ht
          refine ro_b ((ai_i (hC.1 6 0 (by decide))).trans e_x8) ?_
          by_cases c3 : x6 = x8
          · replace ht := fh_t c3 ht
            refine ro_t c3 ?_
            obtain rfl := Option.some.inj ht
            exact ro_s rfl
          · replace ht := fh_f c3 ht
            refine ro_f c3 ?_
            refine ro_b (oi_a (hC.1 0 0 (by decide)) rfl) ?_
            obtain ⟨x10, e_x10, ht⟩ := fh_b ht
            refine ro_b ((ai_i (hC.1 6 0 (by decide))).trans e_x10) ?_
            refine ro_b (oi_a (hC.1 0 0 (by decide)) rfl) ?_
            obtain ⟨x12, e_x12, ht⟩ := fh_b ht
            refine ro_b ((ai_i (hC.1 6 0 (by decide))).trans e_x12) ?_
            by_cases c2 : x10 = x12
            · replace ht := fh_t c2 ht
              refine ro_t c2 ?_
              obtain rfl := Option.some.inj ht
              exact ro_s rfl
            · replace ht := fh_f c2 ht
              refine ro_f c2 ?_
              refine ro_b (oi_a (hC.1 0 0 (by decide)) rfl) ?_
              obtain ⟨x14, e_x14, ht⟩ := fh_b ht
              refine ro_b ((ai_i (hC.1 6 0 (by decide))).trans e_x14) ?_
              refine ro_b (oi_a (hC.1 0 0 (by decide)) rfl) ?_
              obtain ⟨x16, e_x16, ht⟩ := fh_b ht
              refine ro_b ((ai_i (hC.1 6 0 (by decide))).trans e_x16) ?_
              by_cases c1 : x14 = x16
              · replace ht := fh_t c1 ht
                refine ro_t c1 ?_
                obtain rfl := Option.some.inj ht
                exact ro_s rfl
              · replace ht := fh_f c1 ht
                refine ro_f c1 ?_
                obtain rfl := Option.some.inj ht
                exact ro_s rfl
      · replace ht := fh_f c5 ht
        refine ro_f c5 ?_
        obtain rfl := Option.some.inj ht
        exact ro_s rfl
  have B355 : ∀ (v1 : Int32), tb_Mo_isOrdered_355 N v1 S0 = some res → RO (fun z => (res, h0) = z) (b_Mo_isOrdered_355 K N (L 0 0) v1 h0) := by
    intro v1 ht
    unfold tb_Mo_isOrdered_355 at ht
    unfold b_Mo_isOrdered_355
    exact B360 v1 1 ht
  have B359 : ∀ (v1 : Int32), tb_Mo_isOrdered_359 N v1 S0 = some res → RO (fun z => (res, h0) = z) (b_Mo_isOrdered_359 K N (L 0 0) v1 h0) := by
    intro v1 ht
    unfold tb_Mo_isOrdered_359 at ht
    unfold b_Mo_isOrdered_359
    exact B360 v1 0 ht
  unfold t_Mo_isOrdered at ht
  unfold f_Mo_isOrdered
  by_cases c42 : a1 = 0
  · replace ht := fh_t c42 ht
    refine ro_t c42 ?_
    refine ro_b (oi_a (hC.1 0 0 (by decide)) rfl) ?_
    obtain ⟨x22, e_x22, ht⟩ := fh_b ht
    refine ro_b ((ai_i (hC.1 6 0 (by decide))).trans e_x22) ?_
    refine ro_b (oi_a (hC.1 0 0 (by decide)) rfl) ?_
    obtain ⟨x24, e_x24, ht⟩ := fh_b ht
    refine ro_b ((ai_i (hC.1 6 0 (by decide))).trans e_x24) ?_
    by_cases c1 : x24 ≤ x22
    · replace ht := fh_t c1 ht
      refine ro_t c1 ?_
      obtain rfl := Option.some.inj ht
      exact ro_s rfl
    · replace ht := fh_f c1 ht
      refine ro_f c1 ?_
      obtain rfl := Option.some.inj ht
      exact ro_s rfl
  · replace ht := fh_f c42 ht
    refine ro_f c42 ?_
    by_cases c41 : a1 = 1
    · replace ht := fh_t c41 ht
      refine ro_t c41 ?_
      refine ro_b (oi_a (hC.1 0 0 (by decide)) rfl) ?_
      obtain ⟨x26, e_x26, ht⟩ := fh_b ht
      refine ro_b ((ai_i (hC.1 6 0 (by decide))).trans e_x26) ?_
      refine ro_b (oi_a (hC.1 0 0 (by decide)) rfl) ?_
      obtain ⟨x28, e_x28, ht⟩ := fh_b ht
      refine ro_b ((ai_i (hC.1 6 0 (by decide))).trans e_x28) ?_
      by_cases c3 : x28 ≤ x26
      · replace ht := fh_t c3 ht
        refine ro_t c3 ?_
        obtain rfl := Option.some.inj ht
        exact ro_s rfl
      · replace ht := fh_f c3 ht
        refine ro_f c3 ?_
        refine ro_b (oi_a (hC.1 0 0 (by decide)) rfl) ?_
        obtain ⟨x30, e_x30, ht⟩ := fh_b ht
        refine ro_b ((ai_i (hC.1 6 0 (by decide))).trans e_x30) ?_
        refine ro_b (oi_a (hC.1 0 0 (by decide)) rfl) ?_
        obtain ⟨x32, e_x32, ht⟩ := fh_b ht
        refine ro_b ((ai_i (hC.1 6 0 (by decide))).trans e_x32) ?_
        by_cases c2 : x32 ≤ x30
        · replace ht := fh_t c2 ht
          refine ro_t c2 ?_
          obtain rfl := Option.some.inj ht
          exact ro_s rfl
        · replace ht := fh_f c2 ht
          refine ro_f c2 ?_
          obtain rfl := Option.some.inj ht
          exact ro_s rfl
    · replace ht := fh_f c41 ht
      refine ro_f c41 ?_
      by_cases c40 : a1 = 2
      · replace ht := fh_t c40 ht
        refine ro_t c40 ?_
        refine ro_b (oi_a (hC.1 0 0 (by decide)) rfl) ?_
        obtain ⟨x34, e_x34, ht⟩ := fh_b ht
        refine ro_b ((ai_i (hC.1 6 0 (by decide))).trans e_x34) ?_
        refine ro_b (oi_a (hC.1 0 0 (by decide)) rfl) ?_
        obtain ⟨x36, e_x36, ht⟩ := fh_b ht
        refine ro_b ((ai_i (hC.1 6 0 (by decide))).trans e_x36) ?_
        by_cases c8 : x36 ≤ x34
        · replace ht := fh_t c8 ht
          refine ro_t c8 ?_
          exact B359 a1 ht
        · replace ht := fh_f c8 ht
          refine ro_f c8 ?_
          refine ro_b (oi_a (hC.1 0 0 (by decide)) rfl) ?_
          obtain ⟨x38, e_x38, ht⟩ := fh_b ht
          refine ro_b ((ai_i (hC.1 6 0 (by decide))).trans e_x38) ?_
          refine ro_b (oi_a (hC.1 0 0 (by decide)) rfl) ?_
          obtain ⟨x40, e_x40, ht⟩ := fh_b ht
          refine ro_b ((ai_i (hC.1 6 0 (by decide))).trans e_x40) ?_
          by_cases c7 : x40 ≤ x38
          · replace ht := fh_t c7 ht
            refine ro_t c7 ?_
            exact B359 a1 ht
          · replace ht := fh_f c7 ht
            refine ro_f c7 ?_
            refine ro_b (oi_a (hC.1 0 0 (by decide)) rfl) ?_
            obtain ⟨x42, e_x42, ht⟩ := fh_b ht
            refine ro_b ((ai_i (hC.1 6 0 (by decide))).trans e_x42) ?_
            refine ro_b (oi_a (hC.1 0 0 (by decide)) rfl) ?_
            obtain ⟨x44, e_x44, ht⟩ := fh_b ht
            refine ro_b ((ai_i (hC.1 6 0 (by decide))).trans e_x44) ?_
            by_cases c6 : x42 < x44
            · replace ht := fh_t c6 ht
              refine ro_t c6 ?_
              exact B355 a1 ht
            · replace ht := fh_f c6 ht
              refine ro_f c6 ?_
              refine ro_b (oi_a (hC.1 0 0 (by decide)) rfl) ?_
              obtain ⟨x46, e_x46, ht⟩ := fh_b ht
              refine ro_b ((ai_i (hC.1 6 0 (by decide))).trans e_x46) ?_
              refine ro_b (oi_a (hC.1 0 0 (by decide)) rfl) ?_
              obtain ⟨x48, e_x48, ht⟩ := fh_b ht
              refine ro_b ((ai_i (hC.1 6 0 (by decide))).trans e_x48) ?_
              by_cases c5 : x46 = x48
              · replace ht := fh_t c5 ht
                refine ro_t c5 ?_
                refine ro_b (oi_a (hC.1 0 0 (by decide)) rfl) ?_
                obtain ⟨x50, e_x50, ht⟩ := fh_b ht
                refine ro_b ((ai_i (hC.1 6 0 (by decide))).trans e_x50) ?_
                refine ro_b (oi_a (hC.1 0 0 (by decide)) rfl) ?_
                obtain ⟨x52, e_x52, ht⟩ := fh_b ht
                refine ro_b ((ai_i (hC.1 6 0 (by decide))).trans e_x52) ?_
                by_cases c4 : x52 ≤ x50
                · replace ht := fh_t c4 ht
                  refine ro_t c4 ?_
                  exact B359 a1 ht
                · replace ht := fh_f c4 ht
                  refine ro_f c4 ?_
                  exact B355 a1 ht
              · replace ht := fh_f c5 ht
                refine ro_f c5 ?_
                exact B359 a1 ht
      · replace ht := fh_f c40 ht
        refine ro_f c40 ?_
        by_cases c39 : a1 = 3
        · replace ht := fh_t c39 ht
          refine ro_t c39 ?_
          refine ro_b (oi_a (hC.1 0 0 (by decide)) rfl) ?_
          obtain ⟨x54, e_x54, ht⟩ := fh_b ht
          refine ro_b ((ai_i (hC.1 6 0 (by decide))).trans e_x54) ?_
          refine ro_b (oi_a (hC.1 0 0 (by decide)) rfl) ?_
          obtain ⟨x56, e_x56, ht⟩ := fh_b ht
          refine ro_b ((ai_i (hC.1 6 0 (by decide))).trans e_x56) ?_
          by_cases c13 : x56 ≤ x54
          · replace ht := fh_t c13 ht
            refine ro_t c13 ?_
            exact B359 a1 ht
          · replace ht := fh_f c13 ht
            refine ro_f c13 ?_
            refine ro_b (oi_a (hC.1 0 0 (by decide)) rfl) ?_
            obtain ⟨x58, e_x58, ht⟩ := fh_b ht
            refine ro_b ((ai_i (hC.1 6 0 (by decide))).trans e_x58) ?_
            refine ro_b (oi_a (hC.1 0 0 (by decide)) rfl) ?_
            obtain ⟨x60, e_x60, ht⟩ := fh_b ht
            refine ro_b ((ai_i (hC.1 6 0 (by decide))).trans e_x60) ?_
            by_cases c12 : x60 ≤ x58
            · replace ht := fh_t c12 ht
              refine ro_t c12 ?_
              exact B359 a1 ht
            · replace ht := fh_f c12 ht
              refine ro_f c12 ?_
              refine ro_b (oi_a (hC.1 0 0 (by decide)) rfl) ?_
              obtain ⟨x62, e_x62, ht⟩ := fh_b ht
              refine ro_b ((ai_i (hC.1 6 0 (by decide))).trans e_x62) ?_
              refine ro_b (oi_a (hC.1 0 0 (by decide)) rfl) ?_
              obtain ⟨x64, e_x64, ht⟩ := fh_b ht
              refine ro_b ((ai_i (hC.1 6 0 (by decide))).trans e_x64) ?_
              by_cases c11 : x62 < x64
              · replace ht := fh_t c11 ht
                refine ro_t c11 ?_
                exact B355 a1 ht
              · replace ht := fh_f c11 ht
                refine ro_f c11 ?_
                refine ro_b (oi_a (hC.1 0 0 (by decide)) rfl) ?_
                obtain ⟨x66, e_x66, ht⟩ := fh_b ht
                refine ro_b ((ai_i (hC.1 6 0 (by decide))).trans e_x66) ?_
                refine ro_b (oi_a (hC.1 0 0 (by decide)) rfl) ?_
                obtain ⟨x68, e_x68, ht⟩ := fh_b ht
                refine ro_b ((ai_i (hC.1 6 0 (by decide))).trans e_x68) ?_
                by_cases c10 : x66 = x68
                · replace ht := fh_t c10 ht
                  refine ro_t c10 ?_
                  refine ro_b (oi_a (hC.1 0 0 (by decide)) rfl) ?_
                  obtain ⟨x70, e_x70, ht⟩ := fh_b ht
                  refine ro_b ((ai_i (hC.1 6 0 (by decide))).trans e_x70) ?_
                  refine ro_b (oi_a (hC.1 0 0 (by decide)) rfl) ?_
                  obtain ⟨x72, e_x72, ht⟩ := fh_b ht
                  refine ro_b ((ai_i (hC.1 6 0 (by decide))).trans e_x72) ?_
                  by_cases c9 : x72 ≤ x70
                  · replace ht := fh_t c9 ht
                    refine ro_t c9 ?_
                    exact B359 a1 ht
                  · replace ht := fh_f c9 ht
                    refine ro_f c9 ?_
                    exact B355 a1 ht
                · replace ht := fh_f c10 ht
                  refine ro_f c10 ?_
                  exact B359 a1 ht
        · replace ht := fh_f c39 ht
          refine ro_f c39 ?_
          by_cases c38 : a1 = 4
          · replace ht := fh_t c38 ht
            refine ro_t c38 ?_
            refine ro_b (oi_a (hC.1 0 0 (by decide)) rfl) ?_
            obtain ⟨x74, e_x74, ht⟩ := fh_b ht
            refine ro_b ((ai_i (hC.1 6 0 (by decide))).trans e_x74) ?_
            refine ro_b (oi_a (hC.1 0 0 (by decide)) rfl) ?_
            obtain ⟨x76, e_x76, ht⟩ := fh_b ht
            refine ro_b ((ai_i (hC.1 6 0 (by decide))).trans e_x76) ?_
            by_cases c18 : x76 ≤ x74
            · replace ht := fh_t c18 ht
              refine ro_t c18 ?_
              exact B359 a1 ht
            · replace ht := fh_f c18 ht
              refine ro_f c18 ?_
              refine ro_b (oi_a (hC.1 0 0 (by decide)) rfl) ?_
              obtain ⟨x78, e_x78, ht⟩ := fh_b ht
              refine ro_b ((ai_i (hC.1 6 0 (by decide))).trans e_x78) ?_
              refine ro_b (oi_a (hC.1 0 0 (by decide)) rfl) ?_
              obtain ⟨x80, e_x80, ht⟩ := fh_b ht
              refine ro_b ((ai_i (hC.1 6 0 (by decide))).trans e_x80) ?_
              by_cases c17 : x80 ≤ x78
              · replace ht := fh_t c17 ht
                refine ro_t c17 ?_
                exact B359 a1 ht
              · replace ht := fh_f c17 ht
                refine ro_f c17 ?_
                refine ro_b (oi_a (hC.1 0 0 (by decide)) rfl) ?_
                obtain ⟨x82, e_x82, ht⟩ := fh_b ht
                refine ro_b ((ai_i (hC.1 6 0 (by decide))).trans e_x82) ?_
                refine ro_b (oi_a (hC.1 0 0 (by decide)) rfl) ?_
                obtain ⟨x84, e_x84, ht⟩ := fh_b ht
                refine ro_b ((ai_i (hC.1 6 0 (by decide))).trans e_x84) ?_
                by_cases c16 : x82 < x84
                · replace ht := fh_t c16 ht
                  refine ro_t c16 ?_
                  exact B355 a1 ht
                · replace ht := fh_f c16 ht
                  refine ro_f c16 ?_
                  refine ro_b (oi_a (hC.1 0 0 (by decide)) rfl) ?_
                  obtain ⟨x86, e_x86, ht⟩ := fh_b ht
                  refine ro_b ((ai_i (hC.1 6 0 (by decide))).trans e_x86) ?_
                  refine ro_b (oi_a (hC.1 0 0 (by decide)) rfl) ?_
                  obtain ⟨x88, e_x88, ht⟩ := fh_b ht
                  refine ro_b ((ai_i (hC.1 6 0 (by decide))).trans e_x88) ?_
                  by_cases c15 : x86 = x88
                  · replace ht := fh_t c15 ht
                    refine ro_t c15 ?_
                    refine ro_b (oi_a (hC.1 0 0 (by decide)) rfl) ?_
                    obtain ⟨x90, e_x90, ht⟩ := fh_b ht
                    refine ro_b ((ai_i (hC.1 6 0 (by decide))).trans e_x90) ?_
                    refine ro_b (oi_a (hC.1 0 0 (by decide)) rfl) ?_
                    obtain ⟨x92, e_x92, ht⟩ := fh_b ht
                    refine ro_b ((ai_i (hC.1 6 0 (by decide))).trans e_x92) ?_
                    by_cases c14 : x92 ≤ x90
                    · replace ht := fh_t c14 ht
                      refine ro_t c14 ?_
                      exact B359 a1 ht
                    · replace ht := fh_f c14 ht
                      refine ro_f c14 ?_
                      exact B355 a1 ht
                  · replace ht := fh_f c15 ht
                    refine ro_f c15 ?_
                    exact B359 a1 ht
          · replace ht := fh_f c38 ht
            refine ro_f c38 ?_
            by_cases c37 : a1 = 5
            · replace ht := fh_t c37 ht
              refine ro_t c37 ?_
              refine ro_b (oi_a (hC.1 0 0 (by decide)) rfl) ?_
              obtain ⟨x94, e_x94, ht⟩ := fh_b ht
              refine ro_b ((ai_i (hC.1 6 0 (by decide))).trans e_x94) ?_
              refine ro_b (oi_a (hC.1 0 0 (by decide)) rfl) ?_
              obtain ⟨x96, e_x96, ht⟩ := fh_b ht
              refine ro_b ((ai_i (hC.1 6 0 (by decide))).trans e_x96) ?_
              by_cases c21 : x96 ≤ x94
              · replace ht := fh_t c21 ht
                refine ro_t c21 ?_
                obtain rfl := Option.some.inj ht
                exact ro_s rfl
              · replace ht := fh_f c21 ht
                refine ro_f c21 ?_
                refine ro_b (oi_a (hC.1 0 0 (by decide)) rfl) ?_
                obtain ⟨x98, e_x98, ht⟩ := fh_b ht
                refine ro_b ((ai_i (hC.1 6 0 (by decide))).trans e_x98) ?_
                refine ro_b (oi_a (hC.1 0 0 (by decide)) rfl) ?_
                obtain ⟨x100, e_x100, ht⟩ := fh_b ht
                refine ro_b ((ai_i (hC.1 6 0 (by decide))).trans e_x100) ?_
                by_cases c20 : x100 ≤ x98
                · replace ht := fh_t c20 ht
                  refine ro_t c20 ?_
                  obtain rfl := Option.some.inj ht
                  exact ro_s rfl
                · replace ht := fh_f c20 ht
                  refine ro_f c20 ?_
                  refine ro_b (oi_a (hC.1 0 0 (by decide)) rfl) ?_
                  obtain ⟨x102, e_x102, ht⟩ := fh_b ht
                  refine ro_b ((ai_i (hC.1 6 0 (by decide))).trans e_x102) ?_
                  refine ro_b (oi_a (hC.1 0 0 (by decide)) rfl) ?_
                  obtain ⟨x104, e_x104, ht⟩ := fh_b ht
                  refine ro_b ((ai_i (hC.1 6 0 (by decide))).trans e_x104) ?_
                  by_cases c19 : x104 ≤ x102
                  · replace ht := fh_t c19 ht
                    refine ro_t c19 ?_
                    obtain rfl := Option.some.inj ht
                    exact ro_s rfl
                  · replace ht := fh_f c19 ht
                    refine ro_f c19 ?_
                    obtain rfl := Option.some.inj ht
                    exact ro_s rfl
            · replace ht := fh_f c37 ht
              refine ro_f c37 ?_
              by_cases c36 : a1 = 6
              · replace ht := fh_t c36 ht
                refine ro_t c36 ?_
                refine ro_b (oi_a (hC.1 0 0 (by decide)) rfl) ?_
                obtain ⟨x106, e_x106, ht⟩ := fh_b ht
                refine ro_b ((ai_i (hC.1 6 0 (by decide))).trans e_x106) ?_
                refine ro_b (oi_a (hC.1 0 0 (by decide)) rfl) ?_
                obtain ⟨x108, e_x108, ht⟩ := fh_b ht
                refine ro_b ((ai_i (hC.1 6 0 (by decide))).trans e_x108) ?_
                by_cases c24 : x108 ≤ x106
                · replace ht := fh_t c24 ht
                  refine ro_t c24 ?_
                  obtain rfl := Option.some.inj ht
                  exact ro_s rfl
                · replace ht := fh_f c24 ht
                  refine ro_f c24 ?_
                  refine ro_b (oi_a (hC.1 0 0 (by decide)) rfl) ?_
                  obtain ⟨x110, e_x110, ht⟩ := fh_b ht
                  refine ro_b ((ai_i (hC.1 6 0 (by decide))).trans e_x110) ?_
                  refine ro_b (oi_a (hC.1 0 0 (by decide)) rfl) ?_
                  obtain ⟨x112, e_x112, ht⟩ := fh_b ht
                  refine ro_b ((ai_i (hC.1 6 0 (by decide))).trans e_x112) ?_
                  by_cases c23 : x110 = x112
                  · replace ht := fh_t c23 ht
                    refine ro_t c23 ?_
                    obtain rfl := Option.some.inj ht
                    exact ro_s rfl
                  · replace ht := fh_f c23 ht
                    refine ro_f c23 ?_
                    refine ro_b (oi_a (hC.1 0 0 (by decide)) rfl) ?_
                    obtain ⟨x114, e_x114, ht⟩ := fh_b ht
                    refine ro_b ((ai_i (hC.1 6 0 (by decide))).trans e_x114) ?_
                    refine ro_b (oi_a (hC.1 0 0 (by decide)) rfl) ?_
                    obtain ⟨x116, e_x116, ht⟩ := fh_b ht
                    refine ro_b ((ai_i (hC.1 6 0 (by decide))).trans e_x116) ?_
                    by_cases c22 : x114 = x116
                    · replace ht := fh_t c22 ht
                      refine ro_t c22 ?_
                      obtain rfl := Option.some.inj ht
                      exact ro_s rfl
                    · replace ht := fh_f c22 ht
                      refine ro_f c22 ?_
                      obtain rfl := Option.some.inj ht
                      exact ro_s rfl
              · replace ht := fh_f c36 ht
                refine ro_f c36 ?_
                by_cases c35 : a1 = 7
                · replace ht := fh_t c35 ht
                  refine ro_t c35 ?_
                  refine ro_b (oi_a (hC.1 0 0 (by decide)) rfl) ?_
                  obtain ⟨x118, e_x118, ht⟩ := fh_b ht
                  refine ro_b ((ai_i (hC.1 6 0 (by decide))).trans e_x118) ?_
                  refine ro_b (oi_a (hC.1 0 0 (by decide)) rfl) ?_
                  obtain ⟨x120, e_x120, ht⟩ := fh_b ht
                  refine ro_b ((ai_i (hC.1 6 0 (by decide))).trans e_x120) ?_
                  by_cases c29 : x120 ≤ x118
                  · replace ht := fh_t c29 ht
                    refine ro_t c29 ?_
                    obtain rfl := Option.some.inj ht
                    exact ro_s rfl
                  · replace ht := fh_f c29 ht
                    refine ro_f c29 ?_
                    refine ro_b (oi_a (hC.1 0 0 (by decide)) rfl) ?_
                    obtain ⟨x122, e_x122, ht⟩ := fh_b ht
                    refine ro_b ((ai_i (hC.1 6 0 (by decide))).trans e_x122) ?_
                    refine ro_b (oi_a (hC.1 0 0 (by decide)) rfl) ?_
                    obtain ⟨x124, e_x124, ht⟩ := fh_b ht
                    refine ro_b ((ai_i (hC.1 6 0 (by decide))).trans e_x124) ?_
                    by_cases c28 : x124 ≤ x122
                    · replace ht := fh_t c28 ht
                      refine ro_t c28 ?_
                      obtain rfl := Option.some.inj ht
                      exact ro_s rfl
                    · replace ht := fh_f c28 ht
                      refine ro_f c28 ?_
                      refine ro_b (oi_a (hC.1 0 0 (by decide)) rfl) ?_
                      obtain ⟨x126, e_x126, ht⟩ := fh_b ht
                      refine ro_b ((ai_i (hC.1 6 0 (by decide))).trans e_x126) ?_
                      refine ro_b (oi_a (hC.1 0 0 (by decide)) rfl) ?_
                      obtain ⟨x128, e_x128, ht⟩ := fh_b ht
                      refine ro_b ((ai_i (hC.1 6 0 (by decide))).trans e_x128) ?_
                      by_cases c27 : x128 ≤ x126
                      · replace ht := fh_t c27 ht
                        refine ro_t c27 ?_
                        obtain rfl := Option.some.inj ht
                        exact ro_s rfl
                      · replace ht := fh_f c27 ht
                        refine ro_f c27 ?_
                        refine ro_b (oi_a (hC.1 0 0 (by decide)) rfl) ?_
                        obtain ⟨x130, e_x130, ht⟩ := fh_b ht
                        refine ro_b ((ai_i (hC.1 6 0 (by decide))).trans e_x130) ?_
                        refine ro_b (oi_a (hC.1 0 0 (by decide)) rfl) ?_
                        obtain ⟨x132, e_x132, ht⟩ := fh_b ht
                        refine ro_b ((ai_i (hC.1 6 0 (by decide))).trans e_x132) ?_
                        by_cases c26 : x132 ≤ x130
                        · replace ht := fh_t c26 ht
                          refine ro_t c26 ?_
                          obtain rfl := Option.some.inj ht
                          exact ro_s rfl
                        · replace ht := fh_f c26 ht
                          refine ro_f c26 ?_
                          refine ro_b (oi_o (hC.1 0 0 (by decide))) ?_
                          obtain ⟨r134, e_r134, ht⟩ := fh_b ht
                          refine ro_c (u_Mo_isBefore hL e_r134 hC) (fun z hz => ?_)
                          subst hz
                          by_cases c25 : r134 = 0
                          · replace ht := fh_t c25 ht
                            refine ro_t c25 ?_
                            obtain rfl := Option.some.inj ht
                            exact ro_s rfl
                          · replace ht := fh_f c25 ht
                            refine ro_f c25 ?_
                            obtain rfl := Option.some.inj ht
                            exact ro_s rfl
                · replace ht := fh_f c35 ht
                  refine ro_f c35 ?_
                  refine ro_b (oi_a (hC.1 0 0 (by decide)) rfl) ?_
                  obtain ⟨x2, e_x2, ht⟩ := fh_b ht
                  refine ro_b ((ai_i (hC.1 6 0 (by decide))).trans e_x2) ?_
                  refine ro_b (oi_a (hC.1 0 0 (by decide)) rfl) ?_
                  obtain ⟨x4, e_x4, ht⟩ := fh_b ht
                  refine ro_b ((ai_i (hC.1 6 0 (by decide))).trans e_x4) ?_
                  by_cases c34 : x4 ≤ x2
                  · replace ht := fh_t c34 ht
                    refine ro_t c34 ?_
                    exact B359 a1 ht
                  · replace ht := fh_f c34 ht
                    refine ro_f c34 ?_
                    refine ro_b (oi_a (hC.1 0 0 (by decide)) rfl) ?_
                    obtain ⟨x6, e_x6, ht⟩ := fh_b ht
                    refine ro_b ((ai_i (hC.1 6 0 (by decide))).trans e_x6) ?_
                    refine ro_b (oi_a (hC.1 0 0 (by decide)) rfl) ?_
                    obtain ⟨x8, e_x8, ht⟩ := fh_b ht
                    refine ro_b ((ai_i (hC.1 6 0 (by decide))).trans e_x8) ?_
                    by_cases c33 : x8 ≤ x6
                    · replace ht := fh_t c33 ht
                      refine ro_t c33 ?_
                      exact B359 a1 ht
                    · replace ht := fh_f c33 ht
                      refine ro_f c33 ?_
                      refine ro_b (oi_a (hC.1 0 0 (by decide)) rfl) ?_
                      obtain ⟨x10, e_x10, ht⟩ := fh_b ht
                      refine ro_b ((ai_i (hC.1 6 0 (by decide))).trans e_x10) ?_
                      refine ro_b (oi_a (hC.1 0 0 (by decide)) rfl) ?_
                      obtain ⟨x12, e_x12, ht⟩ := fh_b ht
                      refine ro_b ((ai_i (hC.1 6 0 (by decide))).trans e_x12) ?_
                      by_cases c32 : x10 < x12
                      · replace ht := fh_t c32 ht
                        refine ro_t c32 ?_
                        exact B355 a1 ht
                      · replace ht := fh_f c32 ht
                        refine ro_f c32 ?_
                        refine ro_b (oi_a (hC.1 0 0 (by decide)) rfl) ?_
                        obtain ⟨x14, e_x14, ht⟩ := fh_b ht
                        refine ro_b ((ai_i (hC.1 6 0 (by decide))).trans e_x14) ?_
                        refine ro_b (oi_a (hC.1 0 0 (by decide)) rfl) ?_
                        obtain ⟨x16, e_x16, ht⟩ := fh_b ht
                        refine ro_b ((ai_i (hC.1 6 0 (by decide))).trans e_x16) ?_
                        by_cases c31 : x14 = x16
                        · replace ht := fh_t c31 ht
                          refine ro_t c31 ?_
                          refine ro_b (oi_a (hC.1 0 0 (by decide)) rfl) ?_
                          obtain ⟨x18, e_x18, ht⟩ := fh_b ht
                          refine ro_b ((ai_i (hC.1 6 0 (by decide))).trans e_x18) ?_
                          refine ro_b (oi_a (hC.1 0 0 (by decide)) rfl) ?_
                          obtain ⟨x20, e_x20, ht⟩ := fh_b ht
                          refine ro_b ((ai_i (hC.1 6 0 (by decide))).trans e_x20) ?_
                          by_cases c30 : x20 ≤ x18
                          · replace ht := fh_t c30 ht
                            refine ro_t c30 ?_
                            exact B359 a1 ht
                          · replace ht := fh_f c30 ht
                            refine ro_f c30 ?_
                            exact B355 a1 ht
                        · replace ht := fh_f c31 ht
                          refine ro_f c31 ?_
                          exact B359 a1 ht
def t_Mo_size (N : Nat) (a0 : Int32) : Option (Int32) :=
  if a0 = 0 then (some 2) else (if a0 = 1 then (some 3) else (if a0 = 2 then (some 4) else (if a0 = 3 then (some 4) else (if a0 = 4 then (some 4) else (if a0 = 5 then (some 4) else (if a0 = 6 then (some 3) else (if a0 = 7 then (some 6) else (some 4))))))))
set_option maxHeartbeats 4000000 in
theorem u_Mo_size {K : Nat → ClassId} {N : Nat} {a0 : Int32} {h0 : fh_H} {res : Int32} (ht : t_Mo_size N a0 = some res) : RO (fun z => (res, h0) = z) (f_Mo_size K N a0 h0) := by
  unfold t_Mo_size at ht
  unfold f_Mo_size
  by_cases c8 : a0 = 0
  · replace ht := fh_t c8 ht
    refine ro_t c8 ?_
    obtain rfl := Option.some.inj ht
    exact ro_s rfl
  · replace ht := fh_f c8 ht
    refine ro_f c8 ?_
    by_cases c7 : a0 = 1
    · replace ht := fh_t c7 ht
      refine ro_t c7 ?_
      obtain rfl := Option.some.inj ht
      exact ro_s rfl
    · replace ht := fh_f c7 ht
      refine ro_f c7 ?_
      by_cases c6 : a0 = 2
      · replace ht := fh_t c6 ht
        refine ro_t c6 ?_
        obtain rfl := Option.some.inj ht
        exact ro_s rfl
      · replace ht := fh_f c6 ht
        refine ro_f c6 ?_
        by_cases c5 : a0 = 3
        · replace ht := fh_t c5 ht
          refine ro_t c5 ?_
          obtain rfl := Option.some.inj ht
          exact ro_s rfl
        · replace ht := fh_f c5 ht
          refine ro_f c5 ?_
          by_cases c4 : a0 = 4
          · replace ht := fh_t c4 ht
            refine ro_t c4 ?_
            obtain rfl := Option.some.inj ht
            exact ro_s rfl
          · replace ht := fh_f c4 ht
            refine ro_f c4 ?_
            by_cases c3 : a0 = 5
            · replace ht := fh_t c3 ht
              refine ro_t c3 ?_
              obtain rfl := Option.some.inj ht
              exact ro_s rfl
            · replace ht := fh_f c3 ht
              refine ro_f c3 ?_
              by_cases c2 : a0 = 6
              · replace ht := fh_t c2 ht
                refine ro_t c2 ?_
                obtain rfl := Option.some.inj ht
                exact ro_s rfl
              · replace ht := fh_f c2 ht
                refine ro_f c2 ?_
                by_cases c1 : a0 = 7
                · replace ht := fh_t c1 ht
                  refine ro_t c1 ?_
                  obtain rfl := Option.some.inj ht
                  exact ro_s rfl
                · replace ht := fh_f c1 ht
                  refine ro_f c1 ?_
                  obtain rfl := Option.some.inj ht
                  exact ro_s rfl
def tb_Mo_holds_66 (N : Nat) (k33 : Int32 → Int32 → Int32 → MS → Option (Int32 × MS)) (v1 : Int32) (v9 : Int32) (w0 : Int32) (S : MS) : Option (Int32 × MS) :=
  (some (v9 + 1)).bind fun x1 => k33 v1 w0 x1 S
def tb_Mo_holds_65 (N : Nat) (k33 : Int32 → Int32 → Int32 → MS → Option (Int32 × MS)) (v1 : Int32) (v9 : Int32) (S : MS) : Option (Int32 × MS) :=
  tb_Mo_holds_66 N k33 v1 v9 0 S
def tb_Mo_holds_33 (N : Nat) (k33 : Int32 → Int32 → Int32 → MS → Option (Int32 × MS)) (v1 : Int32) (v8 : Int32) (v9 : Int32) (S : MS) : Option (Int32 × MS) :=
  (t_Mo_size N v1).bind fun r1 => if r1 ≤ v9 then (if v8 = 0 then (some ((-2), S)) else ((t_Mo_isOrdered N v1 S).bind fun r3 => if r3 = 0 then (some ((-2), S)) else ((t_Mo_isHeld N v1 S).bind fun r5 => if r5.1 = 0 then (some (0, r5.2)) else (some (1, r5.2))))) else (if v8 = 0 then (tb_Mo_holds_65 N k33 v1 v9 S) else ((ta 6 (ms_row S) v9).bind fun x7 => (t_Mo_isPoint N x7 S).bind fun r9 => if r9 = 0 then (tb_Mo_holds_65 N k33 v1 v9 S) else (tb_Mo_holds_66 N k33 v1 v9 1 S)))
def tl_Mo_holds_33 (N : Nat) : Nat → Int32 → Int32 → Int32 → MS → Option (Int32 × MS)
  | 0, _, _, _, _ => none
  | n + 1, v1, v8, v9, S => tb_Mo_holds_33 N (tl_Mo_holds_33 N n) v1 v8 v9 S
def t_Mo_holds (N : Nat) (a1 : Int32) (a2 : Int32) (a3 : Int32) (a4 : Int32) (a5 : Int32) (a6 : Int32) (a7 : Int32) (S0 : MS) : Option (Int32 × MS) :=
  (t_Mo_isIn N a1 0 8).bind fun r1 => if r1 = 0 then (some ((-2), S0)) else ((t_Mo_setRow N a2 a3 a4 a5 a6 a7 S0).bind fun r3 => tl_Mo_holds_33 N N a1 1 0 r3)
set_option maxHeartbeats 4000000 in
theorem u_Mo_holds {K : Nat → ClassId} {N : Nat} {a1 : Int32} {a2 : Int32} {a3 : Int32} {a4 : Int32} {a5 : Int32} {a6 : Int32} {a7 : Int32} {h0 : fh_H} {S0 : MS} {res : Int32 × MS} {L : Nat → Nat → Nat} {hb : fh_H} (hL : ms_I L) (ht : t_Mo_holds N a1 a2 a3 a4 a5 a6 a7 S0 = some res) (hC : ms_W K L hb h0 S0) : RO (fun z => z.1 = res.1 ∧ ms_W K L hb z.2 res.2) (f_Mo_holds K N (L 0 0) a1 a2 a3 a4 a5 a6 a7 h0) := by
  have L33 : ∀ (n33 : Nat) (v1 : Int32) (v8 : Int32) (v9 : Int32) (S : MS) (h : fh_H), ms_W K L hb h S → tl_Mo_holds_33 N n33 v1 v8 v9 S = some res → RO (fun z => z.1 = res.1 ∧ ms_W K L hb z.2 res.2) (l_Mo_holds_33 K N (L 0 0) n33 v1 v8 v9 h) := by
    intro n33
    induction n33 with
    | zero =>
      intro v1 v8 v9 S h hC ht
      exact fh_no ht
    | succ n33 ih33 =>
      have B66 : ∀ (v1 : Int32) (v9 : Int32) (w0 : Int32) (S : MS) (h : fh_H), ms_W K L hb h S → tb_Mo_holds_66 N (tl_Mo_holds_33 N n33) v1 v9 w0 S = some res → RO (fun z => z.1 = res.1 ∧ ms_W K L hb z.2 res.2) (b_Mo_holds_66 K N (l_Mo_holds_33 K N (L 0 0) n33) (L 0 0) v1 v9 w0 h) := by
        intro v1 v9 w0 S h hC ht
        unfold tb_Mo_holds_66 at ht
        unfold b_Mo_holds_66
        obtain ⟨x1, e_x1, ht⟩ := fh_b ht
        refine ro_b e_x1 ?_
        exact ih33 v1 w0 x1 S _ hC ht
      have B65 : ∀ (v1 : Int32) (v9 : Int32) (S : MS) (h : fh_H), ms_W K L hb h S → tb_Mo_holds_65 N (tl_Mo_holds_33 N n33) v1 v9 S = some res → RO (fun z => z.1 = res.1 ∧ ms_W K L hb z.2 res.2) (b_Mo_holds_65 K N (l_Mo_holds_33 K N (L 0 0) n33) (L 0 0) v1 v9 h) := by
        intro v1 v9 S h hC ht
        unfold tb_Mo_holds_65 at ht
        unfold b_Mo_holds_65
        exact B66 v1 v9 0 S _ hC ht
      intro v1 v8 v9 S h hC ht
      have ht : tb_Mo_holds_33 N (tl_Mo_holds_33 N n33) v1 v8 v9 S = some res := ht
      show RO _ (b_Mo_holds_33 K N (l_Mo_holds_33 K N (L 0 0) n33) (L 0 0) v1 v8 v9 h)
      unfold tb_Mo_holds_33 at ht
      unfold b_Mo_holds_33
      obtain ⟨r1, e_r1, ht⟩ := fh_b ht
      refine ro_c (u_Mo_size e_r1) (fun z hz => ?_)
      subst hz
      by_cases c6 : r1 ≤ v9
      · replace ht := fh_t c6 ht
        refine ro_t c6 ?_
        by_cases c3 : v8 = 0
        · replace ht := fh_t c3 ht
          refine ro_t c3 ?_
          obtain rfl := Option.some.inj ht
          exact ro_s ⟨rfl, hC⟩
        · replace ht := fh_f c3 ht
          refine ro_f c3 ?_
          refine ro_b (oi_o (hC.1 0 0 (by decide))) ?_
          obtain ⟨r3, e_r3, ht⟩ := fh_b ht
          refine ro_c (u_Mo_isOrdered hL e_r3 hC) (fun z hz => ?_)
          subst hz
          by_cases c2 : r3 = 0
          · replace ht := fh_t c2 ht
            refine ro_t c2 ?_
            obtain rfl := Option.some.inj ht
            exact ro_s ⟨rfl, hC⟩
          · replace ht := fh_f c2 ht
            refine ro_f c2 ?_
            refine ro_b (oi_o (hC.1 0 0 (by decide))) ?_
            obtain ⟨r5, e_r5, ht⟩ := fh_b ht
            refine ro_c (u_Mo_isHeld hL e_r5 hC) (fun z hz => ?_)
            obtain ⟨z1, h⟩ := z
            obtain ⟨ez, hC⟩ := hz
            dsimp only at ez hC
            subst ez
            by_cases c1 : r5.1 = 0
            · replace ht := fh_t c1 ht
              refine ro_t c1 ?_
              obtain rfl := Option.some.inj ht
              exact ro_s ⟨rfl, hC⟩
            · replace ht := fh_f c1 ht
              refine ro_f c1 ?_
              obtain rfl := Option.some.inj ht
              exact ro_s ⟨rfl, hC⟩
      · replace ht := fh_f c6 ht
        refine ro_f c6 ?_
        by_cases c5 : v8 = 0
        · replace ht := fh_t c5 ht
          refine ro_t c5 ?_
          exact B65 v1 v9 S _ hC ht
        · replace ht := fh_f c5 ht
          refine ro_f c5 ?_
          refine ro_b (oi_a (hC.1 0 0 (by decide)) rfl) ?_
          obtain ⟨x7, e_x7, ht⟩ := fh_b ht
          refine ro_b ((ai_i (hC.1 6 0 (by decide))).trans e_x7) ?_
          refine ro_b (oi_o (hC.1 0 0 (by decide))) ?_
          obtain ⟨r9, e_r9, ht⟩ := fh_b ht
          refine ro_c (u_Mo_isPoint hL e_r9 hC) (fun z hz => ?_)
          subst hz
          by_cases c4 : r9 = 0
          · replace ht := fh_t c4 ht
            refine ro_t c4 ?_
            exact B65 v1 v9 S _ hC ht
          · replace ht := fh_f c4 ht
            refine ro_f c4 ?_
            exact B66 v1 v9 1 S _ hC ht
  unfold t_Mo_holds at ht
  unfold f_Mo_holds
  obtain ⟨r1, e_r1, ht⟩ := fh_b ht
  refine ro_c (u_Mo_isIn e_r1) (fun z hz => ?_)
  subst hz
  by_cases c1 : r1 = 0
  · replace ht := fh_t c1 ht
    refine ro_t c1 ?_
    obtain rfl := Option.some.inj ht
    exact ro_s ⟨rfl, hC⟩
  · replace ht := fh_f c1 ht
    refine ro_f c1 ?_
    refine ro_b (oi_o (hC.1 0 0 (by decide))) ?_
    obtain ⟨r3, e_r3, ht⟩ := fh_b ht
    refine ro_c (u_Mo_setRow hL e_r3 hC) (fun h hC => ?_)
    exact L33 N a1 1 0 r3 _ hC ht
def tb_Mo_isEmpty_68 (N : Nat) (k6 : Int32 → Int32 → Int32 → Int32 → Int32 → MS → Option (Int32 × MS)) (v1 : Int32) (v2 : Int32) (v3 : Int32) (v5 : Int32) (w0 : Int32) (S : MS) : Option (Int32 × MS) :=
  (some (v5 + 1)).bind fun x1 => k6 v1 v2 v3 w0 x1 S
def tb_Mo_isEmpty_63 (N : Nat) (k6 : Int32 → Int32 → Int32 → Int32 → Int32 → MS → Option (Int32 × MS)) (v1 : Int32) (v2 : Int32) (v3 : Int32) (v5 : Int32) (S : MS) : Option (Int32 × MS) :=
  tb_Mo_isEmpty_68 N k6 v1 v2 v3 v5 1 S
def tb_Mo_isEmpty_67 (N : Nat) (k6 : Int32 → Int32 → Int32 → Int32 → Int32 → MS → Option (Int32 × MS)) (v1 : Int32) (v2 : Int32) (v3 : Int32) (v5 : Int32) (S : MS) : Option (Int32 × MS) :=
  tb_Mo_isEmpty_68 N k6 v1 v2 v3 v5 0 S
def tb_Mo_isEmpty_58 (N : Nat) (k6 : Int32 → Int32 → Int32 → Int32 → Int32 → MS → Option (Int32 × MS)) (v1 : Int32) (v2 : Int32) (v3 : Int32) (v5 : Int32) (w0 : Int64) (S : MS) : Option (Int32 × MS) :=
  if (lg_cmp w0 0) = 0 then (tb_Mo_isEmpty_63 N k6 v1 v2 v3 v5 S) else (tb_Mo_isEmpty_67 N k6 v1 v2 v3 v5 S)
def tb_Mo_isEmpty_6 (N : Nat) (k6 : Int32 → Int32 → Int32 → Int32 → Int32 → MS → Option (Int32 × MS)) (v1 : Int32) (v2 : Int32) (v3 : Int32) (v4 : Int32) (v5 : Int32) (S : MS) : Option (Int32 × MS) :=
  (some (ms_figs S)).bind fun x1 => if x1 ≤ v5 then ((tz v4).bind fun zz => some (zz, S)) else ((some (ms_set_figure S v5)).bind fun S2 => if v4 = 0 then (tb_Mo_isEmpty_67 N k6 v1 v2 v3 v5 S2) else ((ta 5 (ms_fallsAt S2) v5).bind fun x4 => if x4 = (-1) then (if 0 ≤ v3 then ((t_Mo_cross N v1 v2 v1 v3 S2).bind fun r6 => tb_Mo_isEmpty_58 N k6 v1 v2 v3 v5 r6 S2) else ((t_Mo_length N v1 v2 S2).bind fun r8 => tb_Mo_isEmpty_58 N k6 v1 v2 v3 v5 r8 S2)) else (tb_Mo_isEmpty_63 N k6 v1 v2 v3 v5 S2)))
def tl_Mo_isEmpty_6 (N : Nat) : Nat → Int32 → Int32 → Int32 → Int32 → Int32 → MS → Option (Int32 × MS)
  | 0, _, _, _, _, _, _ => none
  | n + 1, v1, v2, v3, v4, v5, S => tb_Mo_isEmpty_6 N (tl_Mo_isEmpty_6 N n) v1 v2 v3 v4 v5 S
def t_Mo_isEmpty (N : Nat) (a1 : Int32) (a2 : Int32) (a3 : Int32) (S0 : MS) : Option (Int32 × MS) :=
  tl_Mo_isEmpty_6 N N a1 a2 a3 1 0 S0
set_option maxHeartbeats 4000000 in
theorem u_Mo_isEmpty {K : Nat → ClassId} {N : Nat} {a1 : Int32} {a2 : Int32} {a3 : Int32} {h0 : fh_H} {S0 : MS} {res : Int32 × MS} {L : Nat → Nat → Nat} {hb : fh_H} (hL : ms_I L) (ht : t_Mo_isEmpty N a1 a2 a3 S0 = some res) (hC : ms_W K L hb h0 S0) : RO (fun z => z.1 = res.1 ∧ ms_W K L hb z.2 res.2) (f_Mo_isEmpty K N (L 0 0) a1 a2 a3 h0) := by
  have L6 : ∀ (n6 : Nat) (v1 : Int32) (v2 : Int32) (v3 : Int32) (v4 : Int32) (v5 : Int32) (S : MS) (h : fh_H), ms_W K L hb h S → tl_Mo_isEmpty_6 N n6 v1 v2 v3 v4 v5 S = some res → RO (fun z => z.1 = res.1 ∧ ms_W K L hb z.2 res.2) (l_Mo_isEmpty_6 K N (L 0 0) n6 v1 v2 v3 v4 v5 h) := by
    intro n6
    induction n6 with
    | zero =>
      intro v1 v2 v3 v4 v5 S h hC ht
      exact fh_no ht
    | succ n6 ih6 =>
      have B68 : ∀ (v1 : Int32) (v2 : Int32) (v3 : Int32) (v5 : Int32) (w0 : Int32) (S : MS) (h : fh_H), ms_W K L hb h S → tb_Mo_isEmpty_68 N (tl_Mo_isEmpty_6 N n6) v1 v2 v3 v5 w0 S = some res → RO (fun z => z.1 = res.1 ∧ ms_W K L hb z.2 res.2) (b_Mo_isEmpty_68 K N (l_Mo_isEmpty_6 K N (L 0 0) n6) (L 0 0) v1 v2 v3 v5 w0 h) := by
        intro v1 v2 v3 v5 w0 S h hC ht
        unfold tb_Mo_isEmpty_68 at ht
        unfold b_Mo_isEmpty_68
        obtain ⟨x1, e_x1, ht⟩ := fh_b ht
        refine ro_b e_x1 ?_
        exact ih6 v1 v2 v3 w0 x1 S _ hC ht
      have B63 : ∀ (v1 : Int32) (v2 : Int32) (v3 : Int32) (v5 : Int32) (S : MS) (h : fh_H), ms_W K L hb h S → tb_Mo_isEmpty_63 N (tl_Mo_isEmpty_6 N n6) v1 v2 v3 v5 S = some res → RO (fun z => z.1 = res.1 ∧ ms_W K L hb z.2 res.2) (b_Mo_isEmpty_63 K N (l_Mo_isEmpty_6 K N (L 0 0) n6) (L 0 0) v1 v2 v3 v5 h) := by
        intro v1 v2 v3 v5 S h hC ht
        unfold tb_Mo_isEmpty_63 at ht
        unfold b_Mo_isEmpty_63
        exact B68 v1 v2 v3 v5 1 S _ hC ht
      have B67 : ∀ (v1 : Int32) (v2 : Int32) (v3 : Int32) (v5 : Int32) (S : MS) (h : fh_H), ms_W K L hb h S → tb_Mo_isEmpty_67 N (tl_Mo_isEmpty_6 N n6) v1 v2 v3 v5 S = some res → RO (fun z => z.1 = res.1 ∧ ms_W K L hb z.2 res.2) (b_Mo_isEmpty_67 K N (l_Mo_isEmpty_6 K N (L 0 0) n6) (L 0 0) v1 v2 v3 v5 h) := by
        intro v1 v2 v3 v5 S h hC ht
        unfold tb_Mo_isEmpty_67 at ht
        unfold b_Mo_isEmpty_67
        exact B68 v1 v2 v3 v5 0 S _ hC ht
      have B58 : ∀ (v1 : Int32) (v2 : Int32) (v3 : Int32) (v5 : Int32) (w0 : Int64) (S : MS) (h : fh_H), ms_W K L hb h S → tb_Mo_isEmpty_58 N (tl_Mo_isEmpty_6 N n6) v1 v2 v3 v5 w0 S = some res → RO (fun z => z.1 = res.1 ∧ ms_W K L hb z.2 res.2) (b_Mo_isEmpty_58 K N (l_Mo_isEmpty_6 K N (L 0 0) n6) (L 0 0) v1 v2 v3 v5 w0 h) := by
        intro v1 v2 v3 v5 w0 S h hC ht
        unfold tb_Mo_isEmpty_58 at ht
        unfold b_Mo_isEmpty_58
        by_cases c1 : (lg_cmp w0 0) = 0
        · replace ht := fh_t c1 ht
          refine ro_t c1 ?_
          exact B63 v1 v2 v3 v5 S _ hC ht
        · replace ht := fh_f c1 ht
          refine ro_f c1 ?_
          exact B67 v1 v2 v3 v5 S _ hC ht
      intro v1 v2 v3 v4 v5 S h hC ht
      have ht : tb_Mo_isEmpty_6 N (tl_Mo_isEmpty_6 N n6) v1 v2 v3 v4 v5 S = some res := ht
      show RO _ (b_Mo_isEmpty_6 K N (l_Mo_isEmpty_6 K N (L 0 0) n6) (L 0 0) v1 v2 v3 v4 v5 h)
      unfold tb_Mo_isEmpty_6 at ht
      unfold b_Mo_isEmpty_6
      obtain ⟨x1, e_x1, ht⟩ := fh_b ht
      refine ro_b ((oi_i (hC.1 0 0 (by decide)) rfl).trans e_x1) ?_
      by_cases c4 : x1 ≤ v5
      · replace ht := fh_t c4 ht
        refine ro_t c4 ?_
        obtain ⟨zz, e_zz, ht⟩ := fh_b ht
        obtain ⟨hz, rfl⟩ := tz_s e_zz
        obtain rfl := Option.some.inj ht
        exact ro_z hz ⟨rfl, hC⟩
      · replace ht := fh_f c4 ht
        refine ro_f c4 ?_
        obtain ⟨S2, e_S2, ht⟩ := fh_b ht
        refine ro_c (G1 := (fun z => ms_W K L hb z S2)) ⟨_, oi_p (hC.1 0 0 (by decide)) (Nat.le_of_ble_eq_true rfl), by rw [← Option.some.inj e_S2]; exact ms_w_figure hL hC rfl⟩ (fun h hC => ?_)
        by_cases c3 : v4 = 0
        · replace ht := fh_t c3 ht
          refine ro_t c3 ?_
          exact B67 v1 v2 v3 v5 S2 _ hC ht
        · replace ht := fh_f c3 ht
          refine ro_f c3 ?_
          refine ro_b (oi_a (hC.1 0 0 (by decide)) rfl) ?_
          obtain ⟨x4, e_x4, ht⟩ := fh_b ht
          refine ro_b ((ai_i (hC.1 5 0 (by decide))).trans e_x4) ?_
          by_cases c2 : x4 = (-1)
          · replace ht := fh_t c2 ht
            refine ro_t c2 ?_
            by_cases c1 : 0 ≤ v3
            · replace ht := fh_t c1 ht
              refine ro_t c1 ?_
              refine ro_b (oi_o (hC.1 0 0 (by decide))) ?_
              obtain ⟨r6, e_r6, ht⟩ := fh_b ht
              refine ro_c (u_Mo_cross hL e_r6 hC) (fun z hz => ?_)
              subst hz
              exact B58 v1 v2 v3 v5 r6 S2 _ hC ht
            · replace ht := fh_f c1 ht
              refine ro_f c1 ?_
              refine ro_b (oi_o (hC.1 0 0 (by decide))) ?_
              obtain ⟨r8, e_r8, ht⟩ := fh_b ht
              refine ro_c (u_Mo_length hL e_r8 hC) (fun z hz => ?_)
              subst hz
              exact B58 v1 v2 v3 v5 r8 S2 _ hC ht
          · replace ht := fh_f c2 ht
            refine ro_f c2 ?_
            exact B63 v1 v2 v3 v5 S2 _ hC ht
  unfold t_Mo_isEmpty at ht
  unfold f_Mo_isEmpty
  exact L6 N a1 a2 a3 1 0 S0 _ hC ht
def tb_Mo_isTold_185 (N : Nat) (v2 : Int32) (w0 : Int32) (S : MS) : Option (Int32 × MS) :=
  if v2 = 0 then (some (0, S)) else (if w0 = 0 then (some (1, S)) else ((ta 6 (ms_row S) 0).bind fun x2 => (ta 6 (ms_row S) 1).bind fun x4 => (t_Mo_isEmpty N x2 x4 (-1) S).bind fun r6 => if r6.1 = 0 then ((ta 6 (ms_row r6.2) 2).bind fun x8 => (ta 6 (ms_row r6.2) 3).bind fun x10 => (t_Mo_isEmpty N x8 x10 (-1) r6.2).bind fun r12 => if r12.1 = 0 then (some (1, r12.2)) else (some (0, r12.2))) else (some (0, r6.2))))
def tb_Mo_isTold_180 (N : Nat) (v2 : Int32) (S : MS) : Option (Int32 × MS) :=
  tb_Mo_isTold_185 N v2 1 S
def tb_Mo_isTold_174 (N : Nat) (v1 : Int32) (v2 : Int32) (S : MS) : Option (Int32 × MS) :=
  if v1 = 8 then (tb_Mo_isTold_180 N v2 S) else (tb_Mo_isTold_185 N v2 0 S)
def tb_Mo_isTold_98 (N : Nat) (v1 : Int32) (v2 : Int32) (S : MS) : Option (Int32 × MS) :=
  if v1 = 7 then (if v2 = 0 then (some (0, S)) else ((ta 6 (ms_row S) 0).bind fun x2 => (ta 6 (ms_row S) 1).bind fun x4 => (ta 6 (ms_row S) 2).bind fun x6 => (t_Mo_isEmpty N x2 x4 x6 S).bind fun r8 => if r8.1 = 0 then ((ta 6 (ms_row r8.2) 3).bind fun x10 => (ta 6 (ms_row r8.2) 4).bind fun x12 => (ta 6 (ms_row r8.2) 5).bind fun x14 => (t_Mo_isEmpty N x10 x12 x14 r8.2).bind fun r16 => if r16.1 = 0 then (some (1, r16.2)) else (some (0, r16.2))) else (some (0, r8.2)))) else (if v1 ≤ 1 then (tb_Mo_isTold_174 N v1 v2 S) else (if v1 < 5 then (tb_Mo_isTold_180 N v2 S) else (tb_Mo_isTold_174 N v1 v2 S)))
def tb_Mo_isTold_85 (N : Nat) (k14 : Int32 → Int32 → Int32 → MS → Option (Int32 × MS)) (k29 : Int32 → Int32 → Int32 → Int32 → MS → Option (Int32 × MS)) (v1 : Int32) (v3 : Int32) (v4 : Int32) (w0 : Int32) (S : MS) : Option (Int32 × MS) :=
  (some (v4 + 1)).bind fun x1 => k29 v1 w0 v3 x1 S
def tb_Mo_isTold_80 (N : Nat) (k14 : Int32 → Int32 → Int32 → MS → Option (Int32 × MS)) (k29 : Int32 → Int32 → Int32 → Int32 → MS → Option (Int32 × MS)) (v1 : Int32) (v3 : Int32) (v4 : Int32) (S : MS) : Option (Int32 × MS) :=
  tb_Mo_isTold_85 N k14 k29 v1 v3 v4 1 S
def tb_Mo_isTold_84 (N : Nat) (k14 : Int32 → Int32 → Int32 → MS → Option (Int32 × MS)) (k29 : Int32 → Int32 → Int32 → Int32 → MS → Option (Int32 × MS)) (v1 : Int32) (v3 : Int32) (v4 : Int32) (S : MS) : Option (Int32 × MS) :=
  tb_Mo_isTold_85 N k14 k29 v1 v3 v4 0 S
def tb_Mo_isTold_29 (N : Nat) (k14 : Int32 → Int32 → Int32 → MS → Option (Int32 × MS)) (k29 : Int32 → Int32 → Int32 → Int32 → MS → Option (Int32 × MS)) (v1 : Int32) (v2 : Int32) (v3 : Int32) (v4 : Int32) (S : MS) : Option (Int32 × MS) :=
  if v3 ≤ v4 then ((some (v3 + 1)).bind fun x1 => k14 v1 v2 x1 S) else (if v2 = 0 then (tb_Mo_isTold_84 N k14 k29 v1 v3 v4 S) else ((ta 6 (ms_row S) v3).bind fun x3 => (ta 6 (ms_row S) v4).bind fun x5 => if x3 = x5 then (tb_Mo_isTold_80 N k14 k29 v1 v3 v4 S) else ((ta 6 (ms_row S) v3).bind fun x8 => (ta 6 (ms_row S) v4).bind fun x10 => (ta 100 (ms_same S) ((10 * x8) + x10)).bind fun x11 => if x11 = 0 then (tb_Mo_isTold_80 N k14 k29 v1 v3 v4 S) else (tb_Mo_isTold_84 N k14 k29 v1 v3 v4 S))))
def tl_Mo_isTold_29 (N : Nat) (k14 : Int32 → Int32 → Int32 → MS → Option (Int32 × MS)) : Nat → Int32 → Int32 → Int32 → Int32 → MS → Option (Int32 × MS)
  | 0, _, _, _, _, _ => none
  | n + 1, v1, v2, v3, v4, S => tb_Mo_isTold_29 N k14 (tl_Mo_isTold_29 N k14 n) v1 v2 v3 v4 S
def tb_Mo_isTold_14 (N : Nat) (k14 : Int32 → Int32 → Int32 → MS → Option (Int32 × MS)) (v1 : Int32) (v2 : Int32) (v3 : Int32) (S : MS) : Option (Int32 × MS) :=
  (t_Mo_size N v1).bind fun r1 => if r1 ≤ v3 then (tb_Mo_isTold_98 N v1 v2 S) else (if v1 ≤ 0 then (tb_Mo_isTold_98 N v1 v2 S) else (tl_Mo_isTold_29 N k14 N v1 v2 v3 0 S))
def tl_Mo_isTold_14 (N : Nat) : Nat → Int32 → Int32 → Int32 → MS → Option (Int32 × MS)
  | 0, _, _, _, _ => none
  | n + 1, v1, v2, v3, S => tb_Mo_isTold_14 N (tl_Mo_isTold_14 N n) v1 v2 v3 S
def t_Mo_isTold (N : Nat) (a1 : Int32) (S0 : MS) : Option (Int32 × MS) :=
  (t_Mo_isHeld N a1 S0).bind fun r2 => if r2.1 = 0 then (some (0, r2.2)) else (tl_Mo_isTold_14 N N a1 1 0 r2.2)
set_option maxHeartbeats 4000000 in
theorem u_Mo_isTold {K : Nat → ClassId} {N : Nat} {a1 : Int32} {h0 : fh_H} {S0 : MS} {res : Int32 × MS} {L : Nat → Nat → Nat} {hb : fh_H} (hL : ms_I L) (ht : t_Mo_isTold N a1 S0 = some res) (hC : ms_W K L hb h0 S0) : RO (fun z => z.1 = res.1 ∧ ms_W K L hb z.2 res.2) (f_Mo_isTold K N (L 0 0) a1 h0) := by
  have B185 : ∀ (v2 : Int32) (w0 : Int32) (S : MS) (h : fh_H), ms_W K L hb h S → tb_Mo_isTold_185 N v2 w0 S = some res → RO (fun z => z.1 = res.1 ∧ ms_W K L hb z.2 res.2) (b_Mo_isTold_185 K N (L 0 0) v2 w0 h) := by
    intro v2 w0 S h hC ht
    unfold tb_Mo_isTold_185 at ht
    unfold b_Mo_isTold_185
    by_cases c4 : v2 = 0
    · replace ht := fh_t c4 ht
      refine ro_t c4 ?_
      obtain rfl := Option.some.inj ht
      exact ro_s ⟨rfl, hC⟩
    · replace ht := fh_f c4 ht
      refine ro_f c4 ?_
      by_cases c3 : w0 = 0
      · replace ht := fh_t c3 ht
        refine ro_t c3 ?_
        obtain rfl := Option.some.inj ht
        exact ro_s ⟨rfl, hC⟩
      · replace ht := fh_f c3 ht
        refine ro_f c3 ?_
        refine ro_b (oi_a (hC.1 0 0 (by decide)) rfl) ?_
        obtain ⟨x2, e_x2, ht⟩ := fh_b ht
        refine ro_b ((ai_i (hC.1 6 0 (by decide))).trans e_x2) ?_
        refine ro_b (oi_a (hC.1 0 0 (by decide)) rfl) ?_
        obtain ⟨x4, e_x4, ht⟩ := fh_b ht
        refine ro_b ((ai_i (hC.1 6 0 (by decide))).trans e_x4) ?_
        refine ro_b (oi_o (hC.1 0 0 (by decide))) ?_
        obtain ⟨r6, e_r6, ht⟩ := fh_b ht
        refine ro_c (u_Mo_isEmpty hL e_r6 hC) (fun z hz => ?_)
        obtain ⟨z1, h⟩ := z
        obtain ⟨ez, hC⟩ := hz
        dsimp only at ez hC
        subst ez
        by_cases c2 : r6.1 = 0
        · replace ht := fh_t c2 ht
          refine ro_t c2 ?_
          refine ro_b (oi_a (hC.1 0 0 (by decide)) rfl) ?_
          obtain ⟨x8, e_x8, ht⟩ := fh_b ht
          refine ro_b ((ai_i (hC.1 6 0 (by decide))).trans e_x8) ?_
          refine ro_b (oi_a (hC.1 0 0 (by decide)) rfl) ?_
          obtain ⟨x10, e_x10, ht⟩ := fh_b ht
          refine ro_b ((ai_i (hC.1 6 0 (by decide))).trans e_x10) ?_
          refine ro_b (oi_o (hC.1 0 0 (by decide))) ?_
          obtain ⟨r12, e_r12, ht⟩ := fh_b ht
          refine ro_c (u_Mo_isEmpty hL e_r12 hC) (fun z hz => ?_)
          obtain ⟨z1, h⟩ := z
          obtain ⟨ez, hC⟩ := hz
          dsimp only at ez hC
          subst ez
          by_cases c1 : r12.1 = 0
          · replace ht := fh_t c1 ht
            refine ro_t c1 ?_
            obtain rfl := Option.some.inj ht
            exact ro_s ⟨rfl, hC⟩
          · replace ht := fh_f c1 ht
            refine ro_f c1 ?_
            obtain rfl := Option.some.inj ht
            exact ro_s ⟨rfl, hC⟩
        · replace ht := fh_f c2 ht
          refine ro_f c2 ?_
          obtain rfl := Option.some.inj ht
          exact ro_s ⟨rfl, hC⟩
  have B180 : ∀ (v2 : Int32) (S : MS) (h : fh_H), ms_W K L hb h S → tb_Mo_isTold_180 N v2 S = some res → RO (fun z => z.1 = res.1 ∧ ms_W K L hb z.2 res.2) (b_Mo_isTold_180 K N (L 0 0) v2 h) := by
    intro v2 S h hC ht
    unfold tb_Mo_isTold_180 at ht
    unfold b_Mo_isTold_180
    exact B185 v2 1 S _ hC ht
  have B174 : ∀ (v1 : Int32) (v2 : Int32) (S : MS) (h : fh_H), ms_W K L hb h S → tb_Mo_isTold_174 N v1 v2 S = some res → RO (fun z => z.1 = res.1 ∧ ms_W K L hb z.2 res.2) (b_Mo_isTold_174 K N (L 0 0) v1 v2 h) := by
    intro v1 v2 S h hC ht
    unfold tb_Mo_isTold_174 at ht
    unfold b_Mo_isTold_174
    by_cases c1 : v1 = 8
    · replace ht := fh_t c1 ht
      refine ro_t c1 ?_
      exact B180 v2 S _ hC ht
    · replace ht := fh_f c1 ht
      refine ro_f c1 ?_
      exact B185 v2 0 S _ hC ht
  have B98 : ∀ (v1 : Int32) (v2 : Int32) (S : MS) (h : fh_H), ms_W K L hb h S → tb_Mo_isTold_98 N v1 v2 S = some res → RO (fun z => z.1 = res.1 ∧ ms_W K L hb z.2 res.2) (b_Mo_isTold_98 K N (L 0 0) v1 v2 h) := by
    intro v1 v2 S h hC ht
    unfold tb_Mo_isTold_98 at ht
    unfold b_Mo_isTold_98
    by_cases c6 : v1 = 7
    · replace ht := fh_t c6 ht
      refine ro_t c6 ?_
      by_cases c3 : v2 = 0
      · replace ht := fh_t c3 ht
        refine ro_t c3 ?_
        obtain rfl := Option.some.inj ht
        exact ro_s ⟨rfl, hC⟩
      · replace ht := fh_f c3 ht
        refine ro_f c3 ?_
        refine ro_b (oi_a (hC.1 0 0 (by decide)) rfl) ?_
        obtain ⟨x2, e_x2, ht⟩ := fh_b ht
        refine ro_b ((ai_i (hC.1 6 0 (by decide))).trans e_x2) ?_
        refine ro_b (oi_a (hC.1 0 0 (by decide)) rfl) ?_
        obtain ⟨x4, e_x4, ht⟩ := fh_b ht
        refine ro_b ((ai_i (hC.1 6 0 (by decide))).trans e_x4) ?_
        refine ro_b (oi_a (hC.1 0 0 (by decide)) rfl) ?_
        obtain ⟨x6, e_x6, ht⟩ := fh_b ht
        refine ro_b ((ai_i (hC.1 6 0 (by decide))).trans e_x6) ?_
        refine ro_b (oi_o (hC.1 0 0 (by decide))) ?_
        obtain ⟨r8, e_r8, ht⟩ := fh_b ht
        refine ro_c (u_Mo_isEmpty hL e_r8 hC) (fun z hz => ?_)
        obtain ⟨z1, h⟩ := z
        obtain ⟨ez, hC⟩ := hz
        dsimp only at ez hC
        subst ez
        by_cases c2 : r8.1 = 0
        · replace ht := fh_t c2 ht
          refine ro_t c2 ?_
          refine ro_b (oi_a (hC.1 0 0 (by decide)) rfl) ?_
          obtain ⟨x10, e_x10, ht⟩ := fh_b ht
          refine ro_b ((ai_i (hC.1 6 0 (by decide))).trans e_x10) ?_
          refine ro_b (oi_a (hC.1 0 0 (by decide)) rfl) ?_
          obtain ⟨x12, e_x12, ht⟩ := fh_b ht
          refine ro_b ((ai_i (hC.1 6 0 (by decide))).trans e_x12) ?_
          refine ro_b (oi_a (hC.1 0 0 (by decide)) rfl) ?_
          obtain ⟨x14, e_x14, ht⟩ := fh_b ht
          refine ro_b ((ai_i (hC.1 6 0 (by decide))).trans e_x14) ?_
          refine ro_b (oi_o (hC.1 0 0 (by decide))) ?_
          obtain ⟨r16, e_r16, ht⟩ := fh_b ht
          refine ro_c (u_Mo_isEmpty hL e_r16 hC) (fun z hz => ?_)
          obtain ⟨z1, h⟩ := z
          obtain ⟨ez, hC⟩ := hz
          dsimp only at ez hC
          subst ez
          by_cases c1 : r16.1 = 0
          · replace ht := fh_t c1 ht
            refine ro_t c1 ?_
            obtain rfl := Option.some.inj ht
            exact ro_s ⟨rfl, hC⟩
          · replace ht := fh_f c1 ht
            refine ro_f c1 ?_
            obtain rfl := Option.some.inj ht
            exact ro_s ⟨rfl, hC⟩
        · replace ht := fh_f c2 ht
          refine ro_f c2 ?_
          obtain rfl := Option.some.inj ht
          exact ro_s ⟨rfl, hC⟩
    · replace ht := fh_f c6 ht
      refine ro_f c6 ?_
      by_cases c5 : v1 ≤ 1
      · replace ht := fh_t c5 ht
        refine ro_t c5 ?_
        exact B174 v1 v2 S _ hC ht
      · replace ht := fh_f c5 ht
        refine ro_f c5 ?_
        by_cases c4 : v1 < 5
        · replace ht := fh_t c4 ht
          refine ro_t c4 ?_
          exact B180 v2 S _ hC ht
        · replace ht := fh_f c4 ht
          refine ro_f c4 ?_
          exact B174 v1 v2 S _ hC ht
  have L14 : ∀ (n14 : Nat) (v1 : Int32) (v2 : Int32) (v3 : Int32) (S : MS) (h : fh_H), ms_W K L hb h S → tl_Mo_isTold_14 N n14 v1 v2 v3 S = some res → RO (fun z => z.1 = res.1 ∧ ms_W K L hb z.2 res.2) (l_Mo_isTold_14 K N (L 0 0) n14 v1 v2 v3 h) := by
    intro n14
    induction n14 with
    | zero =>
      intro v1 v2 v3 S h hC ht
      exact fh_no ht
    | succ n14 ih14 =>
      have L29 : ∀ (n29 : Nat) (v1 : Int32) (v2 : Int32) (v3 : Int32) (v4 : Int32) (S : MS) (h : fh_H), ms_W K L hb h S → tl_Mo_isTold_29 N (tl_Mo_isTold_14 N n14) n29 v1 v2 v3 v4 S = some res → RO (fun z => z.1 = res.1 ∧ ms_W K L hb z.2 res.2) (l_Mo_isTold_29 K N (l_Mo_isTold_14 K N (L 0 0) n14) (L 0 0) n29 v1 v2 v3 v4 h) := by
        intro n29
        induction n29 with
        | zero =>
          intro v1 v2 v3 v4 S h hC ht
          exact fh_no ht
        | succ n29 ih29 =>
          have B85 : ∀ (v1 : Int32) (v3 : Int32) (v4 : Int32) (w0 : Int32) (S : MS) (h : fh_H), ms_W K L hb h S → tb_Mo_isTold_85 N (tl_Mo_isTold_14 N n14) (tl_Mo_isTold_29 N (tl_Mo_isTold_14 N n14) n29) v1 v3 v4 w0 S = some res → RO (fun z => z.1 = res.1 ∧ ms_W K L hb z.2 res.2) (b_Mo_isTold_85 K N (l_Mo_isTold_14 K N (L 0 0) n14) (l_Mo_isTold_29 K N (l_Mo_isTold_14 K N (L 0 0) n14) (L 0 0) n29) (L 0 0) v1 v3 v4 w0 h) := by
            intro v1 v3 v4 w0 S h hC ht
            unfold tb_Mo_isTold_85 at ht
            unfold b_Mo_isTold_85
            obtain ⟨x1, e_x1, ht⟩ := fh_b ht
            refine ro_b e_x1 ?_
            exact ih29 v1 w0 v3 x1 S _ hC ht
          have B80 : ∀ (v1 : Int32) (v3 : Int32) (v4 : Int32) (S : MS) (h : fh_H), ms_W K L hb h S → tb_Mo_isTold_80 N (tl_Mo_isTold_14 N n14) (tl_Mo_isTold_29 N (tl_Mo_isTold_14 N n14) n29) v1 v3 v4 S = some res → RO (fun z => z.1 = res.1 ∧ ms_W K L hb z.2 res.2) (b_Mo_isTold_80 K N (l_Mo_isTold_14 K N (L 0 0) n14) (l_Mo_isTold_29 K N (l_Mo_isTold_14 K N (L 0 0) n14) (L 0 0) n29) (L 0 0) v1 v3 v4 h) := by
            intro v1 v3 v4 S h hC ht
            unfold tb_Mo_isTold_80 at ht
            unfold b_Mo_isTold_80
            exact B85 v1 v3 v4 1 S _ hC ht
          have B84 : ∀ (v1 : Int32) (v3 : Int32) (v4 : Int32) (S : MS) (h : fh_H), ms_W K L hb h S → tb_Mo_isTold_84 N (tl_Mo_isTold_14 N n14) (tl_Mo_isTold_29 N (tl_Mo_isTold_14 N n14) n29) v1 v3 v4 S = some res → RO (fun z => z.1 = res.1 ∧ ms_W K L hb z.2 res.2) (b_Mo_isTold_84 K N (l_Mo_isTold_14 K N (L 0 0) n14) (l_Mo_isTold_29 K N (l_Mo_isTold_14 K N (L 0 0) n14) (L 0 0) n29) (L 0 0) v1 v3 v4 h) := by
            intro v1 v3 v4 S h hC ht
            unfold tb_Mo_isTold_84 at ht
            unfold b_Mo_isTold_84
            exact B85 v1 v3 v4 0 S _ hC ht
          intro v1 v2 v3 v4 S h hC ht
          have ht : tb_Mo_isTold_29 N (tl_Mo_isTold_14 N n14) (tl_Mo_isTold_29 N (tl_Mo_isTold_14 N n14) n29) v1 v2 v3 v4 S = some res := ht
          show RO _ (b_Mo_isTold_29 K N (l_Mo_isTold_14 K N (L 0 0) n14) (l_Mo_isTold_29 K N (l_Mo_isTold_14 K N (L 0 0) n14) (L 0 0) n29) (L 0 0) v1 v2 v3 v4 h)
          unfold tb_Mo_isTold_29 at ht
          unfold b_Mo_isTold_29
          by_cases c4 : v3 ≤ v4
          · replace ht := fh_t c4 ht
            refine ro_t c4 ?_
            obtain ⟨x1, e_x1, ht⟩ := fh_b ht
            refine ro_b e_x1 ?_
            exact ih14 v1 v2 x1 S _ hC ht
          · replace ht := fh_f c4 ht
            refine ro_f c4 ?_
            by_cases c3 : v2 = 0
            · replace ht := fh_t c3 ht
              refine ro_t c3 ?_
              exact B84 v1 v3 v4 S _ hC ht
            · replace ht := fh_f c3 ht
              refine ro_f c3 ?_
              refine ro_b (oi_a (hC.1 0 0 (by decide)) rfl) ?_
              obtain ⟨x3, e_x3, ht⟩ := fh_b ht
              refine ro_b ((ai_i (hC.1 6 0 (by decide))).trans e_x3) ?_
              refine ro_b (oi_a (hC.1 0 0 (by decide)) rfl) ?_
              obtain ⟨x5, e_x5, ht⟩ := fh_b ht
              refine ro_b ((ai_i (hC.1 6 0 (by decide))).trans e_x5) ?_
              by_cases c2 : x3 = x5
              · replace ht := fh_t c2 ht
                refine ro_t c2 ?_
                exact B80 v1 v3 v4 S _ hC ht
              · replace ht := fh_f c2 ht
                refine ro_f c2 ?_
                refine ro_b (oi_a (hC.1 0 0 (by decide)) rfl) ?_
                refine ro_b (oi_a (hC.1 0 0 (by decide)) rfl) ?_
                obtain ⟨x8, e_x8, ht⟩ := fh_b ht
                refine ro_b ((ai_i (hC.1 6 0 (by decide))).trans e_x8) ?_
                refine ro_b (oi_a (hC.1 0 0 (by decide)) rfl) ?_
                obtain ⟨x10, e_x10, ht⟩ := fh_b ht
                refine ro_b ((ai_i (hC.1 6 0 (by decide))).trans e_x10) ?_
                obtain ⟨x11, e_x11, ht⟩ := fh_b ht
                refine ro_b ((ai_i (hC.1 7 0 (by decide))).trans e_x11) ?_
                by_cases c1 : x11 = 0
                · replace ht := fh_t c1 ht
                  refine ro_t c1 ?_
                  exact B80 v1 v3 v4 S _ hC ht
                · replace ht := fh_f c1 ht
                  refine ro_f c1 ?_
                  exact B84 v1 v3 v4 S _ hC ht
      intro v1 v2 v3 S h hC ht
      have ht : tb_Mo_isTold_14 N (tl_Mo_isTold_14 N n14) v1 v2 v3 S = some res := ht
      show RO _ (b_Mo_isTold_14 K N (l_Mo_isTold_14 K N (L 0 0) n14) (L 0 0) v1 v2 v3 h)
      unfold tb_Mo_isTold_14 at ht
      unfold b_Mo_isTold_14
      obtain ⟨r1, e_r1, ht⟩ := fh_b ht
      refine ro_c (u_Mo_size e_r1) (fun z hz => ?_)
      subst hz
      by_cases c2 : r1 ≤ v3
      · replace ht := fh_t c2 ht
        refine ro_t c2 ?_
        exact B98 v1 v2 S _ hC ht
      · replace ht := fh_f c2 ht
        refine ro_f c2 ?_
        by_cases c1 : v1 ≤ 0
        · replace ht := fh_t c1 ht
          refine ro_t c1 ?_
          exact B98 v1 v2 S _ hC ht
        · replace ht := fh_f c1 ht
          refine ro_f c1 ?_
          exact L29 N v1 v2 v3 0 S _ hC ht
  unfold t_Mo_isTold at ht
  unfold f_Mo_isTold
  refine ro_b (oi_o (hC.1 0 0 (by decide))) ?_
  obtain ⟨r2, e_r2, ht⟩ := fh_b ht
  refine ro_c (u_Mo_isHeld hL e_r2 hC) (fun z hz => ?_)
  obtain ⟨z1, h⟩ := z
  obtain ⟨ez, hC⟩ := hz
  dsimp only at ez hC
  subst ez
  by_cases c1 : r2.1 = 0
  · replace ht := fh_t c1 ht
    refine ro_t c1 ?_
    obtain rfl := Option.some.inj ht
    exact ro_s ⟨rfl, hC⟩
  · replace ht := fh_f c1 ht
    refine ro_f c1 ?_
    exact L14 N a1 1 0 r2.2 _ hC ht
def tb_Mo_visit_85 (N : Nat)  (S : MS) : Option (MS) :=
  (some (ms_seen S)).bind fun x1 => (some (ms_set_seen S (x1 + 1))).bind fun S2 => some S2
def tb_Mo_visit_35 (N : Nat) (k35 : Int32 → Int32 → MS → Option (MS)) (v1 : Int32) (v2 : Int32) (S : MS) : Option (MS) :=
  if 6 ≤ v2 then (if v1 = 8 then ((some (ms_foundM S)).bind fun x2 => (twi 6 (ms_found S) 4 x2).bind fun F3 => (some (ms_set_found S F3)).bind fun S3 => (some (ms_foundN S3)).bind fun x5 => (twi 6 (ms_found S3) 5 x5).bind fun F6 => (some (ms_set_found S3 F6)).bind fun S6 => tb_Mo_visit_85 N S6) else (tb_Mo_visit_85 N S)) else ((ta 6 (ms_row S) v2).bind fun x9 => (twi 6 (ms_found S) v2 x9).bind fun F10 => (some (ms_set_found S F10)).bind fun S10 => (some (v2 + 1)).bind fun x11 => k35 v1 x11 S10)
def tl_Mo_visit_35 (N : Nat) : Nat → Int32 → Int32 → MS → Option (MS)
  | 0, _, _, _ => none
  | n + 1, v1, v2, S => tb_Mo_visit_35 N (tl_Mo_visit_35 N n) v1 v2 S
def t_Mo_visit (N : Nat) (a1 : Int32) (S0 : MS) : Option (MS) :=
  (t_Mo_isOrdered N a1 S0).bind fun r2 => if r2 = 0 then (some S0) else ((t_Mo_isTold N a1 S0).bind fun r4 => if r4.1 = 0 then (some r4.2) else ((some (ms_seen r4.2)).bind fun x5 => (some (ms_wanted r4.2)).bind fun x6 => if x5 = x6 then ((tz 1).bind fun z7 => (some (ms_set_isFound r4.2 z7)).bind fun S7 => tl_Mo_visit_35 N N a1 0 S7) else (tb_Mo_visit_85 N r4.2)))
set_option maxHeartbeats 4000000 in
theorem u_Mo_visit {K : Nat → ClassId} {N : Nat} {a1 : Int32} {h0 : fh_H} {S0 : MS} {res : MS} {L : Nat → Nat → Nat} {hb : fh_H} (hL : ms_I L) (ht : t_Mo_visit N a1 S0 = some res) (hC : ms_W K L hb h0 S0) : RO (fun z => ms_W K L hb z res) (f_Mo_visit K N (L 0 0) a1 h0) := by
  have B85 : ∀  (S : MS) (h : fh_H), ms_W K L hb h S → tb_Mo_visit_85 N  S = some res → RO (fun z => ms_W K L hb z res) (b_Mo_visit_85 K N (L 0 0)  h) := by
    intro  S h hC ht
    unfold tb_Mo_visit_85 at ht
    unfold b_Mo_visit_85
    obtain ⟨x1, e_x1, ht⟩ := fh_b ht
    refine ro_b ((oi_i (hC.1 0 0 (by decide)) rfl).trans e_x1) ?_
    obtain ⟨S2, e_S2, ht⟩ := fh_b ht
    refine ro_c (G1 := (fun z => ms_W K L hb z S2)) ⟨_, oi_p (hC.1 0 0 (by decide)) (Nat.le_of_ble_eq_true rfl), by rw [← Option.some.inj e_S2]; exact ms_w_seen hL hC rfl⟩ (fun h hC => ?_)
    obtain rfl := Option.some.inj ht
    exact ro_s hC
  have L35 : ∀ (n35 : Nat) (v1 : Int32) (v2 : Int32) (S : MS) (h : fh_H), ms_W K L hb h S → tl_Mo_visit_35 N n35 v1 v2 S = some res → RO (fun z => ms_W K L hb z res) (l_Mo_visit_35 K N (L 0 0) n35 v1 v2 h) := by
    intro n35
    induction n35 with
    | zero =>
      intro v1 v2 S h hC ht
      exact fh_no ht
    | succ n35 ih35 =>
      intro v1 v2 S h hC ht
      have ht : tb_Mo_visit_35 N (tl_Mo_visit_35 N n35) v1 v2 S = some res := ht
      show RO _ (b_Mo_visit_35 K N (l_Mo_visit_35 K N (L 0 0) n35) (L 0 0) v1 v2 h)
      unfold tb_Mo_visit_35 at ht
      unfold b_Mo_visit_35
      by_cases c2 : 6 ≤ v2
      · replace ht := fh_t c2 ht
        refine ro_t c2 ?_
        by_cases c1 : v1 = 8
        · replace ht := fh_t c1 ht
          refine ro_t c1 ?_
          refine ro_b (oi_a (hC.1 0 0 (by decide)) rfl) ?_
          obtain ⟨x2, e_x2, ht⟩ := fh_b ht
          refine ro_b ((oi_i (hC.1 0 0 (by decide)) rfl).trans e_x2) ?_
          obtain ⟨F3, e_F3, ht⟩ := fh_b ht
          obtain ⟨S3, e_S3, ht⟩ := fh_b ht
          refine ro_c (G1 := (fun z => ms_W K L hb z S3)) ⟨_, aw_i (hC.1 8 0 (by decide)) e_F3, by rw [← Option.some.inj e_S3]; exact ms_w_found hL hC ⟩ (fun h hC => ?_)
          refine ro_b (oi_a (hC.1 0 0 (by decide)) rfl) ?_
          obtain ⟨x5, e_x5, ht⟩ := fh_b ht
          refine ro_b ((oi_i (hC.1 0 0 (by decide)) rfl).trans e_x5) ?_
          obtain ⟨F6, e_F6, ht⟩ := fh_b ht
          obtain ⟨S6, e_S6, ht⟩ := fh_b ht
          refine ro_c (G1 := (fun z => ms_W K L hb z S6)) ⟨_, aw_i (hC.1 8 0 (by decide)) e_F6, by rw [← Option.some.inj e_S6]; exact ms_w_found hL hC ⟩ (fun h hC => ?_)
          exact B85 S6 _ hC ht
        · replace ht := fh_f c1 ht
          refine ro_f c1 ?_
          exact B85 S _ hC ht
      · replace ht := fh_f c2 ht
        refine ro_f c2 ?_
        refine ro_b (oi_a (hC.1 0 0 (by decide)) rfl) ?_
        refine ro_b (oi_a (hC.1 0 0 (by decide)) rfl) ?_
        obtain ⟨x9, e_x9, ht⟩ := fh_b ht
        refine ro_b ((ai_i (hC.1 6 0 (by decide))).trans e_x9) ?_
        obtain ⟨F10, e_F10, ht⟩ := fh_b ht
        obtain ⟨S10, e_S10, ht⟩ := fh_b ht
        refine ro_c (G1 := (fun z => ms_W K L hb z S10)) ⟨_, aw_i (hC.1 8 0 (by decide)) e_F10, by rw [← Option.some.inj e_S10]; exact ms_w_found hL hC ⟩ (fun h hC => ?_)
        obtain ⟨x11, e_x11, ht⟩ := fh_b ht
        refine ro_b e_x11 ?_
        exact ih35 v1 x11 S10 _ hC ht
  unfold t_Mo_visit at ht
  unfold f_Mo_visit
  refine ro_b (oi_o (hC.1 0 0 (by decide))) ?_
  obtain ⟨r2, e_r2, ht⟩ := fh_b ht
  refine ro_c (u_Mo_isOrdered hL e_r2 hC) (fun z hz => ?_)
  subst hz
  by_cases c3 : r2 = 0
  · replace ht := fh_t c3 ht
    refine ro_t c3 ?_
    obtain rfl := Option.some.inj ht
    exact ro_s hC
  · replace ht := fh_f c3 ht
    refine ro_f c3 ?_
    refine ro_b (oi_o (hC.1 0 0 (by decide))) ?_
    obtain ⟨r4, e_r4, ht⟩ := fh_b ht
    refine ro_c (u_Mo_isTold hL e_r4 hC) (fun z hz => ?_)
    obtain ⟨z1, h⟩ := z
    obtain ⟨ez, hC⟩ := hz
    dsimp only at ez hC
    subst ez
    by_cases c2 : r4.1 = 0
    · replace ht := fh_t c2 ht
      refine ro_t c2 ?_
      obtain rfl := Option.some.inj ht
      exact ro_s hC
    · replace ht := fh_f c2 ht
      refine ro_f c2 ?_
      obtain ⟨x5, e_x5, ht⟩ := fh_b ht
      refine ro_b ((oi_i (hC.1 0 0 (by decide)) rfl).trans e_x5) ?_
      obtain ⟨x6, e_x6, ht⟩ := fh_b ht
      refine ro_b ((oi_i (hC.1 0 0 (by decide)) rfl).trans e_x6) ?_
      by_cases c1 : x5 = x6
      · replace ht := fh_t c1 ht
        refine ro_t c1 ?_
        obtain ⟨z7, e_z7, ht⟩ := fh_b ht
        obtain ⟨hz_z7, ez_z7⟩ := tz_s e_z7
        obtain ⟨S7, e_S7, ht⟩ := fh_b ht
        refine ro_c (G1 := (fun z => ms_W K L hb z S7)) ⟨_, oi_z (hC.1 0 0 (by decide)) (Nat.le_of_ble_eq_true rfl) hz_z7, by rw [← Option.some.inj e_S7, ← ez_z7]; exact ms_w_isFound hL hC rfl⟩ (fun h hC => ?_)
        exact L35 N a1 0 S7 _ hC ht
      · replace ht := fh_f c1 ht
        refine ro_f c1 ?_
        exact B85 r4.2 _ hC ht
def tb_Mo_walkArea_21 (N : Nat) (k6 : Int32 → Int32 → Int32 → Int32 → Int32 → MS → Option (MS)) (k21 : Int32 → Int32 → Int32 → Int32 → Int32 → Int32 → MS → Option (MS)) (v1 : Int32) (v2 : Int32) (v3 : Int32) (v4 : Int32) (v5 : Int32) (v6 : Int32) (S : MS) : Option (MS) :=
  (some (ms_many S)).bind fun x1 => if x1 ≤ v6 then ((some (v5 + 1)).bind fun x2 => k6 v1 v2 v3 v4 x2 S) else ((t_Mo_setRow N v1 v2 v3 v4 v5 v6 S).bind fun r4 => (t_Mo_visit N 7 r4).bind fun r6 => (some (v6 + 1)).bind fun x7 => k21 v1 v2 v3 v4 v5 x7 r6)
def tl_Mo_walkArea_21 (N : Nat) (k6 : Int32 → Int32 → Int32 → Int32 → Int32 → MS → Option (MS)) : Nat → Int32 → Int32 → Int32 → Int32 → Int32 → Int32 → MS → Option (MS)
  | 0, _, _, _, _, _, _, _ => none
  | n + 1, v1, v2, v3, v4, v5, v6, S => tb_Mo_walkArea_21 N k6 (tl_Mo_walkArea_21 N k6 n) v1 v2 v3 v4 v5 v6 S
def tb_Mo_walkArea_6 (N : Nat) (k6 : Int32 → Int32 → Int32 → Int32 → Int32 → MS → Option (MS)) (v1 : Int32) (v2 : Int32) (v3 : Int32) (v4 : Int32) (v5 : Int32) (S : MS) : Option (MS) :=
  (some (ms_many S)).bind fun x1 => if x1 ≤ v5 then (some S) else ((some (v5 + 1)).bind fun x2 => tl_Mo_walkArea_21 N k6 N v1 v2 v3 v4 v5 x2 S)
def tl_Mo_walkArea_6 (N : Nat) : Nat → Int32 → Int32 → Int32 → Int32 → Int32 → MS → Option (MS)
  | 0, _, _, _, _, _, _ => none
  | n + 1, v1, v2, v3, v4, v5, S => tb_Mo_walkArea_6 N (tl_Mo_walkArea_6 N n) v1 v2 v3 v4 v5 S
def t_Mo_walkArea (N : Nat) (a1 : Int32) (a2 : Int32) (a3 : Int32) (a4 : Int32) (S0 : MS) : Option (MS) :=
  (some (a4 + 1)).bind fun x1 => tl_Mo_walkArea_6 N N a1 a2 a3 a4 x1 S0
set_option maxHeartbeats 4000000 in
theorem u_Mo_walkArea {K : Nat → ClassId} {N : Nat} {a1 : Int32} {a2 : Int32} {a3 : Int32} {a4 : Int32} {h0 : fh_H} {S0 : MS} {res : MS} {L : Nat → Nat → Nat} {hb : fh_H} (hL : ms_I L) (ht : t_Mo_walkArea N a1 a2 a3 a4 S0 = some res) (hC : ms_W K L hb h0 S0) : RO (fun z => ms_W K L hb z res) (f_Mo_walkArea K N (L 0 0) a1 a2 a3 a4 h0) := by
  have L6 : ∀ (n6 : Nat) (v1 : Int32) (v2 : Int32) (v3 : Int32) (v4 : Int32) (v5 : Int32) (S : MS) (h : fh_H), ms_W K L hb h S → tl_Mo_walkArea_6 N n6 v1 v2 v3 v4 v5 S = some res → RO (fun z => ms_W K L hb z res) (l_Mo_walkArea_6 K N (L 0 0) n6 v1 v2 v3 v4 v5 h) := by
    intro n6
    induction n6 with
    | zero =>
      intro v1 v2 v3 v4 v5 S h hC ht
      exact fh_no ht
    | succ n6 ih6 =>
      have L21 : ∀ (n21 : Nat) (v1 : Int32) (v2 : Int32) (v3 : Int32) (v4 : Int32) (v5 : Int32) (v6 : Int32) (S : MS) (h : fh_H), ms_W K L hb h S → tl_Mo_walkArea_21 N (tl_Mo_walkArea_6 N n6) n21 v1 v2 v3 v4 v5 v6 S = some res → RO (fun z => ms_W K L hb z res) (l_Mo_walkArea_21 K N (l_Mo_walkArea_6 K N (L 0 0) n6) (L 0 0) n21 v1 v2 v3 v4 v5 v6 h) := by
        intro n21
        induction n21 with
        | zero =>
          intro v1 v2 v3 v4 v5 v6 S h hC ht
          exact fh_no ht
        | succ n21 ih21 =>
          intro v1 v2 v3 v4 v5 v6 S h hC ht
          have ht : tb_Mo_walkArea_21 N (tl_Mo_walkArea_6 N n6) (tl_Mo_walkArea_21 N (tl_Mo_walkArea_6 N n6) n21) v1 v2 v3 v4 v5 v6 S = some res := ht
          show RO _ (b_Mo_walkArea_21 K N (l_Mo_walkArea_6 K N (L 0 0) n6) (l_Mo_walkArea_21 K N (l_Mo_walkArea_6 K N (L 0 0) n6) (L 0 0) n21) (L 0 0) v1 v2 v3 v4 v5 v6 h)
          unfold tb_Mo_walkArea_21 at ht
          unfold b_Mo_walkArea_21
          obtain ⟨x1, e_x1, ht⟩ := fh_b ht
          refine ro_b ((oi_i (hC.1 0 0 (by decide)) rfl).trans e_x1) ?_
          by_cases c1 : x1 ≤ v6
          · replace ht := fh_t c1 ht
            refine ro_t c1 ?_
            obtain ⟨x2, e_x2, ht⟩ := fh_b ht
            refine ro_b e_x2 ?_
            exact ih6 v1 v2 v3 v4 x2 S _ hC ht
          · replace ht := fh_f c1 ht
            refine ro_f c1 ?_
            refine ro_b (oi_o (hC.1 0 0 (by decide))) ?_
            obtain ⟨r4, e_r4, ht⟩ := fh_b ht
            refine ro_c (u_Mo_setRow hL e_r4 hC) (fun h hC => ?_)
            refine ro_b (oi_o (hC.1 0 0 (by decide))) ?_
            obtain ⟨r6, e_r6, ht⟩ := fh_b ht
            refine ro_c (u_Mo_visit hL e_r6 hC) (fun h hC => ?_)
            obtain ⟨x7, e_x7, ht⟩ := fh_b ht
            refine ro_b e_x7 ?_
            exact ih21 v1 v2 v3 v4 v5 x7 r6 _ hC ht
      intro v1 v2 v3 v4 v5 S h hC ht
      have ht : tb_Mo_walkArea_6 N (tl_Mo_walkArea_6 N n6) v1 v2 v3 v4 v5 S = some res := ht
      show RO _ (b_Mo_walkArea_6 K N (l_Mo_walkArea_6 K N (L 0 0) n6) (L 0 0) v1 v2 v3 v4 v5 h)
      unfold tb_Mo_walkArea_6 at ht
      unfold b_Mo_walkArea_6
      obtain ⟨x1, e_x1, ht⟩ := fh_b ht
      refine ro_b ((oi_i (hC.1 0 0 (by decide)) rfl).trans e_x1) ?_
      by_cases c1 : x1 ≤ v5
      · replace ht := fh_t c1 ht
        refine ro_t c1 ?_
        obtain rfl := Option.some.inj ht
        exact ro_s hC
      · replace ht := fh_f c1 ht
        refine ro_f c1 ?_
        obtain ⟨x2, e_x2, ht⟩ := fh_b ht
        refine ro_b e_x2 ?_
        exact L21 N v1 v2 v3 v4 v5 x2 S _ hC ht
  unfold t_Mo_walkArea at ht
  unfold f_Mo_walkArea
  obtain ⟨x1, e_x1, ht⟩ := fh_b ht
  refine ro_b e_x1 ?_
  exact L6 N a1 a2 a3 a4 x1 S0 _ hC ht
def tb_Mo_walkMore_54 (N : Nat) (k3 : Int32 → Int32 → Int32 → Int32 → Int32 → MS → Option (MS)) (v1 : Int32) (v2 : Int32) (v3 : Int32) (v4 : Int32) (v5 : Int32) (S : MS) : Option (MS) :=
  (some (v5 + 1)).bind fun x1 => k3 v1 v2 v3 v4 x1 S
def tb_Mo_walkMore_3 (N : Nat) (k3 : Int32 → Int32 → Int32 → Int32 → Int32 → MS → Option (MS)) (v1 : Int32) (v2 : Int32) (v3 : Int32) (v4 : Int32) (v5 : Int32) (S : MS) : Option (MS) :=
  (some (ms_many S)).bind fun x1 => if x1 ≤ v5 then (some S) else (if v1 = 7 then (if v4 ≤ v3 then (tb_Mo_walkMore_54 N k3 v1 v2 v3 v4 v5 S) else ((t_Mo_walkArea N v2 v3 v4 v5 S).bind fun r3 => tb_Mo_walkMore_54 N k3 v1 v2 v3 v4 v5 r3)) else ((t_Mo_setRow N v2 v3 v4 v5 0 0 S).bind fun r5 => (t_Mo_visit N v1 r5).bind fun r7 => tb_Mo_walkMore_54 N k3 v1 v2 v3 v4 v5 r7))
def tl_Mo_walkMore_3 (N : Nat) : Nat → Int32 → Int32 → Int32 → Int32 → Int32 → MS → Option (MS)
  | 0, _, _, _, _, _, _ => none
  | n + 1, v1, v2, v3, v4, v5, S => tb_Mo_walkMore_3 N (tl_Mo_walkMore_3 N n) v1 v2 v3 v4 v5 S
def t_Mo_walkMore (N : Nat) (a1 : Int32) (a2 : Int32) (a3 : Int32) (a4 : Int32) (S0 : MS) : Option (MS) :=
  tl_Mo_walkMore_3 N N a1 a2 a3 a4 0 S0
set_option maxHeartbeats 4000000 in
theorem u_Mo_walkMore {K : Nat → ClassId} {N : Nat} {a1 : Int32} {a2 : Int32} {a3 : Int32} {a4 : Int32} {h0 : fh_H} {S0 : MS} {res : MS} {L : Nat → Nat → Nat} {hb : fh_H} (hL : ms_I L) (ht : t_Mo_walkMore N a1 a2 a3 a4 S0 = some res) (hC : ms_W K L hb h0 S0) : RO (fun z => ms_W K L hb z res) (f_Mo_walkMore K N (L 0 0) a1 a2 a3 a4 h0) := by
  have L3 : ∀ (n3 : Nat) (v1 : Int32) (v2 : Int32) (v3 : Int32) (v4 : Int32) (v5 : Int32) (S : MS) (h : fh_H), ms_W K L hb h S → tl_Mo_walkMore_3 N n3 v1 v2 v3 v4 v5 S = some res → RO (fun z => ms_W K L hb z res) (l_Mo_walkMore_3 K N (L 0 0) n3 v1 v2 v3 v4 v5 h) := by
    intro n3
    induction n3 with
    | zero =>
      intro v1 v2 v3 v4 v5 S h hC ht
      exact fh_no ht
    | succ n3 ih3 =>
      have B54 : ∀ (v1 : Int32) (v2 : Int32) (v3 : Int32) (v4 : Int32) (v5 : Int32) (S : MS) (h : fh_H), ms_W K L hb h S → tb_Mo_walkMore_54 N (tl_Mo_walkMore_3 N n3) v1 v2 v3 v4 v5 S = some res → RO (fun z => ms_W K L hb z res) (b_Mo_walkMore_54 K N (l_Mo_walkMore_3 K N (L 0 0) n3) (L 0 0) v1 v2 v3 v4 v5 h) := by
        intro v1 v2 v3 v4 v5 S h hC ht
        unfold tb_Mo_walkMore_54 at ht
        unfold b_Mo_walkMore_54
        obtain ⟨x1, e_x1, ht⟩ := fh_b ht
        refine ro_b e_x1 ?_
        exact ih3 v1 v2 v3 v4 x1 S _ hC ht
      intro v1 v2 v3 v4 v5 S h hC ht
      have ht : tb_Mo_walkMore_3 N (tl_Mo_walkMore_3 N n3) v1 v2 v3 v4 v5 S = some res := ht
      show RO _ (b_Mo_walkMore_3 K N (l_Mo_walkMore_3 K N (L 0 0) n3) (L 0 0) v1 v2 v3 v4 v5 h)
      unfold tb_Mo_walkMore_3 at ht
      unfold b_Mo_walkMore_3
      obtain ⟨x1, e_x1, ht⟩ := fh_b ht
      refine ro_b ((oi_i (hC.1 0 0 (by decide)) rfl).trans e_x1) ?_
      by_cases c3 : x1 ≤ v5
      · replace ht := fh_t c3 ht
        refine ro_t c3 ?_
        obtain rfl := Option.some.inj ht
        exact ro_s hC
      · replace ht := fh_f c3 ht
        refine ro_f c3 ?_
        by_cases c2 : v1 = 7
        · replace ht := fh_t c2 ht
          refine ro_t c2 ?_
          by_cases c1 : v4 ≤ v3
          · replace ht := fh_t c1 ht
            refine ro_t c1 ?_
            exact B54 v1 v2 v3 v4 v5 S _ hC ht
          · replace ht := fh_f c1 ht
            refine ro_f c1 ?_
            refine ro_b (oi_o (hC.1 0 0 (by decide))) ?_
            obtain ⟨r3, e_r3, ht⟩ := fh_b ht
            refine ro_c (u_Mo_walkArea hL e_r3 hC) (fun h hC => ?_)
            exact B54 v1 v2 v3 v4 v5 r3 _ hC ht
        · replace ht := fh_f c2 ht
          refine ro_f c2 ?_
          refine ro_b (oi_o (hC.1 0 0 (by decide))) ?_
          obtain ⟨r5, e_r5, ht⟩ := fh_b ht
          refine ro_c (u_Mo_setRow hL e_r5 hC) (fun h hC => ?_)
          refine ro_b (oi_o (hC.1 0 0 (by decide))) ?_
          obtain ⟨r7, e_r7, ht⟩ := fh_b ht
          refine ro_c (u_Mo_visit hL e_r7 hC) (fun h hC => ?_)
          exact B54 v1 v2 v3 v4 v5 r7 _ hC ht
  unfold t_Mo_walkMore at ht
  unfold f_Mo_walkMore
  exact L3 N a1 a2 a3 a4 0 S0 _ hC ht
def tb_Mo_walkThird_48 (N : Nat) (k3 : Int32 → Int32 → Int32 → Int32 → MS → Option (MS)) (v1 : Int32) (v2 : Int32) (v3 : Int32) (v4 : Int32) (S : MS) : Option (MS) :=
  (some (v4 + 1)).bind fun x1 => k3 v1 v2 v3 x1 S
def tb_Mo_walkThird_3 (N : Nat) (k3 : Int32 → Int32 → Int32 → Int32 → MS → Option (MS)) (v1 : Int32) (v2 : Int32) (v3 : Int32) (v4 : Int32) (S : MS) : Option (MS) :=
  (some (ms_many S)).bind fun x1 => if x1 ≤ v4 then (some S) else ((t_Mo_size N v1).bind fun r2 => if r2 = 3 then ((t_Mo_setRow N v2 v3 v4 0 0 0 S).bind fun r6 => (t_Mo_visit N v1 r6).bind fun r8 => tb_Mo_walkThird_48 N k3 v1 v2 v3 v4 r8) else ((t_Mo_walkMore N v1 v2 v3 v4 S).bind fun r4 => tb_Mo_walkThird_48 N k3 v1 v2 v3 v4 r4))
def tl_Mo_walkThird_3 (N : Nat) : Nat → Int32 → Int32 → Int32 → Int32 → MS → Option (MS)
  | 0, _, _, _, _, _ => none
  | n + 1, v1, v2, v3, v4, S => tb_Mo_walkThird_3 N (tl_Mo_walkThird_3 N n) v1 v2 v3 v4 S
def t_Mo_walkThird (N : Nat) (a1 : Int32) (a2 : Int32) (a3 : Int32) (S0 : MS) : Option (MS) :=
  tl_Mo_walkThird_3 N N a1 a2 a3 0 S0
set_option maxHeartbeats 4000000 in
theorem u_Mo_walkThird {K : Nat → ClassId} {N : Nat} {a1 : Int32} {a2 : Int32} {a3 : Int32} {h0 : fh_H} {S0 : MS} {res : MS} {L : Nat → Nat → Nat} {hb : fh_H} (hL : ms_I L) (ht : t_Mo_walkThird N a1 a2 a3 S0 = some res) (hC : ms_W K L hb h0 S0) : RO (fun z => ms_W K L hb z res) (f_Mo_walkThird K N (L 0 0) a1 a2 a3 h0) := by
  have L3 : ∀ (n3 : Nat) (v1 : Int32) (v2 : Int32) (v3 : Int32) (v4 : Int32) (S : MS) (h : fh_H), ms_W K L hb h S → tl_Mo_walkThird_3 N n3 v1 v2 v3 v4 S = some res → RO (fun z => ms_W K L hb z res) (l_Mo_walkThird_3 K N (L 0 0) n3 v1 v2 v3 v4 h) := by
    intro n3
    induction n3 with
    | zero =>
      intro v1 v2 v3 v4 S h hC ht
      exact fh_no ht
    | succ n3 ih3 =>
      have B48 : ∀ (v1 : Int32) (v2 : Int32) (v3 : Int32) (v4 : Int32) (S : MS) (h : fh_H), ms_W K L hb h S → tb_Mo_walkThird_48 N (tl_Mo_walkThird_3 N n3) v1 v2 v3 v4 S = some res → RO (fun z => ms_W K L hb z res) (b_Mo_walkThird_48 K N (l_Mo_walkThird_3 K N (L 0 0) n3) (L 0 0) v1 v2 v3 v4 h) := by
        intro v1 v2 v3 v4 S h hC ht
        unfold tb_Mo_walkThird_48 at ht
        unfold b_Mo_walkThird_48
        obtain ⟨x1, e_x1, ht⟩ := fh_b ht
        refine ro_b e_x1 ?_
        exact ih3 v1 v2 v3 x1 S _ hC ht
      intro v1 v2 v3 v4 S h hC ht
      have ht : tb_Mo_walkThird_3 N (tl_Mo_walkThird_3 N n3) v1 v2 v3 v4 S = some res := ht
      show RO _ (b_Mo_walkThird_3 K N (l_Mo_walkThird_3 K N (L 0 0) n3) (L 0 0) v1 v2 v3 v4 h)
      unfold tb_Mo_walkThird_3 at ht
      unfold b_Mo_walkThird_3
      obtain ⟨x1, e_x1, ht⟩ := fh_b ht
      refine ro_b ((oi_i (hC.1 0 0 (by decide)) rfl).trans e_x1) ?_
      by_cases c2 : x1 ≤ v4
      · replace ht := fh_t c2 ht
        refine ro_t c2 ?_
        obtain rfl := Option.some.inj ht
        exact ro_s hC
      · replace ht := fh_f c2 ht
        refine ro_f c2 ?_
        obtain ⟨r2, e_r2, ht⟩ := fh_b ht
        refine ro_c (u_Mo_size e_r2) (fun z hz => ?_)
        subst hz
        by_cases c1 : r2 = 3
        · replace ht := fh_t c1 ht
          refine ro_t c1 ?_
          refine ro_b (oi_o (hC.1 0 0 (by decide))) ?_
          obtain ⟨r6, e_r6, ht⟩ := fh_b ht
          refine ro_c (u_Mo_setRow hL e_r6 hC) (fun h hC => ?_)
          refine ro_b (oi_o (hC.1 0 0 (by decide))) ?_
          obtain ⟨r8, e_r8, ht⟩ := fh_b ht
          refine ro_c (u_Mo_visit hL e_r8 hC) (fun h hC => ?_)
          exact B48 v1 v2 v3 v4 r8 _ hC ht
        · replace ht := fh_f c1 ht
          refine ro_f c1 ?_
          refine ro_b (oi_o (hC.1 0 0 (by decide))) ?_
          obtain ⟨r4, e_r4, ht⟩ := fh_b ht
          refine ro_c (u_Mo_walkMore hL e_r4 hC) (fun h hC => ?_)
          exact B48 v1 v2 v3 v4 r4 _ hC ht
  unfold t_Mo_walkThird at ht
  unfold f_Mo_walkThird
  exact L3 N a1 a2 a3 0 S0 _ hC ht
def tb_Mo_walk_84 (N : Nat) (k21 : Int32 → Int32 → MS → Option (MS)) (k32 : Int32 → Int32 → Int32 → MS → Option (MS)) (v1 : Int32) (v3 : Int32) (v4 : Int32) (S : MS) : Option (MS) :=
  (some (v4 + 1)).bind fun x1 => k32 v1 v3 x1 S
def tb_Mo_walk_76 (N : Nat) (k21 : Int32 → Int32 → MS → Option (MS)) (k32 : Int32 → Int32 → Int32 → MS → Option (MS)) (v1 : Int32) (v3 : Int32) (v4 : Int32) (S : MS) : Option (MS) :=
  (t_Mo_walkThird N v1 v3 v4 S).bind fun r2 => tb_Mo_walk_84 N k21 k32 v1 v3 v4 r2
def tb_Mo_walk_32 (N : Nat) (k21 : Int32 → Int32 → MS → Option (MS)) (k32 : Int32 → Int32 → Int32 → MS → Option (MS)) (v1 : Int32) (v3 : Int32) (v4 : Int32) (S : MS) : Option (MS) :=
  (some (ms_many S)).bind fun x1 => if x1 ≤ v4 then ((some (v3 + 1)).bind fun x2 => k21 v1 x2 S) else (if v1 = 0 then ((t_Mo_setRow N v3 v4 0 0 0 0 S).bind fun r4 => (t_Mo_visit N v1 r4).bind fun r6 => tb_Mo_walk_84 N k21 k32 v1 v3 v4 r6) else (if v1 = 6 then (tb_Mo_walk_76 N k21 k32 v1 v3 v4 S) else (if v4 ≤ v3 then (tb_Mo_walk_84 N k21 k32 v1 v3 v4 S) else (tb_Mo_walk_76 N k21 k32 v1 v3 v4 S))))
def tl_Mo_walk_32 (N : Nat) (k21 : Int32 → Int32 → MS → Option (MS)) : Nat → Int32 → Int32 → Int32 → MS → Option (MS)
  | 0, _, _, _, _ => none
  | n + 1, v1, v3, v4, S => tb_Mo_walk_32 N k21 (tl_Mo_walk_32 N k21 n) v1 v3 v4 S
def tb_Mo_walk_21 (N : Nat) (k21 : Int32 → Int32 → MS → Option (MS)) (v1 : Int32) (v3 : Int32) (S : MS) : Option (MS) :=
  (some (ms_many S)).bind fun x1 => if x1 ≤ v3 then (some S) else (tl_Mo_walk_32 N k21 N v1 v3 0 S)
def tl_Mo_walk_21 (N : Nat) : Nat → Int32 → Int32 → MS → Option (MS)
  | 0, _, _, _ => none
  | n + 1, v1, v3, S => tb_Mo_walk_21 N (tl_Mo_walk_21 N n) v1 v3 S
def t_Mo_walk (N : Nat) (a1 : Int32) (a2 : Int32) (S0 : MS) : Option (MS) :=
  (t_Mo_findSame N S0).bind fun r2 => (some (ms_set_seen r2 0)).bind fun S3 => (some (ms_set_wanted S3 a2)).bind fun S4 => (tz 0).bind fun z5 => (some (ms_set_isFound S4 z5)).bind fun S5 => tl_Mo_walk_21 N N a1 0 S5
set_option maxHeartbeats 4000000 in
theorem u_Mo_walk {K : Nat → ClassId} {N : Nat} {a1 : Int32} {a2 : Int32} {h0 : fh_H} {S0 : MS} {res : MS} {L : Nat → Nat → Nat} {hb : fh_H} (hL : ms_I L) (ht : t_Mo_walk N a1 a2 S0 = some res) (hC : ms_W K L hb h0 S0) : RO (fun z => ms_W K L hb z res) (f_Mo_walk K N (L 0 0) a1 a2 h0) := by
  have L21 : ∀ (n21 : Nat) (v1 : Int32) (v3 : Int32) (S : MS) (h : fh_H), ms_W K L hb h S → tl_Mo_walk_21 N n21 v1 v3 S = some res → RO (fun z => ms_W K L hb z res) (l_Mo_walk_21 K N (L 0 0) n21 v1 v3 h) := by
    intro n21
    induction n21 with
    | zero =>
      intro v1 v3 S h hC ht
      exact fh_no ht
    | succ n21 ih21 =>
      have L32 : ∀ (n32 : Nat) (v1 : Int32) (v3 : Int32) (v4 : Int32) (S : MS) (h : fh_H), ms_W K L hb h S → tl_Mo_walk_32 N (tl_Mo_walk_21 N n21) n32 v1 v3 v4 S = some res → RO (fun z => ms_W K L hb z res) (l_Mo_walk_32 K N (l_Mo_walk_21 K N (L 0 0) n21) (L 0 0) n32 v1 v3 v4 h) := by
        intro n32
        induction n32 with
        | zero =>
          intro v1 v3 v4 S h hC ht
          exact fh_no ht
        | succ n32 ih32 =>
          have B84 : ∀ (v1 : Int32) (v3 : Int32) (v4 : Int32) (S : MS) (h : fh_H), ms_W K L hb h S → tb_Mo_walk_84 N (tl_Mo_walk_21 N n21) (tl_Mo_walk_32 N (tl_Mo_walk_21 N n21) n32) v1 v3 v4 S = some res → RO (fun z => ms_W K L hb z res) (b_Mo_walk_84 K N (l_Mo_walk_21 K N (L 0 0) n21) (l_Mo_walk_32 K N (l_Mo_walk_21 K N (L 0 0) n21) (L 0 0) n32) (L 0 0) v1 v3 v4 h) := by
            intro v1 v3 v4 S h hC ht
            unfold tb_Mo_walk_84 at ht
            unfold b_Mo_walk_84
            obtain ⟨x1, e_x1, ht⟩ := fh_b ht
            refine ro_b e_x1 ?_
            exact ih32 v1 v3 x1 S _ hC ht
          have B76 : ∀ (v1 : Int32) (v3 : Int32) (v4 : Int32) (S : MS) (h : fh_H), ms_W K L hb h S → tb_Mo_walk_76 N (tl_Mo_walk_21 N n21) (tl_Mo_walk_32 N (tl_Mo_walk_21 N n21) n32) v1 v3 v4 S = some res → RO (fun z => ms_W K L hb z res) (b_Mo_walk_76 K N (l_Mo_walk_21 K N (L 0 0) n21) (l_Mo_walk_32 K N (l_Mo_walk_21 K N (L 0 0) n21) (L 0 0) n32) (L 0 0) v1 v3 v4 h) := by
            intro v1 v3 v4 S h hC ht
            unfold tb_Mo_walk_76 at ht
            unfold b_Mo_walk_76
            refine ro_b (oi_o (hC.1 0 0 (by decide))) ?_
            obtain ⟨r2, e_r2, ht⟩ := fh_b ht
            refine ro_c (u_Mo_walkThird hL e_r2 hC) (fun h hC => ?_)
            exact B84 v1 v3 v4 r2 _ hC ht
          intro v1 v3 v4 S h hC ht
          have ht : tb_Mo_walk_32 N (tl_Mo_walk_21 N n21) (tl_Mo_walk_32 N (tl_Mo_walk_21 N n21) n32) v1 v3 v4 S = some res := ht
          show RO _ (b_Mo_walk_32 K N (l_Mo_walk_21 K N (L 0 0) n21) (l_Mo_walk_32 K N (l_Mo_walk_21 K N (L 0 0) n21) (L 0 0) n32) (L 0 0) v1 v3 v4 h)
          unfold tb_Mo_walk_32 at ht
          unfold b_Mo_walk_32
          obtain ⟨x1, e_x1, ht⟩ := fh_b ht
          refine ro_b ((oi_i (hC.1 0 0 (by decide)) rfl).trans e_x1) ?_
          by_cases c4 : x1 ≤ v4
          · replace ht := fh_t c4 ht
            refine ro_t c4 ?_
            obtain ⟨x2, e_x2, ht⟩ := fh_b ht
            refine ro_b e_x2 ?_
            exact ih21 v1 x2 S _ hC ht
          · replace ht := fh_f c4 ht
            refine ro_f c4 ?_
            by_cases c3 : v1 = 0
            · replace ht := fh_t c3 ht
              refine ro_t c3 ?_
              refine ro_b (oi_o (hC.1 0 0 (by decide))) ?_
              obtain ⟨r4, e_r4, ht⟩ := fh_b ht
              refine ro_c (u_Mo_setRow hL e_r4 hC) (fun h hC => ?_)
              refine ro_b (oi_o (hC.1 0 0 (by decide))) ?_
              obtain ⟨r6, e_r6, ht⟩ := fh_b ht
              refine ro_c (u_Mo_visit hL e_r6 hC) (fun h hC => ?_)
              exact B84 v1 v3 v4 r6 _ hC ht
            · replace ht := fh_f c3 ht
              refine ro_f c3 ?_
              by_cases c2 : v1 = 6
              · replace ht := fh_t c2 ht
                refine ro_t c2 ?_
                exact B76 v1 v3 v4 S _ hC ht
              · replace ht := fh_f c2 ht
                refine ro_f c2 ?_
                by_cases c1 : v4 ≤ v3
                · replace ht := fh_t c1 ht
                  refine ro_t c1 ?_
                  exact B84 v1 v3 v4 S _ hC ht
                · replace ht := fh_f c1 ht
                  refine ro_f c1 ?_
                  exact B76 v1 v3 v4 S _ hC ht
      intro v1 v3 S h hC ht
      have ht : tb_Mo_walk_21 N (tl_Mo_walk_21 N n21) v1 v3 S = some res := ht
      show RO _ (b_Mo_walk_21 K N (l_Mo_walk_21 K N (L 0 0) n21) (L 0 0) v1 v3 h)
      unfold tb_Mo_walk_21 at ht
      unfold b_Mo_walk_21
      obtain ⟨x1, e_x1, ht⟩ := fh_b ht
      refine ro_b ((oi_i (hC.1 0 0 (by decide)) rfl).trans e_x1) ?_
      by_cases c1 : x1 ≤ v3
      · replace ht := fh_t c1 ht
        refine ro_t c1 ?_
        obtain rfl := Option.some.inj ht
        exact ro_s hC
      · replace ht := fh_f c1 ht
        refine ro_f c1 ?_
        exact L32 N v1 v3 0 S _ hC ht
  unfold t_Mo_walk at ht
  unfold f_Mo_walk
  refine ro_b (oi_o (hC.1 0 0 (by decide))) ?_
  obtain ⟨r2, e_r2, ht⟩ := fh_b ht
  refine ro_c (u_Mo_findSame hL e_r2 hC) (fun h hC => ?_)
  obtain ⟨S3, e_S3, ht⟩ := fh_b ht
  refine ro_c (G1 := (fun z => ms_W K L hb z S3)) ⟨_, oi_p (hC.1 0 0 (by decide)) (Nat.le_of_ble_eq_true rfl), by rw [← Option.some.inj e_S3]; exact ms_w_seen hL hC rfl⟩ (fun h hC => ?_)
  obtain ⟨S4, e_S4, ht⟩ := fh_b ht
  refine ro_c (G1 := (fun z => ms_W K L hb z S4)) ⟨_, oi_p (hC.1 0 0 (by decide)) (Nat.le_of_ble_eq_true rfl), by rw [← Option.some.inj e_S4]; exact ms_w_wanted hL hC rfl⟩ (fun h hC => ?_)
  obtain ⟨z5, e_z5, ht⟩ := fh_b ht
  obtain ⟨hz_z5, ez_z5⟩ := tz_s e_z5
  obtain ⟨S5, e_S5, ht⟩ := fh_b ht
  refine ro_c (G1 := (fun z => ms_W K L hb z S5)) ⟨_, oi_z (hC.1 0 0 (by decide)) (Nat.le_of_ble_eq_true rfl) hz_z5, by rw [← Option.some.inj e_S5, ← ez_z5]; exact ms_w_isFound hL hC rfl⟩ (fun h hC => ?_)
  exact L21 N a1 0 S5 _ hC ht
def t_Mo_facts (N : Nat) (a1 : Int32) (S0 : MS) : Option (Int32 × MS) :=
  (t_Mo_isIn N a1 0 8).bind fun r1 => if r1 = 0 then (some ((-2), S0)) else ((t_Mo_walk N a1 (-1) S0).bind fun r3 => (some (ms_seen r3)).bind fun x4 => some (x4, r3))
set_option maxHeartbeats 4000000 in
theorem u_Mo_facts {K : Nat → ClassId} {N : Nat} {a1 : Int32} {h0 : fh_H} {S0 : MS} {res : Int32 × MS} {L : Nat → Nat → Nat} {hb : fh_H} (hL : ms_I L) (ht : t_Mo_facts N a1 S0 = some res) (hC : ms_W K L hb h0 S0) : RO (fun z => z.1 = res.1 ∧ ms_W K L hb z.2 res.2) (f_Mo_facts K N (L 0 0) a1 h0) := by
  unfold t_Mo_facts at ht
  unfold f_Mo_facts
  obtain ⟨r1, e_r1, ht⟩ := fh_b ht
  refine ro_c (u_Mo_isIn e_r1) (fun z hz => ?_)
  subst hz
  by_cases c1 : r1 = 0
  · replace ht := fh_t c1 ht
    refine ro_t c1 ?_
    obtain rfl := Option.some.inj ht
    exact ro_s ⟨rfl, hC⟩
  · replace ht := fh_f c1 ht
    refine ro_f c1 ?_
    refine ro_b (oi_o (hC.1 0 0 (by decide))) ?_
    obtain ⟨r3, e_r3, ht⟩ := fh_b ht
    refine ro_c (u_Mo_walk hL e_r3 hC) (fun h hC => ?_)
    obtain ⟨x4, e_x4, ht⟩ := fh_b ht
    refine ro_b ((oi_i (hC.1 0 0 (by decide)) rfl).trans e_x4) ?_
    obtain rfl := Option.some.inj ht
    exact ro_s ⟨rfl, hC⟩
def tb_Mo_fact_34 (N : Nat) (v3 : Int32) (w0 : Int32) (S : MS) : Option (Int32 × MS) :=
  (some (ms_isFound S)).bind fun x1 => if x1 = 0 then (some ((-1), S)) else ((t_Mo_isIn N v3 0 (w0 - 1)).bind fun r2 => if r2 = 0 then (some ((-1), S)) else ((ta 6 (ms_found S) v3).bind fun x4 => some (x4, S)))
def t_Mo_fact (N : Nat) (a1 : Int32) (a2 : Int32) (a3 : Int32) (S0 : MS) : Option (Int32 × MS) :=
  (t_Mo_isIn N a1 0 8).bind fun r1 => if r1 = 0 then (some ((-2), S0)) else ((t_Mo_walk N a1 a2 S0).bind fun r3 => if a1 = 8 then (tb_Mo_fact_34 N a3 6 r3) else ((t_Mo_size N a1).bind fun r4 => tb_Mo_fact_34 N a3 r4 r3))
set_option maxHeartbeats 4000000 in
theorem u_Mo_fact {K : Nat → ClassId} {N : Nat} {a1 : Int32} {a2 : Int32} {a3 : Int32} {h0 : fh_H} {S0 : MS} {res : Int32 × MS} {L : Nat → Nat → Nat} {hb : fh_H} (hL : ms_I L) (ht : t_Mo_fact N a1 a2 a3 S0 = some res) (hC : ms_W K L hb h0 S0) : RO (fun z => z.1 = res.1 ∧ ms_W K L hb z.2 res.2) (f_Mo_fact K N (L 0 0) a1 a2 a3 h0) := by
  have B34 : ∀ (v3 : Int32) (w0 : Int32) (S : MS) (h : fh_H), ms_W K L hb h S → tb_Mo_fact_34 N v3 w0 S = some res → RO (fun z => z.1 = res.1 ∧ ms_W K L hb z.2 res.2) (b_Mo_fact_34 K N (L 0 0) v3 w0 h) := by
    intro v3 w0 S h hC ht
    unfold tb_Mo_fact_34 at ht
    unfold b_Mo_fact_34
    obtain ⟨x1, e_x1, ht⟩ := fh_b ht
    refine ro_b ((oi_i (hC.1 0 0 (by decide)) rfl).trans e_x1) ?_
    by_cases c2 : x1 = 0
    · replace ht := fh_t c2 ht
      refine ro_t c2 ?_
      obtain rfl := Option.some.inj ht
      exact ro_s ⟨rfl, hC⟩
    · replace ht := fh_f c2 ht
      refine ro_f c2 ?_
      obtain ⟨r2, e_r2, ht⟩ := fh_b ht
      refine ro_c (u_Mo_isIn e_r2) (fun z hz => ?_)
      subst hz
      by_cases c1 : r2 = 0
      · replace ht := fh_t c1 ht
        refine ro_t c1 ?_
        obtain rfl := Option.some.inj ht
        exact ro_s ⟨rfl, hC⟩
      · replace ht := fh_f c1 ht
        refine ro_f c1 ?_
        refine ro_b (oi_a (hC.1 0 0 (by decide)) rfl) ?_
        obtain ⟨x4, e_x4, ht⟩ := fh_b ht
        refine ro_b ((ai_i (hC.1 8 0 (by decide))).trans e_x4) ?_
        obtain rfl := Option.some.inj ht
        exact ro_s ⟨rfl, hC⟩
  unfold t_Mo_fact at ht
  unfold f_Mo_fact
  obtain ⟨r1, e_r1, ht⟩ := fh_b ht
  refine ro_c (u_Mo_isIn e_r1) (fun z hz => ?_)
  subst hz
  by_cases c2 : r1 = 0
  · replace ht := fh_t c2 ht
    refine ro_t c2 ?_
    obtain rfl := Option.some.inj ht
    exact ro_s ⟨rfl, hC⟩
  · replace ht := fh_f c2 ht
    refine ro_f c2 ?_
    refine ro_b (oi_o (hC.1 0 0 (by decide))) ?_
    obtain ⟨r3, e_r3, ht⟩ := fh_b ht
    refine ro_c (u_Mo_walk hL e_r3 hC) (fun h hC => ?_)
    by_cases c1 : a1 = 8
    · replace ht := fh_t c1 ht
      refine ro_t c1 ?_
      exact B34 a3 6 r3 _ hC ht
    · replace ht := fh_f c1 ht
      refine ro_f c1 ?_
      obtain ⟨r4, e_r4, ht⟩ := fh_b ht
      refine ro_c (u_Mo_size e_r4) (fun z hz => ?_)
      subst hz
      exact B34 a3 r4 r3 _ hC ht
def t_Mo_needs3 (N : Nat) (a1 : Int32) (a2 : Int32) (a3 : Int32) (S0 : MS) : Option (Int32 × MS) :=
  (t_Mo_isIn N a1 0 8).bind fun r1 => if r1 = 0 then (some ((-2), S0)) else ((t_Mo_isPoint N a3 S0).bind fun r3 => if r3 = 0 then (some ((-2), S0)) else ((t_Mo_walk N a1 a2 S0).bind fun r5 => (some (ms_isFound r5)).bind fun x6 => if x6 = 0 then (some ((-1), r5)) else ((ta 10 (ms_kindOf r5) a3).bind fun x8 => (twi 10 (ms_kindOf r5) a3 0).bind fun F10 => (some (ms_set_kindOf r5 F10)).bind fun S10 => (t_Mo_drawAll N S10).bind fun r12 => (ta 6 (ms_found r12) 0).bind fun x14 => (ta 6 (ms_found r12) 1).bind fun x16 => (ta 6 (ms_found r12) 2).bind fun x18 => (ta 6 (ms_found r12) 3).bind fun x20 => (ta 6 (ms_found r12) 4).bind fun x22 => (ta 6 (ms_found r12) 5).bind fun x24 => (t_Mo_setRow N x14 x16 x18 x20 x22 x24 r12).bind fun r26 => (t_Mo_isHeld N a1 r26).bind fun r28 => (twi 10 (ms_kindOf r28.2) a3 x8).bind fun F30 => (some (ms_set_kindOf r28.2 F30)).bind fun S30 => (t_Mo_drawAll N S30).bind fun r32 => if r28.1 = 0 then (some (1, r32)) else (some (0, r32)))))
set_option maxHeartbeats 4000000 in
theorem u_Mo_needs3 {K : Nat → ClassId} {N : Nat} {a1 : Int32} {a2 : Int32} {a3 : Int32} {h0 : fh_H} {S0 : MS} {res : Int32 × MS} {L : Nat → Nat → Nat} {hb : fh_H} (hL : ms_I L) (ht : t_Mo_needs3 N a1 a2 a3 S0 = some res) (hC : ms_W K L hb h0 S0) : RO (fun z => z.1 = res.1 ∧ ms_W K L hb z.2 res.2) (f_Mo_needs3 K N (L 0 0) a1 a2 a3 h0) := by
  unfold t_Mo_needs3 at ht
  unfold f_Mo_needs3
  obtain ⟨r1, e_r1, ht⟩ := fh_b ht
  refine ro_c (u_Mo_isIn e_r1) (fun z hz => ?_)
  subst hz
  by_cases c4 : r1 = 0
  · replace ht := fh_t c4 ht
    refine ro_t c4 ?_
    obtain rfl := Option.some.inj ht
    exact ro_s ⟨rfl, hC⟩
  · replace ht := fh_f c4 ht
    refine ro_f c4 ?_
    refine ro_b (oi_o (hC.1 0 0 (by decide))) ?_
    obtain ⟨r3, e_r3, ht⟩ := fh_b ht
    refine ro_c (u_Mo_isPoint hL e_r3 hC) (fun z hz => ?_)
    subst hz
    by_cases c3 : r3 = 0
    · replace ht := fh_t c3 ht
      refine ro_t c3 ?_
      obtain rfl := Option.some.inj ht
      exact ro_s ⟨rfl, hC⟩
    · replace ht := fh_f c3 ht
      refine ro_f c3 ?_
      refine ro_b (oi_o (hC.1 0 0 (by decide))) ?_
      obtain ⟨r5, e_r5, ht⟩ := fh_b ht
      refine ro_c (u_Mo_walk hL e_r5 hC) (fun h hC => ?_)
      obtain ⟨x6, e_x6, ht⟩ := fh_b ht
      refine ro_b ((oi_i (hC.1 0 0 (by decide)) rfl).trans e_x6) ?_
      by_cases c2 : x6 = 0
      · replace ht := fh_t c2 ht
        refine ro_t c2 ?_
        obtain rfl := Option.some.inj ht
        exact ro_s ⟨rfl, hC⟩
      · replace ht := fh_f c2 ht
        refine ro_f c2 ?_
        refine ro_b (oi_a (hC.1 0 0 (by decide)) rfl) ?_
        obtain ⟨x8, e_x8, ht⟩ := fh_b ht
        refine ro_b ((ai_i (hC.1 1 0 (by decide))).trans e_x8) ?_
        refine ro_b (oi_a (hC.1 0 0 (by decide)) rfl) ?_
        obtain ⟨F10, e_F10, ht⟩ := fh_b ht
        obtain ⟨S10, e_S10, ht⟩ := fh_b ht
        refine ro_c (G1 := (fun z => ms_W K L hb z S10)) ⟨_, aw_i (hC.1 1 0 (by decide)) e_F10, by rw [← Option.some.inj e_S10]; exact ms_w_kindOf hL hC ⟩ (fun h hC => ?_)
        refine ro_b (oi_o (hC.1 0 0 (by decide))) ?_
        obtain ⟨r12, e_r12, ht⟩ := fh_b ht
        refine ro_c (u_Mo_drawAll hL e_r12 hC) (fun h hC => ?_)
        refine ro_b (oi_a (hC.1 0 0 (by decide)) rfl) ?_
        obtain ⟨x14, e_x14, ht⟩ := fh_b ht
        refine ro_b ((ai_i (hC.1 8 0 (by decide))).trans e_x14) ?_
        refine ro_b (oi_a (hC.1 0 0 (by decide)) rfl) ?_
        obtain ⟨x16, e_x16, ht⟩ := fh_b ht
        refine ro_b ((ai_i (hC.1 8 0 (by decide))).trans e_x16) ?_
        refine ro_b (oi_a (hC.1 0 0 (by decide)) rfl) ?_
        obtain ⟨x18, e_x18, ht⟩ := fh_b ht
        refine ro_b ((ai_i (hC.1 8 0 (by decide))).trans e_x18) ?_
        refine ro_b (oi_a (hC.1 0 0 (by decide)) rfl) ?_
        obtain ⟨x20, e_x20, ht⟩ := fh_b ht
        refine ro_b ((ai_i (hC.1 8 0 (by decide))).trans e_x20) ?_
        refine ro_b (oi_a (hC.1 0 0 (by decide)) rfl) ?_
        obtain ⟨x22, e_x22, ht⟩ := fh_b ht
        refine ro_b ((ai_i (hC.1 8 0 (by decide))).trans e_x22) ?_
        refine ro_b (oi_a (hC.1 0 0 (by decide)) rfl) ?_
        obtain ⟨x24, e_x24, ht⟩ := fh_b ht
        refine ro_b ((ai_i (hC.1 8 0 (by decide))).trans e_x24) ?_
        refine ro_b (oi_o (hC.1 0 0 (by decide))) ?_
        obtain ⟨r26, e_r26, ht⟩ := fh_b ht
        refine ro_c (u_Mo_setRow hL e_r26 hC) (fun h hC => ?_)
        refine ro_b (oi_o (hC.1 0 0 (by decide))) ?_
        obtain ⟨r28, e_r28, ht⟩ := fh_b ht
        refine ro_c (u_Mo_isHeld hL e_r28 hC) (fun z hz => ?_)
        obtain ⟨z1, h⟩ := z
        obtain ⟨ez, hC⟩ := hz
        dsimp only at ez hC
        subst ez
        refine ro_b (oi_a (hC.1 0 0 (by decide)) rfl) ?_
        obtain ⟨F30, e_F30, ht⟩ := fh_b ht
        obtain ⟨S30, e_S30, ht⟩ := fh_b ht
        refine ro_c (G1 := (fun z => ms_W K L hb z S30)) ⟨_, aw_i (hC.1 1 0 (by decide)) e_F30, by rw [← Option.some.inj e_S30]; exact ms_w_kindOf hL hC ⟩ (fun h hC => ?_)
        refine ro_b (oi_o (hC.1 0 0 (by decide))) ?_
        obtain ⟨r32, e_r32, ht⟩ := fh_b ht
        refine ro_c (u_Mo_drawAll hL e_r32 hC) (fun h hC => ?_)
        by_cases c1 : r28.1 = 0
        · replace ht := fh_t c1 ht
          refine ro_t c1 ?_
          obtain rfl := Option.some.inj ht
          exact ro_s ⟨rfl, hC⟩
        · replace ht := fh_f c1 ht
          refine ro_f c1 ?_
          obtain rfl := Option.some.inj ht
          exact ro_s ⟨rfl, hC⟩
def tb_Mo_clearSets_6 (N : Nat) (k6 : Int32 → MS → Option (MS)) (v1 : Int32) (S : MS) : Option (MS) :=
  if 1024 ≤ v1 then (some S) else ((twz 1024 (ms_isSet S) v1 0).bind fun F2 => (some (ms_set_isSet S F2)).bind fun S2 => (some (v1 + 1)).bind fun x3 => k6 x3 S2)
def tl_Mo_clearSets_6 (N : Nat) : Nat → Int32 → MS → Option (MS)
  | 0, _, _ => none
  | n + 1, v1, S => tb_Mo_clearSets_6 N (tl_Mo_clearSets_6 N n) v1 S
def t_Mo_clearSets (N : Nat)  (S0 : MS) : Option (MS) :=
  (t_Mo_findSame N S0).bind fun r2 => tl_Mo_clearSets_6 N N 0 r2
set_option maxHeartbeats 4000000 in
theorem u_Mo_clearSets {K : Nat → ClassId} {N : Nat} {h0 : fh_H} {S0 : MS} {res : MS} {L : Nat → Nat → Nat} {hb : fh_H} (hL : ms_I L) (ht : t_Mo_clearSets N  S0 = some res) (hC : ms_W K L hb h0 S0) : RO (fun z => ms_W K L hb z res) (f_Mo_clearSets K N (L 0 0)  h0) := by
  have L6 : ∀ (n6 : Nat) (v1 : Int32) (S : MS) (h : fh_H), ms_W K L hb h S → tl_Mo_clearSets_6 N n6 v1 S = some res → RO (fun z => ms_W K L hb z res) (l_Mo_clearSets_6 K N (L 0 0) n6 v1 h) := by
    intro n6
    induction n6 with
    | zero =>
      intro v1 S h hC ht
      exact fh_no ht
    | succ n6 ih6 =>
      intro v1 S h hC ht
      have ht : tb_Mo_clearSets_6 N (tl_Mo_clearSets_6 N n6) v1 S = some res := ht
      show RO _ (b_Mo_clearSets_6 K N (l_Mo_clearSets_6 K N (L 0 0) n6) (L 0 0) v1 h)
      unfold tb_Mo_clearSets_6 at ht
      unfold b_Mo_clearSets_6
      by_cases c1 : 1024 ≤ v1
      · replace ht := fh_t c1 ht
        refine ro_t c1 ?_
        obtain rfl := Option.some.inj ht
        exact ro_s hC
      · replace ht := fh_f c1 ht
        refine ro_f c1 ?_
        refine ro_b (oi_a (hC.1 0 0 (by decide)) rfl) ?_
        obtain ⟨F2, e_F2, ht⟩ := fh_b ht
        obtain ⟨S2, e_S2, ht⟩ := fh_b ht
        refine ro_c (G1 := (fun z => ms_W K L hb z S2)) ⟨_, aw_z (hC.1 9 0 (by decide)) e_F2, by rw [← Option.some.inj e_S2]; exact ms_w_isSet hL hC ⟩ (fun h hC => ?_)
        obtain ⟨x3, e_x3, ht⟩ := fh_b ht
        refine ro_b e_x3 ?_
        exact ih6 x3 S2 _ hC ht
  unfold t_Mo_clearSets at ht
  unfold f_Mo_clearSets
  refine ro_b (oi_o (hC.1 0 0 (by decide))) ?_
  obtain ⟨r2, e_r2, ht⟩ := fh_b ht
  refine ro_c (u_Mo_findSame hL e_r2 hC) (fun h hC => ?_)
  exact L6 N 0 r2 _ hC ht
def tb_Mo_set_40 (N : Nat) (k7 : Int32 → Int32 → Int32 → Int32 → MS → Option (Int32)) (v1 : Int32) (v2 : Int32) (v3 : Int32) (v4 : Int32) (S : MS) : Option (Int32) :=
  (some (v4 + 1)).bind fun x1 => k7 v1 v2 v3 x1 S
def tb_Mo_set_36 (N : Nat) (k7 : Int32 → Int32 → Int32 → Int32 → MS → Option (Int32)) (v1 : Int32) (v2 : Int32) (v4 : Int32) (w0 : Int32) (S : MS) : Option (Int32) :=
  (some (v2 + 1)).bind fun x1 => tb_Mo_set_40 N k7 v1 x1 w0 v4 S
def tb_Mo_set_7 (N : Nat) (k7 : Int32 → Int32 → Int32 → Int32 → MS → Option (Int32)) (v1 : Int32) (v2 : Int32) (v3 : Int32) (v4 : Int32) (S : MS) : Option (Int32) :=
  if 1024 ≤ v4 then (some v3) else ((ta 1024 (ms_isSet S) v4).bind fun x2 => if x2 = 0 then (tb_Mo_set_40 N k7 v1 v2 v3 v4 S) else (if v2 = v1 then (tb_Mo_set_36 N k7 v1 v2 v4 v4 S) else (tb_Mo_set_36 N k7 v1 v2 v4 v3 S)))
def tl_Mo_set_7 (N : Nat) : Nat → Int32 → Int32 → Int32 → Int32 → MS → Option (Int32)
  | 0, _, _, _, _, _ => none
  | n + 1, v1, v2, v3, v4, S => tb_Mo_set_7 N (tl_Mo_set_7 N n) v1 v2 v3 v4 S
def t_Mo_set (N : Nat) (a1 : Int32) (S0 : MS) : Option (Int32) :=
  tl_Mo_set_7 N N a1 0 (-1) 0 S0
set_option maxHeartbeats 4000000 in
theorem u_Mo_set {K : Nat → ClassId} {N : Nat} {a1 : Int32} {h0 : fh_H} {S0 : MS} {res : Int32} {L : Nat → Nat → Nat} {hb : fh_H} (hL : ms_I L) (ht : t_Mo_set N a1 S0 = some res) (hC : ms_W K L hb h0 S0) : RO (fun z => (res, h0) = z) (f_Mo_set K N (L 0 0) a1 h0) := by
  have L7 : ∀ (n7 : Nat) (v1 : Int32) (v2 : Int32) (v3 : Int32) (v4 : Int32), tl_Mo_set_7 N n7 v1 v2 v3 v4 S0 = some res → RO (fun z => (res, h0) = z) (l_Mo_set_7 K N (L 0 0) n7 v1 v2 v3 v4 h0) := by
    intro n7
    induction n7 with
    | zero =>
      intro v1 v2 v3 v4 ht
      exact fh_no ht
    | succ n7 ih7 =>
      have B40 : ∀ (v1 : Int32) (v2 : Int32) (v3 : Int32) (v4 : Int32), tb_Mo_set_40 N (tl_Mo_set_7 N n7) v1 v2 v3 v4 S0 = some res → RO (fun z => (res, h0) = z) (b_Mo_set_40 K N (l_Mo_set_7 K N (L 0 0) n7) (L 0 0) v1 v2 v3 v4 h0) := by
        intro v1 v2 v3 v4 ht
        unfold tb_Mo_set_40 at ht
        unfold b_Mo_set_40
        obtain ⟨x1, e_x1, ht⟩ := fh_b ht
        refine ro_b e_x1 ?_
        exact ih7 v1 v2 v3 x1 ht
      have B36 : ∀ (v1 : Int32) (v2 : Int32) (v4 : Int32) (w0 : Int32), tb_Mo_set_36 N (tl_Mo_set_7 N n7) v1 v2 v4 w0 S0 = some res → RO (fun z => (res, h0) = z) (b_Mo_set_36 K N (l_Mo_set_7 K N (L 0 0) n7) (L 0 0) v1 v2 v4 w0 h0) := by
        intro v1 v2 v4 w0 ht
        unfold tb_Mo_set_36 at ht
        unfold b_Mo_set_36
        obtain ⟨x1, e_x1, ht⟩ := fh_b ht
        refine ro_b e_x1 ?_
        exact B40 v1 x1 w0 v4 ht
      intro v1 v2 v3 v4 ht
      have ht : tb_Mo_set_7 N (tl_Mo_set_7 N n7) v1 v2 v3 v4 S0 = some res := ht
      show RO _ (b_Mo_set_7 K N (l_Mo_set_7 K N (L 0 0) n7) (L 0 0) v1 v2 v3 v4 h0)
      unfold tb_Mo_set_7 at ht
      unfold b_Mo_set_7
      by_cases c3 : 1024 ≤ v4
      · replace ht := fh_t c3 ht
        refine ro_t c3 ?_
        obtain rfl := Option.some.inj ht
        exact ro_s rfl
      · replace ht := fh_f c3 ht
        refine ro_f c3 ?_
        refine ro_b (oi_a (hC.1 0 0 (by decide)) rfl) ?_
        obtain ⟨x2, e_x2, ht⟩ := fh_b ht
        refine ro_b ((ai_i (hC.1 9 0 (by decide))).trans e_x2) ?_
        by_cases c2 : x2 = 0
        · replace ht := fh_t c2 ht
          refine ro_t c2 ?_
          exact B40 v1 v2 v3 v4 ht
        · replace ht := fh_f c2 ht
          refine ro_f c2 ?_
          by_cases c1 : v2 = v1
          · replace ht := fh_t c1 ht
            refine ro_t c1 ?_
            exact B36 v1 v2 v4 v4 ht
          · replace ht := fh_f c1 ht
            refine ro_f c1 ?_
            exact B36 v1 v2 v4 v3 ht
  unfold t_Mo_set at ht
  unfold f_Mo_set
  exact L7 N a1 0 (-1) 0 ht
